set_option maxHeartbeats 4000000 in
set_option maxRecDepth 100000 in
theorem tX6_night (l : Launch) (dC : Nat → ClassId) (dI : Nat → Nat → Nat) (sz : Nat) (oK : Nat) (oR : Nat) (oC : Nat) (oS : Nat) (oT : Nat) (rK_images : Nat) (iK_imageCount : Int32) (oA : Nat) (oH : Nat) (oL : Nat) (iK_refusal : Int32) (iK_latestFault : Int32) (iK_latestPlace : Int32) (iC_nodes : Int32) (iC_words : Int32) (iC_chances : Int32) (iC_unsures : Int32) (iC_slips : Int32) (iC_throneNode : Int32) (iC_saidWorth : Int32) (iC_unit : Int32) (rC_kind : Nat) (fC_kind : Nat → Int32) (kC_kind : ClassId) (rC_parts : Nat) (fC_parts : Nat → Int32) (kC_parts : ClassId) (rC_partNodes : Nat) (fC_partNodes : Nat → Int32) (kC_partNodes : ClassId) (rC_weights : Nat) (fC_weights : Nat → Int32) (kC_weights : ClassId) (rC_weightSums : Nat) (fC_weightSums : Nat → Int32) (kC_weightSums : ClassId) (rC_toldWorths : Nat) (rC_steps : Nat) (rC_below : Nat) (rC_above : Nat) (rC_unsureWords : Nat) (rC_unsureWorths : Nat) (rS_worths : Nat) (fS_worths : Nat → Int32) (kS_worths : ClassId) (rS_order : Nat) (rS_left : Nat) (rL_values : Nat) (fL_values : Nat → Int32) (kL_values : ClassId) (rL_supposed : Nat) (p0 : Int32) (p1 : Int32) (b_iK_imageCount : 0 ≤ iK_imageCount.toInt ∧ iK_imageCount.toInt ≤ 3) (b_iC_nodes : 0 ≤ iC_nodes.toInt ∧ iC_nodes.toInt ≤ 18) (b_iC_unsures : 0 ≤ iC_unsures.toInt ∧ iC_unsures.toInt ≤ 4) (b_iC_throneNode : (-1) ≤ iC_throneNode.toInt ∧ iC_throneNode.toInt ≤ 17) (a_fC_parts : ∀ j : Nat, j < 18 → 0 ≤ (fC_parts j).toInt ∧ (fC_parts j).toInt ≤ 4) (a_fC_partNodes : ∀ j : Nat, j < 72 → 0 ≤ (fC_partNodes j).toInt ∧ (fC_partNodes j).toInt ≤ 17) (hthr : iC_nodes.toInt ≤ 0 ∨ 0 ≤ iC_throneNode.toInt) : Met l yX6_night (Cond.code yX6_night cX6_night 4 (some .long) :: wG) ({ frames := 3, cells := 0, slots := 0, locals := 70 }) (va_Pc [.ref oK, .int p0, .int p1] (Pw dC dI sz [(oc6 oK oR oC oS oT rK_images iK_imageCount oA oH oL iK_refusal iK_latestFault iK_latestPlace), (oc1 oC iC_nodes iC_words iC_chances iC_unsures iC_slips iC_throneNode iC_saidWorth iC_unit rC_kind rC_parts rC_partNodes rC_weights rC_weightSums rC_toldWorths rC_steps rC_below rC_above rC_unsureWords rC_unsureWorths), (arI rC_kind kC_kind 18 fC_kind), (arI rC_parts kC_parts 18 fC_parts), (arI rC_partNodes kC_partNodes 72 fC_partNodes), (arI rC_weights kC_weights 72 fC_weights), (arI rC_weightSums kC_weightSums 18 fC_weightSums), (oc5 oS rS_worths rS_order rS_left), (arI rS_worths kS_worths 18 fS_worths), (oc4 oL rL_values rL_supposed), (arI rL_values kL_values 18 fL_values)] [(kC_kind, .int), (kC_parts, .int), (kC_partNodes, .int), (kC_weights, .int), (kC_weightSums, .int), (kS_worths, .int), (kL_values, .int)])) (va_Ql (fun (r : Int64) (u : Nat) => (True ∧ True) ∧ r = Int64.ofNat u) (fun (u : Nat) (t : State) => ∃ (niK_refusal : Int32) (nfL_values : Nat → Int32), (PX6_night iC_nodes iC_throneNode iC_unit fC_kind fC_parts fC_partNodes fC_weights fC_weightSums fS_worths fL_values p0 p1 = (Int64.ofNat u, niK_refusal, nfL_values)) ∧ Bw dC dI (va_A [(oc6 oK oR oC oS oT rK_images iK_imageCount oA oH oL iK_refusal iK_latestFault iK_latestPlace), (oc1 oC iC_nodes iC_words iC_chances iC_unsures iC_slips iC_throneNode iC_saidWorth iC_unit rC_kind rC_parts rC_partNodes rC_weights rC_weightSums rC_toldWorths rC_steps rC_below rC_above rC_unsureWords rC_unsureWorths), (arI rC_kind kC_kind 18 fC_kind), (arI rC_parts kC_parts 18 fC_parts), (arI rC_partNodes kC_partNodes 72 fC_partNodes), (arI rC_weights kC_weights 72 fC_weights), (arI rC_weightSums kC_weightSums 18 fC_weightSums), (oc5 oS rS_worths rS_order rS_left), (arI rS_worths kS_worths 18 fS_worths), (oc4 oL rL_values rL_supposed), (arI rL_values kL_values 18 fL_values)] sz) [(oc6 oK oR oC oS oT rK_images iK_imageCount oA oH oL niK_refusal iK_latestFault iK_latestPlace), (oc1 oC iC_nodes iC_words iC_chances iC_unsures iC_slips iC_throneNode iC_saidWorth iC_unit rC_kind rC_parts rC_partNodes rC_weights rC_weightSums rC_toldWorths rC_steps rC_below rC_above rC_unsureWords rC_unsureWorths), (arI rC_kind kC_kind 18 fC_kind), (arI rC_parts kC_parts 18 fC_parts), (arI rC_partNodes kC_partNodes 72 fC_partNodes), (arI rC_weights kC_weights 72 fC_weights), (arI rC_weightSums kC_weightSums 18 fC_weightSums), (oc5 oS rS_worths rS_order rS_left), (arI rS_worths kS_worths 18 fS_worths), (oc4 oL rL_values rL_supposed), (arI rL_values kL_values 18 nfL_values)] [(kC_kind, .int), (kC_parts, .int), (kC_partNodes, .int), (kC_weights, .int), (kC_weightSums, .int), (kS_worths, .int), (kL_values, .int)] t) (va_A [(oc6 oK oR oC oS oT rK_images iK_imageCount oA oH oL iK_refusal iK_latestFault iK_latestPlace), (oc1 oC iC_nodes iC_words iC_chances iC_unsures iC_slips iC_throneNode iC_saidWorth iC_unit rC_kind rC_parts rC_partNodes rC_weights rC_weightSums rC_toldWorths rC_steps rC_below rC_above rC_unsureWords rC_unsureWorths), (arI rC_kind kC_kind 18 fC_kind), (arI rC_parts kC_parts 18 fC_parts), (arI rC_partNodes kC_partNodes 72 fC_partNodes), (arI rC_weights kC_weights 72 fC_weights), (arI rC_weightSums kC_weightSums 18 fC_weightSums), (oc5 oS rS_worths rS_order rS_left), (arI rS_worths kS_worths 18 fS_worths), (oc4 oL rL_values rL_supposed), (arI rL_values kL_values 18 fL_values)] sz)) 0 0 (va_A [(oc6 oK oR oC oS oT rK_images iK_imageCount oA oH oL iK_refusal iK_latestFault iK_latestPlace), (oc1 oC iC_nodes iC_words iC_chances iC_unsures iC_slips iC_throneNode iC_saidWorth iC_unit rC_kind rC_parts rC_partNodes rC_weights rC_weightSums rC_toldWorths rC_steps rC_below rC_above rC_unsureWords rC_unsureWorths), (arI rC_kind kC_kind 18 fC_kind), (arI rC_parts kC_parts 18 fC_parts), (arI rC_partNodes kC_partNodes 72 fC_partNodes), (arI rC_weights kC_weights 72 fC_weights), (arI rC_weightSums kC_weightSums 18 fC_weightSums), (oc5 oS rS_worths rS_order rS_left), (arI rS_worths kS_worths 18 fS_worths), (oc4 oL rL_values rL_supposed), (arI rL_values kL_values 18 fL_values)] sz) := by
  refine Met.ofW (cc := cX6_night) (maxL := 4) (ret := (some .long)) pnX6 rfl ?_
  intro p e s m args below meth c s₁ B hml hv
  obtain ⟨rfl, hsz, hP, hK, hD0, hE⟩ := hv
  have hx := B.exec
  have hb := B.bytes
  have hr := B.returns
  have hts : ∀ w ∈ wG, w.before ([.ref oK, .int p0, .int p1] : List Value).toArray s = true := fun w h => atoms_spec (ws := Cond.code yX6_night cX6_night 4 (some .long) :: wG) B.pre w (List.mem_cons_of_mem _ h)
  have hown : s.vm.findClass RX6 = some m.cls := own_of B.named rfl
  have hlocks := B.notSynchronized
  subst hsz
  have hD := hD0.self (sz := s.heap.size)
  generalize hAe : va_A [(oc6 oK oR oC oS oT rK_images iK_imageCount oA oH oL iK_refusal iK_latestFault iK_latestPlace), (oc1 oC iC_nodes iC_words iC_chances iC_unsures iC_slips iC_throneNode iC_saidWorth iC_unit rC_kind rC_parts rC_partNodes rC_weights rC_weightSums rC_toldWorths rC_steps rC_below rC_above rC_unsureWords rC_unsureWorths), (arI rC_kind kC_kind 18 fC_kind), (arI rC_parts kC_parts 18 fC_parts), (arI rC_partNodes kC_partNodes 72 fC_partNodes), (arI rC_weights kC_weights 72 fC_weights), (arI rC_weightSums kC_weightSums 18 fC_weightSums), (oc5 oS rS_worths rS_order rS_left), (arI rS_worths kS_worths 18 fS_worths), (oc4 oL rL_values rL_supposed), (arI rL_values kL_values 18 fL_values)] s.heap.size = A at hD hE ⊢
  have hA : ∀ q : Nat, s.heap.size ≤ q → A q := fun q h => by rw [← hAe]; exact Or.inr h
  have hS : va_S A s.heap s.heap [] := va_S.rf
  have hl := lv_entry ([.ref oK, .int p0, .int p1]) (n := 4) (Nat.le_of_ble_eq_true rfl)
  rw [lg_entry_eq]
  generalize (lg_sl ([.ref oK, .int p0, .int p1]) ++ List.replicate (4 - (lg_sl ([.ref oK, .int p0, .int p1])).length) Slot.unset).toArray = ls at hl ⊢
  have hl : lv_has ls 4 [(0, .ref oK), (1, .int p0), (2, .int p1)] := hl
  have hG := PX6_night_eq iC_nodes iC_throneNode iC_unit fC_kind fC_parts fC_partNodes fC_weights fC_weightSums fS_worths fL_values p0 p1
  have rg_p0 := fb_rng p0
  have rg_p1 := fb_rng p1
  refine lv_aload_n hx hb dX6_night_0 rfl (lv_at hl 0 rfl) ?_
  refine lv_iload_n hx hb dX6_night_1 rfl (lv_at hl 1 rfl) ?_
  refine lv_iconst (v := 0) hx hb dX6_night_2 (by decide) ?_
  refine lv_bipush (v := 9) hx hb dX6_night_3 (by decide) ?_
  have hMs := ml_of hD [true, true, false, false, false, false, false, false, false, false, false] (wc := [(oc6 oK oR oC oS oT rK_images iK_imageCount oA oH oL iK_refusal iK_latestFault iK_latestPlace), (oc1 oC iC_nodes iC_words iC_chances iC_unsures iC_slips iC_throneNode iC_saidWorth iC_unit rC_kind rC_parts rC_partNodes rC_weights rC_weightSums rC_toldWorths rC_steps rC_below rC_above rC_unsureWords rC_unsureWorths)]) rfl
  have hFc := va_freeM hD hS hA _ hMs
  refine va_calli (va_runV (As := [.int p0, .int 0, .int 9]) (rest := []) ⟨hx, hb, hml, hown, hts⟩ (tX6_lacksNumber l dC dI _ oK oR oC oS oT rK_images iK_imageCount oA oH oL iK_refusal iK_latestFault iK_latestPlace iC_nodes iC_words iC_chances iC_unsures iC_slips iC_throneNode iC_saidWorth iC_unit rC_kind rC_parts rC_partNodes rC_weights rC_weightSums rC_toldWorths rC_steps rC_below rC_above rC_unsureWords rC_unsureWorths p0 0 9 b_iK_imageCount b_iC_nodes b_iC_unsures b_iC_throneNode) (cwV 3 hts (wd_V wd_866 wd_867 wd_868 wd_2 (wd_c wd_869)) rfl rfl rfl dv_yX6_lacksNumber_3 ⟨Nat.le_of_ble_eq_true rfl, Nat.le_of_ble_eq_true rfl⟩) ⟨Pw.fb, recvX6 hK hP (q0 := 0) rfl, fun U hU hW => Pw.to (hP.ms _ hMs) (hD.ms _ hMs) (hK.ms [false, false, false, false, false, false, false] rfl) hE hS hFc hU hW⟩ rfl rfl hl.1 rfl (lv_room (Nat.le_of_ble_eq_true rfl)) dX6_night_5 ⟨Nat.le_of_ble_eq_true rfl, Nat.le_of_ble_eq_true rfl⟩) hS (fun q _ h => hFc q h) hFc (fun r u t H locs ht hvm hw hB hz1 hk1 hS => ?_)
  have hru9 := hw.2
  have hw := hw.1
  refine ex_1_1 hB (fun x_5314 e_x_5314_0 hB => ?_)
  obtain ⟨hP, hD⟩ := Bw.goN (ws' := [(oc6 oK oR oC oS oT rK_images iK_imageCount oA oH oL x_5314 iK_latestFault iK_latestPlace), (oc1 oC iC_nodes iC_words iC_chances iC_unsures iC_slips iC_throneNode iC_saidWorth iC_unit rC_kind rC_parts rC_partNodes rC_weights rC_weightSums rC_toldWorths rC_steps rC_below rC_above rC_unsureWords rC_unsureWorths), (arI rC_kind kC_kind 18 fC_kind), (arI rC_parts kC_parts 18 fC_parts), (arI rC_partNodes kC_partNodes 72 fC_partNodes), (arI rC_weights kC_weights 72 fC_weights), (arI rC_weightSums kC_weightSums 18 fC_weightSums), (oc5 oS rS_worths rS_order rS_left), (arI rS_worths kS_worths 18 fS_worths), (oc4 oL rL_values rL_supposed), (arI rL_values kL_values 18 fL_values)]) hB rfl ht hP hD _ hMs hk1 hFc rfl
  clear hz1 hk1 hvm ht hB hMs
  have rg_x_5314 := fb_rng x_5314
  rw [← hru9] at e_x_5314_0
  rcases hw.2 with ⟨rfl, hc_5315⟩ | ⟨rfl, hc_5315⟩
  · skip
    have rg_iC_nodes := fb_rng iC_nodes
    have hG := hG.trans (un2_eq e_x_5314_0)
    have hG := hG.trans (if_pos rfl)
    refine lv_if_eq (tgt := 15) hx hb dX6_night_8 (by decide) (fun _ => ?_) (fun c => absurd c (by decide))
    refine lv_aload_n hx hb dX6_night_15 rfl (lv_at hl 0 rfl) ?_
    refine va_get (D := (dC, dI)) (ci := 6) (v := .ref oL) (C := RX6) (T := TX6) (N := 12) hx hb hts inX6 hown hK hP 0 rfl rfl 8 (by decide) (hts _ wd_38) (fun _ h9 => h9) rfl dX6_night_16 ?_
    refine lv_aload_n hx hb dX6_night_19 rfl (lv_at hl 0 rfl) ?_
    refine va_get (D := (dC, dI)) (ci := 6) (v := .ref oC) (C := RX6) (T := TX6) (N := 12) hx hb hts inX6 hown hK hP 0 rfl rfl 1 (by decide) (hts _ wd_20) (fun _ h9 => h9) rfl dX6_night_20 ?_
    refine lv_aload_n hx hb dX6_night_23 rfl (lv_at hl 0 rfl) ?_
    refine va_get (D := (dC, dI)) (ci := 6) (v := .ref oS) (C := RX6) (T := TX6) (N := 12) hx hb hts inX6 hown hK hP 0 rfl rfl 2 (by decide) (hts _ wd_24) (fun _ h9 => h9) rfl dX6_night_24 ?_
    refine va_get (D := (dC, dI)) (ci := 5) (v := .ref rS_worths) (C := RX5) (T := TX5) (N := 3) hx hb hts inX5 hown hK hP 7 rfl rfl 0 (by decide) (hts _ wd_609) (fun _ h9 => h9) rfl dX6_night_27 ?_
    have hFc := va_free (wc := [(oc4 oL rL_values rL_supposed), (arI rL_values kL_values 18 fL_values), (oc1 oC iC_nodes iC_words iC_chances iC_unsures iC_slips iC_throneNode iC_saidWorth iC_unit rC_kind rC_parts rC_partNodes rC_weights rC_weightSums rC_toldWorths rC_steps rC_below rC_above rC_unsureWords rC_unsureWorths), (arI rC_kind kC_kind 18 fC_kind), (arI rS_worths kS_worths 18 fS_worths)]) hD hS hA [9, 10, 1, 2, 8] rfl
    refine va_callv (va_runV (As := [.ref oC, .ref rS_worths]) (rest := []) ⟨hx, hb, hml, hown, hts⟩ (tX4_weighNightNone l dC dI _ oL rL_values fL_values kL_values rL_supposed oC iC_nodes iC_words iC_chances iC_unsures iC_slips iC_throneNode iC_saidWorth iC_unit rC_kind fC_kind kC_kind rC_parts rC_partNodes rC_weights rC_weightSums rC_toldWorths rC_steps rC_below rC_above rC_unsureWords rC_unsureWorths rS_worths fS_worths kS_worths b_iC_nodes b_iC_unsures b_iC_throneNode) (cwV 2 hts (wd_V wd_1088 wd_1089 wd_1090 wd_37 (wd_c wd_1091)) rfl rfl rfl dv_yX4_weighNightNone_2 ⟨Nat.le_of_ble_eq_true rfl, Nat.le_of_ble_eq_true rfl⟩) ⟨Pw.fb, recvX4 hK hP (q0 := 9) rfl, fun U hU hW => Pw.to (hP.sub [9, 10, 1, 2, 8] rfl) (hD.sub [9, 10, 1, 2, 8] (by decide) rfl) (hK.sub [6, 0, 5] rfl) hE hS hFc hU hW⟩ rfl rfl hl.1 rfl (lv_room (Nat.le_of_ble_eq_true rfl)) dX6_night_30 ⟨Nat.le_of_ble_eq_true rfl, Nat.le_of_ble_eq_true rfl⟩) hS (fun q _ h => hFc q h) hFc (fun u t H locs ht hvm hw hB hz1 hk1 hS => ?_)
    refine ex_1_1 hB (fun f_5318 e_f_5318_0 hB => ?_)
    obtain ⟨hP, hD, hK⟩ := Bw.go (ws' := [(oc6 oK oR oC oS oT rK_images iK_imageCount oA oH oL x_5314 iK_latestFault iK_latestPlace), (arI rC_parts kC_parts 18 fC_parts), (arI rC_partNodes kC_partNodes 72 fC_partNodes), (arI rC_weights kC_weights 72 fC_weights), (arI rC_weightSums kC_weightSums 18 fC_weightSums), (oc5 oS rS_worths rS_order rS_left), (oc4 oL rL_values rL_supposed), (arI rL_values kL_values 18 f_5318), (oc1 oC iC_nodes iC_words iC_chances iC_unsures iC_slips iC_throneNode iC_saidWorth iC_unit rC_kind rC_parts rC_partNodes rC_weights rC_weightSums rC_toldWorths rC_steps rC_below rC_above rC_unsureWords rC_unsureWorths), (arI rC_kind kC_kind 18 fC_kind), (arI rS_worths kS_worths 18 fS_worths)]) (tys' := [(kC_parts, .int), (kC_partNodes, .int), (kC_weights, .int), (kC_weightSums, .int), (kL_values, .int), (kC_kind, .int), (kS_worths, .int)]) hB rfl ht hvm hP hD hK [9, 10, 1, 2, 8] [0, 3, 4, 5, 6, 7] rfl (by decide) (by decide) [1, 2, 3, 4] hk1 hFc rfl rfl rfl
    clear hz1 hk1 hvm ht hB
    have hG := hG.trans (lt_eq e_f_5318_0.symm)
    refine lv_iconst (v := 0) hx hb dX6_night_33 (by decide) ?_
    refine lv_istore_n (lv' := [(3, .int 0), (0, .ref oK), (1, .int p0), (2, .int p1)]) hx hb dX6_night_34 rfl hl (by decide) rfl (fun ls hl => ?_)
    have hl := lv_sub hl (l' := [(3, .int 0), (0, .ref oK), (1, .int p0), (2, .int p1)]) [0, 1, 2, 3] rfl
    have key_n_5321 : ∀ (n_5321 : Nat) (z_5319 : Int32) (f_5320 : Nat → Int32) (H : Heap) (locs : List Loc) (ls : Array Slot), (0 ≤ z_5319.toInt ∧ z_5319.toInt ≤ 2147483647) → (2147483647 - z_5319.toInt).toNat < n_5321 → (PX6_night iC_nodes iC_throneNode iC_unit fC_kind fC_parts fC_partNodes fC_weights fC_weightSums fS_worths fL_values p0 p1 = HX6_night_0 iC_nodes iC_throneNode iC_unit fC_kind fC_parts fC_partNodes fC_weights fC_weightSums p0 p1 x_5314 n_5321 z_5319 f_5320) → va_P (dC, dI) vwCl [(oc6 oK oR oC oS oT rK_images iK_imageCount oA oH oL x_5314 iK_latestFault iK_latestPlace), (arI rC_parts kC_parts 18 fC_parts), (arI rC_partNodes kC_partNodes 72 fC_partNodes), (arI rC_weights kC_weights 72 fC_weights), (arI rC_weightSums kC_weightSums 18 fC_weightSums), (oc5 oS rS_worths rS_order rS_left), (oc4 oL rL_values rL_supposed), (arI rL_values kL_values 18 f_5320), (oc1 oC iC_nodes iC_words iC_chances iC_unsures iC_slips iC_throneNode iC_saidWorth iC_unit rC_kind rC_parts rC_partNodes rC_weights rC_weightSums rC_toldWorths rC_steps rC_below rC_above rC_unsureWords rC_unsureWorths), (arI rC_kind kC_kind 18 fC_kind), (arI rS_worths kS_worths 18 fS_worths)] H → va_D A [(oc6 oK oR oC oS oT rK_images iK_imageCount oA oH oL x_5314 iK_latestFault iK_latestPlace), (arI rC_parts kC_parts 18 fC_parts), (arI rC_partNodes kC_partNodes 72 fC_partNodes), (arI rC_weights kC_weights 72 fC_weights), (arI rC_weightSums kC_weightSums 18 fC_weightSums), (oc5 oS rS_worths rS_order rS_left), (oc4 oL rL_values rL_supposed), (arI rL_values kL_values 18 f_5320), (oc1 oC iC_nodes iC_words iC_chances iC_unsures iC_slips iC_throneNode iC_saidWorth iC_unit rC_kind rC_parts rC_partNodes rC_weights rC_weightSums rC_toldWorths rC_steps rC_below rC_above rC_unsureWords rC_unsureWorths), (arI rC_kind kC_kind 18 fC_kind), (arI rS_worths kS_worths 18 fS_worths)] → va_S A s.heap H locs → lv_has ls 4 [(3, .int z_5319), (0, .ref oK), (1, .int p0), (2, .int p1)] → W p l e (headSpec (Cond.code yX6_night cX6_night 4 (some .long) :: wG) ({ frames := 3, cells := 0, slots := 0, locals := 70 })).room s m ([.ref oK, .int p0, .int p1] : List Value).toArray below meth c H locs 0 0 (MQ below (va_Ql (fun (r : Int64) (u : Nat) => (True ∧ True) ∧ r = Int64.ofNat u) (fun (u : Nat) (t : State) => ∃ (niK_refusal : Int32) (nfL_values : Nat → Int32), (PX6_night iC_nodes iC_throneNode iC_unit fC_kind fC_parts fC_partNodes fC_weights fC_weightSums fS_worths fL_values p0 p1 = (Int64.ofNat u, niK_refusal, nfL_values)) ∧ Bw dC dI A [(oc6 oK oR oC oS oT rK_images iK_imageCount oA oH oL niK_refusal iK_latestFault iK_latestPlace), (oc1 oC iC_nodes iC_words iC_chances iC_unsures iC_slips iC_throneNode iC_saidWorth iC_unit rC_kind rC_parts rC_partNodes rC_weights rC_weightSums rC_toldWorths rC_steps rC_below rC_above rC_unsureWords rC_unsureWorths), (arI rC_kind kC_kind 18 fC_kind), (arI rC_parts kC_parts 18 fC_parts), (arI rC_partNodes kC_partNodes 72 fC_partNodes), (arI rC_weights kC_weights 72 fC_weights), (arI rC_weightSums kC_weightSums 18 fC_weightSums), (oc5 oS rS_worths rS_order rS_left), (arI rS_worths kS_worths 18 fS_worths), (oc4 oL rL_values rL_supposed), (arI rL_values kL_values 18 nfL_values)] [(kC_kind, .int), (kC_parts, .int), (kC_partNodes, .int), (kC_weights, .int), (kC_weightSums, .int), (kS_worths, .int), (kL_values, .int)] t) A) ([.ref oK, .int p0, .int p1] : List Value).toArray s 0 0 A) (F0 m 35 ls []) := by
      intro n_5321
      induction n_5321 with
      | zero => intro z_5319 f_5320 H locs ls hi0_n_5321 hm; exact absurd hm (Nat.not_lt_zero _)
      | succ n_5321 ih_n_5321 =>
        intro z_5319 f_5320 H locs ls hi0_n_5321 hm_n_5321 hG hP hD hS hl
        have hG := hG.trans (HX6_night_0_eq _ _ _ _ _ _ _ _ _ _ _ _ _ _)
        have rg_z_5319 := fb_rng z_5319
        refine lv_iload_n hx hb dX6_night_35 rfl (lv_at hl 0 rfl) ?_
        refine lv_iload_n hx hb dX6_night_36 rfl (lv_at hl 2 rfl) ?_
        refine lv_icmp_ge (tgt := 57) hx hb dX6_night_37 (by decide) (fun c_5322 => ?_) (fun c_5322 => ?_)
        · skip
          have hG := hG.trans (if_pos c_5322)
          have gc_5322 := ti_le c_5322 rfl rfl
          refine lv_aload_n hx hb dX6_night_57 rfl (lv_at hl 1 rfl) ?_
          refine va_get (D := (dC, dI)) (ci := 6) (v := .ref oL) (C := RX6) (T := TX6) (N := 12) hx hb hts inX6 hown hK hP 0 rfl rfl 8 (by decide) (hts _ wd_38) (fun _ h9 => h9) rfl dX6_night_58 ?_
          refine va_get (D := (dC, dI)) (ci := 4) (v := .ref rL_values) (C := RX4) (T := TX4) (N := 2) hx hb hts inX4 hown hK hP 6 rfl rfl 0 (by decide) (hts _ wd_610) (fun _ h9 => h9) rfl dX6_night_61 ?_
          refine lv_aload_n hx hb dX6_night_64 rfl (lv_at hl 1 rfl) ?_
          refine va_get (D := (dC, dI)) (ci := 6) (v := .ref oC) (C := RX6) (T := TX6) (N := 12) hx hb hts inX6 hown hK hP 0 rfl rfl 1 (by decide) (hts _ wd_20) (fun _ h9 => h9) rfl dX6_night_65 ?_
          refine va_get (D := (dC, dI)) (ci := 1) (v := .int iC_throneNode) (C := RX1) (T := TX1) (N := 19) hx hb hts inX1 hown hK hP 8 rfl rfl 5 (by decide) (hts _ wd_595) (fun _ h9 => h9) rfl dX6_night_68 ?_
          have rg_iC_throneNode := fb_rng iC_throneNode
          have thr9 : 0 ≤ iC_throneNode.toInt := by omega
          refine va_iald hx hb hK hP 7 4 rfl rfl (ti_in rfl thr9 (om_b3735a34 b_iC_throneNode.2)) dX6_night_71 ?_
          refine lv_topi (fun x_5323 ex_5323 => ?_)
          have hG := hG.trans (lt_eq ex_5323)
          have rg_x_5323 := fb_rng x_5323
          have kx_5323 : (f_5320 iC_throneNode.toNatClampNeg).toInt = x_5323.toInt := by rw [ex_5323]
          obtain ⟨y_5324, ey_5324⟩ : ∃ z : Int64, z = (x_5323 : Int32).toInt64 := ⟨_, rfl⟩
          have hG := hG.trans (lt_eq ey_5324)
          refine lv_i2l (v := y_5324) hx hb dX6_night_72 ey_5324.symm ?_
          refine lv_aload_n hx hb dX6_night_73 rfl (lv_at hl 1 rfl) ?_
          refine va_get (D := (dC, dI)) (ci := 6) (v := .ref oC) (C := RX6) (T := TX6) (N := 12) hx hb hts inX6 hown hK hP 0 rfl rfl 1 (by decide) (hts _ wd_20) (fun _ h9 => h9) rfl dX6_night_74 ?_
          refine va_get (D := (dC, dI)) (ci := 1) (v := .int iC_unit) (C := RX1) (T := TX1) (N := 19) hx hb hts inX1 hown hK hP 8 rfl rfl 7 (by decide) (hts _ wd_611) (fun _ h9 => h9) rfl dX6_night_77 ?_
          have rg_iC_unit := fb_rng iC_unit
          obtain ⟨y_5325, ey_5325⟩ : ∃ z : Int64, z = (iC_unit : Int32).toInt64 := ⟨_, rfl⟩
          have hG := hG.trans (lt_eq ey_5325)
          refine lv_i2l (v := y_5325) hx hb dX6_night_80 ey_5325.symm ?_
          refine lv_iload_n hx hb dX6_night_81 rfl (lv_at hl 3 rfl) ?_
          have hFc : ∀ q, va_A [] _ q → A q := fun q h => hA q (Nat.le_trans hS.1 (va_nilA h))
          refine va_calll (va_runS (As := [.long y_5324, .long y_5325, .int p1]) (rest := []) ⟨hx, hb, hml, hown, hts⟩ (tX6_inLowestTerms l dC dI _ y_5324 y_5325 p1 ) (va_cwS 3 hts (wd_S wd_635 wd_636 wd_2 (wd_c wd_637)) rfl rfl rfl ds_yX6_inLowestTerms_3 ⟨Nat.le_of_ble_eq_true rfl, Nat.le_of_ble_eq_true rfl⟩) ⟨Pw.fb, fun U hU hW => Pn.to hK hE hS hA hU hW⟩ rfl rfl hl.1 rfl (lv_room (Nat.le_of_ble_eq_true rfl)) dX6_night_82 ⟨Nat.le_of_ble_eq_true rfl, Nat.le_of_ble_eq_true rfl⟩) hS (fun q _ h => hFc q h) hFc (fun r u t H locs ht hvm hw hB hz1 hk1 hS => ?_)
          obtain ⟨hP, hD, hK⟩ := Bw.same ht hvm hP hD hK hk1 hFc
          clear hz1 hk1 hvm ht hB
          have hq9 := hw.2
          have hw := hw.1
          obtain ⟨y_5326, rfl⟩ : ∃ z, z = r := ⟨_, rfl⟩
          have hq_y_5326 := hq9
          have hG := hG.trans (lt_eq hq_y_5326.symm)
          exact wq_l hx hb hr (cL y_5326) ⟨⟨trivial, trivial⟩, (cL_of y_5326)⟩ (fun t ht hW => ⟨x_5314, f_5320, (cL_tup hG), Bw.to (hP.sub [0, 8, 9, 1, 2, 3, 4, 5, 10, 6, 7] rfl) (hD.sub [0, 8, 9, 1, 2, 3, 4, 5, 10, 6, 7] (by decide) rfl) (hK.sub [5, 0, 1, 2, 3, 6, 4] rfl) ht hW⟩) hS dX6_night_85 hlocks
        · skip
          have hG := hG.trans (if_neg c_5322)
          have gc_5322 := ti_nle c_5322 rfl rfl
          refine lv_aload_n hx hb dX6_night_40 rfl (lv_at hl 1 rfl) ?_
          refine va_get (D := (dC, dI)) (ci := 6) (v := .ref oL) (C := RX6) (T := TX6) (N := 12) hx hb hts inX6 hown hK hP 0 rfl rfl 8 (by decide) (hts _ wd_38) (fun _ h9 => h9) rfl dX6_night_41 ?_
          refine lv_aload_n hx hb dX6_night_44 rfl (lv_at hl 1 rfl) ?_
          refine va_get (D := (dC, dI)) (ci := 6) (v := .ref oC) (C := RX6) (T := TX6) (N := 12) hx hb hts inX6 hown hK hP 0 rfl rfl 1 (by decide) (hts _ wd_20) (fun _ h9 => h9) rfl dX6_night_45 ?_
          have hFc := va_free (wc := [(oc4 oL rL_values rL_supposed), (arI rL_values kL_values 18 f_5320), (oc1 oC iC_nodes iC_words iC_chances iC_unsures iC_slips iC_throneNode iC_saidWorth iC_unit rC_kind rC_parts rC_partNodes rC_weights rC_weightSums rC_toldWorths rC_steps rC_below rC_above rC_unsureWords rC_unsureWorths), (arI rC_kind kC_kind 18 fC_kind), (arI rC_parts kC_parts 18 fC_parts), (arI rC_partNodes kC_partNodes 72 fC_partNodes), (arI rC_weights kC_weights 72 fC_weights), (arI rC_weightSums kC_weightSums 18 fC_weightSums)]) hD hS hA [6, 7, 8, 9, 1, 2, 3, 4] rfl
          refine va_callv (va_runV (As := [.ref oC]) (rest := []) ⟨hx, hb, hml, hown, hts⟩ (tX4_weighNextNight l dC dI _ oL rL_values f_5320 kL_values rL_supposed oC iC_nodes iC_words iC_chances iC_unsures iC_slips iC_throneNode iC_saidWorth iC_unit rC_kind fC_kind kC_kind rC_parts fC_parts kC_parts rC_partNodes fC_partNodes kC_partNodes rC_weights fC_weights kC_weights rC_weightSums fC_weightSums kC_weightSums rC_toldWorths rC_steps rC_below rC_above rC_unsureWords rC_unsureWorths b_iC_nodes b_iC_unsures b_iC_throneNode a_fC_parts a_fC_partNodes) (cwV 1 hts (wd_V wd_1092 wd_1093 wd_1094 wd_37 (wd_c wd_1095)) rfl rfl rfl dv_yX4_weighNextNight_1 ⟨Nat.le_of_ble_eq_true rfl, Nat.le_of_ble_eq_true rfl⟩) ⟨Pw.fb, recvX4 hK hP (q0 := 6) rfl, fun U hU hW => Pw.to (hP.sub [6, 7, 8, 9, 1, 2, 3, 4] rfl) (hD.sub [6, 7, 8, 9, 1, 2, 3, 4] (by decide) rfl) (hK.sub [4, 5, 0, 1, 2, 3] rfl) hE hS hFc hU hW⟩ rfl rfl hl.1 rfl (lv_room (Nat.le_of_ble_eq_true rfl)) dX6_night_48 ⟨Nat.le_of_ble_eq_true rfl, Nat.le_of_ble_eq_true rfl⟩) hS (fun q _ h => hFc q h) hFc (fun u t H locs ht hvm hw hB hz1 hk1 hS => ?_)
          refine ex_1_1 hB (fun f_5327 e_f_5327_0 hB => ?_)
          obtain ⟨hP, hD, hK⟩ := Bw.go (ws' := [(oc6 oK oR oC oS oT rK_images iK_imageCount oA oH oL x_5314 iK_latestFault iK_latestPlace), (oc5 oS rS_worths rS_order rS_left), (arI rS_worths kS_worths 18 fS_worths), (oc4 oL rL_values rL_supposed), (arI rL_values kL_values 18 f_5327), (oc1 oC iC_nodes iC_words iC_chances iC_unsures iC_slips iC_throneNode iC_saidWorth iC_unit rC_kind rC_parts rC_partNodes rC_weights rC_weightSums rC_toldWorths rC_steps rC_below rC_above rC_unsureWords rC_unsureWorths), (arI rC_kind kC_kind 18 fC_kind), (arI rC_parts kC_parts 18 fC_parts), (arI rC_partNodes kC_partNodes 72 fC_partNodes), (arI rC_weights kC_weights 72 fC_weights), (arI rC_weightSums kC_weightSums 18 fC_weightSums)]) (tys' := [(kS_worths, .int), (kL_values, .int), (kC_kind, .int), (kC_parts, .int), (kC_partNodes, .int), (kC_weights, .int), (kC_weightSums, .int)]) hB rfl ht hvm hP hD hK [6, 7, 8, 9, 1, 2, 3, 4] [0, 5, 10] rfl (by decide) (by decide) [6] hk1 hFc rfl rfl rfl
          clear hz1 hk1 hvm ht hB
          have hG := hG.trans (lt_eq e_f_5327_0.symm)
          obtain ⟨x_5328, ex_5328⟩ : ∃ z : Int32, z = z_5319 + Int32.ofInt 1 := ⟨_, rfl⟩
          have hG := hG.trans (lt_eq ex_5328)
          have vx_5328 : x_5328.toInt = z_5319.toInt + 1 := ti_add (y := 1) ex_5328 rfl kc_1 (om_4e4fce7e hi0_n_5321.1) (om_b82471d9 hc_5315.2.2 gc_5322 kc_9)
          refine lv_iinc (v := x_5328) (lv' := [(3, .int x_5328), (0, .ref oK), (1, .int p0), (2, .int p1)]) hx hb dX6_night_51 hl (k := 0) rfl ex_5328.symm (by decide) rfl (fun ls hl => ?_)
          refine lv_goto (tgt := 35) hx hb dX6_night_54 (by decide) ?_
          exact ih_n_5321 x_5328 f_5327 _ _ _  ⟨(om_83b90de5 hi0_n_5321.1 vx_5328), (om_bcad9cdb hc_5315.2.2 gc_5322 vx_5328 kc_9)⟩ (ms_lt hm_n_5321 (om_b9393183 vx_5328) (om_5766c6b3 hc_5315.2.2 gc_5322 kc_9)) hG (hP.sub [0, 7, 8, 9, 10, 1, 3, 4, 5, 6, 2] rfl) (hD.sub [0, 7, 8, 9, 10, 1, 3, 4, 5, 6, 2] (by decide) rfl) hS (lv_sub hl [0, 1, 2, 3] rfl)
    exact key_n_5321 (((2147483647 - (0 : Int32).toInt).toNat) + 1) 0 f_5318 _ _ _  ⟨(om_b1de7dbe kc_0), (om_daf17c64 kc_0)⟩ (Nat.lt_add_one _) hG hP hD hS hl
  · skip
    have hG := hG.trans (un2_eq e_x_5314_0)
    have hG := hG.trans (if_neg (by decide))
    refine lv_if_eq (tgt := 15) hx hb dX6_night_8 (by decide) (fun c => absurd c (by decide)) (fun _ => ?_)
    refine lv_ldc2 hx hb hown (hts _ wd_608) dX6_night_11 ?_
    exact wq_l hx hb hr (cL (-1)) ⟨⟨trivial, trivial⟩, (cL_of (-1))⟩ (fun t ht hW => ⟨x_5314, fL_values, (cL_tup hG), Bw.to hP hD hK ht hW⟩) hS dX6_night_14 hlocks
set_option maxHeartbeats 4000000 in
set_option maxRecDepth 100000 in
theorem tX6_settles (l : Launch) (dC : Nat → ClassId) (dI : Nat → Nat → Nat) (sz : Nat) (oK : Nat) (oR : Nat) (oC : Nat) (oS : Nat) (oT : Nat) (rK_images : Nat) (iK_imageCount : Int32) (oA : Nat) (oH : Nat) (oL : Nat) (iK_refusal : Int32) (iK_latestFault : Int32) (iK_latestPlace : Int32) (iC_nodes : Int32) (iC_words : Int32) (iC_chances : Int32) (iC_unsures : Int32) (iC_slips : Int32) (iC_throneNode : Int32) (iC_saidWorth : Int32) (iC_unit : Int32) (rC_kind : Nat) (fC_kind : Nat → Int32) (kC_kind : ClassId) (rC_parts : Nat) (fC_parts : Nat → Int32) (kC_parts : ClassId) (rC_partNodes : Nat) (fC_partNodes : Nat → Int32) (kC_partNodes : ClassId) (rC_weights : Nat) (fC_weights : Nat → Int32) (kC_weights : ClassId) (rC_weightSums : Nat) (fC_weightSums : Nat → Int32) (kC_weightSums : ClassId) (rC_toldWorths : Nat) (rC_steps : Nat) (rC_below : Nat) (rC_above : Nat) (rC_unsureWords : Nat) (rC_unsureWorths : Nat) (rS_worths : Nat) (fS_worths : Nat → Int32) (kS_worths : ClassId) (rS_order : Nat) (rS_left : Nat) (rL_values : Nat) (fL_values : Nat → Int32) (kL_values : ClassId) (rL_supposed : Nat) (b_iK_imageCount : 0 ≤ iK_imageCount.toInt ∧ iK_imageCount.toInt ≤ 3) (b_iC_nodes : 0 ≤ iC_nodes.toInt ∧ iC_nodes.toInt ≤ 18) (b_iC_unsures : 0 ≤ iC_unsures.toInt ∧ iC_unsures.toInt ≤ 4) (b_iC_throneNode : (-1) ≤ iC_throneNode.toInt ∧ iC_throneNode.toInt ≤ 17) (a_fC_parts : ∀ j : Nat, j < 18 → 0 ≤ (fC_parts j).toInt ∧ (fC_parts j).toInt ≤ 4) (a_fC_partNodes : ∀ j : Nat, j < 72 → 0 ≤ (fC_partNodes j).toInt ∧ (fC_partNodes j).toInt ≤ 17) (hthr : iC_nodes.toInt ≤ 0 ∨ 0 ≤ iC_throneNode.toInt) : Met l yX6_settles (Cond.code yX6_settles cX6_settles 4 (some .int) :: wG) ({ frames := 3, cells := 0, slots := 0, locals := 71 }) (va_Pc [.ref oK] (Pw dC dI sz [(oc6 oK oR oC oS oT rK_images iK_imageCount oA oH oL iK_refusal iK_latestFault iK_latestPlace), (oc1 oC iC_nodes iC_words iC_chances iC_unsures iC_slips iC_throneNode iC_saidWorth iC_unit rC_kind rC_parts rC_partNodes rC_weights rC_weightSums rC_toldWorths rC_steps rC_below rC_above rC_unsureWords rC_unsureWorths), (arI rC_kind kC_kind 18 fC_kind), (arI rC_parts kC_parts 18 fC_parts), (arI rC_partNodes kC_partNodes 72 fC_partNodes), (arI rC_weights kC_weights 72 fC_weights), (arI rC_weightSums kC_weightSums 18 fC_weightSums), (oc5 oS rS_worths rS_order rS_left), (arI rS_worths kS_worths 18 fS_worths), (oc4 oL rL_values rL_supposed), (arI rL_values kL_values 18 fL_values)] [(kC_kind, .int), (kC_parts, .int), (kC_partNodes, .int), (kC_weights, .int), (kC_weightSums, .int), (kS_worths, .int), (kL_values, .int)])) (va_Qi (fun (r : Int32) (u : Nat) => (True ∧ True) ∧ r = Int32.ofNat u) (fun (u : Nat) (t : State) => ∃ (niK_refusal : Int32) (nfL_values : Nat → Int32), (PX6_settles iC_nodes iC_throneNode iC_unit fC_kind fC_parts fC_partNodes fC_weights fC_weightSums fS_worths fL_values = (Int32.ofNat u, niK_refusal, nfL_values)) ∧ Bw dC dI (va_A [(oc6 oK oR oC oS oT rK_images iK_imageCount oA oH oL iK_refusal iK_latestFault iK_latestPlace), (oc1 oC iC_nodes iC_words iC_chances iC_unsures iC_slips iC_throneNode iC_saidWorth iC_unit rC_kind rC_parts rC_partNodes rC_weights rC_weightSums rC_toldWorths rC_steps rC_below rC_above rC_unsureWords rC_unsureWorths), (arI rC_kind kC_kind 18 fC_kind), (arI rC_parts kC_parts 18 fC_parts), (arI rC_partNodes kC_partNodes 72 fC_partNodes), (arI rC_weights kC_weights 72 fC_weights), (arI rC_weightSums kC_weightSums 18 fC_weightSums), (oc5 oS rS_worths rS_order rS_left), (arI rS_worths kS_worths 18 fS_worths), (oc4 oL rL_values rL_supposed), (arI rL_values kL_values 18 fL_values)] sz) [(oc6 oK oR oC oS oT rK_images iK_imageCount oA oH oL niK_refusal iK_latestFault iK_latestPlace), (oc1 oC iC_nodes iC_words iC_chances iC_unsures iC_slips iC_throneNode iC_saidWorth iC_unit rC_kind rC_parts rC_partNodes rC_weights rC_weightSums rC_toldWorths rC_steps rC_below rC_above rC_unsureWords rC_unsureWorths), (arI rC_kind kC_kind 18 fC_kind), (arI rC_parts kC_parts 18 fC_parts), (arI rC_partNodes kC_partNodes 72 fC_partNodes), (arI rC_weights kC_weights 72 fC_weights), (arI rC_weightSums kC_weightSums 18 fC_weightSums), (oc5 oS rS_worths rS_order rS_left), (arI rS_worths kS_worths 18 fS_worths), (oc4 oL rL_values rL_supposed), (arI rL_values kL_values 18 nfL_values)] [(kC_kind, .int), (kC_parts, .int), (kC_partNodes, .int), (kC_weights, .int), (kC_weightSums, .int), (kS_worths, .int), (kL_values, .int)] t) (va_A [(oc6 oK oR oC oS oT rK_images iK_imageCount oA oH oL iK_refusal iK_latestFault iK_latestPlace), (oc1 oC iC_nodes iC_words iC_chances iC_unsures iC_slips iC_throneNode iC_saidWorth iC_unit rC_kind rC_parts rC_partNodes rC_weights rC_weightSums rC_toldWorths rC_steps rC_below rC_above rC_unsureWords rC_unsureWorths), (arI rC_kind kC_kind 18 fC_kind), (arI rC_parts kC_parts 18 fC_parts), (arI rC_partNodes kC_partNodes 72 fC_partNodes), (arI rC_weights kC_weights 72 fC_weights), (arI rC_weightSums kC_weightSums 18 fC_weightSums), (oc5 oS rS_worths rS_order rS_left), (arI rS_worths kS_worths 18 fS_worths), (oc4 oL rL_values rL_supposed), (arI rL_values kL_values 18 fL_values)] sz)) 0 0 (va_A [(oc6 oK oR oC oS oT rK_images iK_imageCount oA oH oL iK_refusal iK_latestFault iK_latestPlace), (oc1 oC iC_nodes iC_words iC_chances iC_unsures iC_slips iC_throneNode iC_saidWorth iC_unit rC_kind rC_parts rC_partNodes rC_weights rC_weightSums rC_toldWorths rC_steps rC_below rC_above rC_unsureWords rC_unsureWorths), (arI rC_kind kC_kind 18 fC_kind), (arI rC_parts kC_parts 18 fC_parts), (arI rC_partNodes kC_partNodes 72 fC_partNodes), (arI rC_weights kC_weights 72 fC_weights), (arI rC_weightSums kC_weightSums 18 fC_weightSums), (oc5 oS rS_worths rS_order rS_left), (arI rS_worths kS_worths 18 fS_worths), (oc4 oL rL_values rL_supposed), (arI rL_values kL_values 18 fL_values)] sz) := by
  refine Met.ofW (cc := cX6_settles) (maxL := 4) (ret := (some .int)) pnX6 rfl ?_
  intro p e s m args below meth c s₁ B hml hv
  obtain ⟨rfl, hsz, hP, hK, hD0, hE⟩ := hv
  have hx := B.exec
  have hb := B.bytes
  have hr := B.returns
  have hts : ∀ w ∈ wG, w.before ([.ref oK] : List Value).toArray s = true := fun w h => atoms_spec (ws := Cond.code yX6_settles cX6_settles 4 (some .int) :: wG) B.pre w (List.mem_cons_of_mem _ h)
  have hown : s.vm.findClass RX6 = some m.cls := own_of B.named rfl
  have hlocks := B.notSynchronized
  subst hsz
  have hD := hD0.self (sz := s.heap.size)
  generalize hAe : va_A [(oc6 oK oR oC oS oT rK_images iK_imageCount oA oH oL iK_refusal iK_latestFault iK_latestPlace), (oc1 oC iC_nodes iC_words iC_chances iC_unsures iC_slips iC_throneNode iC_saidWorth iC_unit rC_kind rC_parts rC_partNodes rC_weights rC_weightSums rC_toldWorths rC_steps rC_below rC_above rC_unsureWords rC_unsureWorths), (arI rC_kind kC_kind 18 fC_kind), (arI rC_parts kC_parts 18 fC_parts), (arI rC_partNodes kC_partNodes 72 fC_partNodes), (arI rC_weights kC_weights 72 fC_weights), (arI rC_weightSums kC_weightSums 18 fC_weightSums), (oc5 oS rS_worths rS_order rS_left), (arI rS_worths kS_worths 18 fS_worths), (oc4 oL rL_values rL_supposed), (arI rL_values kL_values 18 fL_values)] s.heap.size = A at hD hE ⊢
  have hA : ∀ q : Nat, s.heap.size ≤ q → A q := fun q h => by rw [← hAe]; exact Or.inr h
  have hS : va_S A s.heap s.heap [] := va_S.rf
  have hl := lv_entry ([.ref oK]) (n := 4) (Nat.le_of_ble_eq_true rfl)
  rw [lg_entry_eq]
  generalize (lg_sl ([.ref oK]) ++ List.replicate (4 - (lg_sl ([.ref oK])).length) Slot.unset).toArray = ls at hl ⊢
  have hl : lv_has ls 4 [(0, .ref oK)] := hl
  have hG := PX6_settles_eq iC_nodes iC_throneNode iC_unit fC_kind fC_parts fC_partNodes fC_weights fC_weightSums fS_worths fL_values
  refine lv_aload_n hx hb dX6_settles_0 rfl (lv_at hl 0 rfl) ?_
  have hMs := ml_of hD [true, true, false, false, false, false, false, false, false, false, false] (wc := [(oc6 oK oR oC oS oT rK_images iK_imageCount oA oH oL iK_refusal iK_latestFault iK_latestPlace), (oc1 oC iC_nodes iC_words iC_chances iC_unsures iC_slips iC_throneNode iC_saidWorth iC_unit rC_kind rC_parts rC_partNodes rC_weights rC_weightSums rC_toldWorths rC_steps rC_below rC_above rC_unsureWords rC_unsureWorths)]) rfl
  have hFc := va_freeM hD hS hA _ hMs
  refine va_calli (va_runV (As := []) (rest := []) ⟨hx, hb, hml, hown, hts⟩ (tX6_lacksCourt l dC dI _ oK oR oC oS oT rK_images iK_imageCount oA oH oL iK_refusal iK_latestFault iK_latestPlace iC_nodes iC_words iC_chances iC_unsures iC_slips iC_throneNode iC_saidWorth iC_unit rC_kind rC_parts rC_partNodes rC_weights rC_weightSums rC_toldWorths rC_steps rC_below rC_above rC_unsureWords rC_unsureWorths b_iK_imageCount b_iC_nodes b_iC_unsures b_iC_throneNode) (cwV 0 hts (wd_V wd_596 wd_597 wd_598 wd_2 (wd_c wd_599)) rfl rfl rfl dv_yX6_lacksCourt_0 ⟨Nat.le_of_ble_eq_true rfl, Nat.le_of_ble_eq_true rfl⟩) ⟨Pw.fb, recvX6 hK hP (q0 := 0) rfl, fun U hU hW => Pw.to (hP.ms _ hMs) (hD.ms _ hMs) (hK.ms [false, false, false, false, false, false, false] rfl) hE hS hFc hU hW⟩ rfl rfl hl.1 rfl (lv_room (Nat.le_of_ble_eq_true rfl)) dX6_settles_1 ⟨Nat.le_of_ble_eq_true rfl, Nat.le_of_ble_eq_true rfl⟩) hS (fun q _ h => hFc q h) hFc (fun r u t H locs ht hvm hw hB hz1 hk1 hS => ?_)
  have hru9 := hw.2
  have hw := hw.1
  refine ex_1_2 hB (fun x_5379 b_x_5379 e_x_5379_0 hB => ?_)
  obtain ⟨hP, hD⟩ := Bw.goN (ws' := [(oc6 oK oR oC oS oT rK_images iK_imageCount oA oH oL x_5379 iK_latestFault iK_latestPlace), (oc1 oC iC_nodes iC_words iC_chances iC_unsures iC_slips iC_throneNode iC_saidWorth iC_unit rC_kind rC_parts rC_partNodes rC_weights rC_weightSums rC_toldWorths rC_steps rC_below rC_above rC_unsureWords rC_unsureWorths), (arI rC_kind kC_kind 18 fC_kind), (arI rC_parts kC_parts 18 fC_parts), (arI rC_partNodes kC_partNodes 72 fC_partNodes), (arI rC_weights kC_weights 72 fC_weights), (arI rC_weightSums kC_weightSums 18 fC_weightSums), (oc5 oS rS_worths rS_order rS_left), (arI rS_worths kS_worths 18 fS_worths), (oc4 oL rL_values rL_supposed), (arI rL_values kL_values 18 fL_values)]) hB rfl ht hP hD _ hMs hk1 hFc rfl
  clear hz1 hk1 hvm ht hB hMs
  rw [← hru9] at e_x_5379_0
  rcases hw.2 with ⟨rfl, hc_5380⟩ | ⟨rfl, hc_5380⟩
  · skip
    have hG := hG.trans (un2_eq e_x_5379_0)
    have hG := hG.trans (if_pos rfl)
    refine lv_if_eq (tgt := 9) hx hb dX6_settles_4 (by decide) (fun _ => ?_) (fun c => absurd c (by decide))
    refine lv_aload_n hx hb dX6_settles_9 rfl (lv_at hl 0 rfl) ?_
    refine va_get (D := (dC, dI)) (ci := 6) (v := .ref oL) (C := RX6) (T := TX6) (N := 12) hx hb hts inX6 hown hK hP 0 rfl rfl 8 (by decide) (hts _ wd_38) (fun _ h9 => h9) rfl dX6_settles_10 ?_
    refine lv_aload_n hx hb dX6_settles_13 rfl (lv_at hl 0 rfl) ?_
    refine va_get (D := (dC, dI)) (ci := 6) (v := .ref oC) (C := RX6) (T := TX6) (N := 12) hx hb hts inX6 hown hK hP 0 rfl rfl 1 (by decide) (hts _ wd_20) (fun _ h9 => h9) rfl dX6_settles_14 ?_
    refine lv_aload_n hx hb dX6_settles_17 rfl (lv_at hl 0 rfl) ?_
    refine va_get (D := (dC, dI)) (ci := 6) (v := .ref oS) (C := RX6) (T := TX6) (N := 12) hx hb hts inX6 hown hK hP 0 rfl rfl 2 (by decide) (hts _ wd_24) (fun _ h9 => h9) rfl dX6_settles_18 ?_
    refine va_get (D := (dC, dI)) (ci := 5) (v := .ref rS_worths) (C := RX5) (T := TX5) (N := 3) hx hb hts inX5 hown hK hP 7 rfl rfl 0 (by decide) (hts _ wd_609) (fun _ h9 => h9) rfl dX6_settles_21 ?_
    have hFc := va_free (wc := [(oc4 oL rL_values rL_supposed), (arI rL_values kL_values 18 fL_values), (oc1 oC iC_nodes iC_words iC_chances iC_unsures iC_slips iC_throneNode iC_saidWorth iC_unit rC_kind rC_parts rC_partNodes rC_weights rC_weightSums rC_toldWorths rC_steps rC_below rC_above rC_unsureWords rC_unsureWorths), (arI rC_kind kC_kind 18 fC_kind), (arI rC_parts kC_parts 18 fC_parts), (arI rC_partNodes kC_partNodes 72 fC_partNodes), (arI rC_weights kC_weights 72 fC_weights), (arI rC_weightSums kC_weightSums 18 fC_weightSums), (arI rS_worths kS_worths 18 fS_worths)]) hD hS hA [9, 10, 1, 2, 3, 4, 5, 6, 8] rfl
    refine va_calli (va_runV (As := [.ref oC, .ref rS_worths]) (rest := []) ⟨hx, hb, hml, hown, hts⟩ (tX4_weighAll l dC dI _ oL rL_values fL_values kL_values rL_supposed oC iC_nodes iC_words iC_chances iC_unsures iC_slips iC_throneNode iC_saidWorth iC_unit rC_kind fC_kind kC_kind rC_parts fC_parts kC_parts rC_partNodes fC_partNodes kC_partNodes rC_weights fC_weights kC_weights rC_weightSums fC_weightSums kC_weightSums rC_toldWorths rC_steps rC_below rC_above rC_unsureWords rC_unsureWorths rS_worths fS_worths kS_worths b_iC_nodes b_iC_unsures b_iC_throneNode a_fC_parts a_fC_partNodes) (cwV 2 hts (wd_V wd_612 wd_613 wd_614 wd_37 (wd_c wd_615)) rfl rfl rfl dv_yX4_weighAll_2 ⟨Nat.le_of_ble_eq_true rfl, Nat.le_of_ble_eq_true rfl⟩) ⟨Pw.fb, recvX4 hK hP (q0 := 9) rfl, fun U hU hW => Pw.to (hP.sub [9, 10, 1, 2, 3, 4, 5, 6, 8] rfl) (hD.sub [9, 10, 1, 2, 3, 4, 5, 6, 8] (by decide) rfl) (hK.sub [6, 0, 1, 2, 3, 4, 5] rfl) hE hS hFc hU hW⟩ rfl rfl hl.1 rfl (lv_room (Nat.le_of_ble_eq_true rfl)) dX6_settles_24 ⟨Nat.le_of_ble_eq_true rfl, Nat.le_of_ble_eq_true rfl⟩) hS (fun q _ h => hFc q h) hFc (fun r u t H locs ht hvm hw hB hz1 hk1 hS => ?_)
    have hru9 := hw.2
    have hw := hw.1
    refine ex_1_1 hB (fun f_5383 e_f_5383_0 hB => ?_)
    obtain ⟨hP, hD, hK⟩ := Bw.go (ws' := [(oc6 oK oR oC oS oT rK_images iK_imageCount oA oH oL x_5379 iK_latestFault iK_latestPlace), (oc5 oS rS_worths rS_order rS_left), (oc4 oL rL_values rL_supposed), (arI rL_values kL_values 18 f_5383), (oc1 oC iC_nodes iC_words iC_chances iC_unsures iC_slips iC_throneNode iC_saidWorth iC_unit rC_kind rC_parts rC_partNodes rC_weights rC_weightSums rC_toldWorths rC_steps rC_below rC_above rC_unsureWords rC_unsureWorths), (arI rC_kind kC_kind 18 fC_kind), (arI rC_parts kC_parts 18 fC_parts), (arI rC_partNodes kC_partNodes 72 fC_partNodes), (arI rC_weights kC_weights 72 fC_weights), (arI rC_weightSums kC_weightSums 18 fC_weightSums), (arI rS_worths kS_worths 18 fS_worths)]) (tys' := [(kL_values, .int), (kC_kind, .int), (kC_parts, .int), (kC_partNodes, .int), (kC_weights, .int), (kC_weightSums, .int), (kS_worths, .int)]) hB rfl ht hvm hP hD hK [9, 10, 1, 2, 3, 4, 5, 6, 8] [0, 7] rfl (by decide) (by decide) [] hk1 hFc rfl rfl rfl
    clear hz1 hk1 hvm ht hB
    rw [← hru9] at e_f_5383_0
    obtain ⟨x_5384, rfl⟩ : ∃ z, z = r := ⟨_, rfl⟩
    have hG := hG.trans (un2_eq e_f_5383_0)
    refine lv_istore_n (lv' := [(1, .int x_5384), (0, .ref oK)]) hx hb dX6_settles_27 rfl hl (by decide) rfl (fun ls hl => ?_)
    refine lv_iconst (v := 0) hx hb dX6_settles_28 (by decide) ?_
    refine lv_istore_n (lv' := [(2, .int 0), (1, .int x_5384), (0, .ref oK)]) hx hb dX6_settles_29 rfl hl (by decide) rfl (fun ls hl => ?_)
    refine lv_aload_n hx hb dX6_settles_30 rfl (lv_at hl 2 rfl) ?_
    refine va_get (D := (dC, dI)) (ci := 6) (v := .ref oL) (C := RX6) (T := TX6) (N := 12) hx hb hts inX6 hown hK hP 0 rfl rfl 8 (by decide) (hts _ wd_38) (fun _ h9 => h9) rfl dX6_settles_31 ?_
    refine lv_aload_n hx hb dX6_settles_34 rfl (lv_at hl 2 rfl) ?_
    refine va_get (D := (dC, dI)) (ci := 6) (v := .ref oC) (C := RX6) (T := TX6) (N := 12) hx hb hts inX6 hown hK hP 0 rfl rfl 1 (by decide) (hts _ wd_20) (fun _ h9 => h9) rfl dX6_settles_35 ?_
    refine lv_aload_n hx hb dX6_settles_38 rfl (lv_at hl 2 rfl) ?_
    refine va_get (D := (dC, dI)) (ci := 6) (v := .ref oS) (C := RX6) (T := TX6) (N := 12) hx hb hts inX6 hown hK hP 0 rfl rfl 2 (by decide) (hts _ wd_24) (fun _ h9 => h9) rfl dX6_settles_39 ?_
    refine va_get (D := (dC, dI)) (ci := 5) (v := .ref rS_worths) (C := RX5) (T := TX5) (N := 3) hx hb hts inX5 hown hK hP 1 rfl rfl 0 (by decide) (hts _ wd_609) (fun _ h9 => h9) rfl dX6_settles_42 ?_
    have hMs := ml_of hD [false, false, true, true, true, true, false, false, false, false, true] (wc := [(oc4 oL rL_values rL_supposed), (arI rL_values kL_values 18 f_5383), (oc1 oC iC_nodes iC_words iC_chances iC_unsures iC_slips iC_throneNode iC_saidWorth iC_unit rC_kind rC_parts rC_partNodes rC_weights rC_weightSums rC_toldWorths rC_steps rC_below rC_above rC_unsureWords rC_unsureWorths), (arI rC_kind kC_kind 18 fC_kind), (arI rS_worths kS_worths 18 fS_worths)]) rfl
    have hFc := va_freeM hD hS hA _ hMs
    refine va_callv (va_runV (As := [.ref oC, .ref rS_worths]) (rest := []) ⟨hx, hb, hml, hown, hts⟩ (tX4_weighNightNone l dC dI _ oL rL_values f_5383 kL_values rL_supposed oC iC_nodes iC_words iC_chances iC_unsures iC_slips iC_throneNode iC_saidWorth iC_unit rC_kind fC_kind kC_kind rC_parts rC_partNodes rC_weights rC_weightSums rC_toldWorths rC_steps rC_below rC_above rC_unsureWords rC_unsureWorths rS_worths fS_worths kS_worths b_iC_nodes b_iC_unsures b_iC_throneNode) (cwV 2 hts (wd_V wd_1088 wd_1089 wd_1090 wd_37 (wd_c wd_1091)) rfl rfl rfl dv_yX4_weighNightNone_2 ⟨Nat.le_of_ble_eq_true rfl, Nat.le_of_ble_eq_true rfl⟩) ⟨Pw.fb, recvX4 hK hP (q0 := 2) rfl, fun U hU hW => Pw.to (hP.ms _ hMs) (hD.ms _ hMs) (hK.ms [true, true, false, false, false, false, true] rfl) hE hS hFc hU hW⟩ rfl rfl hl.1 rfl (lv_room (Nat.le_of_ble_eq_true rfl)) dX6_settles_45 ⟨Nat.le_of_ble_eq_true rfl, Nat.le_of_ble_eq_true rfl⟩) hS (fun q _ h => hFc q h) hFc (fun u t H locs ht hvm hw hB hz1 hk1 hS => ?_)
    refine ex_1_1 hB (fun f_5385 e_f_5385_0 hB => ?_)
    obtain ⟨hP, hD⟩ := Bw.goN (ws' := [(oc6 oK oR oC oS oT rK_images iK_imageCount oA oH oL x_5379 iK_latestFault iK_latestPlace), (oc5 oS rS_worths rS_order rS_left), (oc4 oL rL_values rL_supposed), (arI rL_values kL_values 18 f_5385), (oc1 oC iC_nodes iC_words iC_chances iC_unsures iC_slips iC_throneNode iC_saidWorth iC_unit rC_kind rC_parts rC_partNodes rC_weights rC_weightSums rC_toldWorths rC_steps rC_below rC_above rC_unsureWords rC_unsureWorths), (arI rC_kind kC_kind 18 fC_kind), (arI rC_parts kC_parts 18 fC_parts), (arI rC_partNodes kC_partNodes 72 fC_partNodes), (arI rC_weights kC_weights 72 fC_weights), (arI rC_weightSums kC_weightSums 18 fC_weightSums), (arI rS_worths kS_worths 18 fS_worths)]) hB rfl ht hP hD _ hMs hk1 hFc rfl
    clear hz1 hk1 hvm ht hB hMs
    have hG := hG.trans (lt_eq e_f_5385_0.symm)
    refine lv_iconst (v := 0) hx hb dX6_settles_48 (by decide) ?_
    refine lv_istore_n (lv' := [(3, .int 0), (2, .int 0), (1, .int x_5384), (0, .ref oK)]) hx hb dX6_settles_49 rfl hl (by decide) rfl (fun ls hl => ?_)
    have hl := lv_sub hl (l' := [(3, .int 0), (2, .int 0), (1, .int x_5384), (0, .ref oK)]) [0, 1, 2, 3] rfl
    have key_n_5389 : ∀ (n_5389 : Nat) (z_5386 : Int32) (z_5387 : Int32) (f_5388 : Nat → Int32) (H : Heap) (locs : List Loc) (ls : Array Slot), (0 ≤ z_5386.toInt ∧ z_5386.toInt ≤ 10) → (10 - z_5386.toInt).toNat < n_5389 → (PX6_settles iC_nodes iC_throneNode iC_unit fC_kind fC_parts fC_partNodes fC_weights fC_weightSums fS_worths fL_values = HX6_settles_0 iC_nodes iC_throneNode fC_kind fC_parts fC_partNodes fC_weights fC_weightSums x_5379 x_5384 n_5389 z_5386 z_5387 f_5388) → va_P (dC, dI) vwCl [(oc6 oK oR oC oS oT rK_images iK_imageCount oA oH oL x_5379 iK_latestFault iK_latestPlace), (oc5 oS rS_worths rS_order rS_left), (oc4 oL rL_values rL_supposed), (arI rL_values kL_values 18 f_5388), (oc1 oC iC_nodes iC_words iC_chances iC_unsures iC_slips iC_throneNode iC_saidWorth iC_unit rC_kind rC_parts rC_partNodes rC_weights rC_weightSums rC_toldWorths rC_steps rC_below rC_above rC_unsureWords rC_unsureWorths), (arI rC_kind kC_kind 18 fC_kind), (arI rC_parts kC_parts 18 fC_parts), (arI rC_partNodes kC_partNodes 72 fC_partNodes), (arI rC_weights kC_weights 72 fC_weights), (arI rC_weightSums kC_weightSums 18 fC_weightSums), (arI rS_worths kS_worths 18 fS_worths)] H → va_D A [(oc6 oK oR oC oS oT rK_images iK_imageCount oA oH oL x_5379 iK_latestFault iK_latestPlace), (oc5 oS rS_worths rS_order rS_left), (oc4 oL rL_values rL_supposed), (arI rL_values kL_values 18 f_5388), (oc1 oC iC_nodes iC_words iC_chances iC_unsures iC_slips iC_throneNode iC_saidWorth iC_unit rC_kind rC_parts rC_partNodes rC_weights rC_weightSums rC_toldWorths rC_steps rC_below rC_above rC_unsureWords rC_unsureWorths), (arI rC_kind kC_kind 18 fC_kind), (arI rC_parts kC_parts 18 fC_parts), (arI rC_partNodes kC_partNodes 72 fC_partNodes), (arI rC_weights kC_weights 72 fC_weights), (arI rC_weightSums kC_weightSums 18 fC_weightSums), (arI rS_worths kS_worths 18 fS_worths)] → va_S A s.heap H locs → lv_has ls 4 [(3, .int z_5386), (2, .int z_5387), (1, .int x_5384), (0, .ref oK)] → W p l e (headSpec (Cond.code yX6_settles cX6_settles 4 (some .int) :: wG) ({ frames := 3, cells := 0, slots := 0, locals := 71 })).room s m ([.ref oK] : List Value).toArray below meth c H locs 0 0 (MQ below (va_Qi (fun (r : Int32) (u : Nat) => (True ∧ True) ∧ r = Int32.ofNat u) (fun (u : Nat) (t : State) => ∃ (niK_refusal : Int32) (nfL_values : Nat → Int32), (PX6_settles iC_nodes iC_throneNode iC_unit fC_kind fC_parts fC_partNodes fC_weights fC_weightSums fS_worths fL_values = (Int32.ofNat u, niK_refusal, nfL_values)) ∧ Bw dC dI A [(oc6 oK oR oC oS oT rK_images iK_imageCount oA oH oL niK_refusal iK_latestFault iK_latestPlace), (oc1 oC iC_nodes iC_words iC_chances iC_unsures iC_slips iC_throneNode iC_saidWorth iC_unit rC_kind rC_parts rC_partNodes rC_weights rC_weightSums rC_toldWorths rC_steps rC_below rC_above rC_unsureWords rC_unsureWorths), (arI rC_kind kC_kind 18 fC_kind), (arI rC_parts kC_parts 18 fC_parts), (arI rC_partNodes kC_partNodes 72 fC_partNodes), (arI rC_weights kC_weights 72 fC_weights), (arI rC_weightSums kC_weightSums 18 fC_weightSums), (oc5 oS rS_worths rS_order rS_left), (arI rS_worths kS_worths 18 fS_worths), (oc4 oL rL_values rL_supposed), (arI rL_values kL_values 18 nfL_values)] [(kC_kind, .int), (kC_parts, .int), (kC_partNodes, .int), (kC_weights, .int), (kC_weightSums, .int), (kS_worths, .int), (kL_values, .int)] t) A) ([.ref oK] : List Value).toArray s 0 0 A) (F0 m 50 ls []) := by
      intro n_5389
      induction n_5389 with
      | zero => intro z_5386 z_5387 f_5388 H locs ls hi0_n_5389 hm; exact absurd hm (Nat.not_lt_zero _)
      | succ n_5389 ih_n_5389 =>
        intro z_5386 z_5387 f_5388 H locs ls hi0_n_5389 hm_n_5389 hG hP hD hS hl
        have hG := hG.trans (HX6_settles_0_eq _ _ _ _ _ _ _ _ _ _ _ _ _)
        refine lv_iload_n hx hb dX6_settles_50 rfl (lv_at hl 0 rfl) ?_
        refine lv_bipush (v := 9) hx hb dX6_settles_51 (by decide) ?_
        refine lv_icmp_gt (tgt := 96) hx hb dX6_settles_53 (by decide) (fun c_5390 => ?_) (fun c_5390 => ?_)
        · skip
          have hG := hG.trans (if_pos c_5390)
          have gc_5390 := ti_lt c_5390 kc_9 rfl
          refine lv_iload_n hx hb dX6_settles_96 rfl (lv_at hl 1 rfl) ?_
          exact wq_i hx hb hr (cI z_5387) ⟨⟨trivial, trivial⟩, (cI_of z_5387)⟩ (fun t ht hW => ⟨x_5379, f_5388, (cI_tup hG), Bw.to (hP.sub [0, 4, 5, 6, 7, 8, 9, 1, 10, 2, 3] rfl) (hD.sub [0, 4, 5, 6, 7, 8, 9, 1, 10, 2, 3] (by decide) rfl) (hK.sub [1, 2, 3, 4, 5, 6, 0] rfl) ht hW⟩) hS dX6_settles_97 hlocks
        · skip
          have hG := hG.trans (if_neg c_5390)
          have gc_5390 := ti_nlt c_5390 kc_9 rfl
          refine lv_aload_n hx hb dX6_settles_56 rfl (lv_at hl 3 rfl) ?_
          refine va_get (D := (dC, dI)) (ci := 6) (v := .ref oL) (C := RX6) (T := TX6) (N := 12) hx hb hts inX6 hown hK hP 0 rfl rfl 8 (by decide) (hts _ wd_38) (fun _ h9 => h9) rfl dX6_settles_57 ?_
          refine va_get (D := (dC, dI)) (ci := 4) (v := .ref rL_values) (C := RX4) (T := TX4) (N := 2) hx hb hts inX4 hown hK hP 2 rfl rfl 0 (by decide) (hts _ wd_610) (fun _ h9 => h9) rfl dX6_settles_60 ?_
          refine lv_aload_n hx hb dX6_settles_63 rfl (lv_at hl 3 rfl) ?_
          refine va_get (D := (dC, dI)) (ci := 6) (v := .ref oC) (C := RX6) (T := TX6) (N := 12) hx hb hts inX6 hown hK hP 0 rfl rfl 1 (by decide) (hts _ wd_20) (fun _ h9 => h9) rfl dX6_settles_64 ?_
          refine va_get (D := (dC, dI)) (ci := 1) (v := .int iC_throneNode) (C := RX1) (T := TX1) (N := 19) hx hb hts inX1 hown hK hP 4 rfl rfl 5 (by decide) (hts _ wd_595) (fun _ h9 => h9) rfl dX6_settles_67 ?_
          have thr9 : 0 ≤ iC_throneNode.toInt := by omega
          refine va_iald hx hb hK hP 3 0 rfl rfl (ti_in rfl thr9 (om_b3735a34 b_iC_throneNode.2)) dX6_settles_70 ?_
          refine lv_topi (fun x_5391 ex_5391 => ?_)
          have hG := hG.trans (lt_eq ex_5391)
          have kx_5391 : (f_5388 iC_throneNode.toNatClampNeg).toInt = x_5391.toInt := by rw [ex_5391]
          refine lv_iload_n hx hb dX6_settles_71 rfl (lv_at hl 2 rfl) ?_
          refine lv_icmp_eq (tgt := 79) hx hb dX6_settles_72 (by decide) (fun c_5392 => ?_) (fun c_5392 => ?_)
          · skip
            have hG := hG.trans (if_pos c_5392)
            have gc_5392 := ti_eq c_5392 rfl rfl
            refine lv_aload_n hx hb dX6_settles_79 rfl (lv_at hl 3 rfl) ?_
            refine va_get (D := (dC, dI)) (ci := 6) (v := .ref oL) (C := RX6) (T := TX6) (N := 12) hx hb hts inX6 hown hK hP 0 rfl rfl 8 (by decide) (hts _ wd_38) (fun _ h9 => h9) rfl dX6_settles_80 ?_
            refine lv_aload_n hx hb dX6_settles_83 rfl (lv_at hl 3 rfl) ?_
            refine va_get (D := (dC, dI)) (ci := 6) (v := .ref oC) (C := RX6) (T := TX6) (N := 12) hx hb hts inX6 hown hK hP 0 rfl rfl 1 (by decide) (hts _ wd_20) (fun _ h9 => h9) rfl dX6_settles_84 ?_
            have hMs := ml_of hD [false, false, true, true, true, true, true, true, true, true, false] (wc := [(oc4 oL rL_values rL_supposed), (arI rL_values kL_values 18 f_5388), (oc1 oC iC_nodes iC_words iC_chances iC_unsures iC_slips iC_throneNode iC_saidWorth iC_unit rC_kind rC_parts rC_partNodes rC_weights rC_weightSums rC_toldWorths rC_steps rC_below rC_above rC_unsureWords rC_unsureWorths), (arI rC_kind kC_kind 18 fC_kind), (arI rC_parts kC_parts 18 fC_parts), (arI rC_partNodes kC_partNodes 72 fC_partNodes), (arI rC_weights kC_weights 72 fC_weights), (arI rC_weightSums kC_weightSums 18 fC_weightSums)]) rfl
            have hFc := va_freeM hD hS hA _ hMs
            refine va_callv (va_runV (As := [.ref oC]) (rest := []) ⟨hx, hb, hml, hown, hts⟩ (tX4_weighNextNight l dC dI _ oL rL_values f_5388 kL_values rL_supposed oC iC_nodes iC_words iC_chances iC_unsures iC_slips iC_throneNode iC_saidWorth iC_unit rC_kind fC_kind kC_kind rC_parts fC_parts kC_parts rC_partNodes fC_partNodes kC_partNodes rC_weights fC_weights kC_weights rC_weightSums fC_weightSums kC_weightSums rC_toldWorths rC_steps rC_below rC_above rC_unsureWords rC_unsureWorths b_iC_nodes b_iC_unsures b_iC_throneNode a_fC_parts a_fC_partNodes) (cwV 1 hts (wd_V wd_1092 wd_1093 wd_1094 wd_37 (wd_c wd_1095)) rfl rfl rfl dv_yX4_weighNextNight_1 ⟨Nat.le_of_ble_eq_true rfl, Nat.le_of_ble_eq_true rfl⟩) ⟨Pw.fb, recvX4 hK hP (q0 := 2) rfl, fun U hU hW => Pw.to (hP.ms _ hMs) (hD.ms _ hMs) (hK.ms [true, true, true, true, true, true, false] rfl) hE hS hFc hU hW⟩ rfl rfl hl.1 rfl (lv_room (Nat.le_of_ble_eq_true rfl)) dX6_settles_87 ⟨Nat.le_of_ble_eq_true rfl, Nat.le_of_ble_eq_true rfl⟩) hS (fun q _ h => hFc q h) hFc (fun u t H locs ht hvm hw hB hz1 hk1 hS => ?_)
            refine ex_1_1 hB (fun f_5393 e_f_5393_0 hB => ?_)
            obtain ⟨hP, hD⟩ := Bw.goN (ws' := [(oc6 oK oR oC oS oT rK_images iK_imageCount oA oH oL x_5379 iK_latestFault iK_latestPlace), (oc5 oS rS_worths rS_order rS_left), (oc4 oL rL_values rL_supposed), (arI rL_values kL_values 18 f_5393), (oc1 oC iC_nodes iC_words iC_chances iC_unsures iC_slips iC_throneNode iC_saidWorth iC_unit rC_kind rC_parts rC_partNodes rC_weights rC_weightSums rC_toldWorths rC_steps rC_below rC_above rC_unsureWords rC_unsureWorths), (arI rC_kind kC_kind 18 fC_kind), (arI rC_parts kC_parts 18 fC_parts), (arI rC_partNodes kC_partNodes 72 fC_partNodes), (arI rC_weights kC_weights 72 fC_weights), (arI rC_weightSums kC_weightSums 18 fC_weightSums), (arI rS_worths kS_worths 18 fS_worths)]) hB rfl ht hP hD _ hMs hk1 hFc rfl
            clear hz1 hk1 hvm ht hB hMs
            have hG := hG.trans (lt_eq e_f_5393_0.symm)
            obtain ⟨x_5394, ex_5394⟩ : ∃ z : Int32, z = z_5386 + Int32.ofInt 1 := ⟨_, rfl⟩
            have hG := hG.trans (lt_eq ex_5394)
            have vx_5394 : x_5394.toInt = z_5386.toInt + 1 := ti_add (y := 1) ex_5394 rfl kc_1 (om_4e4fce7e hi0_n_5389.1) (om_83344fb1 hi0_n_5389.2)
            refine lv_iinc (v := x_5394) (lv' := [(3, .int x_5394), (2, .int z_5387), (1, .int x_5384), (0, .ref oK)]) hx hb dX6_settles_90 hl (k := 0) rfl ex_5394.symm (by decide) rfl (fun ls hl => ?_)
            refine lv_goto (tgt := 50) hx hb dX6_settles_93 (by decide) ?_
            exact ih_n_5389 x_5394 z_5387 f_5393 _ _ _  ⟨(om_83b90de5 hi0_n_5389.1 vx_5394), (om_a596ea43 gc_5390 vx_5394)⟩ (ms_lt hm_n_5389 (om_73004bc9 vx_5394) (om_8ed03fa4 gc_5390)) hG hP hD hS (lv_sub hl [0, 1, 2, 3] rfl)
          · skip
            have hG := hG.trans (if_neg c_5392)
            have gc_5392 := ti_ne c_5392 rfl rfl
            refine lv_iload_n hx hb dX6_settles_75 rfl (lv_at hl 0 rfl) ?_
            refine lv_iconst (v := 1) hx hb dX6_settles_76 (by decide) ?_
            refine lv_iadd hx hb dX6_settles_77 ?_
            refine lv_topi (fun x_5395 ex_5395 => ?_)
            have hG := hG.trans (lt_eq ex_5395)
            have vx_5395 : x_5395.toInt = z_5386.toInt + 1 := ti_add ex_5395 rfl kc_1 (om_4e4fce7e hi0_n_5389.1) (om_83344fb1 hi0_n_5389.2)
            refine lv_istore_n (lv' := [(2, .int x_5395), (3, .int z_5386), (1, .int x_5384), (0, .ref oK)]) hx hb dX6_settles_78 rfl hl (by decide) rfl (fun ls hl => ?_)
            refine lv_aload_n hx hb dX6_settles_79 rfl (lv_at hl 3 rfl) ?_
            refine va_get (D := (dC, dI)) (ci := 6) (v := .ref oL) (C := RX6) (T := TX6) (N := 12) hx hb hts inX6 hown hK hP 0 rfl rfl 8 (by decide) (hts _ wd_38) (fun _ h9 => h9) rfl dX6_settles_80 ?_
            refine lv_aload_n hx hb dX6_settles_83 rfl (lv_at hl 3 rfl) ?_
            refine va_get (D := (dC, dI)) (ci := 6) (v := .ref oC) (C := RX6) (T := TX6) (N := 12) hx hb hts inX6 hown hK hP 0 rfl rfl 1 (by decide) (hts _ wd_20) (fun _ h9 => h9) rfl dX6_settles_84 ?_
            have hMs := ml_of hD [false, false, true, true, true, true, true, true, true, true, false] (wc := [(oc4 oL rL_values rL_supposed), (arI rL_values kL_values 18 f_5388), (oc1 oC iC_nodes iC_words iC_chances iC_unsures iC_slips iC_throneNode iC_saidWorth iC_unit rC_kind rC_parts rC_partNodes rC_weights rC_weightSums rC_toldWorths rC_steps rC_below rC_above rC_unsureWords rC_unsureWorths), (arI rC_kind kC_kind 18 fC_kind), (arI rC_parts kC_parts 18 fC_parts), (arI rC_partNodes kC_partNodes 72 fC_partNodes), (arI rC_weights kC_weights 72 fC_weights), (arI rC_weightSums kC_weightSums 18 fC_weightSums)]) rfl
            have hFc := va_freeM hD hS hA _ hMs
            refine va_callv (va_runV (As := [.ref oC]) (rest := []) ⟨hx, hb, hml, hown, hts⟩ (tX4_weighNextNight l dC dI _ oL rL_values f_5388 kL_values rL_supposed oC iC_nodes iC_words iC_chances iC_unsures iC_slips iC_throneNode iC_saidWorth iC_unit rC_kind fC_kind kC_kind rC_parts fC_parts kC_parts rC_partNodes fC_partNodes kC_partNodes rC_weights fC_weights kC_weights rC_weightSums fC_weightSums kC_weightSums rC_toldWorths rC_steps rC_below rC_above rC_unsureWords rC_unsureWorths b_iC_nodes b_iC_unsures b_iC_throneNode a_fC_parts a_fC_partNodes) (cwV 1 hts (wd_V wd_1092 wd_1093 wd_1094 wd_37 (wd_c wd_1095)) rfl rfl rfl dv_yX4_weighNextNight_1 ⟨Nat.le_of_ble_eq_true rfl, Nat.le_of_ble_eq_true rfl⟩) ⟨Pw.fb, recvX4 hK hP (q0 := 2) rfl, fun U hU hW => Pw.to (hP.ms _ hMs) (hD.ms _ hMs) (hK.ms [true, true, true, true, true, true, false] rfl) hE hS hFc hU hW⟩ rfl rfl hl.1 rfl (lv_room (Nat.le_of_ble_eq_true rfl)) dX6_settles_87 ⟨Nat.le_of_ble_eq_true rfl, Nat.le_of_ble_eq_true rfl⟩) hS (fun q _ h => hFc q h) hFc (fun u t H locs ht hvm hw hB hz1 hk1 hS => ?_)
            refine ex_1_1 hB (fun f_5396 e_f_5396_0 hB => ?_)
            obtain ⟨hP, hD⟩ := Bw.goN (ws' := [(oc6 oK oR oC oS oT rK_images iK_imageCount oA oH oL x_5379 iK_latestFault iK_latestPlace), (oc5 oS rS_worths rS_order rS_left), (oc4 oL rL_values rL_supposed), (arI rL_values kL_values 18 f_5396), (oc1 oC iC_nodes iC_words iC_chances iC_unsures iC_slips iC_throneNode iC_saidWorth iC_unit rC_kind rC_parts rC_partNodes rC_weights rC_weightSums rC_toldWorths rC_steps rC_below rC_above rC_unsureWords rC_unsureWorths), (arI rC_kind kC_kind 18 fC_kind), (arI rC_parts kC_parts 18 fC_parts), (arI rC_partNodes kC_partNodes 72 fC_partNodes), (arI rC_weights kC_weights 72 fC_weights), (arI rC_weightSums kC_weightSums 18 fC_weightSums), (arI rS_worths kS_worths 18 fS_worths)]) hB rfl ht hP hD _ hMs hk1 hFc rfl
            clear hz1 hk1 hvm ht hB hMs
            have hG := hG.trans (lt_eq e_f_5396_0.symm)
            obtain ⟨x_5397, ex_5397⟩ : ∃ z : Int32, z = z_5386 + Int32.ofInt 1 := ⟨_, rfl⟩
            have hG := hG.trans (lt_eq ex_5397)
            have vx_5397 : x_5397.toInt = z_5386.toInt + 1 := ti_add (y := 1) ex_5397 rfl kc_1 (om_4e4fce7e hi0_n_5389.1) (om_83344fb1 hi0_n_5389.2)
            refine lv_iinc (v := x_5397) (lv' := [(3, .int x_5397), (2, .int x_5395), (1, .int x_5384), (0, .ref oK)]) hx hb dX6_settles_90 hl (k := 1) rfl ex_5397.symm (by decide) rfl (fun ls hl => ?_)
            refine lv_goto (tgt := 50) hx hb dX6_settles_93 (by decide) ?_
            exact ih_n_5389 x_5397 x_5395 f_5396 _ _ _  ⟨(om_83b90de5 hi0_n_5389.1 vx_5397), (om_a596ea43 gc_5390 vx_5397)⟩ (ms_lt hm_n_5389 (om_73004bc9 vx_5397) (om_8ed03fa4 gc_5390)) hG hP hD hS (lv_sub hl [0, 1, 2, 3] rfl)
    exact key_n_5389 (((10 - (0 : Int32).toInt).toNat) + 1) 0 0 f_5385 _ _ _  ⟨(om_b1de7dbe kc_0), (om_3bc63eac kc_0)⟩ (Nat.lt_add_one _) hG hP hD hS hl
  · skip
    have hG := hG.trans (un2_eq e_x_5379_0)
    have hG := hG.trans (if_neg (by decide))
    refine lv_if_eq (tgt := 9) hx hb dX6_settles_4 (by decide) (fun c => absurd c (by decide)) (fun _ => ?_)
    refine lv_iconst (v := (-1)) hx hb dX6_settles_7 (by decide) ?_
    exact wq_i hx hb hr (cI (-1)) ⟨⟨trivial, trivial⟩, (cI_of (-1))⟩ (fun t ht hW => ⟨x_5379, fL_values, (cI_tup hG), Bw.to hP hD hK ht hW⟩) hS dX6_settles_8 hlocks
set_option maxHeartbeats 4000000 in
set_option maxRecDepth 100000 in
theorem tX6_leastTurnTowards (l : Launch) (dC : Nat → ClassId) (dI : Nat → Nat → Nat) (sz : Nat) (oK : Nat) (oR : Nat) (oC : Nat) (oS : Nat) (oT : Nat) (rK_images : Nat) (iK_imageCount : Int32) (oA : Nat) (oH : Nat) (oL : Nat) (iK_refusal : Int32) (iK_latestFault : Int32) (iK_latestPlace : Int32) (iC_nodes : Int32) (iC_words : Int32) (iC_chances : Int32) (iC_unsures : Int32) (iC_slips : Int32) (iC_throneNode : Int32) (iC_saidWorth : Int32) (iC_unit : Int32) (rC_kind : Nat) (fC_kind : Nat → Int32) (kC_kind : ClassId) (rC_parts : Nat) (fC_parts : Nat → Int32) (kC_parts : ClassId) (rC_partNodes : Nat) (fC_partNodes : Nat → Int32) (kC_partNodes : ClassId) (rC_weights : Nat) (fC_weights : Nat → Int32) (kC_weights : ClassId) (rC_weightSums : Nat) (fC_weightSums : Nat → Int32) (kC_weightSums : ClassId) (rC_toldWorths : Nat) (rC_steps : Nat) (rC_below : Nat) (rC_above : Nat) (rC_unsureWords : Nat) (rC_unsureWorths : Nat) (rS_worths : Nat) (fS_worths : Nat → Int32) (kS_worths : ClassId) (rS_order : Nat) (rS_left : Nat) (rL_values : Nat) (fL_values : Nat → Int32) (kL_values : ClassId) (rL_supposed : Nat) (fL_supposed : Nat → Int32) (kL_supposed : ClassId) (p0 : Int32) (p1 : Int32) (p2 : Int32) (p3 : Int32) (b_iK_imageCount : 0 ≤ iK_imageCount.toInt ∧ iK_imageCount.toInt ≤ 3) (b_iC_nodes : 0 ≤ iC_nodes.toInt ∧ iC_nodes.toInt ≤ 18) (b_iC_unsures : 0 ≤ iC_unsures.toInt ∧ iC_unsures.toInt ≤ 4) (b_iC_throneNode : (-1) ≤ iC_throneNode.toInt ∧ iC_throneNode.toInt ≤ 17) (a_fC_parts : ∀ j : Nat, j < 18 → 0 ≤ (fC_parts j).toInt ∧ (fC_parts j).toInt ≤ 4) (a_fC_partNodes : ∀ j : Nat, j < 72 → 0 ≤ (fC_partNodes j).toInt ∧ (fC_partNodes j).toInt ≤ 17) (hp0 : 0 ≤ p0.toInt ∧ p0.toInt ≤ 17) : Met l yX6_leastTurnTowards (Cond.code yX6_leastTurnTowards cX6_leastTurnTowards 9 (some .int) :: wG) ({ frames := 4, cells := 0, slots := 0, locals := 95 }) (va_Pc [.ref oK, .int p0, .int p1, .int p2, .int p3] (Pw dC dI sz [(oc6 oK oR oC oS oT rK_images iK_imageCount oA oH oL iK_refusal iK_latestFault iK_latestPlace), (oc1 oC iC_nodes iC_words iC_chances iC_unsures iC_slips iC_throneNode iC_saidWorth iC_unit rC_kind rC_parts rC_partNodes rC_weights rC_weightSums rC_toldWorths rC_steps rC_below rC_above rC_unsureWords rC_unsureWorths), (arI rC_kind kC_kind 18 fC_kind), (arI rC_parts kC_parts 18 fC_parts), (arI rC_partNodes kC_partNodes 72 fC_partNodes), (arI rC_weights kC_weights 72 fC_weights), (arI rC_weightSums kC_weightSums 18 fC_weightSums), (oc5 oS rS_worths rS_order rS_left), (arI rS_worths kS_worths 18 fS_worths), (oc4 oL rL_values rL_supposed), (arI rL_values kL_values 18 fL_values), (arI rL_supposed kL_supposed 18 fL_supposed)] [(kC_kind, .int), (kC_parts, .int), (kC_partNodes, .int), (kC_weights, .int), (kC_weightSums, .int), (kS_worths, .int), (kL_values, .int), (kL_supposed, .int)])) (va_Qi (fun (r : Int32) (u : Nat) => (True ∧ True) ∧ r = Int32.ofNat u) (fun (u : Nat) (t : State) => ∃ (nfL_values : Nat → Int32) (nfL_supposed : Nat → Int32), (PX6_leastTurnTowards iC_nodes iC_throneNode iC_unit fC_kind fC_parts fC_partNodes fC_weights fC_weightSums fS_worths fL_values fL_supposed p0 p1 p2 p3 = (Int32.ofNat u, nfL_values, nfL_supposed)) ∧ Bw dC dI (va_A [(oc6 oK oR oC oS oT rK_images iK_imageCount oA oH oL iK_refusal iK_latestFault iK_latestPlace), (oc1 oC iC_nodes iC_words iC_chances iC_unsures iC_slips iC_throneNode iC_saidWorth iC_unit rC_kind rC_parts rC_partNodes rC_weights rC_weightSums rC_toldWorths rC_steps rC_below rC_above rC_unsureWords rC_unsureWorths), (arI rC_kind kC_kind 18 fC_kind), (arI rC_parts kC_parts 18 fC_parts), (arI rC_partNodes kC_partNodes 72 fC_partNodes), (arI rC_weights kC_weights 72 fC_weights), (arI rC_weightSums kC_weightSums 18 fC_weightSums), (oc5 oS rS_worths rS_order rS_left), (arI rS_worths kS_worths 18 fS_worths), (oc4 oL rL_values rL_supposed), (arI rL_values kL_values 18 fL_values), (arI rL_supposed kL_supposed 18 fL_supposed)] sz) [(oc6 oK oR oC oS oT rK_images iK_imageCount oA oH oL iK_refusal iK_latestFault iK_latestPlace), (oc1 oC iC_nodes iC_words iC_chances iC_unsures iC_slips iC_throneNode iC_saidWorth iC_unit rC_kind rC_parts rC_partNodes rC_weights rC_weightSums rC_toldWorths rC_steps rC_below rC_above rC_unsureWords rC_unsureWorths), (arI rC_kind kC_kind 18 fC_kind), (arI rC_parts kC_parts 18 fC_parts), (arI rC_partNodes kC_partNodes 72 fC_partNodes), (arI rC_weights kC_weights 72 fC_weights), (arI rC_weightSums kC_weightSums 18 fC_weightSums), (oc5 oS rS_worths rS_order rS_left), (arI rS_worths kS_worths 18 fS_worths), (oc4 oL rL_values rL_supposed), (arI rL_values kL_values 18 nfL_values), (arI rL_supposed kL_supposed 18 nfL_supposed)] [(kC_kind, .int), (kC_parts, .int), (kC_partNodes, .int), (kC_weights, .int), (kC_weightSums, .int), (kS_worths, .int), (kL_values, .int), (kL_supposed, .int)] t) (va_A [(oc6 oK oR oC oS oT rK_images iK_imageCount oA oH oL iK_refusal iK_latestFault iK_latestPlace), (oc1 oC iC_nodes iC_words iC_chances iC_unsures iC_slips iC_throneNode iC_saidWorth iC_unit rC_kind rC_parts rC_partNodes rC_weights rC_weightSums rC_toldWorths rC_steps rC_below rC_above rC_unsureWords rC_unsureWorths), (arI rC_kind kC_kind 18 fC_kind), (arI rC_parts kC_parts 18 fC_parts), (arI rC_partNodes kC_partNodes 72 fC_partNodes), (arI rC_weights kC_weights 72 fC_weights), (arI rC_weightSums kC_weightSums 18 fC_weightSums), (oc5 oS rS_worths rS_order rS_left), (arI rS_worths kS_worths 18 fS_worths), (oc4 oL rL_values rL_supposed), (arI rL_values kL_values 18 fL_values), (arI rL_supposed kL_supposed 18 fL_supposed)] sz)) 0 0 (va_A [(oc6 oK oR oC oS oT rK_images iK_imageCount oA oH oL iK_refusal iK_latestFault iK_latestPlace), (oc1 oC iC_nodes iC_words iC_chances iC_unsures iC_slips iC_throneNode iC_saidWorth iC_unit rC_kind rC_parts rC_partNodes rC_weights rC_weightSums rC_toldWorths rC_steps rC_below rC_above rC_unsureWords rC_unsureWorths), (arI rC_kind kC_kind 18 fC_kind), (arI rC_parts kC_parts 18 fC_parts), (arI rC_partNodes kC_partNodes 72 fC_partNodes), (arI rC_weights kC_weights 72 fC_weights), (arI rC_weightSums kC_weightSums 18 fC_weightSums), (oc5 oS rS_worths rS_order rS_left), (arI rS_worths kS_worths 18 fS_worths), (oc4 oL rL_values rL_supposed), (arI rL_values kL_values 18 fL_values), (arI rL_supposed kL_supposed 18 fL_supposed)] sz) := by
  refine Met.ofW (cc := cX6_leastTurnTowards) (maxL := 9) (ret := (some .int)) pnX6 rfl ?_
  intro p e s m args below meth c s₁ B hml hv
  obtain ⟨rfl, hsz, hP, hK, hD0, hE⟩ := hv
  have hx := B.exec
  have hb := B.bytes
  have hr := B.returns
  have hts : ∀ w ∈ wG, w.before ([.ref oK, .int p0, .int p1, .int p2, .int p3] : List Value).toArray s = true := fun w h => atoms_spec (ws := Cond.code yX6_leastTurnTowards cX6_leastTurnTowards 9 (some .int) :: wG) B.pre w (List.mem_cons_of_mem _ h)
  have hown : s.vm.findClass RX6 = some m.cls := own_of B.named rfl
  have hlocks := B.notSynchronized
  subst hsz
  have hD := hD0.self (sz := s.heap.size)
  generalize hAe : va_A [(oc6 oK oR oC oS oT rK_images iK_imageCount oA oH oL iK_refusal iK_latestFault iK_latestPlace), (oc1 oC iC_nodes iC_words iC_chances iC_unsures iC_slips iC_throneNode iC_saidWorth iC_unit rC_kind rC_parts rC_partNodes rC_weights rC_weightSums rC_toldWorths rC_steps rC_below rC_above rC_unsureWords rC_unsureWorths), (arI rC_kind kC_kind 18 fC_kind), (arI rC_parts kC_parts 18 fC_parts), (arI rC_partNodes kC_partNodes 72 fC_partNodes), (arI rC_weights kC_weights 72 fC_weights), (arI rC_weightSums kC_weightSums 18 fC_weightSums), (oc5 oS rS_worths rS_order rS_left), (arI rS_worths kS_worths 18 fS_worths), (oc4 oL rL_values rL_supposed), (arI rL_values kL_values 18 fL_values), (arI rL_supposed kL_supposed 18 fL_supposed)] s.heap.size = A at hD hE ⊢
  have hA : ∀ q : Nat, s.heap.size ≤ q → A q := fun q h => by rw [← hAe]; exact Or.inr h
  have hS : va_S A s.heap s.heap [] := va_S.rf
  have hl := lv_entry ([.ref oK, .int p0, .int p1, .int p2, .int p3]) (n := 9) (Nat.le_of_ble_eq_true rfl)
  rw [lg_entry_eq]
  generalize (lg_sl ([.ref oK, .int p0, .int p1, .int p2, .int p3]) ++ List.replicate (9 - (lg_sl ([.ref oK, .int p0, .int p1, .int p2, .int p3])).length) Slot.unset).toArray = ls at hl ⊢
  have hl : lv_has ls 9 [(0, .ref oK), (1, .int p0), (2, .int p1), (3, .int p2), (4, .int p3)] := hl
  have hG := PX6_leastTurnTowards_eq iC_nodes iC_throneNode iC_unit fC_kind fC_parts fC_partNodes fC_weights fC_weightSums fS_worths fL_values fL_supposed p0 p1 p2 p3
  have rg_p0 := fb_rng p0
  have rg_p1 := fb_rng p1
  have rg_p2 := fb_rng p2
  have rg_p3 := fb_rng p3
  refine lv_aload_n hx hb dX6_leastTurnTowards_0 rfl (lv_at hl 0 rfl) ?_
  refine va_get (D := (dC, dI)) (ci := 6) (v := .ref oL) (C := RX6) (T := TX6) (N := 12) hx hb hts inX6 hown hK hP 0 rfl rfl 8 (by decide) (hts _ wd_38) (fun _ h9 => h9) rfl dX6_leastTurnTowards_1 ?_
  refine lv_aload_n hx hb dX6_leastTurnTowards_4 rfl (lv_at hl 0 rfl) ?_
  refine va_get (D := (dC, dI)) (ci := 6) (v := .ref oC) (C := RX6) (T := TX6) (N := 12) hx hb hts inX6 hown hK hP 0 rfl rfl 1 (by decide) (hts _ wd_20) (fun _ h9 => h9) rfl dX6_leastTurnTowards_5 ?_
  refine lv_aload_n hx hb dX6_leastTurnTowards_8 rfl (lv_at hl 0 rfl) ?_
  refine va_get (D := (dC, dI)) (ci := 6) (v := .ref oS) (C := RX6) (T := TX6) (N := 12) hx hb hts inX6 hown hK hP 0 rfl rfl 2 (by decide) (hts _ wd_24) (fun _ h9 => h9) rfl dX6_leastTurnTowards_9 ?_
  refine lv_iload_n hx hb dX6_leastTurnTowards_12 rfl (lv_at hl 1 rfl) ?_
  refine lv_aload_n hx hb dX6_leastTurnTowards_13 rfl (lv_at hl 0 rfl) ?_
  refine va_get (D := (dC, dI)) (ci := 6) (v := .ref oS) (C := RX6) (T := TX6) (N := 12) hx hb hts inX6 hown hK hP 0 rfl rfl 2 (by decide) (hts _ wd_24) (fun _ h9 => h9) rfl dX6_leastTurnTowards_14 ?_
  refine va_get (D := (dC, dI)) (ci := 5) (v := .ref rS_worths) (C := RX5) (T := TX5) (N := 3) hx hb hts inX5 hown hK hP 7 rfl rfl 0 (by decide) (hts _ wd_609) (fun _ h9 => h9) rfl dX6_leastTurnTowards_17 ?_
  refine lv_iload_n hx hb dX6_leastTurnTowards_20 rfl (lv_at hl 1 rfl) ?_
  refine va_iald hx hb hK hP 8 5 rfl rfl (ti_in rfl hp0.1 (om_b3735a34 hp0.2)) dX6_leastTurnTowards_21 ?_
  refine lv_topi (fun x_5473 ex_5473 => ?_)
  have hG := hG.trans (lt_eq ex_5473)
  have rg_x_5473 := fb_rng x_5473
  have kx_5473 : (fS_worths p0.toNatClampNeg).toInt = x_5473.toInt := by rw [ex_5473]
  refine lv_iload_n hx hb dX6_leastTurnTowards_22 rfl (lv_at hl 2 rfl) ?_
  refine lv_iload_n hx hb dX6_leastTurnTowards_23 rfl (lv_at hl 3 rfl) ?_
  refine lv_imul hx hb dX6_leastTurnTowards_24 ?_
  refine lv_topi (fun x_5474 ex_5474 => ?_)
  have hG := hG.trans (lt_eq ex_5474)
  have rg_x_5474 := fb_rng x_5474
  refine lv_iadd hx hb dX6_leastTurnTowards_25 ?_
  refine lv_topi (fun x_5475 ex_5475 => ?_)
  have hG := hG.trans (lt_eq ex_5475)
  have rg_x_5475 := fb_rng x_5475
  have hFc := va_free (wc := [(oc4 oL rL_values rL_supposed), (arI rL_values kL_values 18 fL_values), (arI rL_supposed kL_supposed 18 fL_supposed), (oc1 oC iC_nodes iC_words iC_chances iC_unsures iC_slips iC_throneNode iC_saidWorth iC_unit rC_kind rC_parts rC_partNodes rC_weights rC_weightSums rC_toldWorths rC_steps rC_below rC_above rC_unsureWords rC_unsureWorths), (arI rC_kind kC_kind 18 fC_kind), (arI rC_parts kC_parts 18 fC_parts), (arI rC_partNodes kC_partNodes 72 fC_partNodes), (arI rC_weights kC_weights 72 fC_weights), (arI rC_weightSums kC_weightSums 18 fC_weightSums), (oc5 oS rS_worths rS_order rS_left), (arI rS_worths kS_worths 18 fS_worths)]) hD hS hA [9, 10, 11, 1, 2, 3, 4, 5, 6, 7, 8] rfl
  refine va_calli (va_runV (As := [.ref oC, .ref oS, .int p0, .int x_5475]) (rest := []) ⟨hx, hb, hml, hown, hts⟩ (tX4_throneByWord l dC dI _ oL rL_values fL_values kL_values rL_supposed fL_supposed kL_supposed oC iC_nodes iC_words iC_chances iC_unsures iC_slips iC_throneNode iC_saidWorth iC_unit rC_kind fC_kind kC_kind rC_parts fC_parts kC_parts rC_partNodes fC_partNodes kC_partNodes rC_weights fC_weights kC_weights rC_weightSums fC_weightSums kC_weightSums rC_toldWorths rC_steps rC_below rC_above rC_unsureWords rC_unsureWorths oS rS_worths fS_worths kS_worths rS_order rS_left p0 x_5475 b_iC_nodes b_iC_unsures b_iC_throneNode a_fC_parts a_fC_partNodes) (cwV 4 hts (wd_V wd_1130 wd_1131 wd_1132 wd_37 (wd_c wd_1133)) rfl rfl rfl dv_yX4_throneByWord_4 ⟨Nat.le_of_ble_eq_true rfl, Nat.le_of_ble_eq_true rfl⟩) ⟨Pw.fb, recvX4 hK hP (q0 := 9) rfl, fun U hU hW => Pw.to (hP.sub [9, 10, 11, 1, 2, 3, 4, 5, 6, 7, 8] rfl) (hD.sub [9, 10, 11, 1, 2, 3, 4, 5, 6, 7, 8] (by decide) rfl) (hK.sub [6, 7, 0, 1, 2, 3, 4, 5] rfl) hE hS hFc hU hW⟩ rfl rfl hl.1 rfl (lv_room (Nat.le_of_ble_eq_true rfl)) dX6_leastTurnTowards_26 ⟨Nat.le_of_ble_eq_true rfl, Nat.le_of_ble_eq_true rfl⟩) hS (fun q _ h => hFc q h) hFc (fun r u t H locs ht hvm hw hB hz1 hk1 hS => ?_)
  have hru9 := hw.2
  have hw := hw.1
  refine ex_2_1 hB (fun f_5476 f_5477 e_f_5476_0 hB => ?_)
  obtain ⟨hP, hD, hK⟩ := Bw.go (ws' := [(oc6 oK oR oC oS oT rK_images iK_imageCount oA oH oL iK_refusal iK_latestFault iK_latestPlace), (oc4 oL rL_values rL_supposed), (arI rL_values kL_values 18 f_5476), (arI rL_supposed kL_supposed 18 f_5477), (oc1 oC iC_nodes iC_words iC_chances iC_unsures iC_slips iC_throneNode iC_saidWorth iC_unit rC_kind rC_parts rC_partNodes rC_weights rC_weightSums rC_toldWorths rC_steps rC_below rC_above rC_unsureWords rC_unsureWorths), (arI rC_kind kC_kind 18 fC_kind), (arI rC_parts kC_parts 18 fC_parts), (arI rC_partNodes kC_partNodes 72 fC_partNodes), (arI rC_weights kC_weights 72 fC_weights), (arI rC_weightSums kC_weightSums 18 fC_weightSums), (oc5 oS rS_worths rS_order rS_left), (arI rS_worths kS_worths 18 fS_worths)]) (tys' := [(kL_values, .int), (kL_supposed, .int), (kC_kind, .int), (kC_parts, .int), (kC_partNodes, .int), (kC_weights, .int), (kC_weightSums, .int), (kS_worths, .int)]) hB rfl ht hvm hP hD hK [9, 10, 11, 1, 2, 3, 4, 5, 6, 7, 8] [0] rfl (by decide) (by decide) [] hk1 hFc rfl rfl rfl
  clear hz1 hk1 hvm ht hB
  rw [← hru9] at e_f_5476_0
  obtain ⟨x_5478, rfl⟩ : ∃ z, z = r := ⟨_, rfl⟩
  have hG := hG.trans (un3_eq e_f_5476_0)
  have rg_x_5478 := fb_rng x_5478
  refine lv_iload hx hb dX6_leastTurnTowards_29 (lv_at hl 4 rfl) ?_
  refine lv_icmp_ne (tgt := 37) hx hb dX6_leastTurnTowards_31 (by decide) (fun c_5479 => ?_) (fun c_5479 => ?_)
  · skip
    have hG := hG.trans (if_neg c_5479)
    have gc_5479 := ti_ne c_5479 rfl rfl
    refine lv_iconst (v := 1) hx hb dX6_leastTurnTowards_37 (by decide) ?_
    refine lv_istore (lv' := [(5, .int 1), (0, .ref oK), (1, .int p0), (2, .int p1), (3, .int p2), (4, .int p3)]) hx hb dX6_leastTurnTowards_38 hl (by decide) rfl (fun ls hl => ?_)
    refine lv_iload_n hx hb dX6_leastTurnTowards_40 rfl (lv_at hl 4 rfl) ?_
    refine lv_istore (lv' := [(6, .int p2), (5, .int 1), (0, .ref oK), (1, .int p0), (2, .int p1), (3, .int p2), (4, .int p3)]) hx hb dX6_leastTurnTowards_41 hl (by decide) rfl (fun ls hl => ?_)
    refine lv_iconst (v := 0) hx hb dX6_leastTurnTowards_43 (by decide) ?_
    refine lv_istore (lv' := [(7, .int 0), (6, .int p2), (5, .int 1), (0, .ref oK), (1, .int p0), (2, .int p1), (3, .int p2), (4, .int p3)]) hx hb dX6_leastTurnTowards_44 hl (by decide) rfl (fun ls hl => ?_)
    have hl := lv_sub hl (l' := [(7, .int 0), (6, .int p2), (5, .int 1), (0, .ref oK), (1, .int p0), (2, .int p1), (3, .int p2), (4, .int p3)]) [0, 1, 2, 3, 4, 5, 6, 7] rfl
    have key_n_5485 : ∀ (n_5485 : Nat) (z_5480 : Int32) (z_5481 : Int32) (z_5482 : Int32) (f_5483 : Nat → Int32) (f_5484 : Nat → Int32) (H : Heap) (locs : List Loc) (ls : Array Slot), (0 ≤ z_5480.toInt ∧ z_5480.toInt ≤ 2147483647) → (2147483647 - z_5480.toInt).toNat < n_5485 → (PX6_leastTurnTowards iC_nodes iC_throneNode iC_unit fC_kind fC_parts fC_partNodes fC_weights fC_weightSums fS_worths fL_values fL_supposed p0 p1 p2 p3 = HX6_leastTurnTowards_0 iC_nodes iC_throneNode iC_unit fC_kind fC_parts fC_partNodes fC_weights fC_weightSums fS_worths p0 p1 p3 n_5485 z_5480 z_5481 z_5482 f_5483 f_5484) → va_P (dC, dI) vwCl [(oc6 oK oR oC oS oT rK_images iK_imageCount oA oH oL iK_refusal iK_latestFault iK_latestPlace), (oc4 oL rL_values rL_supposed), (arI rL_values kL_values 18 f_5483), (arI rL_supposed kL_supposed 18 f_5484), (oc1 oC iC_nodes iC_words iC_chances iC_unsures iC_slips iC_throneNode iC_saidWorth iC_unit rC_kind rC_parts rC_partNodes rC_weights rC_weightSums rC_toldWorths rC_steps rC_below rC_above rC_unsureWords rC_unsureWorths), (arI rC_kind kC_kind 18 fC_kind), (arI rC_parts kC_parts 18 fC_parts), (arI rC_partNodes kC_partNodes 72 fC_partNodes), (arI rC_weights kC_weights 72 fC_weights), (arI rC_weightSums kC_weightSums 18 fC_weightSums), (oc5 oS rS_worths rS_order rS_left), (arI rS_worths kS_worths 18 fS_worths)] H → va_D A [(oc6 oK oR oC oS oT rK_images iK_imageCount oA oH oL iK_refusal iK_latestFault iK_latestPlace), (oc4 oL rL_values rL_supposed), (arI rL_values kL_values 18 f_5483), (arI rL_supposed kL_supposed 18 f_5484), (oc1 oC iC_nodes iC_words iC_chances iC_unsures iC_slips iC_throneNode iC_saidWorth iC_unit rC_kind rC_parts rC_partNodes rC_weights rC_weightSums rC_toldWorths rC_steps rC_below rC_above rC_unsureWords rC_unsureWorths), (arI rC_kind kC_kind 18 fC_kind), (arI rC_parts kC_parts 18 fC_parts), (arI rC_partNodes kC_partNodes 72 fC_partNodes), (arI rC_weights kC_weights 72 fC_weights), (arI rC_weightSums kC_weightSums 18 fC_weightSums), (oc5 oS rS_worths rS_order rS_left), (arI rS_worths kS_worths 18 fS_worths)] → va_S A s.heap H locs → lv_has ls 9 [(7, .int z_5480), (6, .int z_5481), (5, .int z_5482), (0, .ref oK), (1, .int p0), (2, .int p1), (3, .int p2), (4, .int p3)] → W p l e (headSpec (Cond.code yX6_leastTurnTowards cX6_leastTurnTowards 9 (some .int) :: wG) ({ frames := 4, cells := 0, slots := 0, locals := 95 })).room s m ([.ref oK, .int p0, .int p1, .int p2, .int p3] : List Value).toArray below meth c H locs 0 0 (MQ below (va_Qi (fun (r : Int32) (u : Nat) => (True ∧ True) ∧ r = Int32.ofNat u) (fun (u : Nat) (t : State) => ∃ (nfL_values : Nat → Int32) (nfL_supposed : Nat → Int32), (PX6_leastTurnTowards iC_nodes iC_throneNode iC_unit fC_kind fC_parts fC_partNodes fC_weights fC_weightSums fS_worths fL_values fL_supposed p0 p1 p2 p3 = (Int32.ofNat u, nfL_values, nfL_supposed)) ∧ Bw dC dI A [(oc6 oK oR oC oS oT rK_images iK_imageCount oA oH oL iK_refusal iK_latestFault iK_latestPlace), (oc1 oC iC_nodes iC_words iC_chances iC_unsures iC_slips iC_throneNode iC_saidWorth iC_unit rC_kind rC_parts rC_partNodes rC_weights rC_weightSums rC_toldWorths rC_steps rC_below rC_above rC_unsureWords rC_unsureWorths), (arI rC_kind kC_kind 18 fC_kind), (arI rC_parts kC_parts 18 fC_parts), (arI rC_partNodes kC_partNodes 72 fC_partNodes), (arI rC_weights kC_weights 72 fC_weights), (arI rC_weightSums kC_weightSums 18 fC_weightSums), (oc5 oS rS_worths rS_order rS_left), (arI rS_worths kS_worths 18 fS_worths), (oc4 oL rL_values rL_supposed), (arI rL_values kL_values 18 nfL_values), (arI rL_supposed kL_supposed 18 nfL_supposed)] [(kC_kind, .int), (kC_parts, .int), (kC_partNodes, .int), (kC_weights, .int), (kC_weightSums, .int), (kS_worths, .int), (kL_values, .int), (kL_supposed, .int)] t) A) ([.ref oK, .int p0, .int p1, .int p2, .int p3] : List Value).toArray s 0 0 A) (F0 m 46 ls []) := by
      intro n_5485
      induction n_5485 with
      | zero => intro z_5480 z_5481 z_5482 f_5483 f_5484 H locs ls hi0_n_5485 hm; exact absurd hm (Nat.not_lt_zero _)
      | succ n_5485 ih_n_5485 =>
        intro z_5480 z_5481 z_5482 f_5483 f_5484 H locs ls hi0_n_5485 hm_n_5485 hG hP hD hS hl
        have hG := hG.trans (HX6_leastTurnTowards_0_eq _ _ _ _ _ _ _ _ _ _ _ _ _ _ _ _ _ _)
        have rg_z_5480 := fb_rng z_5480
        have rg_z_5481 := fb_rng z_5481
        have rg_z_5482 := fb_rng z_5482
        refine lv_iload hx hb dX6_leastTurnTowards_46 (lv_at hl 0 rfl) ?_
        refine lv_bipush (v := 99) hx hb dX6_leastTurnTowards_48 (by decide) ?_
        refine lv_icmp_ge (tgt := 123) hx hb dX6_leastTurnTowards_50 (by decide) (fun c_5486 => ?_) (fun c_5486 => ?_)
        · skip
          have hG := hG.trans (if_pos c_5486)
          have gc_5486 := ti_le c_5486 kc_99 rfl
          refine lv_iload hx hb dX6_leastTurnTowards_123 (lv_at hl 1 rfl) ?_
          exact wq_i hx hb hr (cI z_5481) ⟨⟨trivial, trivial⟩, (cI_of z_5481)⟩ (fun t ht hW => ⟨f_5483, f_5484, (cI_tup hG), Bw.to (hP.sub [0, 4, 5, 6, 7, 8, 9, 10, 11, 1, 2, 3] rfl) (hD.sub [0, 4, 5, 6, 7, 8, 9, 10, 11, 1, 2, 3] (by decide) rfl) (hK.sub [2, 3, 4, 5, 6, 7, 0, 1] rfl) ht hW⟩) hS dX6_leastTurnTowards_125 hlocks
        · skip
          have hG := hG.trans (if_neg c_5486)
          have gc_5486 := ti_nle c_5486 kc_99 rfl
          refine lv_iload hx hb dX6_leastTurnTowards_53 (lv_at hl 2 rfl) ?_
          refine lv_iload hx hb dX6_leastTurnTowards_55 (lv_at hl 1 rfl) ?_
          refine lv_icmp_ge (tgt := 123) hx hb dX6_leastTurnTowards_57 (by decide) (fun c_5487 => ?_) (fun c_5487 => ?_)
          · skip
            have hG := hG.trans (if_pos c_5487)
            have gc_5487 := ti_le c_5487 rfl rfl
            refine lv_iload hx hb dX6_leastTurnTowards_123 (lv_at hl 1 rfl) ?_
            exact wq_i hx hb hr (cI z_5481) ⟨⟨trivial, trivial⟩, (cI_of z_5481)⟩ (fun t ht hW => ⟨f_5483, f_5484, (cI_tup hG), Bw.to (hP.sub [0, 4, 5, 6, 7, 8, 9, 10, 11, 1, 2, 3] rfl) (hD.sub [0, 4, 5, 6, 7, 8, 9, 10, 11, 1, 2, 3] (by decide) rfl) (hK.sub [2, 3, 4, 5, 6, 7, 0, 1] rfl) ht hW⟩) hS dX6_leastTurnTowards_125 hlocks
          · skip
            have hG := hG.trans (if_neg c_5487)
            have gc_5487 := ti_nle c_5487 rfl rfl
            refine lv_iload hx hb dX6_leastTurnTowards_60 (lv_at hl 2 rfl) ?_
            refine lv_iload hx hb dX6_leastTurnTowards_62 (lv_at hl 1 rfl) ?_
            refine lv_iadd hx hb dX6_leastTurnTowards_64 ?_
            refine lv_topi (fun x_5488 ex_5488 => ?_)
            have hG := hG.trans (lt_eq ex_5488)
            have rg_x_5488 := fb_rng x_5488
            refine lv_iconst (v := 2) hx hb dX6_leastTurnTowards_65 (by decide) ?_
            refine lv_idiv hx hb dX6_leastTurnTowards_66 (by decide) ?_
            refine lv_topi (fun x_5489 ex_5489 => ?_)
            have hG := hG.trans (lt_eq ex_5489)
            have rg_x_5489 := fb_rng x_5489
            refine lv_istore (lv' := [(8, .int x_5489), (7, .int z_5480), (6, .int z_5481), (5, .int z_5482), (0, .ref oK), (1, .int p0), (2, .int p1), (3, .int p2), (4, .int p3)]) hx hb dX6_leastTurnTowards_67 hl (by decide) rfl (fun ls hl => ?_)
            refine lv_aload_n hx hb dX6_leastTurnTowards_69 rfl (lv_at hl 4 rfl) ?_
            refine va_get (D := (dC, dI)) (ci := 6) (v := .ref oL) (C := RX6) (T := TX6) (N := 12) hx hb hts inX6 hown hK hP 0 rfl rfl 8 (by decide) (hts _ wd_38) (fun _ h9 => h9) rfl dX6_leastTurnTowards_70 ?_
            refine lv_aload_n hx hb dX6_leastTurnTowards_73 rfl (lv_at hl 4 rfl) ?_
            refine va_get (D := (dC, dI)) (ci := 6) (v := .ref oC) (C := RX6) (T := TX6) (N := 12) hx hb hts inX6 hown hK hP 0 rfl rfl 1 (by decide) (hts _ wd_20) (fun _ h9 => h9) rfl dX6_leastTurnTowards_74 ?_
            refine lv_aload_n hx hb dX6_leastTurnTowards_77 rfl (lv_at hl 4 rfl) ?_
            refine va_get (D := (dC, dI)) (ci := 6) (v := .ref oS) (C := RX6) (T := TX6) (N := 12) hx hb hts inX6 hown hK hP 0 rfl rfl 2 (by decide) (hts _ wd_24) (fun _ h9 => h9) rfl dX6_leastTurnTowards_78 ?_
            refine lv_iload_n hx hb dX6_leastTurnTowards_81 rfl (lv_at hl 5 rfl) ?_
            refine lv_aload_n hx hb dX6_leastTurnTowards_82 rfl (lv_at hl 4 rfl) ?_
            refine va_get (D := (dC, dI)) (ci := 6) (v := .ref oS) (C := RX6) (T := TX6) (N := 12) hx hb hts inX6 hown hK hP 0 rfl rfl 2 (by decide) (hts _ wd_24) (fun _ h9 => h9) rfl dX6_leastTurnTowards_83 ?_
            refine va_get (D := (dC, dI)) (ci := 5) (v := .ref rS_worths) (C := RX5) (T := TX5) (N := 3) hx hb hts inX5 hown hK hP 10 rfl rfl 0 (by decide) (hts _ wd_609) (fun _ h9 => h9) rfl dX6_leastTurnTowards_86 ?_
            refine lv_iload_n hx hb dX6_leastTurnTowards_89 rfl (lv_at hl 5 rfl) ?_
            refine va_iald hx hb hK hP 11 7 rfl rfl (ti_in rfl hp0.1 (om_b3735a34 hp0.2)) dX6_leastTurnTowards_90 ?_
            refine lv_topi (fun x_5490 ex_5490 => ?_)
            have hG := hG.trans (lt_eq ex_5490)
            have rg_x_5490 := fb_rng x_5490
            have kx_5490 : (fS_worths p0.toNatClampNeg).toInt = x_5490.toInt := by rw [ex_5490]
            refine lv_iload_n hx hb dX6_leastTurnTowards_91 rfl (lv_at hl 6 rfl) ?_
            refine lv_iload hx hb dX6_leastTurnTowards_92 (lv_at hl 0 rfl) ?_
            refine lv_imul hx hb dX6_leastTurnTowards_94 ?_
            refine lv_topi (fun x_5491 ex_5491 => ?_)
            have hG := hG.trans (lt_eq ex_5491)
            have rg_x_5491 := fb_rng x_5491
            refine lv_iadd hx hb dX6_leastTurnTowards_95 ?_
            refine lv_topi (fun x_5492 ex_5492 => ?_)
            have hG := hG.trans (lt_eq ex_5492)
            have rg_x_5492 := fb_rng x_5492
            have hMs := ml_of hD [false, true, true, true, true, true, true, true, true, true, true, true] (wc := [(oc4 oL rL_values rL_supposed), (arI rL_values kL_values 18 f_5483), (arI rL_supposed kL_supposed 18 f_5484), (oc1 oC iC_nodes iC_words iC_chances iC_unsures iC_slips iC_throneNode iC_saidWorth iC_unit rC_kind rC_parts rC_partNodes rC_weights rC_weightSums rC_toldWorths rC_steps rC_below rC_above rC_unsureWords rC_unsureWorths), (arI rC_kind kC_kind 18 fC_kind), (arI rC_parts kC_parts 18 fC_parts), (arI rC_partNodes kC_partNodes 72 fC_partNodes), (arI rC_weights kC_weights 72 fC_weights), (arI rC_weightSums kC_weightSums 18 fC_weightSums), (oc5 oS rS_worths rS_order rS_left), (arI rS_worths kS_worths 18 fS_worths)]) rfl
            have hFc := va_freeM hD hS hA _ hMs
            refine va_calli (va_runV (As := [.ref oC, .ref oS, .int p0, .int x_5492]) (rest := []) ⟨hx, hb, hml, hown, hts⟩ (tX4_throneByWord l dC dI _ oL rL_values f_5483 kL_values rL_supposed f_5484 kL_supposed oC iC_nodes iC_words iC_chances iC_unsures iC_slips iC_throneNode iC_saidWorth iC_unit rC_kind fC_kind kC_kind rC_parts fC_parts kC_parts rC_partNodes fC_partNodes kC_partNodes rC_weights fC_weights kC_weights rC_weightSums fC_weightSums kC_weightSums rC_toldWorths rC_steps rC_below rC_above rC_unsureWords rC_unsureWorths oS rS_worths fS_worths kS_worths rS_order rS_left p0 x_5492 b_iC_nodes b_iC_unsures b_iC_throneNode a_fC_parts a_fC_partNodes) (cwV 4 hts (wd_V wd_1130 wd_1131 wd_1132 wd_37 (wd_c wd_1133)) rfl rfl rfl dv_yX4_throneByWord_4 ⟨Nat.le_of_ble_eq_true rfl, Nat.le_of_ble_eq_true rfl⟩) ⟨Pw.fb, recvX4 hK hP (q0 := 1) rfl, fun U hU hW => Pw.to (hP.ms _ hMs) (hD.ms _ hMs) hK hE hS hFc hU hW⟩ rfl rfl hl.1 rfl (lv_room (Nat.le_of_ble_eq_true rfl)) dX6_leastTurnTowards_96 ⟨Nat.le_of_ble_eq_true rfl, Nat.le_of_ble_eq_true rfl⟩) hS (fun q _ h => hFc q h) hFc (fun r u t H locs ht hvm hw hB hz1 hk1 hS => ?_)
            have hru9 := hw.2
            have hw := hw.1
            refine ex_2_1 hB (fun f_5493 f_5494 e_f_5493_0 hB => ?_)
            obtain ⟨hP, hD⟩ := Bw.goN (ws' := [(oc6 oK oR oC oS oT rK_images iK_imageCount oA oH oL iK_refusal iK_latestFault iK_latestPlace), (oc4 oL rL_values rL_supposed), (arI rL_values kL_values 18 f_5493), (arI rL_supposed kL_supposed 18 f_5494), (oc1 oC iC_nodes iC_words iC_chances iC_unsures iC_slips iC_throneNode iC_saidWorth iC_unit rC_kind rC_parts rC_partNodes rC_weights rC_weightSums rC_toldWorths rC_steps rC_below rC_above rC_unsureWords rC_unsureWorths), (arI rC_kind kC_kind 18 fC_kind), (arI rC_parts kC_parts 18 fC_parts), (arI rC_partNodes kC_partNodes 72 fC_partNodes), (arI rC_weights kC_weights 72 fC_weights), (arI rC_weightSums kC_weightSums 18 fC_weightSums), (oc5 oS rS_worths rS_order rS_left), (arI rS_worths kS_worths 18 fS_worths)]) hB rfl ht hP hD _ hMs hk1 hFc rfl
            clear hz1 hk1 hvm ht hB hMs
            rw [← hru9] at e_f_5493_0
            obtain ⟨x_5495, rfl⟩ : ∃ z, z = r := ⟨_, rfl⟩
            have hG := hG.trans (un3_eq e_f_5493_0)
            have rg_x_5495 := fb_rng x_5495
            refine lv_iload hx hb dX6_leastTurnTowards_99 (lv_at hl 8 rfl) ?_
            refine lv_icmp_ne (tgt := 113) hx hb dX6_leastTurnTowards_101 (by decide) (fun c_5496 => ?_) (fun c_5496 => ?_)
            · skip
              have hG := hG.trans (if_neg c_5496)
              have gc_5496 := ti_ne c_5496 rfl rfl
              refine lv_iload hx hb dX6_leastTurnTowards_113 (lv_at hl 0 rfl) ?_
              refine lv_istore (lv' := [(6, .int x_5489), (8, .int x_5489), (7, .int z_5480), (5, .int z_5482), (0, .ref oK), (1, .int p0), (2, .int p1), (3, .int p2), (4, .int p3)]) hx hb dX6_leastTurnTowards_115 hl (by decide) rfl (fun ls hl => ?_)
              obtain ⟨x_5497, ex_5497⟩ : ∃ z : Int32, z = z_5480 + Int32.ofInt 1 := ⟨_, rfl⟩
              have hG := hG.trans (lt_eq ex_5497)
              have vx_5497 : x_5497.toInt = z_5480.toInt + 1 := ti_add (y := 1) ex_5497 rfl kc_1 (om_4e4fce7e hi0_n_5485.1) (om_9293eb5d gc_5486)
              refine lv_iinc (v := x_5497) (lv' := [(7, .int x_5497), (6, .int x_5489), (8, .int x_5489), (5, .int z_5482), (0, .ref oK), (1, .int p0), (2, .int p1), (3, .int p2), (4, .int p3)]) hx hb dX6_leastTurnTowards_117 hl (k := 2) rfl ex_5497.symm (by decide) rfl (fun ls hl => ?_)
              refine lv_goto (tgt := 46) hx hb dX6_leastTurnTowards_120 (by decide) ?_
              exact ih_n_5485 x_5497 x_5489 z_5482 f_5493 f_5494 _ _ _  ⟨(om_83b90de5 hi0_n_5485.1 vx_5497), (om_f63ec340 gc_5486 vx_5497)⟩ (ms_lt hm_n_5485 (om_b9393183 vx_5497) (om_cd120fc8 gc_5486)) hG hP hD hS (lv_sub hl [0, 1, 3, 4, 5, 6, 7, 8] rfl)
            · skip
              have hG := hG.trans (if_pos c_5496)
              have gc_5496 := ti_eq c_5496 rfl rfl
              refine lv_iload hx hb dX6_leastTurnTowards_104 (lv_at hl 0 rfl) ?_
              refine lv_iconst (v := 1) hx hb dX6_leastTurnTowards_106 (by decide) ?_
              refine lv_iadd hx hb dX6_leastTurnTowards_107 ?_
              refine lv_topi (fun x_5498 ex_5498 => ?_)
              have hG := hG.trans (lt_eq ex_5498)
              have rg_x_5498 := fb_rng x_5498
              refine lv_istore (lv' := [(5, .int x_5498), (8, .int x_5489), (7, .int z_5480), (6, .int z_5481), (0, .ref oK), (1, .int p0), (2, .int p1), (3, .int p2), (4, .int p3)]) hx hb dX6_leastTurnTowards_108 hl (by decide) rfl (fun ls hl => ?_)
              refine lv_goto (tgt := 117) hx hb dX6_leastTurnTowards_110 (by decide) ?_
              obtain ⟨x_5499, ex_5499⟩ : ∃ z : Int32, z = z_5480 + Int32.ofInt 1 := ⟨_, rfl⟩
              have hG := hG.trans (lt_eq ex_5499)
              have vx_5499 : x_5499.toInt = z_5480.toInt + 1 := ti_add (y := 1) ex_5499 rfl kc_1 (om_4e4fce7e hi0_n_5485.1) (om_9293eb5d gc_5486)
              refine lv_iinc (v := x_5499) (lv' := [(7, .int x_5499), (5, .int x_5498), (8, .int x_5489), (6, .int z_5481), (0, .ref oK), (1, .int p0), (2, .int p1), (3, .int p2), (4, .int p3)]) hx hb dX6_leastTurnTowards_117 hl (k := 2) rfl ex_5499.symm (by decide) rfl (fun ls hl => ?_)
              refine lv_goto (tgt := 46) hx hb dX6_leastTurnTowards_120 (by decide) ?_
              exact ih_n_5485 x_5499 z_5481 x_5498 f_5493 f_5494 _ _ _  ⟨(om_83b90de5 hi0_n_5485.1 vx_5499), (om_f63ec340 gc_5486 vx_5499)⟩ (ms_lt hm_n_5485 (om_b9393183 vx_5499) (om_cd120fc8 gc_5486)) hG hP hD hS (lv_sub hl [0, 3, 1, 4, 5, 6, 7, 8] rfl)
    exact key_n_5485 (((2147483647 - (0 : Int32).toInt).toNat) + 1) 0 p2 1 f_5476 f_5477 _ _ _  ⟨(om_b1de7dbe kc_0), (om_daf17c64 kc_0)⟩ (Nat.lt_add_one _) hG hP hD hS hl
  · skip
    have hG := hG.trans (if_pos c_5479)
    have gc_5479 := ti_eq c_5479 rfl rfl
    refine lv_bipush (v := (-2)) hx hb dX6_leastTurnTowards_34 (by decide) ?_
    exact wq_i hx hb hr (cI (-2)) ⟨⟨trivial, trivial⟩, (cI_of (-2))⟩ (fun t ht hW => ⟨f_5476, f_5477, (cI_tup hG), Bw.to (hP.sub [0, 4, 5, 6, 7, 8, 9, 10, 11, 1, 2, 3] rfl) (hD.sub [0, 4, 5, 6, 7, 8, 9, 10, 11, 1, 2, 3] (by decide) rfl) (hK.sub [2, 3, 4, 5, 6, 7, 0, 1] rfl) ht hW⟩) hS dX6_leastTurnTowards_36 hlocks
set_option maxHeartbeats 4000000 in
set_option maxRecDepth 100000 in
theorem tX6_leastTurn (l : Launch) (dC : Nat → ClassId) (dI : Nat → Nat → Nat) (sz : Nat) (oK : Nat) (oR : Nat) (oC : Nat) (oS : Nat) (oT : Nat) (rK_images : Nat) (iK_imageCount : Int32) (oA : Nat) (oH : Nat) (oL : Nat) (iK_refusal : Int32) (iK_latestFault : Int32) (iK_latestPlace : Int32) (iC_nodes : Int32) (iC_words : Int32) (iC_chances : Int32) (iC_unsures : Int32) (iC_slips : Int32) (iC_throneNode : Int32) (iC_saidWorth : Int32) (iC_unit : Int32) (rC_kind : Nat) (fC_kind : Nat → Int32) (kC_kind : ClassId) (rC_parts : Nat) (fC_parts : Nat → Int32) (kC_parts : ClassId) (rC_partNodes : Nat) (fC_partNodes : Nat → Int32) (kC_partNodes : ClassId) (rC_weights : Nat) (fC_weights : Nat → Int32) (kC_weights : ClassId) (rC_weightSums : Nat) (fC_weightSums : Nat → Int32) (kC_weightSums : ClassId) (rC_toldWorths : Nat) (rC_steps : Nat) (rC_below : Nat) (rC_above : Nat) (rC_unsureWords : Nat) (rC_unsureWorths : Nat) (rS_worths : Nat) (fS_worths : Nat → Int32) (kS_worths : ClassId) (rS_order : Nat) (rS_left : Nat) (rL_values : Nat) (fL_values : Nat → Int32) (kL_values : ClassId) (rL_supposed : Nat) (fL_supposed : Nat → Int32) (kL_supposed : ClassId) (p0 : Int32) (b_iK_imageCount : 0 ≤ iK_imageCount.toInt ∧ iK_imageCount.toInt ≤ 3) (b_iC_nodes : 0 ≤ iC_nodes.toInt ∧ iC_nodes.toInt ≤ 18) (b_iC_unsures : 0 ≤ iC_unsures.toInt ∧ iC_unsures.toInt ≤ 4) (b_iC_throneNode : (-1) ≤ iC_throneNode.toInt ∧ iC_throneNode.toInt ≤ 17) (a_fC_parts : ∀ j : Nat, j < 18 → 0 ≤ (fC_parts j).toInt ∧ (fC_parts j).toInt ≤ 4) (a_fC_partNodes : ∀ j : Nat, j < 72 → 0 ≤ (fC_partNodes j).toInt ∧ (fC_partNodes j).toInt ≤ 17) (hp0 : 0 ≤ p0.toInt ∧ p0.toInt ≤ 17) : Met l yX6_leastTurn (Cond.code yX6_leastTurn cX6_leastTurn 5 (some .int) :: wG) ({ frames := 5, cells := 0, slots := 0, locals := 123 }) (va_Pc [.ref oK, .int p0] (Pw dC dI sz [(oc6 oK oR oC oS oT rK_images iK_imageCount oA oH oL iK_refusal iK_latestFault iK_latestPlace), (oc1 oC iC_nodes iC_words iC_chances iC_unsures iC_slips iC_throneNode iC_saidWorth iC_unit rC_kind rC_parts rC_partNodes rC_weights rC_weightSums rC_toldWorths rC_steps rC_below rC_above rC_unsureWords rC_unsureWorths), (arI rC_kind kC_kind 18 fC_kind), (arI rC_parts kC_parts 18 fC_parts), (arI rC_partNodes kC_partNodes 72 fC_partNodes), (arI rC_weights kC_weights 72 fC_weights), (arI rC_weightSums kC_weightSums 18 fC_weightSums), (oc5 oS rS_worths rS_order rS_left), (arI rS_worths kS_worths 18 fS_worths), (oc4 oL rL_values rL_supposed), (arI rL_values kL_values 18 fL_values), (arI rL_supposed kL_supposed 18 fL_supposed)] [(kC_kind, .int), (kC_parts, .int), (kC_partNodes, .int), (kC_weights, .int), (kC_weightSums, .int), (kS_worths, .int), (kL_values, .int), (kL_supposed, .int)])) (va_Qi (fun (r : Int32) (u : Nat) => (True ∧ True) ∧ r = Int32.ofNat u) (fun (u : Nat) (t : State) => ∃ (nfL_values : Nat → Int32) (nfL_supposed : Nat → Int32), (PX6_leastTurn iC_nodes iC_throneNode iC_unit fC_kind fC_parts fC_partNodes fC_weights fC_weightSums fS_worths fL_values fL_supposed p0 = (Int32.ofNat u, nfL_values, nfL_supposed)) ∧ Bw dC dI (va_A [(oc6 oK oR oC oS oT rK_images iK_imageCount oA oH oL iK_refusal iK_latestFault iK_latestPlace), (oc1 oC iC_nodes iC_words iC_chances iC_unsures iC_slips iC_throneNode iC_saidWorth iC_unit rC_kind rC_parts rC_partNodes rC_weights rC_weightSums rC_toldWorths rC_steps rC_below rC_above rC_unsureWords rC_unsureWorths), (arI rC_kind kC_kind 18 fC_kind), (arI rC_parts kC_parts 18 fC_parts), (arI rC_partNodes kC_partNodes 72 fC_partNodes), (arI rC_weights kC_weights 72 fC_weights), (arI rC_weightSums kC_weightSums 18 fC_weightSums), (oc5 oS rS_worths rS_order rS_left), (arI rS_worths kS_worths 18 fS_worths), (oc4 oL rL_values rL_supposed), (arI rL_values kL_values 18 fL_values), (arI rL_supposed kL_supposed 18 fL_supposed)] sz) [(oc6 oK oR oC oS oT rK_images iK_imageCount oA oH oL iK_refusal iK_latestFault iK_latestPlace), (oc1 oC iC_nodes iC_words iC_chances iC_unsures iC_slips iC_throneNode iC_saidWorth iC_unit rC_kind rC_parts rC_partNodes rC_weights rC_weightSums rC_toldWorths rC_steps rC_below rC_above rC_unsureWords rC_unsureWorths), (arI rC_kind kC_kind 18 fC_kind), (arI rC_parts kC_parts 18 fC_parts), (arI rC_partNodes kC_partNodes 72 fC_partNodes), (arI rC_weights kC_weights 72 fC_weights), (arI rC_weightSums kC_weightSums 18 fC_weightSums), (oc5 oS rS_worths rS_order rS_left), (arI rS_worths kS_worths 18 fS_worths), (oc4 oL rL_values rL_supposed), (arI rL_values kL_values 18 nfL_values), (arI rL_supposed kL_supposed 18 nfL_supposed)] [(kC_kind, .int), (kC_parts, .int), (kC_partNodes, .int), (kC_weights, .int), (kC_weightSums, .int), (kS_worths, .int), (kL_values, .int), (kL_supposed, .int)] t) (va_A [(oc6 oK oR oC oS oT rK_images iK_imageCount oA oH oL iK_refusal iK_latestFault iK_latestPlace), (oc1 oC iC_nodes iC_words iC_chances iC_unsures iC_slips iC_throneNode iC_saidWorth iC_unit rC_kind rC_parts rC_partNodes rC_weights rC_weightSums rC_toldWorths rC_steps rC_below rC_above rC_unsureWords rC_unsureWorths), (arI rC_kind kC_kind 18 fC_kind), (arI rC_parts kC_parts 18 fC_parts), (arI rC_partNodes kC_partNodes 72 fC_partNodes), (arI rC_weights kC_weights 72 fC_weights), (arI rC_weightSums kC_weightSums 18 fC_weightSums), (oc5 oS rS_worths rS_order rS_left), (arI rS_worths kS_worths 18 fS_worths), (oc4 oL rL_values rL_supposed), (arI rL_values kL_values 18 fL_values), (arI rL_supposed kL_supposed 18 fL_supposed)] sz)) 0 0 (va_A [(oc6 oK oR oC oS oT rK_images iK_imageCount oA oH oL iK_refusal iK_latestFault iK_latestPlace), (oc1 oC iC_nodes iC_words iC_chances iC_unsures iC_slips iC_throneNode iC_saidWorth iC_unit rC_kind rC_parts rC_partNodes rC_weights rC_weightSums rC_toldWorths rC_steps rC_below rC_above rC_unsureWords rC_unsureWorths), (arI rC_kind kC_kind 18 fC_kind), (arI rC_parts kC_parts 18 fC_parts), (arI rC_partNodes kC_partNodes 72 fC_partNodes), (arI rC_weights kC_weights 72 fC_weights), (arI rC_weightSums kC_weightSums 18 fC_weightSums), (oc5 oS rS_worths rS_order rS_left), (arI rS_worths kS_worths 18 fS_worths), (oc4 oL rL_values rL_supposed), (arI rL_values kL_values 18 fL_values), (arI rL_supposed kL_supposed 18 fL_supposed)] sz) := by
  refine Met.ofW (cc := cX6_leastTurn) (maxL := 5) (ret := (some .int)) pnX6 rfl ?_
  intro p e s m args below meth c s₁ B hml hv
  obtain ⟨rfl, hsz, hP, hK, hD0, hE⟩ := hv
  have hx := B.exec
  have hb := B.bytes
  have hr := B.returns
  have hts : ∀ w ∈ wG, w.before ([.ref oK, .int p0] : List Value).toArray s = true := fun w h => atoms_spec (ws := Cond.code yX6_leastTurn cX6_leastTurn 5 (some .int) :: wG) B.pre w (List.mem_cons_of_mem _ h)
  have hown : s.vm.findClass RX6 = some m.cls := own_of B.named rfl
  have hlocks := B.notSynchronized
  subst hsz
  have hD := hD0.self (sz := s.heap.size)
  generalize hAe : va_A [(oc6 oK oR oC oS oT rK_images iK_imageCount oA oH oL iK_refusal iK_latestFault iK_latestPlace), (oc1 oC iC_nodes iC_words iC_chances iC_unsures iC_slips iC_throneNode iC_saidWorth iC_unit rC_kind rC_parts rC_partNodes rC_weights rC_weightSums rC_toldWorths rC_steps rC_below rC_above rC_unsureWords rC_unsureWorths), (arI rC_kind kC_kind 18 fC_kind), (arI rC_parts kC_parts 18 fC_parts), (arI rC_partNodes kC_partNodes 72 fC_partNodes), (arI rC_weights kC_weights 72 fC_weights), (arI rC_weightSums kC_weightSums 18 fC_weightSums), (oc5 oS rS_worths rS_order rS_left), (arI rS_worths kS_worths 18 fS_worths), (oc4 oL rL_values rL_supposed), (arI rL_values kL_values 18 fL_values), (arI rL_supposed kL_supposed 18 fL_supposed)] s.heap.size = A at hD hE ⊢
  have hA : ∀ q : Nat, s.heap.size ≤ q → A q := fun q h => by rw [← hAe]; exact Or.inr h
  have hS : va_S A s.heap s.heap [] := va_S.rf
  have hl := lv_entry ([.ref oK, .int p0]) (n := 5) (Nat.le_of_ble_eq_true rfl)
  rw [lg_entry_eq]
  generalize (lg_sl ([.ref oK, .int p0]) ++ List.replicate (5 - (lg_sl ([.ref oK, .int p0])).length) Slot.unset).toArray = ls at hl ⊢
  have hl : lv_has ls 5 [(0, .ref oK), (1, .int p0)] := hl
  have hG := PX6_leastTurn_eq iC_nodes iC_throneNode iC_unit fC_kind fC_parts fC_partNodes fC_weights fC_weightSums fS_worths fL_values fL_supposed p0
  refine lv_aload_n hx hb dX6_leastTurn_0 rfl (lv_at hl 0 rfl) ?_
  refine va_get (D := (dC, dI)) (ci := 6) (v := .ref oL) (C := RX6) (T := TX6) (N := 12) hx hb hts inX6 hown hK hP 0 rfl rfl 8 (by decide) (hts _ wd_38) (fun _ h9 => h9) rfl dX6_leastTurn_1 ?_
  refine lv_aload_n hx hb dX6_leastTurn_4 rfl (lv_at hl 0 rfl) ?_
  refine va_get (D := (dC, dI)) (ci := 6) (v := .ref oC) (C := RX6) (T := TX6) (N := 12) hx hb hts inX6 hown hK hP 0 rfl rfl 1 (by decide) (hts _ wd_20) (fun _ h9 => h9) rfl dX6_leastTurn_5 ?_
  refine lv_aload_n hx hb dX6_leastTurn_8 rfl (lv_at hl 0 rfl) ?_
  refine va_get (D := (dC, dI)) (ci := 6) (v := .ref oS) (C := RX6) (T := TX6) (N := 12) hx hb hts inX6 hown hK hP 0 rfl rfl 2 (by decide) (hts _ wd_24) (fun _ h9 => h9) rfl dX6_leastTurn_9 ?_
  refine va_get (D := (dC, dI)) (ci := 5) (v := .ref rS_worths) (C := RX5) (T := TX5) (N := 3) hx hb hts inX5 hown hK hP 7 rfl rfl 0 (by decide) (hts _ wd_609) (fun _ h9 => h9) rfl dX6_leastTurn_12 ?_
  have hFc := va_free (wc := [(oc4 oL rL_values rL_supposed), (arI rL_values kL_values 18 fL_values), (oc1 oC iC_nodes iC_words iC_chances iC_unsures iC_slips iC_throneNode iC_saidWorth iC_unit rC_kind rC_parts rC_partNodes rC_weights rC_weightSums rC_toldWorths rC_steps rC_below rC_above rC_unsureWords rC_unsureWorths), (arI rC_kind kC_kind 18 fC_kind), (arI rC_parts kC_parts 18 fC_parts), (arI rC_partNodes kC_partNodes 72 fC_partNodes), (arI rC_weights kC_weights 72 fC_weights), (arI rC_weightSums kC_weightSums 18 fC_weightSums), (arI rS_worths kS_worths 18 fS_worths)]) hD hS hA [9, 10, 1, 2, 3, 4, 5, 6, 8] rfl
  refine va_calli (va_runV (As := [.ref oC, .ref rS_worths]) (rest := []) ⟨hx, hb, hml, hown, hts⟩ (tX4_weighAll l dC dI _ oL rL_values fL_values kL_values rL_supposed oC iC_nodes iC_words iC_chances iC_unsures iC_slips iC_throneNode iC_saidWorth iC_unit rC_kind fC_kind kC_kind rC_parts fC_parts kC_parts rC_partNodes fC_partNodes kC_partNodes rC_weights fC_weights kC_weights rC_weightSums fC_weightSums kC_weightSums rC_toldWorths rC_steps rC_below rC_above rC_unsureWords rC_unsureWorths rS_worths fS_worths kS_worths b_iC_nodes b_iC_unsures b_iC_throneNode a_fC_parts a_fC_partNodes) (cwV 2 hts (wd_V wd_612 wd_613 wd_614 wd_37 (wd_c wd_615)) rfl rfl rfl dv_yX4_weighAll_2 ⟨Nat.le_of_ble_eq_true rfl, Nat.le_of_ble_eq_true rfl⟩) ⟨Pw.fb, recvX4 hK hP (q0 := 9) rfl, fun U hU hW => Pw.to (hP.sub [9, 10, 1, 2, 3, 4, 5, 6, 8] rfl) (hD.sub [9, 10, 1, 2, 3, 4, 5, 6, 8] (by decide) rfl) (hK.sub [6, 0, 1, 2, 3, 4, 5] rfl) hE hS hFc hU hW⟩ rfl rfl hl.1 rfl (lv_room (Nat.le_of_ble_eq_true rfl)) dX6_leastTurn_15 ⟨Nat.le_of_ble_eq_true rfl, Nat.le_of_ble_eq_true rfl⟩) hS (fun q _ h => hFc q h) hFc (fun r u t H locs ht hvm hw hB hz1 hk1 hS => ?_)
  have hru9 := hw.2
  have hw := hw.1
  refine ex_1_1 hB (fun f_5516 e_f_5516_0 hB => ?_)
  obtain ⟨hP, hD, hK⟩ := Bw.go (ws' := [(oc6 oK oR oC oS oT rK_images iK_imageCount oA oH oL iK_refusal iK_latestFault iK_latestPlace), (oc5 oS rS_worths rS_order rS_left), (arI rL_supposed kL_supposed 18 fL_supposed), (oc4 oL rL_values rL_supposed), (arI rL_values kL_values 18 f_5516), (oc1 oC iC_nodes iC_words iC_chances iC_unsures iC_slips iC_throneNode iC_saidWorth iC_unit rC_kind rC_parts rC_partNodes rC_weights rC_weightSums rC_toldWorths rC_steps rC_below rC_above rC_unsureWords rC_unsureWorths), (arI rC_kind kC_kind 18 fC_kind), (arI rC_parts kC_parts 18 fC_parts), (arI rC_partNodes kC_partNodes 72 fC_partNodes), (arI rC_weights kC_weights 72 fC_weights), (arI rC_weightSums kC_weightSums 18 fC_weightSums), (arI rS_worths kS_worths 18 fS_worths)]) (tys' := [(kL_supposed, .int), (kL_values, .int), (kC_kind, .int), (kC_parts, .int), (kC_partNodes, .int), (kC_weights, .int), (kC_weightSums, .int), (kS_worths, .int)]) hB rfl ht hvm hP hD hK [9, 10, 1, 2, 3, 4, 5, 6, 8] [0, 7, 11] rfl (by decide) (by decide) [7] hk1 hFc rfl rfl rfl
  clear hz1 hk1 hvm ht hB
  rw [← hru9] at e_f_5516_0
  obtain ⟨x_5517, rfl⟩ : ∃ z, z = r := ⟨_, rfl⟩
  have hG := hG.trans (un2_eq e_f_5516_0)
  refine lv_istore_n (lv' := [(2, .int x_5517), (0, .ref oK), (1, .int p0)]) hx hb dX6_leastTurn_18 rfl hl (by decide) rfl (fun ls hl => ?_)
  refine lv_aload_n hx hb dX6_leastTurn_19 rfl (lv_at hl 1 rfl) ?_
  refine lv_iload_n hx hb dX6_leastTurn_20 rfl (lv_at hl 2 rfl) ?_
  refine lv_iconst (v := 1) hx hb dX6_leastTurn_21 (by decide) ?_
  refine lv_bipush (v := 99) hx hb dX6_leastTurn_22 (by decide) ?_
  refine lv_aload_n hx hb dX6_leastTurn_24 rfl (lv_at hl 1 rfl) ?_
  refine va_get (D := (dC, dI)) (ci := 6) (v := .ref oS) (C := RX6) (T := TX6) (N := 12) hx hb hts inX6 hown hK hP 0 rfl rfl 2 (by decide) (hts _ wd_24) (fun _ h9 => h9) rfl dX6_leastTurn_25 ?_
  refine va_get (D := (dC, dI)) (ci := 5) (v := .ref rS_worths) (C := RX5) (T := TX5) (N := 3) hx hb hts inX5 hown hK hP 1 rfl rfl 0 (by decide) (hts _ wd_609) (fun _ h9 => h9) rfl dX6_leastTurn_28 ?_
  refine lv_iload_n hx hb dX6_leastTurn_31 rfl (lv_at hl 2 rfl) ?_
  refine va_iald hx hb hK hP 11 7 rfl rfl (ti_in rfl hp0.1 (om_b3735a34 hp0.2)) dX6_leastTurn_32 ?_
  refine lv_topi (fun x_5518 ex_5518 => ?_)
  have hG := hG.trans (lt_eq ex_5518)
  have kx_5518 : (fS_worths p0.toNatClampNeg).toInt = x_5518.toInt := by rw [ex_5518]
  refine lv_isub hx hb dX6_leastTurn_33 ?_
  refine lv_topi (fun x_5519 ex_5519 => ?_)
  have hG := hG.trans (lt_eq ex_5519)
  refine lv_iload_n hx hb dX6_leastTurn_34 rfl (lv_at hl 0 rfl) ?_
  have hFc := va_free (wc := [(oc6 oK oR oC oS oT rK_images iK_imageCount oA oH oL iK_refusal iK_latestFault iK_latestPlace), (oc1 oC iC_nodes iC_words iC_chances iC_unsures iC_slips iC_throneNode iC_saidWorth iC_unit rC_kind rC_parts rC_partNodes rC_weights rC_weightSums rC_toldWorths rC_steps rC_below rC_above rC_unsureWords rC_unsureWorths), (arI rC_kind kC_kind 18 fC_kind), (arI rC_parts kC_parts 18 fC_parts), (arI rC_partNodes kC_partNodes 72 fC_partNodes), (arI rC_weights kC_weights 72 fC_weights), (arI rC_weightSums kC_weightSums 18 fC_weightSums), (oc5 oS rS_worths rS_order rS_left), (arI rS_worths kS_worths 18 fS_worths), (oc4 oL rL_values rL_supposed), (arI rL_values kL_values 18 f_5516), (arI rL_supposed kL_supposed 18 fL_supposed)]) hD hS hA [0, 5, 6, 7, 8, 9, 10, 1, 11, 3, 4, 2] rfl
  refine va_calli (va_runV (As := [.int p0, .int 1, .int x_5519, .int x_5517]) (rest := []) ⟨hx, hb, hml, hown, hts⟩ (tX6_leastTurnTowards l dC dI _ oK oR oC oS oT rK_images iK_imageCount oA oH oL iK_refusal iK_latestFault iK_latestPlace iC_nodes iC_words iC_chances iC_unsures iC_slips iC_throneNode iC_saidWorth iC_unit rC_kind fC_kind kC_kind rC_parts fC_parts kC_parts rC_partNodes fC_partNodes kC_partNodes rC_weights fC_weights kC_weights rC_weightSums fC_weightSums kC_weightSums rC_toldWorths rC_steps rC_below rC_above rC_unsureWords rC_unsureWorths rS_worths fS_worths kS_worths rS_order rS_left rL_values f_5516 kL_values rL_supposed fL_supposed kL_supposed p0 1 x_5519 x_5517 b_iK_imageCount b_iC_nodes b_iC_unsures b_iC_throneNode a_fC_parts a_fC_partNodes ⟨hp0.1, hp0.2⟩) (cwV 4 hts (wd_V wd_1126 wd_1127 wd_1128 wd_2 (wd_c wd_1129)) rfl rfl rfl dv_yX6_leastTurnTowards_4 ⟨Nat.le_of_ble_eq_true rfl, Nat.le_of_ble_eq_true rfl⟩) ⟨Pw.fb, recvX6 hK hP (q0 := 0) rfl, fun U hU hW => Pw.to (hP.sub [0, 5, 6, 7, 8, 9, 10, 1, 11, 3, 4, 2] rfl) (hD.sub [0, 5, 6, 7, 8, 9, 10, 1, 11, 3, 4, 2] (by decide) rfl) (hK.sub [2, 3, 4, 5, 6, 7, 1, 0] rfl) hE hS hFc hU hW⟩ rfl rfl hl.1 rfl (lv_room (Nat.le_of_ble_eq_true rfl)) dX6_leastTurn_35 ⟨Nat.le_of_ble_eq_true rfl, Nat.le_of_ble_eq_true rfl⟩) hS (fun q _ h => hFc q h) hFc (fun r u t H locs ht hvm hw hB hz1 hk1 hS => ?_)
  have hru9 := hw.2
  have hw := hw.1
  refine ex_2_1 hB (fun f_5520 f_5521 e_f_5520_0 hB => ?_)
  obtain ⟨hP, hD, hK⟩ := Bw.go (ws' := [(oc6 oK oR oC oS oT rK_images iK_imageCount oA oH oL iK_refusal iK_latestFault iK_latestPlace), (oc1 oC iC_nodes iC_words iC_chances iC_unsures iC_slips iC_throneNode iC_saidWorth iC_unit rC_kind rC_parts rC_partNodes rC_weights rC_weightSums rC_toldWorths rC_steps rC_below rC_above rC_unsureWords rC_unsureWorths), (arI rC_kind kC_kind 18 fC_kind), (arI rC_parts kC_parts 18 fC_parts), (arI rC_partNodes kC_partNodes 72 fC_partNodes), (arI rC_weights kC_weights 72 fC_weights), (arI rC_weightSums kC_weightSums 18 fC_weightSums), (oc5 oS rS_worths rS_order rS_left), (arI rS_worths kS_worths 18 fS_worths), (oc4 oL rL_values rL_supposed), (arI rL_values kL_values 18 f_5520), (arI rL_supposed kL_supposed 18 f_5521)]) (tys' := [(kC_kind, .int), (kC_parts, .int), (kC_partNodes, .int), (kC_weights, .int), (kC_weightSums, .int), (kS_worths, .int), (kL_values, .int), (kL_supposed, .int)]) hB rfl ht hvm hP hD hK [0, 5, 6, 7, 8, 9, 10, 1, 11, 3, 4, 2] [] rfl (by decide) (by decide) [] hk1 hFc rfl rfl rfl
  clear hz1 hk1 hvm ht hB
  rw [← hru9] at e_f_5520_0
  obtain ⟨x_5522, rfl⟩ : ∃ z, z = r := ⟨_, rfl⟩
  have hG := hG.trans (un3_eq e_f_5520_0)
  refine lv_istore_n (lv' := [(3, .int x_5522), (2, .int x_5517), (0, .ref oK), (1, .int p0)]) hx hb dX6_leastTurn_38 rfl hl (by decide) rfl (fun ls hl => ?_)
  refine lv_aload_n hx hb dX6_leastTurn_39 rfl (lv_at hl 2 rfl) ?_
  refine lv_iload_n hx hb dX6_leastTurn_40 rfl (lv_at hl 3 rfl) ?_
  refine lv_iconst (v := (-1)) hx hb dX6_leastTurn_41 (by decide) ?_
  refine lv_aload_n hx hb dX6_leastTurn_42 rfl (lv_at hl 2 rfl) ?_
  refine va_get (D := (dC, dI)) (ci := 6) (v := .ref oS) (C := RX6) (T := TX6) (N := 12) hx hb hts inX6 hown hK hP 0 rfl rfl 2 (by decide) (hts _ wd_24) (fun _ h9 => h9) rfl dX6_leastTurn_43 ?_
  refine va_get (D := (dC, dI)) (ci := 5) (v := .ref rS_worths) (C := RX5) (T := TX5) (N := 3) hx hb hts inX5 hown hK hP 7 rfl rfl 0 (by decide) (hts _ wd_609) (fun _ h9 => h9) rfl dX6_leastTurn_46 ?_
  refine lv_iload_n hx hb dX6_leastTurn_49 rfl (lv_at hl 3 rfl) ?_
  refine va_iald hx hb hK hP 8 5 rfl rfl (ti_in rfl hp0.1 (om_b3735a34 hp0.2)) dX6_leastTurn_50 ?_
  refine lv_topi (fun x_5523 ex_5523 => ?_)
  have hG := hG.trans (lt_eq ex_5523)
  have kx_5523 : (fS_worths p0.toNatClampNeg).toInt = x_5523.toInt := by rw [ex_5523]
  refine lv_iload_n hx hb dX6_leastTurn_51 rfl (lv_at hl 1 rfl) ?_
  have hFc := va_freeI hD hS hA
  refine va_calli (va_runV (As := [.int p0, .int (-1), .int x_5523, .int x_5517]) (rest := []) ⟨hx, hb, hml, hown, hts⟩ (tX6_leastTurnTowards l dC dI _ oK oR oC oS oT rK_images iK_imageCount oA oH oL iK_refusal iK_latestFault iK_latestPlace iC_nodes iC_words iC_chances iC_unsures iC_slips iC_throneNode iC_saidWorth iC_unit rC_kind fC_kind kC_kind rC_parts fC_parts kC_parts rC_partNodes fC_partNodes kC_partNodes rC_weights fC_weights kC_weights rC_weightSums fC_weightSums kC_weightSums rC_toldWorths rC_steps rC_below rC_above rC_unsureWords rC_unsureWorths rS_worths fS_worths kS_worths rS_order rS_left rL_values f_5520 kL_values rL_supposed f_5521 kL_supposed p0 (-1) x_5523 x_5517 b_iK_imageCount b_iC_nodes b_iC_unsures b_iC_throneNode a_fC_parts a_fC_partNodes ⟨hp0.1, hp0.2⟩) (cwV 4 hts (wd_V wd_1126 wd_1127 wd_1128 wd_2 (wd_c wd_1129)) rfl rfl rfl dv_yX6_leastTurnTowards_4 ⟨Nat.le_of_ble_eq_true rfl, Nat.le_of_ble_eq_true rfl⟩) ⟨Pw.fb, recvX6 hK hP (q0 := 0) rfl, fun U hU hW => Pw.to hP hD hK hE hS hFc hU hW⟩ rfl rfl hl.1 rfl (lv_room (Nat.le_of_ble_eq_true rfl)) dX6_leastTurn_52 ⟨Nat.le_of_ble_eq_true rfl, Nat.le_of_ble_eq_true rfl⟩) hS (fun q _ h => hFc q h) hFc (fun r u t H locs ht hvm hw hB hz1 hk1 hS => ?_)
  have hru9 := hw.2
  have hw := hw.1
  refine ex_2_1 hB (fun f_5524 f_5525 e_f_5524_0 hB => ?_)
  obtain ⟨hP, hD⟩ := Bw.goA (ws' := [(oc6 oK oR oC oS oT rK_images iK_imageCount oA oH oL iK_refusal iK_latestFault iK_latestPlace), (oc1 oC iC_nodes iC_words iC_chances iC_unsures iC_slips iC_throneNode iC_saidWorth iC_unit rC_kind rC_parts rC_partNodes rC_weights rC_weightSums rC_toldWorths rC_steps rC_below rC_above rC_unsureWords rC_unsureWorths), (arI rC_kind kC_kind 18 fC_kind), (arI rC_parts kC_parts 18 fC_parts), (arI rC_partNodes kC_partNodes 72 fC_partNodes), (arI rC_weights kC_weights 72 fC_weights), (arI rC_weightSums kC_weightSums 18 fC_weightSums), (oc5 oS rS_worths rS_order rS_left), (arI rS_worths kS_worths 18 fS_worths), (oc4 oL rL_values rL_supposed), (arI rL_values kL_values 18 f_5524), (arI rL_supposed kL_supposed 18 f_5525)]) hB rfl ht hFc rfl
  clear hz1 hk1 hvm ht hB
  rw [← hru9] at e_f_5524_0
  obtain ⟨x_5526, rfl⟩ : ∃ z, z = r := ⟨_, rfl⟩
  have hG := hG.trans (un3_eq e_f_5524_0)
  refine lv_istore (lv' := [(4, .int x_5526), (3, .int x_5522), (2, .int x_5517), (0, .ref oK), (1, .int p0)]) hx hb dX6_leastTurn_55 hl (by decide) rfl (fun ls hl => ?_)
  refine lv_iload_n hx hb dX6_leastTurn_57 rfl (lv_at hl 1 rfl) ?_
  refine lv_if_lt (tgt := 66) hx hb dX6_leastTurn_58 (by decide) (fun c_5527 => ?_) (fun c_5527 => ?_)
  · skip
    have hG := hG.trans (if_pos c_5527)
    have gc_5527 := ti_lt c_5527 rfl kc_0
    refine lv_iload_n hx hb dX6_leastTurn_66 rfl (lv_at hl 1 rfl) ?_
    refine lv_iload hx hb dX6_leastTurn_67 (lv_at hl 0 rfl) ?_
    refine va_mmax hx hb (hml.trans hl.1.symm) hown (hts _ wd_1125) (hts _ wd_321) (hts _ wd_322) (hts _ wd_323) (Nat.le_of_ble_eq_true rfl) (Nat.le_of_ble_eq_true rfl) (Nat.le_of_ble_eq_true rfl) (Nat.le_of_ble_eq_true rfl) dX6_leastTurn_69 ?_
    refine lv_topi (fun x_5528 ex_5528 => ?_)
    have hG := hG.trans (lt_eq ex_5528)
    have qx_5528 := ti_max ex_5528 rfl rfl
    exact wq_i hx hb hr (cI x_5528) ⟨⟨trivial, trivial⟩, (cI_of x_5528)⟩ (fun t ht hW => ⟨f_5524, f_5525, (cI_tup hG), Bw.to hP hD hK ht hW⟩) hS dX6_leastTurn_72 hlocks
  · skip
    have hG := hG.trans (if_neg c_5527)
    have gc_5527 := ti_nlt c_5527 rfl kc_0
    refine lv_iload hx hb dX6_leastTurn_61 (lv_at hl 0 rfl) ?_
    refine lv_if_ge (tgt := 73) hx hb dX6_leastTurn_63 (by decide) (fun c_5529 => ?_) (fun c_5529 => ?_)
    · skip
      have hG := hG.trans (if_pos c_5529)
      have gc_5529 := ti_le c_5529 kc_0 rfl
      refine lv_iload_n hx hb dX6_leastTurn_73 rfl (lv_at hl 1 rfl) ?_
      refine lv_iload hx hb dX6_leastTurn_74 (lv_at hl 0 rfl) ?_
      refine va_mmin hx hb (hml.trans hl.1.symm) hown (hts _ wd_1079) (hts _ wd_759) (hts _ wd_322) (hts _ wd_760) (Nat.le_of_ble_eq_true rfl) (Nat.le_of_ble_eq_true rfl) (Nat.le_of_ble_eq_true rfl) (Nat.le_of_ble_eq_true rfl) dX6_leastTurn_76 ?_
      refine lv_topi (fun x_5530 ex_5530 => ?_)
      have hG := hG.trans (lt_eq ex_5530)
      have qx_5530 := ti_min ex_5530 rfl rfl
      exact wq_i hx hb hr (cI x_5530) ⟨⟨trivial, trivial⟩, (cI_of x_5530)⟩ (fun t ht hW => ⟨f_5524, f_5525, (cI_tup hG), Bw.to hP hD hK ht hW⟩) hS dX6_leastTurn_79 hlocks
    · skip
      have hG := hG.trans (if_neg c_5529)
      have gc_5529 := ti_nle c_5529 kc_0 rfl
      refine lv_iload_n hx hb dX6_leastTurn_66 rfl (lv_at hl 1 rfl) ?_
      refine lv_iload hx hb dX6_leastTurn_67 (lv_at hl 0 rfl) ?_
      refine va_mmax hx hb (hml.trans hl.1.symm) hown (hts _ wd_1125) (hts _ wd_321) (hts _ wd_322) (hts _ wd_323) (Nat.le_of_ble_eq_true rfl) (Nat.le_of_ble_eq_true rfl) (Nat.le_of_ble_eq_true rfl) (Nat.le_of_ble_eq_true rfl) dX6_leastTurn_69 ?_
      refine lv_topi (fun x_5531 ex_5531 => ?_)
      have hG := hG.trans (lt_eq ex_5531)
      have qx_5531 := ti_max ex_5531 rfl rfl
      exact wq_i hx hb hr (cI x_5531) ⟨⟨trivial, trivial⟩, (cI_of x_5531)⟩ (fun t ht hW => ⟨f_5524, f_5525, (cI_tup hG), Bw.to hP hD hK ht hW⟩) hS dX6_leastTurn_72 hlocks
set_option maxHeartbeats 4000000 in
set_option maxRecDepth 100000 in
theorem tX6_turn (l : Launch) (dC : Nat → ClassId) (dI : Nat → Nat → Nat) (sz : Nat) (oK : Nat) (oR : Nat) (oC : Nat) (oS : Nat) (oT : Nat) (rK_images : Nat) (iK_imageCount : Int32) (oA : Nat) (oH : Nat) (oL : Nat) (iK_refusal : Int32) (iK_latestFault : Int32) (iK_latestPlace : Int32) (iC_nodes : Int32) (iC_words : Int32) (iC_chances : Int32) (iC_unsures : Int32) (iC_slips : Int32) (iC_throneNode : Int32) (iC_saidWorth : Int32) (iC_unit : Int32) (rC_kind : Nat) (fC_kind : Nat → Int32) (kC_kind : ClassId) (rC_parts : Nat) (fC_parts : Nat → Int32) (kC_parts : ClassId) (rC_partNodes : Nat) (fC_partNodes : Nat → Int32) (kC_partNodes : ClassId) (rC_weights : Nat) (fC_weights : Nat → Int32) (kC_weights : ClassId) (rC_weightSums : Nat) (fC_weightSums : Nat → Int32) (kC_weightSums : ClassId) (rC_toldWorths : Nat) (rC_steps : Nat) (rC_below : Nat) (rC_above : Nat) (rC_unsureWords : Nat) (rC_unsureWorths : Nat) (rS_worths : Nat) (fS_worths : Nat → Int32) (kS_worths : ClassId) (rS_order : Nat) (rS_left : Nat) (rL_values : Nat) (fL_values : Nat → Int32) (kL_values : ClassId) (rL_supposed : Nat) (fL_supposed : Nat → Int32) (kL_supposed : ClassId) (p0 : Int32) (b_iK_imageCount : 0 ≤ iK_imageCount.toInt ∧ iK_imageCount.toInt ≤ 3) (b_iC_nodes : 0 ≤ iC_nodes.toInt ∧ iC_nodes.toInt ≤ 18) (b_iC_unsures : 0 ≤ iC_unsures.toInt ∧ iC_unsures.toInt ≤ 4) (b_iC_throneNode : (-1) ≤ iC_throneNode.toInt ∧ iC_throneNode.toInt ≤ 17) (a_fC_parts : ∀ j : Nat, j < 18 → 0 ≤ (fC_parts j).toInt ∧ (fC_parts j).toInt ≤ 4) (a_fC_partNodes : ∀ j : Nat, j < 72 → 0 ≤ (fC_partNodes j).toInt ∧ (fC_partNodes j).toInt ≤ 17)  : Met l yX6_turn (Cond.code yX6_turn cX6_turn 2 (some .int) :: wG) ({ frames := 6, cells := 0, slots := 0, locals := 147 }) (va_Pc [.ref oK, .int p0] (Pw dC dI sz [(oc6 oK oR oC oS oT rK_images iK_imageCount oA oH oL iK_refusal iK_latestFault iK_latestPlace), (oc1 oC iC_nodes iC_words iC_chances iC_unsures iC_slips iC_throneNode iC_saidWorth iC_unit rC_kind rC_parts rC_partNodes rC_weights rC_weightSums rC_toldWorths rC_steps rC_below rC_above rC_unsureWords rC_unsureWorths), (arI rC_kind kC_kind 18 fC_kind), (arI rC_parts kC_parts 18 fC_parts), (arI rC_partNodes kC_partNodes 72 fC_partNodes), (arI rC_weights kC_weights 72 fC_weights), (arI rC_weightSums kC_weightSums 18 fC_weightSums), (oc5 oS rS_worths rS_order rS_left), (arI rS_worths kS_worths 18 fS_worths), (oc4 oL rL_values rL_supposed), (arI rL_values kL_values 18 fL_values), (arI rL_supposed kL_supposed 18 fL_supposed)] [(kC_kind, .int), (kC_parts, .int), (kC_partNodes, .int), (kC_weights, .int), (kC_weightSums, .int), (kS_worths, .int), (kL_values, .int), (kL_supposed, .int)])) (va_Qi (fun (r : Int32) (u : Nat) => (True ∧ True) ∧ r = Int32.ofNat u) (fun (u : Nat) (t : State) => ∃ (niK_refusal : Int32) (nfL_values : Nat → Int32) (nfL_supposed : Nat → Int32), (PX6_turn iC_nodes iC_throneNode iC_unit fC_kind fC_parts fC_partNodes fC_weights fC_weightSums fS_worths fL_values fL_supposed p0 = (Int32.ofNat u, niK_refusal, nfL_values, nfL_supposed)) ∧ Bw dC dI (va_A [(oc6 oK oR oC oS oT rK_images iK_imageCount oA oH oL iK_refusal iK_latestFault iK_latestPlace), (oc1 oC iC_nodes iC_words iC_chances iC_unsures iC_slips iC_throneNode iC_saidWorth iC_unit rC_kind rC_parts rC_partNodes rC_weights rC_weightSums rC_toldWorths rC_steps rC_below rC_above rC_unsureWords rC_unsureWorths), (arI rC_kind kC_kind 18 fC_kind), (arI rC_parts kC_parts 18 fC_parts), (arI rC_partNodes kC_partNodes 72 fC_partNodes), (arI rC_weights kC_weights 72 fC_weights), (arI rC_weightSums kC_weightSums 18 fC_weightSums), (oc5 oS rS_worths rS_order rS_left), (arI rS_worths kS_worths 18 fS_worths), (oc4 oL rL_values rL_supposed), (arI rL_values kL_values 18 fL_values), (arI rL_supposed kL_supposed 18 fL_supposed)] sz) [(oc6 oK oR oC oS oT rK_images iK_imageCount oA oH oL niK_refusal iK_latestFault iK_latestPlace), (oc1 oC iC_nodes iC_words iC_chances iC_unsures iC_slips iC_throneNode iC_saidWorth iC_unit rC_kind rC_parts rC_partNodes rC_weights rC_weightSums rC_toldWorths rC_steps rC_below rC_above rC_unsureWords rC_unsureWorths), (arI rC_kind kC_kind 18 fC_kind), (arI rC_parts kC_parts 18 fC_parts), (arI rC_partNodes kC_partNodes 72 fC_partNodes), (arI rC_weights kC_weights 72 fC_weights), (arI rC_weightSums kC_weightSums 18 fC_weightSums), (oc5 oS rS_worths rS_order rS_left), (arI rS_worths kS_worths 18 fS_worths), (oc4 oL rL_values rL_supposed), (arI rL_values kL_values 18 nfL_values), (arI rL_supposed kL_supposed 18 nfL_supposed)] [(kC_kind, .int), (kC_parts, .int), (kC_partNodes, .int), (kC_weights, .int), (kC_weightSums, .int), (kS_worths, .int), (kL_values, .int), (kL_supposed, .int)] t) (va_A [(oc6 oK oR oC oS oT rK_images iK_imageCount oA oH oL iK_refusal iK_latestFault iK_latestPlace), (oc1 oC iC_nodes iC_words iC_chances iC_unsures iC_slips iC_throneNode iC_saidWorth iC_unit rC_kind rC_parts rC_partNodes rC_weights rC_weightSums rC_toldWorths rC_steps rC_below rC_above rC_unsureWords rC_unsureWorths), (arI rC_kind kC_kind 18 fC_kind), (arI rC_parts kC_parts 18 fC_parts), (arI rC_partNodes kC_partNodes 72 fC_partNodes), (arI rC_weights kC_weights 72 fC_weights), (arI rC_weightSums kC_weightSums 18 fC_weightSums), (oc5 oS rS_worths rS_order rS_left), (arI rS_worths kS_worths 18 fS_worths), (oc4 oL rL_values rL_supposed), (arI rL_values kL_values 18 fL_values), (arI rL_supposed kL_supposed 18 fL_supposed)] sz)) 0 0 (va_A [(oc6 oK oR oC oS oT rK_images iK_imageCount oA oH oL iK_refusal iK_latestFault iK_latestPlace), (oc1 oC iC_nodes iC_words iC_chances iC_unsures iC_slips iC_throneNode iC_saidWorth iC_unit rC_kind rC_parts rC_partNodes rC_weights rC_weightSums rC_toldWorths rC_steps rC_below rC_above rC_unsureWords rC_unsureWorths), (arI rC_kind kC_kind 18 fC_kind), (arI rC_parts kC_parts 18 fC_parts), (arI rC_partNodes kC_partNodes 72 fC_partNodes), (arI rC_weights kC_weights 72 fC_weights), (arI rC_weightSums kC_weightSums 18 fC_weightSums), (oc5 oS rS_worths rS_order rS_left), (arI rS_worths kS_worths 18 fS_worths), (oc4 oL rL_values rL_supposed), (arI rL_values kL_values 18 fL_values), (arI rL_supposed kL_supposed 18 fL_supposed)] sz) := by
  refine Met.ofW (cc := cX6_turn) (maxL := 2) (ret := (some .int)) pnX6 rfl ?_
  intro p e s m args below meth c s₁ B hml hv
  obtain ⟨rfl, hsz, hP, hK, hD0, hE⟩ := hv
  have hx := B.exec
  have hb := B.bytes
  have hr := B.returns
  have hts : ∀ w ∈ wG, w.before ([.ref oK, .int p0] : List Value).toArray s = true := fun w h => atoms_spec (ws := Cond.code yX6_turn cX6_turn 2 (some .int) :: wG) B.pre w (List.mem_cons_of_mem _ h)
  have hown : s.vm.findClass RX6 = some m.cls := own_of B.named rfl
  have hlocks := B.notSynchronized
  subst hsz
  have hD := hD0.self (sz := s.heap.size)
  generalize hAe : va_A [(oc6 oK oR oC oS oT rK_images iK_imageCount oA oH oL iK_refusal iK_latestFault iK_latestPlace), (oc1 oC iC_nodes iC_words iC_chances iC_unsures iC_slips iC_throneNode iC_saidWorth iC_unit rC_kind rC_parts rC_partNodes rC_weights rC_weightSums rC_toldWorths rC_steps rC_below rC_above rC_unsureWords rC_unsureWorths), (arI rC_kind kC_kind 18 fC_kind), (arI rC_parts kC_parts 18 fC_parts), (arI rC_partNodes kC_partNodes 72 fC_partNodes), (arI rC_weights kC_weights 72 fC_weights), (arI rC_weightSums kC_weightSums 18 fC_weightSums), (oc5 oS rS_worths rS_order rS_left), (arI rS_worths kS_worths 18 fS_worths), (oc4 oL rL_values rL_supposed), (arI rL_values kL_values 18 fL_values), (arI rL_supposed kL_supposed 18 fL_supposed)] s.heap.size = A at hD hE ⊢
  have hA : ∀ q : Nat, s.heap.size ≤ q → A q := fun q h => by rw [← hAe]; exact Or.inr h
  have hS : va_S A s.heap s.heap [] := va_S.rf
  have hl := lv_entry ([.ref oK, .int p0]) (n := 2) (Nat.le_of_ble_eq_true rfl)
  rw [lg_entry_eq]
  generalize (lg_sl ([.ref oK, .int p0]) ++ List.replicate (2 - (lg_sl ([.ref oK, .int p0])).length) Slot.unset).toArray = ls at hl ⊢
  have hl : lv_has ls 2 [(0, .ref oK), (1, .int p0)] := hl
  have hG := PX6_turn_eq iC_nodes iC_throneNode iC_unit fC_kind fC_parts fC_partNodes fC_weights fC_weightSums fS_worths fL_values fL_supposed p0
  refine lv_aload_n hx hb dX6_turn_0 rfl (lv_at hl 0 rfl) ?_
  refine lv_iload_n hx hb dX6_turn_1 rfl (lv_at hl 1 rfl) ?_
  have hMs := ml_of hD [true, true, true, false, false, false, false, false, false, false, false, false] (wc := [(oc6 oK oR oC oS oT rK_images iK_imageCount oA oH oL iK_refusal iK_latestFault iK_latestPlace), (oc1 oC iC_nodes iC_words iC_chances iC_unsures iC_slips iC_throneNode iC_saidWorth iC_unit rC_kind rC_parts rC_partNodes rC_weights rC_weightSums rC_toldWorths rC_steps rC_below rC_above rC_unsureWords rC_unsureWorths), (arI rC_kind kC_kind 18 fC_kind)]) rfl
  have hFc := va_freeM hD hS hA _ hMs
  refine va_calli (va_runV (As := [.int p0]) (rest := []) ⟨hx, hb, hml, hown, hts⟩ (tX6_lacksWord l dC dI _ oK oR oC oS oT rK_images iK_imageCount oA oH oL iK_refusal iK_latestFault iK_latestPlace iC_nodes iC_words iC_chances iC_unsures iC_slips iC_throneNode iC_saidWorth iC_unit rC_kind fC_kind kC_kind rC_parts rC_partNodes rC_weights rC_weightSums rC_toldWorths rC_steps rC_below rC_above rC_unsureWords rC_unsureWorths p0 b_iK_imageCount b_iC_nodes b_iC_unsures b_iC_throneNode) (cwV 1 hts (wd_V wd_1116 wd_1117 wd_1118 wd_2 (wd_c wd_1119)) rfl rfl rfl dv_yX6_lacksWord_1 ⟨Nat.le_of_ble_eq_true rfl, Nat.le_of_ble_eq_true rfl⟩) ⟨Pw.fb, recvX6 hK hP (q0 := 0) rfl, fun U hU hW => Pw.to (hP.ms _ hMs) (hD.ms _ hMs) (hK.ms [true, false, false, false, false, false, false, false] rfl) hE hS hFc hU hW⟩ rfl rfl hl.1 rfl (lv_room (Nat.le_of_ble_eq_true rfl)) dX6_turn_2 ⟨Nat.le_of_ble_eq_true rfl, Nat.le_of_ble_eq_true rfl⟩) hS (fun q _ h => hFc q h) hFc (fun r u t H locs ht hvm hw hB hz1 hk1 hS => ?_)
  have hru9 := hw.2
  have hw := hw.1
  refine ex_1_2 hB (fun x_5539 b_x_5539 e_x_5539_0 hB => ?_)
  obtain ⟨hP, hD⟩ := Bw.goN (ws' := [(oc6 oK oR oC oS oT rK_images iK_imageCount oA oH oL x_5539 iK_latestFault iK_latestPlace), (oc1 oC iC_nodes iC_words iC_chances iC_unsures iC_slips iC_throneNode iC_saidWorth iC_unit rC_kind rC_parts rC_partNodes rC_weights rC_weightSums rC_toldWorths rC_steps rC_below rC_above rC_unsureWords rC_unsureWorths), (arI rC_kind kC_kind 18 fC_kind), (arI rC_parts kC_parts 18 fC_parts), (arI rC_partNodes kC_partNodes 72 fC_partNodes), (arI rC_weights kC_weights 72 fC_weights), (arI rC_weightSums kC_weightSums 18 fC_weightSums), (oc5 oS rS_worths rS_order rS_left), (arI rS_worths kS_worths 18 fS_worths), (oc4 oL rL_values rL_supposed), (arI rL_values kL_values 18 fL_values), (arI rL_supposed kL_supposed 18 fL_supposed)]) hB rfl ht hP hD _ hMs hk1 hFc rfl
  clear hz1 hk1 hvm ht hB hMs
  rw [← hru9] at e_x_5539_0
  rcases hw.2 with ⟨rfl, hc_5540⟩ | ⟨rfl, hc_5540⟩
  · skip
    have hG := hG.trans (un2_eq e_x_5539_0)
    have hG := hG.trans (if_pos rfl)
    refine lv_if_eq (tgt := 10) hx hb dX6_turn_5 (by decide) (fun _ => ?_) (fun c => absurd c (by decide))
    refine lv_aload_n hx hb dX6_turn_10 rfl (lv_at hl 0 rfl) ?_
    refine lv_iload_n hx hb dX6_turn_11 rfl (lv_at hl 1 rfl) ?_
    have hFc := va_freeI hD hS hA
    refine va_calli (va_runV (As := [.int p0]) (rest := []) ⟨hx, hb, hml, hown, hts⟩ (tX6_leastTurn l dC dI _ oK oR oC oS oT rK_images iK_imageCount oA oH oL x_5539 iK_latestFault iK_latestPlace iC_nodes iC_words iC_chances iC_unsures iC_slips iC_throneNode iC_saidWorth iC_unit rC_kind fC_kind kC_kind rC_parts fC_parts kC_parts rC_partNodes fC_partNodes kC_partNodes rC_weights fC_weights kC_weights rC_weightSums fC_weightSums kC_weightSums rC_toldWorths rC_steps rC_below rC_above rC_unsureWords rC_unsureWorths rS_worths fS_worths kS_worths rS_order rS_left rL_values fL_values kL_values rL_supposed fL_supposed kL_supposed p0 b_iK_imageCount b_iC_nodes b_iC_unsures b_iC_throneNode a_fC_parts a_fC_partNodes ⟨hc_5540.1, (om_525c5d3e b_iC_nodes.2 hc_5540.2)⟩) (cwV 1 hts (wd_V wd_1121 wd_1122 wd_1123 wd_2 (wd_c wd_1124)) rfl rfl rfl dv_yX6_leastTurn_1 ⟨Nat.le_of_ble_eq_true rfl, Nat.le_of_ble_eq_true rfl⟩) ⟨Pw.fb, recvX6 hK hP (q0 := 0) rfl, fun U hU hW => Pw.to hP hD hK hE hS hFc hU hW⟩ rfl rfl hl.1 rfl (lv_room (Nat.le_of_ble_eq_true rfl)) dX6_turn_12 ⟨Nat.le_of_ble_eq_true rfl, Nat.le_of_ble_eq_true rfl⟩) hS (fun q _ h => hFc q h) hFc (fun r u t H locs ht hvm hw hB hz1 hk1 hS => ?_)
    have hru9 := hw.2
    have hw := hw.1
    refine ex_2_1 hB (fun f_5543 f_5544 e_f_5543_0 hB => ?_)
    obtain ⟨hP, hD⟩ := Bw.goA (ws' := [(oc6 oK oR oC oS oT rK_images iK_imageCount oA oH oL x_5539 iK_latestFault iK_latestPlace), (oc1 oC iC_nodes iC_words iC_chances iC_unsures iC_slips iC_throneNode iC_saidWorth iC_unit rC_kind rC_parts rC_partNodes rC_weights rC_weightSums rC_toldWorths rC_steps rC_below rC_above rC_unsureWords rC_unsureWorths), (arI rC_kind kC_kind 18 fC_kind), (arI rC_parts kC_parts 18 fC_parts), (arI rC_partNodes kC_partNodes 72 fC_partNodes), (arI rC_weights kC_weights 72 fC_weights), (arI rC_weightSums kC_weightSums 18 fC_weightSums), (oc5 oS rS_worths rS_order rS_left), (arI rS_worths kS_worths 18 fS_worths), (oc4 oL rL_values rL_supposed), (arI rL_values kL_values 18 f_5543), (arI rL_supposed kL_supposed 18 f_5544)]) hB rfl ht hFc rfl
    clear hz1 hk1 hvm ht hB
    rw [← hru9] at e_f_5543_0
    obtain ⟨x_5545, rfl⟩ : ∃ z, z = r := ⟨_, rfl⟩
    have hG := hG.trans (un3_eq e_f_5543_0)
    exact wq_i hx hb hr (cI x_5545) ⟨⟨trivial, trivial⟩, (cI_of x_5545)⟩ (fun t ht hW => ⟨x_5539, f_5543, f_5544, (cI_tup hG), Bw.to hP hD hK ht hW⟩) hS dX6_turn_15 hlocks
  · skip
    have hG := hG.trans (un2_eq e_x_5539_0)
    have hG := hG.trans (if_neg (by decide))
    refine lv_if_eq (tgt := 10) hx hb dX6_turn_5 (by decide) (fun c => absurd c (by decide)) (fun _ => ?_)
    refine lv_iconst (v := (-1)) hx hb dX6_turn_8 (by decide) ?_
    exact wq_i hx hb hr (cI (-1)) ⟨⟨trivial, trivial⟩, (cI_of (-1))⟩ (fun t ht hW => ⟨x_5539, fL_values, fL_supposed, (cI_tup hG), Bw.to hP hD hK ht hW⟩) hS dX6_turn_9 hlocks
set_option maxHeartbeats 4000000 in
set_option maxRecDepth 100000 in
theorem tX6_pivot (l : Launch) (dC : Nat → ClassId) (dI : Nat → Nat → Nat) (sz : Nat) (oK : Nat) (oR : Nat) (oC : Nat) (oS : Nat) (oT : Nat) (rK_images : Nat) (iK_imageCount : Int32) (oA : Nat) (oH : Nat) (oL : Nat) (iK_refusal : Int32) (iK_latestFault : Int32) (iK_latestPlace : Int32) (iC_nodes : Int32) (iC_words : Int32) (iC_chances : Int32) (iC_unsures : Int32) (iC_slips : Int32) (iC_throneNode : Int32) (iC_saidWorth : Int32) (iC_unit : Int32) (rC_kind : Nat) (fC_kind : Nat → Int32) (kC_kind : ClassId) (rC_parts : Nat) (fC_parts : Nat → Int32) (kC_parts : ClassId) (rC_partNodes : Nat) (fC_partNodes : Nat → Int32) (kC_partNodes : ClassId) (rC_weights : Nat) (fC_weights : Nat → Int32) (kC_weights : ClassId) (rC_weightSums : Nat) (fC_weightSums : Nat → Int32) (kC_weightSums : ClassId) (rC_toldWorths : Nat) (rC_steps : Nat) (rC_below : Nat) (rC_above : Nat) (rC_unsureWords : Nat) (rC_unsureWorths : Nat) (rS_worths : Nat) (fS_worths : Nat → Int32) (kS_worths : ClassId) (rS_order : Nat) (rS_left : Nat) (rL_values : Nat) (fL_values : Nat → Int32) (kL_values : ClassId) (rL_supposed : Nat) (fL_supposed : Nat → Int32) (kL_supposed : ClassId) (b_iK_imageCount : 0 ≤ iK_imageCount.toInt ∧ iK_imageCount.toInt ≤ 3) (b_iC_nodes : 0 ≤ iC_nodes.toInt ∧ iC_nodes.toInt ≤ 18) (b_iC_unsures : 0 ≤ iC_unsures.toInt ∧ iC_unsures.toInt ≤ 4) (b_iC_throneNode : (-1) ≤ iC_throneNode.toInt ∧ iC_throneNode.toInt ≤ 17) (a_fC_parts : ∀ j : Nat, j < 18 → 0 ≤ (fC_parts j).toInt ∧ (fC_parts j).toInt ≤ 4) (a_fC_partNodes : ∀ j : Nat, j < 72 → 0 ≤ (fC_partNodes j).toInt ∧ (fC_partNodes j).toInt ≤ 17)  : Met l yX6_pivot (Cond.code yX6_pivot cX6_pivot 5 (some .int) :: wG) ({ frames := 6, cells := 0, slots := 0, locals := 147 }) (va_Pc [.ref oK] (Pw dC dI sz [(oc6 oK oR oC oS oT rK_images iK_imageCount oA oH oL iK_refusal iK_latestFault iK_latestPlace), (oc1 oC iC_nodes iC_words iC_chances iC_unsures iC_slips iC_throneNode iC_saidWorth iC_unit rC_kind rC_parts rC_partNodes rC_weights rC_weightSums rC_toldWorths rC_steps rC_below rC_above rC_unsureWords rC_unsureWorths), (arI rC_kind kC_kind 18 fC_kind), (arI rC_parts kC_parts 18 fC_parts), (arI rC_partNodes kC_partNodes 72 fC_partNodes), (arI rC_weights kC_weights 72 fC_weights), (arI rC_weightSums kC_weightSums 18 fC_weightSums), (oc5 oS rS_worths rS_order rS_left), (arI rS_worths kS_worths 18 fS_worths), (oc4 oL rL_values rL_supposed), (arI rL_values kL_values 18 fL_values), (arI rL_supposed kL_supposed 18 fL_supposed)] [(kC_kind, .int), (kC_parts, .int), (kC_partNodes, .int), (kC_weights, .int), (kC_weightSums, .int), (kS_worths, .int), (kL_values, .int), (kL_supposed, .int)])) (va_Qi (fun (r : Int32) (u : Nat) => (True ∧ True) ∧ r = Int32.ofNat u) (fun (u : Nat) (t : State) => ∃ (niK_refusal : Int32) (nfL_values : Nat → Int32) (nfL_supposed : Nat → Int32), (PX6_pivot iC_nodes iC_throneNode iC_unit fC_kind fC_parts fC_partNodes fC_weights fC_weightSums fS_worths fL_values fL_supposed = (Int32.ofNat u, niK_refusal, nfL_values, nfL_supposed)) ∧ Bw dC dI (va_A [(oc6 oK oR oC oS oT rK_images iK_imageCount oA oH oL iK_refusal iK_latestFault iK_latestPlace), (oc1 oC iC_nodes iC_words iC_chances iC_unsures iC_slips iC_throneNode iC_saidWorth iC_unit rC_kind rC_parts rC_partNodes rC_weights rC_weightSums rC_toldWorths rC_steps rC_below rC_above rC_unsureWords rC_unsureWorths), (arI rC_kind kC_kind 18 fC_kind), (arI rC_parts kC_parts 18 fC_parts), (arI rC_partNodes kC_partNodes 72 fC_partNodes), (arI rC_weights kC_weights 72 fC_weights), (arI rC_weightSums kC_weightSums 18 fC_weightSums), (oc5 oS rS_worths rS_order rS_left), (arI rS_worths kS_worths 18 fS_worths), (oc4 oL rL_values rL_supposed), (arI rL_values kL_values 18 fL_values), (arI rL_supposed kL_supposed 18 fL_supposed)] sz) [(oc6 oK oR oC oS oT rK_images iK_imageCount oA oH oL niK_refusal iK_latestFault iK_latestPlace), (oc1 oC iC_nodes iC_words iC_chances iC_unsures iC_slips iC_throneNode iC_saidWorth iC_unit rC_kind rC_parts rC_partNodes rC_weights rC_weightSums rC_toldWorths rC_steps rC_below rC_above rC_unsureWords rC_unsureWorths), (arI rC_kind kC_kind 18 fC_kind), (arI rC_parts kC_parts 18 fC_parts), (arI rC_partNodes kC_partNodes 72 fC_partNodes), (arI rC_weights kC_weights 72 fC_weights), (arI rC_weightSums kC_weightSums 18 fC_weightSums), (oc5 oS rS_worths rS_order rS_left), (arI rS_worths kS_worths 18 fS_worths), (oc4 oL rL_values rL_supposed), (arI rL_values kL_values 18 nfL_values), (arI rL_supposed kL_supposed 18 nfL_supposed)] [(kC_kind, .int), (kC_parts, .int), (kC_partNodes, .int), (kC_weights, .int), (kC_weightSums, .int), (kS_worths, .int), (kL_values, .int), (kL_supposed, .int)] t) (va_A [(oc6 oK oR oC oS oT rK_images iK_imageCount oA oH oL iK_refusal iK_latestFault iK_latestPlace), (oc1 oC iC_nodes iC_words iC_chances iC_unsures iC_slips iC_throneNode iC_saidWorth iC_unit rC_kind rC_parts rC_partNodes rC_weights rC_weightSums rC_toldWorths rC_steps rC_below rC_above rC_unsureWords rC_unsureWorths), (arI rC_kind kC_kind 18 fC_kind), (arI rC_parts kC_parts 18 fC_parts), (arI rC_partNodes kC_partNodes 72 fC_partNodes), (arI rC_weights kC_weights 72 fC_weights), (arI rC_weightSums kC_weightSums 18 fC_weightSums), (oc5 oS rS_worths rS_order rS_left), (arI rS_worths kS_worths 18 fS_worths), (oc4 oL rL_values rL_supposed), (arI rL_values kL_values 18 fL_values), (arI rL_supposed kL_supposed 18 fL_supposed)] sz)) 0 0 (va_A [(oc6 oK oR oC oS oT rK_images iK_imageCount oA oH oL iK_refusal iK_latestFault iK_latestPlace), (oc1 oC iC_nodes iC_words iC_chances iC_unsures iC_slips iC_throneNode iC_saidWorth iC_unit rC_kind rC_parts rC_partNodes rC_weights rC_weightSums rC_toldWorths rC_steps rC_below rC_above rC_unsureWords rC_unsureWorths), (arI rC_kind kC_kind 18 fC_kind), (arI rC_parts kC_parts 18 fC_parts), (arI rC_partNodes kC_partNodes 72 fC_partNodes), (arI rC_weights kC_weights 72 fC_weights), (arI rC_weightSums kC_weightSums 18 fC_weightSums), (oc5 oS rS_worths rS_order rS_left), (arI rS_worths kS_worths 18 fS_worths), (oc4 oL rL_values rL_supposed), (arI rL_values kL_values 18 fL_values), (arI rL_supposed kL_supposed 18 fL_supposed)] sz) := by
  refine Met.ofW (cc := cX6_pivot) (maxL := 5) (ret := (some .int)) pnX6 rfl ?_
  intro p e s m args below meth c s₁ B hml hv
  obtain ⟨rfl, hsz, hP, hK, hD0, hE⟩ := hv
  have hx := B.exec
  have hb := B.bytes
  have hr := B.returns
  have hts : ∀ w ∈ wG, w.before ([.ref oK] : List Value).toArray s = true := fun w h => atoms_spec (ws := Cond.code yX6_pivot cX6_pivot 5 (some .int) :: wG) B.pre w (List.mem_cons_of_mem _ h)
  have hown : s.vm.findClass RX6 = some m.cls := own_of B.named rfl
  have hlocks := B.notSynchronized
  subst hsz
  have hD := hD0.self (sz := s.heap.size)
  generalize hAe : va_A [(oc6 oK oR oC oS oT rK_images iK_imageCount oA oH oL iK_refusal iK_latestFault iK_latestPlace), (oc1 oC iC_nodes iC_words iC_chances iC_unsures iC_slips iC_throneNode iC_saidWorth iC_unit rC_kind rC_parts rC_partNodes rC_weights rC_weightSums rC_toldWorths rC_steps rC_below rC_above rC_unsureWords rC_unsureWorths), (arI rC_kind kC_kind 18 fC_kind), (arI rC_parts kC_parts 18 fC_parts), (arI rC_partNodes kC_partNodes 72 fC_partNodes), (arI rC_weights kC_weights 72 fC_weights), (arI rC_weightSums kC_weightSums 18 fC_weightSums), (oc5 oS rS_worths rS_order rS_left), (arI rS_worths kS_worths 18 fS_worths), (oc4 oL rL_values rL_supposed), (arI rL_values kL_values 18 fL_values), (arI rL_supposed kL_supposed 18 fL_supposed)] s.heap.size = A at hD hE ⊢
  have hA : ∀ q : Nat, s.heap.size ≤ q → A q := fun q h => by rw [← hAe]; exact Or.inr h
  have hS : va_S A s.heap s.heap [] := va_S.rf
  have hl := lv_entry ([.ref oK]) (n := 5) (Nat.le_of_ble_eq_true rfl)
  rw [lg_entry_eq]
  generalize (lg_sl ([.ref oK]) ++ List.replicate (5 - (lg_sl ([.ref oK])).length) Slot.unset).toArray = ls at hl ⊢
  have hl : lv_has ls 5 [(0, .ref oK)] := hl
  have hG := PX6_pivot_eq iC_nodes iC_throneNode iC_unit fC_kind fC_parts fC_partNodes fC_weights fC_weightSums fS_worths fL_values fL_supposed
  refine lv_aload_n hx hb dX6_pivot_0 rfl (lv_at hl 0 rfl) ?_
  have hMs := ml_of hD [true, true, false, false, false, false, false, false, false, false, false, false] (wc := [(oc6 oK oR oC oS oT rK_images iK_imageCount oA oH oL iK_refusal iK_latestFault iK_latestPlace), (oc1 oC iC_nodes iC_words iC_chances iC_unsures iC_slips iC_throneNode iC_saidWorth iC_unit rC_kind rC_parts rC_partNodes rC_weights rC_weightSums rC_toldWorths rC_steps rC_below rC_above rC_unsureWords rC_unsureWorths)]) rfl
  have hFc := va_freeM hD hS hA _ hMs
  refine va_calli (va_runV (As := []) (rest := []) ⟨hx, hb, hml, hown, hts⟩ (tX6_lacksCourt l dC dI _ oK oR oC oS oT rK_images iK_imageCount oA oH oL iK_refusal iK_latestFault iK_latestPlace iC_nodes iC_words iC_chances iC_unsures iC_slips iC_throneNode iC_saidWorth iC_unit rC_kind rC_parts rC_partNodes rC_weights rC_weightSums rC_toldWorths rC_steps rC_below rC_above rC_unsureWords rC_unsureWorths b_iK_imageCount b_iC_nodes b_iC_unsures b_iC_throneNode) (cwV 0 hts (wd_V wd_596 wd_597 wd_598 wd_2 (wd_c wd_599)) rfl rfl rfl dv_yX6_lacksCourt_0 ⟨Nat.le_of_ble_eq_true rfl, Nat.le_of_ble_eq_true rfl⟩) ⟨Pw.fb, recvX6 hK hP (q0 := 0) rfl, fun U hU hW => Pw.to (hP.ms _ hMs) (hD.ms _ hMs) (hK.ms [false, false, false, false, false, false, false, false] rfl) hE hS hFc hU hW⟩ rfl rfl hl.1 rfl (lv_room (Nat.le_of_ble_eq_true rfl)) dX6_pivot_1 ⟨Nat.le_of_ble_eq_true rfl, Nat.le_of_ble_eq_true rfl⟩) hS (fun q _ h => hFc q h) hFc (fun r u t H locs ht hvm hw hB hz1 hk1 hS => ?_)
  have hru9 := hw.2
  have hw := hw.1
  refine ex_1_2 hB (fun x_5606 b_x_5606 e_x_5606_0 hB => ?_)
  obtain ⟨hP, hD⟩ := Bw.goN (ws' := [(oc6 oK oR oC oS oT rK_images iK_imageCount oA oH oL x_5606 iK_latestFault iK_latestPlace), (oc1 oC iC_nodes iC_words iC_chances iC_unsures iC_slips iC_throneNode iC_saidWorth iC_unit rC_kind rC_parts rC_partNodes rC_weights rC_weightSums rC_toldWorths rC_steps rC_below rC_above rC_unsureWords rC_unsureWorths), (arI rC_kind kC_kind 18 fC_kind), (arI rC_parts kC_parts 18 fC_parts), (arI rC_partNodes kC_partNodes 72 fC_partNodes), (arI rC_weights kC_weights 72 fC_weights), (arI rC_weightSums kC_weightSums 18 fC_weightSums), (oc5 oS rS_worths rS_order rS_left), (arI rS_worths kS_worths 18 fS_worths), (oc4 oL rL_values rL_supposed), (arI rL_values kL_values 18 fL_values), (arI rL_supposed kL_supposed 18 fL_supposed)]) hB rfl ht hP hD _ hMs hk1 hFc rfl
  clear hz1 hk1 hvm ht hB hMs
  have rg_x_5606 := fb_rng x_5606
  rw [← hru9] at e_x_5606_0
  rcases hw.2 with ⟨rfl, hc_5607⟩ | ⟨rfl, hc_5607⟩
  · skip
    have rg_iC_nodes := fb_rng iC_nodes
    have hG := hG.trans (un2_eq e_x_5606_0)
    have hG := hG.trans (if_pos rfl)
    refine lv_if_eq (tgt := 9) hx hb dX6_pivot_4 (by decide) (fun _ => ?_) (fun c => absurd c (by decide))
    refine lv_bipush (v := (-2)) hx hb dX6_pivot_9 (by decide) ?_
    refine lv_istore_n (lv' := [(1, .int (-2)), (0, .ref oK)]) hx hb dX6_pivot_11 rfl hl (by decide) rfl (fun ls hl => ?_)
    refine lv_iconst (v := 0) hx hb dX6_pivot_12 (by decide) ?_
    refine lv_istore_n (lv' := [(2, .int 0), (1, .int (-2)), (0, .ref oK)]) hx hb dX6_pivot_13 rfl hl (by decide) rfl (fun ls hl => ?_)
    refine lv_iconst (v := 0) hx hb dX6_pivot_14 (by decide) ?_
    refine lv_istore_n (lv' := [(3, .int 0), (2, .int 0), (1, .int (-2)), (0, .ref oK)]) hx hb dX6_pivot_15 rfl hl (by decide) rfl (fun ls hl => ?_)
    have hl := lv_sub hl (l' := [(3, .int 0), (2, .int 0), (1, .int (-2)), (0, .ref oK)]) [0, 1, 2, 3] rfl
    have key_n_5615 : ∀ (n_5615 : Nat) (z_5610 : Int32) (z_5611 : Int32) (z_5612 : Int32) (f_5613 : Nat → Int32) (f_5614 : Nat → Int32) (H : Heap) (locs : List Loc) (ls : Array Slot), (0 ≤ z_5610.toInt ∧ z_5610.toInt ≤ 2147483647) → (2147483647 - z_5610.toInt).toNat < n_5615 → (PX6_pivot iC_nodes iC_throneNode iC_unit fC_kind fC_parts fC_partNodes fC_weights fC_weightSums fS_worths fL_values fL_supposed = HX6_pivot_0 iC_nodes iC_throneNode iC_unit fC_kind fC_parts fC_partNodes fC_weights fC_weightSums fS_worths x_5606 n_5615 z_5610 z_5611 z_5612 f_5613 f_5614) → va_P (dC, dI) vwCl [(oc6 oK oR oC oS oT rK_images iK_imageCount oA oH oL x_5606 iK_latestFault iK_latestPlace), (oc1 oC iC_nodes iC_words iC_chances iC_unsures iC_slips iC_throneNode iC_saidWorth iC_unit rC_kind rC_parts rC_partNodes rC_weights rC_weightSums rC_toldWorths rC_steps rC_below rC_above rC_unsureWords rC_unsureWorths), (arI rC_kind kC_kind 18 fC_kind), (arI rC_parts kC_parts 18 fC_parts), (arI rC_partNodes kC_partNodes 72 fC_partNodes), (arI rC_weights kC_weights 72 fC_weights), (arI rC_weightSums kC_weightSums 18 fC_weightSums), (oc5 oS rS_worths rS_order rS_left), (arI rS_worths kS_worths 18 fS_worths), (oc4 oL rL_values rL_supposed), (arI rL_values kL_values 18 f_5613), (arI rL_supposed kL_supposed 18 f_5614)] H → va_D A [(oc6 oK oR oC oS oT rK_images iK_imageCount oA oH oL x_5606 iK_latestFault iK_latestPlace), (oc1 oC iC_nodes iC_words iC_chances iC_unsures iC_slips iC_throneNode iC_saidWorth iC_unit rC_kind rC_parts rC_partNodes rC_weights rC_weightSums rC_toldWorths rC_steps rC_below rC_above rC_unsureWords rC_unsureWorths), (arI rC_kind kC_kind 18 fC_kind), (arI rC_parts kC_parts 18 fC_parts), (arI rC_partNodes kC_partNodes 72 fC_partNodes), (arI rC_weights kC_weights 72 fC_weights), (arI rC_weightSums kC_weightSums 18 fC_weightSums), (oc5 oS rS_worths rS_order rS_left), (arI rS_worths kS_worths 18 fS_worths), (oc4 oL rL_values rL_supposed), (arI rL_values kL_values 18 f_5613), (arI rL_supposed kL_supposed 18 f_5614)] → va_S A s.heap H locs → lv_has ls 5 [(3, .int z_5610), (2, .int z_5611), (1, .int z_5612), (0, .ref oK)] → W p l e (headSpec (Cond.code yX6_pivot cX6_pivot 5 (some .int) :: wG) ({ frames := 6, cells := 0, slots := 0, locals := 147 })).room s m ([.ref oK] : List Value).toArray below meth c H locs 0 0 (MQ below (va_Qi (fun (r : Int32) (u : Nat) => (True ∧ True) ∧ r = Int32.ofNat u) (fun (u : Nat) (t : State) => ∃ (niK_refusal : Int32) (nfL_values : Nat → Int32) (nfL_supposed : Nat → Int32), (PX6_pivot iC_nodes iC_throneNode iC_unit fC_kind fC_parts fC_partNodes fC_weights fC_weightSums fS_worths fL_values fL_supposed = (Int32.ofNat u, niK_refusal, nfL_values, nfL_supposed)) ∧ Bw dC dI A [(oc6 oK oR oC oS oT rK_images iK_imageCount oA oH oL niK_refusal iK_latestFault iK_latestPlace), (oc1 oC iC_nodes iC_words iC_chances iC_unsures iC_slips iC_throneNode iC_saidWorth iC_unit rC_kind rC_parts rC_partNodes rC_weights rC_weightSums rC_toldWorths rC_steps rC_below rC_above rC_unsureWords rC_unsureWorths), (arI rC_kind kC_kind 18 fC_kind), (arI rC_parts kC_parts 18 fC_parts), (arI rC_partNodes kC_partNodes 72 fC_partNodes), (arI rC_weights kC_weights 72 fC_weights), (arI rC_weightSums kC_weightSums 18 fC_weightSums), (oc5 oS rS_worths rS_order rS_left), (arI rS_worths kS_worths 18 fS_worths), (oc4 oL rL_values rL_supposed), (arI rL_values kL_values 18 nfL_values), (arI rL_supposed kL_supposed 18 nfL_supposed)] [(kC_kind, .int), (kC_parts, .int), (kC_partNodes, .int), (kC_weights, .int), (kC_weightSums, .int), (kS_worths, .int), (kL_values, .int), (kL_supposed, .int)] t) A) ([.ref oK] : List Value).toArray s 0 0 A) (F0 m 16 ls []) := by
      intro n_5615
      induction n_5615 with
      | zero => intro z_5610 z_5611 z_5612 f_5613 f_5614 H locs ls hi0_n_5615 hm; exact absurd hm (Nat.not_lt_zero _)
      | succ n_5615 ih_n_5615 =>
        intro z_5610 z_5611 z_5612 f_5613 f_5614 H locs ls hi0_n_5615 hm_n_5615 hG hP hD hS hl
        have hG := hG.trans (HX6_pivot_0_eq _ _ _ _ _ _ _ _ _ _ _ _ _ _ _ _)
        have rg_z_5610 := fb_rng z_5610
        have rg_z_5611 := fb_rng z_5611
        have rg_z_5612 := fb_rng z_5612
        refine lv_iload_n hx hb dX6_pivot_16 rfl (lv_at hl 0 rfl) ?_
        refine lv_aload_n hx hb dX6_pivot_17 rfl (lv_at hl 3 rfl) ?_
        refine va_get (D := (dC, dI)) (ci := 6) (v := .ref oC) (C := RX6) (T := TX6) (N := 12) hx hb hts inX6 hown hK hP 0 rfl rfl 1 (by decide) (hts _ wd_20) (fun _ h9 => h9) rfl dX6_pivot_18 ?_
        refine va_get (D := (dC, dI)) (ci := 1) (v := .int iC_nodes) (C := RX1) (T := TX1) (N := 19) hx hb hts inX1 hown hK hP 1 rfl rfl 0 (by decide) (hts _ wd_196) (fun _ h9 => h9) rfl dX6_pivot_21 ?_
        refine lv_icmp_ge (tgt := 77) hx hb dX6_pivot_24 (by decide) (fun c_5616 => ?_) (fun c_5616 => ?_)
        · skip
          have hG := hG.trans (if_pos c_5616)
          have gc_5616 := ti_le c_5616 rfl rfl
          refine lv_iload_n hx hb dX6_pivot_77 rfl (lv_at hl 2 rfl) ?_
          exact wq_i hx hb hr (cI z_5612) ⟨⟨trivial, trivial⟩, (cI_of z_5612)⟩ (fun t ht hW => ⟨x_5606, f_5613, f_5614, (cI_tup hG), Bw.to hP hD hK ht hW⟩) hS dX6_pivot_78 hlocks
        · skip
          have hG := hG.trans (if_neg c_5616)
          have gc_5616 := ti_nle c_5616 rfl rfl
          refine lv_aload_n hx hb dX6_pivot_27 rfl (lv_at hl 3 rfl) ?_
          refine va_get (D := (dC, dI)) (ci := 6) (v := .ref oC) (C := RX6) (T := TX6) (N := 12) hx hb hts inX6 hown hK hP 0 rfl rfl 1 (by decide) (hts _ wd_20) (fun _ h9 => h9) rfl dX6_pivot_28 ?_
          refine va_get (D := (dC, dI)) (ci := 1) (v := .ref rC_kind) (C := RX1) (T := TX1) (N := 19) hx hb hts inX1 hown hK hP 1 rfl rfl 8 (by decide) (hts _ wd_530) (fun _ h9 => h9) rfl dX6_pivot_31 ?_
          refine lv_iload_n hx hb dX6_pivot_34 rfl (lv_at hl 0 rfl) ?_
          refine va_iald hx hb hK hP 2 0 rfl rfl (ti_in rfl hi0_n_5615.1 (om_97cd4a7c b_iC_nodes.2 gc_5616)) dX6_pivot_35 ?_
          refine lv_topi (fun x_5617 ex_5617 => ?_)
          have hG := hG.trans (lt_eq ex_5617)
          have rg_x_5617 := fb_rng x_5617
          have kx_5617 : (fC_kind z_5610.toNatClampNeg).toInt = x_5617.toInt := by rw [ex_5617]
          refine lv_if_ne (tgt := 47) hx hb dX6_pivot_36 (by decide) (fun c_5618 => ?_) (fun c_5618 => ?_)
          · skip
            have hG := hG.trans (if_neg c_5618)
            have gc_5618 := ti_ne c_5618 rfl kc_0
            refine lv_bipush (v := (-2)) hx hb dX6_pivot_47 (by decide) ?_
            refine lv_istore (lv' := [(4, .int (-2)), (3, .int z_5610), (2, .int z_5611), (1, .int z_5612), (0, .ref oK)]) hx hb dX6_pivot_49 hl (by decide) rfl (fun ls hl => ?_)
            refine lv_iload hx hb dX6_pivot_51 (lv_at hl 0 rfl) ?_
            refine lv_if_lt (tgt := 71) hx hb dX6_pivot_53 (by decide) (fun _ => ?_) (fun c => absurd c (by decide))
            obtain ⟨x_5620, ex_5620⟩ : ∃ z : Int32, z = z_5610 + Int32.ofInt 1 := ⟨_, rfl⟩
            have hG := hG.trans (lt_eq ex_5620)
            have vx_5620 : x_5620.toInt = z_5610.toInt + 1 := ti_add (y := 1) ex_5620 rfl kc_1 (om_4e4fce7e hi0_n_5615.1) (om_a32d6481 b_iC_nodes.2 gc_5616)
            refine lv_iinc (v := x_5620) (lv' := [(3, .int x_5620), (4, .int (-2)), (2, .int z_5611), (1, .int z_5612), (0, .ref oK)]) hx hb dX6_pivot_71 hl (k := 1) rfl ex_5620.symm (by decide) rfl (fun ls hl => ?_)
            refine lv_goto (tgt := 16) hx hb dX6_pivot_74 (by decide) ?_
            exact ih_n_5615 x_5620 z_5611 z_5612 f_5613 f_5614 _ _ _  ⟨(om_83b90de5 hi0_n_5615.1 vx_5620), (om_ed8867da b_iC_nodes.2 gc_5616 vx_5620)⟩ (ms_lt hm_n_5615 (om_b9393183 vx_5620) (om_1d9fa7fb b_iC_nodes.2 gc_5616)) hG hP hD hS (lv_sub hl [0, 2, 3, 4] rfl)
          · skip
            have hG := hG.trans (if_pos c_5618)
            have gc_5618 := ti_eq c_5618 rfl kc_0
            refine lv_aload_n hx hb dX6_pivot_39 rfl (lv_at hl 3 rfl) ?_
            refine lv_iload_n hx hb dX6_pivot_40 rfl (lv_at hl 0 rfl) ?_
            have hFc := va_freeI hD hS hA
            refine va_calli (va_runV (As := [.int z_5610]) (rest := []) ⟨hx, hb, hml, hown, hts⟩ (tX6_leastTurn l dC dI _ oK oR oC oS oT rK_images iK_imageCount oA oH oL x_5606 iK_latestFault iK_latestPlace iC_nodes iC_words iC_chances iC_unsures iC_slips iC_throneNode iC_saidWorth iC_unit rC_kind fC_kind kC_kind rC_parts fC_parts kC_parts rC_partNodes fC_partNodes kC_partNodes rC_weights fC_weights kC_weights rC_weightSums fC_weightSums kC_weightSums rC_toldWorths rC_steps rC_below rC_above rC_unsureWords rC_unsureWorths rS_worths fS_worths kS_worths rS_order rS_left rL_values f_5613 kL_values rL_supposed f_5614 kL_supposed z_5610 b_iK_imageCount b_iC_nodes b_iC_unsures b_iC_throneNode a_fC_parts a_fC_partNodes ⟨hi0_n_5615.1, (om_525c5d3e b_iC_nodes.2 gc_5616)⟩) (cwV 1 hts (wd_V wd_1121 wd_1122 wd_1123 wd_2 (wd_c wd_1124)) rfl rfl rfl dv_yX6_leastTurn_1 ⟨Nat.le_of_ble_eq_true rfl, Nat.le_of_ble_eq_true rfl⟩) ⟨Pw.fb, recvX6 hK hP (q0 := 0) rfl, fun U hU hW => Pw.to hP hD hK hE hS hFc hU hW⟩ rfl rfl hl.1 rfl (lv_room (Nat.le_of_ble_eq_true rfl)) dX6_pivot_41 ⟨Nat.le_of_ble_eq_true rfl, Nat.le_of_ble_eq_true rfl⟩) hS (fun q _ h => hFc q h) hFc (fun r u t H locs ht hvm hw hB hz1 hk1 hS => ?_)
            have hru9 := hw.2
            have hw := hw.1
            refine ex_2_1 hB (fun f_5621 f_5622 e_f_5621_0 hB => ?_)
            obtain ⟨hP, hD⟩ := Bw.goA (ws' := [(oc6 oK oR oC oS oT rK_images iK_imageCount oA oH oL x_5606 iK_latestFault iK_latestPlace), (oc1 oC iC_nodes iC_words iC_chances iC_unsures iC_slips iC_throneNode iC_saidWorth iC_unit rC_kind rC_parts rC_partNodes rC_weights rC_weightSums rC_toldWorths rC_steps rC_below rC_above rC_unsureWords rC_unsureWorths), (arI rC_kind kC_kind 18 fC_kind), (arI rC_parts kC_parts 18 fC_parts), (arI rC_partNodes kC_partNodes 72 fC_partNodes), (arI rC_weights kC_weights 72 fC_weights), (arI rC_weightSums kC_weightSums 18 fC_weightSums), (oc5 oS rS_worths rS_order rS_left), (arI rS_worths kS_worths 18 fS_worths), (oc4 oL rL_values rL_supposed), (arI rL_values kL_values 18 f_5621), (arI rL_supposed kL_supposed 18 f_5622)]) hB rfl ht hFc rfl
            clear hz1 hk1 hvm ht hB
            rw [← hru9] at e_f_5621_0
            obtain ⟨x_5623, rfl⟩ : ∃ z, z = r := ⟨_, rfl⟩
            have hG := hG.trans (un3_eq e_f_5621_0)
            have rg_x_5623 := fb_rng x_5623
            refine lv_goto (tgt := 49) hx hb dX6_pivot_44 (by decide) ?_
            refine lv_istore (lv' := [(4, .int x_5623), (3, .int z_5610), (2, .int z_5611), (1, .int z_5612), (0, .ref oK)]) hx hb dX6_pivot_49 hl (by decide) rfl (fun ls hl => ?_)
            refine lv_iload hx hb dX6_pivot_51 (lv_at hl 0 rfl) ?_
            refine lv_if_lt (tgt := 71) hx hb dX6_pivot_53 (by decide) (fun c_5624 => ?_) (fun c_5624 => ?_)
            · skip
              have hG := hG.trans (if_pos c_5624)
              have gc_5624 := ti_lt c_5624 rfl kc_0
              obtain ⟨x_5625, ex_5625⟩ : ∃ z : Int32, z = z_5610 + Int32.ofInt 1 := ⟨_, rfl⟩
              have hG := hG.trans (lt_eq ex_5625)
              have vx_5625 : x_5625.toInt = z_5610.toInt + 1 := ti_add (y := 1) ex_5625 rfl kc_1 (om_4e4fce7e hi0_n_5615.1) (om_a32d6481 b_iC_nodes.2 gc_5616)
              refine lv_iinc (v := x_5625) (lv' := [(3, .int x_5625), (4, .int x_5623), (2, .int z_5611), (1, .int z_5612), (0, .ref oK)]) hx hb dX6_pivot_71 hl (k := 1) rfl ex_5625.symm (by decide) rfl (fun ls hl => ?_)
              refine lv_goto (tgt := 16) hx hb dX6_pivot_74 (by decide) ?_
              exact ih_n_5615 x_5625 z_5611 z_5612 f_5621 f_5622 _ _ _  ⟨(om_83b90de5 hi0_n_5615.1 vx_5625), (om_ed8867da b_iC_nodes.2 gc_5616 vx_5625)⟩ (ms_lt hm_n_5615 (om_b9393183 vx_5625) (om_1d9fa7fb b_iC_nodes.2 gc_5616)) hG hP hD hS (lv_sub hl [0, 2, 3, 4] rfl)
            · skip
              have hG := hG.trans (if_neg c_5624)
              have gc_5624 := ti_nlt c_5624 rfl kc_0
              refine lv_iload_n hx hb dX6_pivot_56 rfl (lv_at hl 3 rfl) ?_
              refine lv_if_lt (tgt := 66) hx hb dX6_pivot_57 (by decide) (fun c_5626 => ?_) (fun c_5626 => ?_)
              · skip
                have hG := hG.trans (if_pos c_5626)
                have gc_5626 := ti_lt c_5626 rfl kc_0
                refine lv_iload_n hx hb dX6_pivot_66 rfl (lv_at hl 1 rfl) ?_
                refine lv_istore_n (lv' := [(1, .int z_5610), (4, .int x_5623), (3, .int z_5610), (2, .int z_5611), (0, .ref oK)]) hx hb dX6_pivot_67 rfl hl (by decide) rfl (fun ls hl => ?_)
                refine lv_iload hx hb dX6_pivot_68 (lv_at hl 1 rfl) ?_
                refine lv_istore_n (lv' := [(2, .int x_5623), (1, .int z_5610), (4, .int x_5623), (3, .int z_5610), (0, .ref oK)]) hx hb dX6_pivot_70 rfl hl (by decide) rfl (fun ls hl => ?_)
                obtain ⟨x_5627, ex_5627⟩ : ∃ z : Int32, z = z_5610 + Int32.ofInt 1 := ⟨_, rfl⟩
                have hG := hG.trans (lt_eq ex_5627)
                have vx_5627 : x_5627.toInt = z_5610.toInt + 1 := ti_add (y := 1) ex_5627 rfl kc_1 (om_4e4fce7e hi0_n_5615.1) (om_a32d6481 b_iC_nodes.2 gc_5616)
                refine lv_iinc (v := x_5627) (lv' := [(3, .int x_5627), (2, .int x_5623), (1, .int z_5610), (4, .int x_5623), (0, .ref oK)]) hx hb dX6_pivot_71 hl (k := 3) rfl ex_5627.symm (by decide) rfl (fun ls hl => ?_)
                refine lv_goto (tgt := 16) hx hb dX6_pivot_74 (by decide) ?_
                exact ih_n_5615 x_5627 x_5623 z_5610 f_5621 f_5622 _ _ _  ⟨(om_83b90de5 hi0_n_5615.1 vx_5627), (om_ed8867da b_iC_nodes.2 gc_5616 vx_5627)⟩ (ms_lt hm_n_5615 (om_b9393183 vx_5627) (om_1d9fa7fb b_iC_nodes.2 gc_5616)) hG hP hD hS (lv_sub hl [0, 1, 2, 4] rfl)
              · skip
                have hG := hG.trans (if_neg c_5626)
                have gc_5626 := ti_nlt c_5626 rfl kc_0
                refine lv_iload hx hb dX6_pivot_60 (lv_at hl 0 rfl) ?_
                refine lv_iload_n hx hb dX6_pivot_62 rfl (lv_at hl 2 rfl) ?_
                refine lv_icmp_ge (tgt := 71) hx hb dX6_pivot_63 (by decide) (fun c_5628 => ?_) (fun c_5628 => ?_)
                · skip
                  have hG := hG.trans (if_pos c_5628)
                  have gc_5628 := ti_le c_5628 rfl rfl
                  obtain ⟨x_5629, ex_5629⟩ : ∃ z : Int32, z = z_5610 + Int32.ofInt 1 := ⟨_, rfl⟩
                  have hG := hG.trans (lt_eq ex_5629)
                  have vx_5629 : x_5629.toInt = z_5610.toInt + 1 := ti_add (y := 1) ex_5629 rfl kc_1 (om_4e4fce7e hi0_n_5615.1) (om_a32d6481 b_iC_nodes.2 gc_5616)
                  refine lv_iinc (v := x_5629) (lv' := [(3, .int x_5629), (4, .int x_5623), (2, .int z_5611), (1, .int z_5612), (0, .ref oK)]) hx hb dX6_pivot_71 hl (k := 1) rfl ex_5629.symm (by decide) rfl (fun ls hl => ?_)
                  refine lv_goto (tgt := 16) hx hb dX6_pivot_74 (by decide) ?_
                  exact ih_n_5615 x_5629 z_5611 z_5612 f_5621 f_5622 _ _ _  ⟨(om_83b90de5 hi0_n_5615.1 vx_5629), (om_ed8867da b_iC_nodes.2 gc_5616 vx_5629)⟩ (ms_lt hm_n_5615 (om_b9393183 vx_5629) (om_1d9fa7fb b_iC_nodes.2 gc_5616)) hG hP hD hS (lv_sub hl [0, 2, 3, 4] rfl)
                · skip
                  have hG := hG.trans (if_neg c_5628)
                  have gc_5628 := ti_nle c_5628 rfl rfl
                  refine lv_iload_n hx hb dX6_pivot_66 rfl (lv_at hl 1 rfl) ?_
                  refine lv_istore_n (lv' := [(1, .int z_5610), (4, .int x_5623), (3, .int z_5610), (2, .int z_5611), (0, .ref oK)]) hx hb dX6_pivot_67 rfl hl (by decide) rfl (fun ls hl => ?_)
                  refine lv_iload hx hb dX6_pivot_68 (lv_at hl 1 rfl) ?_
                  refine lv_istore_n (lv' := [(2, .int x_5623), (1, .int z_5610), (4, .int x_5623), (3, .int z_5610), (0, .ref oK)]) hx hb dX6_pivot_70 rfl hl (by decide) rfl (fun ls hl => ?_)
                  obtain ⟨x_5630, ex_5630⟩ : ∃ z : Int32, z = z_5610 + Int32.ofInt 1 := ⟨_, rfl⟩
                  have hG := hG.trans (lt_eq ex_5630)
                  have vx_5630 : x_5630.toInt = z_5610.toInt + 1 := ti_add (y := 1) ex_5630 rfl kc_1 (om_4e4fce7e hi0_n_5615.1) (om_a32d6481 b_iC_nodes.2 gc_5616)
                  refine lv_iinc (v := x_5630) (lv' := [(3, .int x_5630), (2, .int x_5623), (1, .int z_5610), (4, .int x_5623), (0, .ref oK)]) hx hb dX6_pivot_71 hl (k := 3) rfl ex_5630.symm (by decide) rfl (fun ls hl => ?_)
                  refine lv_goto (tgt := 16) hx hb dX6_pivot_74 (by decide) ?_
                  exact ih_n_5615 x_5630 x_5623 z_5610 f_5621 f_5622 _ _ _  ⟨(om_83b90de5 hi0_n_5615.1 vx_5630), (om_ed8867da b_iC_nodes.2 gc_5616 vx_5630)⟩ (ms_lt hm_n_5615 (om_b9393183 vx_5630) (om_1d9fa7fb b_iC_nodes.2 gc_5616)) hG hP hD hS (lv_sub hl [0, 1, 2, 4] rfl)
    exact key_n_5615 (((2147483647 - (0 : Int32).toInt).toNat) + 1) 0 0 (-2) fL_values fL_supposed _ _ _  ⟨(om_b1de7dbe kc_0), (om_daf17c64 kc_0)⟩ (Nat.lt_add_one _) hG hP hD hS hl
  · skip
    have hG := hG.trans (un2_eq e_x_5606_0)
    have hG := hG.trans (if_neg (by decide))
    refine lv_if_eq (tgt := 9) hx hb dX6_pivot_4 (by decide) (fun c => absurd c (by decide)) (fun _ => ?_)
    refine lv_iconst (v := (-1)) hx hb dX6_pivot_7 (by decide) ?_
    exact wq_i hx hb hr (cI (-1)) ⟨⟨trivial, trivial⟩, (cI_of (-1))⟩ (fun t ht hW => ⟨x_5606, fL_values, fL_supposed, (cI_tup hG), Bw.to hP hD hK ht hW⟩) hS dX6_pivot_8 hlocks
set_option maxHeartbeats 4000000 in
set_option maxRecDepth 100000 in
theorem tX6_fittingSets (l : Launch) (dC : Nat → ClassId) (dI : Nat → Nat → Nat) (sz : Nat) (oK : Nat) (oR : Nat) (oC : Nat) (oS : Nat) (oT : Nat) (rK_images : Nat) (iK_imageCount : Int32) (oA : Nat) (oH : Nat) (oL : Nat) (iK_refusal : Int32) (iK_latestFault : Int32) (iK_latestPlace : Int32) (iC_nodes : Int32) (iC_words : Int32) (iC_chances : Int32) (iC_unsures : Int32) (iC_slips : Int32) (iC_throneNode : Int32) (iC_saidWorth : Int32) (iC_unit : Int32) (rC_kind : Nat) (fC_kind : Nat → Int32) (kC_kind : ClassId) (rC_parts : Nat) (fC_parts : Nat → Int32) (kC_parts : ClassId) (rC_partNodes : Nat) (fC_partNodes : Nat → Int32) (kC_partNodes : ClassId) (rC_weights : Nat) (fC_weights : Nat → Int32) (kC_weights : ClassId) (rC_weightSums : Nat) (fC_weightSums : Nat → Int32) (kC_weightSums : ClassId) (rC_toldWorths : Nat) (fC_toldWorths : Nat → Int32) (kC_toldWorths : ClassId) (rC_steps : Nat) (rC_below : Nat) (rC_above : Nat) (rC_unsureWords : Nat) (fC_unsureWords : Nat → Int32) (kC_unsureWords : ClassId) (rC_unsureWorths : Nat) (fC_unsureWorths : Nat → Int32) (kC_unsureWorths : ClassId) (rL_values : Nat) (fL_values : Nat → Int32) (kL_values : ClassId) (rL_supposed : Nat) (fL_supposed : Nat → Int32) (kL_supposed : ClassId) (b_iK_imageCount : 0 ≤ iK_imageCount.toInt ∧ iK_imageCount.toInt ≤ 3) (b_iC_nodes : 0 ≤ iC_nodes.toInt ∧ iC_nodes.toInt ≤ 18) (b_iC_unsures : 0 ≤ iC_unsures.toInt ∧ iC_unsures.toInt ≤ 4) (b_iC_throneNode : (-1) ≤ iC_throneNode.toInt ∧ iC_throneNode.toInt ≤ 17) (a_fC_parts : ∀ j : Nat, j < 18 → 0 ≤ (fC_parts j).toInt ∧ (fC_parts j).toInt ≤ 4) (a_fC_partNodes : ∀ j : Nat, j < 72 → 0 ≤ (fC_partNodes j).toInt ∧ (fC_partNodes j).toInt ≤ 17) (a_fC_unsureWords : ∀ j : Nat, j < 4 → 0 ≤ (fC_unsureWords j).toInt ∧ (fC_unsureWords j).toInt ≤ 17)  : Met l yX6_fittingSets (Cond.code yX6_fittingSets cX6_fittingSets 4 (some .int) :: wG) ({ frames := 4, cells := 0, slots := 0, locals := 95 }) (va_Pc [.ref oK] (Pw dC dI sz [(oc6 oK oR oC oS oT rK_images iK_imageCount oA oH oL iK_refusal iK_latestFault iK_latestPlace), (oc1 oC iC_nodes iC_words iC_chances iC_unsures iC_slips iC_throneNode iC_saidWorth iC_unit rC_kind rC_parts rC_partNodes rC_weights rC_weightSums rC_toldWorths rC_steps rC_below rC_above rC_unsureWords rC_unsureWorths), (arI rC_kind kC_kind 18 fC_kind), (arI rC_parts kC_parts 18 fC_parts), (arI rC_partNodes kC_partNodes 72 fC_partNodes), (arI rC_weights kC_weights 72 fC_weights), (arI rC_weightSums kC_weightSums 18 fC_weightSums), (arI rC_toldWorths kC_toldWorths 18 fC_toldWorths), (arI rC_unsureWords kC_unsureWords 4 fC_unsureWords), (arI rC_unsureWorths kC_unsureWorths 4 fC_unsureWorths), (oc4 oL rL_values rL_supposed), (arI rL_values kL_values 18 fL_values), (arI rL_supposed kL_supposed 18 fL_supposed)] [(kC_kind, .int), (kC_parts, .int), (kC_partNodes, .int), (kC_weights, .int), (kC_weightSums, .int), (kC_toldWorths, .int), (kC_unsureWords, .int), (kC_unsureWorths, .int), (kL_values, .int), (kL_supposed, .int)])) (va_Qi (fun (r : Int32) (u : Nat) => (True ∧ True) ∧ r = Int32.ofNat u) (fun (u : Nat) (t : State) => ∃ (nfL_values : Nat → Int32) (nfL_supposed : Nat → Int32), (PX6_fittingSets iC_nodes iC_unsures iC_throneNode iC_saidWorth iC_unit fC_kind fC_parts fC_partNodes fC_weights fC_weightSums fC_toldWorths fC_unsureWords fC_unsureWorths fL_values fL_supposed = (Int32.ofNat u, nfL_values, nfL_supposed)) ∧ Bw dC dI (va_A [(oc6 oK oR oC oS oT rK_images iK_imageCount oA oH oL iK_refusal iK_latestFault iK_latestPlace), (oc1 oC iC_nodes iC_words iC_chances iC_unsures iC_slips iC_throneNode iC_saidWorth iC_unit rC_kind rC_parts rC_partNodes rC_weights rC_weightSums rC_toldWorths rC_steps rC_below rC_above rC_unsureWords rC_unsureWorths), (arI rC_kind kC_kind 18 fC_kind), (arI rC_parts kC_parts 18 fC_parts), (arI rC_partNodes kC_partNodes 72 fC_partNodes), (arI rC_weights kC_weights 72 fC_weights), (arI rC_weightSums kC_weightSums 18 fC_weightSums), (arI rC_toldWorths kC_toldWorths 18 fC_toldWorths), (arI rC_unsureWords kC_unsureWords 4 fC_unsureWords), (arI rC_unsureWorths kC_unsureWorths 4 fC_unsureWorths), (oc4 oL rL_values rL_supposed), (arI rL_values kL_values 18 fL_values), (arI rL_supposed kL_supposed 18 fL_supposed)] sz) [(oc6 oK oR oC oS oT rK_images iK_imageCount oA oH oL iK_refusal iK_latestFault iK_latestPlace), (oc1 oC iC_nodes iC_words iC_chances iC_unsures iC_slips iC_throneNode iC_saidWorth iC_unit rC_kind rC_parts rC_partNodes rC_weights rC_weightSums rC_toldWorths rC_steps rC_below rC_above rC_unsureWords rC_unsureWorths), (arI rC_kind kC_kind 18 fC_kind), (arI rC_parts kC_parts 18 fC_parts), (arI rC_partNodes kC_partNodes 72 fC_partNodes), (arI rC_weights kC_weights 72 fC_weights), (arI rC_weightSums kC_weightSums 18 fC_weightSums), (arI rC_toldWorths kC_toldWorths 18 fC_toldWorths), (arI rC_unsureWords kC_unsureWords 4 fC_unsureWords), (arI rC_unsureWorths kC_unsureWorths 4 fC_unsureWorths), (oc4 oL rL_values rL_supposed), (arI rL_values kL_values 18 nfL_values), (arI rL_supposed kL_supposed 18 nfL_supposed)] [(kC_kind, .int), (kC_parts, .int), (kC_partNodes, .int), (kC_weights, .int), (kC_weightSums, .int), (kC_toldWorths, .int), (kC_unsureWords, .int), (kC_unsureWorths, .int), (kL_values, .int), (kL_supposed, .int)] t) (va_A [(oc6 oK oR oC oS oT rK_images iK_imageCount oA oH oL iK_refusal iK_latestFault iK_latestPlace), (oc1 oC iC_nodes iC_words iC_chances iC_unsures iC_slips iC_throneNode iC_saidWorth iC_unit rC_kind rC_parts rC_partNodes rC_weights rC_weightSums rC_toldWorths rC_steps rC_below rC_above rC_unsureWords rC_unsureWorths), (arI rC_kind kC_kind 18 fC_kind), (arI rC_parts kC_parts 18 fC_parts), (arI rC_partNodes kC_partNodes 72 fC_partNodes), (arI rC_weights kC_weights 72 fC_weights), (arI rC_weightSums kC_weightSums 18 fC_weightSums), (arI rC_toldWorths kC_toldWorths 18 fC_toldWorths), (arI rC_unsureWords kC_unsureWords 4 fC_unsureWords), (arI rC_unsureWorths kC_unsureWorths 4 fC_unsureWorths), (oc4 oL rL_values rL_supposed), (arI rL_values kL_values 18 fL_values), (arI rL_supposed kL_supposed 18 fL_supposed)] sz)) 0 0 (va_A [(oc6 oK oR oC oS oT rK_images iK_imageCount oA oH oL iK_refusal iK_latestFault iK_latestPlace), (oc1 oC iC_nodes iC_words iC_chances iC_unsures iC_slips iC_throneNode iC_saidWorth iC_unit rC_kind rC_parts rC_partNodes rC_weights rC_weightSums rC_toldWorths rC_steps rC_below rC_above rC_unsureWords rC_unsureWorths), (arI rC_kind kC_kind 18 fC_kind), (arI rC_parts kC_parts 18 fC_parts), (arI rC_partNodes kC_partNodes 72 fC_partNodes), (arI rC_weights kC_weights 72 fC_weights), (arI rC_weightSums kC_weightSums 18 fC_weightSums), (arI rC_toldWorths kC_toldWorths 18 fC_toldWorths), (arI rC_unsureWords kC_unsureWords 4 fC_unsureWords), (arI rC_unsureWorths kC_unsureWorths 4 fC_unsureWorths), (oc4 oL rL_values rL_supposed), (arI rL_values kL_values 18 fL_values), (arI rL_supposed kL_supposed 18 fL_supposed)] sz) := by
  refine Met.ofW (cc := cX6_fittingSets) (maxL := 4) (ret := (some .int)) pnX6 rfl ?_
  intro p e s m args below meth c s₁ B hml hv
  obtain ⟨rfl, hsz, hP, hK, hD0, hE⟩ := hv
  have hx := B.exec
  have hb := B.bytes
  have hr := B.returns
  have hts : ∀ w ∈ wG, w.before ([.ref oK] : List Value).toArray s = true := fun w h => atoms_spec (ws := Cond.code yX6_fittingSets cX6_fittingSets 4 (some .int) :: wG) B.pre w (List.mem_cons_of_mem _ h)
  have hown : s.vm.findClass RX6 = some m.cls := own_of B.named rfl
  have hlocks := B.notSynchronized
  subst hsz
  have hD := hD0.self (sz := s.heap.size)
  generalize hAe : va_A [(oc6 oK oR oC oS oT rK_images iK_imageCount oA oH oL iK_refusal iK_latestFault iK_latestPlace), (oc1 oC iC_nodes iC_words iC_chances iC_unsures iC_slips iC_throneNode iC_saidWorth iC_unit rC_kind rC_parts rC_partNodes rC_weights rC_weightSums rC_toldWorths rC_steps rC_below rC_above rC_unsureWords rC_unsureWorths), (arI rC_kind kC_kind 18 fC_kind), (arI rC_parts kC_parts 18 fC_parts), (arI rC_partNodes kC_partNodes 72 fC_partNodes), (arI rC_weights kC_weights 72 fC_weights), (arI rC_weightSums kC_weightSums 18 fC_weightSums), (arI rC_toldWorths kC_toldWorths 18 fC_toldWorths), (arI rC_unsureWords kC_unsureWords 4 fC_unsureWords), (arI rC_unsureWorths kC_unsureWorths 4 fC_unsureWorths), (oc4 oL rL_values rL_supposed), (arI rL_values kL_values 18 fL_values), (arI rL_supposed kL_supposed 18 fL_supposed)] s.heap.size = A at hD hE ⊢
  have hA : ∀ q : Nat, s.heap.size ≤ q → A q := fun q h => by rw [← hAe]; exact Or.inr h
  have hS : va_S A s.heap s.heap [] := va_S.rf
  have hl := lv_entry ([.ref oK]) (n := 4) (Nat.le_of_ble_eq_true rfl)
  rw [lg_entry_eq]
  generalize (lg_sl ([.ref oK]) ++ List.replicate (4 - (lg_sl ([.ref oK])).length) Slot.unset).toArray = ls at hl ⊢
  have hl : lv_has ls 4 [(0, .ref oK)] := hl
  have hG := PX6_fittingSets_eq iC_nodes iC_unsures iC_throneNode iC_saidWorth iC_unit fC_kind fC_parts fC_partNodes fC_weights fC_weightSums fC_toldWorths fC_unsureWords fC_unsureWorths fL_values fL_supposed
  refine lv_iconst (v := 0) hx hb dX6_fittingSets_0 (by decide) ?_
  refine lv_istore_n (lv' := [(1, .int 0), (0, .ref oK)]) hx hb dX6_fittingSets_1 rfl hl (by decide) rfl (fun ls hl => ?_)
  refine lv_iconst (v := 0) hx hb dX6_fittingSets_2 (by decide) ?_
  refine lv_istore_n (lv' := [(2, .int 0), (1, .int 0), (0, .ref oK)]) hx hb dX6_fittingSets_3 rfl hl (by decide) rfl (fun ls hl => ?_)
  have hl := lv_sub hl (l' := [(2, .int 0), (1, .int 0), (0, .ref oK)]) [0, 1, 2] rfl
  have key_n_5667 : ∀ (n_5667 : Nat) (z_5663 : Int32) (z_5664 : Int32) (f_5665 : Nat → Int32) (f_5666 : Nat → Int32) (H : Heap) (locs : List Loc) (ls : Array Slot), (0 ≤ z_5663.toInt ∧ z_5663.toInt ≤ 2147483647) → (2147483647 - z_5663.toInt).toNat < n_5667 → (PX6_fittingSets iC_nodes iC_unsures iC_throneNode iC_saidWorth iC_unit fC_kind fC_parts fC_partNodes fC_weights fC_weightSums fC_toldWorths fC_unsureWords fC_unsureWorths fL_values fL_supposed = HX6_fittingSets_0 iC_nodes iC_unsures iC_throneNode iC_saidWorth iC_unit fC_kind fC_parts fC_partNodes fC_weights fC_weightSums fC_toldWorths fC_unsureWords fC_unsureWorths n_5667 z_5663 z_5664 f_5665 f_5666) → va_P (dC, dI) vwCl [(oc6 oK oR oC oS oT rK_images iK_imageCount oA oH oL iK_refusal iK_latestFault iK_latestPlace), (oc1 oC iC_nodes iC_words iC_chances iC_unsures iC_slips iC_throneNode iC_saidWorth iC_unit rC_kind rC_parts rC_partNodes rC_weights rC_weightSums rC_toldWorths rC_steps rC_below rC_above rC_unsureWords rC_unsureWorths), (arI rC_kind kC_kind 18 fC_kind), (arI rC_parts kC_parts 18 fC_parts), (arI rC_partNodes kC_partNodes 72 fC_partNodes), (arI rC_weights kC_weights 72 fC_weights), (arI rC_weightSums kC_weightSums 18 fC_weightSums), (arI rC_toldWorths kC_toldWorths 18 fC_toldWorths), (arI rC_unsureWords kC_unsureWords 4 fC_unsureWords), (arI rC_unsureWorths kC_unsureWorths 4 fC_unsureWorths), (oc4 oL rL_values rL_supposed), (arI rL_values kL_values 18 f_5665), (arI rL_supposed kL_supposed 18 f_5666)] H → va_D A [(oc6 oK oR oC oS oT rK_images iK_imageCount oA oH oL iK_refusal iK_latestFault iK_latestPlace), (oc1 oC iC_nodes iC_words iC_chances iC_unsures iC_slips iC_throneNode iC_saidWorth iC_unit rC_kind rC_parts rC_partNodes rC_weights rC_weightSums rC_toldWorths rC_steps rC_below rC_above rC_unsureWords rC_unsureWorths), (arI rC_kind kC_kind 18 fC_kind), (arI rC_parts kC_parts 18 fC_parts), (arI rC_partNodes kC_partNodes 72 fC_partNodes), (arI rC_weights kC_weights 72 fC_weights), (arI rC_weightSums kC_weightSums 18 fC_weightSums), (arI rC_toldWorths kC_toldWorths 18 fC_toldWorths), (arI rC_unsureWords kC_unsureWords 4 fC_unsureWords), (arI rC_unsureWorths kC_unsureWorths 4 fC_unsureWorths), (oc4 oL rL_values rL_supposed), (arI rL_values kL_values 18 f_5665), (arI rL_supposed kL_supposed 18 f_5666)] → va_S A s.heap H locs → lv_has ls 4 [(2, .int z_5663), (1, .int z_5664), (0, .ref oK)] → W p l e (headSpec (Cond.code yX6_fittingSets cX6_fittingSets 4 (some .int) :: wG) ({ frames := 4, cells := 0, slots := 0, locals := 95 })).room s m ([.ref oK] : List Value).toArray below meth c H locs 0 0 (MQ below (va_Qi (fun (r : Int32) (u : Nat) => (True ∧ True) ∧ r = Int32.ofNat u) (fun (u : Nat) (t : State) => ∃ (nfL_values : Nat → Int32) (nfL_supposed : Nat → Int32), (PX6_fittingSets iC_nodes iC_unsures iC_throneNode iC_saidWorth iC_unit fC_kind fC_parts fC_partNodes fC_weights fC_weightSums fC_toldWorths fC_unsureWords fC_unsureWorths fL_values fL_supposed = (Int32.ofNat u, nfL_values, nfL_supposed)) ∧ Bw dC dI A [(oc6 oK oR oC oS oT rK_images iK_imageCount oA oH oL iK_refusal iK_latestFault iK_latestPlace), (oc1 oC iC_nodes iC_words iC_chances iC_unsures iC_slips iC_throneNode iC_saidWorth iC_unit rC_kind rC_parts rC_partNodes rC_weights rC_weightSums rC_toldWorths rC_steps rC_below rC_above rC_unsureWords rC_unsureWorths), (arI rC_kind kC_kind 18 fC_kind), (arI rC_parts kC_parts 18 fC_parts), (arI rC_partNodes kC_partNodes 72 fC_partNodes), (arI rC_weights kC_weights 72 fC_weights), (arI rC_weightSums kC_weightSums 18 fC_weightSums), (arI rC_toldWorths kC_toldWorths 18 fC_toldWorths), (arI rC_unsureWords kC_unsureWords 4 fC_unsureWords), (arI rC_unsureWorths kC_unsureWorths 4 fC_unsureWorths), (oc4 oL rL_values rL_supposed), (arI rL_values kL_values 18 nfL_values), (arI rL_supposed kL_supposed 18 nfL_supposed)] [(kC_kind, .int), (kC_parts, .int), (kC_partNodes, .int), (kC_weights, .int), (kC_weightSums, .int), (kC_toldWorths, .int), (kC_unsureWords, .int), (kC_unsureWorths, .int), (kL_values, .int), (kL_supposed, .int)] t) A) ([.ref oK] : List Value).toArray s 0 0 A) (F0 m 4 ls []) := by
    intro n_5667
    induction n_5667 with
    | zero => intro z_5663 z_5664 f_5665 f_5666 H locs ls hi0_n_5667 hm; exact absurd hm (Nat.not_lt_zero _)
    | succ n_5667 ih_n_5667 =>
      intro z_5663 z_5664 f_5665 f_5666 H locs ls hi0_n_5667 hm_n_5667 hG hP hD hS hl
      have hG := hG.trans (HX6_fittingSets_0_eq _ _ _ _ _ _ _ _ _ _ _ _ _ _ _ _ _ _)
      have rg_z_5663 := fb_rng z_5663
      have rg_z_5664 := fb_rng z_5664
      refine lv_iload_n hx hb dX6_fittingSets_4 rfl (lv_at hl 0 rfl) ?_
      refine lv_aload_n hx hb dX6_fittingSets_5 rfl (lv_at hl 2 rfl) ?_
      refine va_get (D := (dC, dI)) (ci := 6) (v := .ref oC) (C := RX6) (T := TX6) (N := 12) hx hb hts inX6 hown hK hP 0 rfl rfl 1 (by decide) (hts _ wd_20) (fun _ h9 => h9) rfl dX6_fittingSets_6 ?_
      have hMs := ml_of hD [false, true, false, false, false, false, false, false, false, false, false, false, false] (wc := [(oc1 oC iC_nodes iC_words iC_chances iC_unsures iC_slips iC_throneNode iC_saidWorth iC_unit rC_kind rC_parts rC_partNodes rC_weights rC_weightSums rC_toldWorths rC_steps rC_below rC_above rC_unsureWords rC_unsureWorths)]) rfl
      have hFc := va_freeM hD hS hA _ hMs
      refine va_calli (va_runV (As := []) (rest := [.int z_5663]) ⟨hx, hb, hml, hown, hts⟩ (tX1_unsureSets l dC dI _ oC iC_nodes iC_words iC_chances iC_unsures iC_slips iC_throneNode iC_saidWorth iC_unit rC_kind rC_parts rC_partNodes rC_weights rC_weightSums rC_toldWorths rC_steps rC_below rC_above rC_unsureWords rC_unsureWorths b_iC_nodes b_iC_unsures b_iC_throneNode) (cwV 0 hts (wd_V wd_1165 wd_1166 wd_1167 wd_19 (wd_c wd_1168)) rfl rfl rfl dv_yX1_unsureSets_0 ⟨Nat.le_of_ble_eq_true rfl, Nat.le_of_ble_eq_true rfl⟩) ⟨Pw.fb, recvX1 hK hP (q0 := 1) rfl, fun U hU hW => Pw.to (hP.ms _ hMs) (hD.ms _ hMs) (hK.ms [false, false, false, false, false, false, false, false, false, false] rfl) hE hS hFc hU hW⟩ rfl rfl hl.1 rfl (lv_room (Nat.le_of_ble_eq_true rfl)) dX6_fittingSets_9 ⟨Nat.le_of_ble_eq_true rfl, Nat.le_of_ble_eq_true rfl⟩) hS (fun q _ h => hFc q h) hFc (fun r u t H locs ht hvm hw hB hz1 hk1 hS => ?_)
      have hru9 := hw.2
      have hw := hw.1
      obtain ⟨hP, hD⟩ := Bw.goN (ws' := [(oc6 oK oR oC oS oT rK_images iK_imageCount oA oH oL iK_refusal iK_latestFault iK_latestPlace), (oc1 oC iC_nodes iC_words iC_chances iC_unsures iC_slips iC_throneNode iC_saidWorth iC_unit rC_kind rC_parts rC_partNodes rC_weights rC_weightSums rC_toldWorths rC_steps rC_below rC_above rC_unsureWords rC_unsureWorths), (arI rC_kind kC_kind 18 fC_kind), (arI rC_parts kC_parts 18 fC_parts), (arI rC_partNodes kC_partNodes 72 fC_partNodes), (arI rC_weights kC_weights 72 fC_weights), (arI rC_weightSums kC_weightSums 18 fC_weightSums), (arI rC_toldWorths kC_toldWorths 18 fC_toldWorths), (arI rC_unsureWords kC_unsureWords 4 fC_unsureWords), (arI rC_unsureWorths kC_unsureWorths 4 fC_unsureWorths), (oc4 oL rL_values rL_supposed), (arI rL_values kL_values 18 f_5665), (arI rL_supposed kL_supposed 18 f_5666)]) hB rfl ht hP hD _ hMs hk1 hFc rfl
      clear hz1 hk1 hvm ht hB hMs
      obtain ⟨x_5668, rfl⟩ : ∃ z, z = r := ⟨_, rfl⟩
      have hG := hG.trans (lt_eq hru9.symm)
      have rg_x_5668 := fb_rng x_5668
      have ux_5668 := hw.2
      refine lv_icmp_ge (tgt := 78) hx hb dX6_fittingSets_12 (by decide) (fun c_5669 => ?_) (fun c_5669 => ?_)
      · skip
        have hG := hG.trans (if_pos c_5669)
        have gc_5669 := ti_le c_5669 rfl rfl
        refine lv_iload_n hx hb dX6_fittingSets_78 rfl (lv_at hl 1 rfl) ?_
        exact wq_i hx hb hr (cI z_5664) ⟨⟨trivial, trivial⟩, (cI_of z_5664)⟩ (fun t ht hW => ⟨f_5665, f_5666, (cI_tup hG), Bw.to hP hD hK ht hW⟩) hS dX6_fittingSets_79 hlocks
      · skip
        have hG := hG.trans (if_neg c_5669)
        have gc_5669 := ti_nle c_5669 rfl rfl
        refine lv_aload_n hx hb dX6_fittingSets_15 rfl (lv_at hl 2 rfl) ?_
        refine va_get (D := (dC, dI)) (ci := 6) (v := .ref oL) (C := RX6) (T := TX6) (N := 12) hx hb hts inX6 hown hK hP 0 rfl rfl 8 (by decide) (hts _ wd_38) (fun _ h9 => h9) rfl dX6_fittingSets_16 ?_
        refine lv_aload_n hx hb dX6_fittingSets_19 rfl (lv_at hl 2 rfl) ?_
        refine va_get (D := (dC, dI)) (ci := 6) (v := .ref oC) (C := RX6) (T := TX6) (N := 12) hx hb hts inX6 hown hK hP 0 rfl rfl 1 (by decide) (hts _ wd_20) (fun _ h9 => h9) rfl dX6_fittingSets_20 ?_
        refine lv_aload_n hx hb dX6_fittingSets_23 rfl (lv_at hl 2 rfl) ?_
        refine va_get (D := (dC, dI)) (ci := 6) (v := .ref oC) (C := RX6) (T := TX6) (N := 12) hx hb hts inX6 hown hK hP 0 rfl rfl 1 (by decide) (hts _ wd_20) (fun _ h9 => h9) rfl dX6_fittingSets_24 ?_
        refine va_get (D := (dC, dI)) (ci := 1) (v := .ref rC_toldWorths) (C := RX1) (T := TX1) (N := 19) hx hb hts inX1 hown hK hP 1 rfl rfl 13 (by decide) (hts _ wd_1163) (fun _ h9 => h9) rfl dX6_fittingSets_27 ?_
        refine lv_iload_n hx hb dX6_fittingSets_30 rfl (lv_at hl 0 rfl) ?_
        have hFc := va_free (wc := [(oc4 oL rL_values rL_supposed), (arI rL_values kL_values 18 f_5665), (arI rL_supposed kL_supposed 18 f_5666), (oc1 oC iC_nodes iC_words iC_chances iC_unsures iC_slips iC_throneNode iC_saidWorth iC_unit rC_kind rC_parts rC_partNodes rC_weights rC_weightSums rC_toldWorths rC_steps rC_below rC_above rC_unsureWords rC_unsureWorths), (arI rC_kind kC_kind 18 fC_kind), (arI rC_parts kC_parts 18 fC_parts), (arI rC_partNodes kC_partNodes 72 fC_partNodes), (arI rC_weights kC_weights 72 fC_weights), (arI rC_weightSums kC_weightSums 18 fC_weightSums), (arI rC_unsureWords kC_unsureWords 4 fC_unsureWords), (arI rC_unsureWorths kC_unsureWorths 4 fC_unsureWorths), (arI rC_toldWorths kC_toldWorths 18 fC_toldWorths)]) hD hS hA [10, 11, 12, 1, 2, 3, 4, 5, 6, 8, 9, 7] rfl
        refine va_calli (va_runV (As := [.ref oC, .ref rC_toldWorths, .int z_5663]) (rest := []) ⟨hx, hb, hml, hown, hts⟩ (tX4_throneByUnsure l dC dI _ oL rL_values f_5665 kL_values rL_supposed f_5666 kL_supposed oC iC_nodes iC_words iC_chances iC_unsures iC_slips iC_throneNode iC_saidWorth iC_unit rC_kind fC_kind kC_kind rC_parts fC_parts kC_parts rC_partNodes fC_partNodes kC_partNodes rC_weights fC_weights kC_weights rC_weightSums fC_weightSums kC_weightSums rC_toldWorths rC_steps rC_below rC_above rC_unsureWords fC_unsureWords kC_unsureWords rC_unsureWorths fC_unsureWorths kC_unsureWorths rC_toldWorths fC_toldWorths kC_toldWorths z_5663 b_iC_nodes b_iC_unsures b_iC_throneNode a_fC_parts a_fC_partNodes a_fC_unsureWords) (cwV 3 hts (wd_V wd_1169 wd_1170 wd_1171 wd_37 (wd_c wd_1172)) rfl rfl rfl dv_yX4_throneByUnsure_3 ⟨Nat.le_of_ble_eq_true rfl, Nat.le_of_ble_eq_true rfl⟩) ⟨Pw.fb, recvX4 hK hP (q0 := 10) rfl, fun U hU hW => Pw.to (hP.sub [10, 11, 12, 1, 2, 3, 4, 5, 6, 8, 9, 7] rfl) (hD.sub [10, 11, 12, 1, 2, 3, 4, 5, 6, 8, 9, 7] (by decide) rfl) (hK.sub [8, 9, 0, 1, 2, 3, 4, 6, 7, 5] rfl) hE hS hFc hU hW⟩ rfl rfl hl.1 rfl (lv_room (Nat.le_of_ble_eq_true rfl)) dX6_fittingSets_31 ⟨Nat.le_of_ble_eq_true rfl, Nat.le_of_ble_eq_true rfl⟩) hS (fun q _ h => hFc q h) hFc (fun r u t H locs ht hvm hw hB hz1 hk1 hS => ?_)
        have hru9 := hw.2
        have hw := hw.1
        refine ex_2_1 hB (fun f_5670 f_5671 e_f_5670_0 hB => ?_)
        obtain ⟨hP, hD, hK⟩ := Bw.go (ws' := [(oc6 oK oR oC oS oT rK_images iK_imageCount oA oH oL iK_refusal iK_latestFault iK_latestPlace), (oc4 oL rL_values rL_supposed), (arI rL_values kL_values 18 f_5670), (arI rL_supposed kL_supposed 18 f_5671), (oc1 oC iC_nodes iC_words iC_chances iC_unsures iC_slips iC_throneNode iC_saidWorth iC_unit rC_kind rC_parts rC_partNodes rC_weights rC_weightSums rC_toldWorths rC_steps rC_below rC_above rC_unsureWords rC_unsureWorths), (arI rC_kind kC_kind 18 fC_kind), (arI rC_parts kC_parts 18 fC_parts), (arI rC_partNodes kC_partNodes 72 fC_partNodes), (arI rC_weights kC_weights 72 fC_weights), (arI rC_weightSums kC_weightSums 18 fC_weightSums), (arI rC_unsureWords kC_unsureWords 4 fC_unsureWords), (arI rC_unsureWorths kC_unsureWorths 4 fC_unsureWorths), (arI rC_toldWorths kC_toldWorths 18 fC_toldWorths)]) (tys' := [(kL_values, .int), (kL_supposed, .int), (kC_kind, .int), (kC_parts, .int), (kC_partNodes, .int), (kC_weights, .int), (kC_weightSums, .int), (kC_unsureWords, .int), (kC_unsureWorths, .int), (kC_toldWorths, .int)]) hB rfl ht hvm hP hD hK [10, 11, 12, 1, 2, 3, 4, 5, 6, 8, 9, 7] [0] rfl (by decide) (by decide) [] hk1 hFc rfl rfl rfl
        clear hz1 hk1 hvm ht hB
        rw [← hru9] at e_f_5670_0
        obtain ⟨x_5672, rfl⟩ : ∃ z, z = r := ⟨_, rfl⟩
        have hG := hG.trans (un3_eq e_f_5670_0)
        have rg_x_5672 := fb_rng x_5672
        refine lv_istore_n (lv' := [(3, .int x_5672), (2, .int z_5663), (1, .int z_5664), (0, .ref oK)]) hx hb dX6_fittingSets_34 rfl hl (by decide) rfl (fun ls hl => ?_)
        refine lv_aload_n hx hb dX6_fittingSets_35 rfl (lv_at hl 3 rfl) ?_
        refine va_get (D := (dC, dI)) (ci := 6) (v := .ref oC) (C := RX6) (T := TX6) (N := 12) hx hb hts inX6 hown hK hP 0 rfl rfl 1 (by decide) (hts _ wd_20) (fun _ h9 => h9) rfl dX6_fittingSets_36 ?_
        refine va_get (D := (dC, dI)) (ci := 1) (v := .int iC_saidWorth) (C := RX1) (T := TX1) (N := 19) hx hb hts inX1 hown hK hP 4 rfl rfl 6 (by decide) (hts _ wd_1164) (fun _ h9 => h9) rfl dX6_fittingSets_39 ?_
        have rg_iC_saidWorth := fb_rng iC_saidWorth
        refine lv_if_lt (tgt := 66) hx hb dX6_fittingSets_42 (by decide) (fun c_5673 => ?_) (fun c_5673 => ?_)
        · skip
          have hG := hG.trans (if_pos c_5673)
          have gc_5673 := ti_lt c_5673 rfl kc_0
          refine lv_iload_n hx hb dX6_fittingSets_66 rfl (lv_at hl 2 rfl) ?_
          refine lv_iconst (v := 1) hx hb dX6_fittingSets_67 (by decide) ?_
          refine lv_iload_n hx hb dX6_fittingSets_68 rfl (lv_at hl 1 rfl) ?_
          refine lv_ishl hx hb dX6_fittingSets_69 ?_
          refine lv_topi (fun x_5674 ex_5674 => ?_)
          have hG := hG.trans (lt_eq ex_5674)
          have rg_x_5674 := fb_rng x_5674
          refine lv_ior hx hb dX6_fittingSets_70 ?_
          refine lv_topi (fun x_5675 ex_5675 => ?_)
          have hG := hG.trans (lt_eq ex_5675)
          have rg_x_5675 := fb_rng x_5675
          refine lv_istore_n (lv' := [(1, .int x_5675), (3, .int x_5672), (2, .int z_5663), (0, .ref oK)]) hx hb dX6_fittingSets_71 rfl hl (by decide) rfl (fun ls hl => ?_)
          obtain ⟨x_5676, ex_5676⟩ : ∃ z : Int32, z = z_5663 + Int32.ofInt 1 := ⟨_, rfl⟩
          have hG := hG.trans (lt_eq ex_5676)
          have vx_5676 : x_5676.toInt = z_5663.toInt + 1 := ti_add (y := 1) ex_5676 rfl kc_1 (om_4e4fce7e hi0_n_5667.1) (om_26fca3fc ux_5668.2 gc_5669)
          refine lv_iinc (v := x_5676) (lv' := [(2, .int x_5676), (1, .int x_5675), (3, .int x_5672), (0, .ref oK)]) hx hb dX6_fittingSets_72 hl (k := 2) rfl ex_5676.symm (by decide) rfl (fun ls hl => ?_)
          refine lv_goto (tgt := 4) hx hb dX6_fittingSets_75 (by decide) ?_
          exact ih_n_5667 x_5676 x_5675 f_5670 f_5671 _ _ _  ⟨(om_83b90de5 hi0_n_5667.1 vx_5676), (om_4b156bce ux_5668.2 gc_5669 vx_5676)⟩ (ms_lt hm_n_5667 (om_b9393183 vx_5676) (om_33376cd8 ux_5668.2 gc_5669)) hG (hP.sub [0, 4, 5, 6, 7, 8, 9, 12, 10, 11, 1, 2, 3] rfl) (hD.sub [0, 4, 5, 6, 7, 8, 9, 12, 10, 11, 1, 2, 3] (by decide) rfl) hS (lv_sub hl [0, 1, 3] rfl)
        · skip
          have hG := hG.trans (if_neg c_5673)
          have gc_5673 := ti_nlt c_5673 rfl kc_0
          refine lv_iload_n hx hb dX6_fittingSets_45 rfl (lv_at hl 0 rfl) ?_
          refine lv_aload_n hx hb dX6_fittingSets_46 rfl (lv_at hl 3 rfl) ?_
          refine va_get (D := (dC, dI)) (ci := 6) (v := .ref oC) (C := RX6) (T := TX6) (N := 12) hx hb hts inX6 hown hK hP 0 rfl rfl 1 (by decide) (hts _ wd_20) (fun _ h9 => h9) rfl dX6_fittingSets_47 ?_
          refine va_get (D := (dC, dI)) (ci := 1) (v := .int iC_unit) (C := RX1) (T := TX1) (N := 19) hx hb hts inX1 hown hK hP 4 rfl rfl 7 (by decide) (hts _ wd_611) (fun _ h9 => h9) rfl dX6_fittingSets_50 ?_
          have rg_iC_unit := fb_rng iC_unit
          have hFc : ∀ q, va_A [] _ q → A q := fun q h => hA q (Nat.le_trans hS.1 (va_nilA h))
          refine va_calli (va_runS (As := [.int x_5672, .int iC_unit]) (rest := []) ⟨hx, hb, hml, hown, hts⟩ (tX6_wholeOf l dC dI _ x_5672 iC_unit ) (va_cwS 2 hts (wd_S wd_1176 wd_627 wd_2 (wd_c wd_628)) rfl rfl rfl ds_yX6_wholeOf_2 ⟨Nat.le_of_ble_eq_true rfl, Nat.le_of_ble_eq_true rfl⟩) ⟨Pw.fb, fun U hU hW => Pn.to hK hE hS hA hU hW⟩ rfl rfl hl.1 rfl (lv_room (Nat.le_of_ble_eq_true rfl)) dX6_fittingSets_53 ⟨Nat.le_of_ble_eq_true rfl, Nat.le_of_ble_eq_true rfl⟩) hS (fun q _ h => hFc q h) hFc (fun r u t H locs ht hvm hw hB hz1 hk1 hS => ?_)
          obtain ⟨hP, hD, hK⟩ := Bw.same ht hvm hP hD hK hk1 hFc
          clear hz1 hk1 hvm ht hB
          have hq9 := hw.2
          have hw := hw.1
          obtain ⟨x_5677, rfl⟩ : ∃ z, z = r := ⟨_, rfl⟩
          have hq_x_5677 := hq9
          have hG := hG.trans (lt_eq hq_x_5677.symm)
          have rg_x_5677 := fb_rng x_5677
          refine lv_aload_n hx hb dX6_fittingSets_56 rfl (lv_at hl 3 rfl) ?_
          refine va_get (D := (dC, dI)) (ci := 6) (v := .ref oC) (C := RX6) (T := TX6) (N := 12) hx hb hts inX6 hown hK hP 0 rfl rfl 1 (by decide) (hts _ wd_20) (fun _ h9 => h9) rfl dX6_fittingSets_57 ?_
          refine va_get (D := (dC, dI)) (ci := 1) (v := .int iC_saidWorth) (C := RX1) (T := TX1) (N := 19) hx hb hts inX1 hown hK hP 4 rfl rfl 6 (by decide) (hts _ wd_1164) (fun _ h9 => h9) rfl dX6_fittingSets_60 ?_
          refine lv_icmp_ne (tgt := 72) hx hb dX6_fittingSets_63 (by decide) (fun c_5678 => ?_) (fun c_5678 => ?_)
          · skip
            have hG := hG.trans (if_neg c_5678)
            have gc_5678 := ti_ne c_5678 rfl rfl
            obtain ⟨x_5679, ex_5679⟩ : ∃ z : Int32, z = z_5663 + Int32.ofInt 1 := ⟨_, rfl⟩
            have hG := hG.trans (lt_eq ex_5679)
            have vx_5679 : x_5679.toInt = z_5663.toInt + 1 := ti_add (y := 1) ex_5679 rfl kc_1 (om_4e4fce7e hi0_n_5667.1) (om_26fca3fc ux_5668.2 gc_5669)
            refine lv_iinc (v := x_5679) (lv' := [(2, .int x_5679), (3, .int x_5672), (1, .int z_5664), (0, .ref oK)]) hx hb dX6_fittingSets_72 hl (k := 1) rfl ex_5679.symm (by decide) rfl (fun ls hl => ?_)
            refine lv_goto (tgt := 4) hx hb dX6_fittingSets_75 (by decide) ?_
            exact ih_n_5667 x_5679 z_5664 f_5670 f_5671 _ _ _  ⟨(om_83b90de5 hi0_n_5667.1 vx_5679), (om_4b156bce ux_5668.2 gc_5669 vx_5679)⟩ (ms_lt hm_n_5667 (om_b9393183 vx_5679) (om_33376cd8 ux_5668.2 gc_5669)) hG (hP.sub [0, 4, 5, 6, 7, 8, 9, 12, 10, 11, 1, 2, 3] rfl) (hD.sub [0, 4, 5, 6, 7, 8, 9, 12, 10, 11, 1, 2, 3] (by decide) rfl) hS (lv_sub hl [0, 2, 3] rfl)
          · skip
            have hG := hG.trans (if_pos c_5678)
            have gc_5678 := ti_eq c_5678 rfl rfl
            refine lv_iload_n hx hb dX6_fittingSets_66 rfl (lv_at hl 2 rfl) ?_
            refine lv_iconst (v := 1) hx hb dX6_fittingSets_67 (by decide) ?_
            refine lv_iload_n hx hb dX6_fittingSets_68 rfl (lv_at hl 1 rfl) ?_
            refine lv_ishl hx hb dX6_fittingSets_69 ?_
            refine lv_topi (fun x_5680 ex_5680 => ?_)
            have hG := hG.trans (lt_eq ex_5680)
            have rg_x_5680 := fb_rng x_5680
            refine lv_ior hx hb dX6_fittingSets_70 ?_
            refine lv_topi (fun x_5681 ex_5681 => ?_)
            have hG := hG.trans (lt_eq ex_5681)
            have rg_x_5681 := fb_rng x_5681
            refine lv_istore_n (lv' := [(1, .int x_5681), (3, .int x_5672), (2, .int z_5663), (0, .ref oK)]) hx hb dX6_fittingSets_71 rfl hl (by decide) rfl (fun ls hl => ?_)
            obtain ⟨x_5682, ex_5682⟩ : ∃ z : Int32, z = z_5663 + Int32.ofInt 1 := ⟨_, rfl⟩
            have hG := hG.trans (lt_eq ex_5682)
            have vx_5682 : x_5682.toInt = z_5663.toInt + 1 := ti_add (y := 1) ex_5682 rfl kc_1 (om_4e4fce7e hi0_n_5667.1) (om_26fca3fc ux_5668.2 gc_5669)
            refine lv_iinc (v := x_5682) (lv' := [(2, .int x_5682), (1, .int x_5681), (3, .int x_5672), (0, .ref oK)]) hx hb dX6_fittingSets_72 hl (k := 2) rfl ex_5682.symm (by decide) rfl (fun ls hl => ?_)
            refine lv_goto (tgt := 4) hx hb dX6_fittingSets_75 (by decide) ?_
            exact ih_n_5667 x_5682 x_5681 f_5670 f_5671 _ _ _  ⟨(om_83b90de5 hi0_n_5667.1 vx_5682), (om_4b156bce ux_5668.2 gc_5669 vx_5682)⟩ (ms_lt hm_n_5667 (om_b9393183 vx_5682) (om_33376cd8 ux_5668.2 gc_5669)) hG (hP.sub [0, 4, 5, 6, 7, 8, 9, 12, 10, 11, 1, 2, 3] rfl) (hD.sub [0, 4, 5, 6, 7, 8, 9, 12, 10, 11, 1, 2, 3] (by decide) rfl) hS (lv_sub hl [0, 1, 3] rfl)
  exact key_n_5667 (((2147483647 - (0 : Int32).toInt).toNat) + 1) 0 0 fL_values fL_supposed _ _ _  ⟨(om_b1de7dbe kc_0), (om_daf17c64 kc_0)⟩ (Nat.lt_add_one _) hG hP hD hS hl
set_option maxHeartbeats 4000000 in
set_option maxRecDepth 100000 in
theorem tX6_leftAtMost (l : Launch) (dC : Nat → ClassId) (dI : Nat → Nat → Nat) (sz : Nat) (oK : Nat) (oR : Nat) (oC : Nat) (oS : Nat) (oT : Nat) (rK_images : Nat) (iK_imageCount : Int32) (oA : Nat) (oH : Nat) (oL : Nat) (iK_refusal : Int32) (iK_latestFault : Int32) (iK_latestPlace : Int32) (iC_nodes : Int32) (iC_words : Int32) (iC_chances : Int32) (iC_unsures : Int32) (iC_slips : Int32) (iC_throneNode : Int32) (iC_saidWorth : Int32) (iC_unit : Int32) (rC_kind : Nat) (rC_parts : Nat) (rC_partNodes : Nat) (rC_weights : Nat) (rC_weightSums : Nat) (rC_toldWorths : Nat) (rC_steps : Nat) (rC_below : Nat) (rC_above : Nat) (rC_unsureWords : Nat) (rC_unsureWorths : Nat) (p0 : Int32) (p1 : Int32) (b_iK_imageCount : 0 ≤ iK_imageCount.toInt ∧ iK_imageCount.toInt ≤ 3) (b_iC_nodes : 0 ≤ iC_nodes.toInt ∧ iC_nodes.toInt ≤ 18) (b_iC_unsures : 0 ≤ iC_unsures.toInt ∧ iC_unsures.toInt ≤ 4) (b_iC_throneNode : (-1) ≤ iC_throneNode.toInt ∧ iC_throneNode.toInt ≤ 17)  : Met l yX6_leftAtMost (Cond.code yX6_leftAtMost cX6_leftAtMost 5 (some .int) :: wG) ({ frames := 1, cells := 0, slots := 0, locals := 29 }) (va_Pc [.ref oK, .int p0, .int p1] (Pw dC dI sz [(oc6 oK oR oC oS oT rK_images iK_imageCount oA oH oL iK_refusal iK_latestFault iK_latestPlace), (oc1 oC iC_nodes iC_words iC_chances iC_unsures iC_slips iC_throneNode iC_saidWorth iC_unit rC_kind rC_parts rC_partNodes rC_weights rC_weightSums rC_toldWorths rC_steps rC_below rC_above rC_unsureWords rC_unsureWorths)] [])) (va_Qi (fun (r : Int32) (_ : Nat) => (True ∧ True) ∧ PX6_leftAtMost iC_unsures p0 p1 = r) (fun (_ : Nat) (t : State) => Bw dC dI (va_A [(oc6 oK oR oC oS oT rK_images iK_imageCount oA oH oL iK_refusal iK_latestFault iK_latestPlace), (oc1 oC iC_nodes iC_words iC_chances iC_unsures iC_slips iC_throneNode iC_saidWorth iC_unit rC_kind rC_parts rC_partNodes rC_weights rC_weightSums rC_toldWorths rC_steps rC_below rC_above rC_unsureWords rC_unsureWorths)] sz) [(oc6 oK oR oC oS oT rK_images iK_imageCount oA oH oL iK_refusal iK_latestFault iK_latestPlace), (oc1 oC iC_nodes iC_words iC_chances iC_unsures iC_slips iC_throneNode iC_saidWorth iC_unit rC_kind rC_parts rC_partNodes rC_weights rC_weightSums rC_toldWorths rC_steps rC_below rC_above rC_unsureWords rC_unsureWorths)] [] t) (va_A [(oc6 oK oR oC oS oT rK_images iK_imageCount oA oH oL iK_refusal iK_latestFault iK_latestPlace), (oc1 oC iC_nodes iC_words iC_chances iC_unsures iC_slips iC_throneNode iC_saidWorth iC_unit rC_kind rC_parts rC_partNodes rC_weights rC_weightSums rC_toldWorths rC_steps rC_below rC_above rC_unsureWords rC_unsureWorths)] sz)) 0 0 (va_A [(oc6 oK oR oC oS oT rK_images iK_imageCount oA oH oL iK_refusal iK_latestFault iK_latestPlace), (oc1 oC iC_nodes iC_words iC_chances iC_unsures iC_slips iC_throneNode iC_saidWorth iC_unit rC_kind rC_parts rC_partNodes rC_weights rC_weightSums rC_toldWorths rC_steps rC_below rC_above rC_unsureWords rC_unsureWorths)] sz) := by
  refine Met.ofW (cc := cX6_leftAtMost) (maxL := 5) (ret := (some .int)) pnX6 rfl ?_
  intro p e s m args below meth c s₁ B hml hv
  obtain ⟨rfl, hsz, hP, hK, hD0, hE⟩ := hv
  have hx := B.exec
  have hb := B.bytes
  have hr := B.returns
  have hts : ∀ w ∈ wG, w.before ([.ref oK, .int p0, .int p1] : List Value).toArray s = true := fun w h => atoms_spec (ws := Cond.code yX6_leftAtMost cX6_leftAtMost 5 (some .int) :: wG) B.pre w (List.mem_cons_of_mem _ h)
  have hown : s.vm.findClass RX6 = some m.cls := own_of B.named rfl
  have hlocks := B.notSynchronized
  subst hsz
  have hD := hD0.self (sz := s.heap.size)
  generalize hAe : va_A [(oc6 oK oR oC oS oT rK_images iK_imageCount oA oH oL iK_refusal iK_latestFault iK_latestPlace), (oc1 oC iC_nodes iC_words iC_chances iC_unsures iC_slips iC_throneNode iC_saidWorth iC_unit rC_kind rC_parts rC_partNodes rC_weights rC_weightSums rC_toldWorths rC_steps rC_below rC_above rC_unsureWords rC_unsureWorths)] s.heap.size = A at hD hE ⊢
  have hA : ∀ q : Nat, s.heap.size ≤ q → A q := fun q h => by rw [← hAe]; exact Or.inr h
  have hS : va_S A s.heap s.heap [] := va_S.rf
  have hl := lv_entry ([.ref oK, .int p0, .int p1]) (n := 5) (Nat.le_of_ble_eq_true rfl)
  rw [lg_entry_eq]
  generalize (lg_sl ([.ref oK, .int p0, .int p1]) ++ List.replicate (5 - (lg_sl ([.ref oK, .int p0, .int p1])).length) Slot.unset).toArray = ls at hl ⊢
  have hl : lv_has ls 5 [(0, .ref oK), (1, .int p0), (2, .int p1)] := hl
  have hG := PX6_leftAtMost_eq iC_unsures p0 p1
  have rg_p0 := fb_rng p0
  have rg_p1 := fb_rng p1
  refine lv_iconst (v := 0) hx hb dX6_leftAtMost_0 (by decide) ?_
  refine lv_istore_n (lv' := [(3, .int 0), (0, .ref oK), (1, .int p0), (2, .int p1)]) hx hb dX6_leftAtMost_1 rfl hl (by decide) rfl (fun ls hl => ?_)
  refine lv_iconst (v := 0) hx hb dX6_leftAtMost_2 (by decide) ?_
  refine lv_istore (lv' := [(4, .int 0), (3, .int 0), (0, .ref oK), (1, .int p0), (2, .int p1)]) hx hb dX6_leftAtMost_3 hl (by decide) rfl (fun ls hl => ?_)
  have hl := lv_sub hl (l' := [(4, .int 0), (3, .int 0), (0, .ref oK), (1, .int p0), (2, .int p1)]) [0, 1, 2, 3, 4] rfl
  have key_n_5720 : ∀ (n_5720 : Nat) (z_5718 : Int32) (z_5719 : Int32) (H : Heap) (locs : List Loc) (ls : Array Slot), (0 ≤ z_5718.toInt ∧ z_5718.toInt ≤ 2147483647) → (2147483647 - z_5718.toInt).toNat < n_5720 → (PX6_leftAtMost iC_unsures p0 p1 = HX6_leftAtMost_0 iC_unsures p0 p1 n_5720 z_5718 z_5719) → va_P (dC, dI) vwCl [(oc6 oK oR oC oS oT rK_images iK_imageCount oA oH oL iK_refusal iK_latestFault iK_latestPlace), (oc1 oC iC_nodes iC_words iC_chances iC_unsures iC_slips iC_throneNode iC_saidWorth iC_unit rC_kind rC_parts rC_partNodes rC_weights rC_weightSums rC_toldWorths rC_steps rC_below rC_above rC_unsureWords rC_unsureWorths)] H → va_D A [(oc6 oK oR oC oS oT rK_images iK_imageCount oA oH oL iK_refusal iK_latestFault iK_latestPlace), (oc1 oC iC_nodes iC_words iC_chances iC_unsures iC_slips iC_throneNode iC_saidWorth iC_unit rC_kind rC_parts rC_partNodes rC_weights rC_weightSums rC_toldWorths rC_steps rC_below rC_above rC_unsureWords rC_unsureWorths)] → va_S A s.heap H locs → lv_has ls 5 [(4, .int z_5718), (3, .int z_5719), (0, .ref oK), (1, .int p0), (2, .int p1)] → W p l e (headSpec (Cond.code yX6_leftAtMost cX6_leftAtMost 5 (some .int) :: wG) ({ frames := 1, cells := 0, slots := 0, locals := 29 })).room s m ([.ref oK, .int p0, .int p1] : List Value).toArray below meth c H locs 0 0 (MQ below (va_Qi (fun (r : Int32) (_ : Nat) => (True ∧ True) ∧ PX6_leftAtMost iC_unsures p0 p1 = r) (fun (_ : Nat) (t : State) => Bw dC dI A [(oc6 oK oR oC oS oT rK_images iK_imageCount oA oH oL iK_refusal iK_latestFault iK_latestPlace), (oc1 oC iC_nodes iC_words iC_chances iC_unsures iC_slips iC_throneNode iC_saidWorth iC_unit rC_kind rC_parts rC_partNodes rC_weights rC_weightSums rC_toldWorths rC_steps rC_below rC_above rC_unsureWords rC_unsureWorths)] [] t) A) ([.ref oK, .int p0, .int p1] : List Value).toArray s 0 0 A) (F0 m 5 ls []) := by
    intro n_5720
    induction n_5720 with
    | zero => intro z_5718 z_5719 H locs ls hi0_n_5720 hm; exact absurd hm (Nat.not_lt_zero _)
    | succ n_5720 ih_n_5720 =>
      intro z_5718 z_5719 H locs ls hi0_n_5720 hm_n_5720 hG hP hD hS hl
      have hG := hG.trans (HX6_leftAtMost_0_eq _ _ _ _ _ _)
      have rg_z_5718 := fb_rng z_5718
      have rg_z_5719 := fb_rng z_5719
      refine lv_iload hx hb dX6_leftAtMost_5 (lv_at hl 0 rfl) ?_
      refine lv_aload_n hx hb dX6_leftAtMost_7 rfl (lv_at hl 2 rfl) ?_
      refine va_get (D := (dC, dI)) (ci := 6) (v := .ref oC) (C := RX6) (T := TX6) (N := 12) hx hb hts inX6 hown hK hP 0 rfl rfl 1 (by decide) (hts _ wd_20) (fun _ h9 => h9) rfl dX6_leftAtMost_8 ?_
      have hMs := ml_of hD [false, true] (wc := [(oc1 oC iC_nodes iC_words iC_chances iC_unsures iC_slips iC_throneNode iC_saidWorth iC_unit rC_kind rC_parts rC_partNodes rC_weights rC_weightSums rC_toldWorths rC_steps rC_below rC_above rC_unsureWords rC_unsureWorths)]) rfl
      have hFc := va_freeM hD hS hA _ hMs
      refine va_calli (va_runV (As := []) (rest := [.int z_5718]) ⟨hx, hb, hml, hown, hts⟩ (tX1_unsureSets l dC dI _ oC iC_nodes iC_words iC_chances iC_unsures iC_slips iC_throneNode iC_saidWorth iC_unit rC_kind rC_parts rC_partNodes rC_weights rC_weightSums rC_toldWorths rC_steps rC_below rC_above rC_unsureWords rC_unsureWorths b_iC_nodes b_iC_unsures b_iC_throneNode) (cwV 0 hts (wd_V wd_1165 wd_1166 wd_1167 wd_19 (wd_c wd_1168)) rfl rfl rfl dv_yX1_unsureSets_0 ⟨Nat.le_of_ble_eq_true rfl, Nat.le_of_ble_eq_true rfl⟩) ⟨Pw.fb, recvX1 hK hP (q0 := 1) rfl, fun U hU hW => Pw.to (hP.ms _ hMs) (hD.ms _ hMs) hK hE hS hFc hU hW⟩ rfl rfl hl.1 rfl (lv_room (Nat.le_of_ble_eq_true rfl)) dX6_leftAtMost_11 ⟨Nat.le_of_ble_eq_true rfl, Nat.le_of_ble_eq_true rfl⟩) hS (fun q _ h => hFc q h) hFc (fun r u t H locs ht hvm hw hB hz1 hk1 hS => ?_)
      have hru9 := hw.2
      have hw := hw.1
      obtain ⟨hP, hD⟩ := Bw.goN (ws' := [(oc6 oK oR oC oS oT rK_images iK_imageCount oA oH oL iK_refusal iK_latestFault iK_latestPlace), (oc1 oC iC_nodes iC_words iC_chances iC_unsures iC_slips iC_throneNode iC_saidWorth iC_unit rC_kind rC_parts rC_partNodes rC_weights rC_weightSums rC_toldWorths rC_steps rC_below rC_above rC_unsureWords rC_unsureWorths)]) hB rfl ht hP hD _ hMs hk1 hFc rfl
      clear hz1 hk1 hvm ht hB hMs
      obtain ⟨x_5721, rfl⟩ : ∃ z, z = r := ⟨_, rfl⟩
      have hG := hG.trans (lt_eq hru9.symm)
      have rg_x_5721 := fb_rng x_5721
      have ux_5721 := hw.2
      refine lv_icmp_ge (tgt := 46) hx hb dX6_leftAtMost_14 (by decide) (fun c_5722 => ?_) (fun c_5722 => ?_)
      · skip
        have hG := hG.trans (if_pos c_5722)
        have gc_5722 := ti_le c_5722 rfl rfl
        refine lv_iload_n hx hb dX6_leftAtMost_46 rfl (lv_at hl 1 rfl) ?_
        refine lv_iload_n hx hb dX6_leftAtMost_47 rfl (lv_at hl 3 rfl) ?_
        have hFc : ∀ q, va_A [] _ q → A q := fun q h => hA q (Nat.le_trans hS.1 (va_nilA h))
        refine va_calli (va_runS (As := [.int p0]) (rest := [.int z_5719]) ⟨hx, hb, hml, hown, hts⟩ (tJ6_bitCount_0f7a4 l dC dI _ p0 ) (va_cwS 1 hts (wd_S wd_950 wd_951 wd_952 (wd_c wd_953)) rfl rfl rfl ds_yJ6_bitCount_0f7a4_1 ⟨Nat.le_of_ble_eq_true rfl, Nat.le_of_ble_eq_true rfl⟩) ⟨Pw.fb, fun U hU hW => Pn.to hK hE hS hA hU hW⟩ rfl rfl hl.1 rfl (lv_room (Nat.le_of_ble_eq_true rfl)) dX6_leftAtMost_48 ⟨Nat.le_of_ble_eq_true rfl, Nat.le_of_ble_eq_true rfl⟩) hS (fun q _ h => hFc q h) hFc (fun r u t H locs ht hvm hw hB hz1 hk1 hS => ?_)
        obtain ⟨hP, hD, hK⟩ := Bw.same ht hvm hP hD hK hk1 hFc
        clear hz1 hk1 hvm ht hB
        have hq9 := hw.2
        have hw := hw.1
        obtain ⟨x_5723, rfl⟩ : ∃ z, z = r := ⟨_, rfl⟩
        have hq_x_5723 := hq9
        have hG := hG.trans (lt_eq hq_x_5723.symm)
        have rg_x_5723 := fb_rng x_5723
        refine lv_iload_n hx hb dX6_leftAtMost_51 rfl (lv_at hl 1 rfl) ?_
        refine lv_isub hx hb dX6_leftAtMost_52 ?_
        refine lv_topi (fun x_5724 ex_5724 => ?_)
        have hG := hG.trans (lt_eq ex_5724)
        have rg_x_5724 := fb_rng x_5724
        refine va_mmax hx hb (hml.trans hl.1.symm) hown (hts _ wd_1125) (hts _ wd_321) (hts _ wd_322) (hts _ wd_323) (Nat.le_of_ble_eq_true rfl) (Nat.le_of_ble_eq_true rfl) (Nat.le_of_ble_eq_true rfl) (Nat.le_of_ble_eq_true rfl) dX6_leftAtMost_53 ?_
        refine lv_topi (fun x_5725 ex_5725 => ?_)
        have hG := hG.trans (lt_eq ex_5725)
        have rg_x_5725 := fb_rng x_5725
        have qx_5725 := ti_max ex_5725 rfl rfl
        exact wq_i hx hb hr 0 ⟨⟨trivial, trivial⟩, hG⟩ (fun t ht hW => Bw.to hP hD hK ht hW) hS dX6_leftAtMost_56 hlocks
      · skip
        have hG := hG.trans (if_neg c_5722)
        have gc_5722 := ti_nle c_5722 rfl rfl
        refine lv_iload_n hx hb dX6_leftAtMost_17 rfl (lv_at hl 3 rfl) ?_
        refine lv_iload hx hb dX6_leftAtMost_18 (lv_at hl 0 rfl) ?_
        refine lv_ishr hx hb dX6_leftAtMost_20 ?_
        refine lv_topi (fun x_5726 ex_5726 => ?_)
        have hG := hG.trans (lt_eq ex_5726)
        have rg_x_5726 := fb_rng x_5726
        refine lv_iconst (v := 1) hx hb dX6_leftAtMost_21 (by decide) ?_
        refine lv_iand hx hb dX6_leftAtMost_22 ?_
        refine lv_topi (fun x_5727 ex_5727 => ?_)
        have hG := hG.trans (lt_eq ex_5727)
        have rg_x_5727 := fb_rng x_5727
        refine lv_iconst (v := 1) hx hb dX6_leftAtMost_23 (by decide) ?_
        refine lv_icmp_ne (tgt := 40) hx hb dX6_leftAtMost_24 (by decide) (fun c_5728 => ?_) (fun c_5728 => ?_)
        · skip
          have hG := hG.trans (if_neg c_5728)
          have gc_5728 := ti_ne c_5728 rfl kc_1
          obtain ⟨x_5729, ex_5729⟩ : ∃ z : Int32, z = z_5718 + Int32.ofInt 1 := ⟨_, rfl⟩
          have hG := hG.trans (lt_eq ex_5729)
          have vx_5729 : x_5729.toInt = z_5718.toInt + 1 := ti_add (y := 1) ex_5729 rfl kc_1 (om_4e4fce7e hi0_n_5720.1) (om_26fca3fc ux_5721.2 gc_5722)
          refine lv_iinc (v := x_5729) (lv' := [(4, .int x_5729), (3, .int z_5719), (0, .ref oK), (1, .int p0), (2, .int p1)]) hx hb dX6_leftAtMost_40 hl (k := 0) rfl ex_5729.symm (by decide) rfl (fun ls hl => ?_)
          refine lv_goto (tgt := 5) hx hb dX6_leftAtMost_43 (by decide) ?_
          exact ih_n_5720 x_5729 z_5719 _ _ _  ⟨(om_83b90de5 hi0_n_5720.1 vx_5729), (om_4b156bce ux_5721.2 gc_5722 vx_5729)⟩ (ms_lt hm_n_5720 (om_b9393183 vx_5729) (om_33376cd8 ux_5721.2 gc_5722)) hG hP hD hS (lv_sub hl [0, 1, 2, 3, 4] rfl)
        · skip
          have hG := hG.trans (if_pos c_5728)
          have gc_5728 := ti_eq c_5728 rfl kc_1
          refine lv_iload hx hb dX6_leftAtMost_27 (lv_at hl 0 rfl) ?_
          refine lv_iload_n hx hb dX6_leftAtMost_29 rfl (lv_at hl 4 rfl) ?_
          refine lv_ishr hx hb dX6_leftAtMost_30 ?_
          refine lv_topi (fun x_5730 ex_5730 => ?_)
          have hG := hG.trans (lt_eq ex_5730)
          have rg_x_5730 := fb_rng x_5730
          refine lv_iconst (v := 1) hx hb dX6_leftAtMost_31 (by decide) ?_
          refine lv_iand hx hb dX6_leftAtMost_32 ?_
          refine lv_topi (fun x_5731 ex_5731 => ?_)
          have hG := hG.trans (lt_eq ex_5731)
          have rg_x_5731 := fb_rng x_5731
          refine lv_iconst (v := 1) hx hb dX6_leftAtMost_33 (by decide) ?_
          refine lv_icmp_ne (tgt := 40) hx hb dX6_leftAtMost_34 (by decide) (fun c_5732 => ?_) (fun c_5732 => ?_)
          · skip
            have hG := hG.trans (if_neg c_5732)
            have gc_5732 := ti_ne c_5732 rfl kc_1
            obtain ⟨x_5733, ex_5733⟩ : ∃ z : Int32, z = z_5718 + Int32.ofInt 1 := ⟨_, rfl⟩
            have hG := hG.trans (lt_eq ex_5733)
            have vx_5733 : x_5733.toInt = z_5718.toInt + 1 := ti_add (y := 1) ex_5733 rfl kc_1 (om_4e4fce7e hi0_n_5720.1) (om_26fca3fc ux_5721.2 gc_5722)
            refine lv_iinc (v := x_5733) (lv' := [(4, .int x_5733), (3, .int z_5719), (0, .ref oK), (1, .int p0), (2, .int p1)]) hx hb dX6_leftAtMost_40 hl (k := 0) rfl ex_5733.symm (by decide) rfl (fun ls hl => ?_)
            refine lv_goto (tgt := 5) hx hb dX6_leftAtMost_43 (by decide) ?_
            exact ih_n_5720 x_5733 z_5719 _ _ _  ⟨(om_83b90de5 hi0_n_5720.1 vx_5733), (om_4b156bce ux_5721.2 gc_5722 vx_5733)⟩ (ms_lt hm_n_5720 (om_b9393183 vx_5733) (om_33376cd8 ux_5721.2 gc_5722)) hG hP hD hS (lv_sub hl [0, 1, 2, 3, 4] rfl)
          · skip
            have hG := hG.trans (if_pos c_5732)
            have gc_5732 := ti_eq c_5732 rfl kc_1
            obtain ⟨x_5734, ex_5734⟩ : ∃ z : Int32, z = z_5719 + Int32.ofInt 1 := ⟨_, rfl⟩
            have hG := hG.trans (lt_eq ex_5734)
            have rg_x_5734 := fb_rng x_5734
            refine lv_iinc (v := x_5734) (lv' := [(3, .int x_5734), (4, .int z_5718), (0, .ref oK), (1, .int p0), (2, .int p1)]) hx hb dX6_leftAtMost_37 hl (k := 1) rfl ex_5734.symm (by decide) rfl (fun ls hl => ?_)
            obtain ⟨x_5735, ex_5735⟩ : ∃ z : Int32, z = z_5718 + Int32.ofInt 1 := ⟨_, rfl⟩
            have hG := hG.trans (lt_eq ex_5735)
            have vx_5735 : x_5735.toInt = z_5718.toInt + 1 := ti_add (y := 1) ex_5735 rfl kc_1 (om_4e4fce7e hi0_n_5720.1) (om_26fca3fc ux_5721.2 gc_5722)
            refine lv_iinc (v := x_5735) (lv' := [(4, .int x_5735), (3, .int x_5734), (0, .ref oK), (1, .int p0), (2, .int p1)]) hx hb dX6_leftAtMost_40 hl (k := 1) rfl ex_5735.symm (by decide) rfl (fun ls hl => ?_)
            refine lv_goto (tgt := 5) hx hb dX6_leftAtMost_43 (by decide) ?_
            exact ih_n_5720 x_5735 x_5734 _ _ _  ⟨(om_83b90de5 hi0_n_5720.1 vx_5735), (om_4b156bce ux_5721.2 gc_5722 vx_5735)⟩ (ms_lt hm_n_5720 (om_b9393183 vx_5735) (om_33376cd8 ux_5721.2 gc_5722)) hG hP hD hS (lv_sub hl [0, 1, 2, 3, 4] rfl)
  exact key_n_5720 (((2147483647 - (0 : Int32).toInt).toNat) + 1) 0 0 _ _ _  ⟨(om_b1de7dbe kc_0), (om_daf17c64 kc_0)⟩ (Nat.lt_add_one _) hG hP hD hS hl
set_option maxHeartbeats 4000000 in
set_option maxRecDepth 100000 in
theorem tX6_unsureToAsk (l : Launch) (dC : Nat → ClassId) (dI : Nat → Nat → Nat) (sz : Nat) (oK : Nat) (oR : Nat) (oC : Nat) (oS : Nat) (oT : Nat) (rK_images : Nat) (iK_imageCount : Int32) (oA : Nat) (oH : Nat) (oL : Nat) (iK_refusal : Int32) (iK_latestFault : Int32) (iK_latestPlace : Int32) (iC_nodes : Int32) (iC_words : Int32) (iC_chances : Int32) (iC_unsures : Int32) (iC_slips : Int32) (iC_throneNode : Int32) (iC_saidWorth : Int32) (iC_unit : Int32) (rC_kind : Nat) (rC_parts : Nat) (rC_partNodes : Nat) (rC_weights : Nat) (rC_weightSums : Nat) (rC_toldWorths : Nat) (rC_steps : Nat) (rC_below : Nat) (rC_above : Nat) (rC_unsureWords : Nat) (rC_unsureWorths : Nat) (p0 : Int32) (b_iK_imageCount : 0 ≤ iK_imageCount.toInt ∧ iK_imageCount.toInt ≤ 3) (b_iC_nodes : 0 ≤ iC_nodes.toInt ∧ iC_nodes.toInt ≤ 18) (b_iC_unsures : 0 ≤ iC_unsures.toInt ∧ iC_unsures.toInt ≤ 4) (b_iC_throneNode : (-1) ≤ iC_throneNode.toInt ∧ iC_throneNode.toInt ≤ 17)  : Met l yX6_unsureToAsk (Cond.code yX6_unsureToAsk cX6_unsureToAsk 6 (some .int) :: wG) ({ frames := 2, cells := 0, slots := 0, locals := 53 }) (va_Pc [.ref oK, .int p0] (Pw dC dI sz [(oc6 oK oR oC oS oT rK_images iK_imageCount oA oH oL iK_refusal iK_latestFault iK_latestPlace), (oc1 oC iC_nodes iC_words iC_chances iC_unsures iC_slips iC_throneNode iC_saidWorth iC_unit rC_kind rC_parts rC_partNodes rC_weights rC_weightSums rC_toldWorths rC_steps rC_below rC_above rC_unsureWords rC_unsureWorths)] [])) (va_Qi (fun (r : Int32) (_ : Nat) => (True ∧ ((-1) ≤ r.toInt ∧ r.toInt ≤ 3)) ∧ PX6_unsureToAsk iC_unsures p0 = r) (fun (_ : Nat) (t : State) => Bw dC dI (va_A [(oc6 oK oR oC oS oT rK_images iK_imageCount oA oH oL iK_refusal iK_latestFault iK_latestPlace), (oc1 oC iC_nodes iC_words iC_chances iC_unsures iC_slips iC_throneNode iC_saidWorth iC_unit rC_kind rC_parts rC_partNodes rC_weights rC_weightSums rC_toldWorths rC_steps rC_below rC_above rC_unsureWords rC_unsureWorths)] sz) [(oc6 oK oR oC oS oT rK_images iK_imageCount oA oH oL iK_refusal iK_latestFault iK_latestPlace), (oc1 oC iC_nodes iC_words iC_chances iC_unsures iC_slips iC_throneNode iC_saidWorth iC_unit rC_kind rC_parts rC_partNodes rC_weights rC_weightSums rC_toldWorths rC_steps rC_below rC_above rC_unsureWords rC_unsureWorths)] [] t) (va_A [(oc6 oK oR oC oS oT rK_images iK_imageCount oA oH oL iK_refusal iK_latestFault iK_latestPlace), (oc1 oC iC_nodes iC_words iC_chances iC_unsures iC_slips iC_throneNode iC_saidWorth iC_unit rC_kind rC_parts rC_partNodes rC_weights rC_weightSums rC_toldWorths rC_steps rC_below rC_above rC_unsureWords rC_unsureWorths)] sz)) 0 0 (va_A [(oc6 oK oR oC oS oT rK_images iK_imageCount oA oH oL iK_refusal iK_latestFault iK_latestPlace), (oc1 oC iC_nodes iC_words iC_chances iC_unsures iC_slips iC_throneNode iC_saidWorth iC_unit rC_kind rC_parts rC_partNodes rC_weights rC_weightSums rC_toldWorths rC_steps rC_below rC_above rC_unsureWords rC_unsureWorths)] sz) := by
  refine Met.ofW (cc := cX6_unsureToAsk) (maxL := 6) (ret := (some .int)) pnX6 rfl ?_
  intro p e s m args below meth c s₁ B hml hv
  obtain ⟨rfl, hsz, hP, hK, hD0, hE⟩ := hv
  have hx := B.exec
  have hb := B.bytes
  have hr := B.returns
  have hts : ∀ w ∈ wG, w.before ([.ref oK, .int p0] : List Value).toArray s = true := fun w h => atoms_spec (ws := Cond.code yX6_unsureToAsk cX6_unsureToAsk 6 (some .int) :: wG) B.pre w (List.mem_cons_of_mem _ h)
  have hown : s.vm.findClass RX6 = some m.cls := own_of B.named rfl
  have hlocks := B.notSynchronized
  subst hsz
  have hD := hD0.self (sz := s.heap.size)
  generalize hAe : va_A [(oc6 oK oR oC oS oT rK_images iK_imageCount oA oH oL iK_refusal iK_latestFault iK_latestPlace), (oc1 oC iC_nodes iC_words iC_chances iC_unsures iC_slips iC_throneNode iC_saidWorth iC_unit rC_kind rC_parts rC_partNodes rC_weights rC_weightSums rC_toldWorths rC_steps rC_below rC_above rC_unsureWords rC_unsureWorths)] s.heap.size = A at hD hE ⊢
  have hA : ∀ q : Nat, s.heap.size ≤ q → A q := fun q h => by rw [← hAe]; exact Or.inr h
  have hS : va_S A s.heap s.heap [] := va_S.rf
  have hl := lv_entry ([.ref oK, .int p0]) (n := 6) (Nat.le_of_ble_eq_true rfl)
  rw [lg_entry_eq]
  generalize (lg_sl ([.ref oK, .int p0]) ++ List.replicate (6 - (lg_sl ([.ref oK, .int p0])).length) Slot.unset).toArray = ls at hl ⊢
  have hl : lv_has ls 6 [(0, .ref oK), (1, .int p0)] := hl
  have hG := PX6_unsureToAsk_eq iC_unsures p0
  have rg_p0 := fb_rng p0
  refine lv_iconst (v := (-1)) hx hb dX6_unsureToAsk_0 (by decide) ?_
  refine lv_istore_n (lv' := [(2, .int (-1)), (0, .ref oK), (1, .int p0)]) hx hb dX6_unsureToAsk_1 rfl hl (by decide) rfl (fun ls hl => ?_)
  refine lv_iconst (v := 0) hx hb dX6_unsureToAsk_2 (by decide) ?_
  refine lv_istore_n (lv' := [(3, .int 0), (2, .int (-1)), (0, .ref oK), (1, .int p0)]) hx hb dX6_unsureToAsk_3 rfl hl (by decide) rfl (fun ls hl => ?_)
  refine lv_iconst (v := 0) hx hb dX6_unsureToAsk_4 (by decide) ?_
  refine lv_istore (lv' := [(4, .int 0), (3, .int 0), (2, .int (-1)), (0, .ref oK), (1, .int p0)]) hx hb dX6_unsureToAsk_5 hl (by decide) rfl (fun ls hl => ?_)
  have hl := lv_sub hl (l' := [(4, .int 0), (3, .int 0), (2, .int (-1)), (0, .ref oK), (1, .int p0)]) [0, 1, 2, 3, 4] rfl
  have key_n_5759 : ∀ (n_5759 : Nat) (z_5756 : Int32) (z_5757 : Int32) (z_5758 : Int32) (H : Heap) (locs : List Loc) (ls : Array Slot), (0 ≤ z_5756.toInt ∧ z_5756.toInt ≤ 2147483647) → ((-1) ≤ z_5757.toInt ∧ z_5757.toInt ≤ 3) → (2147483647 - z_5756.toInt).toNat < n_5759 → (PX6_unsureToAsk iC_unsures p0 = HX6_unsureToAsk_0 iC_unsures p0 n_5759 z_5756 z_5757 z_5758) → va_P (dC, dI) vwCl [(oc6 oK oR oC oS oT rK_images iK_imageCount oA oH oL iK_refusal iK_latestFault iK_latestPlace), (oc1 oC iC_nodes iC_words iC_chances iC_unsures iC_slips iC_throneNode iC_saidWorth iC_unit rC_kind rC_parts rC_partNodes rC_weights rC_weightSums rC_toldWorths rC_steps rC_below rC_above rC_unsureWords rC_unsureWorths)] H → va_D A [(oc6 oK oR oC oS oT rK_images iK_imageCount oA oH oL iK_refusal iK_latestFault iK_latestPlace), (oc1 oC iC_nodes iC_words iC_chances iC_unsures iC_slips iC_throneNode iC_saidWorth iC_unit rC_kind rC_parts rC_partNodes rC_weights rC_weightSums rC_toldWorths rC_steps rC_below rC_above rC_unsureWords rC_unsureWorths)] → va_S A s.heap H locs → lv_has ls 6 [(4, .int z_5756), (3, .int z_5758), (2, .int z_5757), (0, .ref oK), (1, .int p0)] → W p l e (headSpec (Cond.code yX6_unsureToAsk cX6_unsureToAsk 6 (some .int) :: wG) ({ frames := 2, cells := 0, slots := 0, locals := 53 })).room s m ([.ref oK, .int p0] : List Value).toArray below meth c H locs 0 0 (MQ below (va_Qi (fun (r : Int32) (_ : Nat) => (True ∧ ((-1) ≤ r.toInt ∧ r.toInt ≤ 3)) ∧ PX6_unsureToAsk iC_unsures p0 = r) (fun (_ : Nat) (t : State) => Bw dC dI A [(oc6 oK oR oC oS oT rK_images iK_imageCount oA oH oL iK_refusal iK_latestFault iK_latestPlace), (oc1 oC iC_nodes iC_words iC_chances iC_unsures iC_slips iC_throneNode iC_saidWorth iC_unit rC_kind rC_parts rC_partNodes rC_weights rC_weightSums rC_toldWorths rC_steps rC_below rC_above rC_unsureWords rC_unsureWorths)] [] t) A) ([.ref oK, .int p0] : List Value).toArray s 0 0 A) (F0 m 7 ls []) := by
    intro n_5759
    induction n_5759 with
    | zero => intro z_5756 z_5757 z_5758 H locs ls hi0_n_5759 hi1_n_5759 hm; exact absurd hm (Nat.not_lt_zero _)
    | succ n_5759 ih_n_5759 =>
      intro z_5756 z_5757 z_5758 H locs ls hi0_n_5759 hi1_n_5759 hm_n_5759 hG hP hD hS hl
      have hG := hG.trans (HX6_unsureToAsk_0_eq _ _ _ _ _ _)
      have rg_z_5756 := fb_rng z_5756
      have rg_z_5757 := fb_rng z_5757
      have rg_z_5758 := fb_rng z_5758
      refine lv_iload_n hx hb dX6_unsureToAsk_7 rfl (lv_at hl 4 rfl) ?_
      refine lv_if_eq (tgt := 54) hx hb dX6_unsureToAsk_8 (by decide) (fun c_5760 => ?_) (fun c_5760 => ?_)
      · skip
        have hG := hG.trans (if_pos c_5760)
        have gc_5760 := ti_eq c_5760 rfl kc_0
        refine lv_iload_n hx hb dX6_unsureToAsk_54 rfl (lv_at hl 2 rfl) ?_
        exact wq_i hx hb hr 0 ⟨⟨trivial, ⟨hi1_n_5759.1, hi1_n_5759.2⟩⟩, hG⟩ (fun t ht hW => Bw.to hP hD hK ht hW) hS dX6_unsureToAsk_55 hlocks
      · skip
        have hG := hG.trans (if_neg c_5760)
        have gc_5760 := ti_ne c_5760 rfl kc_0
        refine lv_iload hx hb dX6_unsureToAsk_11 (lv_at hl 0 rfl) ?_
        refine lv_aload_n hx hb dX6_unsureToAsk_13 rfl (lv_at hl 3 rfl) ?_
        refine va_get (D := (dC, dI)) (ci := 6) (v := .ref oC) (C := RX6) (T := TX6) (N := 12) hx hb hts inX6 hown hK hP 0 rfl rfl 1 (by decide) (hts _ wd_20) (fun _ h9 => h9) rfl dX6_unsureToAsk_14 ?_
        refine va_get (D := (dC, dI)) (ci := 1) (v := .int iC_unsures) (C := RX1) (T := TX1) (N := 19) hx hb hts inX1 hown hK hP 1 rfl rfl 3 (by decide) (hts _ wd_1229) (fun _ h9 => h9) rfl dX6_unsureToAsk_17 ?_
        have rg_iC_unsures := fb_rng iC_unsures
        refine lv_icmp_ge (tgt := 54) hx hb dX6_unsureToAsk_20 (by decide) (fun c_5761 => ?_) (fun c_5761 => ?_)
        · skip
          have hG := hG.trans (if_pos c_5761)
          have gc_5761 := ti_le c_5761 rfl rfl
          refine lv_iload_n hx hb dX6_unsureToAsk_54 rfl (lv_at hl 2 rfl) ?_
          exact wq_i hx hb hr 0 ⟨⟨trivial, ⟨hi1_n_5759.1, hi1_n_5759.2⟩⟩, hG⟩ (fun t ht hW => Bw.to hP hD hK ht hW) hS dX6_unsureToAsk_55 hlocks
        · skip
          have hG := hG.trans (if_neg c_5761)
          have gc_5761 := ti_nle c_5761 rfl rfl
          refine lv_aload_n hx hb dX6_unsureToAsk_23 rfl (lv_at hl 3 rfl) ?_
          refine lv_iload_n hx hb dX6_unsureToAsk_24 rfl (lv_at hl 4 rfl) ?_
          refine lv_iload hx hb dX6_unsureToAsk_25 (lv_at hl 0 rfl) ?_
          have hFc := va_freeI hD hS hA
          refine va_calli (va_runV (As := [.int p0, .int z_5756]) (rest := []) ⟨hx, hb, hml, hown, hts⟩ (tX6_leftAtMost l dC dI _ oK oR oC oS oT rK_images iK_imageCount oA oH oL iK_refusal iK_latestFault iK_latestPlace iC_nodes iC_words iC_chances iC_unsures iC_slips iC_throneNode iC_saidWorth iC_unit rC_kind rC_parts rC_partNodes rC_weights rC_weightSums rC_toldWorths rC_steps rC_below rC_above rC_unsureWords rC_unsureWorths p0 z_5756 b_iK_imageCount b_iC_nodes b_iC_unsures b_iC_throneNode) (cwV 2 hts (wd_V wd_1230 wd_1231 wd_1232 wd_2 (wd_c wd_1233)) rfl rfl rfl dv_yX6_leftAtMost_2 ⟨Nat.le_of_ble_eq_true rfl, Nat.le_of_ble_eq_true rfl⟩) ⟨Pw.fb, recvX6 hK hP (q0 := 0) rfl, fun U hU hW => Pw.to hP hD hK hE hS hFc hU hW⟩ rfl rfl hl.1 rfl (lv_room (Nat.le_of_ble_eq_true rfl)) dX6_unsureToAsk_27 ⟨Nat.le_of_ble_eq_true rfl, Nat.le_of_ble_eq_true rfl⟩) hS (fun q _ h => hFc q h) hFc (fun r u t H locs ht hvm hw hB hz1 hk1 hS => ?_)
          have hru9 := hw.2
          have hw := hw.1
          obtain ⟨hP, hD⟩ := Bw.goA (ws' := [(oc6 oK oR oC oS oT rK_images iK_imageCount oA oH oL iK_refusal iK_latestFault iK_latestPlace), (oc1 oC iC_nodes iC_words iC_chances iC_unsures iC_slips iC_throneNode iC_saidWorth iC_unit rC_kind rC_parts rC_partNodes rC_weights rC_weightSums rC_toldWorths rC_steps rC_below rC_above rC_unsureWords rC_unsureWorths)]) hB rfl ht hFc rfl
          clear hz1 hk1 hvm ht hB
          obtain ⟨x_5762, rfl⟩ : ∃ z, z = r := ⟨_, rfl⟩
          have hG := hG.trans (lt_eq hru9.symm)
          have rg_x_5762 := fb_rng x_5762
          refine lv_istore (lv' := [(5, .int x_5762), (4, .int z_5756), (3, .int z_5758), (2, .int z_5757), (0, .ref oK), (1, .int p0)]) hx hb dX6_unsureToAsk_30 hl (by decide) rfl (fun ls hl => ?_)
          refine lv_iload_n hx hb dX6_unsureToAsk_32 rfl (lv_at hl 3 rfl) ?_
          refine lv_if_lt (tgt := 42) hx hb dX6_unsureToAsk_33 (by decide) (fun c_5763 => ?_) (fun c_5763 => ?_)
          · skip
            have hG := hG.trans (if_pos c_5763)
            have gc_5763 := ti_lt c_5763 rfl kc_0
            refine lv_iload hx hb dX6_unsureToAsk_42 (lv_at hl 1 rfl) ?_
            refine lv_istore_n (lv' := [(2, .int z_5756), (5, .int x_5762), (4, .int z_5756), (3, .int z_5758), (0, .ref oK), (1, .int p0)]) hx hb dX6_unsureToAsk_44 rfl hl (by decide) rfl (fun ls hl => ?_)
            refine lv_iload hx hb dX6_unsureToAsk_45 (lv_at hl 1 rfl) ?_
            refine lv_istore_n (lv' := [(3, .int x_5762), (2, .int z_5756), (5, .int x_5762), (4, .int z_5756), (0, .ref oK), (1, .int p0)]) hx hb dX6_unsureToAsk_47 rfl hl (by decide) rfl (fun ls hl => ?_)
            obtain ⟨x_5764, ex_5764⟩ : ∃ z : Int32, z = z_5756 + Int32.ofInt 1 := ⟨_, rfl⟩
            have hG := hG.trans (lt_eq ex_5764)
            have vx_5764 : x_5764.toInt = z_5756.toInt + 1 := ti_add (y := 1) ex_5764 rfl kc_1 (om_4e4fce7e hi0_n_5759.1) (om_0ca29412 b_iC_unsures.2 gc_5761)
            refine lv_iinc (v := x_5764) (lv' := [(4, .int x_5764), (3, .int x_5762), (2, .int z_5756), (5, .int x_5762), (0, .ref oK), (1, .int p0)]) hx hb dX6_unsureToAsk_48 hl (k := 3) rfl ex_5764.symm (by decide) rfl (fun ls hl => ?_)
            refine lv_goto (tgt := 7) hx hb dX6_unsureToAsk_51 (by decide) ?_
            exact ih_n_5759 x_5764 z_5756 x_5762 _ _ _  ⟨(om_83b90de5 hi0_n_5759.1 vx_5764), (om_008057e4 b_iC_unsures.2 gc_5761 vx_5764)⟩ ⟨(om_9b1c209f hi0_n_5759.1), (om_c9276b6d b_iC_unsures.2 gc_5761)⟩ (ms_lt hm_n_5759 (om_b9393183 vx_5764) (om_349eab4e b_iC_unsures.2 gc_5761)) hG hP hD hS (lv_sub hl [0, 1, 2, 4, 5] rfl)
          · skip
            have hG := hG.trans (if_neg c_5763)
            have gc_5763 := ti_nlt c_5763 rfl kc_0
            refine lv_iload hx hb dX6_unsureToAsk_36 (lv_at hl 0 rfl) ?_
            refine lv_iload_n hx hb dX6_unsureToAsk_38 rfl (lv_at hl 2 rfl) ?_
            refine lv_icmp_ge (tgt := 48) hx hb dX6_unsureToAsk_39 (by decide) (fun c_5765 => ?_) (fun c_5765 => ?_)
            · skip
              have hG := hG.trans (if_pos c_5765)
              have gc_5765 := ti_le c_5765 rfl rfl
              obtain ⟨x_5766, ex_5766⟩ : ∃ z : Int32, z = z_5756 + Int32.ofInt 1 := ⟨_, rfl⟩
              have hG := hG.trans (lt_eq ex_5766)
              have vx_5766 : x_5766.toInt = z_5756.toInt + 1 := ti_add (y := 1) ex_5766 rfl kc_1 (om_4e4fce7e hi0_n_5759.1) (om_0ca29412 b_iC_unsures.2 gc_5761)
              refine lv_iinc (v := x_5766) (lv' := [(4, .int x_5766), (5, .int x_5762), (3, .int z_5758), (2, .int z_5757), (0, .ref oK), (1, .int p0)]) hx hb dX6_unsureToAsk_48 hl (k := 1) rfl ex_5766.symm (by decide) rfl (fun ls hl => ?_)
              refine lv_goto (tgt := 7) hx hb dX6_unsureToAsk_51 (by decide) ?_
              exact ih_n_5759 x_5766 z_5757 z_5758 _ _ _  ⟨(om_83b90de5 hi0_n_5759.1 vx_5766), (om_008057e4 b_iC_unsures.2 gc_5761 vx_5766)⟩ ⟨hi1_n_5759.1, hi1_n_5759.2⟩ (ms_lt hm_n_5759 (om_b9393183 vx_5766) (om_349eab4e b_iC_unsures.2 gc_5761)) hG hP hD hS (lv_sub hl [0, 2, 3, 4, 5] rfl)
            · skip
              have hG := hG.trans (if_neg c_5765)
              have gc_5765 := ti_nle c_5765 rfl rfl
              refine lv_iload hx hb dX6_unsureToAsk_42 (lv_at hl 1 rfl) ?_
              refine lv_istore_n (lv' := [(2, .int z_5756), (5, .int x_5762), (4, .int z_5756), (3, .int z_5758), (0, .ref oK), (1, .int p0)]) hx hb dX6_unsureToAsk_44 rfl hl (by decide) rfl (fun ls hl => ?_)
              refine lv_iload hx hb dX6_unsureToAsk_45 (lv_at hl 1 rfl) ?_
              refine lv_istore_n (lv' := [(3, .int x_5762), (2, .int z_5756), (5, .int x_5762), (4, .int z_5756), (0, .ref oK), (1, .int p0)]) hx hb dX6_unsureToAsk_47 rfl hl (by decide) rfl (fun ls hl => ?_)
              obtain ⟨x_5767, ex_5767⟩ : ∃ z : Int32, z = z_5756 + Int32.ofInt 1 := ⟨_, rfl⟩
              have hG := hG.trans (lt_eq ex_5767)
              have vx_5767 : x_5767.toInt = z_5756.toInt + 1 := ti_add (y := 1) ex_5767 rfl kc_1 (om_4e4fce7e hi0_n_5759.1) (om_0ca29412 b_iC_unsures.2 gc_5761)
              refine lv_iinc (v := x_5767) (lv' := [(4, .int x_5767), (3, .int x_5762), (2, .int z_5756), (5, .int x_5762), (0, .ref oK), (1, .int p0)]) hx hb dX6_unsureToAsk_48 hl (k := 3) rfl ex_5767.symm (by decide) rfl (fun ls hl => ?_)
              refine lv_goto (tgt := 7) hx hb dX6_unsureToAsk_51 (by decide) ?_
              exact ih_n_5759 x_5767 z_5756 x_5762 _ _ _  ⟨(om_83b90de5 hi0_n_5759.1 vx_5767), (om_008057e4 b_iC_unsures.2 gc_5761 vx_5767)⟩ ⟨(om_9b1c209f hi0_n_5759.1), (om_c9276b6d b_iC_unsures.2 gc_5761)⟩ (ms_lt hm_n_5759 (om_b9393183 vx_5767) (om_349eab4e b_iC_unsures.2 gc_5761)) hG hP hD hS (lv_sub hl [0, 1, 2, 4, 5] rfl)
  exact key_n_5759 (((2147483647 - (0 : Int32).toInt).toNat) + 1) 0 (-1) 0 _ _ _  ⟨(om_b1de7dbe kc_0), (om_daf17c64 kc_0)⟩ ⟨(om_05aad589 kc_m1), (om_dd448aec kc_m1)⟩ (Nat.lt_add_one _) hG hP hD hS hl
set_option maxHeartbeats 4000000 in
set_option maxRecDepth 100000 in
theorem tX6_fits (l : Launch) (dC : Nat → ClassId) (dI : Nat → Nat → Nat) (sz : Nat) (oK : Nat) (oR : Nat) (oC : Nat) (oS : Nat) (oT : Nat) (rK_images : Nat) (iK_imageCount : Int32) (oA : Nat) (oH : Nat) (oL : Nat) (iK_refusal : Int32) (iK_latestFault : Int32) (iK_latestPlace : Int32) (iC_nodes : Int32) (iC_words : Int32) (iC_chances : Int32) (iC_unsures : Int32) (iC_slips : Int32) (iC_throneNode : Int32) (iC_saidWorth : Int32) (iC_unit : Int32) (rC_kind : Nat) (fC_kind : Nat → Int32) (kC_kind : ClassId) (rC_parts : Nat) (fC_parts : Nat → Int32) (kC_parts : ClassId) (rC_partNodes : Nat) (fC_partNodes : Nat → Int32) (kC_partNodes : ClassId) (rC_weights : Nat) (fC_weights : Nat → Int32) (kC_weights : ClassId) (rC_weightSums : Nat) (fC_weightSums : Nat → Int32) (kC_weightSums : ClassId) (rC_toldWorths : Nat) (fC_toldWorths : Nat → Int32) (kC_toldWorths : ClassId) (rC_steps : Nat) (rC_below : Nat) (rC_above : Nat) (rC_unsureWords : Nat) (fC_unsureWords : Nat → Int32) (kC_unsureWords : ClassId) (rC_unsureWorths : Nat) (fC_unsureWorths : Nat → Int32) (kC_unsureWorths : ClassId) (rL_values : Nat) (fL_values : Nat → Int32) (kL_values : ClassId) (rL_supposed : Nat) (fL_supposed : Nat → Int32) (kL_supposed : ClassId) (b_iK_imageCount : 0 ≤ iK_imageCount.toInt ∧ iK_imageCount.toInt ≤ 3) (b_iC_nodes : 0 ≤ iC_nodes.toInt ∧ iC_nodes.toInt ≤ 18) (b_iC_unsures : 0 ≤ iC_unsures.toInt ∧ iC_unsures.toInt ≤ 4) (b_iC_throneNode : (-1) ≤ iC_throneNode.toInt ∧ iC_throneNode.toInt ≤ 17) (a_fC_parts : ∀ j : Nat, j < 18 → 0 ≤ (fC_parts j).toInt ∧ (fC_parts j).toInt ≤ 4) (a_fC_partNodes : ∀ j : Nat, j < 72 → 0 ≤ (fC_partNodes j).toInt ∧ (fC_partNodes j).toInt ≤ 17) (a_fC_unsureWords : ∀ j : Nat, j < 4 → 0 ≤ (fC_unsureWords j).toInt ∧ (fC_unsureWords j).toInt ≤ 17)  : Met l yX6_fits (Cond.code yX6_fits cX6_fits 1 (some .int) :: wG) ({ frames := 5, cells := 0, slots := 0, locals := 118 }) (va_Pc [.ref oK] (Pw dC dI sz [(oc6 oK oR oC oS oT rK_images iK_imageCount oA oH oL iK_refusal iK_latestFault iK_latestPlace), (oc1 oC iC_nodes iC_words iC_chances iC_unsures iC_slips iC_throneNode iC_saidWorth iC_unit rC_kind rC_parts rC_partNodes rC_weights rC_weightSums rC_toldWorths rC_steps rC_below rC_above rC_unsureWords rC_unsureWorths), (arI rC_kind kC_kind 18 fC_kind), (arI rC_parts kC_parts 18 fC_parts), (arI rC_partNodes kC_partNodes 72 fC_partNodes), (arI rC_weights kC_weights 72 fC_weights), (arI rC_weightSums kC_weightSums 18 fC_weightSums), (arI rC_toldWorths kC_toldWorths 18 fC_toldWorths), (arI rC_unsureWords kC_unsureWords 4 fC_unsureWords), (arI rC_unsureWorths kC_unsureWorths 4 fC_unsureWorths), (oc4 oL rL_values rL_supposed), (arI rL_values kL_values 18 fL_values), (arI rL_supposed kL_supposed 18 fL_supposed)] [(kC_kind, .int), (kC_parts, .int), (kC_partNodes, .int), (kC_weights, .int), (kC_weightSums, .int), (kC_toldWorths, .int), (kC_unsureWords, .int), (kC_unsureWorths, .int), (kL_values, .int), (kL_supposed, .int)])) (va_Qi (fun (r : Int32) (u : Nat) => (True ∧ True) ∧ r = Int32.ofNat u) (fun (u : Nat) (t : State) => ∃ (niK_refusal : Int32) (nfL_values : Nat → Int32) (nfL_supposed : Nat → Int32), (PX6_fits iC_nodes iC_unsures iC_throneNode iC_saidWorth iC_unit fC_kind fC_parts fC_partNodes fC_weights fC_weightSums fC_toldWorths fC_unsureWords fC_unsureWorths fL_values fL_supposed = (Int32.ofNat u, niK_refusal, nfL_values, nfL_supposed)) ∧ Bw dC dI (va_A [(oc6 oK oR oC oS oT rK_images iK_imageCount oA oH oL iK_refusal iK_latestFault iK_latestPlace), (oc1 oC iC_nodes iC_words iC_chances iC_unsures iC_slips iC_throneNode iC_saidWorth iC_unit rC_kind rC_parts rC_partNodes rC_weights rC_weightSums rC_toldWorths rC_steps rC_below rC_above rC_unsureWords rC_unsureWorths), (arI rC_kind kC_kind 18 fC_kind), (arI rC_parts kC_parts 18 fC_parts), (arI rC_partNodes kC_partNodes 72 fC_partNodes), (arI rC_weights kC_weights 72 fC_weights), (arI rC_weightSums kC_weightSums 18 fC_weightSums), (arI rC_toldWorths kC_toldWorths 18 fC_toldWorths), (arI rC_unsureWords kC_unsureWords 4 fC_unsureWords), (arI rC_unsureWorths kC_unsureWorths 4 fC_unsureWorths), (oc4 oL rL_values rL_supposed), (arI rL_values kL_values 18 fL_values), (arI rL_supposed kL_supposed 18 fL_supposed)] sz) [(oc6 oK oR oC oS oT rK_images iK_imageCount oA oH oL niK_refusal iK_latestFault iK_latestPlace), (oc1 oC iC_nodes iC_words iC_chances iC_unsures iC_slips iC_throneNode iC_saidWorth iC_unit rC_kind rC_parts rC_partNodes rC_weights rC_weightSums rC_toldWorths rC_steps rC_below rC_above rC_unsureWords rC_unsureWorths), (arI rC_kind kC_kind 18 fC_kind), (arI rC_parts kC_parts 18 fC_parts), (arI rC_partNodes kC_partNodes 72 fC_partNodes), (arI rC_weights kC_weights 72 fC_weights), (arI rC_weightSums kC_weightSums 18 fC_weightSums), (arI rC_toldWorths kC_toldWorths 18 fC_toldWorths), (arI rC_unsureWords kC_unsureWords 4 fC_unsureWords), (arI rC_unsureWorths kC_unsureWorths 4 fC_unsureWorths), (oc4 oL rL_values rL_supposed), (arI rL_values kL_values 18 nfL_values), (arI rL_supposed kL_supposed 18 nfL_supposed)] [(kC_kind, .int), (kC_parts, .int), (kC_partNodes, .int), (kC_weights, .int), (kC_weightSums, .int), (kC_toldWorths, .int), (kC_unsureWords, .int), (kC_unsureWorths, .int), (kL_values, .int), (kL_supposed, .int)] t) (va_A [(oc6 oK oR oC oS oT rK_images iK_imageCount oA oH oL iK_refusal iK_latestFault iK_latestPlace), (oc1 oC iC_nodes iC_words iC_chances iC_unsures iC_slips iC_throneNode iC_saidWorth iC_unit rC_kind rC_parts rC_partNodes rC_weights rC_weightSums rC_toldWorths rC_steps rC_below rC_above rC_unsureWords rC_unsureWorths), (arI rC_kind kC_kind 18 fC_kind), (arI rC_parts kC_parts 18 fC_parts), (arI rC_partNodes kC_partNodes 72 fC_partNodes), (arI rC_weights kC_weights 72 fC_weights), (arI rC_weightSums kC_weightSums 18 fC_weightSums), (arI rC_toldWorths kC_toldWorths 18 fC_toldWorths), (arI rC_unsureWords kC_unsureWords 4 fC_unsureWords), (arI rC_unsureWorths kC_unsureWorths 4 fC_unsureWorths), (oc4 oL rL_values rL_supposed), (arI rL_values kL_values 18 fL_values), (arI rL_supposed kL_supposed 18 fL_supposed)] sz)) 0 0 (va_A [(oc6 oK oR oC oS oT rK_images iK_imageCount oA oH oL iK_refusal iK_latestFault iK_latestPlace), (oc1 oC iC_nodes iC_words iC_chances iC_unsures iC_slips iC_throneNode iC_saidWorth iC_unit rC_kind rC_parts rC_partNodes rC_weights rC_weightSums rC_toldWorths rC_steps rC_below rC_above rC_unsureWords rC_unsureWorths), (arI rC_kind kC_kind 18 fC_kind), (arI rC_parts kC_parts 18 fC_parts), (arI rC_partNodes kC_partNodes 72 fC_partNodes), (arI rC_weights kC_weights 72 fC_weights), (arI rC_weightSums kC_weightSums 18 fC_weightSums), (arI rC_toldWorths kC_toldWorths 18 fC_toldWorths), (arI rC_unsureWords kC_unsureWords 4 fC_unsureWords), (arI rC_unsureWorths kC_unsureWorths 4 fC_unsureWorths), (oc4 oL rL_values rL_supposed), (arI rL_values kL_values 18 fL_values), (arI rL_supposed kL_supposed 18 fL_supposed)] sz) := by
  refine Met.ofW (cc := cX6_fits) (maxL := 1) (ret := (some .int)) pnX6 rfl ?_
  intro p e s m args below meth c s₁ B hml hv
  obtain ⟨rfl, hsz, hP, hK, hD0, hE⟩ := hv
  have hx := B.exec
  have hb := B.bytes
  have hr := B.returns
  have hts : ∀ w ∈ wG, w.before ([.ref oK] : List Value).toArray s = true := fun w h => atoms_spec (ws := Cond.code yX6_fits cX6_fits 1 (some .int) :: wG) B.pre w (List.mem_cons_of_mem _ h)
  have hown : s.vm.findClass RX6 = some m.cls := own_of B.named rfl
  have hlocks := B.notSynchronized
  subst hsz
  have hD := hD0.self (sz := s.heap.size)
  generalize hAe : va_A [(oc6 oK oR oC oS oT rK_images iK_imageCount oA oH oL iK_refusal iK_latestFault iK_latestPlace), (oc1 oC iC_nodes iC_words iC_chances iC_unsures iC_slips iC_throneNode iC_saidWorth iC_unit rC_kind rC_parts rC_partNodes rC_weights rC_weightSums rC_toldWorths rC_steps rC_below rC_above rC_unsureWords rC_unsureWorths), (arI rC_kind kC_kind 18 fC_kind), (arI rC_parts kC_parts 18 fC_parts), (arI rC_partNodes kC_partNodes 72 fC_partNodes), (arI rC_weights kC_weights 72 fC_weights), (arI rC_weightSums kC_weightSums 18 fC_weightSums), (arI rC_toldWorths kC_toldWorths 18 fC_toldWorths), (arI rC_unsureWords kC_unsureWords 4 fC_unsureWords), (arI rC_unsureWorths kC_unsureWorths 4 fC_unsureWorths), (oc4 oL rL_values rL_supposed), (arI rL_values kL_values 18 fL_values), (arI rL_supposed kL_supposed 18 fL_supposed)] s.heap.size = A at hD hE ⊢
  have hA : ∀ q : Nat, s.heap.size ≤ q → A q := fun q h => by rw [← hAe]; exact Or.inr h
  have hS : va_S A s.heap s.heap [] := va_S.rf
  have hl := lv_entry ([.ref oK]) (n := 1) (Nat.le_of_ble_eq_true rfl)
  rw [lg_entry_eq]
  generalize (lg_sl ([.ref oK]) ++ List.replicate (1 - (lg_sl ([.ref oK])).length) Slot.unset).toArray = ls at hl ⊢
  have hl : lv_has ls 1 [(0, .ref oK)] := hl
  have hG := PX6_fits_eq iC_nodes iC_unsures iC_throneNode iC_saidWorth iC_unit fC_kind fC_parts fC_partNodes fC_weights fC_weightSums fC_toldWorths fC_unsureWords fC_unsureWorths fL_values fL_supposed
  refine lv_aload_n hx hb dX6_fits_0 rfl (lv_at hl 0 rfl) ?_
  have hMs := ml_of hD [true, true, false, false, false, false, false, false, false, false, false, false, false] (wc := [(oc6 oK oR oC oS oT rK_images iK_imageCount oA oH oL iK_refusal iK_latestFault iK_latestPlace), (oc1 oC iC_nodes iC_words iC_chances iC_unsures iC_slips iC_throneNode iC_saidWorth iC_unit rC_kind rC_parts rC_partNodes rC_weights rC_weightSums rC_toldWorths rC_steps rC_below rC_above rC_unsureWords rC_unsureWorths)]) rfl
  have hFc := va_freeM hD hS hA _ hMs
  refine va_calli (va_runV (As := []) (rest := []) ⟨hx, hb, hml, hown, hts⟩ (tX6_lacksCourt l dC dI _ oK oR oC oS oT rK_images iK_imageCount oA oH oL iK_refusal iK_latestFault iK_latestPlace iC_nodes iC_words iC_chances iC_unsures iC_slips iC_throneNode iC_saidWorth iC_unit rC_kind rC_parts rC_partNodes rC_weights rC_weightSums rC_toldWorths rC_steps rC_below rC_above rC_unsureWords rC_unsureWorths b_iK_imageCount b_iC_nodes b_iC_unsures b_iC_throneNode) (cwV 0 hts (wd_V wd_596 wd_597 wd_598 wd_2 (wd_c wd_599)) rfl rfl rfl dv_yX6_lacksCourt_0 ⟨Nat.le_of_ble_eq_true rfl, Nat.le_of_ble_eq_true rfl⟩) ⟨Pw.fb, recvX6 hK hP (q0 := 0) rfl, fun U hU hW => Pw.to (hP.ms _ hMs) (hD.ms _ hMs) (hK.ms [false, false, false, false, false, false, false, false, false, false] rfl) hE hS hFc hU hW⟩ rfl rfl hl.1 rfl (lv_room (Nat.le_of_ble_eq_true rfl)) dX6_fits_1 ⟨Nat.le_of_ble_eq_true rfl, Nat.le_of_ble_eq_true rfl⟩) hS (fun q _ h => hFc q h) hFc (fun r u t H locs ht hvm hw hB hz1 hk1 hS => ?_)
  have hru9 := hw.2
  have hw := hw.1
  refine ex_1_2 hB (fun x_5776 b_x_5776 e_x_5776_0 hB => ?_)
  obtain ⟨hP, hD⟩ := Bw.goN (ws' := [(oc6 oK oR oC oS oT rK_images iK_imageCount oA oH oL x_5776 iK_latestFault iK_latestPlace), (oc1 oC iC_nodes iC_words iC_chances iC_unsures iC_slips iC_throneNode iC_saidWorth iC_unit rC_kind rC_parts rC_partNodes rC_weights rC_weightSums rC_toldWorths rC_steps rC_below rC_above rC_unsureWords rC_unsureWorths), (arI rC_kind kC_kind 18 fC_kind), (arI rC_parts kC_parts 18 fC_parts), (arI rC_partNodes kC_partNodes 72 fC_partNodes), (arI rC_weights kC_weights 72 fC_weights), (arI rC_weightSums kC_weightSums 18 fC_weightSums), (arI rC_toldWorths kC_toldWorths 18 fC_toldWorths), (arI rC_unsureWords kC_unsureWords 4 fC_unsureWords), (arI rC_unsureWorths kC_unsureWorths 4 fC_unsureWorths), (oc4 oL rL_values rL_supposed), (arI rL_values kL_values 18 fL_values), (arI rL_supposed kL_supposed 18 fL_supposed)]) hB rfl ht hP hD _ hMs hk1 hFc rfl
  clear hz1 hk1 hvm ht hB hMs
  rw [← hru9] at e_x_5776_0
  rcases hw.2 with ⟨rfl, hc_5777⟩ | ⟨rfl, hc_5777⟩
  · skip
    have hG := hG.trans (un2_eq e_x_5776_0)
    have hG := hG.trans (if_pos rfl)
    refine lv_if_eq (tgt := 11) hx hb dX6_fits_4 (by decide) (fun _ => ?_) (fun c => absurd c (by decide))
    refine lv_aload_n hx hb dX6_fits_11 rfl (lv_at hl 0 rfl) ?_
    have hFc := va_freeI hD hS hA
    refine va_calli (va_runV (As := []) (rest := []) ⟨hx, hb, hml, hown, hts⟩ (tX6_fittingSets l dC dI _ oK oR oC oS oT rK_images iK_imageCount oA oH oL x_5776 iK_latestFault iK_latestPlace iC_nodes iC_words iC_chances iC_unsures iC_slips iC_throneNode iC_saidWorth iC_unit rC_kind fC_kind kC_kind rC_parts fC_parts kC_parts rC_partNodes fC_partNodes kC_partNodes rC_weights fC_weights kC_weights rC_weightSums fC_weightSums kC_weightSums rC_toldWorths fC_toldWorths kC_toldWorths rC_steps rC_below rC_above rC_unsureWords fC_unsureWords kC_unsureWords rC_unsureWorths fC_unsureWorths kC_unsureWorths rL_values fL_values kL_values rL_supposed fL_supposed kL_supposed b_iK_imageCount b_iC_nodes b_iC_unsures b_iC_throneNode a_fC_parts a_fC_partNodes a_fC_unsureWords) (cwV 0 hts (wd_V wd_1159 wd_1160 wd_1161 wd_2 (wd_c wd_1162)) rfl rfl rfl dv_yX6_fittingSets_0 ⟨Nat.le_of_ble_eq_true rfl, Nat.le_of_ble_eq_true rfl⟩) ⟨Pw.fb, recvX6 hK hP (q0 := 0) rfl, fun U hU hW => Pw.to hP hD hK hE hS hFc hU hW⟩ rfl rfl hl.1 rfl (lv_room (Nat.le_of_ble_eq_true rfl)) dX6_fits_12 ⟨Nat.le_of_ble_eq_true rfl, Nat.le_of_ble_eq_true rfl⟩) hS (fun q _ h => hFc q h) hFc (fun r u t H locs ht hvm hw hB hz1 hk1 hS => ?_)
    have hru9 := hw.2
    have hw := hw.1
    refine ex_2_1 hB (fun f_5780 f_5781 e_f_5780_0 hB => ?_)
    obtain ⟨hP, hD⟩ := Bw.goA (ws' := [(oc6 oK oR oC oS oT rK_images iK_imageCount oA oH oL x_5776 iK_latestFault iK_latestPlace), (oc1 oC iC_nodes iC_words iC_chances iC_unsures iC_slips iC_throneNode iC_saidWorth iC_unit rC_kind rC_parts rC_partNodes rC_weights rC_weightSums rC_toldWorths rC_steps rC_below rC_above rC_unsureWords rC_unsureWorths), (arI rC_kind kC_kind 18 fC_kind), (arI rC_parts kC_parts 18 fC_parts), (arI rC_partNodes kC_partNodes 72 fC_partNodes), (arI rC_weights kC_weights 72 fC_weights), (arI rC_weightSums kC_weightSums 18 fC_weightSums), (arI rC_toldWorths kC_toldWorths 18 fC_toldWorths), (arI rC_unsureWords kC_unsureWords 4 fC_unsureWords), (arI rC_unsureWorths kC_unsureWorths 4 fC_unsureWorths), (oc4 oL rL_values rL_supposed), (arI rL_values kL_values 18 f_5780), (arI rL_supposed kL_supposed 18 f_5781)]) hB rfl ht hFc rfl
    clear hz1 hk1 hvm ht hB
    rw [← hru9] at e_f_5780_0
    obtain ⟨x_5782, rfl⟩ : ∃ z, z = r := ⟨_, rfl⟩
    have hG := hG.trans (un3_eq e_f_5780_0)
    have hFc : ∀ q, va_A [] _ q → A q := fun q h => hA q (Nat.le_trans hS.1 (va_nilA h))
    refine va_calli (va_runS (As := [.int x_5782]) (rest := []) ⟨hx, hb, hml, hown, hts⟩ (tJ6_bitCount_0f7a4 l dC dI _ x_5782 ) (va_cwS 1 hts (wd_S wd_950 wd_951 wd_952 (wd_c wd_953)) rfl rfl rfl ds_yJ6_bitCount_0f7a4_1 ⟨Nat.le_of_ble_eq_true rfl, Nat.le_of_ble_eq_true rfl⟩) ⟨Pw.fb, fun U hU hW => Pn.to hK hE hS hA hU hW⟩ rfl rfl hl.1 rfl (lv_room (Nat.le_of_ble_eq_true rfl)) dX6_fits_15 ⟨Nat.le_of_ble_eq_true rfl, Nat.le_of_ble_eq_true rfl⟩) hS (fun q _ h => hFc q h) hFc (fun r u t H locs ht hvm hw hB hz1 hk1 hS => ?_)
    obtain ⟨hP, hD, hK⟩ := Bw.same ht hvm hP hD hK hk1 hFc
    clear hz1 hk1 hvm ht hB
    have hq9 := hw.2
    have hw := hw.1
    obtain ⟨x_5783, rfl⟩ : ∃ z, z = r := ⟨_, rfl⟩
    have hq_x_5783 := hq9
    have hG := hG.trans (lt_eq hq_x_5783.symm)
    exact wq_i hx hb hr (cI x_5783) ⟨⟨trivial, trivial⟩, (cI_of x_5783)⟩ (fun t ht hW => ⟨x_5776, f_5780, f_5781, (cI_tup hG), Bw.to hP hD hK ht hW⟩) hS dX6_fits_18 hlocks
  · skip
    have hG := hG.trans (un2_eq e_x_5776_0)
    have hG := hG.trans (if_neg (by decide))
    refine lv_if_eq (tgt := 11) hx hb dX6_fits_4 (by decide) (fun c => absurd c (by decide)) (fun _ => ?_)
    refine lv_iconst (v := (-1)) hx hb dX6_fits_7 (by decide) ?_
    refine lv_goto (tgt := 18) hx hb dX6_fits_8 (by decide) ?_
    exact wq_i hx hb hr (cI (-1)) ⟨⟨trivial, trivial⟩, (cI_of (-1))⟩ (fun t ht hW => ⟨x_5776, fL_values, fL_supposed, (cI_tup hG), Bw.to hP hD hK ht hW⟩) hS dX6_fits_18 hlocks
set_option maxHeartbeats 4000000 in
set_option maxRecDepth 100000 in
theorem tX6_could (l : Launch) (dC : Nat → ClassId) (dI : Nat → Nat → Nat) (sz : Nat) (oK : Nat) (oR : Nat) (oC : Nat) (oS : Nat) (oT : Nat) (rK_images : Nat) (iK_imageCount : Int32) (oA : Nat) (oH : Nat) (oL : Nat) (iK_refusal : Int32) (iK_latestFault : Int32) (iK_latestPlace : Int32) (iC_nodes : Int32) (iC_words : Int32) (iC_chances : Int32) (iC_unsures : Int32) (iC_slips : Int32) (iC_throneNode : Int32) (iC_saidWorth : Int32) (iC_unit : Int32) (rC_kind : Nat) (fC_kind : Nat → Int32) (kC_kind : ClassId) (rC_parts : Nat) (fC_parts : Nat → Int32) (kC_parts : ClassId) (rC_partNodes : Nat) (fC_partNodes : Nat → Int32) (kC_partNodes : ClassId) (rC_weights : Nat) (fC_weights : Nat → Int32) (kC_weights : ClassId) (rC_weightSums : Nat) (fC_weightSums : Nat → Int32) (kC_weightSums : ClassId) (rC_toldWorths : Nat) (fC_toldWorths : Nat → Int32) (kC_toldWorths : ClassId) (rC_steps : Nat) (rC_below : Nat) (rC_above : Nat) (rC_unsureWords : Nat) (fC_unsureWords : Nat → Int32) (kC_unsureWords : ClassId) (rC_unsureWorths : Nat) (fC_unsureWorths : Nat → Int32) (kC_unsureWorths : ClassId) (rL_values : Nat) (fL_values : Nat → Int32) (kL_values : ClassId) (rL_supposed : Nat) (fL_supposed : Nat → Int32) (kL_supposed : ClassId) (b_iK_imageCount : 0 ≤ iK_imageCount.toInt ∧ iK_imageCount.toInt ≤ 3) (b_iC_nodes : 0 ≤ iC_nodes.toInt ∧ iC_nodes.toInt ≤ 18) (b_iC_unsures : 0 ≤ iC_unsures.toInt ∧ iC_unsures.toInt ≤ 4) (b_iC_throneNode : (-1) ≤ iC_throneNode.toInt ∧ iC_throneNode.toInt ≤ 17) (a_fC_parts : ∀ j : Nat, j < 18 → 0 ≤ (fC_parts j).toInt ∧ (fC_parts j).toInt ≤ 4) (a_fC_partNodes : ∀ j : Nat, j < 72 → 0 ≤ (fC_partNodes j).toInt ∧ (fC_partNodes j).toInt ≤ 17) (a_fC_unsureWords : ∀ j : Nat, j < 4 → 0 ≤ (fC_unsureWords j).toInt ∧ (fC_unsureWords j).toInt ≤ 17)  : Met l yX6_could (Cond.code yX6_could cX6_could 4 (some .int) :: wG) ({ frames := 5, cells := 0, slots := 0, locals := 118 }) (va_Pc [.ref oK] (Pw dC dI sz [(oc6 oK oR oC oS oT rK_images iK_imageCount oA oH oL iK_refusal iK_latestFault iK_latestPlace), (oc1 oC iC_nodes iC_words iC_chances iC_unsures iC_slips iC_throneNode iC_saidWorth iC_unit rC_kind rC_parts rC_partNodes rC_weights rC_weightSums rC_toldWorths rC_steps rC_below rC_above rC_unsureWords rC_unsureWorths), (arI rC_kind kC_kind 18 fC_kind), (arI rC_parts kC_parts 18 fC_parts), (arI rC_partNodes kC_partNodes 72 fC_partNodes), (arI rC_weights kC_weights 72 fC_weights), (arI rC_weightSums kC_weightSums 18 fC_weightSums), (arI rC_toldWorths kC_toldWorths 18 fC_toldWorths), (arI rC_unsureWords kC_unsureWords 4 fC_unsureWords), (arI rC_unsureWorths kC_unsureWorths 4 fC_unsureWorths), (oc4 oL rL_values rL_supposed), (arI rL_values kL_values 18 fL_values), (arI rL_supposed kL_supposed 18 fL_supposed)] [(kC_kind, .int), (kC_parts, .int), (kC_partNodes, .int), (kC_weights, .int), (kC_weightSums, .int), (kC_toldWorths, .int), (kC_unsureWords, .int), (kC_unsureWorths, .int), (kL_values, .int), (kL_supposed, .int)])) (va_Qi (fun (r : Int32) (u : Nat) => (True ∧ True) ∧ r = Int32.ofNat u) (fun (u : Nat) (t : State) => ∃ (niK_refusal : Int32) (nfL_values : Nat → Int32) (nfL_supposed : Nat → Int32), (PX6_could iC_nodes iC_unsures iC_throneNode iC_saidWorth iC_unit fC_kind fC_parts fC_partNodes fC_weights fC_weightSums fC_toldWorths fC_unsureWords fC_unsureWorths fL_values fL_supposed = (Int32.ofNat u, niK_refusal, nfL_values, nfL_supposed)) ∧ Bw dC dI (va_A [(oc6 oK oR oC oS oT rK_images iK_imageCount oA oH oL iK_refusal iK_latestFault iK_latestPlace), (oc1 oC iC_nodes iC_words iC_chances iC_unsures iC_slips iC_throneNode iC_saidWorth iC_unit rC_kind rC_parts rC_partNodes rC_weights rC_weightSums rC_toldWorths rC_steps rC_below rC_above rC_unsureWords rC_unsureWorths), (arI rC_kind kC_kind 18 fC_kind), (arI rC_parts kC_parts 18 fC_parts), (arI rC_partNodes kC_partNodes 72 fC_partNodes), (arI rC_weights kC_weights 72 fC_weights), (arI rC_weightSums kC_weightSums 18 fC_weightSums), (arI rC_toldWorths kC_toldWorths 18 fC_toldWorths), (arI rC_unsureWords kC_unsureWords 4 fC_unsureWords), (arI rC_unsureWorths kC_unsureWorths 4 fC_unsureWorths), (oc4 oL rL_values rL_supposed), (arI rL_values kL_values 18 fL_values), (arI rL_supposed kL_supposed 18 fL_supposed)] sz) [(oc6 oK oR oC oS oT rK_images iK_imageCount oA oH oL niK_refusal iK_latestFault iK_latestPlace), (oc1 oC iC_nodes iC_words iC_chances iC_unsures iC_slips iC_throneNode iC_saidWorth iC_unit rC_kind rC_parts rC_partNodes rC_weights rC_weightSums rC_toldWorths rC_steps rC_below rC_above rC_unsureWords rC_unsureWorths), (arI rC_kind kC_kind 18 fC_kind), (arI rC_parts kC_parts 18 fC_parts), (arI rC_partNodes kC_partNodes 72 fC_partNodes), (arI rC_weights kC_weights 72 fC_weights), (arI rC_weightSums kC_weightSums 18 fC_weightSums), (arI rC_toldWorths kC_toldWorths 18 fC_toldWorths), (arI rC_unsureWords kC_unsureWords 4 fC_unsureWords), (arI rC_unsureWorths kC_unsureWorths 4 fC_unsureWorths), (oc4 oL rL_values rL_supposed), (arI rL_values kL_values 18 nfL_values), (arI rL_supposed kL_supposed 18 nfL_supposed)] [(kC_kind, .int), (kC_parts, .int), (kC_partNodes, .int), (kC_weights, .int), (kC_weightSums, .int), (kC_toldWorths, .int), (kC_unsureWords, .int), (kC_unsureWorths, .int), (kL_values, .int), (kL_supposed, .int)] t) (va_A [(oc6 oK oR oC oS oT rK_images iK_imageCount oA oH oL iK_refusal iK_latestFault iK_latestPlace), (oc1 oC iC_nodes iC_words iC_chances iC_unsures iC_slips iC_throneNode iC_saidWorth iC_unit rC_kind rC_parts rC_partNodes rC_weights rC_weightSums rC_toldWorths rC_steps rC_below rC_above rC_unsureWords rC_unsureWorths), (arI rC_kind kC_kind 18 fC_kind), (arI rC_parts kC_parts 18 fC_parts), (arI rC_partNodes kC_partNodes 72 fC_partNodes), (arI rC_weights kC_weights 72 fC_weights), (arI rC_weightSums kC_weightSums 18 fC_weightSums), (arI rC_toldWorths kC_toldWorths 18 fC_toldWorths), (arI rC_unsureWords kC_unsureWords 4 fC_unsureWords), (arI rC_unsureWorths kC_unsureWorths 4 fC_unsureWorths), (oc4 oL rL_values rL_supposed), (arI rL_values kL_values 18 fL_values), (arI rL_supposed kL_supposed 18 fL_supposed)] sz)) 0 0 (va_A [(oc6 oK oR oC oS oT rK_images iK_imageCount oA oH oL iK_refusal iK_latestFault iK_latestPlace), (oc1 oC iC_nodes iC_words iC_chances iC_unsures iC_slips iC_throneNode iC_saidWorth iC_unit rC_kind rC_parts rC_partNodes rC_weights rC_weightSums rC_toldWorths rC_steps rC_below rC_above rC_unsureWords rC_unsureWorths), (arI rC_kind kC_kind 18 fC_kind), (arI rC_parts kC_parts 18 fC_parts), (arI rC_partNodes kC_partNodes 72 fC_partNodes), (arI rC_weights kC_weights 72 fC_weights), (arI rC_weightSums kC_weightSums 18 fC_weightSums), (arI rC_toldWorths kC_toldWorths 18 fC_toldWorths), (arI rC_unsureWords kC_unsureWords 4 fC_unsureWords), (arI rC_unsureWorths kC_unsureWorths 4 fC_unsureWorths), (oc4 oL rL_values rL_supposed), (arI rL_values kL_values 18 fL_values), (arI rL_supposed kL_supposed 18 fL_supposed)] sz) := by
  refine Met.ofW (cc := cX6_could) (maxL := 4) (ret := (some .int)) pnX6 rfl ?_
  intro p e s m args below meth c s₁ B hml hv
  obtain ⟨rfl, hsz, hP, hK, hD0, hE⟩ := hv
  have hx := B.exec
  have hb := B.bytes
  have hr := B.returns
  have hts : ∀ w ∈ wG, w.before ([.ref oK] : List Value).toArray s = true := fun w h => atoms_spec (ws := Cond.code yX6_could cX6_could 4 (some .int) :: wG) B.pre w (List.mem_cons_of_mem _ h)
  have hown : s.vm.findClass RX6 = some m.cls := own_of B.named rfl
  have hlocks := B.notSynchronized
  subst hsz
  have hD := hD0.self (sz := s.heap.size)
  generalize hAe : va_A [(oc6 oK oR oC oS oT rK_images iK_imageCount oA oH oL iK_refusal iK_latestFault iK_latestPlace), (oc1 oC iC_nodes iC_words iC_chances iC_unsures iC_slips iC_throneNode iC_saidWorth iC_unit rC_kind rC_parts rC_partNodes rC_weights rC_weightSums rC_toldWorths rC_steps rC_below rC_above rC_unsureWords rC_unsureWorths), (arI rC_kind kC_kind 18 fC_kind), (arI rC_parts kC_parts 18 fC_parts), (arI rC_partNodes kC_partNodes 72 fC_partNodes), (arI rC_weights kC_weights 72 fC_weights), (arI rC_weightSums kC_weightSums 18 fC_weightSums), (arI rC_toldWorths kC_toldWorths 18 fC_toldWorths), (arI rC_unsureWords kC_unsureWords 4 fC_unsureWords), (arI rC_unsureWorths kC_unsureWorths 4 fC_unsureWorths), (oc4 oL rL_values rL_supposed), (arI rL_values kL_values 18 fL_values), (arI rL_supposed kL_supposed 18 fL_supposed)] s.heap.size = A at hD hE ⊢
  have hA : ∀ q : Nat, s.heap.size ≤ q → A q := fun q h => by rw [← hAe]; exact Or.inr h
  have hS : va_S A s.heap s.heap [] := va_S.rf
  have hl := lv_entry ([.ref oK]) (n := 4) (Nat.le_of_ble_eq_true rfl)
  rw [lg_entry_eq]
  generalize (lg_sl ([.ref oK]) ++ List.replicate (4 - (lg_sl ([.ref oK])).length) Slot.unset).toArray = ls at hl ⊢
  have hl : lv_has ls 4 [(0, .ref oK)] := hl
  have hG := PX6_could_eq iC_nodes iC_unsures iC_throneNode iC_saidWorth iC_unit fC_kind fC_parts fC_partNodes fC_weights fC_weightSums fC_toldWorths fC_unsureWords fC_unsureWorths fL_values fL_supposed
  refine lv_aload_n hx hb dX6_could_0 rfl (lv_at hl 0 rfl) ?_
  have hMs := ml_of hD [true, true, false, false, false, false, false, false, false, false, false, false, false] (wc := [(oc6 oK oR oC oS oT rK_images iK_imageCount oA oH oL iK_refusal iK_latestFault iK_latestPlace), (oc1 oC iC_nodes iC_words iC_chances iC_unsures iC_slips iC_throneNode iC_saidWorth iC_unit rC_kind rC_parts rC_partNodes rC_weights rC_weightSums rC_toldWorths rC_steps rC_below rC_above rC_unsureWords rC_unsureWorths)]) rfl
  have hFc := va_freeM hD hS hA _ hMs
  refine va_calli (va_runV (As := []) (rest := []) ⟨hx, hb, hml, hown, hts⟩ (tX6_lacksCourt l dC dI _ oK oR oC oS oT rK_images iK_imageCount oA oH oL iK_refusal iK_latestFault iK_latestPlace iC_nodes iC_words iC_chances iC_unsures iC_slips iC_throneNode iC_saidWorth iC_unit rC_kind rC_parts rC_partNodes rC_weights rC_weightSums rC_toldWorths rC_steps rC_below rC_above rC_unsureWords rC_unsureWorths b_iK_imageCount b_iC_nodes b_iC_unsures b_iC_throneNode) (cwV 0 hts (wd_V wd_596 wd_597 wd_598 wd_2 (wd_c wd_599)) rfl rfl rfl dv_yX6_lacksCourt_0 ⟨Nat.le_of_ble_eq_true rfl, Nat.le_of_ble_eq_true rfl⟩) ⟨Pw.fb, recvX6 hK hP (q0 := 0) rfl, fun U hU hW => Pw.to (hP.ms _ hMs) (hD.ms _ hMs) (hK.ms [false, false, false, false, false, false, false, false, false, false] rfl) hE hS hFc hU hW⟩ rfl rfl hl.1 rfl (lv_room (Nat.le_of_ble_eq_true rfl)) dX6_could_1 ⟨Nat.le_of_ble_eq_true rfl, Nat.le_of_ble_eq_true rfl⟩) hS (fun q _ h => hFc q h) hFc (fun r u t H locs ht hvm hw hB hz1 hk1 hS => ?_)
  have hru9 := hw.2
  have hw := hw.1
  refine ex_1_2 hB (fun x_5819 b_x_5819 e_x_5819_0 hB => ?_)
  obtain ⟨hP, hD⟩ := Bw.goN (ws' := [(oc6 oK oR oC oS oT rK_images iK_imageCount oA oH oL x_5819 iK_latestFault iK_latestPlace), (oc1 oC iC_nodes iC_words iC_chances iC_unsures iC_slips iC_throneNode iC_saidWorth iC_unit rC_kind rC_parts rC_partNodes rC_weights rC_weightSums rC_toldWorths rC_steps rC_below rC_above rC_unsureWords rC_unsureWorths), (arI rC_kind kC_kind 18 fC_kind), (arI rC_parts kC_parts 18 fC_parts), (arI rC_partNodes kC_partNodes 72 fC_partNodes), (arI rC_weights kC_weights 72 fC_weights), (arI rC_weightSums kC_weightSums 18 fC_weightSums), (arI rC_toldWorths kC_toldWorths 18 fC_toldWorths), (arI rC_unsureWords kC_unsureWords 4 fC_unsureWords), (arI rC_unsureWorths kC_unsureWorths 4 fC_unsureWorths), (oc4 oL rL_values rL_supposed), (arI rL_values kL_values 18 fL_values), (arI rL_supposed kL_supposed 18 fL_supposed)]) hB rfl ht hP hD _ hMs hk1 hFc rfl
  clear hz1 hk1 hvm ht hB hMs
  have rg_x_5819 := fb_rng x_5819
  rw [← hru9] at e_x_5819_0
  rcases hw.2 with ⟨rfl, hc_5820⟩ | ⟨rfl, hc_5820⟩
  · skip
    have rg_iC_nodes := fb_rng iC_nodes
    have hG := hG.trans (un2_eq e_x_5819_0)
    have hG := hG.trans (if_pos rfl)
    refine lv_if_eq (tgt := 9) hx hb dX6_could_4 (by decide) (fun _ => ?_) (fun c => absurd c (by decide))
    refine lv_aload_n hx hb dX6_could_9 rfl (lv_at hl 0 rfl) ?_
    have hFc := va_freeI hD hS hA
    refine va_calli (va_runV (As := []) (rest := []) ⟨hx, hb, hml, hown, hts⟩ (tX6_fittingSets l dC dI _ oK oR oC oS oT rK_images iK_imageCount oA oH oL x_5819 iK_latestFault iK_latestPlace iC_nodes iC_words iC_chances iC_unsures iC_slips iC_throneNode iC_saidWorth iC_unit rC_kind fC_kind kC_kind rC_parts fC_parts kC_parts rC_partNodes fC_partNodes kC_partNodes rC_weights fC_weights kC_weights rC_weightSums fC_weightSums kC_weightSums rC_toldWorths fC_toldWorths kC_toldWorths rC_steps rC_below rC_above rC_unsureWords fC_unsureWords kC_unsureWords rC_unsureWorths fC_unsureWorths kC_unsureWorths rL_values fL_values kL_values rL_supposed fL_supposed kL_supposed b_iK_imageCount b_iC_nodes b_iC_unsures b_iC_throneNode a_fC_parts a_fC_partNodes a_fC_unsureWords) (cwV 0 hts (wd_V wd_1159 wd_1160 wd_1161 wd_2 (wd_c wd_1162)) rfl rfl rfl dv_yX6_fittingSets_0 ⟨Nat.le_of_ble_eq_true rfl, Nat.le_of_ble_eq_true rfl⟩) ⟨Pw.fb, recvX6 hK hP (q0 := 0) rfl, fun U hU hW => Pw.to hP hD hK hE hS hFc hU hW⟩ rfl rfl hl.1 rfl (lv_room (Nat.le_of_ble_eq_true rfl)) dX6_could_10 ⟨Nat.le_of_ble_eq_true rfl, Nat.le_of_ble_eq_true rfl⟩) hS (fun q _ h => hFc q h) hFc (fun r u t H locs ht hvm hw hB hz1 hk1 hS => ?_)
    have hru9 := hw.2
    have hw := hw.1
    refine ex_2_1 hB (fun f_5823 f_5824 e_f_5823_0 hB => ?_)
    obtain ⟨hP, hD⟩ := Bw.goA (ws' := [(oc6 oK oR oC oS oT rK_images iK_imageCount oA oH oL x_5819 iK_latestFault iK_latestPlace), (oc1 oC iC_nodes iC_words iC_chances iC_unsures iC_slips iC_throneNode iC_saidWorth iC_unit rC_kind rC_parts rC_partNodes rC_weights rC_weightSums rC_toldWorths rC_steps rC_below rC_above rC_unsureWords rC_unsureWorths), (arI rC_kind kC_kind 18 fC_kind), (arI rC_parts kC_parts 18 fC_parts), (arI rC_partNodes kC_partNodes 72 fC_partNodes), (arI rC_weights kC_weights 72 fC_weights), (arI rC_weightSums kC_weightSums 18 fC_weightSums), (arI rC_toldWorths kC_toldWorths 18 fC_toldWorths), (arI rC_unsureWords kC_unsureWords 4 fC_unsureWords), (arI rC_unsureWorths kC_unsureWorths 4 fC_unsureWorths), (oc4 oL rL_values rL_supposed), (arI rL_values kL_values 18 f_5823), (arI rL_supposed kL_supposed 18 f_5824)]) hB rfl ht hFc rfl
    clear hz1 hk1 hvm ht hB
    rw [← hru9] at e_f_5823_0
    obtain ⟨x_5825, rfl⟩ : ∃ z, z = r := ⟨_, rfl⟩
    have hG := hG.trans (un3_eq e_f_5823_0)
    have rg_x_5825 := fb_rng x_5825
    refine lv_istore_n (lv' := [(1, .int x_5825), (0, .ref oK)]) hx hb dX6_could_13 rfl hl (by decide) rfl (fun ls hl => ?_)
    refine lv_iconst (v := 0) hx hb dX6_could_14 (by decide) ?_
    refine lv_istore_n (lv' := [(2, .int 0), (1, .int x_5825), (0, .ref oK)]) hx hb dX6_could_15 rfl hl (by decide) rfl (fun ls hl => ?_)
    refine lv_iconst (v := 0) hx hb dX6_could_16 (by decide) ?_
    refine lv_istore_n (lv' := [(3, .int 0), (2, .int 0), (1, .int x_5825), (0, .ref oK)]) hx hb dX6_could_17 rfl hl (by decide) rfl (fun ls hl => ?_)
    have hl := lv_sub hl (l' := [(3, .int 0), (2, .int 0), (1, .int x_5825), (0, .ref oK)]) [0, 1, 2, 3] rfl
    have key_n_5828 : ∀ (n_5828 : Nat) (z_5826 : Int32) (z_5827 : Int32) (H : Heap) (locs : List Loc) (ls : Array Slot), (0 ≤ z_5826.toInt ∧ z_5826.toInt ≤ 2147483647) → (2147483647 - z_5826.toInt).toNat < n_5828 → (PX6_could iC_nodes iC_unsures iC_throneNode iC_saidWorth iC_unit fC_kind fC_parts fC_partNodes fC_weights fC_weightSums fC_toldWorths fC_unsureWords fC_unsureWorths fL_values fL_supposed = HX6_could_0 iC_unsures x_5819 f_5823 f_5824 x_5825 n_5828 z_5826 z_5827) → va_P (dC, dI) vwCl [(oc6 oK oR oC oS oT rK_images iK_imageCount oA oH oL x_5819 iK_latestFault iK_latestPlace), (oc1 oC iC_nodes iC_words iC_chances iC_unsures iC_slips iC_throneNode iC_saidWorth iC_unit rC_kind rC_parts rC_partNodes rC_weights rC_weightSums rC_toldWorths rC_steps rC_below rC_above rC_unsureWords rC_unsureWorths), (arI rC_kind kC_kind 18 fC_kind), (arI rC_parts kC_parts 18 fC_parts), (arI rC_partNodes kC_partNodes 72 fC_partNodes), (arI rC_weights kC_weights 72 fC_weights), (arI rC_weightSums kC_weightSums 18 fC_weightSums), (arI rC_toldWorths kC_toldWorths 18 fC_toldWorths), (arI rC_unsureWords kC_unsureWords 4 fC_unsureWords), (arI rC_unsureWorths kC_unsureWorths 4 fC_unsureWorths), (oc4 oL rL_values rL_supposed), (arI rL_values kL_values 18 f_5823), (arI rL_supposed kL_supposed 18 f_5824)] H → va_D A [(oc6 oK oR oC oS oT rK_images iK_imageCount oA oH oL x_5819 iK_latestFault iK_latestPlace), (oc1 oC iC_nodes iC_words iC_chances iC_unsures iC_slips iC_throneNode iC_saidWorth iC_unit rC_kind rC_parts rC_partNodes rC_weights rC_weightSums rC_toldWorths rC_steps rC_below rC_above rC_unsureWords rC_unsureWorths), (arI rC_kind kC_kind 18 fC_kind), (arI rC_parts kC_parts 18 fC_parts), (arI rC_partNodes kC_partNodes 72 fC_partNodes), (arI rC_weights kC_weights 72 fC_weights), (arI rC_weightSums kC_weightSums 18 fC_weightSums), (arI rC_toldWorths kC_toldWorths 18 fC_toldWorths), (arI rC_unsureWords kC_unsureWords 4 fC_unsureWords), (arI rC_unsureWorths kC_unsureWorths 4 fC_unsureWorths), (oc4 oL rL_values rL_supposed), (arI rL_values kL_values 18 f_5823), (arI rL_supposed kL_supposed 18 f_5824)] → va_S A s.heap H locs → lv_has ls 4 [(3, .int z_5826), (2, .int z_5827), (1, .int x_5825), (0, .ref oK)] → W p l e (headSpec (Cond.code yX6_could cX6_could 4 (some .int) :: wG) ({ frames := 5, cells := 0, slots := 0, locals := 118 })).room s m ([.ref oK] : List Value).toArray below meth c H locs 0 0 (MQ below (va_Qi (fun (r : Int32) (u : Nat) => (True ∧ True) ∧ r = Int32.ofNat u) (fun (u : Nat) (t : State) => ∃ (niK_refusal : Int32) (nfL_values : Nat → Int32) (nfL_supposed : Nat → Int32), (PX6_could iC_nodes iC_unsures iC_throneNode iC_saidWorth iC_unit fC_kind fC_parts fC_partNodes fC_weights fC_weightSums fC_toldWorths fC_unsureWords fC_unsureWorths fL_values fL_supposed = (Int32.ofNat u, niK_refusal, nfL_values, nfL_supposed)) ∧ Bw dC dI A [(oc6 oK oR oC oS oT rK_images iK_imageCount oA oH oL niK_refusal iK_latestFault iK_latestPlace), (oc1 oC iC_nodes iC_words iC_chances iC_unsures iC_slips iC_throneNode iC_saidWorth iC_unit rC_kind rC_parts rC_partNodes rC_weights rC_weightSums rC_toldWorths rC_steps rC_below rC_above rC_unsureWords rC_unsureWorths), (arI rC_kind kC_kind 18 fC_kind), (arI rC_parts kC_parts 18 fC_parts), (arI rC_partNodes kC_partNodes 72 fC_partNodes), (arI rC_weights kC_weights 72 fC_weights), (arI rC_weightSums kC_weightSums 18 fC_weightSums), (arI rC_toldWorths kC_toldWorths 18 fC_toldWorths), (arI rC_unsureWords kC_unsureWords 4 fC_unsureWords), (arI rC_unsureWorths kC_unsureWorths 4 fC_unsureWorths), (oc4 oL rL_values rL_supposed), (arI rL_values kL_values 18 nfL_values), (arI rL_supposed kL_supposed 18 nfL_supposed)] [(kC_kind, .int), (kC_parts, .int), (kC_partNodes, .int), (kC_weights, .int), (kC_weightSums, .int), (kC_toldWorths, .int), (kC_unsureWords, .int), (kC_unsureWorths, .int), (kL_values, .int), (kL_supposed, .int)] t) A) ([.ref oK] : List Value).toArray s 0 0 A) (F0 m 18 ls []) := by
      intro n_5828
      induction n_5828 with
      | zero => intro z_5826 z_5827 H locs ls hi0_n_5828 hm; exact absurd hm (Nat.not_lt_zero _)
      | succ n_5828 ih_n_5828 =>
        intro z_5826 z_5827 H locs ls hi0_n_5828 hm_n_5828 hG hP hD hS hl
        have hG := hG.trans (HX6_could_0_eq _ _ _ _ _ _ _ _)
        have rg_z_5826 := fb_rng z_5826
        have rg_z_5827 := fb_rng z_5827
        refine lv_iload_n hx hb dX6_could_18 rfl (lv_at hl 0 rfl) ?_
        refine lv_aload_n hx hb dX6_could_19 rfl (lv_at hl 3 rfl) ?_
        refine va_get (D := (dC, dI)) (ci := 6) (v := .ref oC) (C := RX6) (T := TX6) (N := 12) hx hb hts inX6 hown hK hP 0 rfl rfl 1 (by decide) (hts _ wd_20) (fun _ h9 => h9) rfl dX6_could_20 ?_
        have hMs := ml_of hD [false, true, false, false, false, false, false, false, false, false, false, false, false] (wc := [(oc1 oC iC_nodes iC_words iC_chances iC_unsures iC_slips iC_throneNode iC_saidWorth iC_unit rC_kind rC_parts rC_partNodes rC_weights rC_weightSums rC_toldWorths rC_steps rC_below rC_above rC_unsureWords rC_unsureWorths)]) rfl
        have hFc := va_freeM hD hS hA _ hMs
        refine va_calli (va_runV (As := []) (rest := [.int z_5826]) ⟨hx, hb, hml, hown, hts⟩ (tX1_unsureSets l dC dI _ oC iC_nodes iC_words iC_chances iC_unsures iC_slips iC_throneNode iC_saidWorth iC_unit rC_kind rC_parts rC_partNodes rC_weights rC_weightSums rC_toldWorths rC_steps rC_below rC_above rC_unsureWords rC_unsureWorths b_iC_nodes b_iC_unsures b_iC_throneNode) (cwV 0 hts (wd_V wd_1165 wd_1166 wd_1167 wd_19 (wd_c wd_1168)) rfl rfl rfl dv_yX1_unsureSets_0 ⟨Nat.le_of_ble_eq_true rfl, Nat.le_of_ble_eq_true rfl⟩) ⟨Pw.fb, recvX1 hK hP (q0 := 1) rfl, fun U hU hW => Pw.to (hP.ms _ hMs) (hD.ms _ hMs) (hK.ms [false, false, false, false, false, false, false, false, false, false] rfl) hE hS hFc hU hW⟩ rfl rfl hl.1 rfl (lv_room (Nat.le_of_ble_eq_true rfl)) dX6_could_23 ⟨Nat.le_of_ble_eq_true rfl, Nat.le_of_ble_eq_true rfl⟩) hS (fun q _ h => hFc q h) hFc (fun r u t H locs ht hvm hw hB hz1 hk1 hS => ?_)
        have hru9 := hw.2
        have hw := hw.1
        obtain ⟨hP, hD⟩ := Bw.goN (ws' := [(oc6 oK oR oC oS oT rK_images iK_imageCount oA oH oL x_5819 iK_latestFault iK_latestPlace), (oc1 oC iC_nodes iC_words iC_chances iC_unsures iC_slips iC_throneNode iC_saidWorth iC_unit rC_kind rC_parts rC_partNodes rC_weights rC_weightSums rC_toldWorths rC_steps rC_below rC_above rC_unsureWords rC_unsureWorths), (arI rC_kind kC_kind 18 fC_kind), (arI rC_parts kC_parts 18 fC_parts), (arI rC_partNodes kC_partNodes 72 fC_partNodes), (arI rC_weights kC_weights 72 fC_weights), (arI rC_weightSums kC_weightSums 18 fC_weightSums), (arI rC_toldWorths kC_toldWorths 18 fC_toldWorths), (arI rC_unsureWords kC_unsureWords 4 fC_unsureWords), (arI rC_unsureWorths kC_unsureWorths 4 fC_unsureWorths), (oc4 oL rL_values rL_supposed), (arI rL_values kL_values 18 f_5823), (arI rL_supposed kL_supposed 18 f_5824)]) hB rfl ht hP hD _ hMs hk1 hFc rfl
        clear hz1 hk1 hvm ht hB hMs
        obtain ⟨x_5829, rfl⟩ : ∃ z, z = r := ⟨_, rfl⟩
        have hG := hG.trans (lt_eq hru9.symm)
        have rg_x_5829 := fb_rng x_5829
        have ux_5829 := hw.2
        refine lv_icmp_ge (tgt := 48) hx hb dX6_could_26 (by decide) (fun c_5830 => ?_) (fun c_5830 => ?_)
        · skip
          have hG := hG.trans (if_pos c_5830)
          have gc_5830 := ti_le c_5830 rfl rfl
          refine lv_iload_n hx hb dX6_could_48 rfl (lv_at hl 1 rfl) ?_
          exact wq_i hx hb hr (cI z_5827) ⟨⟨trivial, trivial⟩, (cI_of z_5827)⟩ (fun t ht hW => ⟨x_5819, f_5823, f_5824, (cI_tup hG), Bw.to hP hD hK ht hW⟩) hS dX6_could_49 hlocks
        · skip
          have hG := hG.trans (if_neg c_5830)
          have gc_5830 := ti_nle c_5830 rfl rfl
          refine lv_iload_n hx hb dX6_could_29 rfl (lv_at hl 2 rfl) ?_
          refine lv_iload_n hx hb dX6_could_30 rfl (lv_at hl 0 rfl) ?_
          refine lv_ishr hx hb dX6_could_31 ?_
          refine lv_topi (fun x_5831 ex_5831 => ?_)
          have hG := hG.trans (lt_eq ex_5831)
          have rg_x_5831 := fb_rng x_5831
          refine lv_iconst (v := 1) hx hb dX6_could_32 (by decide) ?_
          refine lv_iand hx hb dX6_could_33 ?_
          refine lv_topi (fun x_5832 ex_5832 => ?_)
          have hG := hG.trans (lt_eq ex_5832)
          have rg_x_5832 := fb_rng x_5832
          refine lv_iconst (v := 1) hx hb dX6_could_34 (by decide) ?_
          refine lv_icmp_ne (tgt := 42) hx hb dX6_could_35 (by decide) (fun c_5833 => ?_) (fun c_5833 => ?_)
          · skip
            have hG := hG.trans (if_neg c_5833)
            have gc_5833 := ti_ne c_5833 rfl kc_1
            obtain ⟨x_5834, ex_5834⟩ : ∃ z : Int32, z = z_5826 + Int32.ofInt 1 := ⟨_, rfl⟩
            have hG := hG.trans (lt_eq ex_5834)
            have vx_5834 : x_5834.toInt = z_5826.toInt + 1 := ti_add (y := 1) ex_5834 rfl kc_1 (om_4e4fce7e hi0_n_5828.1) (om_26fca3fc ux_5829.2 gc_5830)
            refine lv_iinc (v := x_5834) (lv' := [(3, .int x_5834), (2, .int z_5827), (1, .int x_5825), (0, .ref oK)]) hx hb dX6_could_42 hl (k := 0) rfl ex_5834.symm (by decide) rfl (fun ls hl => ?_)
            refine lv_goto (tgt := 18) hx hb dX6_could_45 (by decide) ?_
            exact ih_n_5828 x_5834 z_5827 _ _ _  ⟨(om_83b90de5 hi0_n_5828.1 vx_5834), (om_4b156bce ux_5829.2 gc_5830 vx_5834)⟩ (ms_lt hm_n_5828 (om_b9393183 vx_5834) (om_33376cd8 ux_5829.2 gc_5830)) hG hP hD hS (lv_sub hl [0, 1, 2, 3] rfl)
          · skip
            have hG := hG.trans (if_pos c_5833)
            have gc_5833 := ti_eq c_5833 rfl kc_1
            refine lv_iload_n hx hb dX6_could_38 rfl (lv_at hl 1 rfl) ?_
            refine lv_iload_n hx hb dX6_could_39 rfl (lv_at hl 0 rfl) ?_
            refine lv_ior hx hb dX6_could_40 ?_
            refine lv_topi (fun x_5835 ex_5835 => ?_)
            have hG := hG.trans (lt_eq ex_5835)
            have rg_x_5835 := fb_rng x_5835
            refine lv_istore_n (lv' := [(2, .int x_5835), (3, .int z_5826), (1, .int x_5825), (0, .ref oK)]) hx hb dX6_could_41 rfl hl (by decide) rfl (fun ls hl => ?_)
            obtain ⟨x_5836, ex_5836⟩ : ∃ z : Int32, z = z_5826 + Int32.ofInt 1 := ⟨_, rfl⟩
            have hG := hG.trans (lt_eq ex_5836)
            have vx_5836 : x_5836.toInt = z_5826.toInt + 1 := ti_add (y := 1) ex_5836 rfl kc_1 (om_4e4fce7e hi0_n_5828.1) (om_26fca3fc ux_5829.2 gc_5830)
            refine lv_iinc (v := x_5836) (lv' := [(3, .int x_5836), (2, .int x_5835), (1, .int x_5825), (0, .ref oK)]) hx hb dX6_could_42 hl (k := 1) rfl ex_5836.symm (by decide) rfl (fun ls hl => ?_)
            refine lv_goto (tgt := 18) hx hb dX6_could_45 (by decide) ?_
            exact ih_n_5828 x_5836 x_5835 _ _ _  ⟨(om_83b90de5 hi0_n_5828.1 vx_5836), (om_4b156bce ux_5829.2 gc_5830 vx_5836)⟩ (ms_lt hm_n_5828 (om_b9393183 vx_5836) (om_33376cd8 ux_5829.2 gc_5830)) hG hP hD hS (lv_sub hl [0, 1, 2, 3] rfl)
    exact key_n_5828 (((2147483647 - (0 : Int32).toInt).toNat) + 1) 0 0 _ _ _  ⟨(om_b1de7dbe kc_0), (om_daf17c64 kc_0)⟩ (Nat.lt_add_one _) hG hP hD hS hl
  · skip
    have hG := hG.trans (un2_eq e_x_5819_0)
    have hG := hG.trans (if_neg (by decide))
    refine lv_if_eq (tgt := 9) hx hb dX6_could_4 (by decide) (fun c => absurd c (by decide)) (fun _ => ?_)
    refine lv_iconst (v := (-1)) hx hb dX6_could_7 (by decide) ?_
    exact wq_i hx hb hr (cI (-1)) ⟨⟨trivial, trivial⟩, (cI_of (-1))⟩ (fun t ht hW => ⟨x_5819, fL_values, fL_supposed, (cI_tup hG), Bw.to hP hD hK ht hW⟩) hS dX6_could_8 hlocks
set_option maxHeartbeats 4000000 in
set_option maxRecDepth 100000 in
theorem tX6_surely (l : Launch) (dC : Nat → ClassId) (dI : Nat → Nat → Nat) (sz : Nat) (oK : Nat) (oR : Nat) (oC : Nat) (oS : Nat) (oT : Nat) (rK_images : Nat) (iK_imageCount : Int32) (oA : Nat) (oH : Nat) (oL : Nat) (iK_refusal : Int32) (iK_latestFault : Int32) (iK_latestPlace : Int32) (iC_nodes : Int32) (iC_words : Int32) (iC_chances : Int32) (iC_unsures : Int32) (iC_slips : Int32) (iC_throneNode : Int32) (iC_saidWorth : Int32) (iC_unit : Int32) (rC_kind : Nat) (fC_kind : Nat → Int32) (kC_kind : ClassId) (rC_parts : Nat) (fC_parts : Nat → Int32) (kC_parts : ClassId) (rC_partNodes : Nat) (fC_partNodes : Nat → Int32) (kC_partNodes : ClassId) (rC_weights : Nat) (fC_weights : Nat → Int32) (kC_weights : ClassId) (rC_weightSums : Nat) (fC_weightSums : Nat → Int32) (kC_weightSums : ClassId) (rC_toldWorths : Nat) (fC_toldWorths : Nat → Int32) (kC_toldWorths : ClassId) (rC_steps : Nat) (rC_below : Nat) (rC_above : Nat) (rC_unsureWords : Nat) (fC_unsureWords : Nat → Int32) (kC_unsureWords : ClassId) (rC_unsureWorths : Nat) (fC_unsureWorths : Nat → Int32) (kC_unsureWorths : ClassId) (rL_values : Nat) (fL_values : Nat → Int32) (kL_values : ClassId) (rL_supposed : Nat) (fL_supposed : Nat → Int32) (kL_supposed : ClassId) (b_iK_imageCount : 0 ≤ iK_imageCount.toInt ∧ iK_imageCount.toInt ≤ 3) (b_iC_nodes : 0 ≤ iC_nodes.toInt ∧ iC_nodes.toInt ≤ 18) (b_iC_unsures : 0 ≤ iC_unsures.toInt ∧ iC_unsures.toInt ≤ 4) (b_iC_throneNode : (-1) ≤ iC_throneNode.toInt ∧ iC_throneNode.toInt ≤ 17) (a_fC_parts : ∀ j : Nat, j < 18 → 0 ≤ (fC_parts j).toInt ∧ (fC_parts j).toInt ≤ 4) (a_fC_partNodes : ∀ j : Nat, j < 72 → 0 ≤ (fC_partNodes j).toInt ∧ (fC_partNodes j).toInt ≤ 17) (a_fC_unsureWords : ∀ j : Nat, j < 4 → 0 ≤ (fC_unsureWords j).toInt ∧ (fC_unsureWords j).toInt ≤ 17)  : Met l yX6_surely (Cond.code yX6_surely cX6_surely 4 (some .int) :: wG) ({ frames := 5, cells := 0, slots := 0, locals := 118 }) (va_Pc [.ref oK] (Pw dC dI sz [(oc6 oK oR oC oS oT rK_images iK_imageCount oA oH oL iK_refusal iK_latestFault iK_latestPlace), (oc1 oC iC_nodes iC_words iC_chances iC_unsures iC_slips iC_throneNode iC_saidWorth iC_unit rC_kind rC_parts rC_partNodes rC_weights rC_weightSums rC_toldWorths rC_steps rC_below rC_above rC_unsureWords rC_unsureWorths), (arI rC_kind kC_kind 18 fC_kind), (arI rC_parts kC_parts 18 fC_parts), (arI rC_partNodes kC_partNodes 72 fC_partNodes), (arI rC_weights kC_weights 72 fC_weights), (arI rC_weightSums kC_weightSums 18 fC_weightSums), (arI rC_toldWorths kC_toldWorths 18 fC_toldWorths), (arI rC_unsureWords kC_unsureWords 4 fC_unsureWords), (arI rC_unsureWorths kC_unsureWorths 4 fC_unsureWorths), (oc4 oL rL_values rL_supposed), (arI rL_values kL_values 18 fL_values), (arI rL_supposed kL_supposed 18 fL_supposed)] [(kC_kind, .int), (kC_parts, .int), (kC_partNodes, .int), (kC_weights, .int), (kC_weightSums, .int), (kC_toldWorths, .int), (kC_unsureWords, .int), (kC_unsureWorths, .int), (kL_values, .int), (kL_supposed, .int)])) (va_Qi (fun (r : Int32) (u : Nat) => (True ∧ True) ∧ r = Int32.ofNat u) (fun (u : Nat) (t : State) => ∃ (niK_refusal : Int32) (nfL_values : Nat → Int32) (nfL_supposed : Nat → Int32), (PX6_surely iC_nodes iC_unsures iC_throneNode iC_saidWorth iC_unit fC_kind fC_parts fC_partNodes fC_weights fC_weightSums fC_toldWorths fC_unsureWords fC_unsureWorths fL_values fL_supposed = (Int32.ofNat u, niK_refusal, nfL_values, nfL_supposed)) ∧ Bw dC dI (va_A [(oc6 oK oR oC oS oT rK_images iK_imageCount oA oH oL iK_refusal iK_latestFault iK_latestPlace), (oc1 oC iC_nodes iC_words iC_chances iC_unsures iC_slips iC_throneNode iC_saidWorth iC_unit rC_kind rC_parts rC_partNodes rC_weights rC_weightSums rC_toldWorths rC_steps rC_below rC_above rC_unsureWords rC_unsureWorths), (arI rC_kind kC_kind 18 fC_kind), (arI rC_parts kC_parts 18 fC_parts), (arI rC_partNodes kC_partNodes 72 fC_partNodes), (arI rC_weights kC_weights 72 fC_weights), (arI rC_weightSums kC_weightSums 18 fC_weightSums), (arI rC_toldWorths kC_toldWorths 18 fC_toldWorths), (arI rC_unsureWords kC_unsureWords 4 fC_unsureWords), (arI rC_unsureWorths kC_unsureWorths 4 fC_unsureWorths), (oc4 oL rL_values rL_supposed), (arI rL_values kL_values 18 fL_values), (arI rL_supposed kL_supposed 18 fL_supposed)] sz) [(oc6 oK oR oC oS oT rK_images iK_imageCount oA oH oL niK_refusal iK_latestFault iK_latestPlace), (oc1 oC iC_nodes iC_words iC_chances iC_unsures iC_slips iC_throneNode iC_saidWorth iC_unit rC_kind rC_parts rC_partNodes rC_weights rC_weightSums rC_toldWorths rC_steps rC_below rC_above rC_unsureWords rC_unsureWorths), (arI rC_kind kC_kind 18 fC_kind), (arI rC_parts kC_parts 18 fC_parts), (arI rC_partNodes kC_partNodes 72 fC_partNodes), (arI rC_weights kC_weights 72 fC_weights), (arI rC_weightSums kC_weightSums 18 fC_weightSums), (arI rC_toldWorths kC_toldWorths 18 fC_toldWorths), (arI rC_unsureWords kC_unsureWords 4 fC_unsureWords), (arI rC_unsureWorths kC_unsureWorths 4 fC_unsureWorths), (oc4 oL rL_values rL_supposed), (arI rL_values kL_values 18 nfL_values), (arI rL_supposed kL_supposed 18 nfL_supposed)] [(kC_kind, .int), (kC_parts, .int), (kC_partNodes, .int), (kC_weights, .int), (kC_weightSums, .int), (kC_toldWorths, .int), (kC_unsureWords, .int), (kC_unsureWorths, .int), (kL_values, .int), (kL_supposed, .int)] t) (va_A [(oc6 oK oR oC oS oT rK_images iK_imageCount oA oH oL iK_refusal iK_latestFault iK_latestPlace), (oc1 oC iC_nodes iC_words iC_chances iC_unsures iC_slips iC_throneNode iC_saidWorth iC_unit rC_kind rC_parts rC_partNodes rC_weights rC_weightSums rC_toldWorths rC_steps rC_below rC_above rC_unsureWords rC_unsureWorths), (arI rC_kind kC_kind 18 fC_kind), (arI rC_parts kC_parts 18 fC_parts), (arI rC_partNodes kC_partNodes 72 fC_partNodes), (arI rC_weights kC_weights 72 fC_weights), (arI rC_weightSums kC_weightSums 18 fC_weightSums), (arI rC_toldWorths kC_toldWorths 18 fC_toldWorths), (arI rC_unsureWords kC_unsureWords 4 fC_unsureWords), (arI rC_unsureWorths kC_unsureWorths 4 fC_unsureWorths), (oc4 oL rL_values rL_supposed), (arI rL_values kL_values 18 fL_values), (arI rL_supposed kL_supposed 18 fL_supposed)] sz)) 0 0 (va_A [(oc6 oK oR oC oS oT rK_images iK_imageCount oA oH oL iK_refusal iK_latestFault iK_latestPlace), (oc1 oC iC_nodes iC_words iC_chances iC_unsures iC_slips iC_throneNode iC_saidWorth iC_unit rC_kind rC_parts rC_partNodes rC_weights rC_weightSums rC_toldWorths rC_steps rC_below rC_above rC_unsureWords rC_unsureWorths), (arI rC_kind kC_kind 18 fC_kind), (arI rC_parts kC_parts 18 fC_parts), (arI rC_partNodes kC_partNodes 72 fC_partNodes), (arI rC_weights kC_weights 72 fC_weights), (arI rC_weightSums kC_weightSums 18 fC_weightSums), (arI rC_toldWorths kC_toldWorths 18 fC_toldWorths), (arI rC_unsureWords kC_unsureWords 4 fC_unsureWords), (arI rC_unsureWorths kC_unsureWorths 4 fC_unsureWorths), (oc4 oL rL_values rL_supposed), (arI rL_values kL_values 18 fL_values), (arI rL_supposed kL_supposed 18 fL_supposed)] sz) := by
  refine Met.ofW (cc := cX6_surely) (maxL := 4) (ret := (some .int)) pnX6 rfl ?_
  intro p e s m args below meth c s₁ B hml hv
  obtain ⟨rfl, hsz, hP, hK, hD0, hE⟩ := hv
  have hx := B.exec
  have hb := B.bytes
  have hr := B.returns
  have hts : ∀ w ∈ wG, w.before ([.ref oK] : List Value).toArray s = true := fun w h => atoms_spec (ws := Cond.code yX6_surely cX6_surely 4 (some .int) :: wG) B.pre w (List.mem_cons_of_mem _ h)
  have hown : s.vm.findClass RX6 = some m.cls := own_of B.named rfl
  have hlocks := B.notSynchronized
  subst hsz
  have hD := hD0.self (sz := s.heap.size)
  generalize hAe : va_A [(oc6 oK oR oC oS oT rK_images iK_imageCount oA oH oL iK_refusal iK_latestFault iK_latestPlace), (oc1 oC iC_nodes iC_words iC_chances iC_unsures iC_slips iC_throneNode iC_saidWorth iC_unit rC_kind rC_parts rC_partNodes rC_weights rC_weightSums rC_toldWorths rC_steps rC_below rC_above rC_unsureWords rC_unsureWorths), (arI rC_kind kC_kind 18 fC_kind), (arI rC_parts kC_parts 18 fC_parts), (arI rC_partNodes kC_partNodes 72 fC_partNodes), (arI rC_weights kC_weights 72 fC_weights), (arI rC_weightSums kC_weightSums 18 fC_weightSums), (arI rC_toldWorths kC_toldWorths 18 fC_toldWorths), (arI rC_unsureWords kC_unsureWords 4 fC_unsureWords), (arI rC_unsureWorths kC_unsureWorths 4 fC_unsureWorths), (oc4 oL rL_values rL_supposed), (arI rL_values kL_values 18 fL_values), (arI rL_supposed kL_supposed 18 fL_supposed)] s.heap.size = A at hD hE ⊢
  have hA : ∀ q : Nat, s.heap.size ≤ q → A q := fun q h => by rw [← hAe]; exact Or.inr h
  have hS : va_S A s.heap s.heap [] := va_S.rf
  have hl := lv_entry ([.ref oK]) (n := 4) (Nat.le_of_ble_eq_true rfl)
  rw [lg_entry_eq]
  generalize (lg_sl ([.ref oK]) ++ List.replicate (4 - (lg_sl ([.ref oK])).length) Slot.unset).toArray = ls at hl ⊢
  have hl : lv_has ls 4 [(0, .ref oK)] := hl
  have hG := PX6_surely_eq iC_nodes iC_unsures iC_throneNode iC_saidWorth iC_unit fC_kind fC_parts fC_partNodes fC_weights fC_weightSums fC_toldWorths fC_unsureWords fC_unsureWorths fL_values fL_supposed
  refine lv_aload_n hx hb dX6_surely_0 rfl (lv_at hl 0 rfl) ?_
  have hMs := ml_of hD [true, true, false, false, false, false, false, false, false, false, false, false, false] (wc := [(oc6 oK oR oC oS oT rK_images iK_imageCount oA oH oL iK_refusal iK_latestFault iK_latestPlace), (oc1 oC iC_nodes iC_words iC_chances iC_unsures iC_slips iC_throneNode iC_saidWorth iC_unit rC_kind rC_parts rC_partNodes rC_weights rC_weightSums rC_toldWorths rC_steps rC_below rC_above rC_unsureWords rC_unsureWorths)]) rfl
  have hFc := va_freeM hD hS hA _ hMs
  refine va_calli (va_runV (As := []) (rest := []) ⟨hx, hb, hml, hown, hts⟩ (tX6_lacksCourt l dC dI _ oK oR oC oS oT rK_images iK_imageCount oA oH oL iK_refusal iK_latestFault iK_latestPlace iC_nodes iC_words iC_chances iC_unsures iC_slips iC_throneNode iC_saidWorth iC_unit rC_kind rC_parts rC_partNodes rC_weights rC_weightSums rC_toldWorths rC_steps rC_below rC_above rC_unsureWords rC_unsureWorths b_iK_imageCount b_iC_nodes b_iC_unsures b_iC_throneNode) (cwV 0 hts (wd_V wd_596 wd_597 wd_598 wd_2 (wd_c wd_599)) rfl rfl rfl dv_yX6_lacksCourt_0 ⟨Nat.le_of_ble_eq_true rfl, Nat.le_of_ble_eq_true rfl⟩) ⟨Pw.fb, recvX6 hK hP (q0 := 0) rfl, fun U hU hW => Pw.to (hP.ms _ hMs) (hD.ms _ hMs) (hK.ms [false, false, false, false, false, false, false, false, false, false] rfl) hE hS hFc hU hW⟩ rfl rfl hl.1 rfl (lv_room (Nat.le_of_ble_eq_true rfl)) dX6_surely_1 ⟨Nat.le_of_ble_eq_true rfl, Nat.le_of_ble_eq_true rfl⟩) hS (fun q _ h => hFc q h) hFc (fun r u t H locs ht hvm hw hB hz1 hk1 hS => ?_)
  have hru9 := hw.2
  have hw := hw.1
  refine ex_1_2 hB (fun x_5889 b_x_5889 e_x_5889_0 hB => ?_)
  obtain ⟨hP, hD⟩ := Bw.goN (ws' := [(oc6 oK oR oC oS oT rK_images iK_imageCount oA oH oL x_5889 iK_latestFault iK_latestPlace), (oc1 oC iC_nodes iC_words iC_chances iC_unsures iC_slips iC_throneNode iC_saidWorth iC_unit rC_kind rC_parts rC_partNodes rC_weights rC_weightSums rC_toldWorths rC_steps rC_below rC_above rC_unsureWords rC_unsureWorths), (arI rC_kind kC_kind 18 fC_kind), (arI rC_parts kC_parts 18 fC_parts), (arI rC_partNodes kC_partNodes 72 fC_partNodes), (arI rC_weights kC_weights 72 fC_weights), (arI rC_weightSums kC_weightSums 18 fC_weightSums), (arI rC_toldWorths kC_toldWorths 18 fC_toldWorths), (arI rC_unsureWords kC_unsureWords 4 fC_unsureWords), (arI rC_unsureWorths kC_unsureWorths 4 fC_unsureWorths), (oc4 oL rL_values rL_supposed), (arI rL_values kL_values 18 fL_values), (arI rL_supposed kL_supposed 18 fL_supposed)]) hB rfl ht hP hD _ hMs hk1 hFc rfl
  clear hz1 hk1 hvm ht hB hMs
  have rg_x_5889 := fb_rng x_5889
  rw [← hru9] at e_x_5889_0
  rcases hw.2 with ⟨rfl, hc_5890⟩ | ⟨rfl, hc_5890⟩
  · skip
    have rg_iC_nodes := fb_rng iC_nodes
    have hG := hG.trans (un2_eq e_x_5889_0)
    have hG := hG.trans (if_pos rfl)
    refine lv_if_eq (tgt := 9) hx hb dX6_surely_4 (by decide) (fun _ => ?_) (fun c => absurd c (by decide))
    refine lv_aload_n hx hb dX6_surely_9 rfl (lv_at hl 0 rfl) ?_
    have hFc := va_freeI hD hS hA
    refine va_calli (va_runV (As := []) (rest := []) ⟨hx, hb, hml, hown, hts⟩ (tX6_fittingSets l dC dI _ oK oR oC oS oT rK_images iK_imageCount oA oH oL x_5889 iK_latestFault iK_latestPlace iC_nodes iC_words iC_chances iC_unsures iC_slips iC_throneNode iC_saidWorth iC_unit rC_kind fC_kind kC_kind rC_parts fC_parts kC_parts rC_partNodes fC_partNodes kC_partNodes rC_weights fC_weights kC_weights rC_weightSums fC_weightSums kC_weightSums rC_toldWorths fC_toldWorths kC_toldWorths rC_steps rC_below rC_above rC_unsureWords fC_unsureWords kC_unsureWords rC_unsureWorths fC_unsureWorths kC_unsureWorths rL_values fL_values kL_values rL_supposed fL_supposed kL_supposed b_iK_imageCount b_iC_nodes b_iC_unsures b_iC_throneNode a_fC_parts a_fC_partNodes a_fC_unsureWords) (cwV 0 hts (wd_V wd_1159 wd_1160 wd_1161 wd_2 (wd_c wd_1162)) rfl rfl rfl dv_yX6_fittingSets_0 ⟨Nat.le_of_ble_eq_true rfl, Nat.le_of_ble_eq_true rfl⟩) ⟨Pw.fb, recvX6 hK hP (q0 := 0) rfl, fun U hU hW => Pw.to hP hD hK hE hS hFc hU hW⟩ rfl rfl hl.1 rfl (lv_room (Nat.le_of_ble_eq_true rfl)) dX6_surely_10 ⟨Nat.le_of_ble_eq_true rfl, Nat.le_of_ble_eq_true rfl⟩) hS (fun q _ h => hFc q h) hFc (fun r u t H locs ht hvm hw hB hz1 hk1 hS => ?_)
    have hru9 := hw.2
    have hw := hw.1
    refine ex_2_1 hB (fun f_5893 f_5894 e_f_5893_0 hB => ?_)
    obtain ⟨hP, hD⟩ := Bw.goA (ws' := [(oc6 oK oR oC oS oT rK_images iK_imageCount oA oH oL x_5889 iK_latestFault iK_latestPlace), (oc1 oC iC_nodes iC_words iC_chances iC_unsures iC_slips iC_throneNode iC_saidWorth iC_unit rC_kind rC_parts rC_partNodes rC_weights rC_weightSums rC_toldWorths rC_steps rC_below rC_above rC_unsureWords rC_unsureWorths), (arI rC_kind kC_kind 18 fC_kind), (arI rC_parts kC_parts 18 fC_parts), (arI rC_partNodes kC_partNodes 72 fC_partNodes), (arI rC_weights kC_weights 72 fC_weights), (arI rC_weightSums kC_weightSums 18 fC_weightSums), (arI rC_toldWorths kC_toldWorths 18 fC_toldWorths), (arI rC_unsureWords kC_unsureWords 4 fC_unsureWords), (arI rC_unsureWorths kC_unsureWorths 4 fC_unsureWorths), (oc4 oL rL_values rL_supposed), (arI rL_values kL_values 18 f_5893), (arI rL_supposed kL_supposed 18 f_5894)]) hB rfl ht hFc rfl
    clear hz1 hk1 hvm ht hB
    rw [← hru9] at e_f_5893_0
    obtain ⟨x_5895, rfl⟩ : ∃ z, z = r := ⟨_, rfl⟩
    have hG := hG.trans (un3_eq e_f_5893_0)
    have rg_x_5895 := fb_rng x_5895
    refine lv_istore_n (lv' := [(1, .int x_5895), (0, .ref oK)]) hx hb dX6_surely_13 rfl hl (by decide) rfl (fun ls hl => ?_)
    refine lv_iload_n hx hb dX6_surely_14 rfl (lv_at hl 0 rfl) ?_
    refine lv_if_ne (tgt := 22) hx hb dX6_surely_15 (by decide) (fun c_5896 => ?_) (fun c_5896 => ?_)
    · skip
      have hG := hG.trans (if_neg c_5896)
      have gc_5896 := ti_ne c_5896 rfl kc_0
      refine lv_aload_n hx hb dX6_surely_22 rfl (lv_at hl 1 rfl) ?_
      refine va_get (D := (dC, dI)) (ci := 6) (v := .ref oC) (C := RX6) (T := TX6) (N := 12) hx hb hts inX6 hown hK hP 0 rfl rfl 1 (by decide) (hts _ wd_20) (fun _ h9 => h9) rfl dX6_surely_23 ?_
      have hMs := ml_of hD [false, true, false, false, false, false, false, false, false, false, false, false, false] (wc := [(oc1 oC iC_nodes iC_words iC_chances iC_unsures iC_slips iC_throneNode iC_saidWorth iC_unit rC_kind rC_parts rC_partNodes rC_weights rC_weightSums rC_toldWorths rC_steps rC_below rC_above rC_unsureWords rC_unsureWorths)]) rfl
      have hFc := va_freeM hD hS hA _ hMs
      refine va_calli (va_runV (As := []) (rest := []) ⟨hx, hb, hml, hown, hts⟩ (tX1_unsureSets l dC dI _ oC iC_nodes iC_words iC_chances iC_unsures iC_slips iC_throneNode iC_saidWorth iC_unit rC_kind rC_parts rC_partNodes rC_weights rC_weightSums rC_toldWorths rC_steps rC_below rC_above rC_unsureWords rC_unsureWorths b_iC_nodes b_iC_unsures b_iC_throneNode) (cwV 0 hts (wd_V wd_1165 wd_1166 wd_1167 wd_19 (wd_c wd_1168)) rfl rfl rfl dv_yX1_unsureSets_0 ⟨Nat.le_of_ble_eq_true rfl, Nat.le_of_ble_eq_true rfl⟩) ⟨Pw.fb, recvX1 hK hP (q0 := 1) rfl, fun U hU hW => Pw.to (hP.ms _ hMs) (hD.ms _ hMs) (hK.ms [false, false, false, false, false, false, false, false, false, false] rfl) hE hS hFc hU hW⟩ rfl rfl hl.1 rfl (lv_room (Nat.le_of_ble_eq_true rfl)) dX6_surely_26 ⟨Nat.le_of_ble_eq_true rfl, Nat.le_of_ble_eq_true rfl⟩) hS (fun q _ h => hFc q h) hFc (fun r u t H locs ht hvm hw hB hz1 hk1 hS => ?_)
      have hru9 := hw.2
      have hw := hw.1
      obtain ⟨hP, hD⟩ := Bw.goN (ws' := [(oc6 oK oR oC oS oT rK_images iK_imageCount oA oH oL x_5889 iK_latestFault iK_latestPlace), (oc1 oC iC_nodes iC_words iC_chances iC_unsures iC_slips iC_throneNode iC_saidWorth iC_unit rC_kind rC_parts rC_partNodes rC_weights rC_weightSums rC_toldWorths rC_steps rC_below rC_above rC_unsureWords rC_unsureWorths), (arI rC_kind kC_kind 18 fC_kind), (arI rC_parts kC_parts 18 fC_parts), (arI rC_partNodes kC_partNodes 72 fC_partNodes), (arI rC_weights kC_weights 72 fC_weights), (arI rC_weightSums kC_weightSums 18 fC_weightSums), (arI rC_toldWorths kC_toldWorths 18 fC_toldWorths), (arI rC_unsureWords kC_unsureWords 4 fC_unsureWords), (arI rC_unsureWorths kC_unsureWorths 4 fC_unsureWorths), (oc4 oL rL_values rL_supposed), (arI rL_values kL_values 18 f_5893), (arI rL_supposed kL_supposed 18 f_5894)]) hB rfl ht hP hD _ hMs hk1 hFc rfl
      clear hz1 hk1 hvm ht hB hMs
      obtain ⟨x_5897, rfl⟩ : ∃ z, z = r := ⟨_, rfl⟩
      have hG := hG.trans (lt_eq hru9.symm)
      have rg_x_5897 := fb_rng x_5897
      have ux_5897 := hw.2
      refine lv_iconst (v := 1) hx hb dX6_surely_29 (by decide) ?_
      refine lv_isub hx hb dX6_surely_30 ?_
      refine lv_topi (fun x_5898 ex_5898 => ?_)
      have hG := hG.trans (lt_eq ex_5898)
      have vx_5898 : x_5898.toInt = x_5897.toInt + (-1) := om_89646172 (ti_sub ex_5898 rfl kc_1 (om_32108caa ux_5897.1) (om_cb379553 ux_5897.2))
      refine lv_istore_n (lv' := [(2, .int x_5898), (1, .int x_5895), (0, .ref oK)]) hx hb dX6_surely_31 rfl hl (by decide) rfl (fun ls hl => ?_)
      refine lv_iconst (v := 0) hx hb dX6_surely_32 (by decide) ?_
      refine lv_istore_n (lv' := [(3, .int 0), (2, .int x_5898), (1, .int x_5895), (0, .ref oK)]) hx hb dX6_surely_33 rfl hl (by decide) rfl (fun ls hl => ?_)
      have hl := lv_sub hl (l' := [(3, .int 0), (2, .int x_5898), (1, .int x_5895), (0, .ref oK)]) [0, 1, 2, 3] rfl
      have key_n_5901 : ∀ (n_5901 : Nat) (z_5899 : Int32) (z_5900 : Int32) (H : Heap) (locs : List Loc) (ls : Array Slot), (0 ≤ z_5899.toInt ∧ z_5899.toInt ≤ 2147483647) → (2147483647 - z_5899.toInt).toNat < n_5901 → (PX6_surely iC_nodes iC_unsures iC_throneNode iC_saidWorth iC_unit fC_kind fC_parts fC_partNodes fC_weights fC_weightSums fC_toldWorths fC_unsureWords fC_unsureWorths fL_values fL_supposed = HX6_surely_0 iC_unsures x_5889 f_5893 f_5894 x_5895 n_5901 z_5899 z_5900) → va_P (dC, dI) vwCl [(oc6 oK oR oC oS oT rK_images iK_imageCount oA oH oL x_5889 iK_latestFault iK_latestPlace), (oc1 oC iC_nodes iC_words iC_chances iC_unsures iC_slips iC_throneNode iC_saidWorth iC_unit rC_kind rC_parts rC_partNodes rC_weights rC_weightSums rC_toldWorths rC_steps rC_below rC_above rC_unsureWords rC_unsureWorths), (arI rC_kind kC_kind 18 fC_kind), (arI rC_parts kC_parts 18 fC_parts), (arI rC_partNodes kC_partNodes 72 fC_partNodes), (arI rC_weights kC_weights 72 fC_weights), (arI rC_weightSums kC_weightSums 18 fC_weightSums), (arI rC_toldWorths kC_toldWorths 18 fC_toldWorths), (arI rC_unsureWords kC_unsureWords 4 fC_unsureWords), (arI rC_unsureWorths kC_unsureWorths 4 fC_unsureWorths), (oc4 oL rL_values rL_supposed), (arI rL_values kL_values 18 f_5893), (arI rL_supposed kL_supposed 18 f_5894)] H → va_D A [(oc6 oK oR oC oS oT rK_images iK_imageCount oA oH oL x_5889 iK_latestFault iK_latestPlace), (oc1 oC iC_nodes iC_words iC_chances iC_unsures iC_slips iC_throneNode iC_saidWorth iC_unit rC_kind rC_parts rC_partNodes rC_weights rC_weightSums rC_toldWorths rC_steps rC_below rC_above rC_unsureWords rC_unsureWorths), (arI rC_kind kC_kind 18 fC_kind), (arI rC_parts kC_parts 18 fC_parts), (arI rC_partNodes kC_partNodes 72 fC_partNodes), (arI rC_weights kC_weights 72 fC_weights), (arI rC_weightSums kC_weightSums 18 fC_weightSums), (arI rC_toldWorths kC_toldWorths 18 fC_toldWorths), (arI rC_unsureWords kC_unsureWords 4 fC_unsureWords), (arI rC_unsureWorths kC_unsureWorths 4 fC_unsureWorths), (oc4 oL rL_values rL_supposed), (arI rL_values kL_values 18 f_5893), (arI rL_supposed kL_supposed 18 f_5894)] → va_S A s.heap H locs → lv_has ls 4 [(3, .int z_5899), (2, .int z_5900), (1, .int x_5895), (0, .ref oK)] → W p l e (headSpec (Cond.code yX6_surely cX6_surely 4 (some .int) :: wG) ({ frames := 5, cells := 0, slots := 0, locals := 118 })).room s m ([.ref oK] : List Value).toArray below meth c H locs 0 0 (MQ below (va_Qi (fun (r : Int32) (u : Nat) => (True ∧ True) ∧ r = Int32.ofNat u) (fun (u : Nat) (t : State) => ∃ (niK_refusal : Int32) (nfL_values : Nat → Int32) (nfL_supposed : Nat → Int32), (PX6_surely iC_nodes iC_unsures iC_throneNode iC_saidWorth iC_unit fC_kind fC_parts fC_partNodes fC_weights fC_weightSums fC_toldWorths fC_unsureWords fC_unsureWorths fL_values fL_supposed = (Int32.ofNat u, niK_refusal, nfL_values, nfL_supposed)) ∧ Bw dC dI A [(oc6 oK oR oC oS oT rK_images iK_imageCount oA oH oL niK_refusal iK_latestFault iK_latestPlace), (oc1 oC iC_nodes iC_words iC_chances iC_unsures iC_slips iC_throneNode iC_saidWorth iC_unit rC_kind rC_parts rC_partNodes rC_weights rC_weightSums rC_toldWorths rC_steps rC_below rC_above rC_unsureWords rC_unsureWorths), (arI rC_kind kC_kind 18 fC_kind), (arI rC_parts kC_parts 18 fC_parts), (arI rC_partNodes kC_partNodes 72 fC_partNodes), (arI rC_weights kC_weights 72 fC_weights), (arI rC_weightSums kC_weightSums 18 fC_weightSums), (arI rC_toldWorths kC_toldWorths 18 fC_toldWorths), (arI rC_unsureWords kC_unsureWords 4 fC_unsureWords), (arI rC_unsureWorths kC_unsureWorths 4 fC_unsureWorths), (oc4 oL rL_values rL_supposed), (arI rL_values kL_values 18 nfL_values), (arI rL_supposed kL_supposed 18 nfL_supposed)] [(kC_kind, .int), (kC_parts, .int), (kC_partNodes, .int), (kC_weights, .int), (kC_weightSums, .int), (kC_toldWorths, .int), (kC_unsureWords, .int), (kC_unsureWorths, .int), (kL_values, .int), (kL_supposed, .int)] t) A) ([.ref oK] : List Value).toArray s 0 0 A) (F0 m 34 ls []) := by
        intro n_5901
        induction n_5901 with
        | zero => intro z_5899 z_5900 H locs ls hi0_n_5901 hm; exact absurd hm (Nat.not_lt_zero _)
        | succ n_5901 ih_n_5901 =>
          intro z_5899 z_5900 H locs ls hi0_n_5901 hm_n_5901 hG hP hD hS hl
          have hG := hG.trans (HX6_surely_0_eq _ _ _ _ _ _ _ _)
          have rg_z_5899 := fb_rng z_5899
          have rg_z_5900 := fb_rng z_5900
          refine lv_iload_n hx hb dX6_surely_34 rfl (lv_at hl 0 rfl) ?_
          refine lv_aload_n hx hb dX6_surely_35 rfl (lv_at hl 3 rfl) ?_
          refine va_get (D := (dC, dI)) (ci := 6) (v := .ref oC) (C := RX6) (T := TX6) (N := 12) hx hb hts inX6 hown hK hP 0 rfl rfl 1 (by decide) (hts _ wd_20) (fun _ h9 => h9) rfl dX6_surely_36 ?_
          have hMs := ml_of hD [false, true, false, false, false, false, false, false, false, false, false, false, false] (wc := [(oc1 oC iC_nodes iC_words iC_chances iC_unsures iC_slips iC_throneNode iC_saidWorth iC_unit rC_kind rC_parts rC_partNodes rC_weights rC_weightSums rC_toldWorths rC_steps rC_below rC_above rC_unsureWords rC_unsureWorths)]) rfl
          have hFc := va_freeM hD hS hA _ hMs
          refine va_calli (va_runV (As := []) (rest := [.int z_5899]) ⟨hx, hb, hml, hown, hts⟩ (tX1_unsureSets l dC dI _ oC iC_nodes iC_words iC_chances iC_unsures iC_slips iC_throneNode iC_saidWorth iC_unit rC_kind rC_parts rC_partNodes rC_weights rC_weightSums rC_toldWorths rC_steps rC_below rC_above rC_unsureWords rC_unsureWorths b_iC_nodes b_iC_unsures b_iC_throneNode) (cwV 0 hts (wd_V wd_1165 wd_1166 wd_1167 wd_19 (wd_c wd_1168)) rfl rfl rfl dv_yX1_unsureSets_0 ⟨Nat.le_of_ble_eq_true rfl, Nat.le_of_ble_eq_true rfl⟩) ⟨Pw.fb, recvX1 hK hP (q0 := 1) rfl, fun U hU hW => Pw.to (hP.ms _ hMs) (hD.ms _ hMs) (hK.ms [false, false, false, false, false, false, false, false, false, false] rfl) hE hS hFc hU hW⟩ rfl rfl hl.1 rfl (lv_room (Nat.le_of_ble_eq_true rfl)) dX6_surely_39 ⟨Nat.le_of_ble_eq_true rfl, Nat.le_of_ble_eq_true rfl⟩) hS (fun q _ h => hFc q h) hFc (fun r u t H locs ht hvm hw hB hz1 hk1 hS => ?_)
          have hru9 := hw.2
          have hw := hw.1
          obtain ⟨hP, hD⟩ := Bw.goN (ws' := [(oc6 oK oR oC oS oT rK_images iK_imageCount oA oH oL x_5889 iK_latestFault iK_latestPlace), (oc1 oC iC_nodes iC_words iC_chances iC_unsures iC_slips iC_throneNode iC_saidWorth iC_unit rC_kind rC_parts rC_partNodes rC_weights rC_weightSums rC_toldWorths rC_steps rC_below rC_above rC_unsureWords rC_unsureWorths), (arI rC_kind kC_kind 18 fC_kind), (arI rC_parts kC_parts 18 fC_parts), (arI rC_partNodes kC_partNodes 72 fC_partNodes), (arI rC_weights kC_weights 72 fC_weights), (arI rC_weightSums kC_weightSums 18 fC_weightSums), (arI rC_toldWorths kC_toldWorths 18 fC_toldWorths), (arI rC_unsureWords kC_unsureWords 4 fC_unsureWords), (arI rC_unsureWorths kC_unsureWorths 4 fC_unsureWorths), (oc4 oL rL_values rL_supposed), (arI rL_values kL_values 18 f_5893), (arI rL_supposed kL_supposed 18 f_5894)]) hB rfl ht hP hD _ hMs hk1 hFc rfl
          clear hz1 hk1 hvm ht hB hMs
          obtain ⟨x_5902, rfl⟩ : ∃ z, z = r := ⟨_, rfl⟩
          have hG := hG.trans (lt_eq hru9.symm)
          have rg_x_5902 := fb_rng x_5902
          have ux_5902 := hw.2
          refine lv_icmp_ge (tgt := 64) hx hb dX6_surely_42 (by decide) (fun c_5903 => ?_) (fun c_5903 => ?_)
          · skip
            have hG := hG.trans (if_pos c_5903)
            have gc_5903 := ti_le c_5903 rfl rfl
            refine lv_iload_n hx hb dX6_surely_64 rfl (lv_at hl 1 rfl) ?_
            exact wq_i hx hb hr (cI z_5900) ⟨⟨trivial, trivial⟩, (cI_of z_5900)⟩ (fun t ht hW => ⟨x_5889, f_5893, f_5894, (cI_tup hG), Bw.to hP hD hK ht hW⟩) hS dX6_surely_65 hlocks
          · skip
            have hG := hG.trans (if_neg c_5903)
            have gc_5903 := ti_nle c_5903 rfl rfl
            refine lv_iload_n hx hb dX6_surely_45 rfl (lv_at hl 2 rfl) ?_
            refine lv_iload_n hx hb dX6_surely_46 rfl (lv_at hl 0 rfl) ?_
            refine lv_ishr hx hb dX6_surely_47 ?_
            refine lv_topi (fun x_5904 ex_5904 => ?_)
            have hG := hG.trans (lt_eq ex_5904)
            have rg_x_5904 := fb_rng x_5904
            refine lv_iconst (v := 1) hx hb dX6_surely_48 (by decide) ?_
            refine lv_iand hx hb dX6_surely_49 ?_
            refine lv_topi (fun x_5905 ex_5905 => ?_)
            have hG := hG.trans (lt_eq ex_5905)
            have rg_x_5905 := fb_rng x_5905
            refine lv_iconst (v := 1) hx hb dX6_surely_50 (by decide) ?_
            refine lv_icmp_ne (tgt := 58) hx hb dX6_surely_51 (by decide) (fun c_5906 => ?_) (fun c_5906 => ?_)
            · skip
              have hG := hG.trans (if_neg c_5906)
              have gc_5906 := ti_ne c_5906 rfl kc_1
              obtain ⟨x_5907, ex_5907⟩ : ∃ z : Int32, z = z_5899 + Int32.ofInt 1 := ⟨_, rfl⟩
              have hG := hG.trans (lt_eq ex_5907)
              have vx_5907 : x_5907.toInt = z_5899.toInt + 1 := ti_add (y := 1) ex_5907 rfl kc_1 (om_4e4fce7e hi0_n_5901.1) (om_26fca3fc ux_5902.2 gc_5903)
              refine lv_iinc (v := x_5907) (lv' := [(3, .int x_5907), (2, .int z_5900), (1, .int x_5895), (0, .ref oK)]) hx hb dX6_surely_58 hl (k := 0) rfl ex_5907.symm (by decide) rfl (fun ls hl => ?_)
              refine lv_goto (tgt := 34) hx hb dX6_surely_61 (by decide) ?_
              exact ih_n_5901 x_5907 z_5900 _ _ _  ⟨(om_83b90de5 hi0_n_5901.1 vx_5907), (om_4b156bce ux_5902.2 gc_5903 vx_5907)⟩ (ms_lt hm_n_5901 (om_b9393183 vx_5907) (om_33376cd8 ux_5902.2 gc_5903)) hG hP hD hS (lv_sub hl [0, 1, 2, 3] rfl)
            · skip
              have hG := hG.trans (if_pos c_5906)
              have gc_5906 := ti_eq c_5906 rfl kc_1
              refine lv_iload_n hx hb dX6_surely_54 rfl (lv_at hl 1 rfl) ?_
              refine lv_iload_n hx hb dX6_surely_55 rfl (lv_at hl 0 rfl) ?_
              refine lv_iand hx hb dX6_surely_56 ?_
              refine lv_topi (fun x_5908 ex_5908 => ?_)
              have hG := hG.trans (lt_eq ex_5908)
              have rg_x_5908 := fb_rng x_5908
              refine lv_istore_n (lv' := [(2, .int x_5908), (3, .int z_5899), (1, .int x_5895), (0, .ref oK)]) hx hb dX6_surely_57 rfl hl (by decide) rfl (fun ls hl => ?_)
              obtain ⟨x_5909, ex_5909⟩ : ∃ z : Int32, z = z_5899 + Int32.ofInt 1 := ⟨_, rfl⟩
              have hG := hG.trans (lt_eq ex_5909)
              have vx_5909 : x_5909.toInt = z_5899.toInt + 1 := ti_add (y := 1) ex_5909 rfl kc_1 (om_4e4fce7e hi0_n_5901.1) (om_26fca3fc ux_5902.2 gc_5903)
              refine lv_iinc (v := x_5909) (lv' := [(3, .int x_5909), (2, .int x_5908), (1, .int x_5895), (0, .ref oK)]) hx hb dX6_surely_58 hl (k := 1) rfl ex_5909.symm (by decide) rfl (fun ls hl => ?_)
              refine lv_goto (tgt := 34) hx hb dX6_surely_61 (by decide) ?_
              exact ih_n_5901 x_5909 x_5908 _ _ _  ⟨(om_83b90de5 hi0_n_5901.1 vx_5909), (om_4b156bce ux_5902.2 gc_5903 vx_5909)⟩ (ms_lt hm_n_5901 (om_b9393183 vx_5909) (om_33376cd8 ux_5902.2 gc_5903)) hG hP hD hS (lv_sub hl [0, 1, 2, 3] rfl)
      exact key_n_5901 (((2147483647 - (0 : Int32).toInt).toNat) + 1) 0 x_5898 _ _ _  ⟨(om_b1de7dbe kc_0), (om_daf17c64 kc_0)⟩ (Nat.lt_add_one _) hG hP hD hS hl
    · skip
      have hG := hG.trans (if_pos c_5896)
      have gc_5896 := ti_eq c_5896 rfl kc_0
      refine lv_iconst (v := 0) hx hb dX6_surely_18 (by decide) ?_
      refine lv_goto (tgt := 31) hx hb dX6_surely_19 (by decide) ?_
      refine lv_istore_n (lv' := [(2, .int 0), (1, .int x_5895), (0, .ref oK)]) hx hb dX6_surely_31 rfl hl (by decide) rfl (fun ls hl => ?_)
      refine lv_iconst (v := 0) hx hb dX6_surely_32 (by decide) ?_
      refine lv_istore_n (lv' := [(3, .int 0), (2, .int 0), (1, .int x_5895), (0, .ref oK)]) hx hb dX6_surely_33 rfl hl (by decide) rfl (fun ls hl => ?_)
      have hl := lv_sub hl (l' := [(3, .int 0), (2, .int 0), (1, .int x_5895), (0, .ref oK)]) [0, 1, 2, 3] rfl
      have key_n_5912 : ∀ (n_5912 : Nat) (z_5910 : Int32) (z_5911 : Int32) (H : Heap) (locs : List Loc) (ls : Array Slot), (0 ≤ z_5910.toInt ∧ z_5910.toInt ≤ 2147483647) → (2147483647 - z_5910.toInt).toNat < n_5912 → (PX6_surely iC_nodes iC_unsures iC_throneNode iC_saidWorth iC_unit fC_kind fC_parts fC_partNodes fC_weights fC_weightSums fC_toldWorths fC_unsureWords fC_unsureWorths fL_values fL_supposed = HX6_surely_0 iC_unsures x_5889 f_5893 f_5894 x_5895 n_5912 z_5910 z_5911) → va_P (dC, dI) vwCl [(oc6 oK oR oC oS oT rK_images iK_imageCount oA oH oL x_5889 iK_latestFault iK_latestPlace), (oc1 oC iC_nodes iC_words iC_chances iC_unsures iC_slips iC_throneNode iC_saidWorth iC_unit rC_kind rC_parts rC_partNodes rC_weights rC_weightSums rC_toldWorths rC_steps rC_below rC_above rC_unsureWords rC_unsureWorths), (arI rC_kind kC_kind 18 fC_kind), (arI rC_parts kC_parts 18 fC_parts), (arI rC_partNodes kC_partNodes 72 fC_partNodes), (arI rC_weights kC_weights 72 fC_weights), (arI rC_weightSums kC_weightSums 18 fC_weightSums), (arI rC_toldWorths kC_toldWorths 18 fC_toldWorths), (arI rC_unsureWords kC_unsureWords 4 fC_unsureWords), (arI rC_unsureWorths kC_unsureWorths 4 fC_unsureWorths), (oc4 oL rL_values rL_supposed), (arI rL_values kL_values 18 f_5893), (arI rL_supposed kL_supposed 18 f_5894)] H → va_D A [(oc6 oK oR oC oS oT rK_images iK_imageCount oA oH oL x_5889 iK_latestFault iK_latestPlace), (oc1 oC iC_nodes iC_words iC_chances iC_unsures iC_slips iC_throneNode iC_saidWorth iC_unit rC_kind rC_parts rC_partNodes rC_weights rC_weightSums rC_toldWorths rC_steps rC_below rC_above rC_unsureWords rC_unsureWorths), (arI rC_kind kC_kind 18 fC_kind), (arI rC_parts kC_parts 18 fC_parts), (arI rC_partNodes kC_partNodes 72 fC_partNodes), (arI rC_weights kC_weights 72 fC_weights), (arI rC_weightSums kC_weightSums 18 fC_weightSums), (arI rC_toldWorths kC_toldWorths 18 fC_toldWorths), (arI rC_unsureWords kC_unsureWords 4 fC_unsureWords), (arI rC_unsureWorths kC_unsureWorths 4 fC_unsureWorths), (oc4 oL rL_values rL_supposed), (arI rL_values kL_values 18 f_5893), (arI rL_supposed kL_supposed 18 f_5894)] → va_S A s.heap H locs → lv_has ls 4 [(3, .int z_5910), (2, .int z_5911), (1, .int x_5895), (0, .ref oK)] → W p l e (headSpec (Cond.code yX6_surely cX6_surely 4 (some .int) :: wG) ({ frames := 5, cells := 0, slots := 0, locals := 118 })).room s m ([.ref oK] : List Value).toArray below meth c H locs 0 0 (MQ below (va_Qi (fun (r : Int32) (u : Nat) => (True ∧ True) ∧ r = Int32.ofNat u) (fun (u : Nat) (t : State) => ∃ (niK_refusal : Int32) (nfL_values : Nat → Int32) (nfL_supposed : Nat → Int32), (PX6_surely iC_nodes iC_unsures iC_throneNode iC_saidWorth iC_unit fC_kind fC_parts fC_partNodes fC_weights fC_weightSums fC_toldWorths fC_unsureWords fC_unsureWorths fL_values fL_supposed = (Int32.ofNat u, niK_refusal, nfL_values, nfL_supposed)) ∧ Bw dC dI A [(oc6 oK oR oC oS oT rK_images iK_imageCount oA oH oL niK_refusal iK_latestFault iK_latestPlace), (oc1 oC iC_nodes iC_words iC_chances iC_unsures iC_slips iC_throneNode iC_saidWorth iC_unit rC_kind rC_parts rC_partNodes rC_weights rC_weightSums rC_toldWorths rC_steps rC_below rC_above rC_unsureWords rC_unsureWorths), (arI rC_kind kC_kind 18 fC_kind), (arI rC_parts kC_parts 18 fC_parts), (arI rC_partNodes kC_partNodes 72 fC_partNodes), (arI rC_weights kC_weights 72 fC_weights), (arI rC_weightSums kC_weightSums 18 fC_weightSums), (arI rC_toldWorths kC_toldWorths 18 fC_toldWorths), (arI rC_unsureWords kC_unsureWords 4 fC_unsureWords), (arI rC_unsureWorths kC_unsureWorths 4 fC_unsureWorths), (oc4 oL rL_values rL_supposed), (arI rL_values kL_values 18 nfL_values), (arI rL_supposed kL_supposed 18 nfL_supposed)] [(kC_kind, .int), (kC_parts, .int), (kC_partNodes, .int), (kC_weights, .int), (kC_weightSums, .int), (kC_toldWorths, .int), (kC_unsureWords, .int), (kC_unsureWorths, .int), (kL_values, .int), (kL_supposed, .int)] t) A) ([.ref oK] : List Value).toArray s 0 0 A) (F0 m 34 ls []) := by
        intro n_5912
        induction n_5912 with
        | zero => intro z_5910 z_5911 H locs ls hi0_n_5912 hm; exact absurd hm (Nat.not_lt_zero _)
        | succ n_5912 ih_n_5912 =>
          intro z_5910 z_5911 H locs ls hi0_n_5912 hm_n_5912 hG hP hD hS hl
          have hG := hG.trans (HX6_surely_0_eq _ _ _ _ _ _ _ _)
          have rg_z_5910 := fb_rng z_5910
          have rg_z_5911 := fb_rng z_5911
          refine lv_iload_n hx hb dX6_surely_34 rfl (lv_at hl 0 rfl) ?_
          refine lv_aload_n hx hb dX6_surely_35 rfl (lv_at hl 3 rfl) ?_
          refine va_get (D := (dC, dI)) (ci := 6) (v := .ref oC) (C := RX6) (T := TX6) (N := 12) hx hb hts inX6 hown hK hP 0 rfl rfl 1 (by decide) (hts _ wd_20) (fun _ h9 => h9) rfl dX6_surely_36 ?_
          have hMs := ml_of hD [false, true, false, false, false, false, false, false, false, false, false, false, false] (wc := [(oc1 oC iC_nodes iC_words iC_chances iC_unsures iC_slips iC_throneNode iC_saidWorth iC_unit rC_kind rC_parts rC_partNodes rC_weights rC_weightSums rC_toldWorths rC_steps rC_below rC_above rC_unsureWords rC_unsureWorths)]) rfl
          have hFc := va_freeM hD hS hA _ hMs
          refine va_calli (va_runV (As := []) (rest := [.int z_5910]) ⟨hx, hb, hml, hown, hts⟩ (tX1_unsureSets l dC dI _ oC iC_nodes iC_words iC_chances iC_unsures iC_slips iC_throneNode iC_saidWorth iC_unit rC_kind rC_parts rC_partNodes rC_weights rC_weightSums rC_toldWorths rC_steps rC_below rC_above rC_unsureWords rC_unsureWorths b_iC_nodes b_iC_unsures b_iC_throneNode) (cwV 0 hts (wd_V wd_1165 wd_1166 wd_1167 wd_19 (wd_c wd_1168)) rfl rfl rfl dv_yX1_unsureSets_0 ⟨Nat.le_of_ble_eq_true rfl, Nat.le_of_ble_eq_true rfl⟩) ⟨Pw.fb, recvX1 hK hP (q0 := 1) rfl, fun U hU hW => Pw.to (hP.ms _ hMs) (hD.ms _ hMs) (hK.ms [false, false, false, false, false, false, false, false, false, false] rfl) hE hS hFc hU hW⟩ rfl rfl hl.1 rfl (lv_room (Nat.le_of_ble_eq_true rfl)) dX6_surely_39 ⟨Nat.le_of_ble_eq_true rfl, Nat.le_of_ble_eq_true rfl⟩) hS (fun q _ h => hFc q h) hFc (fun r u t H locs ht hvm hw hB hz1 hk1 hS => ?_)
          have hru9 := hw.2
          have hw := hw.1
          obtain ⟨hP, hD⟩ := Bw.goN (ws' := [(oc6 oK oR oC oS oT rK_images iK_imageCount oA oH oL x_5889 iK_latestFault iK_latestPlace), (oc1 oC iC_nodes iC_words iC_chances iC_unsures iC_slips iC_throneNode iC_saidWorth iC_unit rC_kind rC_parts rC_partNodes rC_weights rC_weightSums rC_toldWorths rC_steps rC_below rC_above rC_unsureWords rC_unsureWorths), (arI rC_kind kC_kind 18 fC_kind), (arI rC_parts kC_parts 18 fC_parts), (arI rC_partNodes kC_partNodes 72 fC_partNodes), (arI rC_weights kC_weights 72 fC_weights), (arI rC_weightSums kC_weightSums 18 fC_weightSums), (arI rC_toldWorths kC_toldWorths 18 fC_toldWorths), (arI rC_unsureWords kC_unsureWords 4 fC_unsureWords), (arI rC_unsureWorths kC_unsureWorths 4 fC_unsureWorths), (oc4 oL rL_values rL_supposed), (arI rL_values kL_values 18 f_5893), (arI rL_supposed kL_supposed 18 f_5894)]) hB rfl ht hP hD _ hMs hk1 hFc rfl
          clear hz1 hk1 hvm ht hB hMs
          obtain ⟨x_5913, rfl⟩ : ∃ z, z = r := ⟨_, rfl⟩
          have hG := hG.trans (lt_eq hru9.symm)
          have rg_x_5913 := fb_rng x_5913
          have ux_5913 := hw.2
          refine lv_icmp_ge (tgt := 64) hx hb dX6_surely_42 (by decide) (fun c_5914 => ?_) (fun c_5914 => ?_)
          · skip
            have hG := hG.trans (if_pos c_5914)
            have gc_5914 := ti_le c_5914 rfl rfl
            refine lv_iload_n hx hb dX6_surely_64 rfl (lv_at hl 1 rfl) ?_
            exact wq_i hx hb hr (cI z_5911) ⟨⟨trivial, trivial⟩, (cI_of z_5911)⟩ (fun t ht hW => ⟨x_5889, f_5893, f_5894, (cI_tup hG), Bw.to hP hD hK ht hW⟩) hS dX6_surely_65 hlocks
          · skip
            have hG := hG.trans (if_neg c_5914)
            have gc_5914 := ti_nle c_5914 rfl rfl
            refine lv_iload_n hx hb dX6_surely_45 rfl (lv_at hl 2 rfl) ?_
            refine lv_iload_n hx hb dX6_surely_46 rfl (lv_at hl 0 rfl) ?_
            refine lv_ishr hx hb dX6_surely_47 ?_
            refine lv_topi (fun x_5915 ex_5915 => ?_)
            have hG := hG.trans (lt_eq ex_5915)
            have rg_x_5915 := fb_rng x_5915
            refine lv_iconst (v := 1) hx hb dX6_surely_48 (by decide) ?_
            refine lv_iand hx hb dX6_surely_49 ?_
            refine lv_topi (fun x_5916 ex_5916 => ?_)
            have hG := hG.trans (lt_eq ex_5916)
            have rg_x_5916 := fb_rng x_5916
            refine lv_iconst (v := 1) hx hb dX6_surely_50 (by decide) ?_
            refine lv_icmp_ne (tgt := 58) hx hb dX6_surely_51 (by decide) (fun c_5917 => ?_) (fun c_5917 => ?_)
            · skip
              have hG := hG.trans (if_neg c_5917)
              have gc_5917 := ti_ne c_5917 rfl kc_1
              obtain ⟨x_5918, ex_5918⟩ : ∃ z : Int32, z = z_5910 + Int32.ofInt 1 := ⟨_, rfl⟩
              have hG := hG.trans (lt_eq ex_5918)
              have vx_5918 : x_5918.toInt = z_5910.toInt + 1 := ti_add (y := 1) ex_5918 rfl kc_1 (om_4e4fce7e hi0_n_5912.1) (om_26fca3fc ux_5913.2 gc_5914)
              refine lv_iinc (v := x_5918) (lv' := [(3, .int x_5918), (2, .int z_5911), (1, .int x_5895), (0, .ref oK)]) hx hb dX6_surely_58 hl (k := 0) rfl ex_5918.symm (by decide) rfl (fun ls hl => ?_)
              refine lv_goto (tgt := 34) hx hb dX6_surely_61 (by decide) ?_
              exact ih_n_5912 x_5918 z_5911 _ _ _  ⟨(om_83b90de5 hi0_n_5912.1 vx_5918), (om_4b156bce ux_5913.2 gc_5914 vx_5918)⟩ (ms_lt hm_n_5912 (om_b9393183 vx_5918) (om_33376cd8 ux_5913.2 gc_5914)) hG hP hD hS (lv_sub hl [0, 1, 2, 3] rfl)
            · skip
              have hG := hG.trans (if_pos c_5917)
              have gc_5917 := ti_eq c_5917 rfl kc_1
              refine lv_iload_n hx hb dX6_surely_54 rfl (lv_at hl 1 rfl) ?_
              refine lv_iload_n hx hb dX6_surely_55 rfl (lv_at hl 0 rfl) ?_
              refine lv_iand hx hb dX6_surely_56 ?_
              refine lv_topi (fun x_5919 ex_5919 => ?_)
              have hG := hG.trans (lt_eq ex_5919)
              have rg_x_5919 := fb_rng x_5919
              refine lv_istore_n (lv' := [(2, .int x_5919), (3, .int z_5910), (1, .int x_5895), (0, .ref oK)]) hx hb dX6_surely_57 rfl hl (by decide) rfl (fun ls hl => ?_)
              obtain ⟨x_5920, ex_5920⟩ : ∃ z : Int32, z = z_5910 + Int32.ofInt 1 := ⟨_, rfl⟩
              have hG := hG.trans (lt_eq ex_5920)
              have vx_5920 : x_5920.toInt = z_5910.toInt + 1 := ti_add (y := 1) ex_5920 rfl kc_1 (om_4e4fce7e hi0_n_5912.1) (om_26fca3fc ux_5913.2 gc_5914)
              refine lv_iinc (v := x_5920) (lv' := [(3, .int x_5920), (2, .int x_5919), (1, .int x_5895), (0, .ref oK)]) hx hb dX6_surely_58 hl (k := 1) rfl ex_5920.symm (by decide) rfl (fun ls hl => ?_)
              refine lv_goto (tgt := 34) hx hb dX6_surely_61 (by decide) ?_
              exact ih_n_5912 x_5920 x_5919 _ _ _  ⟨(om_83b90de5 hi0_n_5912.1 vx_5920), (om_4b156bce ux_5913.2 gc_5914 vx_5920)⟩ (ms_lt hm_n_5912 (om_b9393183 vx_5920) (om_33376cd8 ux_5913.2 gc_5914)) hG hP hD hS (lv_sub hl [0, 1, 2, 3] rfl)
      exact key_n_5912 (((2147483647 - (0 : Int32).toInt).toNat) + 1) 0 0 _ _ _  ⟨(om_b1de7dbe kc_0), (om_daf17c64 kc_0)⟩ (Nat.lt_add_one _) hG hP hD hS hl
  · skip
    have hG := hG.trans (un2_eq e_x_5889_0)
    have hG := hG.trans (if_neg (by decide))
    refine lv_if_eq (tgt := 9) hx hb dX6_surely_4 (by decide) (fun c => absurd c (by decide)) (fun _ => ?_)
    refine lv_iconst (v := (-1)) hx hb dX6_surely_7 (by decide) ?_
    exact wq_i hx hb hr (cI (-1)) ⟨⟨trivial, trivial⟩, (cI_of (-1))⟩ (fun t ht hW => ⟨x_5889, fL_values, fL_supposed, (cI_tup hG), Bw.to hP hD hK ht hW⟩) hS dX6_surely_8 hlocks
set_option maxHeartbeats 4000000 in
set_option maxRecDepth 100000 in
theorem tX6_ask (l : Launch) (dC : Nat → ClassId) (dI : Nat → Nat → Nat) (sz : Nat) (oK : Nat) (oR : Nat) (oC : Nat) (oS : Nat) (oT : Nat) (rK_images : Nat) (iK_imageCount : Int32) (oA : Nat) (oH : Nat) (oL : Nat) (iK_refusal : Int32) (iK_latestFault : Int32) (iK_latestPlace : Int32) (iC_nodes : Int32) (iC_words : Int32) (iC_chances : Int32) (iC_unsures : Int32) (iC_slips : Int32) (iC_throneNode : Int32) (iC_saidWorth : Int32) (iC_unit : Int32) (rC_kind : Nat) (fC_kind : Nat → Int32) (kC_kind : ClassId) (rC_parts : Nat) (fC_parts : Nat → Int32) (kC_parts : ClassId) (rC_partNodes : Nat) (fC_partNodes : Nat → Int32) (kC_partNodes : ClassId) (rC_weights : Nat) (fC_weights : Nat → Int32) (kC_weights : ClassId) (rC_weightSums : Nat) (fC_weightSums : Nat → Int32) (kC_weightSums : ClassId) (rC_toldWorths : Nat) (fC_toldWorths : Nat → Int32) (kC_toldWorths : ClassId) (rC_steps : Nat) (rC_below : Nat) (rC_above : Nat) (rC_unsureWords : Nat) (fC_unsureWords : Nat → Int32) (kC_unsureWords : ClassId) (rC_unsureWorths : Nat) (fC_unsureWorths : Nat → Int32) (kC_unsureWorths : ClassId) (rL_values : Nat) (fL_values : Nat → Int32) (kL_values : ClassId) (rL_supposed : Nat) (fL_supposed : Nat → Int32) (kL_supposed : ClassId) (b_iK_imageCount : 0 ≤ iK_imageCount.toInt ∧ iK_imageCount.toInt ≤ 3) (b_iC_nodes : 0 ≤ iC_nodes.toInt ∧ iC_nodes.toInt ≤ 18) (b_iC_unsures : 0 ≤ iC_unsures.toInt ∧ iC_unsures.toInt ≤ 4) (b_iC_throneNode : (-1) ≤ iC_throneNode.toInt ∧ iC_throneNode.toInt ≤ 17) (a_fC_parts : ∀ j : Nat, j < 18 → 0 ≤ (fC_parts j).toInt ∧ (fC_parts j).toInt ≤ 4) (a_fC_partNodes : ∀ j : Nat, j < 72 → 0 ≤ (fC_partNodes j).toInt ∧ (fC_partNodes j).toInt ≤ 17) (a_fC_unsureWords : ∀ j : Nat, j < 4 → 0 ≤ (fC_unsureWords j).toInt ∧ (fC_unsureWords j).toInt ≤ 17)  : Met l yX6_ask (Cond.code yX6_ask cX6_ask 3 (some .int) :: wG) ({ frames := 5, cells := 0, slots := 0, locals := 118 }) (va_Pc [.ref oK] (Pw dC dI sz [(oc6 oK oR oC oS oT rK_images iK_imageCount oA oH oL iK_refusal iK_latestFault iK_latestPlace), (oc1 oC iC_nodes iC_words iC_chances iC_unsures iC_slips iC_throneNode iC_saidWorth iC_unit rC_kind rC_parts rC_partNodes rC_weights rC_weightSums rC_toldWorths rC_steps rC_below rC_above rC_unsureWords rC_unsureWorths), (arI rC_kind kC_kind 18 fC_kind), (arI rC_parts kC_parts 18 fC_parts), (arI rC_partNodes kC_partNodes 72 fC_partNodes), (arI rC_weights kC_weights 72 fC_weights), (arI rC_weightSums kC_weightSums 18 fC_weightSums), (arI rC_toldWorths kC_toldWorths 18 fC_toldWorths), (arI rC_unsureWords kC_unsureWords 4 fC_unsureWords), (arI rC_unsureWorths kC_unsureWorths 4 fC_unsureWorths), (oc4 oL rL_values rL_supposed), (arI rL_values kL_values 18 fL_values), (arI rL_supposed kL_supposed 18 fL_supposed)] [(kC_kind, .int), (kC_parts, .int), (kC_partNodes, .int), (kC_weights, .int), (kC_weightSums, .int), (kC_toldWorths, .int), (kC_unsureWords, .int), (kC_unsureWorths, .int), (kL_values, .int), (kL_supposed, .int)])) (va_Qi (fun (r : Int32) (_ : Nat) => True ∧ True) (fun (_ : Nat) (t : State) => ∃ (niK_refusal : Int32) (nfL_values : Nat → Int32) (nfL_supposed : Nat → Int32), Bw dC dI (va_A [(oc6 oK oR oC oS oT rK_images iK_imageCount oA oH oL iK_refusal iK_latestFault iK_latestPlace), (oc1 oC iC_nodes iC_words iC_chances iC_unsures iC_slips iC_throneNode iC_saidWorth iC_unit rC_kind rC_parts rC_partNodes rC_weights rC_weightSums rC_toldWorths rC_steps rC_below rC_above rC_unsureWords rC_unsureWorths), (arI rC_kind kC_kind 18 fC_kind), (arI rC_parts kC_parts 18 fC_parts), (arI rC_partNodes kC_partNodes 72 fC_partNodes), (arI rC_weights kC_weights 72 fC_weights), (arI rC_weightSums kC_weightSums 18 fC_weightSums), (arI rC_toldWorths kC_toldWorths 18 fC_toldWorths), (arI rC_unsureWords kC_unsureWords 4 fC_unsureWords), (arI rC_unsureWorths kC_unsureWorths 4 fC_unsureWorths), (oc4 oL rL_values rL_supposed), (arI rL_values kL_values 18 fL_values), (arI rL_supposed kL_supposed 18 fL_supposed)] sz) [(oc6 oK oR oC oS oT rK_images iK_imageCount oA oH oL niK_refusal iK_latestFault iK_latestPlace), (oc1 oC iC_nodes iC_words iC_chances iC_unsures iC_slips iC_throneNode iC_saidWorth iC_unit rC_kind rC_parts rC_partNodes rC_weights rC_weightSums rC_toldWorths rC_steps rC_below rC_above rC_unsureWords rC_unsureWorths), (arI rC_kind kC_kind 18 fC_kind), (arI rC_parts kC_parts 18 fC_parts), (arI rC_partNodes kC_partNodes 72 fC_partNodes), (arI rC_weights kC_weights 72 fC_weights), (arI rC_weightSums kC_weightSums 18 fC_weightSums), (arI rC_toldWorths kC_toldWorths 18 fC_toldWorths), (arI rC_unsureWords kC_unsureWords 4 fC_unsureWords), (arI rC_unsureWorths kC_unsureWorths 4 fC_unsureWorths), (oc4 oL rL_values rL_supposed), (arI rL_values kL_values 18 nfL_values), (arI rL_supposed kL_supposed 18 nfL_supposed)] [(kC_kind, .int), (kC_parts, .int), (kC_partNodes, .int), (kC_weights, .int), (kC_weightSums, .int), (kC_toldWorths, .int), (kC_unsureWords, .int), (kC_unsureWorths, .int), (kL_values, .int), (kL_supposed, .int)] t) (va_A [(oc6 oK oR oC oS oT rK_images iK_imageCount oA oH oL iK_refusal iK_latestFault iK_latestPlace), (oc1 oC iC_nodes iC_words iC_chances iC_unsures iC_slips iC_throneNode iC_saidWorth iC_unit rC_kind rC_parts rC_partNodes rC_weights rC_weightSums rC_toldWorths rC_steps rC_below rC_above rC_unsureWords rC_unsureWorths), (arI rC_kind kC_kind 18 fC_kind), (arI rC_parts kC_parts 18 fC_parts), (arI rC_partNodes kC_partNodes 72 fC_partNodes), (arI rC_weights kC_weights 72 fC_weights), (arI rC_weightSums kC_weightSums 18 fC_weightSums), (arI rC_toldWorths kC_toldWorths 18 fC_toldWorths), (arI rC_unsureWords kC_unsureWords 4 fC_unsureWords), (arI rC_unsureWorths kC_unsureWorths 4 fC_unsureWorths), (oc4 oL rL_values rL_supposed), (arI rL_values kL_values 18 fL_values), (arI rL_supposed kL_supposed 18 fL_supposed)] sz)) 0 0 (va_A [(oc6 oK oR oC oS oT rK_images iK_imageCount oA oH oL iK_refusal iK_latestFault iK_latestPlace), (oc1 oC iC_nodes iC_words iC_chances iC_unsures iC_slips iC_throneNode iC_saidWorth iC_unit rC_kind rC_parts rC_partNodes rC_weights rC_weightSums rC_toldWorths rC_steps rC_below rC_above rC_unsureWords rC_unsureWorths), (arI rC_kind kC_kind 18 fC_kind), (arI rC_parts kC_parts 18 fC_parts), (arI rC_partNodes kC_partNodes 72 fC_partNodes), (arI rC_weights kC_weights 72 fC_weights), (arI rC_weightSums kC_weightSums 18 fC_weightSums), (arI rC_toldWorths kC_toldWorths 18 fC_toldWorths), (arI rC_unsureWords kC_unsureWords 4 fC_unsureWords), (arI rC_unsureWorths kC_unsureWorths 4 fC_unsureWorths), (oc4 oL rL_values rL_supposed), (arI rL_values kL_values 18 fL_values), (arI rL_supposed kL_supposed 18 fL_supposed)] sz) := by
  refine Met.ofW (cc := cX6_ask) (maxL := 3) (ret := (some .int)) pnX6 rfl ?_
  intro p e s m args below meth c s₁ B hml hv
  obtain ⟨rfl, hsz, hP, hK, hD0, hE⟩ := hv
  have hx := B.exec
  have hb := B.bytes
  have hr := B.returns
  have hts : ∀ w ∈ wG, w.before ([.ref oK] : List Value).toArray s = true := fun w h => atoms_spec (ws := Cond.code yX6_ask cX6_ask 3 (some .int) :: wG) B.pre w (List.mem_cons_of_mem _ h)
  have hown : s.vm.findClass RX6 = some m.cls := own_of B.named rfl
  have hlocks := B.notSynchronized
  subst hsz
  have hD := hD0.self (sz := s.heap.size)
  generalize hAe : va_A [(oc6 oK oR oC oS oT rK_images iK_imageCount oA oH oL iK_refusal iK_latestFault iK_latestPlace), (oc1 oC iC_nodes iC_words iC_chances iC_unsures iC_slips iC_throneNode iC_saidWorth iC_unit rC_kind rC_parts rC_partNodes rC_weights rC_weightSums rC_toldWorths rC_steps rC_below rC_above rC_unsureWords rC_unsureWorths), (arI rC_kind kC_kind 18 fC_kind), (arI rC_parts kC_parts 18 fC_parts), (arI rC_partNodes kC_partNodes 72 fC_partNodes), (arI rC_weights kC_weights 72 fC_weights), (arI rC_weightSums kC_weightSums 18 fC_weightSums), (arI rC_toldWorths kC_toldWorths 18 fC_toldWorths), (arI rC_unsureWords kC_unsureWords 4 fC_unsureWords), (arI rC_unsureWorths kC_unsureWorths 4 fC_unsureWorths), (oc4 oL rL_values rL_supposed), (arI rL_values kL_values 18 fL_values), (arI rL_supposed kL_supposed 18 fL_supposed)] s.heap.size = A at hD hE ⊢
  have hA : ∀ q : Nat, s.heap.size ≤ q → A q := fun q h => by rw [← hAe]; exact Or.inr h
  have hS : va_S A s.heap s.heap [] := va_S.rf
  have hl := lv_entry ([.ref oK]) (n := 3) (Nat.le_of_ble_eq_true rfl)
  rw [lg_entry_eq]
  generalize (lg_sl ([.ref oK]) ++ List.replicate (3 - (lg_sl ([.ref oK])).length) Slot.unset).toArray = ls at hl ⊢
  have hl : lv_has ls 3 [(0, .ref oK)] := hl
  refine lv_aload_n hx hb dX6_ask_0 rfl (lv_at hl 0 rfl) ?_
  have hMs := ml_of hD [true, true, false, false, false, false, false, false, false, false, false, false, false] (wc := [(oc6 oK oR oC oS oT rK_images iK_imageCount oA oH oL iK_refusal iK_latestFault iK_latestPlace), (oc1 oC iC_nodes iC_words iC_chances iC_unsures iC_slips iC_throneNode iC_saidWorth iC_unit rC_kind rC_parts rC_partNodes rC_weights rC_weightSums rC_toldWorths rC_steps rC_below rC_above rC_unsureWords rC_unsureWorths)]) rfl
  have hFc := va_freeM hD hS hA _ hMs
  refine va_calli (va_runV (As := []) (rest := []) ⟨hx, hb, hml, hown, hts⟩ (tX6_lacksCourt l dC dI _ oK oR oC oS oT rK_images iK_imageCount oA oH oL iK_refusal iK_latestFault iK_latestPlace iC_nodes iC_words iC_chances iC_unsures iC_slips iC_throneNode iC_saidWorth iC_unit rC_kind rC_parts rC_partNodes rC_weights rC_weightSums rC_toldWorths rC_steps rC_below rC_above rC_unsureWords rC_unsureWorths b_iK_imageCount b_iC_nodes b_iC_unsures b_iC_throneNode) (cwV 0 hts (wd_V wd_596 wd_597 wd_598 wd_2 (wd_c wd_599)) rfl rfl rfl dv_yX6_lacksCourt_0 ⟨Nat.le_of_ble_eq_true rfl, Nat.le_of_ble_eq_true rfl⟩) ⟨Pw.fb, recvX6 hK hP (q0 := 0) rfl, fun U hU hW => Pw.to (hP.ms _ hMs) (hD.ms _ hMs) (hK.ms [false, false, false, false, false, false, false, false, false, false] rfl) hE hS hFc hU hW⟩ rfl rfl hl.1 rfl (lv_room (Nat.le_of_ble_eq_true rfl)) dX6_ask_1 ⟨Nat.le_of_ble_eq_true rfl, Nat.le_of_ble_eq_true rfl⟩) hS (fun q _ h => hFc q h) hFc (fun r u t H locs ht hvm hw hB hz1 hk1 hS => ?_)
  have hru9 := hw.2
  have hw := hw.1
  refine ex_1_2 hB (fun x_5932 b_x_5932 e_x_5932_0 hB => ?_)
  obtain ⟨hP, hD⟩ := Bw.goN (ws' := [(oc6 oK oR oC oS oT rK_images iK_imageCount oA oH oL x_5932 iK_latestFault iK_latestPlace), (oc1 oC iC_nodes iC_words iC_chances iC_unsures iC_slips iC_throneNode iC_saidWorth iC_unit rC_kind rC_parts rC_partNodes rC_weights rC_weightSums rC_toldWorths rC_steps rC_below rC_above rC_unsureWords rC_unsureWorths), (arI rC_kind kC_kind 18 fC_kind), (arI rC_parts kC_parts 18 fC_parts), (arI rC_partNodes kC_partNodes 72 fC_partNodes), (arI rC_weights kC_weights 72 fC_weights), (arI rC_weightSums kC_weightSums 18 fC_weightSums), (arI rC_toldWorths kC_toldWorths 18 fC_toldWorths), (arI rC_unsureWords kC_unsureWords 4 fC_unsureWords), (arI rC_unsureWorths kC_unsureWorths 4 fC_unsureWorths), (oc4 oL rL_values rL_supposed), (arI rL_values kL_values 18 fL_values), (arI rL_supposed kL_supposed 18 fL_supposed)]) hB rfl ht hP hD _ hMs hk1 hFc rfl
  clear hz1 hk1 hvm ht hB hMs
  rcases hw.2 with ⟨rfl, hc_5933⟩ | ⟨rfl, hc_5933⟩
  · skip
    refine lv_if_eq (tgt := 9) hx hb dX6_ask_4 (by decide) (fun _ => ?_) (fun c => absurd c (by decide))
    refine lv_aload_n hx hb dX6_ask_9 rfl (lv_at hl 0 rfl) ?_
    have hFc := va_freeI hD hS hA
    refine va_calli (va_runV (As := []) (rest := []) ⟨hx, hb, hml, hown, hts⟩ (tX6_fittingSets l dC dI _ oK oR oC oS oT rK_images iK_imageCount oA oH oL x_5932 iK_latestFault iK_latestPlace iC_nodes iC_words iC_chances iC_unsures iC_slips iC_throneNode iC_saidWorth iC_unit rC_kind fC_kind kC_kind rC_parts fC_parts kC_parts rC_partNodes fC_partNodes kC_partNodes rC_weights fC_weights kC_weights rC_weightSums fC_weightSums kC_weightSums rC_toldWorths fC_toldWorths kC_toldWorths rC_steps rC_below rC_above rC_unsureWords fC_unsureWords kC_unsureWords rC_unsureWorths fC_unsureWorths kC_unsureWorths rL_values fL_values kL_values rL_supposed fL_supposed kL_supposed b_iK_imageCount b_iC_nodes b_iC_unsures b_iC_throneNode a_fC_parts a_fC_partNodes a_fC_unsureWords) (cwV 0 hts (wd_V wd_1159 wd_1160 wd_1161 wd_2 (wd_c wd_1162)) rfl rfl rfl dv_yX6_fittingSets_0 ⟨Nat.le_of_ble_eq_true rfl, Nat.le_of_ble_eq_true rfl⟩) ⟨Pw.fb, recvX6 hK hP (q0 := 0) rfl, fun U hU hW => Pw.to hP hD hK hE hS hFc hU hW⟩ rfl rfl hl.1 rfl (lv_room (Nat.le_of_ble_eq_true rfl)) dX6_ask_10 ⟨Nat.le_of_ble_eq_true rfl, Nat.le_of_ble_eq_true rfl⟩) hS (fun q _ h => hFc q h) hFc (fun r u t H locs ht hvm hw hB hz1 hk1 hS => ?_)
    have hru9 := hw.2
    have hw := hw.1
    refine ex_2_1 hB (fun f_5935 f_5936 e_f_5935_0 hB => ?_)
    obtain ⟨hP, hD⟩ := Bw.goA (ws' := [(oc6 oK oR oC oS oT rK_images iK_imageCount oA oH oL x_5932 iK_latestFault iK_latestPlace), (oc1 oC iC_nodes iC_words iC_chances iC_unsures iC_slips iC_throneNode iC_saidWorth iC_unit rC_kind rC_parts rC_partNodes rC_weights rC_weightSums rC_toldWorths rC_steps rC_below rC_above rC_unsureWords rC_unsureWorths), (arI rC_kind kC_kind 18 fC_kind), (arI rC_parts kC_parts 18 fC_parts), (arI rC_partNodes kC_partNodes 72 fC_partNodes), (arI rC_weights kC_weights 72 fC_weights), (arI rC_weightSums kC_weightSums 18 fC_weightSums), (arI rC_toldWorths kC_toldWorths 18 fC_toldWorths), (arI rC_unsureWords kC_unsureWords 4 fC_unsureWords), (arI rC_unsureWorths kC_unsureWorths 4 fC_unsureWorths), (oc4 oL rL_values rL_supposed), (arI rL_values kL_values 18 f_5935), (arI rL_supposed kL_supposed 18 f_5936)]) hB rfl ht hFc rfl
    clear hz1 hk1 hvm ht hB
    obtain ⟨x_5937, rfl⟩ : ∃ z, z = r := ⟨_, rfl⟩
    refine lv_istore_n (lv' := [(1, .int x_5937), (0, .ref oK)]) hx hb dX6_ask_13 rfl hl (by decide) rfl (fun ls hl => ?_)
    refine lv_aload_n hx hb dX6_ask_14 rfl (lv_at hl 1 rfl) ?_
    refine lv_iload_n hx hb dX6_ask_15 rfl (lv_at hl 0 rfl) ?_
    have hMs := ml_of hD [true, true, false, false, false, false, false, false, false, false, false, false, false] (wc := [(oc6 oK oR oC oS oT rK_images iK_imageCount oA oH oL x_5932 iK_latestFault iK_latestPlace), (oc1 oC iC_nodes iC_words iC_chances iC_unsures iC_slips iC_throneNode iC_saidWorth iC_unit rC_kind rC_parts rC_partNodes rC_weights rC_weightSums rC_toldWorths rC_steps rC_below rC_above rC_unsureWords rC_unsureWorths)]) rfl
    have hFc := va_freeM hD hS hA _ hMs
    refine va_calli (va_runV (As := [.int x_5937]) (rest := []) ⟨hx, hb, hml, hown, hts⟩ (tX6_unsureToAsk l dC dI _ oK oR oC oS oT rK_images iK_imageCount oA oH oL x_5932 iK_latestFault iK_latestPlace iC_nodes iC_words iC_chances iC_unsures iC_slips iC_throneNode iC_saidWorth iC_unit rC_kind rC_parts rC_partNodes rC_weights rC_weightSums rC_toldWorths rC_steps rC_below rC_above rC_unsureWords rC_unsureWorths x_5937 b_iK_imageCount b_iC_nodes b_iC_unsures b_iC_throneNode) (cwV 1 hts (wd_V wd_1225 wd_1226 wd_1227 wd_2 (wd_c wd_1228)) rfl rfl rfl dv_yX6_unsureToAsk_1 ⟨Nat.le_of_ble_eq_true rfl, Nat.le_of_ble_eq_true rfl⟩) ⟨Pw.fb, recvX6 hK hP (q0 := 0) rfl, fun U hU hW => Pw.to (hP.ms _ hMs) (hD.ms _ hMs) (hK.ms [false, false, false, false, false, false, false, false, false, false] rfl) hE hS hFc hU hW⟩ rfl rfl hl.1 rfl (lv_room (Nat.le_of_ble_eq_true rfl)) dX6_ask_16 ⟨Nat.le_of_ble_eq_true rfl, Nat.le_of_ble_eq_true rfl⟩) hS (fun q _ h => hFc q h) hFc (fun r u t H locs ht hvm hw hB hz1 hk1 hS => ?_)
    have hru9 := hw.2
    have hw := hw.1
    obtain ⟨hP, hD⟩ := Bw.goN (ws' := [(oc6 oK oR oC oS oT rK_images iK_imageCount oA oH oL x_5932 iK_latestFault iK_latestPlace), (oc1 oC iC_nodes iC_words iC_chances iC_unsures iC_slips iC_throneNode iC_saidWorth iC_unit rC_kind rC_parts rC_partNodes rC_weights rC_weightSums rC_toldWorths rC_steps rC_below rC_above rC_unsureWords rC_unsureWorths), (arI rC_kind kC_kind 18 fC_kind), (arI rC_parts kC_parts 18 fC_parts), (arI rC_partNodes kC_partNodes 72 fC_partNodes), (arI rC_weights kC_weights 72 fC_weights), (arI rC_weightSums kC_weightSums 18 fC_weightSums), (arI rC_toldWorths kC_toldWorths 18 fC_toldWorths), (arI rC_unsureWords kC_unsureWords 4 fC_unsureWords), (arI rC_unsureWorths kC_unsureWorths 4 fC_unsureWorths), (oc4 oL rL_values rL_supposed), (arI rL_values kL_values 18 f_5935), (arI rL_supposed kL_supposed 18 f_5936)]) hB rfl ht hP hD _ hMs hk1 hFc rfl
    clear hz1 hk1 hvm ht hB hMs
    obtain ⟨x_5938, rfl⟩ : ∃ z, z = r := ⟨_, rfl⟩
    have ux_5938 := hw.2
    refine lv_istore_n (lv' := [(2, .int x_5938), (1, .int x_5937), (0, .ref oK)]) hx hb dX6_ask_19 rfl hl (by decide) rfl (fun ls hl => ?_)
    refine lv_iload_n hx hb dX6_ask_20 rfl (lv_at hl 0 rfl) ?_
    refine lv_if_ge (tgt := 29) hx hb dX6_ask_21 (by decide) (fun c_5939 => ?_) (fun c_5939 => ?_)
    · skip
      have gc_5939 := ti_le c_5939 kc_0 rfl
      refine lv_aload_n hx hb dX6_ask_29 rfl (lv_at hl 2 rfl) ?_
      refine va_get (D := (dC, dI)) (ci := 6) (v := .ref oC) (C := RX6) (T := TX6) (N := 12) hx hb hts inX6 hown hK hP 0 rfl rfl 1 (by decide) (hts _ wd_20) (fun _ h9 => h9) rfl dX6_ask_30 ?_
      refine va_get (D := (dC, dI)) (ci := 1) (v := .ref rC_unsureWords) (C := RX1) (T := TX1) (N := 19) hx hb hts inX1 hown hK hP 1 rfl rfl 17 (by decide) (hts _ wd_1224) (fun _ h9 => h9) rfl dX6_ask_33 ?_
      refine lv_iload_n hx hb dX6_ask_36 rfl (lv_at hl 0 rfl) ?_
      refine va_iald hx hb hK hP 8 6 rfl rfl (ti_in rfl gc_5939 (om_27df6bf1 ux_5938.2)) dX6_ask_37 ?_
      refine lv_topi (fun x_5940 ex_5940 => ?_)
      have kx_5940 : (fC_unsureWords x_5938.toNatClampNeg).toInt = x_5940.toInt := by rw [ex_5940]
      have ux_5940 := a_fC_unsureWords x_5938.toNatClampNeg (cl_lt rfl gc_5939 (om_27df6bf1 ux_5938.2))
      rw [show fC_unsureWords x_5938.toNatClampNeg = x_5940 from ex_5940.symm] at ux_5940
      exact wq_i hx hb hr 0 ⟨trivial, trivial⟩ (fun t ht hW => ⟨x_5932, f_5935, f_5936, Bw.to hP hD hK ht hW⟩) hS dX6_ask_38 hlocks
    · skip
      have gc_5939 := ti_nle c_5939 kc_0 rfl
      refine lv_bipush (v := (-2)) hx hb dX6_ask_24 (by decide) ?_
      refine lv_goto (tgt := 38) hx hb dX6_ask_26 (by decide) ?_
      exact wq_i hx hb hr 0 ⟨trivial, trivial⟩ (fun t ht hW => ⟨x_5932, f_5935, f_5936, Bw.to hP hD hK ht hW⟩) hS dX6_ask_38 hlocks
  · skip
    refine lv_if_eq (tgt := 9) hx hb dX6_ask_4 (by decide) (fun c => absurd c (by decide)) (fun _ => ?_)
    refine lv_iconst (v := (-1)) hx hb dX6_ask_7 (by decide) ?_
    exact wq_i hx hb hr 0 ⟨trivial, trivial⟩ (fun t ht hW => ⟨x_5932, fL_values, fL_supposed, Bw.to hP hD hK ht hW⟩) hS dX6_ask_8 hlocks
set_option maxHeartbeats 4000000 in
set_option maxRecDepth 100000 in
theorem tX6_askLeaves (l : Launch) (dC : Nat → ClassId) (dI : Nat → Nat → Nat) (sz : Nat) (oK : Nat) (oR : Nat) (oC : Nat) (oS : Nat) (oT : Nat) (rK_images : Nat) (iK_imageCount : Int32) (oA : Nat) (oH : Nat) (oL : Nat) (iK_refusal : Int32) (iK_latestFault : Int32) (iK_latestPlace : Int32) (iC_nodes : Int32) (iC_words : Int32) (iC_chances : Int32) (iC_unsures : Int32) (iC_slips : Int32) (iC_throneNode : Int32) (iC_saidWorth : Int32) (iC_unit : Int32) (rC_kind : Nat) (fC_kind : Nat → Int32) (kC_kind : ClassId) (rC_parts : Nat) (fC_parts : Nat → Int32) (kC_parts : ClassId) (rC_partNodes : Nat) (fC_partNodes : Nat → Int32) (kC_partNodes : ClassId) (rC_weights : Nat) (fC_weights : Nat → Int32) (kC_weights : ClassId) (rC_weightSums : Nat) (fC_weightSums : Nat → Int32) (kC_weightSums : ClassId) (rC_toldWorths : Nat) (fC_toldWorths : Nat → Int32) (kC_toldWorths : ClassId) (rC_steps : Nat) (rC_below : Nat) (rC_above : Nat) (rC_unsureWords : Nat) (fC_unsureWords : Nat → Int32) (kC_unsureWords : ClassId) (rC_unsureWorths : Nat) (fC_unsureWorths : Nat → Int32) (kC_unsureWorths : ClassId) (rL_values : Nat) (fL_values : Nat → Int32) (kL_values : ClassId) (rL_supposed : Nat) (fL_supposed : Nat → Int32) (kL_supposed : ClassId) (b_iK_imageCount : 0 ≤ iK_imageCount.toInt ∧ iK_imageCount.toInt ≤ 3) (b_iC_nodes : 0 ≤ iC_nodes.toInt ∧ iC_nodes.toInt ≤ 18) (b_iC_unsures : 0 ≤ iC_unsures.toInt ∧ iC_unsures.toInt ≤ 4) (b_iC_throneNode : (-1) ≤ iC_throneNode.toInt ∧ iC_throneNode.toInt ≤ 17) (a_fC_parts : ∀ j : Nat, j < 18 → 0 ≤ (fC_parts j).toInt ∧ (fC_parts j).toInt ≤ 4) (a_fC_partNodes : ∀ j : Nat, j < 72 → 0 ≤ (fC_partNodes j).toInt ∧ (fC_partNodes j).toInt ≤ 17) (a_fC_unsureWords : ∀ j : Nat, j < 4 → 0 ≤ (fC_unsureWords j).toInt ∧ (fC_unsureWords j).toInt ≤ 17)  : Met l yX6_askLeaves (Cond.code yX6_askLeaves cX6_askLeaves 3 (some .int) :: wG) ({ frames := 5, cells := 0, slots := 0, locals := 118 }) (va_Pc [.ref oK] (Pw dC dI sz [(oc6 oK oR oC oS oT rK_images iK_imageCount oA oH oL iK_refusal iK_latestFault iK_latestPlace), (oc1 oC iC_nodes iC_words iC_chances iC_unsures iC_slips iC_throneNode iC_saidWorth iC_unit rC_kind rC_parts rC_partNodes rC_weights rC_weightSums rC_toldWorths rC_steps rC_below rC_above rC_unsureWords rC_unsureWorths), (arI rC_kind kC_kind 18 fC_kind), (arI rC_parts kC_parts 18 fC_parts), (arI rC_partNodes kC_partNodes 72 fC_partNodes), (arI rC_weights kC_weights 72 fC_weights), (arI rC_weightSums kC_weightSums 18 fC_weightSums), (arI rC_toldWorths kC_toldWorths 18 fC_toldWorths), (arI rC_unsureWords kC_unsureWords 4 fC_unsureWords), (arI rC_unsureWorths kC_unsureWorths 4 fC_unsureWorths), (oc4 oL rL_values rL_supposed), (arI rL_values kL_values 18 fL_values), (arI rL_supposed kL_supposed 18 fL_supposed)] [(kC_kind, .int), (kC_parts, .int), (kC_partNodes, .int), (kC_weights, .int), (kC_weightSums, .int), (kC_toldWorths, .int), (kC_unsureWords, .int), (kC_unsureWorths, .int), (kL_values, .int), (kL_supposed, .int)])) (va_Qi (fun (r : Int32) (u : Nat) => (True ∧ True) ∧ r = Int32.ofNat u) (fun (u : Nat) (t : State) => ∃ (niK_refusal : Int32) (nfL_values : Nat → Int32) (nfL_supposed : Nat → Int32), (PX6_askLeaves iC_nodes iC_unsures iC_throneNode iC_saidWorth iC_unit fC_kind fC_parts fC_partNodes fC_weights fC_weightSums fC_toldWorths fC_unsureWords fC_unsureWorths fL_values fL_supposed = (Int32.ofNat u, niK_refusal, nfL_values, nfL_supposed)) ∧ Bw dC dI (va_A [(oc6 oK oR oC oS oT rK_images iK_imageCount oA oH oL iK_refusal iK_latestFault iK_latestPlace), (oc1 oC iC_nodes iC_words iC_chances iC_unsures iC_slips iC_throneNode iC_saidWorth iC_unit rC_kind rC_parts rC_partNodes rC_weights rC_weightSums rC_toldWorths rC_steps rC_below rC_above rC_unsureWords rC_unsureWorths), (arI rC_kind kC_kind 18 fC_kind), (arI rC_parts kC_parts 18 fC_parts), (arI rC_partNodes kC_partNodes 72 fC_partNodes), (arI rC_weights kC_weights 72 fC_weights), (arI rC_weightSums kC_weightSums 18 fC_weightSums), (arI rC_toldWorths kC_toldWorths 18 fC_toldWorths), (arI rC_unsureWords kC_unsureWords 4 fC_unsureWords), (arI rC_unsureWorths kC_unsureWorths 4 fC_unsureWorths), (oc4 oL rL_values rL_supposed), (arI rL_values kL_values 18 fL_values), (arI rL_supposed kL_supposed 18 fL_supposed)] sz) [(oc6 oK oR oC oS oT rK_images iK_imageCount oA oH oL niK_refusal iK_latestFault iK_latestPlace), (oc1 oC iC_nodes iC_words iC_chances iC_unsures iC_slips iC_throneNode iC_saidWorth iC_unit rC_kind rC_parts rC_partNodes rC_weights rC_weightSums rC_toldWorths rC_steps rC_below rC_above rC_unsureWords rC_unsureWorths), (arI rC_kind kC_kind 18 fC_kind), (arI rC_parts kC_parts 18 fC_parts), (arI rC_partNodes kC_partNodes 72 fC_partNodes), (arI rC_weights kC_weights 72 fC_weights), (arI rC_weightSums kC_weightSums 18 fC_weightSums), (arI rC_toldWorths kC_toldWorths 18 fC_toldWorths), (arI rC_unsureWords kC_unsureWords 4 fC_unsureWords), (arI rC_unsureWorths kC_unsureWorths 4 fC_unsureWorths), (oc4 oL rL_values rL_supposed), (arI rL_values kL_values 18 nfL_values), (arI rL_supposed kL_supposed 18 nfL_supposed)] [(kC_kind, .int), (kC_parts, .int), (kC_partNodes, .int), (kC_weights, .int), (kC_weightSums, .int), (kC_toldWorths, .int), (kC_unsureWords, .int), (kC_unsureWorths, .int), (kL_values, .int), (kL_supposed, .int)] t) (va_A [(oc6 oK oR oC oS oT rK_images iK_imageCount oA oH oL iK_refusal iK_latestFault iK_latestPlace), (oc1 oC iC_nodes iC_words iC_chances iC_unsures iC_slips iC_throneNode iC_saidWorth iC_unit rC_kind rC_parts rC_partNodes rC_weights rC_weightSums rC_toldWorths rC_steps rC_below rC_above rC_unsureWords rC_unsureWorths), (arI rC_kind kC_kind 18 fC_kind), (arI rC_parts kC_parts 18 fC_parts), (arI rC_partNodes kC_partNodes 72 fC_partNodes), (arI rC_weights kC_weights 72 fC_weights), (arI rC_weightSums kC_weightSums 18 fC_weightSums), (arI rC_toldWorths kC_toldWorths 18 fC_toldWorths), (arI rC_unsureWords kC_unsureWords 4 fC_unsureWords), (arI rC_unsureWorths kC_unsureWorths 4 fC_unsureWorths), (oc4 oL rL_values rL_supposed), (arI rL_values kL_values 18 fL_values), (arI rL_supposed kL_supposed 18 fL_supposed)] sz)) 0 0 (va_A [(oc6 oK oR oC oS oT rK_images iK_imageCount oA oH oL iK_refusal iK_latestFault iK_latestPlace), (oc1 oC iC_nodes iC_words iC_chances iC_unsures iC_slips iC_throneNode iC_saidWorth iC_unit rC_kind rC_parts rC_partNodes rC_weights rC_weightSums rC_toldWorths rC_steps rC_below rC_above rC_unsureWords rC_unsureWorths), (arI rC_kind kC_kind 18 fC_kind), (arI rC_parts kC_parts 18 fC_parts), (arI rC_partNodes kC_partNodes 72 fC_partNodes), (arI rC_weights kC_weights 72 fC_weights), (arI rC_weightSums kC_weightSums 18 fC_weightSums), (arI rC_toldWorths kC_toldWorths 18 fC_toldWorths), (arI rC_unsureWords kC_unsureWords 4 fC_unsureWords), (arI rC_unsureWorths kC_unsureWorths 4 fC_unsureWorths), (oc4 oL rL_values rL_supposed), (arI rL_values kL_values 18 fL_values), (arI rL_supposed kL_supposed 18 fL_supposed)] sz) := by
  refine Met.ofW (cc := cX6_askLeaves) (maxL := 3) (ret := (some .int)) pnX6 rfl ?_
  intro p e s m args below meth c s₁ B hml hv
  obtain ⟨rfl, hsz, hP, hK, hD0, hE⟩ := hv
  have hx := B.exec
  have hb := B.bytes
  have hr := B.returns
  have hts : ∀ w ∈ wG, w.before ([.ref oK] : List Value).toArray s = true := fun w h => atoms_spec (ws := Cond.code yX6_askLeaves cX6_askLeaves 3 (some .int) :: wG) B.pre w (List.mem_cons_of_mem _ h)
  have hown : s.vm.findClass RX6 = some m.cls := own_of B.named rfl
  have hlocks := B.notSynchronized
  subst hsz
  have hD := hD0.self (sz := s.heap.size)
  generalize hAe : va_A [(oc6 oK oR oC oS oT rK_images iK_imageCount oA oH oL iK_refusal iK_latestFault iK_latestPlace), (oc1 oC iC_nodes iC_words iC_chances iC_unsures iC_slips iC_throneNode iC_saidWorth iC_unit rC_kind rC_parts rC_partNodes rC_weights rC_weightSums rC_toldWorths rC_steps rC_below rC_above rC_unsureWords rC_unsureWorths), (arI rC_kind kC_kind 18 fC_kind), (arI rC_parts kC_parts 18 fC_parts), (arI rC_partNodes kC_partNodes 72 fC_partNodes), (arI rC_weights kC_weights 72 fC_weights), (arI rC_weightSums kC_weightSums 18 fC_weightSums), (arI rC_toldWorths kC_toldWorths 18 fC_toldWorths), (arI rC_unsureWords kC_unsureWords 4 fC_unsureWords), (arI rC_unsureWorths kC_unsureWorths 4 fC_unsureWorths), (oc4 oL rL_values rL_supposed), (arI rL_values kL_values 18 fL_values), (arI rL_supposed kL_supposed 18 fL_supposed)] s.heap.size = A at hD hE ⊢
  have hA : ∀ q : Nat, s.heap.size ≤ q → A q := fun q h => by rw [← hAe]; exact Or.inr h
  have hS : va_S A s.heap s.heap [] := va_S.rf
  have hl := lv_entry ([.ref oK]) (n := 3) (Nat.le_of_ble_eq_true rfl)
  rw [lg_entry_eq]
  generalize (lg_sl ([.ref oK]) ++ List.replicate (3 - (lg_sl ([.ref oK])).length) Slot.unset).toArray = ls at hl ⊢
  have hl : lv_has ls 3 [(0, .ref oK)] := hl
  have hG := PX6_askLeaves_eq iC_nodes iC_unsures iC_throneNode iC_saidWorth iC_unit fC_kind fC_parts fC_partNodes fC_weights fC_weightSums fC_toldWorths fC_unsureWords fC_unsureWorths fL_values fL_supposed
  refine lv_aload_n hx hb dX6_askLeaves_0 rfl (lv_at hl 0 rfl) ?_
  have hMs := ml_of hD [true, true, false, false, false, false, false, false, false, false, false, false, false] (wc := [(oc6 oK oR oC oS oT rK_images iK_imageCount oA oH oL iK_refusal iK_latestFault iK_latestPlace), (oc1 oC iC_nodes iC_words iC_chances iC_unsures iC_slips iC_throneNode iC_saidWorth iC_unit rC_kind rC_parts rC_partNodes rC_weights rC_weightSums rC_toldWorths rC_steps rC_below rC_above rC_unsureWords rC_unsureWorths)]) rfl
  have hFc := va_freeM hD hS hA _ hMs
  refine va_calli (va_runV (As := []) (rest := []) ⟨hx, hb, hml, hown, hts⟩ (tX6_lacksCourt l dC dI _ oK oR oC oS oT rK_images iK_imageCount oA oH oL iK_refusal iK_latestFault iK_latestPlace iC_nodes iC_words iC_chances iC_unsures iC_slips iC_throneNode iC_saidWorth iC_unit rC_kind rC_parts rC_partNodes rC_weights rC_weightSums rC_toldWorths rC_steps rC_below rC_above rC_unsureWords rC_unsureWorths b_iK_imageCount b_iC_nodes b_iC_unsures b_iC_throneNode) (cwV 0 hts (wd_V wd_596 wd_597 wd_598 wd_2 (wd_c wd_599)) rfl rfl rfl dv_yX6_lacksCourt_0 ⟨Nat.le_of_ble_eq_true rfl, Nat.le_of_ble_eq_true rfl⟩) ⟨Pw.fb, recvX6 hK hP (q0 := 0) rfl, fun U hU hW => Pw.to (hP.ms _ hMs) (hD.ms _ hMs) (hK.ms [false, false, false, false, false, false, false, false, false, false] rfl) hE hS hFc hU hW⟩ rfl rfl hl.1 rfl (lv_room (Nat.le_of_ble_eq_true rfl)) dX6_askLeaves_1 ⟨Nat.le_of_ble_eq_true rfl, Nat.le_of_ble_eq_true rfl⟩) hS (fun q _ h => hFc q h) hFc (fun r u t H locs ht hvm hw hB hz1 hk1 hS => ?_)
  have hru9 := hw.2
  have hw := hw.1
  refine ex_1_2 hB (fun x_5952 b_x_5952 e_x_5952_0 hB => ?_)
  obtain ⟨hP, hD⟩ := Bw.goN (ws' := [(oc6 oK oR oC oS oT rK_images iK_imageCount oA oH oL x_5952 iK_latestFault iK_latestPlace), (oc1 oC iC_nodes iC_words iC_chances iC_unsures iC_slips iC_throneNode iC_saidWorth iC_unit rC_kind rC_parts rC_partNodes rC_weights rC_weightSums rC_toldWorths rC_steps rC_below rC_above rC_unsureWords rC_unsureWorths), (arI rC_kind kC_kind 18 fC_kind), (arI rC_parts kC_parts 18 fC_parts), (arI rC_partNodes kC_partNodes 72 fC_partNodes), (arI rC_weights kC_weights 72 fC_weights), (arI rC_weightSums kC_weightSums 18 fC_weightSums), (arI rC_toldWorths kC_toldWorths 18 fC_toldWorths), (arI rC_unsureWords kC_unsureWords 4 fC_unsureWords), (arI rC_unsureWorths kC_unsureWorths 4 fC_unsureWorths), (oc4 oL rL_values rL_supposed), (arI rL_values kL_values 18 fL_values), (arI rL_supposed kL_supposed 18 fL_supposed)]) hB rfl ht hP hD _ hMs hk1 hFc rfl
  clear hz1 hk1 hvm ht hB hMs
  rw [← hru9] at e_x_5952_0
  rcases hw.2 with ⟨rfl, hc_5953⟩ | ⟨rfl, hc_5953⟩
  · skip
    have hG := hG.trans (un2_eq e_x_5952_0)
    have hG := hG.trans (if_pos rfl)
    refine lv_if_eq (tgt := 9) hx hb dX6_askLeaves_4 (by decide) (fun _ => ?_) (fun c => absurd c (by decide))
    refine lv_aload_n hx hb dX6_askLeaves_9 rfl (lv_at hl 0 rfl) ?_
    have hFc := va_freeI hD hS hA
    refine va_calli (va_runV (As := []) (rest := []) ⟨hx, hb, hml, hown, hts⟩ (tX6_fittingSets l dC dI _ oK oR oC oS oT rK_images iK_imageCount oA oH oL x_5952 iK_latestFault iK_latestPlace iC_nodes iC_words iC_chances iC_unsures iC_slips iC_throneNode iC_saidWorth iC_unit rC_kind fC_kind kC_kind rC_parts fC_parts kC_parts rC_partNodes fC_partNodes kC_partNodes rC_weights fC_weights kC_weights rC_weightSums fC_weightSums kC_weightSums rC_toldWorths fC_toldWorths kC_toldWorths rC_steps rC_below rC_above rC_unsureWords fC_unsureWords kC_unsureWords rC_unsureWorths fC_unsureWorths kC_unsureWorths rL_values fL_values kL_values rL_supposed fL_supposed kL_supposed b_iK_imageCount b_iC_nodes b_iC_unsures b_iC_throneNode a_fC_parts a_fC_partNodes a_fC_unsureWords) (cwV 0 hts (wd_V wd_1159 wd_1160 wd_1161 wd_2 (wd_c wd_1162)) rfl rfl rfl dv_yX6_fittingSets_0 ⟨Nat.le_of_ble_eq_true rfl, Nat.le_of_ble_eq_true rfl⟩) ⟨Pw.fb, recvX6 hK hP (q0 := 0) rfl, fun U hU hW => Pw.to hP hD hK hE hS hFc hU hW⟩ rfl rfl hl.1 rfl (lv_room (Nat.le_of_ble_eq_true rfl)) dX6_askLeaves_10 ⟨Nat.le_of_ble_eq_true rfl, Nat.le_of_ble_eq_true rfl⟩) hS (fun q _ h => hFc q h) hFc (fun r u t H locs ht hvm hw hB hz1 hk1 hS => ?_)
    have hru9 := hw.2
    have hw := hw.1
    refine ex_2_1 hB (fun f_5956 f_5957 e_f_5956_0 hB => ?_)
    obtain ⟨hP, hD⟩ := Bw.goA (ws' := [(oc6 oK oR oC oS oT rK_images iK_imageCount oA oH oL x_5952 iK_latestFault iK_latestPlace), (oc1 oC iC_nodes iC_words iC_chances iC_unsures iC_slips iC_throneNode iC_saidWorth iC_unit rC_kind rC_parts rC_partNodes rC_weights rC_weightSums rC_toldWorths rC_steps rC_below rC_above rC_unsureWords rC_unsureWorths), (arI rC_kind kC_kind 18 fC_kind), (arI rC_parts kC_parts 18 fC_parts), (arI rC_partNodes kC_partNodes 72 fC_partNodes), (arI rC_weights kC_weights 72 fC_weights), (arI rC_weightSums kC_weightSums 18 fC_weightSums), (arI rC_toldWorths kC_toldWorths 18 fC_toldWorths), (arI rC_unsureWords kC_unsureWords 4 fC_unsureWords), (arI rC_unsureWorths kC_unsureWorths 4 fC_unsureWorths), (oc4 oL rL_values rL_supposed), (arI rL_values kL_values 18 f_5956), (arI rL_supposed kL_supposed 18 f_5957)]) hB rfl ht hFc rfl
    clear hz1 hk1 hvm ht hB
    rw [← hru9] at e_f_5956_0
    obtain ⟨x_5958, rfl⟩ : ∃ z, z = r := ⟨_, rfl⟩
    have hG := hG.trans (un3_eq e_f_5956_0)
    refine lv_istore_n (lv' := [(1, .int x_5958), (0, .ref oK)]) hx hb dX6_askLeaves_13 rfl hl (by decide) rfl (fun ls hl => ?_)
    refine lv_aload_n hx hb dX6_askLeaves_14 rfl (lv_at hl 1 rfl) ?_
    refine lv_iload_n hx hb dX6_askLeaves_15 rfl (lv_at hl 0 rfl) ?_
    have hMs := ml_of hD [true, true, false, false, false, false, false, false, false, false, false, false, false] (wc := [(oc6 oK oR oC oS oT rK_images iK_imageCount oA oH oL x_5952 iK_latestFault iK_latestPlace), (oc1 oC iC_nodes iC_words iC_chances iC_unsures iC_slips iC_throneNode iC_saidWorth iC_unit rC_kind rC_parts rC_partNodes rC_weights rC_weightSums rC_toldWorths rC_steps rC_below rC_above rC_unsureWords rC_unsureWorths)]) rfl
    have hFc := va_freeM hD hS hA _ hMs
    refine va_calli (va_runV (As := [.int x_5958]) (rest := []) ⟨hx, hb, hml, hown, hts⟩ (tX6_unsureToAsk l dC dI _ oK oR oC oS oT rK_images iK_imageCount oA oH oL x_5952 iK_latestFault iK_latestPlace iC_nodes iC_words iC_chances iC_unsures iC_slips iC_throneNode iC_saidWorth iC_unit rC_kind rC_parts rC_partNodes rC_weights rC_weightSums rC_toldWorths rC_steps rC_below rC_above rC_unsureWords rC_unsureWorths x_5958 b_iK_imageCount b_iC_nodes b_iC_unsures b_iC_throneNode) (cwV 1 hts (wd_V wd_1225 wd_1226 wd_1227 wd_2 (wd_c wd_1228)) rfl rfl rfl dv_yX6_unsureToAsk_1 ⟨Nat.le_of_ble_eq_true rfl, Nat.le_of_ble_eq_true rfl⟩) ⟨Pw.fb, recvX6 hK hP (q0 := 0) rfl, fun U hU hW => Pw.to (hP.ms _ hMs) (hD.ms _ hMs) (hK.ms [false, false, false, false, false, false, false, false, false, false] rfl) hE hS hFc hU hW⟩ rfl rfl hl.1 rfl (lv_room (Nat.le_of_ble_eq_true rfl)) dX6_askLeaves_16 ⟨Nat.le_of_ble_eq_true rfl, Nat.le_of_ble_eq_true rfl⟩) hS (fun q _ h => hFc q h) hFc (fun r u t H locs ht hvm hw hB hz1 hk1 hS => ?_)
    have hru9 := hw.2
    have hw := hw.1
    obtain ⟨hP, hD⟩ := Bw.goN (ws' := [(oc6 oK oR oC oS oT rK_images iK_imageCount oA oH oL x_5952 iK_latestFault iK_latestPlace), (oc1 oC iC_nodes iC_words iC_chances iC_unsures iC_slips iC_throneNode iC_saidWorth iC_unit rC_kind rC_parts rC_partNodes rC_weights rC_weightSums rC_toldWorths rC_steps rC_below rC_above rC_unsureWords rC_unsureWorths), (arI rC_kind kC_kind 18 fC_kind), (arI rC_parts kC_parts 18 fC_parts), (arI rC_partNodes kC_partNodes 72 fC_partNodes), (arI rC_weights kC_weights 72 fC_weights), (arI rC_weightSums kC_weightSums 18 fC_weightSums), (arI rC_toldWorths kC_toldWorths 18 fC_toldWorths), (arI rC_unsureWords kC_unsureWords 4 fC_unsureWords), (arI rC_unsureWorths kC_unsureWorths 4 fC_unsureWorths), (oc4 oL rL_values rL_supposed), (arI rL_values kL_values 18 f_5956), (arI rL_supposed kL_supposed 18 f_5957)]) hB rfl ht hP hD _ hMs hk1 hFc rfl
    clear hz1 hk1 hvm ht hB hMs
    obtain ⟨x_5959, rfl⟩ : ∃ z, z = r := ⟨_, rfl⟩
    have hG := hG.trans (lt_eq hru9.symm)
    have ux_5959 := hw.2
    refine lv_istore_n (lv' := [(2, .int x_5959), (1, .int x_5958), (0, .ref oK)]) hx hb dX6_askLeaves_19 rfl hl (by decide) rfl (fun ls hl => ?_)
    refine lv_iload_n hx hb dX6_askLeaves_20 rfl (lv_at hl 0 rfl) ?_
    refine lv_if_ge (tgt := 29) hx hb dX6_askLeaves_21 (by decide) (fun c_5960 => ?_) (fun c_5960 => ?_)
    · skip
      have hG := hG.trans (if_pos c_5960)
      have gc_5960 := ti_le c_5960 kc_0 rfl
      refine lv_aload_n hx hb dX6_askLeaves_29 rfl (lv_at hl 2 rfl) ?_
      refine lv_iload_n hx hb dX6_askLeaves_30 rfl (lv_at hl 1 rfl) ?_
      refine lv_iload_n hx hb dX6_askLeaves_31 rfl (lv_at hl 0 rfl) ?_
      have hMs := ml_of hD [true, true, false, false, false, false, false, false, false, false, false, false, false] (wc := [(oc6 oK oR oC oS oT rK_images iK_imageCount oA oH oL x_5952 iK_latestFault iK_latestPlace), (oc1 oC iC_nodes iC_words iC_chances iC_unsures iC_slips iC_throneNode iC_saidWorth iC_unit rC_kind rC_parts rC_partNodes rC_weights rC_weightSums rC_toldWorths rC_steps rC_below rC_above rC_unsureWords rC_unsureWorths)]) rfl
      have hFc := va_freeM hD hS hA _ hMs
      refine va_calli (va_runV (As := [.int x_5958, .int x_5959]) (rest := []) ⟨hx, hb, hml, hown, hts⟩ (tX6_leftAtMost l dC dI _ oK oR oC oS oT rK_images iK_imageCount oA oH oL x_5952 iK_latestFault iK_latestPlace iC_nodes iC_words iC_chances iC_unsures iC_slips iC_throneNode iC_saidWorth iC_unit rC_kind rC_parts rC_partNodes rC_weights rC_weightSums rC_toldWorths rC_steps rC_below rC_above rC_unsureWords rC_unsureWorths x_5958 x_5959 b_iK_imageCount b_iC_nodes b_iC_unsures b_iC_throneNode) (cwV 2 hts (wd_V wd_1230 wd_1231 wd_1232 wd_2 (wd_c wd_1233)) rfl rfl rfl dv_yX6_leftAtMost_2 ⟨Nat.le_of_ble_eq_true rfl, Nat.le_of_ble_eq_true rfl⟩) ⟨Pw.fb, recvX6 hK hP (q0 := 0) rfl, fun U hU hW => Pw.to (hP.ms _ hMs) (hD.ms _ hMs) (hK.ms [false, false, false, false, false, false, false, false, false, false] rfl) hE hS hFc hU hW⟩ rfl rfl hl.1 rfl (lv_room (Nat.le_of_ble_eq_true rfl)) dX6_askLeaves_32 ⟨Nat.le_of_ble_eq_true rfl, Nat.le_of_ble_eq_true rfl⟩) hS (fun q _ h => hFc q h) hFc (fun r u t H locs ht hvm hw hB hz1 hk1 hS => ?_)
      have hru9 := hw.2
      have hw := hw.1
      obtain ⟨hP, hD⟩ := Bw.goN (ws' := [(oc6 oK oR oC oS oT rK_images iK_imageCount oA oH oL x_5952 iK_latestFault iK_latestPlace), (oc1 oC iC_nodes iC_words iC_chances iC_unsures iC_slips iC_throneNode iC_saidWorth iC_unit rC_kind rC_parts rC_partNodes rC_weights rC_weightSums rC_toldWorths rC_steps rC_below rC_above rC_unsureWords rC_unsureWorths), (arI rC_kind kC_kind 18 fC_kind), (arI rC_parts kC_parts 18 fC_parts), (arI rC_partNodes kC_partNodes 72 fC_partNodes), (arI rC_weights kC_weights 72 fC_weights), (arI rC_weightSums kC_weightSums 18 fC_weightSums), (arI rC_toldWorths kC_toldWorths 18 fC_toldWorths), (arI rC_unsureWords kC_unsureWords 4 fC_unsureWords), (arI rC_unsureWorths kC_unsureWorths 4 fC_unsureWorths), (oc4 oL rL_values rL_supposed), (arI rL_values kL_values 18 f_5956), (arI rL_supposed kL_supposed 18 f_5957)]) hB rfl ht hP hD _ hMs hk1 hFc rfl
      clear hz1 hk1 hvm ht hB hMs
      obtain ⟨x_5961, rfl⟩ : ∃ z, z = r := ⟨_, rfl⟩
      have hG := hG.trans (lt_eq hru9.symm)
      exact wq_i hx hb hr (cI x_5961) ⟨⟨trivial, trivial⟩, (cI_of x_5961)⟩ (fun t ht hW => ⟨x_5952, f_5956, f_5957, (cI_tup hG), Bw.to hP hD hK ht hW⟩) hS dX6_askLeaves_35 hlocks
    · skip
      have hG := hG.trans (if_neg c_5960)
      have gc_5960 := ti_nle c_5960 kc_0 rfl
      refine lv_bipush (v := (-2)) hx hb dX6_askLeaves_24 (by decide) ?_
      refine lv_goto (tgt := 35) hx hb dX6_askLeaves_26 (by decide) ?_
      exact wq_i hx hb hr (cI (-2)) ⟨⟨trivial, trivial⟩, (cI_of (-2))⟩ (fun t ht hW => ⟨x_5952, f_5956, f_5957, (cI_tup hG), Bw.to hP hD hK ht hW⟩) hS dX6_askLeaves_35 hlocks
  · skip
    have hG := hG.trans (un2_eq e_x_5952_0)
    have hG := hG.trans (if_neg (by decide))
    refine lv_if_eq (tgt := 9) hx hb dX6_askLeaves_4 (by decide) (fun c => absurd c (by decide)) (fun _ => ?_)
    refine lv_iconst (v := (-1)) hx hb dX6_askLeaves_7 (by decide) ?_
    exact wq_i hx hb hr (cI (-1)) ⟨⟨trivial, trivial⟩, (cI_of (-1))⟩ (fun t ht hW => ⟨x_5952, fL_values, fL_supposed, (cI_tup hG), Bw.to hP hD hK ht hW⟩) hS dX6_askLeaves_8 hlocks
set_option maxHeartbeats 4000000 in
set_option maxRecDepth 100000 in
theorem tX6_fitAt (l : Launch) (dC : Nat → ClassId) (dI : Nat → Nat → Nat) (sz : Nat) (oK : Nat) (oR : Nat) (oC : Nat) (oS : Nat) (oT : Nat) (rK_images : Nat) (iK_imageCount : Int32) (oA : Nat) (oH : Nat) (oL : Nat) (iK_refusal : Int32) (iK_latestFault : Int32) (iK_latestPlace : Int32) (iC_nodes : Int32) (iC_words : Int32) (iC_chances : Int32) (iC_unsures : Int32) (iC_slips : Int32) (iC_throneNode : Int32) (iC_saidWorth : Int32) (iC_unit : Int32) (rC_kind : Nat) (fC_kind : Nat → Int32) (kC_kind : ClassId) (rC_parts : Nat) (fC_parts : Nat → Int32) (kC_parts : ClassId) (rC_partNodes : Nat) (fC_partNodes : Nat → Int32) (kC_partNodes : ClassId) (rC_weights : Nat) (fC_weights : Nat → Int32) (kC_weights : ClassId) (rC_weightSums : Nat) (fC_weightSums : Nat → Int32) (kC_weightSums : ClassId) (rC_toldWorths : Nat) (fC_toldWorths : Nat → Int32) (kC_toldWorths : ClassId) (rC_steps : Nat) (rC_below : Nat) (rC_above : Nat) (rC_unsureWords : Nat) (fC_unsureWords : Nat → Int32) (kC_unsureWords : ClassId) (rC_unsureWorths : Nat) (fC_unsureWorths : Nat → Int32) (kC_unsureWorths : ClassId) (rL_values : Nat) (fL_values : Nat → Int32) (kL_values : ClassId) (rL_supposed : Nat) (fL_supposed : Nat → Int32) (kL_supposed : ClassId) (p0 : Int32) (b_iK_imageCount : 0 ≤ iK_imageCount.toInt ∧ iK_imageCount.toInt ≤ 3) (b_iC_nodes : 0 ≤ iC_nodes.toInt ∧ iC_nodes.toInt ≤ 18) (b_iC_unsures : 0 ≤ iC_unsures.toInt ∧ iC_unsures.toInt ≤ 4) (b_iC_throneNode : (-1) ≤ iC_throneNode.toInt ∧ iC_throneNode.toInt ≤ 17) (a_fC_parts : ∀ j : Nat, j < 18 → 0 ≤ (fC_parts j).toInt ∧ (fC_parts j).toInt ≤ 4) (a_fC_partNodes : ∀ j : Nat, j < 72 → 0 ≤ (fC_partNodes j).toInt ∧ (fC_partNodes j).toInt ≤ 17) (a_fC_unsureWords : ∀ j : Nat, j < 4 → 0 ≤ (fC_unsureWords j).toInt ∧ (fC_unsureWords j).toInt ≤ 17)  : Met l yX6_fitAt (Cond.code yX6_fitAt cX6_fitAt 5 (some .int) :: wG) ({ frames := 5, cells := 0, slots := 0, locals := 118 }) (va_Pc [.ref oK, .int p0] (Pw dC dI sz [(oc6 oK oR oC oS oT rK_images iK_imageCount oA oH oL iK_refusal iK_latestFault iK_latestPlace), (oc1 oC iC_nodes iC_words iC_chances iC_unsures iC_slips iC_throneNode iC_saidWorth iC_unit rC_kind rC_parts rC_partNodes rC_weights rC_weightSums rC_toldWorths rC_steps rC_below rC_above rC_unsureWords rC_unsureWorths), (arI rC_kind kC_kind 18 fC_kind), (arI rC_parts kC_parts 18 fC_parts), (arI rC_partNodes kC_partNodes 72 fC_partNodes), (arI rC_weights kC_weights 72 fC_weights), (arI rC_weightSums kC_weightSums 18 fC_weightSums), (arI rC_toldWorths kC_toldWorths 18 fC_toldWorths), (arI rC_unsureWords kC_unsureWords 4 fC_unsureWords), (arI rC_unsureWorths kC_unsureWorths 4 fC_unsureWorths), (oc4 oL rL_values rL_supposed), (arI rL_values kL_values 18 fL_values), (arI rL_supposed kL_supposed 18 fL_supposed)] [(kC_kind, .int), (kC_parts, .int), (kC_partNodes, .int), (kC_weights, .int), (kC_weightSums, .int), (kC_toldWorths, .int), (kC_unsureWords, .int), (kC_unsureWorths, .int), (kL_values, .int), (kL_supposed, .int)])) (va_Qi (fun (r : Int32) (u : Nat) => (True ∧ True) ∧ r = Int32.ofNat u) (fun (u : Nat) (t : State) => ∃ (niK_refusal : Int32) (nfL_values : Nat → Int32) (nfL_supposed : Nat → Int32), (PX6_fitAt iC_nodes iC_unsures iC_throneNode iC_saidWorth iC_unit fC_kind fC_parts fC_partNodes fC_weights fC_weightSums fC_toldWorths fC_unsureWords fC_unsureWorths fL_values fL_supposed p0 = (Int32.ofNat u, niK_refusal, nfL_values, nfL_supposed)) ∧ Bw dC dI (va_A [(oc6 oK oR oC oS oT rK_images iK_imageCount oA oH oL iK_refusal iK_latestFault iK_latestPlace), (oc1 oC iC_nodes iC_words iC_chances iC_unsures iC_slips iC_throneNode iC_saidWorth iC_unit rC_kind rC_parts rC_partNodes rC_weights rC_weightSums rC_toldWorths rC_steps rC_below rC_above rC_unsureWords rC_unsureWorths), (arI rC_kind kC_kind 18 fC_kind), (arI rC_parts kC_parts 18 fC_parts), (arI rC_partNodes kC_partNodes 72 fC_partNodes), (arI rC_weights kC_weights 72 fC_weights), (arI rC_weightSums kC_weightSums 18 fC_weightSums), (arI rC_toldWorths kC_toldWorths 18 fC_toldWorths), (arI rC_unsureWords kC_unsureWords 4 fC_unsureWords), (arI rC_unsureWorths kC_unsureWorths 4 fC_unsureWorths), (oc4 oL rL_values rL_supposed), (arI rL_values kL_values 18 fL_values), (arI rL_supposed kL_supposed 18 fL_supposed)] sz) [(oc6 oK oR oC oS oT rK_images iK_imageCount oA oH oL niK_refusal iK_latestFault iK_latestPlace), (oc1 oC iC_nodes iC_words iC_chances iC_unsures iC_slips iC_throneNode iC_saidWorth iC_unit rC_kind rC_parts rC_partNodes rC_weights rC_weightSums rC_toldWorths rC_steps rC_below rC_above rC_unsureWords rC_unsureWorths), (arI rC_kind kC_kind 18 fC_kind), (arI rC_parts kC_parts 18 fC_parts), (arI rC_partNodes kC_partNodes 72 fC_partNodes), (arI rC_weights kC_weights 72 fC_weights), (arI rC_weightSums kC_weightSums 18 fC_weightSums), (arI rC_toldWorths kC_toldWorths 18 fC_toldWorths), (arI rC_unsureWords kC_unsureWords 4 fC_unsureWords), (arI rC_unsureWorths kC_unsureWorths 4 fC_unsureWorths), (oc4 oL rL_values rL_supposed), (arI rL_values kL_values 18 nfL_values), (arI rL_supposed kL_supposed 18 nfL_supposed)] [(kC_kind, .int), (kC_parts, .int), (kC_partNodes, .int), (kC_weights, .int), (kC_weightSums, .int), (kC_toldWorths, .int), (kC_unsureWords, .int), (kC_unsureWorths, .int), (kL_values, .int), (kL_supposed, .int)] t) (va_A [(oc6 oK oR oC oS oT rK_images iK_imageCount oA oH oL iK_refusal iK_latestFault iK_latestPlace), (oc1 oC iC_nodes iC_words iC_chances iC_unsures iC_slips iC_throneNode iC_saidWorth iC_unit rC_kind rC_parts rC_partNodes rC_weights rC_weightSums rC_toldWorths rC_steps rC_below rC_above rC_unsureWords rC_unsureWorths), (arI rC_kind kC_kind 18 fC_kind), (arI rC_parts kC_parts 18 fC_parts), (arI rC_partNodes kC_partNodes 72 fC_partNodes), (arI rC_weights kC_weights 72 fC_weights), (arI rC_weightSums kC_weightSums 18 fC_weightSums), (arI rC_toldWorths kC_toldWorths 18 fC_toldWorths), (arI rC_unsureWords kC_unsureWords 4 fC_unsureWords), (arI rC_unsureWorths kC_unsureWorths 4 fC_unsureWorths), (oc4 oL rL_values rL_supposed), (arI rL_values kL_values 18 fL_values), (arI rL_supposed kL_supposed 18 fL_supposed)] sz)) 0 0 (va_A [(oc6 oK oR oC oS oT rK_images iK_imageCount oA oH oL iK_refusal iK_latestFault iK_latestPlace), (oc1 oC iC_nodes iC_words iC_chances iC_unsures iC_slips iC_throneNode iC_saidWorth iC_unit rC_kind rC_parts rC_partNodes rC_weights rC_weightSums rC_toldWorths rC_steps rC_below rC_above rC_unsureWords rC_unsureWorths), (arI rC_kind kC_kind 18 fC_kind), (arI rC_parts kC_parts 18 fC_parts), (arI rC_partNodes kC_partNodes 72 fC_partNodes), (arI rC_weights kC_weights 72 fC_weights), (arI rC_weightSums kC_weightSums 18 fC_weightSums), (arI rC_toldWorths kC_toldWorths 18 fC_toldWorths), (arI rC_unsureWords kC_unsureWords 4 fC_unsureWords), (arI rC_unsureWorths kC_unsureWorths 4 fC_unsureWorths), (oc4 oL rL_values rL_supposed), (arI rL_values kL_values 18 fL_values), (arI rL_supposed kL_supposed 18 fL_supposed)] sz) := by
  refine Met.ofW (cc := cX6_fitAt) (maxL := 5) (ret := (some .int)) pnX6 rfl ?_
  intro p e s m args below meth c s₁ B hml hv
  obtain ⟨rfl, hsz, hP, hK, hD0, hE⟩ := hv
  have hx := B.exec
  have hb := B.bytes
  have hr := B.returns
  have hts : ∀ w ∈ wG, w.before ([.ref oK, .int p0] : List Value).toArray s = true := fun w h => atoms_spec (ws := Cond.code yX6_fitAt cX6_fitAt 5 (some .int) :: wG) B.pre w (List.mem_cons_of_mem _ h)
  have hown : s.vm.findClass RX6 = some m.cls := own_of B.named rfl
  have hlocks := B.notSynchronized
  subst hsz
  have hD := hD0.self (sz := s.heap.size)
  generalize hAe : va_A [(oc6 oK oR oC oS oT rK_images iK_imageCount oA oH oL iK_refusal iK_latestFault iK_latestPlace), (oc1 oC iC_nodes iC_words iC_chances iC_unsures iC_slips iC_throneNode iC_saidWorth iC_unit rC_kind rC_parts rC_partNodes rC_weights rC_weightSums rC_toldWorths rC_steps rC_below rC_above rC_unsureWords rC_unsureWorths), (arI rC_kind kC_kind 18 fC_kind), (arI rC_parts kC_parts 18 fC_parts), (arI rC_partNodes kC_partNodes 72 fC_partNodes), (arI rC_weights kC_weights 72 fC_weights), (arI rC_weightSums kC_weightSums 18 fC_weightSums), (arI rC_toldWorths kC_toldWorths 18 fC_toldWorths), (arI rC_unsureWords kC_unsureWords 4 fC_unsureWords), (arI rC_unsureWorths kC_unsureWorths 4 fC_unsureWorths), (oc4 oL rL_values rL_supposed), (arI rL_values kL_values 18 fL_values), (arI rL_supposed kL_supposed 18 fL_supposed)] s.heap.size = A at hD hE ⊢
  have hA : ∀ q : Nat, s.heap.size ≤ q → A q := fun q h => by rw [← hAe]; exact Or.inr h
  have hS : va_S A s.heap s.heap [] := va_S.rf
  have hl := lv_entry ([.ref oK, .int p0]) (n := 5) (Nat.le_of_ble_eq_true rfl)
  rw [lg_entry_eq]
  generalize (lg_sl ([.ref oK, .int p0]) ++ List.replicate (5 - (lg_sl ([.ref oK, .int p0])).length) Slot.unset).toArray = ls at hl ⊢
  have hl : lv_has ls 5 [(0, .ref oK), (1, .int p0)] := hl
  have hG := PX6_fitAt_eq iC_nodes iC_unsures iC_throneNode iC_saidWorth iC_unit fC_kind fC_parts fC_partNodes fC_weights fC_weightSums fC_toldWorths fC_unsureWords fC_unsureWorths fL_values fL_supposed p0
  have rg_p0 := fb_rng p0
  refine lv_aload_n hx hb dX6_fitAt_0 rfl (lv_at hl 0 rfl) ?_
  have hMs := ml_of hD [true, true, false, false, false, false, false, false, false, false, false, false, false] (wc := [(oc6 oK oR oC oS oT rK_images iK_imageCount oA oH oL iK_refusal iK_latestFault iK_latestPlace), (oc1 oC iC_nodes iC_words iC_chances iC_unsures iC_slips iC_throneNode iC_saidWorth iC_unit rC_kind rC_parts rC_partNodes rC_weights rC_weightSums rC_toldWorths rC_steps rC_below rC_above rC_unsureWords rC_unsureWorths)]) rfl
  have hFc := va_freeM hD hS hA _ hMs
  refine va_calli (va_runV (As := []) (rest := []) ⟨hx, hb, hml, hown, hts⟩ (tX6_lacksCourt l dC dI _ oK oR oC oS oT rK_images iK_imageCount oA oH oL iK_refusal iK_latestFault iK_latestPlace iC_nodes iC_words iC_chances iC_unsures iC_slips iC_throneNode iC_saidWorth iC_unit rC_kind rC_parts rC_partNodes rC_weights rC_weightSums rC_toldWorths rC_steps rC_below rC_above rC_unsureWords rC_unsureWorths b_iK_imageCount b_iC_nodes b_iC_unsures b_iC_throneNode) (cwV 0 hts (wd_V wd_596 wd_597 wd_598 wd_2 (wd_c wd_599)) rfl rfl rfl dv_yX6_lacksCourt_0 ⟨Nat.le_of_ble_eq_true rfl, Nat.le_of_ble_eq_true rfl⟩) ⟨Pw.fb, recvX6 hK hP (q0 := 0) rfl, fun U hU hW => Pw.to (hP.ms _ hMs) (hD.ms _ hMs) (hK.ms [false, false, false, false, false, false, false, false, false, false] rfl) hE hS hFc hU hW⟩ rfl rfl hl.1 rfl (lv_room (Nat.le_of_ble_eq_true rfl)) dX6_fitAt_1 ⟨Nat.le_of_ble_eq_true rfl, Nat.le_of_ble_eq_true rfl⟩) hS (fun q _ h => hFc q h) hFc (fun r u t H locs ht hvm hw hB hz1 hk1 hS => ?_)
  have hru9 := hw.2
  have hw := hw.1
  refine ex_1_2 hB (fun x_6003 b_x_6003 e_x_6003_0 hB => ?_)
  obtain ⟨hP, hD⟩ := Bw.goN (ws' := [(oc6 oK oR oC oS oT rK_images iK_imageCount oA oH oL x_6003 iK_latestFault iK_latestPlace), (oc1 oC iC_nodes iC_words iC_chances iC_unsures iC_slips iC_throneNode iC_saidWorth iC_unit rC_kind rC_parts rC_partNodes rC_weights rC_weightSums rC_toldWorths rC_steps rC_below rC_above rC_unsureWords rC_unsureWorths), (arI rC_kind kC_kind 18 fC_kind), (arI rC_parts kC_parts 18 fC_parts), (arI rC_partNodes kC_partNodes 72 fC_partNodes), (arI rC_weights kC_weights 72 fC_weights), (arI rC_weightSums kC_weightSums 18 fC_weightSums), (arI rC_toldWorths kC_toldWorths 18 fC_toldWorths), (arI rC_unsureWords kC_unsureWords 4 fC_unsureWords), (arI rC_unsureWorths kC_unsureWorths 4 fC_unsureWorths), (oc4 oL rL_values rL_supposed), (arI rL_values kL_values 18 fL_values), (arI rL_supposed kL_supposed 18 fL_supposed)]) hB rfl ht hP hD _ hMs hk1 hFc rfl
  clear hz1 hk1 hvm ht hB hMs
  have rg_x_6003 := fb_rng x_6003
  rw [← hru9] at e_x_6003_0
  rcases hw.2 with ⟨rfl, hc_6004⟩ | ⟨rfl, hc_6004⟩
  · skip
    have rg_iC_nodes := fb_rng iC_nodes
    have hG := hG.trans (un2_eq e_x_6003_0)
    have hG := hG.trans (if_pos rfl)
    refine lv_if_eq (tgt := 9) hx hb dX6_fitAt_4 (by decide) (fun _ => ?_) (fun c => absurd c (by decide))
    refine lv_aload_n hx hb dX6_fitAt_9 rfl (lv_at hl 0 rfl) ?_
    have hFc := va_freeI hD hS hA
    refine va_calli (va_runV (As := []) (rest := []) ⟨hx, hb, hml, hown, hts⟩ (tX6_fittingSets l dC dI _ oK oR oC oS oT rK_images iK_imageCount oA oH oL x_6003 iK_latestFault iK_latestPlace iC_nodes iC_words iC_chances iC_unsures iC_slips iC_throneNode iC_saidWorth iC_unit rC_kind fC_kind kC_kind rC_parts fC_parts kC_parts rC_partNodes fC_partNodes kC_partNodes rC_weights fC_weights kC_weights rC_weightSums fC_weightSums kC_weightSums rC_toldWorths fC_toldWorths kC_toldWorths rC_steps rC_below rC_above rC_unsureWords fC_unsureWords kC_unsureWords rC_unsureWorths fC_unsureWorths kC_unsureWorths rL_values fL_values kL_values rL_supposed fL_supposed kL_supposed b_iK_imageCount b_iC_nodes b_iC_unsures b_iC_throneNode a_fC_parts a_fC_partNodes a_fC_unsureWords) (cwV 0 hts (wd_V wd_1159 wd_1160 wd_1161 wd_2 (wd_c wd_1162)) rfl rfl rfl dv_yX6_fittingSets_0 ⟨Nat.le_of_ble_eq_true rfl, Nat.le_of_ble_eq_true rfl⟩) ⟨Pw.fb, recvX6 hK hP (q0 := 0) rfl, fun U hU hW => Pw.to hP hD hK hE hS hFc hU hW⟩ rfl rfl hl.1 rfl (lv_room (Nat.le_of_ble_eq_true rfl)) dX6_fitAt_10 ⟨Nat.le_of_ble_eq_true rfl, Nat.le_of_ble_eq_true rfl⟩) hS (fun q _ h => hFc q h) hFc (fun r u t H locs ht hvm hw hB hz1 hk1 hS => ?_)
    have hru9 := hw.2
    have hw := hw.1
    refine ex_2_1 hB (fun f_6007 f_6008 e_f_6007_0 hB => ?_)
    obtain ⟨hP, hD⟩ := Bw.goA (ws' := [(oc6 oK oR oC oS oT rK_images iK_imageCount oA oH oL x_6003 iK_latestFault iK_latestPlace), (oc1 oC iC_nodes iC_words iC_chances iC_unsures iC_slips iC_throneNode iC_saidWorth iC_unit rC_kind rC_parts rC_partNodes rC_weights rC_weightSums rC_toldWorths rC_steps rC_below rC_above rC_unsureWords rC_unsureWorths), (arI rC_kind kC_kind 18 fC_kind), (arI rC_parts kC_parts 18 fC_parts), (arI rC_partNodes kC_partNodes 72 fC_partNodes), (arI rC_weights kC_weights 72 fC_weights), (arI rC_weightSums kC_weightSums 18 fC_weightSums), (arI rC_toldWorths kC_toldWorths 18 fC_toldWorths), (arI rC_unsureWords kC_unsureWords 4 fC_unsureWords), (arI rC_unsureWorths kC_unsureWorths 4 fC_unsureWorths), (oc4 oL rL_values rL_supposed), (arI rL_values kL_values 18 f_6007), (arI rL_supposed kL_supposed 18 f_6008)]) hB rfl ht hFc rfl
    clear hz1 hk1 hvm ht hB
    rw [← hru9] at e_f_6007_0
    obtain ⟨x_6009, rfl⟩ : ∃ z, z = r := ⟨_, rfl⟩
    have hG := hG.trans (un3_eq e_f_6007_0)
    have rg_x_6009 := fb_rng x_6009
    refine lv_istore_n (lv' := [(2, .int x_6009), (0, .ref oK), (1, .int p0)]) hx hb dX6_fitAt_13 rfl hl (by decide) rfl (fun ls hl => ?_)
    refine lv_iconst (v := 0) hx hb dX6_fitAt_14 (by decide) ?_
    refine lv_istore_n (lv' := [(3, .int 0), (2, .int x_6009), (0, .ref oK), (1, .int p0)]) hx hb dX6_fitAt_15 rfl hl (by decide) rfl (fun ls hl => ?_)
    refine lv_iconst (v := 0) hx hb dX6_fitAt_16 (by decide) ?_
    refine lv_istore (lv' := [(4, .int 0), (3, .int 0), (2, .int x_6009), (0, .ref oK), (1, .int p0)]) hx hb dX6_fitAt_17 hl (by decide) rfl (fun ls hl => ?_)
    have hl := lv_sub hl (l' := [(4, .int 0), (3, .int 0), (2, .int x_6009), (0, .ref oK), (1, .int p0)]) [0, 1, 2, 3, 4] rfl
    have key_n_6012 : ∀ (n_6012 : Nat) (z_6010 : Int32) (z_6011 : Int32) (H : Heap) (locs : List Loc) (ls : Array Slot), (0 ≤ z_6010.toInt ∧ z_6010.toInt ≤ 2147483647) → (2147483647 - z_6010.toInt).toNat < n_6012 → (PX6_fitAt iC_nodes iC_unsures iC_throneNode iC_saidWorth iC_unit fC_kind fC_parts fC_partNodes fC_weights fC_weightSums fC_toldWorths fC_unsureWords fC_unsureWorths fL_values fL_supposed p0 = HX6_fitAt_0 iC_unsures p0 x_6003 f_6007 f_6008 x_6009 n_6012 z_6010 z_6011) → va_P (dC, dI) vwCl [(oc6 oK oR oC oS oT rK_images iK_imageCount oA oH oL x_6003 iK_latestFault iK_latestPlace), (oc1 oC iC_nodes iC_words iC_chances iC_unsures iC_slips iC_throneNode iC_saidWorth iC_unit rC_kind rC_parts rC_partNodes rC_weights rC_weightSums rC_toldWorths rC_steps rC_below rC_above rC_unsureWords rC_unsureWorths), (arI rC_kind kC_kind 18 fC_kind), (arI rC_parts kC_parts 18 fC_parts), (arI rC_partNodes kC_partNodes 72 fC_partNodes), (arI rC_weights kC_weights 72 fC_weights), (arI rC_weightSums kC_weightSums 18 fC_weightSums), (arI rC_toldWorths kC_toldWorths 18 fC_toldWorths), (arI rC_unsureWords kC_unsureWords 4 fC_unsureWords), (arI rC_unsureWorths kC_unsureWorths 4 fC_unsureWorths), (oc4 oL rL_values rL_supposed), (arI rL_values kL_values 18 f_6007), (arI rL_supposed kL_supposed 18 f_6008)] H → va_D A [(oc6 oK oR oC oS oT rK_images iK_imageCount oA oH oL x_6003 iK_latestFault iK_latestPlace), (oc1 oC iC_nodes iC_words iC_chances iC_unsures iC_slips iC_throneNode iC_saidWorth iC_unit rC_kind rC_parts rC_partNodes rC_weights rC_weightSums rC_toldWorths rC_steps rC_below rC_above rC_unsureWords rC_unsureWorths), (arI rC_kind kC_kind 18 fC_kind), (arI rC_parts kC_parts 18 fC_parts), (arI rC_partNodes kC_partNodes 72 fC_partNodes), (arI rC_weights kC_weights 72 fC_weights), (arI rC_weightSums kC_weightSums 18 fC_weightSums), (arI rC_toldWorths kC_toldWorths 18 fC_toldWorths), (arI rC_unsureWords kC_unsureWords 4 fC_unsureWords), (arI rC_unsureWorths kC_unsureWorths 4 fC_unsureWorths), (oc4 oL rL_values rL_supposed), (arI rL_values kL_values 18 f_6007), (arI rL_supposed kL_supposed 18 f_6008)] → va_S A s.heap H locs → lv_has ls 5 [(4, .int z_6010), (3, .int z_6011), (2, .int x_6009), (0, .ref oK), (1, .int p0)] → W p l e (headSpec (Cond.code yX6_fitAt cX6_fitAt 5 (some .int) :: wG) ({ frames := 5, cells := 0, slots := 0, locals := 118 })).room s m ([.ref oK, .int p0] : List Value).toArray below meth c H locs 0 0 (MQ below (va_Qi (fun (r : Int32) (u : Nat) => (True ∧ True) ∧ r = Int32.ofNat u) (fun (u : Nat) (t : State) => ∃ (niK_refusal : Int32) (nfL_values : Nat → Int32) (nfL_supposed : Nat → Int32), (PX6_fitAt iC_nodes iC_unsures iC_throneNode iC_saidWorth iC_unit fC_kind fC_parts fC_partNodes fC_weights fC_weightSums fC_toldWorths fC_unsureWords fC_unsureWorths fL_values fL_supposed p0 = (Int32.ofNat u, niK_refusal, nfL_values, nfL_supposed)) ∧ Bw dC dI A [(oc6 oK oR oC oS oT rK_images iK_imageCount oA oH oL niK_refusal iK_latestFault iK_latestPlace), (oc1 oC iC_nodes iC_words iC_chances iC_unsures iC_slips iC_throneNode iC_saidWorth iC_unit rC_kind rC_parts rC_partNodes rC_weights rC_weightSums rC_toldWorths rC_steps rC_below rC_above rC_unsureWords rC_unsureWorths), (arI rC_kind kC_kind 18 fC_kind), (arI rC_parts kC_parts 18 fC_parts), (arI rC_partNodes kC_partNodes 72 fC_partNodes), (arI rC_weights kC_weights 72 fC_weights), (arI rC_weightSums kC_weightSums 18 fC_weightSums), (arI rC_toldWorths kC_toldWorths 18 fC_toldWorths), (arI rC_unsureWords kC_unsureWords 4 fC_unsureWords), (arI rC_unsureWorths kC_unsureWorths 4 fC_unsureWorths), (oc4 oL rL_values rL_supposed), (arI rL_values kL_values 18 nfL_values), (arI rL_supposed kL_supposed 18 nfL_supposed)] [(kC_kind, .int), (kC_parts, .int), (kC_partNodes, .int), (kC_weights, .int), (kC_weightSums, .int), (kC_toldWorths, .int), (kC_unsureWords, .int), (kC_unsureWorths, .int), (kL_values, .int), (kL_supposed, .int)] t) A) ([.ref oK, .int p0] : List Value).toArray s 0 0 A) (F0 m 19 ls []) := by
      intro n_6012
      induction n_6012 with
      | zero => intro z_6010 z_6011 H locs ls hi0_n_6012 hm; exact absurd hm (Nat.not_lt_zero _)
      | succ n_6012 ih_n_6012 =>
        intro z_6010 z_6011 H locs ls hi0_n_6012 hm_n_6012 hG hP hD hS hl
        have hG := hG.trans (HX6_fitAt_0_eq _ _ _ _ _ _ _ _ _)
        have rg_z_6010 := fb_rng z_6010
        have rg_z_6011 := fb_rng z_6011
        refine lv_iload hx hb dX6_fitAt_19 (lv_at hl 0 rfl) ?_
        refine lv_aload_n hx hb dX6_fitAt_21 rfl (lv_at hl 3 rfl) ?_
        refine va_get (D := (dC, dI)) (ci := 6) (v := .ref oC) (C := RX6) (T := TX6) (N := 12) hx hb hts inX6 hown hK hP 0 rfl rfl 1 (by decide) (hts _ wd_20) (fun _ h9 => h9) rfl dX6_fitAt_22 ?_
        have hMs := ml_of hD [false, true, false, false, false, false, false, false, false, false, false, false, false] (wc := [(oc1 oC iC_nodes iC_words iC_chances iC_unsures iC_slips iC_throneNode iC_saidWorth iC_unit rC_kind rC_parts rC_partNodes rC_weights rC_weightSums rC_toldWorths rC_steps rC_below rC_above rC_unsureWords rC_unsureWorths)]) rfl
        have hFc := va_freeM hD hS hA _ hMs
        refine va_calli (va_runV (As := []) (rest := [.int z_6010]) ⟨hx, hb, hml, hown, hts⟩ (tX1_unsureSets l dC dI _ oC iC_nodes iC_words iC_chances iC_unsures iC_slips iC_throneNode iC_saidWorth iC_unit rC_kind rC_parts rC_partNodes rC_weights rC_weightSums rC_toldWorths rC_steps rC_below rC_above rC_unsureWords rC_unsureWorths b_iC_nodes b_iC_unsures b_iC_throneNode) (cwV 0 hts (wd_V wd_1165 wd_1166 wd_1167 wd_19 (wd_c wd_1168)) rfl rfl rfl dv_yX1_unsureSets_0 ⟨Nat.le_of_ble_eq_true rfl, Nat.le_of_ble_eq_true rfl⟩) ⟨Pw.fb, recvX1 hK hP (q0 := 1) rfl, fun U hU hW => Pw.to (hP.ms _ hMs) (hD.ms _ hMs) (hK.ms [false, false, false, false, false, false, false, false, false, false] rfl) hE hS hFc hU hW⟩ rfl rfl hl.1 rfl (lv_room (Nat.le_of_ble_eq_true rfl)) dX6_fitAt_25 ⟨Nat.le_of_ble_eq_true rfl, Nat.le_of_ble_eq_true rfl⟩) hS (fun q _ h => hFc q h) hFc (fun r u t H locs ht hvm hw hB hz1 hk1 hS => ?_)
        have hru9 := hw.2
        have hw := hw.1
        obtain ⟨hP, hD⟩ := Bw.goN (ws' := [(oc6 oK oR oC oS oT rK_images iK_imageCount oA oH oL x_6003 iK_latestFault iK_latestPlace), (oc1 oC iC_nodes iC_words iC_chances iC_unsures iC_slips iC_throneNode iC_saidWorth iC_unit rC_kind rC_parts rC_partNodes rC_weights rC_weightSums rC_toldWorths rC_steps rC_below rC_above rC_unsureWords rC_unsureWorths), (arI rC_kind kC_kind 18 fC_kind), (arI rC_parts kC_parts 18 fC_parts), (arI rC_partNodes kC_partNodes 72 fC_partNodes), (arI rC_weights kC_weights 72 fC_weights), (arI rC_weightSums kC_weightSums 18 fC_weightSums), (arI rC_toldWorths kC_toldWorths 18 fC_toldWorths), (arI rC_unsureWords kC_unsureWords 4 fC_unsureWords), (arI rC_unsureWorths kC_unsureWorths 4 fC_unsureWorths), (oc4 oL rL_values rL_supposed), (arI rL_values kL_values 18 f_6007), (arI rL_supposed kL_supposed 18 f_6008)]) hB rfl ht hP hD _ hMs hk1 hFc rfl
        clear hz1 hk1 hvm ht hB hMs
        obtain ⟨x_6013, rfl⟩ : ∃ z, z = r := ⟨_, rfl⟩
        have hG := hG.trans (lt_eq hru9.symm)
        have rg_x_6013 := fb_rng x_6013
        have ux_6013 := hw.2
        refine lv_icmp_ge (tgt := 58) hx hb dX6_fitAt_28 (by decide) (fun c_6014 => ?_) (fun c_6014 => ?_)
        · skip
          have hG := hG.trans (if_pos c_6014)
          have gc_6014 := ti_le c_6014 rfl rfl
          refine lv_aload_n hx hb dX6_fitAt_58 rfl (lv_at hl 3 rfl) ?_
          refine lv_iconst (v := 1) hx hb dX6_fitAt_59 (by decide) ?_
          have hMs := ml_of hD [true, false, false, false, false, false, false, false, false, false, false, false, false] (wc := [(oc6 oK oR oC oS oT rK_images iK_imageCount oA oH oL x_6003 iK_latestFault iK_latestPlace)]) rfl
          have hFc := va_freeM hD hS hA _ hMs
          refine va_calli (va_runV (As := [.int 1]) (rest := []) ⟨hx, hb, hml, hown, hts⟩ (tX6_refuse l dC dI _ oK oR oC oS oT rK_images iK_imageCount oA oH oL x_6003 iK_latestFault iK_latestPlace 1 b_iK_imageCount) (cwV 1 hts (wd_V wd_197 wd_198 wd_199 wd_2 (wd_c wd_200)) rfl rfl rfl dv_yX6_refuse_1 ⟨Nat.le_of_ble_eq_true rfl, Nat.le_of_ble_eq_true rfl⟩) ⟨Pw.fb, recvX6 hK hP (q0 := 0) rfl, fun U hU hW => Pw.to (hP.ms _ hMs) (hD.ms _ hMs) (hK.ms [false, false, false, false, false, false, false, false, false, false] rfl) hE hS hFc hU hW⟩ rfl rfl hl.1 rfl (lv_room (Nat.le_of_ble_eq_true rfl)) dX6_fitAt_60 ⟨Nat.le_of_ble_eq_true rfl, Nat.le_of_ble_eq_true rfl⟩) hS (fun q _ h => hFc q h) hFc (fun r u t H locs ht hvm hw hB hz1 hk1 hS => ?_)
          have hru9 := hw.2
          have hw := hw.1
          refine ex_1_1 hB (fun x_6015 e_x_6015_0 hB => ?_)
          obtain ⟨hP, hD⟩ := Bw.goN (ws' := [(oc6 oK oR oC oS oT rK_images iK_imageCount oA oH oL x_6015 iK_latestFault iK_latestPlace), (oc1 oC iC_nodes iC_words iC_chances iC_unsures iC_slips iC_throneNode iC_saidWorth iC_unit rC_kind rC_parts rC_partNodes rC_weights rC_weightSums rC_toldWorths rC_steps rC_below rC_above rC_unsureWords rC_unsureWorths), (arI rC_kind kC_kind 18 fC_kind), (arI rC_parts kC_parts 18 fC_parts), (arI rC_partNodes kC_partNodes 72 fC_partNodes), (arI rC_weights kC_weights 72 fC_weights), (arI rC_weightSums kC_weightSums 18 fC_weightSums), (arI rC_toldWorths kC_toldWorths 18 fC_toldWorths), (arI rC_unsureWords kC_unsureWords 4 fC_unsureWords), (arI rC_unsureWorths kC_unsureWorths 4 fC_unsureWorths), (oc4 oL rL_values rL_supposed), (arI rL_values kL_values 18 f_6007), (arI rL_supposed kL_supposed 18 f_6008)]) hB rfl ht hP hD _ hMs hk1 hFc rfl
          clear hz1 hk1 hvm ht hB hMs
          have rg_x_6015 := fb_rng x_6015
          rw [← hru9] at e_x_6015_0
          obtain ⟨x_6016, rfl⟩ : ∃ z, z = r := ⟨_, rfl⟩
          have hG := hG.trans (un2_eq e_x_6015_0)
          have rg_x_6016 := fb_rng x_6016
          have ux_6016 := hw.2
          exact wq_i hx hb hr (cI x_6016) ⟨⟨trivial, trivial⟩, (cI_of x_6016)⟩ (fun t ht hW => ⟨x_6015, f_6007, f_6008, (cI_tup hG), Bw.to hP hD hK ht hW⟩) hS dX6_fitAt_63 hlocks
        · skip
          have hG := hG.trans (if_neg c_6014)
          have gc_6014 := ti_nle c_6014 rfl rfl
          refine lv_iload_n hx hb dX6_fitAt_31 rfl (lv_at hl 2 rfl) ?_
          refine lv_iload hx hb dX6_fitAt_32 (lv_at hl 0 rfl) ?_
          refine lv_ishr hx hb dX6_fitAt_34 ?_
          refine lv_topi (fun x_6017 ex_6017 => ?_)
          have hG := hG.trans (lt_eq ex_6017)
          have rg_x_6017 := fb_rng x_6017
          refine lv_iconst (v := 1) hx hb dX6_fitAt_35 (by decide) ?_
          refine lv_iand hx hb dX6_fitAt_36 ?_
          refine lv_topi (fun x_6018 ex_6018 => ?_)
          have hG := hG.trans (lt_eq ex_6018)
          have rg_x_6018 := fb_rng x_6018
          refine lv_iconst (v := 1) hx hb dX6_fitAt_37 (by decide) ?_
          refine lv_icmp_ne (tgt := 52) hx hb dX6_fitAt_38 (by decide) (fun c_6019 => ?_) (fun c_6019 => ?_)
          · skip
            have hG := hG.trans (if_neg c_6019)
            have gc_6019 := ti_ne c_6019 rfl kc_1
            obtain ⟨x_6020, ex_6020⟩ : ∃ z : Int32, z = z_6010 + Int32.ofInt 1 := ⟨_, rfl⟩
            have hG := hG.trans (lt_eq ex_6020)
            have vx_6020 : x_6020.toInt = z_6010.toInt + 1 := ti_add (y := 1) ex_6020 rfl kc_1 (om_4e4fce7e hi0_n_6012.1) (om_26fca3fc ux_6013.2 gc_6014)
            refine lv_iinc (v := x_6020) (lv' := [(4, .int x_6020), (3, .int z_6011), (2, .int x_6009), (0, .ref oK), (1, .int p0)]) hx hb dX6_fitAt_52 hl (k := 0) rfl ex_6020.symm (by decide) rfl (fun ls hl => ?_)
            refine lv_goto (tgt := 19) hx hb dX6_fitAt_55 (by decide) ?_
            exact ih_n_6012 x_6020 z_6011 _ _ _  ⟨(om_83b90de5 hi0_n_6012.1 vx_6020), (om_4b156bce ux_6013.2 gc_6014 vx_6020)⟩ (ms_lt hm_n_6012 (om_b9393183 vx_6020) (om_33376cd8 ux_6013.2 gc_6014)) hG hP hD hS (lv_sub hl [0, 1, 2, 3, 4] rfl)
          · skip
            have hG := hG.trans (if_pos c_6019)
            have gc_6019 := ti_eq c_6019 rfl kc_1
            refine lv_iload_n hx hb dX6_fitAt_41 rfl (lv_at hl 1 rfl) ?_
            refine lv_iload_n hx hb dX6_fitAt_42 rfl (lv_at hl 4 rfl) ?_
            refine lv_icmp_ne (tgt := 49) hx hb dX6_fitAt_43 (by decide) (fun c_6021 => ?_) (fun c_6021 => ?_)
            · skip
              have hG := hG.trans (if_neg c_6021)
              have gc_6021 := ti_ne c_6021 rfl rfl
              obtain ⟨x_6022, ex_6022⟩ : ∃ z : Int32, z = z_6011 + Int32.ofInt 1 := ⟨_, rfl⟩
              have hG := hG.trans (lt_eq ex_6022)
              have rg_x_6022 := fb_rng x_6022
              refine lv_iinc (v := x_6022) (lv' := [(3, .int x_6022), (4, .int z_6010), (2, .int x_6009), (0, .ref oK), (1, .int p0)]) hx hb dX6_fitAt_49 hl (k := 1) rfl ex_6022.symm (by decide) rfl (fun ls hl => ?_)
              obtain ⟨x_6023, ex_6023⟩ : ∃ z : Int32, z = z_6010 + Int32.ofInt 1 := ⟨_, rfl⟩
              have hG := hG.trans (lt_eq ex_6023)
              have vx_6023 : x_6023.toInt = z_6010.toInt + 1 := ti_add (y := 1) ex_6023 rfl kc_1 (om_4e4fce7e hi0_n_6012.1) (om_26fca3fc ux_6013.2 gc_6014)
              refine lv_iinc (v := x_6023) (lv' := [(4, .int x_6023), (3, .int x_6022), (2, .int x_6009), (0, .ref oK), (1, .int p0)]) hx hb dX6_fitAt_52 hl (k := 1) rfl ex_6023.symm (by decide) rfl (fun ls hl => ?_)
              refine lv_goto (tgt := 19) hx hb dX6_fitAt_55 (by decide) ?_
              exact ih_n_6012 x_6023 x_6022 _ _ _  ⟨(om_83b90de5 hi0_n_6012.1 vx_6023), (om_4b156bce ux_6013.2 gc_6014 vx_6023)⟩ (ms_lt hm_n_6012 (om_b9393183 vx_6023) (om_33376cd8 ux_6013.2 gc_6014)) hG hP hD hS (lv_sub hl [0, 1, 2, 3, 4] rfl)
            · skip
              have hG := hG.trans (if_pos c_6021)
              have gc_6021 := ti_eq c_6021 rfl rfl
              refine lv_iload hx hb dX6_fitAt_46 (lv_at hl 0 rfl) ?_
              exact wq_i hx hb hr (cI z_6010) ⟨⟨trivial, trivial⟩, (cI_of z_6010)⟩ (fun t ht hW => ⟨x_6003, f_6007, f_6008, (cI_tup hG), Bw.to hP hD hK ht hW⟩) hS dX6_fitAt_48 hlocks
    exact key_n_6012 (((2147483647 - (0 : Int32).toInt).toNat) + 1) 0 0 _ _ _  ⟨(om_b1de7dbe kc_0), (om_daf17c64 kc_0)⟩ (Nat.lt_add_one _) hG hP hD hS hl
  · skip
    have hG := hG.trans (un2_eq e_x_6003_0)
    have hG := hG.trans (if_neg (by decide))
    refine lv_if_eq (tgt := 9) hx hb dX6_fitAt_4 (by decide) (fun c => absurd c (by decide)) (fun _ => ?_)
    refine lv_iconst (v := (-1)) hx hb dX6_fitAt_7 (by decide) ?_
    exact wq_i hx hb hr (cI (-1)) ⟨⟨trivial, trivial⟩, (cI_of (-1))⟩ (fun t ht hW => ⟨x_6003, fL_values, fL_supposed, (cI_tup hG), Bw.to hP hD hK ht hW⟩) hS dX6_fitAt_8 hlocks
set_option maxHeartbeats 4000000 in
set_option maxRecDepth 100000 in
theorem tX6_odds (l : Launch) (dC : Nat → ClassId) (dI : Nat → Nat → Nat) (sz : Nat) (oK : Nat) (oR : Nat) (oC : Nat) (oS : Nat) (oT : Nat) (rK_images : Nat) (iK_imageCount : Int32) (oA : Nat) (oH : Nat) (oL : Nat) (iK_refusal : Int32) (iK_latestFault : Int32) (iK_latestPlace : Int32) (iC_nodes : Int32) (iC_words : Int32) (iC_chances : Int32) (iC_unsures : Int32) (iC_slips : Int32) (iC_throneNode : Int32) (iC_saidWorth : Int32) (iC_unit : Int32) (rC_kind : Nat) (fC_kind : Nat → Int32) (kC_kind : ClassId) (rC_parts : Nat) (fC_parts : Nat → Int32) (kC_parts : ClassId) (rC_partNodes : Nat) (fC_partNodes : Nat → Int32) (kC_partNodes : ClassId) (rC_weights : Nat) (fC_weights : Nat → Int32) (kC_weights : ClassId) (rC_weightSums : Nat) (fC_weightSums : Nat → Int32) (kC_weightSums : ClassId) (rC_toldWorths : Nat) (rC_steps : Nat) (rC_below : Nat) (rC_above : Nat) (rC_unsureWords : Nat) (fC_unsureWords : Nat → Int32) (kC_unsureWords : ClassId) (rC_unsureWorths : Nat) (fC_unsureWorths : Nat → Int32) (kC_unsureWorths : ClassId) (rS_worths : Nat) (fS_worths : Nat → Int32) (kS_worths : ClassId) (rS_order : Nat) (rS_left : Nat) (rL_values : Nat) (fL_values : Nat → Int32) (kL_values : ClassId) (rL_supposed : Nat) (fL_supposed : Nat → Int32) (kL_supposed : ClassId) (p0 : Int32) (p1 : Int32) (b_iK_imageCount : 0 ≤ iK_imageCount.toInt ∧ iK_imageCount.toInt ≤ 3) (b_iC_nodes : 0 ≤ iC_nodes.toInt ∧ iC_nodes.toInt ≤ 18) (b_iC_unsures : 0 ≤ iC_unsures.toInt ∧ iC_unsures.toInt ≤ 4) (b_iC_throneNode : (-1) ≤ iC_throneNode.toInt ∧ iC_throneNode.toInt ≤ 17) (a_fC_parts : ∀ j : Nat, j < 18 → 0 ≤ (fC_parts j).toInt ∧ (fC_parts j).toInt ≤ 4) (a_fC_partNodes : ∀ j : Nat, j < 72 → 0 ≤ (fC_partNodes j).toInt ∧ (fC_partNodes j).toInt ≤ 17) (a_fC_unsureWords : ∀ j : Nat, j < 4 → 0 ≤ (fC_unsureWords j).toInt ∧ (fC_unsureWords j).toInt ≤ 17)  : Met l yX6_odds (Cond.code yX6_odds cX6_odds 6 (some .long) :: wG) ({ frames := 4, cells := 0, slots := 0, locals := 95 }) (va_Pc [.ref oK, .int p0, .int p1] (Pw dC dI sz [(oc6 oK oR oC oS oT rK_images iK_imageCount oA oH oL iK_refusal iK_latestFault iK_latestPlace), (oc1 oC iC_nodes iC_words iC_chances iC_unsures iC_slips iC_throneNode iC_saidWorth iC_unit rC_kind rC_parts rC_partNodes rC_weights rC_weightSums rC_toldWorths rC_steps rC_below rC_above rC_unsureWords rC_unsureWorths), (arI rC_kind kC_kind 18 fC_kind), (arI rC_parts kC_parts 18 fC_parts), (arI rC_partNodes kC_partNodes 72 fC_partNodes), (arI rC_weights kC_weights 72 fC_weights), (arI rC_weightSums kC_weightSums 18 fC_weightSums), (arI rC_unsureWords kC_unsureWords 4 fC_unsureWords), (arI rC_unsureWorths kC_unsureWorths 4 fC_unsureWorths), (oc5 oS rS_worths rS_order rS_left), (arI rS_worths kS_worths 18 fS_worths), (oc4 oL rL_values rL_supposed), (arI rL_values kL_values 18 fL_values), (arI rL_supposed kL_supposed 18 fL_supposed)] [(kC_kind, .int), (kC_parts, .int), (kC_partNodes, .int), (kC_weights, .int), (kC_weightSums, .int), (kC_unsureWords, .int), (kC_unsureWorths, .int), (kS_worths, .int), (kL_values, .int), (kL_supposed, .int)])) (va_Ql (fun (r : Int64) (u : Nat) => (True ∧ True) ∧ r = Int64.ofNat u) (fun (u : Nat) (t : State) => ∃ (niK_refusal : Int32) (nfL_values : Nat → Int32) (nfL_supposed : Nat → Int32), (PX6_odds iC_nodes iC_unsures iC_slips iC_throneNode iC_unit fC_kind fC_parts fC_partNodes fC_weights fC_weightSums fC_unsureWords fC_unsureWorths fS_worths fL_values fL_supposed p0 p1 = (Int64.ofNat u, niK_refusal, nfL_values, nfL_supposed)) ∧ Bw dC dI (va_A [(oc6 oK oR oC oS oT rK_images iK_imageCount oA oH oL iK_refusal iK_latestFault iK_latestPlace), (oc1 oC iC_nodes iC_words iC_chances iC_unsures iC_slips iC_throneNode iC_saidWorth iC_unit rC_kind rC_parts rC_partNodes rC_weights rC_weightSums rC_toldWorths rC_steps rC_below rC_above rC_unsureWords rC_unsureWorths), (arI rC_kind kC_kind 18 fC_kind), (arI rC_parts kC_parts 18 fC_parts), (arI rC_partNodes kC_partNodes 72 fC_partNodes), (arI rC_weights kC_weights 72 fC_weights), (arI rC_weightSums kC_weightSums 18 fC_weightSums), (arI rC_unsureWords kC_unsureWords 4 fC_unsureWords), (arI rC_unsureWorths kC_unsureWorths 4 fC_unsureWorths), (oc5 oS rS_worths rS_order rS_left), (arI rS_worths kS_worths 18 fS_worths), (oc4 oL rL_values rL_supposed), (arI rL_values kL_values 18 fL_values), (arI rL_supposed kL_supposed 18 fL_supposed)] sz) [(oc6 oK oR oC oS oT rK_images iK_imageCount oA oH oL niK_refusal iK_latestFault iK_latestPlace), (oc1 oC iC_nodes iC_words iC_chances iC_unsures iC_slips iC_throneNode iC_saidWorth iC_unit rC_kind rC_parts rC_partNodes rC_weights rC_weightSums rC_toldWorths rC_steps rC_below rC_above rC_unsureWords rC_unsureWorths), (arI rC_kind kC_kind 18 fC_kind), (arI rC_parts kC_parts 18 fC_parts), (arI rC_partNodes kC_partNodes 72 fC_partNodes), (arI rC_weights kC_weights 72 fC_weights), (arI rC_weightSums kC_weightSums 18 fC_weightSums), (arI rC_unsureWords kC_unsureWords 4 fC_unsureWords), (arI rC_unsureWorths kC_unsureWorths 4 fC_unsureWorths), (oc5 oS rS_worths rS_order rS_left), (arI rS_worths kS_worths 18 fS_worths), (oc4 oL rL_values rL_supposed), (arI rL_values kL_values 18 nfL_values), (arI rL_supposed kL_supposed 18 nfL_supposed)] [(kC_kind, .int), (kC_parts, .int), (kC_partNodes, .int), (kC_weights, .int), (kC_weightSums, .int), (kC_unsureWords, .int), (kC_unsureWorths, .int), (kS_worths, .int), (kL_values, .int), (kL_supposed, .int)] t) (va_A [(oc6 oK oR oC oS oT rK_images iK_imageCount oA oH oL iK_refusal iK_latestFault iK_latestPlace), (oc1 oC iC_nodes iC_words iC_chances iC_unsures iC_slips iC_throneNode iC_saidWorth iC_unit rC_kind rC_parts rC_partNodes rC_weights rC_weightSums rC_toldWorths rC_steps rC_below rC_above rC_unsureWords rC_unsureWorths), (arI rC_kind kC_kind 18 fC_kind), (arI rC_parts kC_parts 18 fC_parts), (arI rC_partNodes kC_partNodes 72 fC_partNodes), (arI rC_weights kC_weights 72 fC_weights), (arI rC_weightSums kC_weightSums 18 fC_weightSums), (arI rC_unsureWords kC_unsureWords 4 fC_unsureWords), (arI rC_unsureWorths kC_unsureWorths 4 fC_unsureWorths), (oc5 oS rS_worths rS_order rS_left), (arI rS_worths kS_worths 18 fS_worths), (oc4 oL rL_values rL_supposed), (arI rL_values kL_values 18 fL_values), (arI rL_supposed kL_supposed 18 fL_supposed)] sz)) 0 0 (va_A [(oc6 oK oR oC oS oT rK_images iK_imageCount oA oH oL iK_refusal iK_latestFault iK_latestPlace), (oc1 oC iC_nodes iC_words iC_chances iC_unsures iC_slips iC_throneNode iC_saidWorth iC_unit rC_kind rC_parts rC_partNodes rC_weights rC_weightSums rC_toldWorths rC_steps rC_below rC_above rC_unsureWords rC_unsureWorths), (arI rC_kind kC_kind 18 fC_kind), (arI rC_parts kC_parts 18 fC_parts), (arI rC_partNodes kC_partNodes 72 fC_partNodes), (arI rC_weights kC_weights 72 fC_weights), (arI rC_weightSums kC_weightSums 18 fC_weightSums), (arI rC_unsureWords kC_unsureWords 4 fC_unsureWords), (arI rC_unsureWorths kC_unsureWorths 4 fC_unsureWorths), (oc5 oS rS_worths rS_order rS_left), (arI rS_worths kS_worths 18 fS_worths), (oc4 oL rL_values rL_supposed), (arI rL_values kL_values 18 fL_values), (arI rL_supposed kL_supposed 18 fL_supposed)] sz) := by
  refine Met.ofW (cc := cX6_odds) (maxL := 6) (ret := (some .long)) pnX6 rfl ?_
  intro p e s m args below meth c s₁ B hml hv
  obtain ⟨rfl, hsz, hP, hK, hD0, hE⟩ := hv
  have hx := B.exec
  have hb := B.bytes
  have hr := B.returns
  have hts : ∀ w ∈ wG, w.before ([.ref oK, .int p0, .int p1] : List Value).toArray s = true := fun w h => atoms_spec (ws := Cond.code yX6_odds cX6_odds 6 (some .long) :: wG) B.pre w (List.mem_cons_of_mem _ h)
  have hown : s.vm.findClass RX6 = some m.cls := own_of B.named rfl
  have hlocks := B.notSynchronized
  subst hsz
  have hD := hD0.self (sz := s.heap.size)
  generalize hAe : va_A [(oc6 oK oR oC oS oT rK_images iK_imageCount oA oH oL iK_refusal iK_latestFault iK_latestPlace), (oc1 oC iC_nodes iC_words iC_chances iC_unsures iC_slips iC_throneNode iC_saidWorth iC_unit rC_kind rC_parts rC_partNodes rC_weights rC_weightSums rC_toldWorths rC_steps rC_below rC_above rC_unsureWords rC_unsureWorths), (arI rC_kind kC_kind 18 fC_kind), (arI rC_parts kC_parts 18 fC_parts), (arI rC_partNodes kC_partNodes 72 fC_partNodes), (arI rC_weights kC_weights 72 fC_weights), (arI rC_weightSums kC_weightSums 18 fC_weightSums), (arI rC_unsureWords kC_unsureWords 4 fC_unsureWords), (arI rC_unsureWorths kC_unsureWorths 4 fC_unsureWorths), (oc5 oS rS_worths rS_order rS_left), (arI rS_worths kS_worths 18 fS_worths), (oc4 oL rL_values rL_supposed), (arI rL_values kL_values 18 fL_values), (arI rL_supposed kL_supposed 18 fL_supposed)] s.heap.size = A at hD hE ⊢
  have hA : ∀ q : Nat, s.heap.size ≤ q → A q := fun q h => by rw [← hAe]; exact Or.inr h
  have hS : va_S A s.heap s.heap [] := va_S.rf
  have hl := lv_entry ([.ref oK, .int p0, .int p1]) (n := 6) (Nat.le_of_ble_eq_true rfl)
  rw [lg_entry_eq]
  generalize (lg_sl ([.ref oK, .int p0, .int p1]) ++ List.replicate (6 - (lg_sl ([.ref oK, .int p0, .int p1])).length) Slot.unset).toArray = ls at hl ⊢
  have hl : lv_has ls 6 [(0, .ref oK), (1, .int p0), (2, .int p1)] := hl
  have hG := PX6_odds_eq iC_nodes iC_unsures iC_slips iC_throneNode iC_unit fC_kind fC_parts fC_partNodes fC_weights fC_weightSums fC_unsureWords fC_unsureWorths fS_worths fL_values fL_supposed p0 p1
  have rg_p0 := fb_rng p0
  have rg_p1 := fb_rng p1
  refine lv_aload_n hx hb dX6_odds_0 rfl (lv_at hl 0 rfl) ?_
  refine lv_iload_n hx hb dX6_odds_1 rfl (lv_at hl 1 rfl) ?_
  refine lv_iconst (v := 0) hx hb dX6_odds_2 (by decide) ?_
  refine lv_bipush (v := 99) hx hb dX6_odds_3 (by decide) ?_
  have hMs := ml_of hD [true, true, false, false, false, false, false, false, false, false, false, false, false, false] (wc := [(oc6 oK oR oC oS oT rK_images iK_imageCount oA oH oL iK_refusal iK_latestFault iK_latestPlace), (oc1 oC iC_nodes iC_words iC_chances iC_unsures iC_slips iC_throneNode iC_saidWorth iC_unit rC_kind rC_parts rC_partNodes rC_weights rC_weightSums rC_toldWorths rC_steps rC_below rC_above rC_unsureWords rC_unsureWorths)]) rfl
  have hFc := va_freeM hD hS hA _ hMs
  refine va_calli (va_runV (As := [.int p0, .int 0, .int 99]) (rest := []) ⟨hx, hb, hml, hown, hts⟩ (tX6_lacksNumber l dC dI _ oK oR oC oS oT rK_images iK_imageCount oA oH oL iK_refusal iK_latestFault iK_latestPlace iC_nodes iC_words iC_chances iC_unsures iC_slips iC_throneNode iC_saidWorth iC_unit rC_kind rC_parts rC_partNodes rC_weights rC_weightSums rC_toldWorths rC_steps rC_below rC_above rC_unsureWords rC_unsureWorths p0 0 99 b_iK_imageCount b_iC_nodes b_iC_unsures b_iC_throneNode) (cwV 3 hts (wd_V wd_866 wd_867 wd_868 wd_2 (wd_c wd_869)) rfl rfl rfl dv_yX6_lacksNumber_3 ⟨Nat.le_of_ble_eq_true rfl, Nat.le_of_ble_eq_true rfl⟩) ⟨Pw.fb, recvX6 hK hP (q0 := 0) rfl, fun U hU hW => Pw.to (hP.ms _ hMs) (hD.ms _ hMs) (hK.ms [false, false, false, false, false, false, false, false, false, false] rfl) hE hS hFc hU hW⟩ rfl rfl hl.1 rfl (lv_room (Nat.le_of_ble_eq_true rfl)) dX6_odds_5 ⟨Nat.le_of_ble_eq_true rfl, Nat.le_of_ble_eq_true rfl⟩) hS (fun q _ h => hFc q h) hFc (fun r u t H locs ht hvm hw hB hz1 hk1 hS => ?_)
  have hru9 := hw.2
  have hw := hw.1
  refine ex_1_1 hB (fun x_6082 e_x_6082_0 hB => ?_)
  obtain ⟨hP, hD⟩ := Bw.goN (ws' := [(oc6 oK oR oC oS oT rK_images iK_imageCount oA oH oL x_6082 iK_latestFault iK_latestPlace), (oc1 oC iC_nodes iC_words iC_chances iC_unsures iC_slips iC_throneNode iC_saidWorth iC_unit rC_kind rC_parts rC_partNodes rC_weights rC_weightSums rC_toldWorths rC_steps rC_below rC_above rC_unsureWords rC_unsureWorths), (arI rC_kind kC_kind 18 fC_kind), (arI rC_parts kC_parts 18 fC_parts), (arI rC_partNodes kC_partNodes 72 fC_partNodes), (arI rC_weights kC_weights 72 fC_weights), (arI rC_weightSums kC_weightSums 18 fC_weightSums), (arI rC_unsureWords kC_unsureWords 4 fC_unsureWords), (arI rC_unsureWorths kC_unsureWorths 4 fC_unsureWorths), (oc5 oS rS_worths rS_order rS_left), (arI rS_worths kS_worths 18 fS_worths), (oc4 oL rL_values rL_supposed), (arI rL_values kL_values 18 fL_values), (arI rL_supposed kL_supposed 18 fL_supposed)]) hB rfl ht hP hD _ hMs hk1 hFc rfl
  clear hz1 hk1 hvm ht hB hMs
  have rg_x_6082 := fb_rng x_6082
  rw [← hru9] at e_x_6082_0
  rcases hw.2 with ⟨rfl, hc_6083⟩ | ⟨rfl, hc_6083⟩
  · skip
    have rg_iC_nodes := fb_rng iC_nodes
    have hG := hG.trans (un2_eq e_x_6082_0)
    have hG := hG.trans (if_pos rfl)
    refine lv_if_eq (tgt := 15) hx hb dX6_odds_8 (by decide) (fun _ => ?_) (fun c => absurd c (by decide))
    refine lv_lconst (v := 0) hx hb dX6_odds_15 (by decide) ?_
    refine lv_lstore_n (lv' := [(3, .long 0), (0, .ref oK), (1, .int p0), (2, .int p1)]) hx hb dX6_odds_16 rfl hl (by decide) rfl (fun ls hl => ?_)
    refine lv_iconst (v := 0) hx hb dX6_odds_17 (by decide) ?_
    refine lv_istore (lv' := [(5, .int 0), (3, .long 0), (0, .ref oK), (1, .int p0), (2, .int p1)]) hx hb dX6_odds_18 hl (by decide) rfl (fun ls hl => ?_)
    have hl := lv_sub hl (l' := [(5, .int 0), (3, .long 0), (0, .ref oK), (1, .int p0), (2, .int p1)]) [0, 1, 2, 3, 4] rfl
    have key_n_6090 : ∀ (n_6090 : Nat) (z_6086 : Int32) (z_6087 : Int64) (f_6088 : Nat → Int32) (f_6089 : Nat → Int32) (H : Heap) (locs : List Loc) (ls : Array Slot), (0 ≤ z_6086.toInt ∧ z_6086.toInt ≤ 2147483647) → (2147483647 - z_6086.toInt).toNat < n_6090 → (PX6_odds iC_nodes iC_unsures iC_slips iC_throneNode iC_unit fC_kind fC_parts fC_partNodes fC_weights fC_weightSums fC_unsureWords fC_unsureWorths fS_worths fL_values fL_supposed p0 p1 = HX6_odds_0 iC_nodes iC_unsures iC_slips iC_throneNode iC_unit fC_kind fC_parts fC_partNodes fC_weights fC_weightSums fC_unsureWords fC_unsureWorths fS_worths p0 p1 x_6082 n_6090 z_6086 z_6087 f_6088 f_6089) → va_P (dC, dI) vwCl [(oc6 oK oR oC oS oT rK_images iK_imageCount oA oH oL x_6082 iK_latestFault iK_latestPlace), (oc1 oC iC_nodes iC_words iC_chances iC_unsures iC_slips iC_throneNode iC_saidWorth iC_unit rC_kind rC_parts rC_partNodes rC_weights rC_weightSums rC_toldWorths rC_steps rC_below rC_above rC_unsureWords rC_unsureWorths), (arI rC_kind kC_kind 18 fC_kind), (arI rC_parts kC_parts 18 fC_parts), (arI rC_partNodes kC_partNodes 72 fC_partNodes), (arI rC_weights kC_weights 72 fC_weights), (arI rC_weightSums kC_weightSums 18 fC_weightSums), (arI rC_unsureWords kC_unsureWords 4 fC_unsureWords), (arI rC_unsureWorths kC_unsureWorths 4 fC_unsureWorths), (oc5 oS rS_worths rS_order rS_left), (arI rS_worths kS_worths 18 fS_worths), (oc4 oL rL_values rL_supposed), (arI rL_values kL_values 18 f_6088), (arI rL_supposed kL_supposed 18 f_6089)] H → va_D A [(oc6 oK oR oC oS oT rK_images iK_imageCount oA oH oL x_6082 iK_latestFault iK_latestPlace), (oc1 oC iC_nodes iC_words iC_chances iC_unsures iC_slips iC_throneNode iC_saidWorth iC_unit rC_kind rC_parts rC_partNodes rC_weights rC_weightSums rC_toldWorths rC_steps rC_below rC_above rC_unsureWords rC_unsureWorths), (arI rC_kind kC_kind 18 fC_kind), (arI rC_parts kC_parts 18 fC_parts), (arI rC_partNodes kC_partNodes 72 fC_partNodes), (arI rC_weights kC_weights 72 fC_weights), (arI rC_weightSums kC_weightSums 18 fC_weightSums), (arI rC_unsureWords kC_unsureWords 4 fC_unsureWords), (arI rC_unsureWorths kC_unsureWorths 4 fC_unsureWorths), (oc5 oS rS_worths rS_order rS_left), (arI rS_worths kS_worths 18 fS_worths), (oc4 oL rL_values rL_supposed), (arI rL_values kL_values 18 f_6088), (arI rL_supposed kL_supposed 18 f_6089)] → va_S A s.heap H locs → lv_has ls 6 [(5, .int z_6086), (3, .long z_6087), (0, .ref oK), (1, .int p0), (2, .int p1)] → W p l e (headSpec (Cond.code yX6_odds cX6_odds 6 (some .long) :: wG) ({ frames := 4, cells := 0, slots := 0, locals := 95 })).room s m ([.ref oK, .int p0, .int p1] : List Value).toArray below meth c H locs 0 0 (MQ below (va_Ql (fun (r : Int64) (u : Nat) => (True ∧ True) ∧ r = Int64.ofNat u) (fun (u : Nat) (t : State) => ∃ (niK_refusal : Int32) (nfL_values : Nat → Int32) (nfL_supposed : Nat → Int32), (PX6_odds iC_nodes iC_unsures iC_slips iC_throneNode iC_unit fC_kind fC_parts fC_partNodes fC_weights fC_weightSums fC_unsureWords fC_unsureWorths fS_worths fL_values fL_supposed p0 p1 = (Int64.ofNat u, niK_refusal, nfL_values, nfL_supposed)) ∧ Bw dC dI A [(oc6 oK oR oC oS oT rK_images iK_imageCount oA oH oL niK_refusal iK_latestFault iK_latestPlace), (oc1 oC iC_nodes iC_words iC_chances iC_unsures iC_slips iC_throneNode iC_saidWorth iC_unit rC_kind rC_parts rC_partNodes rC_weights rC_weightSums rC_toldWorths rC_steps rC_below rC_above rC_unsureWords rC_unsureWorths), (arI rC_kind kC_kind 18 fC_kind), (arI rC_parts kC_parts 18 fC_parts), (arI rC_partNodes kC_partNodes 72 fC_partNodes), (arI rC_weights kC_weights 72 fC_weights), (arI rC_weightSums kC_weightSums 18 fC_weightSums), (arI rC_unsureWords kC_unsureWords 4 fC_unsureWords), (arI rC_unsureWorths kC_unsureWorths 4 fC_unsureWorths), (oc5 oS rS_worths rS_order rS_left), (arI rS_worths kS_worths 18 fS_worths), (oc4 oL rL_values rL_supposed), (arI rL_values kL_values 18 nfL_values), (arI rL_supposed kL_supposed 18 nfL_supposed)] [(kC_kind, .int), (kC_parts, .int), (kC_partNodes, .int), (kC_weights, .int), (kC_weightSums, .int), (kC_unsureWords, .int), (kC_unsureWorths, .int), (kS_worths, .int), (kL_values, .int), (kL_supposed, .int)] t) A) ([.ref oK, .int p0, .int p1] : List Value).toArray s 0 0 A) (F0 m 20 ls []) := by
      intro n_6090
      induction n_6090 with
      | zero => intro z_6086 z_6087 f_6088 f_6089 H locs ls hi0_n_6090 hm; exact absurd hm (Nat.not_lt_zero _)
      | succ n_6090 ih_n_6090 =>
        intro z_6086 z_6087 f_6088 f_6089 H locs ls hi0_n_6090 hm_n_6090 hG hP hD hS hl
        have hG := hG.trans (HX6_odds_0_eq _ _ _ _ _ _ _ _ _ _ _ _ _ _ _ _ _ _ _ _ _)
        have rg_z_6086 := fb_rng z_6086
        refine lv_iload hx hb dX6_odds_20 (lv_at hl 0 rfl) ?_
        refine lv_aload_n hx hb dX6_odds_22 rfl (lv_at hl 2 rfl) ?_
        refine va_get (D := (dC, dI)) (ci := 6) (v := .ref oC) (C := RX6) (T := TX6) (N := 12) hx hb hts inX6 hown hK hP 0 rfl rfl 1 (by decide) (hts _ wd_20) (fun _ h9 => h9) rfl dX6_odds_23 ?_
        have hMs := ml_of hD [false, true, false, false, false, false, false, false, false, false, false, false, false, false] (wc := [(oc1 oC iC_nodes iC_words iC_chances iC_unsures iC_slips iC_throneNode iC_saidWorth iC_unit rC_kind rC_parts rC_partNodes rC_weights rC_weightSums rC_toldWorths rC_steps rC_below rC_above rC_unsureWords rC_unsureWorths)]) rfl
        have hFc := va_freeM hD hS hA _ hMs
        refine va_calli (va_runV (As := []) (rest := [.int z_6086]) ⟨hx, hb, hml, hown, hts⟩ (tX1_unsureSets l dC dI _ oC iC_nodes iC_words iC_chances iC_unsures iC_slips iC_throneNode iC_saidWorth iC_unit rC_kind rC_parts rC_partNodes rC_weights rC_weightSums rC_toldWorths rC_steps rC_below rC_above rC_unsureWords rC_unsureWorths b_iC_nodes b_iC_unsures b_iC_throneNode) (cwV 0 hts (wd_V wd_1165 wd_1166 wd_1167 wd_19 (wd_c wd_1168)) rfl rfl rfl dv_yX1_unsureSets_0 ⟨Nat.le_of_ble_eq_true rfl, Nat.le_of_ble_eq_true rfl⟩) ⟨Pw.fb, recvX1 hK hP (q0 := 1) rfl, fun U hU hW => Pw.to (hP.ms _ hMs) (hD.ms _ hMs) (hK.ms [false, false, false, false, false, false, false, false, false, false] rfl) hE hS hFc hU hW⟩ rfl rfl hl.1 rfl (lv_room (Nat.le_of_ble_eq_true rfl)) dX6_odds_26 ⟨Nat.le_of_ble_eq_true rfl, Nat.le_of_ble_eq_true rfl⟩) hS (fun q _ h => hFc q h) hFc (fun r u t H locs ht hvm hw hB hz1 hk1 hS => ?_)
        have hru9 := hw.2
        have hw := hw.1
        obtain ⟨hP, hD⟩ := Bw.goN (ws' := [(oc6 oK oR oC oS oT rK_images iK_imageCount oA oH oL x_6082 iK_latestFault iK_latestPlace), (oc1 oC iC_nodes iC_words iC_chances iC_unsures iC_slips iC_throneNode iC_saidWorth iC_unit rC_kind rC_parts rC_partNodes rC_weights rC_weightSums rC_toldWorths rC_steps rC_below rC_above rC_unsureWords rC_unsureWorths), (arI rC_kind kC_kind 18 fC_kind), (arI rC_parts kC_parts 18 fC_parts), (arI rC_partNodes kC_partNodes 72 fC_partNodes), (arI rC_weights kC_weights 72 fC_weights), (arI rC_weightSums kC_weightSums 18 fC_weightSums), (arI rC_unsureWords kC_unsureWords 4 fC_unsureWords), (arI rC_unsureWorths kC_unsureWorths 4 fC_unsureWorths), (oc5 oS rS_worths rS_order rS_left), (arI rS_worths kS_worths 18 fS_worths), (oc4 oL rL_values rL_supposed), (arI rL_values kL_values 18 f_6088), (arI rL_supposed kL_supposed 18 f_6089)]) hB rfl ht hP hD _ hMs hk1 hFc rfl
        clear hz1 hk1 hvm ht hB hMs
        obtain ⟨x_6091, rfl⟩ : ∃ z, z = r := ⟨_, rfl⟩
        have hG := hG.trans (lt_eq hru9.symm)
        have rg_x_6091 := fb_rng x_6091
        have ux_6091 := hw.2
        refine lv_icmp_ge (tgt := 82) hx hb dX6_odds_29 (by decide) (fun c_6092 => ?_) (fun c_6092 => ?_)
        · skip
          have hG := hG.trans (if_pos c_6092)
          have gc_6092 := ti_le c_6092 rfl rfl
          refine lv_lload_n hx hb dX6_odds_82 rfl (lv_at hl 1 rfl) ?_
          refine lv_aload_n hx hb dX6_odds_83 rfl (lv_at hl 2 rfl) ?_
          refine va_get (D := (dC, dI)) (ci := 6) (v := .ref oC) (C := RX6) (T := TX6) (N := 12) hx hb hts inX6 hown hK hP 0 rfl rfl 1 (by decide) (hts _ wd_20) (fun _ h9 => h9) rfl dX6_odds_84 ?_
          have hMs := ml_of hD [false, true, false, false, false, false, false, false, false, false, false, false, false, false] (wc := [(oc1 oC iC_nodes iC_words iC_chances iC_unsures iC_slips iC_throneNode iC_saidWorth iC_unit rC_kind rC_parts rC_partNodes rC_weights rC_weightSums rC_toldWorths rC_steps rC_below rC_above rC_unsureWords rC_unsureWorths)]) rfl
          have hFc := va_freeM hD hS hA _ hMs
          refine va_calll (va_runV (As := []) (rest := [.long z_6087]) ⟨hx, hb, hml, hown, hts⟩ (tX1_allLikelihood l dC dI _ oC iC_nodes iC_words iC_chances iC_unsures iC_slips iC_throneNode iC_saidWorth iC_unit rC_kind rC_parts rC_partNodes rC_weights rC_weightSums rC_toldWorths rC_steps rC_below rC_above rC_unsureWords rC_unsureWorths b_iC_nodes b_iC_unsures b_iC_throneNode) (cwV 0 hts (wd_V wd_1262 wd_1263 wd_1264 wd_19 (wd_c wd_1265)) rfl rfl rfl dv_yX1_allLikelihood_0 ⟨Nat.le_of_ble_eq_true rfl, Nat.le_of_ble_eq_true rfl⟩) ⟨Pw.fb, recvX1 hK hP (q0 := 1) rfl, fun U hU hW => Pw.to (hP.ms _ hMs) (hD.ms _ hMs) (hK.ms [false, false, false, false, false, false, false, false, false, false] rfl) hE hS hFc hU hW⟩ rfl rfl hl.1 rfl (lv_room (Nat.le_of_ble_eq_true rfl)) dX6_odds_87 ⟨Nat.le_of_ble_eq_true rfl, Nat.le_of_ble_eq_true rfl⟩) hS (fun q _ h => hFc q h) hFc (fun r u t H locs ht hvm hw hB hz1 hk1 hS => ?_)
          have hru9 := hw.2
          have hw := hw.1
          obtain ⟨hP, hD⟩ := Bw.goN (ws' := [(oc6 oK oR oC oS oT rK_images iK_imageCount oA oH oL x_6082 iK_latestFault iK_latestPlace), (oc1 oC iC_nodes iC_words iC_chances iC_unsures iC_slips iC_throneNode iC_saidWorth iC_unit rC_kind rC_parts rC_partNodes rC_weights rC_weightSums rC_toldWorths rC_steps rC_below rC_above rC_unsureWords rC_unsureWorths), (arI rC_kind kC_kind 18 fC_kind), (arI rC_parts kC_parts 18 fC_parts), (arI rC_partNodes kC_partNodes 72 fC_partNodes), (arI rC_weights kC_weights 72 fC_weights), (arI rC_weightSums kC_weightSums 18 fC_weightSums), (arI rC_unsureWords kC_unsureWords 4 fC_unsureWords), (arI rC_unsureWorths kC_unsureWorths 4 fC_unsureWorths), (oc5 oS rS_worths rS_order rS_left), (arI rS_worths kS_worths 18 fS_worths), (oc4 oL rL_values rL_supposed), (arI rL_values kL_values 18 f_6088), (arI rL_supposed kL_supposed 18 f_6089)]) hB rfl ht hP hD _ hMs hk1 hFc rfl
          clear hz1 hk1 hvm ht hB hMs
          obtain ⟨y_6093, rfl⟩ : ∃ z, z = r := ⟨_, rfl⟩
          have hG := hG.trans (lt_eq hru9.symm)
          refine lv_iload_n hx hb dX6_odds_90 rfl (lv_at hl 4 rfl) ?_
          have hFc : ∀ q, va_A [] _ q → A q := fun q h => hA q (Nat.le_trans hS.1 (va_nilA h))
          refine va_calll (va_runS (As := [.long z_6087, .long y_6093, .int p1]) (rest := []) ⟨hx, hb, hml, hown, hts⟩ (tX6_inLowestTerms l dC dI _ z_6087 y_6093 p1 ) (va_cwS 3 hts (wd_S wd_635 wd_636 wd_2 (wd_c wd_637)) rfl rfl rfl ds_yX6_inLowestTerms_3 ⟨Nat.le_of_ble_eq_true rfl, Nat.le_of_ble_eq_true rfl⟩) ⟨Pw.fb, fun U hU hW => Pn.to hK hE hS hA hU hW⟩ rfl rfl hl.1 rfl (lv_room (Nat.le_of_ble_eq_true rfl)) dX6_odds_91 ⟨Nat.le_of_ble_eq_true rfl, Nat.le_of_ble_eq_true rfl⟩) hS (fun q _ h => hFc q h) hFc (fun r u t H locs ht hvm hw hB hz1 hk1 hS => ?_)
          obtain ⟨hP, hD, hK⟩ := Bw.same ht hvm hP hD hK hk1 hFc
          clear hz1 hk1 hvm ht hB
          have hq9 := hw.2
          have hw := hw.1
          obtain ⟨y_6094, rfl⟩ : ∃ z, z = r := ⟨_, rfl⟩
          have hq_y_6094 := hq9
          have hG := hG.trans (lt_eq hq_y_6094.symm)
          exact wq_l hx hb hr (cL y_6094) ⟨⟨trivial, trivial⟩, (cL_of y_6094)⟩ (fun t ht hW => ⟨x_6082, f_6088, f_6089, (cL_tup hG), Bw.to hP hD hK ht hW⟩) hS dX6_odds_94 hlocks
        · skip
          have hG := hG.trans (if_neg c_6092)
          have gc_6092 := ti_nle c_6092 rfl rfl
          refine lv_aload_n hx hb dX6_odds_32 rfl (lv_at hl 2 rfl) ?_
          refine va_get (D := (dC, dI)) (ci := 6) (v := .ref oL) (C := RX6) (T := TX6) (N := 12) hx hb hts inX6 hown hK hP 0 rfl rfl 8 (by decide) (hts _ wd_38) (fun _ h9 => h9) rfl dX6_odds_33 ?_
          refine lv_aload_n hx hb dX6_odds_36 rfl (lv_at hl 2 rfl) ?_
          refine va_get (D := (dC, dI)) (ci := 6) (v := .ref oC) (C := RX6) (T := TX6) (N := 12) hx hb hts inX6 hown hK hP 0 rfl rfl 1 (by decide) (hts _ wd_20) (fun _ h9 => h9) rfl dX6_odds_37 ?_
          refine lv_aload_n hx hb dX6_odds_40 rfl (lv_at hl 2 rfl) ?_
          refine va_get (D := (dC, dI)) (ci := 6) (v := .ref oS) (C := RX6) (T := TX6) (N := 12) hx hb hts inX6 hown hK hP 0 rfl rfl 2 (by decide) (hts _ wd_24) (fun _ h9 => h9) rfl dX6_odds_41 ?_
          refine va_get (D := (dC, dI)) (ci := 5) (v := .ref rS_worths) (C := RX5) (T := TX5) (N := 3) hx hb hts inX5 hown hK hP 9 rfl rfl 0 (by decide) (hts _ wd_609) (fun _ h9 => h9) rfl dX6_odds_44 ?_
          refine lv_iload hx hb dX6_odds_47 (lv_at hl 0 rfl) ?_
          have hFc := va_free (wc := [(oc4 oL rL_values rL_supposed), (arI rL_values kL_values 18 f_6088), (arI rL_supposed kL_supposed 18 f_6089), (oc1 oC iC_nodes iC_words iC_chances iC_unsures iC_slips iC_throneNode iC_saidWorth iC_unit rC_kind rC_parts rC_partNodes rC_weights rC_weightSums rC_toldWorths rC_steps rC_below rC_above rC_unsureWords rC_unsureWorths), (arI rC_kind kC_kind 18 fC_kind), (arI rC_parts kC_parts 18 fC_parts), (arI rC_partNodes kC_partNodes 72 fC_partNodes), (arI rC_weights kC_weights 72 fC_weights), (arI rC_weightSums kC_weightSums 18 fC_weightSums), (arI rC_unsureWords kC_unsureWords 4 fC_unsureWords), (arI rC_unsureWorths kC_unsureWorths 4 fC_unsureWorths), (arI rS_worths kS_worths 18 fS_worths)]) hD hS hA [11, 12, 13, 1, 2, 3, 4, 5, 6, 7, 8, 10] rfl
          refine va_calli (va_runV (As := [.ref oC, .ref rS_worths, .int z_6086]) (rest := []) ⟨hx, hb, hml, hown, hts⟩ (tX4_throneByUnsure l dC dI _ oL rL_values f_6088 kL_values rL_supposed f_6089 kL_supposed oC iC_nodes iC_words iC_chances iC_unsures iC_slips iC_throneNode iC_saidWorth iC_unit rC_kind fC_kind kC_kind rC_parts fC_parts kC_parts rC_partNodes fC_partNodes kC_partNodes rC_weights fC_weights kC_weights rC_weightSums fC_weightSums kC_weightSums rC_toldWorths rC_steps rC_below rC_above rC_unsureWords fC_unsureWords kC_unsureWords rC_unsureWorths fC_unsureWorths kC_unsureWorths rS_worths fS_worths kS_worths z_6086 b_iC_nodes b_iC_unsures b_iC_throneNode a_fC_parts a_fC_partNodes a_fC_unsureWords) (cwV 3 hts (wd_V wd_1169 wd_1170 wd_1171 wd_37 (wd_c wd_1172)) rfl rfl rfl dv_yX4_throneByUnsure_3 ⟨Nat.le_of_ble_eq_true rfl, Nat.le_of_ble_eq_true rfl⟩) ⟨Pw.fb, recvX4 hK hP (q0 := 11) rfl, fun U hU hW => Pw.to (hP.sub [11, 12, 13, 1, 2, 3, 4, 5, 6, 7, 8, 10] rfl) (hD.sub [11, 12, 13, 1, 2, 3, 4, 5, 6, 7, 8, 10] (by decide) rfl) (hK.sub [8, 9, 0, 1, 2, 3, 4, 5, 6, 7] rfl) hE hS hFc hU hW⟩ rfl rfl hl.1 rfl (lv_room (Nat.le_of_ble_eq_true rfl)) dX6_odds_49 ⟨Nat.le_of_ble_eq_true rfl, Nat.le_of_ble_eq_true rfl⟩) hS (fun q _ h => hFc q h) hFc (fun r u t H locs ht hvm hw hB hz1 hk1 hS => ?_)
          have hru9 := hw.2
          have hw := hw.1
          refine ex_2_1 hB (fun f_6095 f_6096 e_f_6095_0 hB => ?_)
          obtain ⟨hP, hD, hK⟩ := Bw.go (ws' := [(oc6 oK oR oC oS oT rK_images iK_imageCount oA oH oL x_6082 iK_latestFault iK_latestPlace), (oc5 oS rS_worths rS_order rS_left), (oc4 oL rL_values rL_supposed), (arI rL_values kL_values 18 f_6095), (arI rL_supposed kL_supposed 18 f_6096), (oc1 oC iC_nodes iC_words iC_chances iC_unsures iC_slips iC_throneNode iC_saidWorth iC_unit rC_kind rC_parts rC_partNodes rC_weights rC_weightSums rC_toldWorths rC_steps rC_below rC_above rC_unsureWords rC_unsureWorths), (arI rC_kind kC_kind 18 fC_kind), (arI rC_parts kC_parts 18 fC_parts), (arI rC_partNodes kC_partNodes 72 fC_partNodes), (arI rC_weights kC_weights 72 fC_weights), (arI rC_weightSums kC_weightSums 18 fC_weightSums), (arI rC_unsureWords kC_unsureWords 4 fC_unsureWords), (arI rC_unsureWorths kC_unsureWorths 4 fC_unsureWorths), (arI rS_worths kS_worths 18 fS_worths)]) (tys' := [(kL_values, .int), (kL_supposed, .int), (kC_kind, .int), (kC_parts, .int), (kC_partNodes, .int), (kC_weights, .int), (kC_weightSums, .int), (kC_unsureWords, .int), (kC_unsureWorths, .int), (kS_worths, .int)]) hB rfl ht hvm hP hD hK [11, 12, 13, 1, 2, 3, 4, 5, 6, 7, 8, 10] [0, 9] rfl (by decide) (by decide) [] hk1 hFc rfl rfl rfl
          clear hz1 hk1 hvm ht hB
          rw [← hru9] at e_f_6095_0
          obtain ⟨x_6097, rfl⟩ : ∃ z, z = r := ⟨_, rfl⟩
          have hG := hG.trans (un3_eq e_f_6095_0)
          have rg_x_6097 := fb_rng x_6097
          refine lv_iload_n hx hb dX6_odds_52 rfl (lv_at hl 3 rfl) ?_
          refine lv_aload_n hx hb dX6_odds_53 rfl (lv_at hl 2 rfl) ?_
          refine va_get (D := (dC, dI)) (ci := 6) (v := .ref oC) (C := RX6) (T := TX6) (N := 12) hx hb hts inX6 hown hK hP 0 rfl rfl 1 (by decide) (hts _ wd_20) (fun _ h9 => h9) rfl dX6_odds_54 ?_
          refine va_get (D := (dC, dI)) (ci := 1) (v := .int iC_unit) (C := RX1) (T := TX1) (N := 19) hx hb hts inX1 hown hK hP 5 rfl rfl 7 (by decide) (hts _ wd_611) (fun _ h9 => h9) rfl dX6_odds_57 ?_
          have rg_iC_unit := fb_rng iC_unit
          refine lv_imul hx hb dX6_odds_60 ?_
          refine lv_topi (fun x_6098 ex_6098 => ?_)
          have hG := hG.trans (lt_eq ex_6098)
          have rg_x_6098 := fb_rng x_6098
          refine lv_icmp_lt (tgt := 76) hx hb dX6_odds_61 (by decide) (fun c_6099 => ?_) (fun c_6099 => ?_)
          · skip
            have hG := hG.trans (if_pos c_6099)
            have gc_6099 := ti_lt c_6099 rfl rfl
            obtain ⟨x_6100, ex_6100⟩ : ∃ z : Int32, z = z_6086 + Int32.ofInt 1 := ⟨_, rfl⟩
            have hG := hG.trans (lt_eq ex_6100)
            have vx_6100 : x_6100.toInt = z_6086.toInt + 1 := ti_add (y := 1) ex_6100 rfl kc_1 (om_4e4fce7e hi0_n_6090.1) (om_26fca3fc ux_6091.2 gc_6092)
            refine lv_iinc (v := x_6100) (lv' := [(5, .int x_6100), (3, .long z_6087), (0, .ref oK), (1, .int p0), (2, .int p1)]) hx hb dX6_odds_76 hl (k := 0) rfl ex_6100.symm (by decide) rfl (fun ls hl => ?_)
            refine lv_goto (tgt := 20) hx hb dX6_odds_79 (by decide) ?_
            exact ih_n_6090 x_6100 z_6087 f_6095 f_6096 _ _ _  ⟨(om_83b90de5 hi0_n_6090.1 vx_6100), (om_4b156bce ux_6091.2 gc_6092 vx_6100)⟩ (ms_lt hm_n_6090 (om_b9393183 vx_6100) (om_33376cd8 ux_6091.2 gc_6092)) hG (hP.sub [0, 5, 6, 7, 8, 9, 10, 11, 12, 1, 13, 2, 3, 4] rfl) (hD.sub [0, 5, 6, 7, 8, 9, 10, 11, 12, 1, 13, 2, 3, 4] (by decide) rfl) hS (lv_sub hl [0, 1, 2, 3, 4] rfl)
          · skip
            have hG := hG.trans (if_neg c_6099)
            have gc_6099 := ti_nlt c_6099 rfl rfl
            refine lv_lload_n hx hb dX6_odds_64 rfl (lv_at hl 1 rfl) ?_
            refine lv_aload_n hx hb dX6_odds_65 rfl (lv_at hl 2 rfl) ?_
            refine va_get (D := (dC, dI)) (ci := 6) (v := .ref oC) (C := RX6) (T := TX6) (N := 12) hx hb hts inX6 hown hK hP 0 rfl rfl 1 (by decide) (hts _ wd_20) (fun _ h9 => h9) rfl dX6_odds_66 ?_
            refine lv_iload hx hb dX6_odds_69 (lv_at hl 0 rfl) ?_
            have hMs := ml_of hD [false, false, false, false, false, true, false, false, false, false, false, false, false, false] (wc := [(oc1 oC iC_nodes iC_words iC_chances iC_unsures iC_slips iC_throneNode iC_saidWorth iC_unit rC_kind rC_parts rC_partNodes rC_weights rC_weightSums rC_toldWorths rC_steps rC_below rC_above rC_unsureWords rC_unsureWorths)]) rfl
            have hFc := va_freeM hD hS hA _ hMs
            refine va_calll (va_runV (As := [.int z_6086]) (rest := [.long z_6087]) ⟨hx, hb, hml, hown, hts⟩ (tX1_likelihood l dC dI _ oC iC_nodes iC_words iC_chances iC_unsures iC_slips iC_throneNode iC_saidWorth iC_unit rC_kind rC_parts rC_partNodes rC_weights rC_weightSums rC_toldWorths rC_steps rC_below rC_above rC_unsureWords rC_unsureWorths z_6086 b_iC_nodes b_iC_unsures b_iC_throneNode) (cwV 1 hts (wd_V wd_1258 wd_1259 wd_1260 wd_19 (wd_c wd_1261)) rfl rfl rfl dv_yX1_likelihood_1 ⟨Nat.le_of_ble_eq_true rfl, Nat.le_of_ble_eq_true rfl⟩) ⟨Pw.fb, recvX1 hK hP (q0 := 5) rfl, fun U hU hW => Pw.to (hP.ms _ hMs) (hD.ms _ hMs) (hK.ms [false, false, false, false, false, false, false, false, false, false] rfl) hE hS hFc hU hW⟩ rfl rfl hl.1 rfl (lv_room (Nat.le_of_ble_eq_true rfl)) dX6_odds_71 ⟨Nat.le_of_ble_eq_true rfl, Nat.le_of_ble_eq_true rfl⟩) hS (fun q _ h => hFc q h) hFc (fun r u t H locs ht hvm hw hB hz1 hk1 hS => ?_)
            have hru9 := hw.2
            have hw := hw.1
            obtain ⟨hP, hD⟩ := Bw.goN (ws' := [(oc6 oK oR oC oS oT rK_images iK_imageCount oA oH oL x_6082 iK_latestFault iK_latestPlace), (oc5 oS rS_worths rS_order rS_left), (oc4 oL rL_values rL_supposed), (arI rL_values kL_values 18 f_6095), (arI rL_supposed kL_supposed 18 f_6096), (oc1 oC iC_nodes iC_words iC_chances iC_unsures iC_slips iC_throneNode iC_saidWorth iC_unit rC_kind rC_parts rC_partNodes rC_weights rC_weightSums rC_toldWorths rC_steps rC_below rC_above rC_unsureWords rC_unsureWorths), (arI rC_kind kC_kind 18 fC_kind), (arI rC_parts kC_parts 18 fC_parts), (arI rC_partNodes kC_partNodes 72 fC_partNodes), (arI rC_weights kC_weights 72 fC_weights), (arI rC_weightSums kC_weightSums 18 fC_weightSums), (arI rC_unsureWords kC_unsureWords 4 fC_unsureWords), (arI rC_unsureWorths kC_unsureWorths 4 fC_unsureWorths), (arI rS_worths kS_worths 18 fS_worths)]) hB rfl ht hP hD _ hMs hk1 hFc rfl
            clear hz1 hk1 hvm ht hB hMs
            obtain ⟨y_6101, rfl⟩ : ∃ z, z = r := ⟨_, rfl⟩
            have hG := hG.trans (lt_eq hru9.symm)
            refine lv_ladd hx hb dX6_odds_74 ?_
            refine lv_topl (fun y_6102 ey_6102 => ?_)
            have hG := hG.trans (lt_eq ey_6102)
            refine lv_lstore_n (lv' := [(3, .long y_6102), (5, .int z_6086), (0, .ref oK), (1, .int p0), (2, .int p1)]) hx hb dX6_odds_75 rfl hl (by decide) rfl (fun ls hl => ?_)
            obtain ⟨x_6103, ex_6103⟩ : ∃ z : Int32, z = z_6086 + Int32.ofInt 1 := ⟨_, rfl⟩
            have hG := hG.trans (lt_eq ex_6103)
            have vx_6103 : x_6103.toInt = z_6086.toInt + 1 := ti_add (y := 1) ex_6103 rfl kc_1 (om_4e4fce7e hi0_n_6090.1) (om_26fca3fc ux_6091.2 gc_6092)
            refine lv_iinc (v := x_6103) (lv' := [(5, .int x_6103), (3, .long y_6102), (0, .ref oK), (1, .int p0), (2, .int p1)]) hx hb dX6_odds_76 hl (k := 1) rfl ex_6103.symm (by decide) rfl (fun ls hl => ?_)
            refine lv_goto (tgt := 20) hx hb dX6_odds_79 (by decide) ?_
            exact ih_n_6090 x_6103 y_6102 f_6095 f_6096 _ _ _  ⟨(om_83b90de5 hi0_n_6090.1 vx_6103), (om_4b156bce ux_6091.2 gc_6092 vx_6103)⟩ (ms_lt hm_n_6090 (om_b9393183 vx_6103) (om_33376cd8 ux_6091.2 gc_6092)) hG (hP.sub [0, 5, 6, 7, 8, 9, 10, 11, 12, 1, 13, 2, 3, 4] rfl) (hD.sub [0, 5, 6, 7, 8, 9, 10, 11, 12, 1, 13, 2, 3, 4] (by decide) rfl) hS (lv_sub hl [0, 1, 2, 3, 4] rfl)
    exact key_n_6090 (((2147483647 - (0 : Int32).toInt).toNat) + 1) 0 0 fL_values fL_supposed _ _ _  ⟨(om_b1de7dbe kc_0), (om_daf17c64 kc_0)⟩ (Nat.lt_add_one _) hG hP hD hS hl
  · skip
    have hG := hG.trans (un2_eq e_x_6082_0)
    have hG := hG.trans (if_neg (by decide))
    refine lv_if_eq (tgt := 15) hx hb dX6_odds_8 (by decide) (fun c => absurd c (by decide)) (fun _ => ?_)
    refine lv_ldc2 hx hb hown (hts _ wd_608) dX6_odds_11 ?_
    exact wq_l hx hb hr (cL (-1)) ⟨⟨trivial, trivial⟩, (cL_of (-1))⟩ (fun t ht hW => ⟨x_6082, fL_values, fL_supposed, (cL_tup hG), Bw.to hP hD hK ht hW⟩) hS dX6_odds_14 hlocks
set_option maxHeartbeats 4000000 in
set_option maxRecDepth 100000 in
theorem tX6_mean (l : Launch) (dC : Nat → ClassId) (dI : Nat → Nat → Nat) (sz : Nat) (oK : Nat) (oR : Nat) (oC : Nat) (oS : Nat) (oT : Nat) (rK_images : Nat) (iK_imageCount : Int32) (oA : Nat) (oH : Nat) (oL : Nat) (iK_refusal : Int32) (iK_latestFault : Int32) (iK_latestPlace : Int32) (iC_nodes : Int32) (iC_words : Int32) (iC_chances : Int32) (iC_unsures : Int32) (iC_slips : Int32) (iC_throneNode : Int32) (iC_saidWorth : Int32) (iC_unit : Int32) (rC_kind : Nat) (fC_kind : Nat → Int32) (kC_kind : ClassId) (rC_parts : Nat) (fC_parts : Nat → Int32) (kC_parts : ClassId) (rC_partNodes : Nat) (fC_partNodes : Nat → Int32) (kC_partNodes : ClassId) (rC_weights : Nat) (fC_weights : Nat → Int32) (kC_weights : ClassId) (rC_weightSums : Nat) (fC_weightSums : Nat → Int32) (kC_weightSums : ClassId) (rC_toldWorths : Nat) (rC_steps : Nat) (rC_below : Nat) (rC_above : Nat) (rC_unsureWords : Nat) (fC_unsureWords : Nat → Int32) (kC_unsureWords : ClassId) (rC_unsureWorths : Nat) (fC_unsureWorths : Nat → Int32) (kC_unsureWorths : ClassId) (rS_worths : Nat) (fS_worths : Nat → Int32) (kS_worths : ClassId) (rS_order : Nat) (rS_left : Nat) (rL_values : Nat) (fL_values : Nat → Int32) (kL_values : ClassId) (rL_supposed : Nat) (fL_supposed : Nat → Int32) (kL_supposed : ClassId) (p0 : Int32) (b_iK_imageCount : 0 ≤ iK_imageCount.toInt ∧ iK_imageCount.toInt ≤ 3) (b_iC_nodes : 0 ≤ iC_nodes.toInt ∧ iC_nodes.toInt ≤ 18) (b_iC_unsures : 0 ≤ iC_unsures.toInt ∧ iC_unsures.toInt ≤ 4) (b_iC_throneNode : (-1) ≤ iC_throneNode.toInt ∧ iC_throneNode.toInt ≤ 17) (a_fC_parts : ∀ j : Nat, j < 18 → 0 ≤ (fC_parts j).toInt ∧ (fC_parts j).toInt ≤ 4) (a_fC_partNodes : ∀ j : Nat, j < 72 → 0 ≤ (fC_partNodes j).toInt ∧ (fC_partNodes j).toInt ≤ 17) (a_fC_unsureWords : ∀ j : Nat, j < 4 → 0 ≤ (fC_unsureWords j).toInt ∧ (fC_unsureWords j).toInt ≤ 17)  : Met l yX6_mean (Cond.code yX6_mean cX6_mean 5 (some .long) :: wG) ({ frames := 4, cells := 0, slots := 0, locals := 95 }) (va_Pc [.ref oK, .int p0] (Pw dC dI sz [(oc6 oK oR oC oS oT rK_images iK_imageCount oA oH oL iK_refusal iK_latestFault iK_latestPlace), (oc1 oC iC_nodes iC_words iC_chances iC_unsures iC_slips iC_throneNode iC_saidWorth iC_unit rC_kind rC_parts rC_partNodes rC_weights rC_weightSums rC_toldWorths rC_steps rC_below rC_above rC_unsureWords rC_unsureWorths), (arI rC_kind kC_kind 18 fC_kind), (arI rC_parts kC_parts 18 fC_parts), (arI rC_partNodes kC_partNodes 72 fC_partNodes), (arI rC_weights kC_weights 72 fC_weights), (arI rC_weightSums kC_weightSums 18 fC_weightSums), (arI rC_unsureWords kC_unsureWords 4 fC_unsureWords), (arI rC_unsureWorths kC_unsureWorths 4 fC_unsureWorths), (oc5 oS rS_worths rS_order rS_left), (arI rS_worths kS_worths 18 fS_worths), (oc4 oL rL_values rL_supposed), (arI rL_values kL_values 18 fL_values), (arI rL_supposed kL_supposed 18 fL_supposed)] [(kC_kind, .int), (kC_parts, .int), (kC_partNodes, .int), (kC_weights, .int), (kC_weightSums, .int), (kC_unsureWords, .int), (kC_unsureWorths, .int), (kS_worths, .int), (kL_values, .int), (kL_supposed, .int)])) (va_Ql (fun (r : Int64) (u : Nat) => (True ∧ True) ∧ r = Int64.ofNat u) (fun (u : Nat) (t : State) => ∃ (niK_refusal : Int32) (nfL_values : Nat → Int32) (nfL_supposed : Nat → Int32), (PX6_mean iC_nodes iC_unsures iC_slips iC_throneNode iC_unit fC_kind fC_parts fC_partNodes fC_weights fC_weightSums fC_unsureWords fC_unsureWorths fS_worths fL_values fL_supposed p0 = (Int64.ofNat u, niK_refusal, nfL_values, nfL_supposed)) ∧ Bw dC dI (va_A [(oc6 oK oR oC oS oT rK_images iK_imageCount oA oH oL iK_refusal iK_latestFault iK_latestPlace), (oc1 oC iC_nodes iC_words iC_chances iC_unsures iC_slips iC_throneNode iC_saidWorth iC_unit rC_kind rC_parts rC_partNodes rC_weights rC_weightSums rC_toldWorths rC_steps rC_below rC_above rC_unsureWords rC_unsureWorths), (arI rC_kind kC_kind 18 fC_kind), (arI rC_parts kC_parts 18 fC_parts), (arI rC_partNodes kC_partNodes 72 fC_partNodes), (arI rC_weights kC_weights 72 fC_weights), (arI rC_weightSums kC_weightSums 18 fC_weightSums), (arI rC_unsureWords kC_unsureWords 4 fC_unsureWords), (arI rC_unsureWorths kC_unsureWorths 4 fC_unsureWorths), (oc5 oS rS_worths rS_order rS_left), (arI rS_worths kS_worths 18 fS_worths), (oc4 oL rL_values rL_supposed), (arI rL_values kL_values 18 fL_values), (arI rL_supposed kL_supposed 18 fL_supposed)] sz) [(oc6 oK oR oC oS oT rK_images iK_imageCount oA oH oL niK_refusal iK_latestFault iK_latestPlace), (oc1 oC iC_nodes iC_words iC_chances iC_unsures iC_slips iC_throneNode iC_saidWorth iC_unit rC_kind rC_parts rC_partNodes rC_weights rC_weightSums rC_toldWorths rC_steps rC_below rC_above rC_unsureWords rC_unsureWorths), (arI rC_kind kC_kind 18 fC_kind), (arI rC_parts kC_parts 18 fC_parts), (arI rC_partNodes kC_partNodes 72 fC_partNodes), (arI rC_weights kC_weights 72 fC_weights), (arI rC_weightSums kC_weightSums 18 fC_weightSums), (arI rC_unsureWords kC_unsureWords 4 fC_unsureWords), (arI rC_unsureWorths kC_unsureWorths 4 fC_unsureWorths), (oc5 oS rS_worths rS_order rS_left), (arI rS_worths kS_worths 18 fS_worths), (oc4 oL rL_values rL_supposed), (arI rL_values kL_values 18 nfL_values), (arI rL_supposed kL_supposed 18 nfL_supposed)] [(kC_kind, .int), (kC_parts, .int), (kC_partNodes, .int), (kC_weights, .int), (kC_weightSums, .int), (kC_unsureWords, .int), (kC_unsureWorths, .int), (kS_worths, .int), (kL_values, .int), (kL_supposed, .int)] t) (va_A [(oc6 oK oR oC oS oT rK_images iK_imageCount oA oH oL iK_refusal iK_latestFault iK_latestPlace), (oc1 oC iC_nodes iC_words iC_chances iC_unsures iC_slips iC_throneNode iC_saidWorth iC_unit rC_kind rC_parts rC_partNodes rC_weights rC_weightSums rC_toldWorths rC_steps rC_below rC_above rC_unsureWords rC_unsureWorths), (arI rC_kind kC_kind 18 fC_kind), (arI rC_parts kC_parts 18 fC_parts), (arI rC_partNodes kC_partNodes 72 fC_partNodes), (arI rC_weights kC_weights 72 fC_weights), (arI rC_weightSums kC_weightSums 18 fC_weightSums), (arI rC_unsureWords kC_unsureWords 4 fC_unsureWords), (arI rC_unsureWorths kC_unsureWorths 4 fC_unsureWorths), (oc5 oS rS_worths rS_order rS_left), (arI rS_worths kS_worths 18 fS_worths), (oc4 oL rL_values rL_supposed), (arI rL_values kL_values 18 fL_values), (arI rL_supposed kL_supposed 18 fL_supposed)] sz)) 0 0 (va_A [(oc6 oK oR oC oS oT rK_images iK_imageCount oA oH oL iK_refusal iK_latestFault iK_latestPlace), (oc1 oC iC_nodes iC_words iC_chances iC_unsures iC_slips iC_throneNode iC_saidWorth iC_unit rC_kind rC_parts rC_partNodes rC_weights rC_weightSums rC_toldWorths rC_steps rC_below rC_above rC_unsureWords rC_unsureWorths), (arI rC_kind kC_kind 18 fC_kind), (arI rC_parts kC_parts 18 fC_parts), (arI rC_partNodes kC_partNodes 72 fC_partNodes), (arI rC_weights kC_weights 72 fC_weights), (arI rC_weightSums kC_weightSums 18 fC_weightSums), (arI rC_unsureWords kC_unsureWords 4 fC_unsureWords), (arI rC_unsureWorths kC_unsureWorths 4 fC_unsureWorths), (oc5 oS rS_worths rS_order rS_left), (arI rS_worths kS_worths 18 fS_worths), (oc4 oL rL_values rL_supposed), (arI rL_values kL_values 18 fL_values), (arI rL_supposed kL_supposed 18 fL_supposed)] sz) := by
  refine Met.ofW (cc := cX6_mean) (maxL := 5) (ret := (some .long)) pnX6 rfl ?_
  intro p e s m args below meth c s₁ B hml hv
  obtain ⟨rfl, hsz, hP, hK, hD0, hE⟩ := hv
  have hx := B.exec
  have hb := B.bytes
  have hr := B.returns
  have hts : ∀ w ∈ wG, w.before ([.ref oK, .int p0] : List Value).toArray s = true := fun w h => atoms_spec (ws := Cond.code yX6_mean cX6_mean 5 (some .long) :: wG) B.pre w (List.mem_cons_of_mem _ h)
  have hown : s.vm.findClass RX6 = some m.cls := own_of B.named rfl
  have hlocks := B.notSynchronized
  subst hsz
  have hD := hD0.self (sz := s.heap.size)
  generalize hAe : va_A [(oc6 oK oR oC oS oT rK_images iK_imageCount oA oH oL iK_refusal iK_latestFault iK_latestPlace), (oc1 oC iC_nodes iC_words iC_chances iC_unsures iC_slips iC_throneNode iC_saidWorth iC_unit rC_kind rC_parts rC_partNodes rC_weights rC_weightSums rC_toldWorths rC_steps rC_below rC_above rC_unsureWords rC_unsureWorths), (arI rC_kind kC_kind 18 fC_kind), (arI rC_parts kC_parts 18 fC_parts), (arI rC_partNodes kC_partNodes 72 fC_partNodes), (arI rC_weights kC_weights 72 fC_weights), (arI rC_weightSums kC_weightSums 18 fC_weightSums), (arI rC_unsureWords kC_unsureWords 4 fC_unsureWords), (arI rC_unsureWorths kC_unsureWorths 4 fC_unsureWorths), (oc5 oS rS_worths rS_order rS_left), (arI rS_worths kS_worths 18 fS_worths), (oc4 oL rL_values rL_supposed), (arI rL_values kL_values 18 fL_values), (arI rL_supposed kL_supposed 18 fL_supposed)] s.heap.size = A at hD hE ⊢
  have hA : ∀ q : Nat, s.heap.size ≤ q → A q := fun q h => by rw [← hAe]; exact Or.inr h
  have hS : va_S A s.heap s.heap [] := va_S.rf
  have hl := lv_entry ([.ref oK, .int p0]) (n := 5) (Nat.le_of_ble_eq_true rfl)
  rw [lg_entry_eq]
  generalize (lg_sl ([.ref oK, .int p0]) ++ List.replicate (5 - (lg_sl ([.ref oK, .int p0])).length) Slot.unset).toArray = ls at hl ⊢
  have hl : lv_has ls 5 [(0, .ref oK), (1, .int p0)] := hl
  have hG := PX6_mean_eq iC_nodes iC_unsures iC_slips iC_throneNode iC_unit fC_kind fC_parts fC_partNodes fC_weights fC_weightSums fC_unsureWords fC_unsureWorths fS_worths fL_values fL_supposed p0
  have rg_p0 := fb_rng p0
  refine lv_aload_n hx hb dX6_mean_0 rfl (lv_at hl 0 rfl) ?_
  have hMs := ml_of hD [true, true, false, false, false, false, false, false, false, false, false, false, false, false] (wc := [(oc6 oK oR oC oS oT rK_images iK_imageCount oA oH oL iK_refusal iK_latestFault iK_latestPlace), (oc1 oC iC_nodes iC_words iC_chances iC_unsures iC_slips iC_throneNode iC_saidWorth iC_unit rC_kind rC_parts rC_partNodes rC_weights rC_weightSums rC_toldWorths rC_steps rC_below rC_above rC_unsureWords rC_unsureWorths)]) rfl
  have hFc := va_freeM hD hS hA _ hMs
  refine va_calli (va_runV (As := []) (rest := []) ⟨hx, hb, hml, hown, hts⟩ (tX6_lacksCourt l dC dI _ oK oR oC oS oT rK_images iK_imageCount oA oH oL iK_refusal iK_latestFault iK_latestPlace iC_nodes iC_words iC_chances iC_unsures iC_slips iC_throneNode iC_saidWorth iC_unit rC_kind rC_parts rC_partNodes rC_weights rC_weightSums rC_toldWorths rC_steps rC_below rC_above rC_unsureWords rC_unsureWorths b_iK_imageCount b_iC_nodes b_iC_unsures b_iC_throneNode) (cwV 0 hts (wd_V wd_596 wd_597 wd_598 wd_2 (wd_c wd_599)) rfl rfl rfl dv_yX6_lacksCourt_0 ⟨Nat.le_of_ble_eq_true rfl, Nat.le_of_ble_eq_true rfl⟩) ⟨Pw.fb, recvX6 hK hP (q0 := 0) rfl, fun U hU hW => Pw.to (hP.ms _ hMs) (hD.ms _ hMs) (hK.ms [false, false, false, false, false, false, false, false, false, false] rfl) hE hS hFc hU hW⟩ rfl rfl hl.1 rfl (lv_room (Nat.le_of_ble_eq_true rfl)) dX6_mean_1 ⟨Nat.le_of_ble_eq_true rfl, Nat.le_of_ble_eq_true rfl⟩) hS (fun q _ h => hFc q h) hFc (fun r u t H locs ht hvm hw hB hz1 hk1 hS => ?_)
  have hru9 := hw.2
  have hw := hw.1
  refine ex_1_2 hB (fun x_6147 b_x_6147 e_x_6147_0 hB => ?_)
  obtain ⟨hP, hD⟩ := Bw.goN (ws' := [(oc6 oK oR oC oS oT rK_images iK_imageCount oA oH oL x_6147 iK_latestFault iK_latestPlace), (oc1 oC iC_nodes iC_words iC_chances iC_unsures iC_slips iC_throneNode iC_saidWorth iC_unit rC_kind rC_parts rC_partNodes rC_weights rC_weightSums rC_toldWorths rC_steps rC_below rC_above rC_unsureWords rC_unsureWorths), (arI rC_kind kC_kind 18 fC_kind), (arI rC_parts kC_parts 18 fC_parts), (arI rC_partNodes kC_partNodes 72 fC_partNodes), (arI rC_weights kC_weights 72 fC_weights), (arI rC_weightSums kC_weightSums 18 fC_weightSums), (arI rC_unsureWords kC_unsureWords 4 fC_unsureWords), (arI rC_unsureWorths kC_unsureWorths 4 fC_unsureWorths), (oc5 oS rS_worths rS_order rS_left), (arI rS_worths kS_worths 18 fS_worths), (oc4 oL rL_values rL_supposed), (arI rL_values kL_values 18 fL_values), (arI rL_supposed kL_supposed 18 fL_supposed)]) hB rfl ht hP hD _ hMs hk1 hFc rfl
  clear hz1 hk1 hvm ht hB hMs
  have rg_x_6147 := fb_rng x_6147
  rw [← hru9] at e_x_6147_0
  rcases hw.2 with ⟨rfl, hc_6148⟩ | ⟨rfl, hc_6148⟩
  · skip
    have rg_iC_nodes := fb_rng iC_nodes
    have hG := hG.trans (un2_eq e_x_6147_0)
    have hG := hG.trans (if_pos rfl)
    refine lv_if_eq (tgt := 11) hx hb dX6_mean_4 (by decide) (fun _ => ?_) (fun c => absurd c (by decide))
    refine lv_lconst (v := 0) hx hb dX6_mean_11 (by decide) ?_
    refine lv_lstore_n (lv' := [(2, .long 0), (0, .ref oK), (1, .int p0)]) hx hb dX6_mean_12 rfl hl (by decide) rfl (fun ls hl => ?_)
    refine lv_iconst (v := 0) hx hb dX6_mean_13 (by decide) ?_
    refine lv_istore (lv' := [(4, .int 0), (2, .long 0), (0, .ref oK), (1, .int p0)]) hx hb dX6_mean_14 hl (by decide) rfl (fun ls hl => ?_)
    have hl := lv_sub hl (l' := [(4, .int 0), (2, .long 0), (0, .ref oK), (1, .int p0)]) [0, 1, 2, 3] rfl
    have key_n_6155 : ∀ (n_6155 : Nat) (z_6151 : Int32) (z_6152 : Int64) (f_6153 : Nat → Int32) (f_6154 : Nat → Int32) (H : Heap) (locs : List Loc) (ls : Array Slot), (0 ≤ z_6151.toInt ∧ z_6151.toInt ≤ 2147483647) → (2147483647 - z_6151.toInt).toNat < n_6155 → (PX6_mean iC_nodes iC_unsures iC_slips iC_throneNode iC_unit fC_kind fC_parts fC_partNodes fC_weights fC_weightSums fC_unsureWords fC_unsureWorths fS_worths fL_values fL_supposed p0 = HX6_mean_0 iC_nodes iC_unsures iC_slips iC_throneNode iC_unit fC_kind fC_parts fC_partNodes fC_weights fC_weightSums fC_unsureWords fC_unsureWorths fS_worths p0 x_6147 n_6155 z_6151 z_6152 f_6153 f_6154) → va_P (dC, dI) vwCl [(oc6 oK oR oC oS oT rK_images iK_imageCount oA oH oL x_6147 iK_latestFault iK_latestPlace), (oc1 oC iC_nodes iC_words iC_chances iC_unsures iC_slips iC_throneNode iC_saidWorth iC_unit rC_kind rC_parts rC_partNodes rC_weights rC_weightSums rC_toldWorths rC_steps rC_below rC_above rC_unsureWords rC_unsureWorths), (arI rC_kind kC_kind 18 fC_kind), (arI rC_parts kC_parts 18 fC_parts), (arI rC_partNodes kC_partNodes 72 fC_partNodes), (arI rC_weights kC_weights 72 fC_weights), (arI rC_weightSums kC_weightSums 18 fC_weightSums), (arI rC_unsureWords kC_unsureWords 4 fC_unsureWords), (arI rC_unsureWorths kC_unsureWorths 4 fC_unsureWorths), (oc5 oS rS_worths rS_order rS_left), (arI rS_worths kS_worths 18 fS_worths), (oc4 oL rL_values rL_supposed), (arI rL_values kL_values 18 f_6153), (arI rL_supposed kL_supposed 18 f_6154)] H → va_D A [(oc6 oK oR oC oS oT rK_images iK_imageCount oA oH oL x_6147 iK_latestFault iK_latestPlace), (oc1 oC iC_nodes iC_words iC_chances iC_unsures iC_slips iC_throneNode iC_saidWorth iC_unit rC_kind rC_parts rC_partNodes rC_weights rC_weightSums rC_toldWorths rC_steps rC_below rC_above rC_unsureWords rC_unsureWorths), (arI rC_kind kC_kind 18 fC_kind), (arI rC_parts kC_parts 18 fC_parts), (arI rC_partNodes kC_partNodes 72 fC_partNodes), (arI rC_weights kC_weights 72 fC_weights), (arI rC_weightSums kC_weightSums 18 fC_weightSums), (arI rC_unsureWords kC_unsureWords 4 fC_unsureWords), (arI rC_unsureWorths kC_unsureWorths 4 fC_unsureWorths), (oc5 oS rS_worths rS_order rS_left), (arI rS_worths kS_worths 18 fS_worths), (oc4 oL rL_values rL_supposed), (arI rL_values kL_values 18 f_6153), (arI rL_supposed kL_supposed 18 f_6154)] → va_S A s.heap H locs → lv_has ls 5 [(4, .int z_6151), (2, .long z_6152), (0, .ref oK), (1, .int p0)] → W p l e (headSpec (Cond.code yX6_mean cX6_mean 5 (some .long) :: wG) ({ frames := 4, cells := 0, slots := 0, locals := 95 })).room s m ([.ref oK, .int p0] : List Value).toArray below meth c H locs 0 0 (MQ below (va_Ql (fun (r : Int64) (u : Nat) => (True ∧ True) ∧ r = Int64.ofNat u) (fun (u : Nat) (t : State) => ∃ (niK_refusal : Int32) (nfL_values : Nat → Int32) (nfL_supposed : Nat → Int32), (PX6_mean iC_nodes iC_unsures iC_slips iC_throneNode iC_unit fC_kind fC_parts fC_partNodes fC_weights fC_weightSums fC_unsureWords fC_unsureWorths fS_worths fL_values fL_supposed p0 = (Int64.ofNat u, niK_refusal, nfL_values, nfL_supposed)) ∧ Bw dC dI A [(oc6 oK oR oC oS oT rK_images iK_imageCount oA oH oL niK_refusal iK_latestFault iK_latestPlace), (oc1 oC iC_nodes iC_words iC_chances iC_unsures iC_slips iC_throneNode iC_saidWorth iC_unit rC_kind rC_parts rC_partNodes rC_weights rC_weightSums rC_toldWorths rC_steps rC_below rC_above rC_unsureWords rC_unsureWorths), (arI rC_kind kC_kind 18 fC_kind), (arI rC_parts kC_parts 18 fC_parts), (arI rC_partNodes kC_partNodes 72 fC_partNodes), (arI rC_weights kC_weights 72 fC_weights), (arI rC_weightSums kC_weightSums 18 fC_weightSums), (arI rC_unsureWords kC_unsureWords 4 fC_unsureWords), (arI rC_unsureWorths kC_unsureWorths 4 fC_unsureWorths), (oc5 oS rS_worths rS_order rS_left), (arI rS_worths kS_worths 18 fS_worths), (oc4 oL rL_values rL_supposed), (arI rL_values kL_values 18 nfL_values), (arI rL_supposed kL_supposed 18 nfL_supposed)] [(kC_kind, .int), (kC_parts, .int), (kC_partNodes, .int), (kC_weights, .int), (kC_weightSums, .int), (kC_unsureWords, .int), (kC_unsureWorths, .int), (kS_worths, .int), (kL_values, .int), (kL_supposed, .int)] t) A) ([.ref oK, .int p0] : List Value).toArray s 0 0 A) (F0 m 16 ls []) := by
      intro n_6155
      induction n_6155 with
      | zero => intro z_6151 z_6152 f_6153 f_6154 H locs ls hi0_n_6155 hm; exact absurd hm (Nat.not_lt_zero _)
      | succ n_6155 ih_n_6155 =>
        intro z_6151 z_6152 f_6153 f_6154 H locs ls hi0_n_6155 hm_n_6155 hG hP hD hS hl
        have hG := hG.trans (HX6_mean_0_eq _ _ _ _ _ _ _ _ _ _ _ _ _ _ _ _ _ _ _ _)
        have rg_z_6151 := fb_rng z_6151
        refine lv_iload hx hb dX6_mean_16 (lv_at hl 0 rfl) ?_
        refine lv_aload_n hx hb dX6_mean_18 rfl (lv_at hl 2 rfl) ?_
        refine va_get (D := (dC, dI)) (ci := 6) (v := .ref oC) (C := RX6) (T := TX6) (N := 12) hx hb hts inX6 hown hK hP 0 rfl rfl 1 (by decide) (hts _ wd_20) (fun _ h9 => h9) rfl dX6_mean_19 ?_
        have hMs := ml_of hD [false, true, false, false, false, false, false, false, false, false, false, false, false, false] (wc := [(oc1 oC iC_nodes iC_words iC_chances iC_unsures iC_slips iC_throneNode iC_saidWorth iC_unit rC_kind rC_parts rC_partNodes rC_weights rC_weightSums rC_toldWorths rC_steps rC_below rC_above rC_unsureWords rC_unsureWorths)]) rfl
        have hFc := va_freeM hD hS hA _ hMs
        refine va_calli (va_runV (As := []) (rest := [.int z_6151]) ⟨hx, hb, hml, hown, hts⟩ (tX1_unsureSets l dC dI _ oC iC_nodes iC_words iC_chances iC_unsures iC_slips iC_throneNode iC_saidWorth iC_unit rC_kind rC_parts rC_partNodes rC_weights rC_weightSums rC_toldWorths rC_steps rC_below rC_above rC_unsureWords rC_unsureWorths b_iC_nodes b_iC_unsures b_iC_throneNode) (cwV 0 hts (wd_V wd_1165 wd_1166 wd_1167 wd_19 (wd_c wd_1168)) rfl rfl rfl dv_yX1_unsureSets_0 ⟨Nat.le_of_ble_eq_true rfl, Nat.le_of_ble_eq_true rfl⟩) ⟨Pw.fb, recvX1 hK hP (q0 := 1) rfl, fun U hU hW => Pw.to (hP.ms _ hMs) (hD.ms _ hMs) (hK.ms [false, false, false, false, false, false, false, false, false, false] rfl) hE hS hFc hU hW⟩ rfl rfl hl.1 rfl (lv_room (Nat.le_of_ble_eq_true rfl)) dX6_mean_22 ⟨Nat.le_of_ble_eq_true rfl, Nat.le_of_ble_eq_true rfl⟩) hS (fun q _ h => hFc q h) hFc (fun r u t H locs ht hvm hw hB hz1 hk1 hS => ?_)
        have hru9 := hw.2
        have hw := hw.1
        obtain ⟨hP, hD⟩ := Bw.goN (ws' := [(oc6 oK oR oC oS oT rK_images iK_imageCount oA oH oL x_6147 iK_latestFault iK_latestPlace), (oc1 oC iC_nodes iC_words iC_chances iC_unsures iC_slips iC_throneNode iC_saidWorth iC_unit rC_kind rC_parts rC_partNodes rC_weights rC_weightSums rC_toldWorths rC_steps rC_below rC_above rC_unsureWords rC_unsureWorths), (arI rC_kind kC_kind 18 fC_kind), (arI rC_parts kC_parts 18 fC_parts), (arI rC_partNodes kC_partNodes 72 fC_partNodes), (arI rC_weights kC_weights 72 fC_weights), (arI rC_weightSums kC_weightSums 18 fC_weightSums), (arI rC_unsureWords kC_unsureWords 4 fC_unsureWords), (arI rC_unsureWorths kC_unsureWorths 4 fC_unsureWorths), (oc5 oS rS_worths rS_order rS_left), (arI rS_worths kS_worths 18 fS_worths), (oc4 oL rL_values rL_supposed), (arI rL_values kL_values 18 f_6153), (arI rL_supposed kL_supposed 18 f_6154)]) hB rfl ht hP hD _ hMs hk1 hFc rfl
        clear hz1 hk1 hvm ht hB hMs
        obtain ⟨x_6156, rfl⟩ : ∃ z, z = r := ⟨_, rfl⟩
        have hG := hG.trans (lt_eq hru9.symm)
        have rg_x_6156 := fb_rng x_6156
        have ux_6156 := hw.2
        refine lv_icmp_ge (tgt := 68) hx hb dX6_mean_25 (by decide) (fun c_6157 => ?_) (fun c_6157 => ?_)
        · skip
          have hG := hG.trans (if_pos c_6157)
          have gc_6157 := ti_le c_6157 rfl rfl
          refine lv_lload_n hx hb dX6_mean_68 rfl (lv_at hl 1 rfl) ?_
          refine lv_aload_n hx hb dX6_mean_69 rfl (lv_at hl 2 rfl) ?_
          refine va_get (D := (dC, dI)) (ci := 6) (v := .ref oC) (C := RX6) (T := TX6) (N := 12) hx hb hts inX6 hown hK hP 0 rfl rfl 1 (by decide) (hts _ wd_20) (fun _ h9 => h9) rfl dX6_mean_70 ?_
          have hMs := ml_of hD [false, true, false, false, false, false, false, false, false, false, false, false, false, false] (wc := [(oc1 oC iC_nodes iC_words iC_chances iC_unsures iC_slips iC_throneNode iC_saidWorth iC_unit rC_kind rC_parts rC_partNodes rC_weights rC_weightSums rC_toldWorths rC_steps rC_below rC_above rC_unsureWords rC_unsureWorths)]) rfl
          have hFc := va_freeM hD hS hA _ hMs
          refine va_calll (va_runV (As := []) (rest := [.long z_6152]) ⟨hx, hb, hml, hown, hts⟩ (tX1_allLikelihood l dC dI _ oC iC_nodes iC_words iC_chances iC_unsures iC_slips iC_throneNode iC_saidWorth iC_unit rC_kind rC_parts rC_partNodes rC_weights rC_weightSums rC_toldWorths rC_steps rC_below rC_above rC_unsureWords rC_unsureWorths b_iC_nodes b_iC_unsures b_iC_throneNode) (cwV 0 hts (wd_V wd_1262 wd_1263 wd_1264 wd_19 (wd_c wd_1265)) rfl rfl rfl dv_yX1_allLikelihood_0 ⟨Nat.le_of_ble_eq_true rfl, Nat.le_of_ble_eq_true rfl⟩) ⟨Pw.fb, recvX1 hK hP (q0 := 1) rfl, fun U hU hW => Pw.to (hP.ms _ hMs) (hD.ms _ hMs) (hK.ms [false, false, false, false, false, false, false, false, false, false] rfl) hE hS hFc hU hW⟩ rfl rfl hl.1 rfl (lv_room (Nat.le_of_ble_eq_true rfl)) dX6_mean_73 ⟨Nat.le_of_ble_eq_true rfl, Nat.le_of_ble_eq_true rfl⟩) hS (fun q _ h => hFc q h) hFc (fun r u t H locs ht hvm hw hB hz1 hk1 hS => ?_)
          have hru9 := hw.2
          have hw := hw.1
          obtain ⟨hP, hD⟩ := Bw.goN (ws' := [(oc6 oK oR oC oS oT rK_images iK_imageCount oA oH oL x_6147 iK_latestFault iK_latestPlace), (oc1 oC iC_nodes iC_words iC_chances iC_unsures iC_slips iC_throneNode iC_saidWorth iC_unit rC_kind rC_parts rC_partNodes rC_weights rC_weightSums rC_toldWorths rC_steps rC_below rC_above rC_unsureWords rC_unsureWorths), (arI rC_kind kC_kind 18 fC_kind), (arI rC_parts kC_parts 18 fC_parts), (arI rC_partNodes kC_partNodes 72 fC_partNodes), (arI rC_weights kC_weights 72 fC_weights), (arI rC_weightSums kC_weightSums 18 fC_weightSums), (arI rC_unsureWords kC_unsureWords 4 fC_unsureWords), (arI rC_unsureWorths kC_unsureWorths 4 fC_unsureWorths), (oc5 oS rS_worths rS_order rS_left), (arI rS_worths kS_worths 18 fS_worths), (oc4 oL rL_values rL_supposed), (arI rL_values kL_values 18 f_6153), (arI rL_supposed kL_supposed 18 f_6154)]) hB rfl ht hP hD _ hMs hk1 hFc rfl
          clear hz1 hk1 hvm ht hB hMs
          obtain ⟨y_6158, rfl⟩ : ∃ z, z = r := ⟨_, rfl⟩
          have hG := hG.trans (lt_eq hru9.symm)
          refine lv_aload_n hx hb dX6_mean_76 rfl (lv_at hl 2 rfl) ?_
          refine va_get (D := (dC, dI)) (ci := 6) (v := .ref oC) (C := RX6) (T := TX6) (N := 12) hx hb hts inX6 hown hK hP 0 rfl rfl 1 (by decide) (hts _ wd_20) (fun _ h9 => h9) rfl dX6_mean_77 ?_
          refine va_get (D := (dC, dI)) (ci := 1) (v := .int iC_unit) (C := RX1) (T := TX1) (N := 19) hx hb hts inX1 hown hK hP 1 rfl rfl 7 (by decide) (hts _ wd_611) (fun _ h9 => h9) rfl dX6_mean_80 ?_
          have rg_iC_unit := fb_rng iC_unit
          obtain ⟨y_6159, ey_6159⟩ : ∃ z : Int64, z = (iC_unit : Int32).toInt64 := ⟨_, rfl⟩
          have hG := hG.trans (lt_eq ey_6159)
          refine lv_i2l (v := y_6159) hx hb dX6_mean_83 ey_6159.symm ?_
          refine lv_lmul hx hb dX6_mean_84 ?_
          refine lv_topl (fun y_6160 ey_6160 => ?_)
          have hG := hG.trans (lt_eq ey_6160)
          refine lv_iload_n hx hb dX6_mean_85 rfl (lv_at hl 3 rfl) ?_
          have hFc : ∀ q, va_A [] _ q → A q := fun q h => hA q (Nat.le_trans hS.1 (va_nilA h))
          refine va_calll (va_runS (As := [.long z_6152, .long y_6160, .int p0]) (rest := []) ⟨hx, hb, hml, hown, hts⟩ (tX6_inLowestTerms l dC dI _ z_6152 y_6160 p0 ) (va_cwS 3 hts (wd_S wd_635 wd_636 wd_2 (wd_c wd_637)) rfl rfl rfl ds_yX6_inLowestTerms_3 ⟨Nat.le_of_ble_eq_true rfl, Nat.le_of_ble_eq_true rfl⟩) ⟨Pw.fb, fun U hU hW => Pn.to hK hE hS hA hU hW⟩ rfl rfl hl.1 rfl (lv_room (Nat.le_of_ble_eq_true rfl)) dX6_mean_86 ⟨Nat.le_of_ble_eq_true rfl, Nat.le_of_ble_eq_true rfl⟩) hS (fun q _ h => hFc q h) hFc (fun r u t H locs ht hvm hw hB hz1 hk1 hS => ?_)
          obtain ⟨hP, hD, hK⟩ := Bw.same ht hvm hP hD hK hk1 hFc
          clear hz1 hk1 hvm ht hB
          have hq9 := hw.2
          have hw := hw.1
          obtain ⟨y_6161, rfl⟩ : ∃ z, z = r := ⟨_, rfl⟩
          have hq_y_6161 := hq9
          have hG := hG.trans (lt_eq hq_y_6161.symm)
          exact wq_l hx hb hr (cL y_6161) ⟨⟨trivial, trivial⟩, (cL_of y_6161)⟩ (fun t ht hW => ⟨x_6147, f_6153, f_6154, (cL_tup hG), Bw.to hP hD hK ht hW⟩) hS dX6_mean_89 hlocks
        · skip
          have hG := hG.trans (if_neg c_6157)
          have gc_6157 := ti_nle c_6157 rfl rfl
          refine lv_lload_n hx hb dX6_mean_28 rfl (lv_at hl 1 rfl) ?_
          refine lv_aload_n hx hb dX6_mean_29 rfl (lv_at hl 2 rfl) ?_
          refine va_get (D := (dC, dI)) (ci := 6) (v := .ref oC) (C := RX6) (T := TX6) (N := 12) hx hb hts inX6 hown hK hP 0 rfl rfl 1 (by decide) (hts _ wd_20) (fun _ h9 => h9) rfl dX6_mean_30 ?_
          refine lv_iload hx hb dX6_mean_33 (lv_at hl 0 rfl) ?_
          have hMs := ml_of hD [false, true, false, false, false, false, false, false, false, false, false, false, false, false] (wc := [(oc1 oC iC_nodes iC_words iC_chances iC_unsures iC_slips iC_throneNode iC_saidWorth iC_unit rC_kind rC_parts rC_partNodes rC_weights rC_weightSums rC_toldWorths rC_steps rC_below rC_above rC_unsureWords rC_unsureWorths)]) rfl
          have hFc := va_freeM hD hS hA _ hMs
          refine va_calll (va_runV (As := [.int z_6151]) (rest := [.long z_6152]) ⟨hx, hb, hml, hown, hts⟩ (tX1_likelihood l dC dI _ oC iC_nodes iC_words iC_chances iC_unsures iC_slips iC_throneNode iC_saidWorth iC_unit rC_kind rC_parts rC_partNodes rC_weights rC_weightSums rC_toldWorths rC_steps rC_below rC_above rC_unsureWords rC_unsureWorths z_6151 b_iC_nodes b_iC_unsures b_iC_throneNode) (cwV 1 hts (wd_V wd_1258 wd_1259 wd_1260 wd_19 (wd_c wd_1261)) rfl rfl rfl dv_yX1_likelihood_1 ⟨Nat.le_of_ble_eq_true rfl, Nat.le_of_ble_eq_true rfl⟩) ⟨Pw.fb, recvX1 hK hP (q0 := 1) rfl, fun U hU hW => Pw.to (hP.ms _ hMs) (hD.ms _ hMs) (hK.ms [false, false, false, false, false, false, false, false, false, false] rfl) hE hS hFc hU hW⟩ rfl rfl hl.1 rfl (lv_room (Nat.le_of_ble_eq_true rfl)) dX6_mean_35 ⟨Nat.le_of_ble_eq_true rfl, Nat.le_of_ble_eq_true rfl⟩) hS (fun q _ h => hFc q h) hFc (fun r u t H locs ht hvm hw hB hz1 hk1 hS => ?_)
          have hru9 := hw.2
          have hw := hw.1
          obtain ⟨hP, hD⟩ := Bw.goN (ws' := [(oc6 oK oR oC oS oT rK_images iK_imageCount oA oH oL x_6147 iK_latestFault iK_latestPlace), (oc1 oC iC_nodes iC_words iC_chances iC_unsures iC_slips iC_throneNode iC_saidWorth iC_unit rC_kind rC_parts rC_partNodes rC_weights rC_weightSums rC_toldWorths rC_steps rC_below rC_above rC_unsureWords rC_unsureWorths), (arI rC_kind kC_kind 18 fC_kind), (arI rC_parts kC_parts 18 fC_parts), (arI rC_partNodes kC_partNodes 72 fC_partNodes), (arI rC_weights kC_weights 72 fC_weights), (arI rC_weightSums kC_weightSums 18 fC_weightSums), (arI rC_unsureWords kC_unsureWords 4 fC_unsureWords), (arI rC_unsureWorths kC_unsureWorths 4 fC_unsureWorths), (oc5 oS rS_worths rS_order rS_left), (arI rS_worths kS_worths 18 fS_worths), (oc4 oL rL_values rL_supposed), (arI rL_values kL_values 18 f_6153), (arI rL_supposed kL_supposed 18 f_6154)]) hB rfl ht hP hD _ hMs hk1 hFc rfl
          clear hz1 hk1 hvm ht hB hMs
          obtain ⟨y_6162, rfl⟩ : ∃ z, z = r := ⟨_, rfl⟩
          have hG := hG.trans (lt_eq hru9.symm)
          refine lv_aload_n hx hb dX6_mean_38 rfl (lv_at hl 2 rfl) ?_
          refine va_get (D := (dC, dI)) (ci := 6) (v := .ref oL) (C := RX6) (T := TX6) (N := 12) hx hb hts inX6 hown hK hP 0 rfl rfl 8 (by decide) (hts _ wd_38) (fun _ h9 => h9) rfl dX6_mean_39 ?_
          refine lv_aload_n hx hb dX6_mean_42 rfl (lv_at hl 2 rfl) ?_
          refine va_get (D := (dC, dI)) (ci := 6) (v := .ref oC) (C := RX6) (T := TX6) (N := 12) hx hb hts inX6 hown hK hP 0 rfl rfl 1 (by decide) (hts _ wd_20) (fun _ h9 => h9) rfl dX6_mean_43 ?_
          refine lv_aload_n hx hb dX6_mean_46 rfl (lv_at hl 2 rfl) ?_
          refine va_get (D := (dC, dI)) (ci := 6) (v := .ref oS) (C := RX6) (T := TX6) (N := 12) hx hb hts inX6 hown hK hP 0 rfl rfl 2 (by decide) (hts _ wd_24) (fun _ h9 => h9) rfl dX6_mean_47 ?_
          refine va_get (D := (dC, dI)) (ci := 5) (v := .ref rS_worths) (C := RX5) (T := TX5) (N := 3) hx hb hts inX5 hown hK hP 9 rfl rfl 0 (by decide) (hts _ wd_609) (fun _ h9 => h9) rfl dX6_mean_50 ?_
          refine lv_iload hx hb dX6_mean_53 (lv_at hl 0 rfl) ?_
          have hFc := va_free (wc := [(oc4 oL rL_values rL_supposed), (arI rL_values kL_values 18 f_6153), (arI rL_supposed kL_supposed 18 f_6154), (oc1 oC iC_nodes iC_words iC_chances iC_unsures iC_slips iC_throneNode iC_saidWorth iC_unit rC_kind rC_parts rC_partNodes rC_weights rC_weightSums rC_toldWorths rC_steps rC_below rC_above rC_unsureWords rC_unsureWorths), (arI rC_kind kC_kind 18 fC_kind), (arI rC_parts kC_parts 18 fC_parts), (arI rC_partNodes kC_partNodes 72 fC_partNodes), (arI rC_weights kC_weights 72 fC_weights), (arI rC_weightSums kC_weightSums 18 fC_weightSums), (arI rC_unsureWords kC_unsureWords 4 fC_unsureWords), (arI rC_unsureWorths kC_unsureWorths 4 fC_unsureWorths), (arI rS_worths kS_worths 18 fS_worths)]) hD hS hA [11, 12, 13, 1, 2, 3, 4, 5, 6, 7, 8, 10] rfl
          refine va_calli (va_runV (As := [.ref oC, .ref rS_worths, .int z_6151]) (rest := [.long y_6162, .long z_6152]) ⟨hx, hb, hml, hown, hts⟩ (tX4_throneByUnsure l dC dI _ oL rL_values f_6153 kL_values rL_supposed f_6154 kL_supposed oC iC_nodes iC_words iC_chances iC_unsures iC_slips iC_throneNode iC_saidWorth iC_unit rC_kind fC_kind kC_kind rC_parts fC_parts kC_parts rC_partNodes fC_partNodes kC_partNodes rC_weights fC_weights kC_weights rC_weightSums fC_weightSums kC_weightSums rC_toldWorths rC_steps rC_below rC_above rC_unsureWords fC_unsureWords kC_unsureWords rC_unsureWorths fC_unsureWorths kC_unsureWorths rS_worths fS_worths kS_worths z_6151 b_iC_nodes b_iC_unsures b_iC_throneNode a_fC_parts a_fC_partNodes a_fC_unsureWords) (cwV 3 hts (wd_V wd_1169 wd_1170 wd_1171 wd_37 (wd_c wd_1172)) rfl rfl rfl dv_yX4_throneByUnsure_3 ⟨Nat.le_of_ble_eq_true rfl, Nat.le_of_ble_eq_true rfl⟩) ⟨Pw.fb, recvX4 hK hP (q0 := 11) rfl, fun U hU hW => Pw.to (hP.sub [11, 12, 13, 1, 2, 3, 4, 5, 6, 7, 8, 10] rfl) (hD.sub [11, 12, 13, 1, 2, 3, 4, 5, 6, 7, 8, 10] (by decide) rfl) (hK.sub [8, 9, 0, 1, 2, 3, 4, 5, 6, 7] rfl) hE hS hFc hU hW⟩ rfl rfl hl.1 rfl (lv_room (Nat.le_of_ble_eq_true rfl)) dX6_mean_55 ⟨Nat.le_of_ble_eq_true rfl, Nat.le_of_ble_eq_true rfl⟩) hS (fun q _ h => hFc q h) hFc (fun r u t H locs ht hvm hw hB hz1 hk1 hS => ?_)
          have hru9 := hw.2
          have hw := hw.1
          refine ex_2_1 hB (fun f_6163 f_6164 e_f_6163_0 hB => ?_)
          obtain ⟨hP, hD, hK⟩ := Bw.go (ws' := [(oc6 oK oR oC oS oT rK_images iK_imageCount oA oH oL x_6147 iK_latestFault iK_latestPlace), (oc5 oS rS_worths rS_order rS_left), (oc4 oL rL_values rL_supposed), (arI rL_values kL_values 18 f_6163), (arI rL_supposed kL_supposed 18 f_6164), (oc1 oC iC_nodes iC_words iC_chances iC_unsures iC_slips iC_throneNode iC_saidWorth iC_unit rC_kind rC_parts rC_partNodes rC_weights rC_weightSums rC_toldWorths rC_steps rC_below rC_above rC_unsureWords rC_unsureWorths), (arI rC_kind kC_kind 18 fC_kind), (arI rC_parts kC_parts 18 fC_parts), (arI rC_partNodes kC_partNodes 72 fC_partNodes), (arI rC_weights kC_weights 72 fC_weights), (arI rC_weightSums kC_weightSums 18 fC_weightSums), (arI rC_unsureWords kC_unsureWords 4 fC_unsureWords), (arI rC_unsureWorths kC_unsureWorths 4 fC_unsureWorths), (arI rS_worths kS_worths 18 fS_worths)]) (tys' := [(kL_values, .int), (kL_supposed, .int), (kC_kind, .int), (kC_parts, .int), (kC_partNodes, .int), (kC_weights, .int), (kC_weightSums, .int), (kC_unsureWords, .int), (kC_unsureWorths, .int), (kS_worths, .int)]) hB rfl ht hvm hP hD hK [11, 12, 13, 1, 2, 3, 4, 5, 6, 7, 8, 10] [0, 9] rfl (by decide) (by decide) [] hk1 hFc rfl rfl rfl
          clear hz1 hk1 hvm ht hB
          rw [← hru9] at e_f_6163_0
          obtain ⟨x_6165, rfl⟩ : ∃ z, z = r := ⟨_, rfl⟩
          have hG := hG.trans (un3_eq e_f_6163_0)
          have rg_x_6165 := fb_rng x_6165
          obtain ⟨y_6166, ey_6166⟩ : ∃ z : Int64, z = (x_6165 : Int32).toInt64 := ⟨_, rfl⟩
          have hG := hG.trans (lt_eq ey_6166)
          refine lv_i2l (v := y_6166) hx hb dX6_mean_58 ey_6166.symm ?_
          refine lv_lmul hx hb dX6_mean_59 ?_
          refine lv_topl (fun y_6167 ey_6167 => ?_)
          have hG := hG.trans (lt_eq ey_6167)
          refine lv_ladd hx hb dX6_mean_60 ?_
          refine lv_topl (fun y_6168 ey_6168 => ?_)
          have hG := hG.trans (lt_eq ey_6168)
          refine lv_lstore_n (lv' := [(2, .long y_6168), (4, .int z_6151), (0, .ref oK), (1, .int p0)]) hx hb dX6_mean_61 rfl hl (by decide) rfl (fun ls hl => ?_)
          obtain ⟨x_6169, ex_6169⟩ : ∃ z : Int32, z = z_6151 + Int32.ofInt 1 := ⟨_, rfl⟩
          have hG := hG.trans (lt_eq ex_6169)
          have vx_6169 : x_6169.toInt = z_6151.toInt + 1 := ti_add (y := 1) ex_6169 rfl kc_1 (om_4e4fce7e hi0_n_6155.1) (om_26fca3fc ux_6156.2 gc_6157)
          refine lv_iinc (v := x_6169) (lv' := [(4, .int x_6169), (2, .long y_6168), (0, .ref oK), (1, .int p0)]) hx hb dX6_mean_62 hl (k := 1) rfl ex_6169.symm (by decide) rfl (fun ls hl => ?_)
          refine lv_goto (tgt := 16) hx hb dX6_mean_65 (by decide) ?_
          exact ih_n_6155 x_6169 y_6168 f_6163 f_6164 _ _ _  ⟨(om_83b90de5 hi0_n_6155.1 vx_6169), (om_4b156bce ux_6156.2 gc_6157 vx_6169)⟩ (ms_lt hm_n_6155 (om_b9393183 vx_6169) (om_33376cd8 ux_6156.2 gc_6157)) hG (hP.sub [0, 5, 6, 7, 8, 9, 10, 11, 12, 1, 13, 2, 3, 4] rfl) (hD.sub [0, 5, 6, 7, 8, 9, 10, 11, 12, 1, 13, 2, 3, 4] (by decide) rfl) hS (lv_sub hl [0, 1, 2, 3] rfl)
    exact key_n_6155 (((2147483647 - (0 : Int32).toInt).toNat) + 1) 0 0 fL_values fL_supposed _ _ _  ⟨(om_b1de7dbe kc_0), (om_daf17c64 kc_0)⟩ (Nat.lt_add_one _) hG hP hD hS hl
  · skip
    have hG := hG.trans (un2_eq e_x_6147_0)
    have hG := hG.trans (if_neg (by decide))
    refine lv_if_eq (tgt := 11) hx hb dX6_mean_4 (by decide) (fun c => absurd c (by decide)) (fun _ => ?_)
    refine lv_ldc2 hx hb hown (hts _ wd_608) dX6_mean_7 ?_
    exact wq_l hx hb hr (cL (-1)) ⟨⟨trivial, trivial⟩, (cL_of (-1))⟩ (fun t ht hW => ⟨x_6147, fL_values, fL_supposed, (cL_tup hG), Bw.to hP hD hK ht hW⟩) hS dX6_mean_10 hlocks
