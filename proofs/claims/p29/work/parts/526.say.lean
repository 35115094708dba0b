set_option maxHeartbeats 4000000 in
set_option maxRecDepth 100000 in
theorem tX6_say_r (l : Launch) (dC : Nat → ClassId) (dI : Nat → Nat → Nat) (sz : Nat) (oK : Nat) (oR : Nat) (oC : Nat) (oS : Nat) (oT : Nat) (rK_images : Nat) (iK_imageCount : Int32) (oA : Nat) (oH : Nat) (oL : Nat) (iK_refusal : Int32) (iK_latestFault : Int32) (iK_latestPlace : Int32) (iC_nodes : Int32) (iC_words : Int32) (iC_chances : Int32) (iC_unsures : Int32) (iC_slips : Int32) (iC_throneNode : Int32) (iC_saidWorth : Int32) (iC_unit : Int32) (rC_kind : Nat) (fC_kind : Nat → Int32) (kC_kind : ClassId) (rC_parts : Nat) (rC_partNodes : Nat) (rC_weights : Nat) (rC_weightSums : Nat) (rC_toldWorths : Nat) (rC_steps : Nat) (rC_below : Nat) (rC_above : Nat) (rC_unsureWords : Nat) (rC_unsureWorths : Nat) (rS_worths : Nat) (fS_worths : Nat → Int32) (kS_worths : ClassId) (rS_order : Nat) (rS_left : Nat) (iA_count : Int32) (rA_nodes : Nat) (fA_nodes : Nat → Int32) (kA_nodes : ClassId) (rA_olds : Nat) (fA_olds : Nat → Int32) (kA_olds : ClassId) (rA_says : Nat) (fA_says : Nat → Int32) (kA_says : ClassId) (p0 : Int32) (p1 : Int32) (b_iK_imageCount : 0 ≤ iK_imageCount.toInt ∧ iK_imageCount.toInt ≤ 3) (b_iC_nodes : 0 ≤ iC_nodes.toInt ∧ iC_nodes.toInt ≤ 18) (b_iC_unsures : 0 ≤ iC_unsures.toInt ∧ iC_unsures.toInt ≤ 4) (b_iC_throneNode : (-1) ≤ iC_throneNode.toInt ∧ iC_throneNode.toInt ≤ 17) (b_iA_count : 0 ≤ iA_count.toInt ∧ iA_count.toInt ≤ 16) (a_fA_nodes : ∀ j : Nat, j < 16 → 0 ≤ (fA_nodes j).toInt ∧ (fA_nodes j).toInt ≤ 17) (a_fA_says : ∀ j : Nat, j < 16 → 0 ≤ (fA_says j).toInt ∧ (fA_says j).toInt ≤ 1) (r_A : ∀ j : Nat, j < 16 → fA_says j = 0 → 0 ≤ (fA_olds j).toInt ∧ (fA_olds j).toInt ≤ 3)  : Met l yX6_say (Cond.code yX6_say cX6_say 3 (some .boolean) :: wG) ({ frames := 3, cells := 0, slots := 0, locals := 63 }) (va_Pc [.ref oK, .int p0, .int p1] (Pw dC dI sz [(oc6 oK oR oC oS oT rK_images iK_imageCount oA oH oL iK_refusal iK_latestFault iK_latestPlace), (oc1 oC iC_nodes iC_words iC_chances iC_unsures iC_slips iC_throneNode iC_saidWorth iC_unit rC_kind rC_parts rC_partNodes rC_weights rC_weightSums rC_toldWorths rC_steps rC_below rC_above rC_unsureWords rC_unsureWorths), (arI rC_kind kC_kind 18 fC_kind), (oc5 oS rS_worths rS_order rS_left), (arI rS_worths kS_worths 18 fS_worths), (oc0 oA iA_count rA_nodes rA_olds rA_says), (arI rA_nodes kA_nodes 16 fA_nodes), (arI rA_olds kA_olds 16 fA_olds), (arI rA_says kA_says 16 fA_says)] [(kC_kind, .int), (kS_worths, .int), (kA_nodes, .int), (kA_olds, .int), (kA_says, .boolean)])) (va_Qi (fun (r : Int32) (u : Nat) => ((r = 0 ∨ r = 1) ∧ True) ∧ r = Int32.ofNat u) (fun (u : Nat) (t : State) => ∃ (niK_refusal : Int32) (nfS_worths : Nat → Int32) (niA_count : Int32) (nfA_nodes : Nat → Int32) (nfA_olds : Nat → Int32) (nfA_says : Nat → Int32), (0 ≤ niA_count.toInt ∧ niA_count.toInt ≤ 16) ∧ (∀ j : Nat, j < 16 → 0 ≤ (nfA_nodes j).toInt ∧ (nfA_nodes j).toInt ≤ 17) ∧ (∀ j : Nat, j < 16 → 0 ≤ (nfA_says j).toInt ∧ (nfA_says j).toInt ≤ 1) ∧ (∀ j : Nat, j < 16 → nfA_says j = 0 → 0 ≤ (nfA_olds j).toInt ∧ (nfA_olds j).toInt ≤ 3) ∧ (PX6_say iC_nodes fC_kind fS_worths iA_count fA_nodes fA_olds fA_says p0 p1 = (Int32.ofNat u, niK_refusal, nfS_worths, niA_count, nfA_nodes, nfA_olds, nfA_says)) ∧ Bw dC dI (va_A [(oc6 oK oR oC oS oT rK_images iK_imageCount oA oH oL iK_refusal iK_latestFault iK_latestPlace), (oc1 oC iC_nodes iC_words iC_chances iC_unsures iC_slips iC_throneNode iC_saidWorth iC_unit rC_kind rC_parts rC_partNodes rC_weights rC_weightSums rC_toldWorths rC_steps rC_below rC_above rC_unsureWords rC_unsureWorths), (arI rC_kind kC_kind 18 fC_kind), (oc5 oS rS_worths rS_order rS_left), (arI rS_worths kS_worths 18 fS_worths), (oc0 oA iA_count rA_nodes rA_olds rA_says), (arI rA_nodes kA_nodes 16 fA_nodes), (arI rA_olds kA_olds 16 fA_olds), (arI rA_says kA_says 16 fA_says)] sz) [(oc6 oK oR oC oS oT rK_images iK_imageCount oA oH oL niK_refusal iK_latestFault iK_latestPlace), (oc1 oC iC_nodes iC_words iC_chances iC_unsures iC_slips iC_throneNode iC_saidWorth iC_unit rC_kind rC_parts rC_partNodes rC_weights rC_weightSums rC_toldWorths rC_steps rC_below rC_above rC_unsureWords rC_unsureWorths), (arI rC_kind kC_kind 18 fC_kind), (oc5 oS rS_worths rS_order rS_left), (arI rS_worths kS_worths 18 nfS_worths), (oc0 oA niA_count rA_nodes rA_olds rA_says), (arI rA_nodes kA_nodes 16 nfA_nodes), (arI rA_olds kA_olds 16 nfA_olds), (arI rA_says kA_says 16 nfA_says)] [(kC_kind, .int), (kS_worths, .int), (kA_nodes, .int), (kA_olds, .int), (kA_says, .boolean)] t) (va_A [(oc6 oK oR oC oS oT rK_images iK_imageCount oA oH oL iK_refusal iK_latestFault iK_latestPlace), (oc1 oC iC_nodes iC_words iC_chances iC_unsures iC_slips iC_throneNode iC_saidWorth iC_unit rC_kind rC_parts rC_partNodes rC_weights rC_weightSums rC_toldWorths rC_steps rC_below rC_above rC_unsureWords rC_unsureWorths), (arI rC_kind kC_kind 18 fC_kind), (oc5 oS rS_worths rS_order rS_left), (arI rS_worths kS_worths 18 fS_worths), (oc0 oA iA_count rA_nodes rA_olds rA_says), (arI rA_nodes kA_nodes 16 fA_nodes), (arI rA_olds kA_olds 16 fA_olds), (arI rA_says kA_says 16 fA_says)] sz)) 0 0 (va_A [(oc6 oK oR oC oS oT rK_images iK_imageCount oA oH oL iK_refusal iK_latestFault iK_latestPlace), (oc1 oC iC_nodes iC_words iC_chances iC_unsures iC_slips iC_throneNode iC_saidWorth iC_unit rC_kind rC_parts rC_partNodes rC_weights rC_weightSums rC_toldWorths rC_steps rC_below rC_above rC_unsureWords rC_unsureWorths), (arI rC_kind kC_kind 18 fC_kind), (oc5 oS rS_worths rS_order rS_left), (arI rS_worths kS_worths 18 fS_worths), (oc0 oA iA_count rA_nodes rA_olds rA_says), (arI rA_nodes kA_nodes 16 fA_nodes), (arI rA_olds kA_olds 16 fA_olds), (arI rA_says kA_says 16 fA_says)] sz) := by
  refine Met.ofW (cc := cX6_say) (maxL := 3) (ret := (some .boolean)) pnX6 rfl ?_
  intro p e s m args below meth c s₁ B hml hv
  obtain ⟨rfl, hsz, hP, hK, hD0, hE⟩ := hv
  have hx := B.exec
  have hb := B.bytes
  have hr := B.returns
  have hts : ∀ w ∈ wG, w.before ([.ref oK, .int p0, .int p1] : List Value).toArray s = true := fun w h => atoms_spec (ws := Cond.code yX6_say cX6_say 3 (some .boolean) :: wG) B.pre w (List.mem_cons_of_mem _ h)
  have hown : s.vm.findClass RX6 = some m.cls := own_of B.named rfl
  have hlocks := B.notSynchronized
  subst hsz
  have hD := hD0.self (sz := s.heap.size)
  generalize hAe : va_A [(oc6 oK oR oC oS oT rK_images iK_imageCount oA oH oL iK_refusal iK_latestFault iK_latestPlace), (oc1 oC iC_nodes iC_words iC_chances iC_unsures iC_slips iC_throneNode iC_saidWorth iC_unit rC_kind rC_parts rC_partNodes rC_weights rC_weightSums rC_toldWorths rC_steps rC_below rC_above rC_unsureWords rC_unsureWorths), (arI rC_kind kC_kind 18 fC_kind), (oc5 oS rS_worths rS_order rS_left), (arI rS_worths kS_worths 18 fS_worths), (oc0 oA iA_count rA_nodes rA_olds rA_says), (arI rA_nodes kA_nodes 16 fA_nodes), (arI rA_olds kA_olds 16 fA_olds), (arI rA_says kA_says 16 fA_says)] s.heap.size = A at hD hE ⊢
  have hA : ∀ q : Nat, s.heap.size ≤ q → A q := fun q h => by rw [← hAe]; exact Or.inr h
  have hS : va_S A s.heap s.heap [] := va_S.rf
  have hl := lv_entry ([.ref oK, .int p0, .int p1]) (n := 3) (Nat.le_of_ble_eq_true rfl)
  rw [lg_entry_eq]
  generalize (lg_sl ([.ref oK, .int p0, .int p1]) ++ List.replicate (3 - (lg_sl ([.ref oK, .int p0, .int p1])).length) Slot.unset).toArray = ls at hl ⊢
  have hl : lv_has ls 3 [(0, .ref oK), (1, .int p0), (2, .int p1)] := hl
  have hG := PX6_say_eq iC_nodes fC_kind fS_worths iA_count fA_nodes fA_olds fA_says p0 p1
  refine lv_aload_n hx hb dX6_say_0 rfl (lv_at hl 0 rfl) ?_
  refine lv_iload_n hx hb dX6_say_1 rfl (lv_at hl 1 rfl) ?_
  have hMs := ml_of hD [true, true, true, false, false, false, false, false, false] (wc := [(oc6 oK oR oC oS oT rK_images iK_imageCount oA oH oL iK_refusal iK_latestFault iK_latestPlace), (oc1 oC iC_nodes iC_words iC_chances iC_unsures iC_slips iC_throneNode iC_saidWorth iC_unit rC_kind rC_parts rC_partNodes rC_weights rC_weightSums rC_toldWorths rC_steps rC_below rC_above rC_unsureWords rC_unsureWorths), (arI rC_kind kC_kind 18 fC_kind)]) rfl
  have hFc := va_freeM hD hS hA _ hMs
  refine va_calli (va_runV (As := [.int p0]) (rest := []) ⟨hx, hb, hml, hown, hts⟩ (tX6_lacksWord l dC dI _ oK oR oC oS oT rK_images iK_imageCount oA oH oL iK_refusal iK_latestFault iK_latestPlace iC_nodes iC_words iC_chances iC_unsures iC_slips iC_throneNode iC_saidWorth iC_unit rC_kind fC_kind kC_kind rC_parts rC_partNodes rC_weights rC_weightSums rC_toldWorths rC_steps rC_below rC_above rC_unsureWords rC_unsureWorths p0 b_iK_imageCount b_iC_nodes b_iC_unsures b_iC_throneNode) (cwV 1 hts (wd_V wd_1116 wd_1117 wd_1118 wd_2 (wd_c wd_1119)) rfl rfl rfl dv_yX6_lacksWord_1 ⟨Nat.le_of_ble_eq_true rfl, Nat.le_of_ble_eq_true rfl⟩) ⟨Pw.fb, recvX6 hK hP (q0 := 0) rfl, fun U hU hW => Pw.to (hP.ms _ hMs) (hD.ms _ hMs) (hK.ms [true, false, false, false, false] rfl) hE hS hFc hU hW⟩ rfl rfl hl.1 rfl (lv_room (Nat.le_of_ble_eq_true rfl)) dX6_say_2 ⟨Nat.le_of_ble_eq_true rfl, Nat.le_of_ble_eq_true rfl⟩) hS (fun q _ h => hFc q h) hFc (fun r u t H locs ht hvm hw hB hz1 hk1 hS => ?_)
  have hru9 := hw.2
  have hw := hw.1
  refine ex_1_2 hB (fun x_6897 b_x_6897 e_x_6897_0 hB => ?_)
  obtain ⟨hP, hD⟩ := Bw.goN (ws' := [(oc6 oK oR oC oS oT rK_images iK_imageCount oA oH oL x_6897 iK_latestFault iK_latestPlace), (oc1 oC iC_nodes iC_words iC_chances iC_unsures iC_slips iC_throneNode iC_saidWorth iC_unit rC_kind rC_parts rC_partNodes rC_weights rC_weightSums rC_toldWorths rC_steps rC_below rC_above rC_unsureWords rC_unsureWorths), (arI rC_kind kC_kind 18 fC_kind), (oc5 oS rS_worths rS_order rS_left), (arI rS_worths kS_worths 18 fS_worths), (oc0 oA iA_count rA_nodes rA_olds rA_says), (arI rA_nodes kA_nodes 16 fA_nodes), (arI rA_olds kA_olds 16 fA_olds), (arI rA_says kA_says 16 fA_says)]) hB rfl ht hP hD _ hMs hk1 hFc rfl
  clear hz1 hk1 hvm ht hB hMs
  rw [← hru9] at e_x_6897_0
  rcases hw.2 with ⟨rfl, hc_6898⟩ | ⟨rfl, hc_6898⟩
  · skip
    have hG := hG.trans (un2_eq e_x_6897_0)
    have hG := hG.trans (if_pos rfl)
    refine lv_if_ne (tgt := 19) hx hb dX6_say_5 (by decide) (fun c => absurd c (by decide)) (fun _ => ?_)
    refine lv_aload_n hx hb dX6_say_8 rfl (lv_at hl 0 rfl) ?_
    refine lv_iload_n hx hb dX6_say_9 rfl (lv_at hl 2 rfl) ?_
    refine lv_iconst (v := 0) hx hb dX6_say_10 (by decide) ?_
    refine lv_bipush (v := 99) hx hb dX6_say_11 (by decide) ?_
    have hMs := ml_of hD [true, true, false, false, false, false, false, false, false] (wc := [(oc6 oK oR oC oS oT rK_images iK_imageCount oA oH oL x_6897 iK_latestFault iK_latestPlace), (oc1 oC iC_nodes iC_words iC_chances iC_unsures iC_slips iC_throneNode iC_saidWorth iC_unit rC_kind rC_parts rC_partNodes rC_weights rC_weightSums rC_toldWorths rC_steps rC_below rC_above rC_unsureWords rC_unsureWorths)]) rfl
    have hFc := va_freeM hD hS hA _ hMs
    refine va_calli (va_runV (As := [.int p1, .int 0, .int 99]) (rest := []) ⟨hx, hb, hml, hown, hts⟩ (tX6_lacksNumber l dC dI _ oK oR oC oS oT rK_images iK_imageCount oA oH oL x_6897 iK_latestFault iK_latestPlace iC_nodes iC_words iC_chances iC_unsures iC_slips iC_throneNode iC_saidWorth iC_unit rC_kind rC_parts rC_partNodes rC_weights rC_weightSums rC_toldWorths rC_steps rC_below rC_above rC_unsureWords rC_unsureWorths p1 0 99 b_iK_imageCount b_iC_nodes b_iC_unsures b_iC_throneNode) (cwV 3 hts (wd_V wd_866 wd_867 wd_868 wd_2 (wd_c wd_869)) rfl rfl rfl dv_yX6_lacksNumber_3 ⟨Nat.le_of_ble_eq_true rfl, Nat.le_of_ble_eq_true rfl⟩) ⟨Pw.fb, recvX6 hK hP (q0 := 0) rfl, fun U hU hW => Pw.to (hP.ms _ hMs) (hD.ms _ hMs) (hK.ms [false, false, false, false, false] rfl) hE hS hFc hU hW⟩ rfl rfl hl.1 rfl (lv_room (Nat.le_of_ble_eq_true rfl)) dX6_say_13 ⟨Nat.le_of_ble_eq_true rfl, Nat.le_of_ble_eq_true rfl⟩) hS (fun q _ h => hFc q h) hFc (fun r u t H locs ht hvm hw hB hz1 hk1 hS => ?_)
    have hru9 := hw.2
    have hw := hw.1
    refine ex_1_1 hB (fun x_6901 e_x_6901_0 hB => ?_)
    obtain ⟨hP, hD⟩ := Bw.goN (ws' := [(oc6 oK oR oC oS oT rK_images iK_imageCount oA oH oL x_6901 iK_latestFault iK_latestPlace), (oc1 oC iC_nodes iC_words iC_chances iC_unsures iC_slips iC_throneNode iC_saidWorth iC_unit rC_kind rC_parts rC_partNodes rC_weights rC_weightSums rC_toldWorths rC_steps rC_below rC_above rC_unsureWords rC_unsureWorths), (arI rC_kind kC_kind 18 fC_kind), (oc5 oS rS_worths rS_order rS_left), (arI rS_worths kS_worths 18 fS_worths), (oc0 oA iA_count rA_nodes rA_olds rA_says), (arI rA_nodes kA_nodes 16 fA_nodes), (arI rA_olds kA_olds 16 fA_olds), (arI rA_says kA_says 16 fA_says)]) hB rfl ht hP hD _ hMs hk1 hFc rfl
    clear hz1 hk1 hvm ht hB hMs
    rw [← hru9] at e_x_6901_0
    rcases hw.2 with ⟨rfl, hc_6902⟩ | ⟨rfl, hc_6902⟩
    · skip
      have hG := hG.trans (un2_eq e_x_6901_0)
      have hG := hG.trans (if_pos rfl)
      refine lv_if_eq (tgt := 21) hx hb dX6_say_16 (by decide) (fun _ => ?_) (fun c => absurd c (by decide))
      refine lv_aload_n hx hb dX6_say_21 rfl (lv_at hl 0 rfl) ?_
      refine va_get (D := (dC, dI)) (ci := 6) (v := .ref oS) (C := RX6) (T := TX6) (N := 12) hx hb hts inX6 hown hK hP 0 rfl rfl 2 (by decide) (hts _ wd_24) (fun _ h9 => h9) rfl dX6_say_22 ?_
      refine va_get (D := (dC, dI)) (ci := 5) (v := .ref rS_worths) (C := RX5) (T := TX5) (N := 3) hx hb hts inX5 hown hK hP 3 rfl rfl 0 (by decide) (hts _ wd_609) (fun _ h9 => h9) rfl dX6_say_25 ?_
      refine lv_iload_n hx hb dX6_say_28 rfl (lv_at hl 1 rfl) ?_
      refine va_iald hx hb hK hP 4 1 rfl rfl (ti_in rfl hc_6898.1 (om_97cd4a7c b_iC_nodes.2 hc_6898.2)) dX6_say_29 ?_
      refine lv_topi (fun x_6905 ex_6905 => ?_)
      have hG := hG.trans (lt_eq ex_6905)
      have kx_6905 : (fS_worths p0.toNatClampNeg).toInt = x_6905.toInt := by rw [ex_6905]
      refine lv_iload_n hx hb dX6_say_30 rfl (lv_at hl 2 rfl) ?_
      refine lv_icmp_ne (tgt := 41) hx hb dX6_say_31 (by decide) (fun c_6906 => ?_) (fun c_6906 => ?_)
      · skip
        have hG := hG.trans (if_neg c_6906)
        have gc_6906 := ti_ne c_6906 rfl rfl
        refine lv_aload_n hx hb dX6_say_41 rfl (lv_at hl 0 rfl) ?_
        refine va_get (D := (dC, dI)) (ci := 6) (v := .ref oA) (C := RX6) (T := TX6) (N := 12) hx hb hts inX6 hown hK hP 0 rfl rfl 6 (by decide) (hts _ wd_30) (fun _ h9 => h9) rfl dX6_say_42 ?_
        refine lv_iload_n hx hb dX6_say_45 rfl (lv_at hl 1 rfl) ?_
        refine lv_aload_n hx hb dX6_say_46 rfl (lv_at hl 0 rfl) ?_
        refine va_get (D := (dC, dI)) (ci := 6) (v := .ref oS) (C := RX6) (T := TX6) (N := 12) hx hb hts inX6 hown hK hP 0 rfl rfl 2 (by decide) (hts _ wd_24) (fun _ h9 => h9) rfl dX6_say_47 ?_
        refine va_get (D := (dC, dI)) (ci := 5) (v := .ref rS_worths) (C := RX5) (T := TX5) (N := 3) hx hb hts inX5 hown hK hP 3 rfl rfl 0 (by decide) (hts _ wd_609) (fun _ h9 => h9) rfl dX6_say_50 ?_
        refine lv_iload_n hx hb dX6_say_53 rfl (lv_at hl 1 rfl) ?_
        refine va_iald hx hb hK hP 4 1 rfl rfl (ti_in rfl hc_6898.1 (om_97cd4a7c b_iC_nodes.2 hc_6898.2)) dX6_say_54 ?_
        refine lv_topi (fun x_6907 ex_6907 => ?_)
        have hG := hG.trans (lt_eq ex_6907)
        have kx_6907 : (fS_worths p0.toNatClampNeg).toInt = x_6907.toInt := by rw [ex_6907]
        refine lv_iconst (v := 1) hx hb dX6_say_55 (by decide) ?_
        have hMs := ml_of hD [false, false, false, false, false, true, true, true, true] (wc := [(oc0 oA iA_count rA_nodes rA_olds rA_says), (arI rA_nodes kA_nodes 16 fA_nodes), (arI rA_olds kA_olds 16 fA_olds), (arI rA_says kA_says 16 fA_says)]) rfl
        have hFc := va_freeM hD hS hA _ hMs
        refine va_callv (va_runV (As := [.int p0, .int x_6907, .int 1]) (rest := []) ⟨hx, hb, hml, hown, hts⟩ (tX0_keep l dC dI _ oA iA_count rA_nodes fA_nodes kA_nodes rA_olds fA_olds kA_olds rA_says fA_says kA_says p0 x_6907 1 b_iA_count a_fA_nodes a_fA_says (by assumption) ⟨hc_6898.1, (om_525c5d3e b_iC_nodes.2 hc_6898.2)⟩ ⟨(om_1b364b1c kc_1), (om_02032f93 kc_1)⟩ (by first | assumption | (have q0 := kc_0; have q1 := kc_1; first | exact ⟨by omega, by omega⟩ | omega) | decide | (intro h; exact absurd h (by decide)))) (cwV 3 hts (wd_V wd_1365 wd_1366 wd_1367 wd_29 (wd_c wd_1368)) rfl rfl rfl dv_yX0_keep_3 ⟨Nat.le_of_ble_eq_true rfl, Nat.le_of_ble_eq_true rfl⟩) ⟨Pw.fb, recvX0 hK hP (q0 := 5) rfl, fun U hU hW => Pw.to (hP.ms _ hMs) (hD.ms _ hMs) (hK.ms [false, false, true, true, true] rfl) hE hS hFc hU hW⟩ rfl rfl hl.1 rfl (lv_room (Nat.le_of_ble_eq_true rfl)) dX6_say_56 ⟨Nat.le_of_ble_eq_true rfl, Nat.le_of_ble_eq_true rfl⟩) hS (fun q _ h => hFc q h) hFc (fun u t H locs ht hvm hw hB hz1 hk1 hS => ?_)
        refine ex_4_5 hB (fun x_6908 f_6909 f_6910 f_6911 b_x_6908 a_f_6909 a_f_6911 e_x_6908_0 e_x_6908_1 hB => ?_)
        obtain ⟨hP, hD⟩ := Bw.goN (ws' := [(oc6 oK oR oC oS oT rK_images iK_imageCount oA oH oL x_6901 iK_latestFault iK_latestPlace), (oc1 oC iC_nodes iC_words iC_chances iC_unsures iC_slips iC_throneNode iC_saidWorth iC_unit rC_kind rC_parts rC_partNodes rC_weights rC_weightSums rC_toldWorths rC_steps rC_below rC_above rC_unsureWords rC_unsureWorths), (arI rC_kind kC_kind 18 fC_kind), (oc5 oS rS_worths rS_order rS_left), (arI rS_worths kS_worths 18 fS_worths), (oc0 oA x_6908 rA_nodes rA_olds rA_says), (arI rA_nodes kA_nodes 16 f_6909), (arI rA_olds kA_olds 16 f_6910), (arI rA_says kA_says 16 f_6911)]) hB rfl ht hP hD _ hMs hk1 hFc rfl
        clear hz1 hk1 hvm ht hB hMs
        have hG := hG.trans (un4_eq e_x_6908_1)
        refine lv_aload_n hx hb dX6_say_59 rfl (lv_at hl 0 rfl) ?_
        refine va_get (D := (dC, dI)) (ci := 6) (v := .ref oS) (C := RX6) (T := TX6) (N := 12) hx hb hts inX6 hown hK hP 0 rfl rfl 2 (by decide) (hts _ wd_24) (fun _ h9 => h9) rfl dX6_say_60 ?_
        refine va_get (D := (dC, dI)) (ci := 5) (v := .ref rS_worths) (C := RX5) (T := TX5) (N := 3) hx hb hts inX5 hown hK hP 3 rfl rfl 0 (by decide) (hts _ wd_609) (fun _ h9 => h9) rfl dX6_say_63 ?_
        refine lv_iload_n hx hb dX6_say_66 rfl (lv_at hl 1 rfl) ?_
        refine lv_iload_n hx hb dX6_say_67 rfl (lv_at hl 2 rfl) ?_
        refine va_iast hx hb hK hP hD hS 4 1 rfl rfl (ti_in rfl hc_6898.1 (om_97cd4a7c b_iC_nodes.2 hc_6898.2)) dX6_say_68 (fun H locs hP hD hS => ?_)
        obtain ⟨f_6913, ef_6913⟩ : ∃ g : Nat → Int32, g = upd fS_worths p0.toNatClampNeg p1 := ⟨_, rfl⟩
        rw [← ef_6913] at hP hD
        have hG := hG.trans (lt_eq ef_6913)
        obtain ⟨hP, hD⟩ := wl2 (ws' := [(oc6 oK oR oC oS oT rK_images iK_imageCount oA oH oL x_6901 iK_latestFault iK_latestPlace), (oc1 oC iC_nodes iC_words iC_chances iC_unsures iC_slips iC_throneNode iC_saidWorth iC_unit rC_kind rC_parts rC_partNodes rC_weights rC_weightSums rC_toldWorths rC_steps rC_below rC_above rC_unsureWords rC_unsureWorths), (arI rC_kind kC_kind 18 fC_kind), (oc5 oS rS_worths rS_order rS_left), (arI rS_worths kS_worths 18 f_6913), (oc0 oA x_6908 rA_nodes rA_olds rA_says), (arI rA_nodes kA_nodes 16 f_6909), (arI rA_olds kA_olds 16 f_6910), (arI rA_says kA_says 16 f_6911)]) hP hD rfl
        refine lv_iconst (v := 1) hx hb dX6_say_69 (by decide) ?_
        exact wq_z (v := 1) hx hb hr rfl (cI 1) ⟨⟨Or.inr rfl, trivial⟩, (cI_of 1)⟩ (fun t ht hW => ⟨x_6901, f_6913, x_6908, f_6909, f_6910, f_6911, b_x_6908, a_f_6909, a_f_6911, (by first | assumption | omega | decide), (cI_tup hG), Bw.to hP hD hK ht hW⟩) hS dX6_say_70 hlocks
      · skip
        have hG := hG.trans (if_pos c_6906)
        have gc_6906 := ti_eq c_6906 rfl rfl
        refine lv_aload_n hx hb dX6_say_34 rfl (lv_at hl 0 rfl) ?_
        refine lv_iconst (v := 5) hx hb dX6_say_35 (by decide) ?_
        refine va_put (D := (dC, dI)) (ci := 6) (v := .int 5) (ty := .int) (C := RX6) (T := TX6) (N := 12) hx hb hts inX6 tyX6 tyX6_ok nmX6 hown hK hP hD hS 0 rfl rfl 9 (by decide) (hts _ wd_195) (fun _ h9 => h9) rfl (by decide +kernel) rfl rfl (Nat.le_of_ble_eq_true rfl) dX6_say_36 (fun H locs hP hD hS => ?_)
        obtain ⟨hP, hD⟩ := wl2 (ws' := [(oc6 oK oR oC oS oT rK_images iK_imageCount oA oH oL 5 iK_latestFault iK_latestPlace), (oc1 oC iC_nodes iC_words iC_chances iC_unsures iC_slips iC_throneNode iC_saidWorth iC_unit rC_kind rC_parts rC_partNodes rC_weights rC_weightSums rC_toldWorths rC_steps rC_below rC_above rC_unsureWords rC_unsureWorths), (arI rC_kind kC_kind 18 fC_kind), (oc5 oS rS_worths rS_order rS_left), (arI rS_worths kS_worths 18 fS_worths), (oc0 oA iA_count rA_nodes rA_olds rA_says), (arI rA_nodes kA_nodes 16 fA_nodes), (arI rA_olds kA_olds 16 fA_olds), (arI rA_says kA_says 16 fA_says)]) hP hD rfl
        refine lv_iconst (v := 0) hx hb dX6_say_39 (by decide) ?_
        exact wq_z (v := 0) hx hb hr rfl (cI 0) ⟨⟨Or.inl rfl, trivial⟩, (cI_of 0)⟩ (fun t ht hW => ⟨5, fS_worths, iA_count, fA_nodes, fA_olds, fA_says, b_iA_count, a_fA_nodes, a_fA_says, (by first | assumption | omega | decide), (cI_tup hG), Bw.to hP hD hK ht hW⟩) hS dX6_say_40 hlocks
    · skip
      have hG := hG.trans (un2_eq e_x_6901_0)
      have hG := hG.trans (if_neg (by decide))
      refine lv_if_eq (tgt := 21) hx hb dX6_say_16 (by decide) (fun c => absurd c (by decide)) (fun _ => ?_)
      refine lv_iconst (v := 0) hx hb dX6_say_19 (by decide) ?_
      exact wq_z (v := 0) hx hb hr rfl (cI 0) ⟨⟨Or.inl rfl, trivial⟩, (cI_of 0)⟩ (fun t ht hW => ⟨x_6901, fS_worths, iA_count, fA_nodes, fA_olds, fA_says, b_iA_count, a_fA_nodes, a_fA_says, (by first | assumption | omega | decide), (cI_tup hG), Bw.to hP hD hK ht hW⟩) hS dX6_say_20 hlocks
  · skip
    have hG := hG.trans (un2_eq e_x_6897_0)
    have hG := hG.trans (if_neg (by decide))
    refine lv_if_ne (tgt := 19) hx hb dX6_say_5 (by decide) (fun _ => ?_) (fun c => absurd c (by decide))
    refine lv_iconst (v := 0) hx hb dX6_say_19 (by decide) ?_
    exact wq_z (v := 0) hx hb hr rfl (cI 0) ⟨⟨Or.inl rfl, trivial⟩, (cI_of 0)⟩ (fun t ht hW => ⟨x_6897, fS_worths, iA_count, fA_nodes, fA_olds, fA_says, b_iA_count, a_fA_nodes, a_fA_says, (by first | assumption | omega | decide), (cI_tup hG), Bw.to hP hD hK ht hW⟩) hS dX6_say_20 hlocks
set_option maxHeartbeats 4000000 in
set_option maxRecDepth 100000 in
theorem tX6_front_r (l : Launch) (dC : Nat → ClassId) (dI : Nat → Nat → Nat) (sz : Nat) (oK : Nat) (oR : Nat) (oC : Nat) (oS : Nat) (oT : Nat) (rK_images : Nat) (iK_imageCount : Int32) (oA : Nat) (oH : Nat) (oL : Nat) (iK_refusal : Int32) (iK_latestFault : Int32) (iK_latestPlace : Int32) (iC_nodes : Int32) (iC_words : Int32) (iC_chances : Int32) (iC_unsures : Int32) (iC_slips : Int32) (iC_throneNode : Int32) (iC_saidWorth : Int32) (iC_unit : Int32) (rC_kind : Nat) (rC_parts : Nat) (fC_parts : Nat → Int32) (kC_parts : ClassId) (rC_partNodes : Nat) (fC_partNodes : Nat → Int32) (kC_partNodes : ClassId) (rC_weights : Nat) (rC_weightSums : Nat) (rC_toldWorths : Nat) (rC_steps : Nat) (rC_below : Nat) (rC_above : Nat) (rC_unsureWords : Nat) (rC_unsureWorths : Nat) (rS_worths : Nat) (rS_order : Nat) (fS_order : Nat → Int32) (kS_order : ClassId) (rS_left : Nat) (iA_count : Int32) (rA_nodes : Nat) (fA_nodes : Nat → Int32) (kA_nodes : ClassId) (rA_olds : Nat) (fA_olds : Nat → Int32) (kA_olds : ClassId) (rA_says : Nat) (fA_says : Nat → Int32) (kA_says : ClassId) (p0 : Int32) (p1 : Int32) (b_iK_imageCount : 0 ≤ iK_imageCount.toInt ∧ iK_imageCount.toInt ≤ 3) (b_iC_nodes : 0 ≤ iC_nodes.toInt ∧ iC_nodes.toInt ≤ 18) (b_iC_unsures : 0 ≤ iC_unsures.toInt ∧ iC_unsures.toInt ≤ 4) (b_iC_throneNode : (-1) ≤ iC_throneNode.toInt ∧ iC_throneNode.toInt ≤ 17) (a_fC_parts : ∀ j : Nat, j < 18 → 0 ≤ (fC_parts j).toInt ∧ (fC_parts j).toInt ≤ 4) (a_fC_partNodes : ∀ j : Nat, j < 72 → 0 ≤ (fC_partNodes j).toInt ∧ (fC_partNodes j).toInt ≤ 17) (a_fS_order : ∀ j : Nat, j < 72 → 0 ≤ (fS_order j).toInt ∧ (fS_order j).toInt ≤ 3) (b_iA_count : 0 ≤ iA_count.toInt ∧ iA_count.toInt ≤ 16) (a_fA_nodes : ∀ j : Nat, j < 16 → 0 ≤ (fA_nodes j).toInt ∧ (fA_nodes j).toInt ≤ 17) (a_fA_says : ∀ j : Nat, j < 16 → 0 ≤ (fA_says j).toInt ∧ (fA_says j).toInt ≤ 1) (r_A : ∀ j : Nat, j < 16 → fA_says j = 0 → 0 ≤ (fA_olds j).toInt ∧ (fA_olds j).toInt ≤ 3)  : Met l yX6_front (Cond.code yX6_front cX6_front 3 (some .int) :: wG) ({ frames := 2, cells := 0, slots := 0, locals := 44 }) (va_Pc [.ref oK, .int p0, .int p1] (Pw dC dI sz [(oc6 oK oR oC oS oT rK_images iK_imageCount oA oH oL iK_refusal iK_latestFault iK_latestPlace), (oc1 oC iC_nodes iC_words iC_chances iC_unsures iC_slips iC_throneNode iC_saidWorth iC_unit rC_kind rC_parts rC_partNodes rC_weights rC_weightSums rC_toldWorths rC_steps rC_below rC_above rC_unsureWords rC_unsureWorths), (arI rC_parts kC_parts 18 fC_parts), (arI rC_partNodes kC_partNodes 72 fC_partNodes), (oc5 oS rS_worths rS_order rS_left), (arI rS_order kS_order 72 fS_order), (oc0 oA iA_count rA_nodes rA_olds rA_says), (arI rA_nodes kA_nodes 16 fA_nodes), (arI rA_olds kA_olds 16 fA_olds), (arI rA_says kA_says 16 fA_says)] [(kC_parts, .int), (kC_partNodes, .int), (kS_order, .int), (kA_nodes, .int), (kA_olds, .int), (kA_says, .boolean)])) (va_Qi (fun (r : Int32) (u : Nat) => (True ∧ True) ∧ r = Int32.ofNat u) (fun (u : Nat) (t : State) => ∃ (niK_refusal : Int32) (nfS_order : Nat → Int32) (niA_count : Int32) (nfA_nodes : Nat → Int32) (nfA_olds : Nat → Int32) (nfA_says : Nat → Int32), (∀ j : Nat, j < 72 → 0 ≤ (nfS_order j).toInt ∧ (nfS_order j).toInt ≤ 3) ∧ (0 ≤ niA_count.toInt ∧ niA_count.toInt ≤ 16) ∧ (∀ j : Nat, j < 16 → 0 ≤ (nfA_nodes j).toInt ∧ (nfA_nodes j).toInt ≤ 17) ∧ (∀ j : Nat, j < 16 → 0 ≤ (nfA_says j).toInt ∧ (nfA_says j).toInt ≤ 1) ∧ (∀ j : Nat, j < 16 → nfA_says j = 0 → 0 ≤ (nfA_olds j).toInt ∧ (nfA_olds j).toInt ≤ 3) ∧ (PX6_front iC_nodes fC_parts fC_partNodes fS_order iA_count fA_nodes fA_olds fA_says p0 p1 = (Int32.ofNat u, niK_refusal, nfS_order, niA_count, nfA_nodes, nfA_olds, nfA_says)) ∧ Bw dC dI (va_A [(oc6 oK oR oC oS oT rK_images iK_imageCount oA oH oL iK_refusal iK_latestFault iK_latestPlace), (oc1 oC iC_nodes iC_words iC_chances iC_unsures iC_slips iC_throneNode iC_saidWorth iC_unit rC_kind rC_parts rC_partNodes rC_weights rC_weightSums rC_toldWorths rC_steps rC_below rC_above rC_unsureWords rC_unsureWorths), (arI rC_parts kC_parts 18 fC_parts), (arI rC_partNodes kC_partNodes 72 fC_partNodes), (oc5 oS rS_worths rS_order rS_left), (arI rS_order kS_order 72 fS_order), (oc0 oA iA_count rA_nodes rA_olds rA_says), (arI rA_nodes kA_nodes 16 fA_nodes), (arI rA_olds kA_olds 16 fA_olds), (arI rA_says kA_says 16 fA_says)] sz) [(oc6 oK oR oC oS oT rK_images iK_imageCount oA oH oL niK_refusal iK_latestFault iK_latestPlace), (oc1 oC iC_nodes iC_words iC_chances iC_unsures iC_slips iC_throneNode iC_saidWorth iC_unit rC_kind rC_parts rC_partNodes rC_weights rC_weightSums rC_toldWorths rC_steps rC_below rC_above rC_unsureWords rC_unsureWorths), (arI rC_parts kC_parts 18 fC_parts), (arI rC_partNodes kC_partNodes 72 fC_partNodes), (oc5 oS rS_worths rS_order rS_left), (arI rS_order kS_order 72 nfS_order), (oc0 oA niA_count rA_nodes rA_olds rA_says), (arI rA_nodes kA_nodes 16 nfA_nodes), (arI rA_olds kA_olds 16 nfA_olds), (arI rA_says kA_says 16 nfA_says)] [(kC_parts, .int), (kC_partNodes, .int), (kS_order, .int), (kA_nodes, .int), (kA_olds, .int), (kA_says, .boolean)] t) (va_A [(oc6 oK oR oC oS oT rK_images iK_imageCount oA oH oL iK_refusal iK_latestFault iK_latestPlace), (oc1 oC iC_nodes iC_words iC_chances iC_unsures iC_slips iC_throneNode iC_saidWorth iC_unit rC_kind rC_parts rC_partNodes rC_weights rC_weightSums rC_toldWorths rC_steps rC_below rC_above rC_unsureWords rC_unsureWorths), (arI rC_parts kC_parts 18 fC_parts), (arI rC_partNodes kC_partNodes 72 fC_partNodes), (oc5 oS rS_worths rS_order rS_left), (arI rS_order kS_order 72 fS_order), (oc0 oA iA_count rA_nodes rA_olds rA_says), (arI rA_nodes kA_nodes 16 fA_nodes), (arI rA_olds kA_olds 16 fA_olds), (arI rA_says kA_says 16 fA_says)] sz)) 0 0 (va_A [(oc6 oK oR oC oS oT rK_images iK_imageCount oA oH oL iK_refusal iK_latestFault iK_latestPlace), (oc1 oC iC_nodes iC_words iC_chances iC_unsures iC_slips iC_throneNode iC_saidWorth iC_unit rC_kind rC_parts rC_partNodes rC_weights rC_weightSums rC_toldWorths rC_steps rC_below rC_above rC_unsureWords rC_unsureWorths), (arI rC_parts kC_parts 18 fC_parts), (arI rC_partNodes kC_partNodes 72 fC_partNodes), (oc5 oS rS_worths rS_order rS_left), (arI rS_order kS_order 72 fS_order), (oc0 oA iA_count rA_nodes rA_olds rA_says), (arI rA_nodes kA_nodes 16 fA_nodes), (arI rA_olds kA_olds 16 fA_olds), (arI rA_says kA_says 16 fA_says)] sz) := by
  refine Met.ofW (cc := cX6_front) (maxL := 3) (ret := (some .int)) pnX6 rfl ?_
  intro p e s m args below meth c s₁ B hml hv
  obtain ⟨rfl, hsz, hP, hK, hD0, hE⟩ := hv
  have hx := B.exec
  have hb := B.bytes
  have hr := B.returns
  have hts : ∀ w ∈ wG, w.before ([.ref oK, .int p0, .int p1] : List Value).toArray s = true := fun w h => atoms_spec (ws := Cond.code yX6_front cX6_front 3 (some .int) :: wG) B.pre w (List.mem_cons_of_mem _ h)
  have hown : s.vm.findClass RX6 = some m.cls := own_of B.named rfl
  have hlocks := B.notSynchronized
  subst hsz
  have hD := hD0.self (sz := s.heap.size)
  generalize hAe : va_A [(oc6 oK oR oC oS oT rK_images iK_imageCount oA oH oL iK_refusal iK_latestFault iK_latestPlace), (oc1 oC iC_nodes iC_words iC_chances iC_unsures iC_slips iC_throneNode iC_saidWorth iC_unit rC_kind rC_parts rC_partNodes rC_weights rC_weightSums rC_toldWorths rC_steps rC_below rC_above rC_unsureWords rC_unsureWorths), (arI rC_parts kC_parts 18 fC_parts), (arI rC_partNodes kC_partNodes 72 fC_partNodes), (oc5 oS rS_worths rS_order rS_left), (arI rS_order kS_order 72 fS_order), (oc0 oA iA_count rA_nodes rA_olds rA_says), (arI rA_nodes kA_nodes 16 fA_nodes), (arI rA_olds kA_olds 16 fA_olds), (arI rA_says kA_says 16 fA_says)] s.heap.size = A at hD hE ⊢
  have hA : ∀ q : Nat, s.heap.size ≤ q → A q := fun q h => by rw [← hAe]; exact Or.inr h
  have hS : va_S A s.heap s.heap [] := va_S.rf
  have hl := lv_entry ([.ref oK, .int p0, .int p1]) (n := 3) (Nat.le_of_ble_eq_true rfl)
  rw [lg_entry_eq]
  generalize (lg_sl ([.ref oK, .int p0, .int p1]) ++ List.replicate (3 - (lg_sl ([.ref oK, .int p0, .int p1])).length) Slot.unset).toArray = ls at hl ⊢
  have hl : lv_has ls 3 [(0, .ref oK), (1, .int p0), (2, .int p1)] := hl
  have hG := PX6_front_eq iC_nodes fC_parts fC_partNodes fS_order iA_count fA_nodes fA_olds fA_says p0 p1
  refine lv_aload_n hx hb dX6_front_0 rfl (lv_at hl 0 rfl) ?_
  refine lv_iload_n hx hb dX6_front_1 rfl (lv_at hl 1 rfl) ?_
  refine lv_iload_n hx hb dX6_front_2 rfl (lv_at hl 2 rfl) ?_
  have hMs := ml_of hD [true, true, true, false, false, false, false, false, false, false] (wc := [(oc6 oK oR oC oS oT rK_images iK_imageCount oA oH oL iK_refusal iK_latestFault iK_latestPlace), (oc1 oC iC_nodes iC_words iC_chances iC_unsures iC_slips iC_throneNode iC_saidWorth iC_unit rC_kind rC_parts rC_partNodes rC_weights rC_weightSums rC_toldWorths rC_steps rC_below rC_above rC_unsureWords rC_unsureWorths), (arI rC_parts kC_parts 18 fC_parts)]) rfl
  have hFc := va_freeM hD hS hA _ hMs
  refine va_calli (va_runV (As := [.int p0, .int p1]) (rest := []) ⟨hx, hb, hml, hown, hts⟩ (tX6_lacksPart l dC dI _ oK oR oC oS oT rK_images iK_imageCount oA oH oL iK_refusal iK_latestFault iK_latestPlace iC_nodes iC_words iC_chances iC_unsures iC_slips iC_throneNode iC_saidWorth iC_unit rC_kind rC_parts fC_parts kC_parts rC_partNodes rC_weights rC_weightSums rC_toldWorths rC_steps rC_below rC_above rC_unsureWords rC_unsureWorths p0 p1 b_iK_imageCount b_iC_nodes b_iC_unsures b_iC_throneNode a_fC_parts) (cwV 2 hts (wd_V wd_564 wd_565 wd_566 wd_2 (wd_c wd_567)) rfl rfl rfl dv_yX6_lacksPart_2 ⟨Nat.le_of_ble_eq_true rfl, Nat.le_of_ble_eq_true rfl⟩) ⟨Pw.fb, recvX6 hK hP (q0 := 0) rfl, fun U hU hW => Pw.to (hP.ms _ hMs) (hD.ms _ hMs) (hK.ms [true, false, false, false, false, false] rfl) hE hS hFc hU hW⟩ rfl rfl hl.1 rfl (lv_room (Nat.le_of_ble_eq_true rfl)) dX6_front_3 ⟨Nat.le_of_ble_eq_true rfl, Nat.le_of_ble_eq_true rfl⟩) hS (fun q _ h => hFc q h) hFc (fun r u t H locs ht hvm hw hB hz1 hk1 hS => ?_)
  have hru9 := hw.2
  have hw := hw.1
  refine ex_1_2 hB (fun x_6929 b_x_6929 e_x_6929_0 hB => ?_)
  obtain ⟨hP, hD⟩ := Bw.goN (ws' := [(oc6 oK oR oC oS oT rK_images iK_imageCount oA oH oL x_6929 iK_latestFault iK_latestPlace), (oc1 oC iC_nodes iC_words iC_chances iC_unsures iC_slips iC_throneNode iC_saidWorth iC_unit rC_kind rC_parts rC_partNodes rC_weights rC_weightSums rC_toldWorths rC_steps rC_below rC_above rC_unsureWords rC_unsureWorths), (arI rC_parts kC_parts 18 fC_parts), (arI rC_partNodes kC_partNodes 72 fC_partNodes), (oc5 oS rS_worths rS_order rS_left), (arI rS_order kS_order 72 fS_order), (oc0 oA iA_count rA_nodes rA_olds rA_says), (arI rA_nodes kA_nodes 16 fA_nodes), (arI rA_olds kA_olds 16 fA_olds), (arI rA_says kA_says 16 fA_says)]) hB rfl ht hP hD _ hMs hk1 hFc rfl
  clear hz1 hk1 hvm ht hB hMs
  rw [← hru9] at e_x_6929_0
  rcases hw.2 with ⟨rfl, hc_6930⟩ | ⟨rfl, hc_6930⟩
  · skip
    have hG := hG.trans (un2_eq e_x_6929_0)
    have hG := hG.trans (if_pos rfl)
    refine lv_if_eq (tgt := 11) hx hb dX6_front_6 (by decide) (fun _ => ?_) (fun c => absurd c (by decide))
    refine lv_iload_n hx hb dX6_front_11 rfl (lv_at hl 2 rfl) ?_
    refine lv_if_ne (tgt := 21) hx hb dX6_front_12 (by decide) (fun c_6933 => ?_) (fun c_6933 => ?_)
    · skip
      have hG := hG.trans (if_neg c_6933)
      have gc_6933 := ti_ne c_6933 rfl kc_0
      refine lv_aload_n hx hb dX6_front_21 rfl (lv_at hl 0 rfl) ?_
      refine va_get (D := (dC, dI)) (ci := 6) (v := .ref oA) (C := RX6) (T := TX6) (N := 12) hx hb hts inX6 hown hK hP 0 rfl rfl 6 (by decide) (hts _ wd_30) (fun _ h9 => h9) rfl dX6_front_22 ?_
      refine lv_iload_n hx hb dX6_front_25 rfl (lv_at hl 1 rfl) ?_
      refine lv_iload_n hx hb dX6_front_26 rfl (lv_at hl 2 rfl) ?_
      refine lv_iconst (v := 0) hx hb dX6_front_27 (by decide) ?_
      have hMs := ml_of hD [false, false, false, false, false, false, true, true, true, true] (wc := [(oc0 oA iA_count rA_nodes rA_olds rA_says), (arI rA_nodes kA_nodes 16 fA_nodes), (arI rA_olds kA_olds 16 fA_olds), (arI rA_says kA_says 16 fA_says)]) rfl
      have hFc := va_freeM hD hS hA _ hMs
      refine va_callv (va_runV (As := [.int p0, .int p1, .int 0]) (rest := []) ⟨hx, hb, hml, hown, hts⟩ (tX0_keep l dC dI _ oA iA_count rA_nodes fA_nodes kA_nodes rA_olds fA_olds kA_olds rA_says fA_says kA_says p0 p1 0 b_iA_count a_fA_nodes a_fA_says (by assumption) ⟨hc_6930.1, (om_525c5d3e b_iC_nodes.2 hc_6930.2.1)⟩ ⟨(om_b1de7dbe kc_0), (om_270f4ea0 kc_0)⟩ (by first | assumption | (have q0 := kc_0; have q1 := kc_1; first | exact ⟨by omega, by omega⟩ | omega) | decide | (intro h; exact absurd h (by decide)))) (cwV 3 hts (wd_V wd_1365 wd_1366 wd_1367 wd_29 (wd_c wd_1368)) rfl rfl rfl dv_yX0_keep_3 ⟨Nat.le_of_ble_eq_true rfl, Nat.le_of_ble_eq_true rfl⟩) ⟨Pw.fb, recvX0 hK hP (q0 := 6) rfl, fun U hU hW => Pw.to (hP.ms _ hMs) (hD.ms _ hMs) (hK.ms [false, false, false, true, true, true] rfl) hE hS hFc hU hW⟩ rfl rfl hl.1 rfl (lv_room (Nat.le_of_ble_eq_true rfl)) dX6_front_28 ⟨Nat.le_of_ble_eq_true rfl, Nat.le_of_ble_eq_true rfl⟩) hS (fun q _ h => hFc q h) hFc (fun u t H locs ht hvm hw hB hz1 hk1 hS => ?_)
      refine ex_4_5 hB (fun x_6934 f_6935 f_6936 f_6937 b_x_6934 a_f_6935 a_f_6937 e_x_6934_0 e_x_6934_1 hB => ?_)
      obtain ⟨hP, hD⟩ := Bw.goN (ws' := [(oc6 oK oR oC oS oT rK_images iK_imageCount oA oH oL x_6929 iK_latestFault iK_latestPlace), (oc1 oC iC_nodes iC_words iC_chances iC_unsures iC_slips iC_throneNode iC_saidWorth iC_unit rC_kind rC_parts rC_partNodes rC_weights rC_weightSums rC_toldWorths rC_steps rC_below rC_above rC_unsureWords rC_unsureWorths), (arI rC_parts kC_parts 18 fC_parts), (arI rC_partNodes kC_partNodes 72 fC_partNodes), (oc5 oS rS_worths rS_order rS_left), (arI rS_order kS_order 72 fS_order), (oc0 oA x_6934 rA_nodes rA_olds rA_says), (arI rA_nodes kA_nodes 16 f_6935), (arI rA_olds kA_olds 16 f_6936), (arI rA_says kA_says 16 f_6937)]) hB rfl ht hP hD _ hMs hk1 hFc rfl
      clear hz1 hk1 hvm ht hB hMs
      have hG := hG.trans (un4_eq e_x_6934_1)
      refine lv_aload_n hx hb dX6_front_31 rfl (lv_at hl 0 rfl) ?_
      refine va_get (D := (dC, dI)) (ci := 6) (v := .ref oS) (C := RX6) (T := TX6) (N := 12) hx hb hts inX6 hown hK hP 0 rfl rfl 2 (by decide) (hts _ wd_24) (fun _ h9 => h9) rfl dX6_front_32 ?_
      refine lv_iload_n hx hb dX6_front_35 rfl (lv_at hl 1 rfl) ?_
      refine lv_iload_n hx hb dX6_front_36 rfl (lv_at hl 2 rfl) ?_
      have hMs := ml_of hD [false, false, false, false, true, true, false, false, false, false] (wc := [(oc5 oS rS_worths rS_order rS_left), (arI rS_order kS_order 72 fS_order)]) rfl
      have hFc := va_freeM hD hS hA _ hMs
      refine va_callv (va_runV (As := [.int p0, .int p1]) (rest := []) ⟨hx, hb, hml, hown, hts⟩ (tX5_bringFirst l dC dI _ oS rS_worths rS_order fS_order kS_order rS_left p0 p1 a_fS_order ⟨hc_6930.1, (om_525c5d3e b_iC_nodes.2 hc_6930.2.1)⟩ ⟨hc_6930.2.2.1, hc_6930.2.2.2.2⟩) (cwV 2 hts (wd_V wd_1019 wd_1020 wd_1021 wd_23 (wd_c wd_1022)) rfl rfl rfl dv_yX5_bringFirst_2 ⟨Nat.le_of_ble_eq_true rfl, Nat.le_of_ble_eq_true rfl⟩) ⟨Pw.fb, recvX5 hK hP (q0 := 4) rfl, fun U hU hW => Pw.to (hP.ms _ hMs) (hD.ms _ hMs) (hK.ms [false, false, true, false, false, false] rfl) hE hS hFc hU hW⟩ rfl rfl hl.1 rfl (lv_room (Nat.le_of_ble_eq_true rfl)) dX6_front_37 ⟨Nat.le_of_ble_eq_true rfl, Nat.le_of_ble_eq_true rfl⟩) hS (fun q _ h => hFc q h) hFc (fun u t H locs ht hvm hw hB hz1 hk1 hS => ?_)
      refine ex_1_2 hB (fun f_6938 a_f_6938 e_f_6938_0 hB => ?_)
      obtain ⟨hP, hD⟩ := Bw.goN (ws' := [(oc6 oK oR oC oS oT rK_images iK_imageCount oA oH oL x_6929 iK_latestFault iK_latestPlace), (oc1 oC iC_nodes iC_words iC_chances iC_unsures iC_slips iC_throneNode iC_saidWorth iC_unit rC_kind rC_parts rC_partNodes rC_weights rC_weightSums rC_toldWorths rC_steps rC_below rC_above rC_unsureWords rC_unsureWorths), (arI rC_parts kC_parts 18 fC_parts), (arI rC_partNodes kC_partNodes 72 fC_partNodes), (oc5 oS rS_worths rS_order rS_left), (arI rS_order kS_order 72 f_6938), (oc0 oA x_6934 rA_nodes rA_olds rA_says), (arI rA_nodes kA_nodes 16 f_6935), (arI rA_olds kA_olds 16 f_6936), (arI rA_says kA_says 16 f_6937)]) hB rfl ht hP hD _ hMs hk1 hFc rfl
      clear hz1 hk1 hvm ht hB hMs
      have hG := hG.trans (lt_eq e_f_6938_0.symm)
      refine lv_aload_n hx hb dX6_front_40 rfl (lv_at hl 0 rfl) ?_
      refine va_get (D := (dC, dI)) (ci := 6) (v := .ref oS) (C := RX6) (T := TX6) (N := 12) hx hb hts inX6 hown hK hP 0 rfl rfl 2 (by decide) (hts _ wd_24) (fun _ h9 => h9) rfl dX6_front_41 ?_
      refine lv_aload_n hx hb dX6_front_44 rfl (lv_at hl 0 rfl) ?_
      refine va_get (D := (dC, dI)) (ci := 6) (v := .ref oC) (C := RX6) (T := TX6) (N := 12) hx hb hts inX6 hown hK hP 0 rfl rfl 1 (by decide) (hts _ wd_20) (fun _ h9 => h9) rfl dX6_front_45 ?_
      refine lv_iload_n hx hb dX6_front_48 rfl (lv_at hl 1 rfl) ?_
      refine lv_iconst (v := 0) hx hb dX6_front_49 (by decide) ?_
      have hFc := va_free (wc := [(oc5 oS rS_worths rS_order rS_left), (arI rS_order kS_order 72 f_6938), (oc1 oC iC_nodes iC_words iC_chances iC_unsures iC_slips iC_throneNode iC_saidWorth iC_unit rC_kind rC_parts rC_partNodes rC_weights rC_weightSums rC_toldWorths rC_steps rC_below rC_above rC_unsureWords rC_unsureWorths), (arI rC_partNodes kC_partNodes 72 fC_partNodes)]) hD hS hA [4, 5, 1, 3] rfl
      refine va_calli (va_runV (As := [.ref oC, .int p0, .int 0]) (rest := []) ⟨hx, hb, hml, hown, hts⟩ (tX5_partAt l dC dI _ oS rS_worths rS_order f_6938 kS_order rS_left oC iC_nodes iC_words iC_chances iC_unsures iC_slips iC_throneNode iC_saidWorth iC_unit rC_kind rC_parts rC_partNodes fC_partNodes kC_partNodes rC_weights rC_weightSums rC_toldWorths rC_steps rC_below rC_above rC_unsureWords rC_unsureWorths p0 0 a_f_6938 b_iC_nodes b_iC_unsures b_iC_throneNode a_fC_partNodes ⟨hc_6930.1, (om_525c5d3e b_iC_nodes.2 hc_6930.2.1)⟩ ⟨(om_b1de7dbe kc_0), (om_9747a55e kc_0)⟩) (cwV 3 hts (wd_V wd_568 wd_569 wd_570 wd_23 (wd_c wd_571)) rfl rfl rfl dv_yX5_partAt_3 ⟨Nat.le_of_ble_eq_true rfl, Nat.le_of_ble_eq_true rfl⟩) ⟨Pw.fb, recvX5 hK hP (q0 := 4) rfl, fun U hU hW => Pw.to (hP.sub [4, 5, 1, 3] rfl) (hD.sub [4, 5, 1, 3] (by decide) rfl) (hK.sub [2, 1] rfl) hE hS hFc hU hW⟩ rfl rfl hl.1 rfl (lv_room (Nat.le_of_ble_eq_true rfl)) dX6_front_50 ⟨Nat.le_of_ble_eq_true rfl, Nat.le_of_ble_eq_true rfl⟩) hS (fun q _ h => hFc q h) hFc (fun r u t H locs ht hvm hw hB hz1 hk1 hS => ?_)
      have hru9 := hw.2
      have hw := hw.1
      obtain ⟨hP, hD, hK⟩ := Bw.go (ws' := [(oc6 oK oR oC oS oT rK_images iK_imageCount oA oH oL x_6929 iK_latestFault iK_latestPlace), (arI rC_parts kC_parts 18 fC_parts), (oc0 oA x_6934 rA_nodes rA_olds rA_says), (arI rA_nodes kA_nodes 16 f_6935), (arI rA_olds kA_olds 16 f_6936), (arI rA_says kA_says 16 f_6937), (oc5 oS rS_worths rS_order rS_left), (arI rS_order kS_order 72 f_6938), (oc1 oC iC_nodes iC_words iC_chances iC_unsures iC_slips iC_throneNode iC_saidWorth iC_unit rC_kind rC_parts rC_partNodes rC_weights rC_weightSums rC_toldWorths rC_steps rC_below rC_above rC_unsureWords rC_unsureWorths), (arI rC_partNodes kC_partNodes 72 fC_partNodes)]) (tys' := [(kC_parts, .int), (kA_nodes, .int), (kA_olds, .int), (kA_says, .boolean), (kS_order, .int), (kC_partNodes, .int)]) hB rfl ht hvm hP hD hK [4, 5, 1, 3] [0, 2, 6, 7, 8, 9] rfl (by decide) (by decide) [0, 3, 4, 5] hk1 hFc rfl rfl rfl
      clear hz1 hk1 hvm ht hB
      obtain ⟨x_6939, rfl⟩ : ∃ z, z = r := ⟨_, rfl⟩
      have hG := hG.trans (lt_eq hru9.symm)
      have ux_6939 := hw.2
      exact wq_i hx hb hr (cI x_6939) ⟨⟨trivial, trivial⟩, (cI_of x_6939)⟩ (fun t ht hW => ⟨x_6929, f_6938, x_6934, f_6935, f_6936, f_6937, a_f_6938, b_x_6934, a_f_6935, a_f_6937, (by first | assumption | omega | decide), (cI_tup hG), Bw.to (hP.sub [0, 8, 1, 9, 6, 7, 2, 3, 4, 5] rfl) (hD.sub [0, 8, 1, 9, 6, 7, 2, 3, 4, 5] (by decide) rfl) (hK.sub [0, 5, 4, 1, 2, 3] rfl) ht hW⟩) hS dX6_front_53 hlocks
    · skip
      have hG := hG.trans (if_pos c_6933)
      have gc_6933 := ti_eq c_6933 rfl kc_0
      refine lv_aload_n hx hb dX6_front_15 rfl (lv_at hl 0 rfl) ?_
      refine lv_iconst (v := 5) hx hb dX6_front_16 (by decide) ?_
      have hMs := ml_of hD [true, false, false, false, false, false, false, false, false, false] (wc := [(oc6 oK oR oC oS oT rK_images iK_imageCount oA oH oL x_6929 iK_latestFault iK_latestPlace)]) rfl
      have hFc := va_freeM hD hS hA _ hMs
      refine va_calli (va_runV (As := [.int 5]) (rest := []) ⟨hx, hb, hml, hown, hts⟩ (tX6_refuse l dC dI _ oK oR oC oS oT rK_images iK_imageCount oA oH oL x_6929 iK_latestFault iK_latestPlace 5 b_iK_imageCount) (cwV 1 hts (wd_V wd_197 wd_198 wd_199 wd_2 (wd_c wd_200)) rfl rfl rfl dv_yX6_refuse_1 ⟨Nat.le_of_ble_eq_true rfl, Nat.le_of_ble_eq_true rfl⟩) ⟨Pw.fb, recvX6 hK hP (q0 := 0) rfl, fun U hU hW => Pw.to (hP.ms _ hMs) (hD.ms _ hMs) (hK.ms [false, false, false, false, false, false] rfl) hE hS hFc hU hW⟩ rfl rfl hl.1 rfl (lv_room (Nat.le_of_ble_eq_true rfl)) dX6_front_17 ⟨Nat.le_of_ble_eq_true rfl, Nat.le_of_ble_eq_true rfl⟩) hS (fun q _ h => hFc q h) hFc (fun r u t H locs ht hvm hw hB hz1 hk1 hS => ?_)
      have hru9 := hw.2
      have hw := hw.1
      refine ex_1_1 hB (fun x_6940 e_x_6940_0 hB => ?_)
      obtain ⟨hP, hD⟩ := Bw.goN (ws' := [(oc6 oK oR oC oS oT rK_images iK_imageCount oA oH oL x_6940 iK_latestFault iK_latestPlace), (oc1 oC iC_nodes iC_words iC_chances iC_unsures iC_slips iC_throneNode iC_saidWorth iC_unit rC_kind rC_parts rC_partNodes rC_weights rC_weightSums rC_toldWorths rC_steps rC_below rC_above rC_unsureWords rC_unsureWorths), (arI rC_parts kC_parts 18 fC_parts), (arI rC_partNodes kC_partNodes 72 fC_partNodes), (oc5 oS rS_worths rS_order rS_left), (arI rS_order kS_order 72 fS_order), (oc0 oA iA_count rA_nodes rA_olds rA_says), (arI rA_nodes kA_nodes 16 fA_nodes), (arI rA_olds kA_olds 16 fA_olds), (arI rA_says kA_says 16 fA_says)]) hB rfl ht hP hD _ hMs hk1 hFc rfl
      clear hz1 hk1 hvm ht hB hMs
      rw [← hru9] at e_x_6940_0
      obtain ⟨x_6941, rfl⟩ : ∃ z, z = r := ⟨_, rfl⟩
      have hG := hG.trans (un2_eq e_x_6940_0)
      have ux_6941 := hw.2
      exact wq_i hx hb hr (cI x_6941) ⟨⟨trivial, trivial⟩, (cI_of x_6941)⟩ (fun t ht hW => ⟨x_6940, fS_order, iA_count, fA_nodes, fA_olds, fA_says, a_fS_order, b_iA_count, a_fA_nodes, a_fA_says, (by first | assumption | omega | decide), (cI_tup hG), Bw.to hP hD hK ht hW⟩) hS dX6_front_20 hlocks
  · skip
    have hG := hG.trans (un2_eq e_x_6929_0)
    have hG := hG.trans (if_neg (by decide))
    refine lv_if_eq (tgt := 11) hx hb dX6_front_6 (by decide) (fun c => absurd c (by decide)) (fun _ => ?_)
    refine lv_iconst (v := (-1)) hx hb dX6_front_9 (by decide) ?_
    exact wq_i hx hb hr (cI (-1)) ⟨⟨trivial, trivial⟩, (cI_of (-1))⟩ (fun t ht hW => ⟨x_6929, fS_order, iA_count, fA_nodes, fA_olds, fA_says, a_fS_order, b_iA_count, a_fA_nodes, a_fA_says, (by first | assumption | omega | decide), (cI_tup hG), Bw.to hP hD hK ht hW⟩) hS dX6_front_10 hlocks
