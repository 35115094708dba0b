set_option maxHeartbeats 4000000 in
set_option maxRecDepth 100000 in
theorem tX6_speaks (l : Launch) (dC : Nat → ClassId) (dI : Nat → Nat → Nat) (sz : Nat) (oK : Nat) (oR : Nat) (oC : Nat) (oS : Nat) (oT : Nat) (rK_images : Nat) (iK_imageCount : Int32) (oA : Nat) (oH : Nat) (oL : Nat) (iK_refusal : Int32) (iK_latestFault : Int32) (iK_latestPlace : Int32) (iC_nodes : Int32) (iC_words : Int32) (iC_chances : Int32) (iC_unsures : Int32) (iC_slips : Int32) (iC_throneNode : Int32) (iC_saidWorth : Int32) (iC_unit : Int32) (rC_kind : Nat) (rC_parts : Nat) (rC_partNodes : Nat) (rC_weights : Nat) (rC_weightSums : Nat) (rC_toldWorths : Nat) (rC_steps : Nat) (rC_below : Nat) (rC_above : Nat) (rC_unsureWords : Nat) (rC_unsureWorths : Nat) (p0 : Int32) (p1 : Int32) (p2 : Int32) (p3 : Int32) (b_iK_imageCount : 0 ≤ iK_imageCount.toInt ∧ iK_imageCount.toInt ≤ 3) (b_iC_nodes : 0 ≤ iC_nodes.toInt ∧ iC_nodes.toInt ≤ 18) (b_iC_unsures : 0 ≤ iC_unsures.toInt ∧ iC_unsures.toInt ≤ 4) (b_iC_throneNode : (-1) ≤ iC_throneNode.toInt ∧ iC_throneNode.toInt ≤ 17)  : Met l yX6_speaks (Cond.code yX6_speaks cX6_speaks 5 (some .int) :: wG) ({ frames := 2, cells := 0, slots := 0, locals := 43 }) (va_Pc [.ref oK, .int p0, .int p1, .int p2, .int p3] (Pw dC dI sz [(oc6 oK oR oC oS oT rK_images iK_imageCount oA oH oL iK_refusal iK_latestFault iK_latestPlace), (oc1 oC iC_nodes iC_words iC_chances iC_unsures iC_slips iC_throneNode iC_saidWorth iC_unit rC_kind rC_parts rC_partNodes rC_weights rC_weightSums rC_toldWorths rC_steps rC_below rC_above rC_unsureWords rC_unsureWorths)] [])) (va_Qi (fun (r : Int32) (u : Nat) => (True ∧ True) ∧ r = Int32.ofNat u) (fun (u : Nat) (t : State) => ∃ (niK_refusal : Int32), (PX6_speaks iC_nodes p0 p1 p2 p3 = (Int32.ofNat u, niK_refusal)) ∧ Bw dC dI (va_A [(oc6 oK oR oC oS oT rK_images iK_imageCount oA oH oL iK_refusal iK_latestFault iK_latestPlace), (oc1 oC iC_nodes iC_words iC_chances iC_unsures iC_slips iC_throneNode iC_saidWorth iC_unit rC_kind rC_parts rC_partNodes rC_weights rC_weightSums rC_toldWorths rC_steps rC_below rC_above rC_unsureWords rC_unsureWorths)] sz) [(oc6 oK oR oC oS oT rK_images iK_imageCount oA oH oL niK_refusal iK_latestFault iK_latestPlace), (oc1 oC iC_nodes iC_words iC_chances iC_unsures iC_slips iC_throneNode iC_saidWorth iC_unit rC_kind rC_parts rC_partNodes rC_weights rC_weightSums rC_toldWorths rC_steps rC_below rC_above rC_unsureWords rC_unsureWorths)] [] t) (va_A [(oc6 oK oR oC oS oT rK_images iK_imageCount oA oH oL iK_refusal iK_latestFault iK_latestPlace), (oc1 oC iC_nodes iC_words iC_chances iC_unsures iC_slips iC_throneNode iC_saidWorth iC_unit rC_kind rC_parts rC_partNodes rC_weights rC_weightSums rC_toldWorths rC_steps rC_below rC_above rC_unsureWords rC_unsureWorths)] sz)) 0 0 (va_A [(oc6 oK oR oC oS oT rK_images iK_imageCount oA oH oL iK_refusal iK_latestFault iK_latestPlace), (oc1 oC iC_nodes iC_words iC_chances iC_unsures iC_slips iC_throneNode iC_saidWorth iC_unit rC_kind rC_parts rC_partNodes rC_weights rC_weightSums rC_toldWorths rC_steps rC_below rC_above rC_unsureWords rC_unsureWorths)] sz) := by
  refine Met.ofW (cc := cX6_speaks) (maxL := 5) (ret := (some .int)) pnX6 rfl ?_
  intro p e s m args below meth c s₁ B hml hv
  obtain ⟨rfl, hsz, hP, hK, hD0, hE⟩ := hv
  have hx := B.exec
  have hb := B.bytes
  have hr := B.returns
  have hts : ∀ w ∈ wG, w.before ([.ref oK, .int p0, .int p1, .int p2, .int p3] : List Value).toArray s = true := fun w h => atoms_spec (ws := Cond.code yX6_speaks cX6_speaks 5 (some .int) :: wG) B.pre w (List.mem_cons_of_mem _ h)
  have hown : s.vm.findClass RX6 = some m.cls := own_of B.named rfl
  have hlocks := B.notSynchronized
  subst hsz
  have hD := hD0.self (sz := s.heap.size)
  generalize hAe : va_A [(oc6 oK oR oC oS oT rK_images iK_imageCount oA oH oL iK_refusal iK_latestFault iK_latestPlace), (oc1 oC iC_nodes iC_words iC_chances iC_unsures iC_slips iC_throneNode iC_saidWorth iC_unit rC_kind rC_parts rC_partNodes rC_weights rC_weightSums rC_toldWorths rC_steps rC_below rC_above rC_unsureWords rC_unsureWorths)] s.heap.size = A at hD hE ⊢
  have hA : ∀ q : Nat, s.heap.size ≤ q → A q := fun q h => by rw [← hAe]; exact Or.inr h
  have hS : va_S A s.heap s.heap [] := va_S.rf
  have hl := lv_entry ([.ref oK, .int p0, .int p1, .int p2, .int p3]) (n := 5) (Nat.le_of_ble_eq_true rfl)
  rw [lg_entry_eq]
  generalize (lg_sl ([.ref oK, .int p0, .int p1, .int p2, .int p3]) ++ List.replicate (5 - (lg_sl ([.ref oK, .int p0, .int p1, .int p2, .int p3])).length) Slot.unset).toArray = ls at hl ⊢
  have hl : lv_has ls 5 [(0, .ref oK), (1, .int p0), (2, .int p1), (3, .int p2), (4, .int p3)] := hl
  have hG := PX6_speaks_eq iC_nodes p0 p1 p2 p3
  refine lv_aload_n hx hb dX6_speaks_0 rfl (lv_at hl 0 rfl) ?_
  refine lv_iload_n hx hb dX6_speaks_1 rfl (lv_at hl 1 rfl) ?_
  refine lv_iconst (v := 0) hx hb dX6_speaks_2 (by decide) ?_
  refine lv_bipush (v := 9) hx hb dX6_speaks_3 (by decide) ?_
  have hFc := va_freeI hD hS hA
  refine va_calli (va_runV (As := [.int p0, .int 0, .int 9]) (rest := []) ⟨hx, hb, hml, hown, hts⟩ (tX6_lacksNumber l dC dI _ oK oR oC oS oT rK_images iK_imageCount oA oH oL iK_refusal iK_latestFault iK_latestPlace iC_nodes iC_words iC_chances iC_unsures iC_slips iC_throneNode iC_saidWorth iC_unit rC_kind rC_parts rC_partNodes rC_weights rC_weightSums rC_toldWorths rC_steps rC_below rC_above rC_unsureWords rC_unsureWorths p0 0 9 b_iK_imageCount b_iC_nodes b_iC_unsures b_iC_throneNode) (cwV 3 hts (wd_V wd_866 wd_867 wd_868 wd_2 (wd_c wd_869)) rfl rfl rfl dv_yX6_lacksNumber_3 ⟨Nat.le_of_ble_eq_true rfl, Nat.le_of_ble_eq_true rfl⟩) ⟨Pw.fb, recvX6 hK hP (q0 := 0) rfl, fun U hU hW => Pw.to hP hD hK hE hS hFc hU hW⟩ rfl rfl hl.1 rfl (lv_room (Nat.le_of_ble_eq_true rfl)) dX6_speaks_5 ⟨Nat.le_of_ble_eq_true rfl, Nat.le_of_ble_eq_true rfl⟩) hS (fun q _ h => hFc q h) hFc (fun r u t H locs ht hvm hw hB hz1 hk1 hS => ?_)
  have hru9 := hw.2
  have hw := hw.1
  refine ex_1_1 hB (fun x_6202 e_x_6202_0 hB => ?_)
  obtain ⟨hP, hD⟩ := Bw.goA (ws' := [(oc6 oK oR oC oS oT rK_images iK_imageCount oA oH oL x_6202 iK_latestFault iK_latestPlace), (oc1 oC iC_nodes iC_words iC_chances iC_unsures iC_slips iC_throneNode iC_saidWorth iC_unit rC_kind rC_parts rC_partNodes rC_weights rC_weightSums rC_toldWorths rC_steps rC_below rC_above rC_unsureWords rC_unsureWorths)]) hB rfl ht hFc rfl
  clear hz1 hk1 hvm ht hB
  rw [← hru9] at e_x_6202_0
  rcases hw.2 with ⟨rfl, hc_6203⟩ | ⟨rfl, hc_6203⟩
  · skip
    have hG := hG.trans (un2_eq e_x_6202_0)
    have hG := hG.trans (if_pos rfl)
    refine lv_if_eq (tgt := 14) hx hb dX6_speaks_8 (by decide) (fun _ => ?_) (fun c => absurd c (by decide))
    refine lv_iload hx hb dX6_speaks_14 (lv_at hl 4 rfl) ?_
    refine lv_if_eq (tgt := 28) hx hb dX6_speaks_16 (by decide) (fun c_6206 => ?_) (fun c_6206 => ?_)
    · skip
      have hG := hG.trans (if_pos c_6206)
      have gc_6206 := ti_eq c_6206 rfl kc_0
      refine lv_iload_n hx hb dX6_speaks_28 rfl (lv_at hl 1 rfl) ?_
      refine lv_iload_n hx hb dX6_speaks_29 rfl (lv_at hl 2 rfl) ?_
      refine lv_iload_n hx hb dX6_speaks_30 rfl (lv_at hl 3 rfl) ?_
      have hFc : ∀ q, va_A [] _ q → A q := fun q h => hA q (Nat.le_trans hS.1 (va_nilA h))
      refine va_calli (va_runS (As := [.int p0, .int p1, .int p2]) (rest := []) ⟨hx, hb, hml, hown, hts⟩ (tX6_shareOf l dC dI _ p0 p1 p2 ) (va_cwS 3 hts (wd_S wd_1290 wd_1291 wd_2 (wd_c wd_1292)) rfl rfl rfl ds_yX6_shareOf_3 ⟨Nat.le_of_ble_eq_true rfl, Nat.le_of_ble_eq_true rfl⟩) ⟨Pw.fb, fun U hU hW => Pn.to hK hE hS hA hU hW⟩ rfl rfl hl.1 rfl (lv_room (Nat.le_of_ble_eq_true rfl)) dX6_speaks_31 ⟨Nat.le_of_ble_eq_true rfl, Nat.le_of_ble_eq_true rfl⟩) hS (fun q _ h => hFc q h) hFc (fun r u t H locs ht hvm hw hB hz1 hk1 hS => ?_)
      obtain ⟨hP, hD, hK⟩ := Bw.same ht hvm hP hD hK hk1 hFc
      clear hz1 hk1 hvm ht hB
      have hq9 := hw.2
      have hw := hw.1
      obtain ⟨x_6207, rfl⟩ : ∃ z, z = r := ⟨_, rfl⟩
      have hq_x_6207 := hq9
      have hG := hG.trans (lt_eq hq_x_6207.symm)
      exact wq_i hx hb hr (cI x_6207) ⟨⟨trivial, trivial⟩, (cI_of x_6207)⟩ (fun t ht hW => ⟨x_6202, (cI_tup hG), Bw.to hP hD hK ht hW⟩) hS dX6_speaks_34 hlocks
    · skip
      have hG := hG.trans (if_neg c_6206)
      have gc_6206 := ti_ne c_6206 rfl kc_0
      refine lv_iload_n hx hb dX6_speaks_19 rfl (lv_at hl 1 rfl) ?_
      refine lv_iload_n hx hb dX6_speaks_20 rfl (lv_at hl 3 rfl) ?_
      refine lv_iload_n hx hb dX6_speaks_21 rfl (lv_at hl 2 rfl) ?_
      have hFc : ∀ q, va_A [] _ q → A q := fun q h => hA q (Nat.le_trans hS.1 (va_nilA h))
      refine va_calli (va_runS (As := [.int p0, .int p2, .int p1]) (rest := []) ⟨hx, hb, hml, hown, hts⟩ (tX6_shareOf l dC dI _ p0 p2 p1 ) (va_cwS 3 hts (wd_S wd_1290 wd_1291 wd_2 (wd_c wd_1292)) rfl rfl rfl ds_yX6_shareOf_3 ⟨Nat.le_of_ble_eq_true rfl, Nat.le_of_ble_eq_true rfl⟩) ⟨Pw.fb, fun U hU hW => Pn.to hK hE hS hA hU hW⟩ rfl rfl hl.1 rfl (lv_room (Nat.le_of_ble_eq_true rfl)) dX6_speaks_22 ⟨Nat.le_of_ble_eq_true rfl, Nat.le_of_ble_eq_true rfl⟩) hS (fun q _ h => hFc q h) hFc (fun r u t H locs ht hvm hw hB hz1 hk1 hS => ?_)
      obtain ⟨hP, hD, hK⟩ := Bw.same ht hvm hP hD hK hk1 hFc
      clear hz1 hk1 hvm ht hB
      have hq9 := hw.2
      have hw := hw.1
      obtain ⟨x_6208, rfl⟩ : ∃ z, z = r := ⟨_, rfl⟩
      have hq_x_6208 := hq9
      have hG := hG.trans (lt_eq hq_x_6208.symm)
      refine lv_goto (tgt := 34) hx hb dX6_speaks_25 (by decide) ?_
      exact wq_i hx hb hr (cI x_6208) ⟨⟨trivial, trivial⟩, (cI_of x_6208)⟩ (fun t ht hW => ⟨x_6202, (cI_tup hG), Bw.to hP hD hK ht hW⟩) hS dX6_speaks_34 hlocks
  · skip
    have hG := hG.trans (un2_eq e_x_6202_0)
    have hG := hG.trans (if_neg (by decide))
    refine lv_if_eq (tgt := 14) hx hb dX6_speaks_8 (by decide) (fun c => absurd c (by decide)) (fun _ => ?_)
    refine lv_bipush (v := (-100)) hx hb dX6_speaks_11 (by decide) ?_
    exact wq_i hx hb hr (cI (-100)) ⟨⟨trivial, trivial⟩, (cI_of (-100))⟩ (fun t ht hW => ⟨x_6202, (cI_tup hG), Bw.to hP hD hK ht hW⟩) hS dX6_speaks_13 hlocks
set_option maxHeartbeats 4000000 in
set_option maxRecDepth 100000 in
theorem tX6_rests (l : Launch) (dC : Nat → ClassId) (dI : Nat → Nat → Nat) (sz : Nat) (oK : Nat) (oR : Nat) (oC : Nat) (oS : Nat) (oT : Nat) (rK_images : Nat) (iK_imageCount : Int32) (oA : Nat) (oH : Nat) (oL : Nat) (iK_refusal : Int32) (iK_latestFault : Int32) (iK_latestPlace : Int32) (iC_nodes : Int32) (iC_words : Int32) (iC_chances : Int32) (iC_unsures : Int32) (iC_slips : Int32) (iC_throneNode : Int32) (iC_saidWorth : Int32) (iC_unit : Int32) (rC_kind : Nat) (rC_parts : Nat) (rC_partNodes : Nat) (rC_weights : Nat) (rC_weightSums : Nat) (rC_toldWorths : Nat) (rC_steps : Nat) (rC_below : Nat) (rC_above : Nat) (rC_unsureWords : Nat) (rC_unsureWorths : Nat) (p0 : Int32) (b_iK_imageCount : 0 ≤ iK_imageCount.toInt ∧ iK_imageCount.toInt ≤ 3) (b_iC_nodes : 0 ≤ iC_nodes.toInt ∧ iC_nodes.toInt ≤ 18) (b_iC_unsures : 0 ≤ iC_unsures.toInt ∧ iC_unsures.toInt ≤ 4) (b_iC_throneNode : (-1) ≤ iC_throneNode.toInt ∧ iC_throneNode.toInt ≤ 17)  : Met l yX6_rests (Cond.code yX6_rests cX6_rests 4 (some .int) :: wG) ({ frames := 2, cells := 0, slots := 0, locals := 44 }) (va_Pc [.ref oK, .int p0] (Pw dC dI sz [(oc6 oK oR oC oS oT rK_images iK_imageCount oA oH oL iK_refusal iK_latestFault iK_latestPlace), (oc1 oC iC_nodes iC_words iC_chances iC_unsures iC_slips iC_throneNode iC_saidWorth iC_unit rC_kind rC_parts rC_partNodes rC_weights rC_weightSums rC_toldWorths rC_steps rC_below rC_above rC_unsureWords rC_unsureWorths)] [])) (va_Qi (fun (r : Int32) (u : Nat) => (True ∧ True) ∧ r = Int32.ofNat u) (fun (u : Nat) (t : State) => ∃ (niK_refusal : Int32), (PX6_rests iC_nodes p0 = (Int32.ofNat u, niK_refusal)) ∧ Bw dC dI (va_A [(oc6 oK oR oC oS oT rK_images iK_imageCount oA oH oL iK_refusal iK_latestFault iK_latestPlace), (oc1 oC iC_nodes iC_words iC_chances iC_unsures iC_slips iC_throneNode iC_saidWorth iC_unit rC_kind rC_parts rC_partNodes rC_weights rC_weightSums rC_toldWorths rC_steps rC_below rC_above rC_unsureWords rC_unsureWorths)] sz) [(oc6 oK oR oC oS oT rK_images iK_imageCount oA oH oL niK_refusal iK_latestFault iK_latestPlace), (oc1 oC iC_nodes iC_words iC_chances iC_unsures iC_slips iC_throneNode iC_saidWorth iC_unit rC_kind rC_parts rC_partNodes rC_weights rC_weightSums rC_toldWorths rC_steps rC_below rC_above rC_unsureWords rC_unsureWorths)] [] t) (va_A [(oc6 oK oR oC oS oT rK_images iK_imageCount oA oH oL iK_refusal iK_latestFault iK_latestPlace), (oc1 oC iC_nodes iC_words iC_chances iC_unsures iC_slips iC_throneNode iC_saidWorth iC_unit rC_kind rC_parts rC_partNodes rC_weights rC_weightSums rC_toldWorths rC_steps rC_below rC_above rC_unsureWords rC_unsureWorths)] sz)) 0 0 (va_A [(oc6 oK oR oC oS oT rK_images iK_imageCount oA oH oL iK_refusal iK_latestFault iK_latestPlace), (oc1 oC iC_nodes iC_words iC_chances iC_unsures iC_slips iC_throneNode iC_saidWorth iC_unit rC_kind rC_parts rC_partNodes rC_weights rC_weightSums rC_toldWorths rC_steps rC_below rC_above rC_unsureWords rC_unsureWorths)] sz) := by
  refine Met.ofW (cc := cX6_rests) (maxL := 4) (ret := (some .int)) pnX6 rfl ?_
  intro p e s m args below meth c s₁ B hml hv
  obtain ⟨rfl, hsz, hP, hK, hD0, hE⟩ := hv
  have hx := B.exec
  have hb := B.bytes
  have hr := B.returns
  have hts : ∀ w ∈ wG, w.before ([.ref oK, .int p0] : List Value).toArray s = true := fun w h => atoms_spec (ws := Cond.code yX6_rests cX6_rests 4 (some .int) :: wG) B.pre w (List.mem_cons_of_mem _ h)
  have hown : s.vm.findClass RX6 = some m.cls := own_of B.named rfl
  have hlocks := B.notSynchronized
  subst hsz
  have hD := hD0.self (sz := s.heap.size)
  generalize hAe : va_A [(oc6 oK oR oC oS oT rK_images iK_imageCount oA oH oL iK_refusal iK_latestFault iK_latestPlace), (oc1 oC iC_nodes iC_words iC_chances iC_unsures iC_slips iC_throneNode iC_saidWorth iC_unit rC_kind rC_parts rC_partNodes rC_weights rC_weightSums rC_toldWorths rC_steps rC_below rC_above rC_unsureWords rC_unsureWorths)] s.heap.size = A at hD hE ⊢
  have hA : ∀ q : Nat, s.heap.size ≤ q → A q := fun q h => by rw [← hAe]; exact Or.inr h
  have hS : va_S A s.heap s.heap [] := va_S.rf
  have hl := lv_entry ([.ref oK, .int p0]) (n := 4) (Nat.le_of_ble_eq_true rfl)
  rw [lg_entry_eq]
  generalize (lg_sl ([.ref oK, .int p0]) ++ List.replicate (4 - (lg_sl ([.ref oK, .int p0])).length) Slot.unset).toArray = ls at hl ⊢
  have hl : lv_has ls 4 [(0, .ref oK), (1, .int p0)] := hl
  have hG := PX6_rests_eq iC_nodes p0
  have rg_p0 := fb_rng p0
  refine lv_aload_n hx hb dX6_rests_0 rfl (lv_at hl 0 rfl) ?_
  refine lv_iload_n hx hb dX6_rests_1 rfl (lv_at hl 1 rfl) ?_
  refine lv_iconst (v := 0) hx hb dX6_rests_2 (by decide) ?_
  refine lv_bipush (v := 9) hx hb dX6_rests_3 (by decide) ?_
  have hFc := va_freeI hD hS hA
  refine va_calli (va_runV (As := [.int p0, .int 0, .int 9]) (rest := []) ⟨hx, hb, hml, hown, hts⟩ (tX6_lacksNumber l dC dI _ oK oR oC oS oT rK_images iK_imageCount oA oH oL iK_refusal iK_latestFault iK_latestPlace iC_nodes iC_words iC_chances iC_unsures iC_slips iC_throneNode iC_saidWorth iC_unit rC_kind rC_parts rC_partNodes rC_weights rC_weightSums rC_toldWorths rC_steps rC_below rC_above rC_unsureWords rC_unsureWorths p0 0 9 b_iK_imageCount b_iC_nodes b_iC_unsures b_iC_throneNode) (cwV 3 hts (wd_V wd_866 wd_867 wd_868 wd_2 (wd_c wd_869)) rfl rfl rfl dv_yX6_lacksNumber_3 ⟨Nat.le_of_ble_eq_true rfl, Nat.le_of_ble_eq_true rfl⟩) ⟨Pw.fb, recvX6 hK hP (q0 := 0) rfl, fun U hU hW => Pw.to hP hD hK hE hS hFc hU hW⟩ rfl rfl hl.1 rfl (lv_room (Nat.le_of_ble_eq_true rfl)) dX6_rests_5 ⟨Nat.le_of_ble_eq_true rfl, Nat.le_of_ble_eq_true rfl⟩) hS (fun q _ h => hFc q h) hFc (fun r u t H locs ht hvm hw hB hz1 hk1 hS => ?_)
  have hru9 := hw.2
  have hw := hw.1
  refine ex_1_1 hB (fun x_6259 e_x_6259_0 hB => ?_)
  obtain ⟨hP, hD⟩ := Bw.goA (ws' := [(oc6 oK oR oC oS oT rK_images iK_imageCount oA oH oL x_6259 iK_latestFault iK_latestPlace), (oc1 oC iC_nodes iC_words iC_chances iC_unsures iC_slips iC_throneNode iC_saidWorth iC_unit rC_kind rC_parts rC_partNodes rC_weights rC_weightSums rC_toldWorths rC_steps rC_below rC_above rC_unsureWords rC_unsureWorths)]) hB rfl ht hFc rfl
  clear hz1 hk1 hvm ht hB
  have rg_x_6259 := fb_rng x_6259
  rw [← hru9] at e_x_6259_0
  rcases hw.2 with ⟨rfl, hc_6260⟩ | ⟨rfl, hc_6260⟩
  · skip
    have rg_iC_nodes := fb_rng iC_nodes
    have hG := hG.trans (un2_eq e_x_6259_0)
    have hG := hG.trans (if_pos rfl)
    refine lv_if_eq (tgt := 13) hx hb dX6_rests_8 (by decide) (fun _ => ?_) (fun c => absurd c (by decide))
    refine lv_iconst (v := 0) hx hb dX6_rests_13 (by decide) ?_
    refine lv_istore_n (lv' := [(2, .int 0), (0, .ref oK), (1, .int p0)]) hx hb dX6_rests_14 rfl hl (by decide) rfl (fun ls hl => ?_)
    refine lv_iconst (v := 0) hx hb dX6_rests_15 (by decide) ?_
    refine lv_istore_n (lv' := [(3, .int 0), (2, .int 0), (0, .ref oK), (1, .int p0)]) hx hb dX6_rests_16 rfl hl (by decide) rfl (fun ls hl => ?_)
    have hl := lv_sub hl (l' := [(3, .int 0), (2, .int 0), (0, .ref oK), (1, .int p0)]) [0, 1, 2, 3] rfl
    have key_n_6265 : ∀ (n_6265 : Nat) (z_6263 : Int32) (z_6264 : Int32) (H : Heap) (locs : List Loc) (ls : Array Slot), (0 ≤ z_6263.toInt ∧ z_6263.toInt ≤ 2147483647) → (2147483647 - z_6263.toInt).toNat < n_6265 → (PX6_rests iC_nodes p0 = HX6_rests_0 p0 x_6259 n_6265 z_6263 z_6264) → va_P (dC, dI) vwCl [(oc6 oK oR oC oS oT rK_images iK_imageCount oA oH oL x_6259 iK_latestFault iK_latestPlace), (oc1 oC iC_nodes iC_words iC_chances iC_unsures iC_slips iC_throneNode iC_saidWorth iC_unit rC_kind rC_parts rC_partNodes rC_weights rC_weightSums rC_toldWorths rC_steps rC_below rC_above rC_unsureWords rC_unsureWorths)] H → va_D A [(oc6 oK oR oC oS oT rK_images iK_imageCount oA oH oL x_6259 iK_latestFault iK_latestPlace), (oc1 oC iC_nodes iC_words iC_chances iC_unsures iC_slips iC_throneNode iC_saidWorth iC_unit rC_kind rC_parts rC_partNodes rC_weights rC_weightSums rC_toldWorths rC_steps rC_below rC_above rC_unsureWords rC_unsureWorths)] → va_S A s.heap H locs → lv_has ls 4 [(3, .int z_6263), (2, .int z_6264), (0, .ref oK), (1, .int p0)] → W p l e (headSpec (Cond.code yX6_rests cX6_rests 4 (some .int) :: wG) ({ frames := 2, cells := 0, slots := 0, locals := 44 })).room s m ([.ref oK, .int p0] : List Value).toArray below meth c H locs 0 0 (MQ below (va_Qi (fun (r : Int32) (u : Nat) => (True ∧ True) ∧ r = Int32.ofNat u) (fun (u : Nat) (t : State) => ∃ (niK_refusal : Int32), (PX6_rests iC_nodes p0 = (Int32.ofNat u, niK_refusal)) ∧ Bw dC dI A [(oc6 oK oR oC oS oT rK_images iK_imageCount oA oH oL niK_refusal iK_latestFault iK_latestPlace), (oc1 oC iC_nodes iC_words iC_chances iC_unsures iC_slips iC_throneNode iC_saidWorth iC_unit rC_kind rC_parts rC_partNodes rC_weights rC_weightSums rC_toldWorths rC_steps rC_below rC_above rC_unsureWords rC_unsureWorths)] [] t) A) ([.ref oK, .int p0] : List Value).toArray s 0 0 A) (F0 m 17 ls []) := by
      intro n_6265
      induction n_6265 with
      | zero => intro z_6263 z_6264 H locs ls hi0_n_6265 hm; exact absurd hm (Nat.not_lt_zero _)
      | succ n_6265 ih_n_6265 =>
        intro z_6263 z_6264 H locs ls hi0_n_6265 hm_n_6265 hG hP hD hS hl
        have hG := hG.trans (HX6_rests_0_eq _ _ _ _ _)
        have rg_z_6263 := fb_rng z_6263
        have rg_z_6264 := fb_rng z_6264
        refine lv_iload_n hx hb dX6_rests_17 rfl (lv_at hl 0 rfl) ?_
        refine lv_iconst (v := 4) hx hb dX6_rests_18 (by decide) ?_
        refine lv_icmp_ge (tgt := 60) hx hb dX6_rests_19 (by decide) (fun c_6266 => ?_) (fun c_6266 => ?_)
        · skip
          have hG := hG.trans (if_pos c_6266)
          have gc_6266 := ti_le c_6266 kc_4 rfl
          refine lv_iload_n hx hb dX6_rests_60 rfl (lv_at hl 1 rfl) ?_
          exact wq_i hx hb hr (cI z_6264) ⟨⟨trivial, trivial⟩, (cI_of z_6264)⟩ (fun t ht hW => ⟨x_6259, (cI_tup hG), Bw.to hP hD hK ht hW⟩) hS dX6_rests_61 hlocks
        · skip
          have hG := hG.trans (if_neg c_6266)
          have gc_6266 := ti_nle c_6266 kc_4 rfl
          refine lv_iload_n hx hb dX6_rests_22 rfl (lv_at hl 3 rfl) ?_
          refine lv_iload_n hx hb dX6_rests_23 rfl (lv_at hl 0 rfl) ?_
          refine lv_iconst (v := 2) hx hb dX6_rests_24 (by decide) ?_
          refine lv_iand hx hb dX6_rests_25 ?_
          refine lv_topi (fun x_6267 ex_6267 => ?_)
          have hG := hG.trans (lt_eq ex_6267)
          have rg_x_6267 := fb_rng x_6267
          refine lv_if_eq (tgt := 33) hx hb dX6_rests_26 (by decide) (fun c_6268 => ?_) (fun c_6268 => ?_)
          · skip
            have hG := hG.trans (if_pos c_6268)
            have gc_6268 := ti_eq c_6268 rfl kc_0
            refine lv_iconst (v := 0) hx hb dX6_rests_33 (by decide) ?_
            refine lv_iload_n hx hb dX6_rests_34 rfl (lv_at hl 0 rfl) ?_
            refine lv_iconst (v := 1) hx hb dX6_rests_35 (by decide) ?_
            refine lv_iand hx hb dX6_rests_36 ?_
            refine lv_topi (fun x_6269 ex_6269 => ?_)
            have hG := hG.trans (lt_eq ex_6269)
            have rg_x_6269 := fb_rng x_6269
            refine lv_if_eq (tgt := 44) hx hb dX6_rests_37 (by decide) (fun c_6270 => ?_) (fun c_6270 => ?_)
            · skip
              have hG := hG.trans (if_pos c_6270)
              have gc_6270 := ti_eq c_6270 rfl kc_0
              refine lv_iconst (v := 0) hx hb dX6_rests_44 (by decide) ?_
              have hFc : ∀ q, va_A [] _ q → A q := fun q h => hA q (Nat.le_trans hS.1 (va_nilA h))
              refine va_calli (va_runS (As := [.int p0, .int 0, .int 0]) (rest := []) ⟨hx, hb, hml, hown, hts⟩ (tX6_isRest l dC dI _ p0 0 0 ) (va_cwS 3 hts (wd_S wd_1304 wd_1305 wd_2 (wd_c wd_1306)) rfl rfl rfl ds_yX6_isRest_3 ⟨Nat.le_of_ble_eq_true rfl, Nat.le_of_ble_eq_true rfl⟩) ⟨Pw.fb, fun U hU hW => Pn.to hK hE hS hA hU hW⟩ rfl rfl hl.1 rfl (lv_room (Nat.le_of_ble_eq_true rfl)) dX6_rests_45 ⟨Nat.le_of_ble_eq_true rfl, Nat.le_of_ble_eq_true rfl⟩) hS (fun q _ h => hFc q h) hFc (fun r u t H locs ht hvm hw hB hz1 hk1 hS => ?_)
              obtain ⟨hP, hD, hK⟩ := Bw.same ht hvm hP hD hK hk1 hFc
              clear hz1 hk1 hvm ht hB
              have hq9 := hw.2
              have hw := hw.1
              obtain ⟨x_6271, rfl⟩ : ∃ z, z = r := ⟨_, rfl⟩
              have hq_x_6271 := hq9
              have hG := hG.trans (lt_eq hq_x_6271.symm)
              have rg_x_6271 := fb_rng x_6271
              have bx_6271 := hw.1
              have dx_6271 := bz_tb bx_6271
              refine lv_if_eq (tgt := 54) hx hb dX6_rests_48 (by decide) (fun c_6272 => ?_) (fun c_6272 => ?_)
              · skip
                have hG := hG.trans (if_pos c_6272)
                have gc_6272 := ti_eq c_6272 rfl kc_0
                obtain ⟨x_6273, ex_6273⟩ : ∃ z : Int32, z = z_6263 + Int32.ofInt 1 := ⟨_, rfl⟩
                have hG := hG.trans (lt_eq ex_6273)
                have vx_6273 : x_6273.toInt = z_6263.toInt + 1 := ti_add (y := 1) ex_6273 rfl kc_1 (om_4e4fce7e hi0_n_6265.1) (om_71ed274a gc_6266)
                refine lv_iinc (v := x_6273) (lv' := [(3, .int x_6273), (2, .int z_6264), (0, .ref oK), (1, .int p0)]) hx hb dX6_rests_54 hl (k := 0) rfl ex_6273.symm (by decide) rfl (fun ls hl => ?_)
                refine lv_goto (tgt := 17) hx hb dX6_rests_57 (by decide) ?_
                exact ih_n_6265 x_6273 z_6264 _ _ _  ⟨(om_83b90de5 hi0_n_6265.1 vx_6273), (om_d99ff3f9 gc_6266 vx_6273)⟩ (ms_lt hm_n_6265 (om_b9393183 vx_6273) (om_50af1673 gc_6266)) hG hP hD hS (lv_sub hl [0, 1, 2, 3] rfl)
              · skip
                have hG := hG.trans (if_neg c_6272)
                have gc_6272 := ti_ne c_6272 rfl kc_0
                obtain ⟨x_6274, ex_6274⟩ : ∃ z : Int32, z = z_6264 + Int32.ofInt 1 := ⟨_, rfl⟩
                have hG := hG.trans (lt_eq ex_6274)
                have rg_x_6274 := fb_rng x_6274
                refine lv_iinc (v := x_6274) (lv' := [(2, .int x_6274), (3, .int z_6263), (0, .ref oK), (1, .int p0)]) hx hb dX6_rests_51 hl (k := 1) rfl ex_6274.symm (by decide) rfl (fun ls hl => ?_)
                obtain ⟨x_6275, ex_6275⟩ : ∃ z : Int32, z = z_6263 + Int32.ofInt 1 := ⟨_, rfl⟩
                have hG := hG.trans (lt_eq ex_6275)
                have vx_6275 : x_6275.toInt = z_6263.toInt + 1 := ti_add (y := 1) ex_6275 rfl kc_1 (om_4e4fce7e hi0_n_6265.1) (om_71ed274a gc_6266)
                refine lv_iinc (v := x_6275) (lv' := [(3, .int x_6275), (2, .int x_6274), (0, .ref oK), (1, .int p0)]) hx hb dX6_rests_54 hl (k := 1) rfl ex_6275.symm (by decide) rfl (fun ls hl => ?_)
                refine lv_goto (tgt := 17) hx hb dX6_rests_57 (by decide) ?_
                exact ih_n_6265 x_6275 x_6274 _ _ _  ⟨(om_83b90de5 hi0_n_6265.1 vx_6275), (om_d99ff3f9 gc_6266 vx_6275)⟩ (ms_lt hm_n_6265 (om_b9393183 vx_6275) (om_50af1673 gc_6266)) hG hP hD hS (lv_sub hl [0, 1, 2, 3] rfl)
            · skip
              have hG := hG.trans (if_neg c_6270)
              have gc_6270 := ti_ne c_6270 rfl kc_0
              refine lv_iconst (v := 1) hx hb dX6_rests_40 (by decide) ?_
              refine lv_goto (tgt := 45) hx hb dX6_rests_41 (by decide) ?_
              have hFc : ∀ q, va_A [] _ q → A q := fun q h => hA q (Nat.le_trans hS.1 (va_nilA h))
              refine va_calli (va_runS (As := [.int p0, .int 0, .int 1]) (rest := []) ⟨hx, hb, hml, hown, hts⟩ (tX6_isRest l dC dI _ p0 0 1 ) (va_cwS 3 hts (wd_S wd_1304 wd_1305 wd_2 (wd_c wd_1306)) rfl rfl rfl ds_yX6_isRest_3 ⟨Nat.le_of_ble_eq_true rfl, Nat.le_of_ble_eq_true rfl⟩) ⟨Pw.fb, fun U hU hW => Pn.to hK hE hS hA hU hW⟩ rfl rfl hl.1 rfl (lv_room (Nat.le_of_ble_eq_true rfl)) dX6_rests_45 ⟨Nat.le_of_ble_eq_true rfl, Nat.le_of_ble_eq_true rfl⟩) hS (fun q _ h => hFc q h) hFc (fun r u t H locs ht hvm hw hB hz1 hk1 hS => ?_)
              obtain ⟨hP, hD, hK⟩ := Bw.same ht hvm hP hD hK hk1 hFc
              clear hz1 hk1 hvm ht hB
              have hq9 := hw.2
              have hw := hw.1
              obtain ⟨x_6276, rfl⟩ : ∃ z, z = r := ⟨_, rfl⟩
              have hq_x_6276 := hq9
              have hG := hG.trans (lt_eq hq_x_6276.symm)
              have rg_x_6276 := fb_rng x_6276
              have bx_6276 := hw.1
              have dx_6276 := bz_tb bx_6276
              refine lv_if_eq (tgt := 54) hx hb dX6_rests_48 (by decide) (fun c_6277 => ?_) (fun c_6277 => ?_)
              · skip
                have hG := hG.trans (if_pos c_6277)
                have gc_6277 := ti_eq c_6277 rfl kc_0
                obtain ⟨x_6278, ex_6278⟩ : ∃ z : Int32, z = z_6263 + Int32.ofInt 1 := ⟨_, rfl⟩
                have hG := hG.trans (lt_eq ex_6278)
                have vx_6278 : x_6278.toInt = z_6263.toInt + 1 := ti_add (y := 1) ex_6278 rfl kc_1 (om_4e4fce7e hi0_n_6265.1) (om_71ed274a gc_6266)
                refine lv_iinc (v := x_6278) (lv' := [(3, .int x_6278), (2, .int z_6264), (0, .ref oK), (1, .int p0)]) hx hb dX6_rests_54 hl (k := 0) rfl ex_6278.symm (by decide) rfl (fun ls hl => ?_)
                refine lv_goto (tgt := 17) hx hb dX6_rests_57 (by decide) ?_
                exact ih_n_6265 x_6278 z_6264 _ _ _  ⟨(om_83b90de5 hi0_n_6265.1 vx_6278), (om_d99ff3f9 gc_6266 vx_6278)⟩ (ms_lt hm_n_6265 (om_b9393183 vx_6278) (om_50af1673 gc_6266)) hG hP hD hS (lv_sub hl [0, 1, 2, 3] rfl)
              · skip
                have hG := hG.trans (if_neg c_6277)
                have gc_6277 := ti_ne c_6277 rfl kc_0
                obtain ⟨x_6279, ex_6279⟩ : ∃ z : Int32, z = z_6264 + Int32.ofInt 1 := ⟨_, rfl⟩
                have hG := hG.trans (lt_eq ex_6279)
                have rg_x_6279 := fb_rng x_6279
                refine lv_iinc (v := x_6279) (lv' := [(2, .int x_6279), (3, .int z_6263), (0, .ref oK), (1, .int p0)]) hx hb dX6_rests_51 hl (k := 1) rfl ex_6279.symm (by decide) rfl (fun ls hl => ?_)
                obtain ⟨x_6280, ex_6280⟩ : ∃ z : Int32, z = z_6263 + Int32.ofInt 1 := ⟨_, rfl⟩
                have hG := hG.trans (lt_eq ex_6280)
                have vx_6280 : x_6280.toInt = z_6263.toInt + 1 := ti_add (y := 1) ex_6280 rfl kc_1 (om_4e4fce7e hi0_n_6265.1) (om_71ed274a gc_6266)
                refine lv_iinc (v := x_6280) (lv' := [(3, .int x_6280), (2, .int x_6279), (0, .ref oK), (1, .int p0)]) hx hb dX6_rests_54 hl (k := 1) rfl ex_6280.symm (by decide) rfl (fun ls hl => ?_)
                refine lv_goto (tgt := 17) hx hb dX6_rests_57 (by decide) ?_
                exact ih_n_6265 x_6280 x_6279 _ _ _  ⟨(om_83b90de5 hi0_n_6265.1 vx_6280), (om_d99ff3f9 gc_6266 vx_6280)⟩ (ms_lt hm_n_6265 (om_b9393183 vx_6280) (om_50af1673 gc_6266)) hG hP hD hS (lv_sub hl [0, 1, 2, 3] rfl)
          · skip
            have hG := hG.trans (if_neg c_6268)
            have gc_6268 := ti_ne c_6268 rfl kc_0
            refine lv_iconst (v := 1) hx hb dX6_rests_29 (by decide) ?_
            refine lv_goto (tgt := 34) hx hb dX6_rests_30 (by decide) ?_
            refine lv_iload_n hx hb dX6_rests_34 rfl (lv_at hl 0 rfl) ?_
            refine lv_iconst (v := 1) hx hb dX6_rests_35 (by decide) ?_
            refine lv_iand hx hb dX6_rests_36 ?_
            refine lv_topi (fun x_6281 ex_6281 => ?_)
            have hG := hG.trans (lt_eq ex_6281)
            have rg_x_6281 := fb_rng x_6281
            refine lv_if_eq (tgt := 44) hx hb dX6_rests_37 (by decide) (fun c_6282 => ?_) (fun c_6282 => ?_)
            · skip
              have hG := hG.trans (if_pos c_6282)
              have gc_6282 := ti_eq c_6282 rfl kc_0
              refine lv_iconst (v := 0) hx hb dX6_rests_44 (by decide) ?_
              have hFc : ∀ q, va_A [] _ q → A q := fun q h => hA q (Nat.le_trans hS.1 (va_nilA h))
              refine va_calli (va_runS (As := [.int p0, .int 1, .int 0]) (rest := []) ⟨hx, hb, hml, hown, hts⟩ (tX6_isRest l dC dI _ p0 1 0 ) (va_cwS 3 hts (wd_S wd_1304 wd_1305 wd_2 (wd_c wd_1306)) rfl rfl rfl ds_yX6_isRest_3 ⟨Nat.le_of_ble_eq_true rfl, Nat.le_of_ble_eq_true rfl⟩) ⟨Pw.fb, fun U hU hW => Pn.to hK hE hS hA hU hW⟩ rfl rfl hl.1 rfl (lv_room (Nat.le_of_ble_eq_true rfl)) dX6_rests_45 ⟨Nat.le_of_ble_eq_true rfl, Nat.le_of_ble_eq_true rfl⟩) hS (fun q _ h => hFc q h) hFc (fun r u t H locs ht hvm hw hB hz1 hk1 hS => ?_)
              obtain ⟨hP, hD, hK⟩ := Bw.same ht hvm hP hD hK hk1 hFc
              clear hz1 hk1 hvm ht hB
              have hq9 := hw.2
              have hw := hw.1
              obtain ⟨x_6283, rfl⟩ : ∃ z, z = r := ⟨_, rfl⟩
              have hq_x_6283 := hq9
              have hG := hG.trans (lt_eq hq_x_6283.symm)
              have rg_x_6283 := fb_rng x_6283
              have bx_6283 := hw.1
              have dx_6283 := bz_tb bx_6283
              refine lv_if_eq (tgt := 54) hx hb dX6_rests_48 (by decide) (fun c_6284 => ?_) (fun c_6284 => ?_)
              · skip
                have hG := hG.trans (if_pos c_6284)
                have gc_6284 := ti_eq c_6284 rfl kc_0
                obtain ⟨x_6285, ex_6285⟩ : ∃ z : Int32, z = z_6263 + Int32.ofInt 1 := ⟨_, rfl⟩
                have hG := hG.trans (lt_eq ex_6285)
                have vx_6285 : x_6285.toInt = z_6263.toInt + 1 := ti_add (y := 1) ex_6285 rfl kc_1 (om_4e4fce7e hi0_n_6265.1) (om_71ed274a gc_6266)
                refine lv_iinc (v := x_6285) (lv' := [(3, .int x_6285), (2, .int z_6264), (0, .ref oK), (1, .int p0)]) hx hb dX6_rests_54 hl (k := 0) rfl ex_6285.symm (by decide) rfl (fun ls hl => ?_)
                refine lv_goto (tgt := 17) hx hb dX6_rests_57 (by decide) ?_
                exact ih_n_6265 x_6285 z_6264 _ _ _  ⟨(om_83b90de5 hi0_n_6265.1 vx_6285), (om_d99ff3f9 gc_6266 vx_6285)⟩ (ms_lt hm_n_6265 (om_b9393183 vx_6285) (om_50af1673 gc_6266)) hG hP hD hS (lv_sub hl [0, 1, 2, 3] rfl)
              · skip
                have hG := hG.trans (if_neg c_6284)
                have gc_6284 := ti_ne c_6284 rfl kc_0
                obtain ⟨x_6286, ex_6286⟩ : ∃ z : Int32, z = z_6264 + Int32.ofInt 1 := ⟨_, rfl⟩
                have hG := hG.trans (lt_eq ex_6286)
                have rg_x_6286 := fb_rng x_6286
                refine lv_iinc (v := x_6286) (lv' := [(2, .int x_6286), (3, .int z_6263), (0, .ref oK), (1, .int p0)]) hx hb dX6_rests_51 hl (k := 1) rfl ex_6286.symm (by decide) rfl (fun ls hl => ?_)
                obtain ⟨x_6287, ex_6287⟩ : ∃ z : Int32, z = z_6263 + Int32.ofInt 1 := ⟨_, rfl⟩
                have hG := hG.trans (lt_eq ex_6287)
                have vx_6287 : x_6287.toInt = z_6263.toInt + 1 := ti_add (y := 1) ex_6287 rfl kc_1 (om_4e4fce7e hi0_n_6265.1) (om_71ed274a gc_6266)
                refine lv_iinc (v := x_6287) (lv' := [(3, .int x_6287), (2, .int x_6286), (0, .ref oK), (1, .int p0)]) hx hb dX6_rests_54 hl (k := 1) rfl ex_6287.symm (by decide) rfl (fun ls hl => ?_)
                refine lv_goto (tgt := 17) hx hb dX6_rests_57 (by decide) ?_
                exact ih_n_6265 x_6287 x_6286 _ _ _  ⟨(om_83b90de5 hi0_n_6265.1 vx_6287), (om_d99ff3f9 gc_6266 vx_6287)⟩ (ms_lt hm_n_6265 (om_b9393183 vx_6287) (om_50af1673 gc_6266)) hG hP hD hS (lv_sub hl [0, 1, 2, 3] rfl)
            · skip
              have hG := hG.trans (if_neg c_6282)
              have gc_6282 := ti_ne c_6282 rfl kc_0
              refine lv_iconst (v := 1) hx hb dX6_rests_40 (by decide) ?_
              refine lv_goto (tgt := 45) hx hb dX6_rests_41 (by decide) ?_
              have hFc : ∀ q, va_A [] _ q → A q := fun q h => hA q (Nat.le_trans hS.1 (va_nilA h))
              refine va_calli (va_runS (As := [.int p0, .int 1, .int 1]) (rest := []) ⟨hx, hb, hml, hown, hts⟩ (tX6_isRest l dC dI _ p0 1 1 ) (va_cwS 3 hts (wd_S wd_1304 wd_1305 wd_2 (wd_c wd_1306)) rfl rfl rfl ds_yX6_isRest_3 ⟨Nat.le_of_ble_eq_true rfl, Nat.le_of_ble_eq_true rfl⟩) ⟨Pw.fb, fun U hU hW => Pn.to hK hE hS hA hU hW⟩ rfl rfl hl.1 rfl (lv_room (Nat.le_of_ble_eq_true rfl)) dX6_rests_45 ⟨Nat.le_of_ble_eq_true rfl, Nat.le_of_ble_eq_true rfl⟩) hS (fun q _ h => hFc q h) hFc (fun r u t H locs ht hvm hw hB hz1 hk1 hS => ?_)
              obtain ⟨hP, hD, hK⟩ := Bw.same ht hvm hP hD hK hk1 hFc
              clear hz1 hk1 hvm ht hB
              have hq9 := hw.2
              have hw := hw.1
              obtain ⟨x_6288, rfl⟩ : ∃ z, z = r := ⟨_, rfl⟩
              have hq_x_6288 := hq9
              have hG := hG.trans (lt_eq hq_x_6288.symm)
              have rg_x_6288 := fb_rng x_6288
              have bx_6288 := hw.1
              have dx_6288 := bz_tb bx_6288
              refine lv_if_eq (tgt := 54) hx hb dX6_rests_48 (by decide) (fun c_6289 => ?_) (fun c_6289 => ?_)
              · skip
                have hG := hG.trans (if_pos c_6289)
                have gc_6289 := ti_eq c_6289 rfl kc_0
                obtain ⟨x_6290, ex_6290⟩ : ∃ z : Int32, z = z_6263 + Int32.ofInt 1 := ⟨_, rfl⟩
                have hG := hG.trans (lt_eq ex_6290)
                have vx_6290 : x_6290.toInt = z_6263.toInt + 1 := ti_add (y := 1) ex_6290 rfl kc_1 (om_4e4fce7e hi0_n_6265.1) (om_71ed274a gc_6266)
                refine lv_iinc (v := x_6290) (lv' := [(3, .int x_6290), (2, .int z_6264), (0, .ref oK), (1, .int p0)]) hx hb dX6_rests_54 hl (k := 0) rfl ex_6290.symm (by decide) rfl (fun ls hl => ?_)
                refine lv_goto (tgt := 17) hx hb dX6_rests_57 (by decide) ?_
                exact ih_n_6265 x_6290 z_6264 _ _ _  ⟨(om_83b90de5 hi0_n_6265.1 vx_6290), (om_d99ff3f9 gc_6266 vx_6290)⟩ (ms_lt hm_n_6265 (om_b9393183 vx_6290) (om_50af1673 gc_6266)) hG hP hD hS (lv_sub hl [0, 1, 2, 3] rfl)
              · skip
                have hG := hG.trans (if_neg c_6289)
                have gc_6289 := ti_ne c_6289 rfl kc_0
                obtain ⟨x_6291, ex_6291⟩ : ∃ z : Int32, z = z_6264 + Int32.ofInt 1 := ⟨_, rfl⟩
                have hG := hG.trans (lt_eq ex_6291)
                have rg_x_6291 := fb_rng x_6291
                refine lv_iinc (v := x_6291) (lv' := [(2, .int x_6291), (3, .int z_6263), (0, .ref oK), (1, .int p0)]) hx hb dX6_rests_51 hl (k := 1) rfl ex_6291.symm (by decide) rfl (fun ls hl => ?_)
                obtain ⟨x_6292, ex_6292⟩ : ∃ z : Int32, z = z_6263 + Int32.ofInt 1 := ⟨_, rfl⟩
                have hG := hG.trans (lt_eq ex_6292)
                have vx_6292 : x_6292.toInt = z_6263.toInt + 1 := ti_add (y := 1) ex_6292 rfl kc_1 (om_4e4fce7e hi0_n_6265.1) (om_71ed274a gc_6266)
                refine lv_iinc (v := x_6292) (lv' := [(3, .int x_6292), (2, .int x_6291), (0, .ref oK), (1, .int p0)]) hx hb dX6_rests_54 hl (k := 1) rfl ex_6292.symm (by decide) rfl (fun ls hl => ?_)
                refine lv_goto (tgt := 17) hx hb dX6_rests_57 (by decide) ?_
                exact ih_n_6265 x_6292 x_6291 _ _ _  ⟨(om_83b90de5 hi0_n_6265.1 vx_6292), (om_d99ff3f9 gc_6266 vx_6292)⟩ (ms_lt hm_n_6265 (om_b9393183 vx_6292) (om_50af1673 gc_6266)) hG hP hD hS (lv_sub hl [0, 1, 2, 3] rfl)
    exact key_n_6265 (((2147483647 - (0 : Int32).toInt).toNat) + 1) 0 0 _ _ _  ⟨(om_b1de7dbe kc_0), (om_daf17c64 kc_0)⟩ (Nat.lt_add_one _) hG hP hD hS hl
  · skip
    have hG := hG.trans (un2_eq e_x_6259_0)
    have hG := hG.trans (if_neg (by decide))
    refine lv_if_eq (tgt := 13) hx hb dX6_rests_8 (by decide) (fun c => absurd c (by decide)) (fun _ => ?_)
    refine lv_iconst (v := (-1)) hx hb dX6_rests_11 (by decide) ?_
    exact wq_i hx hb hr (cI (-1)) ⟨⟨trivial, trivial⟩, (cI_of (-1))⟩ (fun t ht hW => ⟨x_6259, (cI_tup hG), Bw.to hP hD hK ht hW⟩) hS dX6_rests_12 hlocks
set_option maxHeartbeats 4000000 in
set_option maxRecDepth 100000 in
theorem tX6_rest (l : Launch) (dC : Nat → ClassId) (dI : Nat → Nat → Nat) (sz : Nat) (oK : Nat) (oR : Nat) (oC : Nat) (oS : Nat) (oT : Nat) (rK_images : Nat) (iK_imageCount : Int32) (oA : Nat) (oH : Nat) (oL : Nat) (iK_refusal : Int32) (iK_latestFault : Int32) (iK_latestPlace : Int32) (iC_nodes : Int32) (iC_words : Int32) (iC_chances : Int32) (iC_unsures : Int32) (iC_slips : Int32) (iC_throneNode : Int32) (iC_saidWorth : Int32) (iC_unit : Int32) (rC_kind : Nat) (rC_parts : Nat) (rC_partNodes : Nat) (rC_weights : Nat) (rC_weightSums : Nat) (rC_toldWorths : Nat) (rC_steps : Nat) (rC_below : Nat) (rC_above : Nat) (rC_unsureWords : Nat) (rC_unsureWorths : Nat) (p0 : Int32) (b_iK_imageCount : 0 ≤ iK_imageCount.toInt ∧ iK_imageCount.toInt ≤ 3) (b_iC_nodes : 0 ≤ iC_nodes.toInt ∧ iC_nodes.toInt ≤ 18) (b_iC_unsures : 0 ≤ iC_unsures.toInt ∧ iC_unsures.toInt ≤ 4) (b_iC_throneNode : (-1) ≤ iC_throneNode.toInt ∧ iC_throneNode.toInt ≤ 17)  : Met l yX6_rest (Cond.code yX6_rest cX6_rest 3 (some .int) :: wG) ({ frames := 2, cells := 0, slots := 0, locals := 44 }) (va_Pc [.ref oK, .int p0] (Pw dC dI sz [(oc6 oK oR oC oS oT rK_images iK_imageCount oA oH oL iK_refusal iK_latestFault iK_latestPlace), (oc1 oC iC_nodes iC_words iC_chances iC_unsures iC_slips iC_throneNode iC_saidWorth iC_unit rC_kind rC_parts rC_partNodes rC_weights rC_weightSums rC_toldWorths rC_steps rC_below rC_above rC_unsureWords rC_unsureWorths)] [])) (va_Qi (fun (r : Int32) (u : Nat) => (True ∧ True) ∧ r = Int32.ofNat u) (fun (u : Nat) (t : State) => ∃ (niK_refusal : Int32), (PX6_rest iC_nodes p0 = (Int32.ofNat u, niK_refusal)) ∧ Bw dC dI (va_A [(oc6 oK oR oC oS oT rK_images iK_imageCount oA oH oL iK_refusal iK_latestFault iK_latestPlace), (oc1 oC iC_nodes iC_words iC_chances iC_unsures iC_slips iC_throneNode iC_saidWorth iC_unit rC_kind rC_parts rC_partNodes rC_weights rC_weightSums rC_toldWorths rC_steps rC_below rC_above rC_unsureWords rC_unsureWorths)] sz) [(oc6 oK oR oC oS oT rK_images iK_imageCount oA oH oL niK_refusal iK_latestFault iK_latestPlace), (oc1 oC iC_nodes iC_words iC_chances iC_unsures iC_slips iC_throneNode iC_saidWorth iC_unit rC_kind rC_parts rC_partNodes rC_weights rC_weightSums rC_toldWorths rC_steps rC_below rC_above rC_unsureWords rC_unsureWorths)] [] t) (va_A [(oc6 oK oR oC oS oT rK_images iK_imageCount oA oH oL iK_refusal iK_latestFault iK_latestPlace), (oc1 oC iC_nodes iC_words iC_chances iC_unsures iC_slips iC_throneNode iC_saidWorth iC_unit rC_kind rC_parts rC_partNodes rC_weights rC_weightSums rC_toldWorths rC_steps rC_below rC_above rC_unsureWords rC_unsureWorths)] sz)) 0 0 (va_A [(oc6 oK oR oC oS oT rK_images iK_imageCount oA oH oL iK_refusal iK_latestFault iK_latestPlace), (oc1 oC iC_nodes iC_words iC_chances iC_unsures iC_slips iC_throneNode iC_saidWorth iC_unit rC_kind rC_parts rC_partNodes rC_weights rC_weightSums rC_toldWorths rC_steps rC_below rC_above rC_unsureWords rC_unsureWorths)] sz) := by
  refine Met.ofW (cc := cX6_rest) (maxL := 3) (ret := (some .int)) pnX6 rfl ?_
  intro p e s m args below meth c s₁ B hml hv
  obtain ⟨rfl, hsz, hP, hK, hD0, hE⟩ := hv
  have hx := B.exec
  have hb := B.bytes
  have hr := B.returns
  have hts : ∀ w ∈ wG, w.before ([.ref oK, .int p0] : List Value).toArray s = true := fun w h => atoms_spec (ws := Cond.code yX6_rest cX6_rest 3 (some .int) :: wG) B.pre w (List.mem_cons_of_mem _ h)
  have hown : s.vm.findClass RX6 = some m.cls := own_of B.named rfl
  have hlocks := B.notSynchronized
  subst hsz
  have hD := hD0.self (sz := s.heap.size)
  generalize hAe : va_A [(oc6 oK oR oC oS oT rK_images iK_imageCount oA oH oL iK_refusal iK_latestFault iK_latestPlace), (oc1 oC iC_nodes iC_words iC_chances iC_unsures iC_slips iC_throneNode iC_saidWorth iC_unit rC_kind rC_parts rC_partNodes rC_weights rC_weightSums rC_toldWorths rC_steps rC_below rC_above rC_unsureWords rC_unsureWorths)] s.heap.size = A at hD hE ⊢
  have hA : ∀ q : Nat, s.heap.size ≤ q → A q := fun q h => by rw [← hAe]; exact Or.inr h
  have hS : va_S A s.heap s.heap [] := va_S.rf
  have hl := lv_entry ([.ref oK, .int p0]) (n := 3) (Nat.le_of_ble_eq_true rfl)
  rw [lg_entry_eq]
  generalize (lg_sl ([.ref oK, .int p0]) ++ List.replicate (3 - (lg_sl ([.ref oK, .int p0])).length) Slot.unset).toArray = ls at hl ⊢
  have hl : lv_has ls 3 [(0, .ref oK), (1, .int p0)] := hl
  have hG := PX6_rest_eq iC_nodes p0
  have rg_p0 := fb_rng p0
  refine lv_aload_n hx hb dX6_rest_0 rfl (lv_at hl 0 rfl) ?_
  refine lv_iload_n hx hb dX6_rest_1 rfl (lv_at hl 1 rfl) ?_
  refine lv_iconst (v := 0) hx hb dX6_rest_2 (by decide) ?_
  refine lv_bipush (v := 9) hx hb dX6_rest_3 (by decide) ?_
  have hFc := va_freeI hD hS hA
  refine va_calli (va_runV (As := [.int p0, .int 0, .int 9]) (rest := []) ⟨hx, hb, hml, hown, hts⟩ (tX6_lacksNumber l dC dI _ oK oR oC oS oT rK_images iK_imageCount oA oH oL iK_refusal iK_latestFault iK_latestPlace iC_nodes iC_words iC_chances iC_unsures iC_slips iC_throneNode iC_saidWorth iC_unit rC_kind rC_parts rC_partNodes rC_weights rC_weightSums rC_toldWorths rC_steps rC_below rC_above rC_unsureWords rC_unsureWorths p0 0 9 b_iK_imageCount b_iC_nodes b_iC_unsures b_iC_throneNode) (cwV 3 hts (wd_V wd_866 wd_867 wd_868 wd_2 (wd_c wd_869)) rfl rfl rfl dv_yX6_lacksNumber_3 ⟨Nat.le_of_ble_eq_true rfl, Nat.le_of_ble_eq_true rfl⟩) ⟨Pw.fb, recvX6 hK hP (q0 := 0) rfl, fun U hU hW => Pw.to hP hD hK hE hS hFc hU hW⟩ rfl rfl hl.1 rfl (lv_room (Nat.le_of_ble_eq_true rfl)) dX6_rest_5 ⟨Nat.le_of_ble_eq_true rfl, Nat.le_of_ble_eq_true rfl⟩) hS (fun q _ h => hFc q h) hFc (fun r u t H locs ht hvm hw hB hz1 hk1 hS => ?_)
  have hru9 := hw.2
  have hw := hw.1
  refine ex_1_1 hB (fun x_6335 e_x_6335_0 hB => ?_)
  obtain ⟨hP, hD⟩ := Bw.goA (ws' := [(oc6 oK oR oC oS oT rK_images iK_imageCount oA oH oL x_6335 iK_latestFault iK_latestPlace), (oc1 oC iC_nodes iC_words iC_chances iC_unsures iC_slips iC_throneNode iC_saidWorth iC_unit rC_kind rC_parts rC_partNodes rC_weights rC_weightSums rC_toldWorths rC_steps rC_below rC_above rC_unsureWords rC_unsureWorths)]) hB rfl ht hFc rfl
  clear hz1 hk1 hvm ht hB
  have rg_x_6335 := fb_rng x_6335
  rw [← hru9] at e_x_6335_0
  rcases hw.2 with ⟨rfl, hc_6336⟩ | ⟨rfl, hc_6336⟩
  · skip
    have rg_iC_nodes := fb_rng iC_nodes
    have hG := hG.trans (un2_eq e_x_6335_0)
    have hG := hG.trans (if_pos rfl)
    refine lv_if_eq (tgt := 13) hx hb dX6_rest_8 (by decide) (fun _ => ?_) (fun c => absurd c (by decide))
    refine lv_iconst (v := 0) hx hb dX6_rest_13 (by decide) ?_
    refine lv_istore_n (lv' := [(2, .int 0), (0, .ref oK), (1, .int p0)]) hx hb dX6_rest_14 rfl hl (by decide) rfl (fun ls hl => ?_)
    have hl := lv_sub hl (l' := [(2, .int 0), (0, .ref oK), (1, .int p0)]) [0, 1, 2] rfl
    have key_n_6340 : ∀ (n_6340 : Nat) (z_6339 : Int32) (H : Heap) (locs : List Loc) (ls : Array Slot), (0 ≤ z_6339.toInt ∧ z_6339.toInt ≤ 2147483647) → (2147483647 - z_6339.toInt).toNat < n_6340 → (PX6_rest iC_nodes p0 = HX6_rest_0 p0 x_6335 n_6340 z_6339) → va_P (dC, dI) vwCl [(oc6 oK oR oC oS oT rK_images iK_imageCount oA oH oL x_6335 iK_latestFault iK_latestPlace), (oc1 oC iC_nodes iC_words iC_chances iC_unsures iC_slips iC_throneNode iC_saidWorth iC_unit rC_kind rC_parts rC_partNodes rC_weights rC_weightSums rC_toldWorths rC_steps rC_below rC_above rC_unsureWords rC_unsureWorths)] H → va_D A [(oc6 oK oR oC oS oT rK_images iK_imageCount oA oH oL x_6335 iK_latestFault iK_latestPlace), (oc1 oC iC_nodes iC_words iC_chances iC_unsures iC_slips iC_throneNode iC_saidWorth iC_unit rC_kind rC_parts rC_partNodes rC_weights rC_weightSums rC_toldWorths rC_steps rC_below rC_above rC_unsureWords rC_unsureWorths)] → va_S A s.heap H locs → lv_has ls 3 [(2, .int z_6339), (0, .ref oK), (1, .int p0)] → W p l e (headSpec (Cond.code yX6_rest cX6_rest 3 (some .int) :: wG) ({ frames := 2, cells := 0, slots := 0, locals := 44 })).room s m ([.ref oK, .int p0] : List Value).toArray below meth c H locs 0 0 (MQ below (va_Qi (fun (r : Int32) (u : Nat) => (True ∧ True) ∧ r = Int32.ofNat u) (fun (u : Nat) (t : State) => ∃ (niK_refusal : Int32), (PX6_rest iC_nodes p0 = (Int32.ofNat u, niK_refusal)) ∧ Bw dC dI A [(oc6 oK oR oC oS oT rK_images iK_imageCount oA oH oL niK_refusal iK_latestFault iK_latestPlace), (oc1 oC iC_nodes iC_words iC_chances iC_unsures iC_slips iC_throneNode iC_saidWorth iC_unit rC_kind rC_parts rC_partNodes rC_weights rC_weightSums rC_toldWorths rC_steps rC_below rC_above rC_unsureWords rC_unsureWorths)] [] t) A) ([.ref oK, .int p0] : List Value).toArray s 0 0 A) (F0 m 15 ls []) := by
      intro n_6340
      induction n_6340 with
      | zero => intro z_6339 H locs ls hi0_n_6340 hm; exact absurd hm (Nat.not_lt_zero _)
      | succ n_6340 ih_n_6340 =>
        intro z_6339 H locs ls hi0_n_6340 hm_n_6340 hG hP hD hS hl
        have hG := hG.trans (HX6_rest_0_eq _ _ _ _)
        have rg_z_6339 := fb_rng z_6339
        refine lv_iload_n hx hb dX6_rest_15 rfl (lv_at hl 0 rfl) ?_
        refine lv_iconst (v := 4) hx hb dX6_rest_16 (by decide) ?_
        refine lv_icmp_ge (tgt := 66) hx hb dX6_rest_17 (by decide) (fun c_6341 => ?_) (fun c_6341 => ?_)
        · skip
          have hG := hG.trans (if_pos c_6341)
          have gc_6341 := ti_le c_6341 kc_4 rfl
          refine lv_bipush (v := (-2)) hx hb dX6_rest_66 (by decide) ?_
          exact wq_i hx hb hr (cI (-2)) ⟨⟨trivial, trivial⟩, (cI_of (-2))⟩ (fun t ht hW => ⟨x_6335, (cI_tup hG), Bw.to hP hD hK ht hW⟩) hS dX6_rest_68 hlocks
        · skip
          have hG := hG.trans (if_neg c_6341)
          have gc_6341 := ti_nle c_6341 kc_4 rfl
          refine lv_iload_n hx hb dX6_rest_20 rfl (lv_at hl 2 rfl) ?_
          refine lv_iload_n hx hb dX6_rest_21 rfl (lv_at hl 0 rfl) ?_
          refine lv_iconst (v := 2) hx hb dX6_rest_22 (by decide) ?_
          refine lv_iand hx hb dX6_rest_23 ?_
          refine lv_topi (fun x_6342 ex_6342 => ?_)
          have hG := hG.trans (lt_eq ex_6342)
          have rg_x_6342 := fb_rng x_6342
          refine lv_if_eq (tgt := 31) hx hb dX6_rest_24 (by decide) (fun c_6343 => ?_) (fun c_6343 => ?_)
          · skip
            have hG := hG.trans (if_pos c_6343)
            have gc_6343 := ti_eq c_6343 rfl kc_0
            refine lv_iconst (v := 0) hx hb dX6_rest_31 (by decide) ?_
            refine lv_iload_n hx hb dX6_rest_32 rfl (lv_at hl 0 rfl) ?_
            refine lv_iconst (v := 1) hx hb dX6_rest_33 (by decide) ?_
            refine lv_iand hx hb dX6_rest_34 ?_
            refine lv_topi (fun x_6344 ex_6344 => ?_)
            have hG := hG.trans (lt_eq ex_6344)
            have rg_x_6344 := fb_rng x_6344
            refine lv_if_eq (tgt := 42) hx hb dX6_rest_35 (by decide) (fun c_6345 => ?_) (fun c_6345 => ?_)
            · skip
              have hG := hG.trans (if_pos c_6345)
              have gc_6345 := ti_eq c_6345 rfl kc_0
              refine lv_iconst (v := 0) hx hb dX6_rest_42 (by decide) ?_
              have hFc : ∀ q, va_A [] _ q → A q := fun q h => hA q (Nat.le_trans hS.1 (va_nilA h))
              refine va_calli (va_runS (As := [.int p0, .int 0, .int 0]) (rest := []) ⟨hx, hb, hml, hown, hts⟩ (tX6_isRest l dC dI _ p0 0 0 ) (va_cwS 3 hts (wd_S wd_1304 wd_1305 wd_2 (wd_c wd_1306)) rfl rfl rfl ds_yX6_isRest_3 ⟨Nat.le_of_ble_eq_true rfl, Nat.le_of_ble_eq_true rfl⟩) ⟨Pw.fb, fun U hU hW => Pn.to hK hE hS hA hU hW⟩ rfl rfl hl.1 rfl (lv_room (Nat.le_of_ble_eq_true rfl)) dX6_rest_43 ⟨Nat.le_of_ble_eq_true rfl, Nat.le_of_ble_eq_true rfl⟩) hS (fun q _ h => hFc q h) hFc (fun r u t H locs ht hvm hw hB hz1 hk1 hS => ?_)
              obtain ⟨hP, hD, hK⟩ := Bw.same ht hvm hP hD hK hk1 hFc
              clear hz1 hk1 hvm ht hB
              have hq9 := hw.2
              have hw := hw.1
              obtain ⟨x_6346, rfl⟩ : ∃ z, z = r := ⟨_, rfl⟩
              have hq_x_6346 := hq9
              have hG := hG.trans (lt_eq hq_x_6346.symm)
              have rg_x_6346 := fb_rng x_6346
              have bx_6346 := hw.1
              have dx_6346 := bz_tb bx_6346
              refine lv_if_eq (tgt := 60) hx hb dX6_rest_46 (by decide) (fun c_6347 => ?_) (fun c_6347 => ?_)
              · skip
                have hG := hG.trans (if_pos c_6347)
                have gc_6347 := ti_eq c_6347 rfl kc_0
                obtain ⟨x_6348, ex_6348⟩ : ∃ z : Int32, z = z_6339 + Int32.ofInt 1 := ⟨_, rfl⟩
                have hG := hG.trans (lt_eq ex_6348)
                have vx_6348 : x_6348.toInt = z_6339.toInt + 1 := ti_add (y := 1) ex_6348 rfl kc_1 (om_4e4fce7e hi0_n_6340.1) (om_71ed274a gc_6341)
                refine lv_iinc (v := x_6348) (lv' := [(2, .int x_6348), (0, .ref oK), (1, .int p0)]) hx hb dX6_rest_60 hl (k := 0) rfl ex_6348.symm (by decide) rfl (fun ls hl => ?_)
                refine lv_goto (tgt := 15) hx hb dX6_rest_63 (by decide) ?_
                exact ih_n_6340 x_6348 _ _ _  ⟨(om_83b90de5 hi0_n_6340.1 vx_6348), (om_d99ff3f9 gc_6341 vx_6348)⟩ (ms_lt hm_n_6340 (om_b9393183 vx_6348) (om_50af1673 gc_6341)) hG hP hD hS (lv_sub hl [0, 1, 2] rfl)
              · skip
                have hG := hG.trans (if_neg c_6347)
                have gc_6347 := ti_ne c_6347 rfl kc_0
                refine lv_iload_n hx hb dX6_rest_49 rfl (lv_at hl 0 rfl) ?_
                refine lv_iconst (v := 1) hx hb dX6_rest_50 (by decide) ?_
                refine lv_ishr hx hb dX6_rest_51 ?_
                refine lv_topi (fun x_6349 ex_6349 => ?_)
                have hG := hG.trans (lt_eq ex_6349)
                have rg_x_6349 := fb_rng x_6349
                refine lv_bipush (v := 10) hx hb dX6_rest_52 (by decide) ?_
                refine lv_imul hx hb dX6_rest_54 ?_
                refine lv_topi (fun x_6350 ex_6350 => ?_)
                have hG := hG.trans (lt_eq ex_6350)
                have rg_x_6350 := fb_rng x_6350
                refine lv_iload_n hx hb dX6_rest_55 rfl (lv_at hl 0 rfl) ?_
                refine lv_iconst (v := 1) hx hb dX6_rest_56 (by decide) ?_
                refine lv_iand hx hb dX6_rest_57 ?_
                refine lv_topi (fun x_6351 ex_6351 => ?_)
                have hG := hG.trans (lt_eq ex_6351)
                have rg_x_6351 := fb_rng x_6351
                refine lv_iadd hx hb dX6_rest_58 ?_
                refine lv_topi (fun x_6352 ex_6352 => ?_)
                have hG := hG.trans (lt_eq ex_6352)
                have rg_x_6352 := fb_rng x_6352
                exact wq_i hx hb hr (cI x_6352) ⟨⟨trivial, trivial⟩, (cI_of x_6352)⟩ (fun t ht hW => ⟨x_6335, (cI_tup hG), Bw.to hP hD hK ht hW⟩) hS dX6_rest_59 hlocks
            · skip
              have hG := hG.trans (if_neg c_6345)
              have gc_6345 := ti_ne c_6345 rfl kc_0
              refine lv_iconst (v := 1) hx hb dX6_rest_38 (by decide) ?_
              refine lv_goto (tgt := 43) hx hb dX6_rest_39 (by decide) ?_
              have hFc : ∀ q, va_A [] _ q → A q := fun q h => hA q (Nat.le_trans hS.1 (va_nilA h))
              refine va_calli (va_runS (As := [.int p0, .int 0, .int 1]) (rest := []) ⟨hx, hb, hml, hown, hts⟩ (tX6_isRest l dC dI _ p0 0 1 ) (va_cwS 3 hts (wd_S wd_1304 wd_1305 wd_2 (wd_c wd_1306)) rfl rfl rfl ds_yX6_isRest_3 ⟨Nat.le_of_ble_eq_true rfl, Nat.le_of_ble_eq_true rfl⟩) ⟨Pw.fb, fun U hU hW => Pn.to hK hE hS hA hU hW⟩ rfl rfl hl.1 rfl (lv_room (Nat.le_of_ble_eq_true rfl)) dX6_rest_43 ⟨Nat.le_of_ble_eq_true rfl, Nat.le_of_ble_eq_true rfl⟩) hS (fun q _ h => hFc q h) hFc (fun r u t H locs ht hvm hw hB hz1 hk1 hS => ?_)
              obtain ⟨hP, hD, hK⟩ := Bw.same ht hvm hP hD hK hk1 hFc
              clear hz1 hk1 hvm ht hB
              have hq9 := hw.2
              have hw := hw.1
              obtain ⟨x_6353, rfl⟩ : ∃ z, z = r := ⟨_, rfl⟩
              have hq_x_6353 := hq9
              have hG := hG.trans (lt_eq hq_x_6353.symm)
              have rg_x_6353 := fb_rng x_6353
              have bx_6353 := hw.1
              have dx_6353 := bz_tb bx_6353
              refine lv_if_eq (tgt := 60) hx hb dX6_rest_46 (by decide) (fun c_6354 => ?_) (fun c_6354 => ?_)
              · skip
                have hG := hG.trans (if_pos c_6354)
                have gc_6354 := ti_eq c_6354 rfl kc_0
                obtain ⟨x_6355, ex_6355⟩ : ∃ z : Int32, z = z_6339 + Int32.ofInt 1 := ⟨_, rfl⟩
                have hG := hG.trans (lt_eq ex_6355)
                have vx_6355 : x_6355.toInt = z_6339.toInt + 1 := ti_add (y := 1) ex_6355 rfl kc_1 (om_4e4fce7e hi0_n_6340.1) (om_71ed274a gc_6341)
                refine lv_iinc (v := x_6355) (lv' := [(2, .int x_6355), (0, .ref oK), (1, .int p0)]) hx hb dX6_rest_60 hl (k := 0) rfl ex_6355.symm (by decide) rfl (fun ls hl => ?_)
                refine lv_goto (tgt := 15) hx hb dX6_rest_63 (by decide) ?_
                exact ih_n_6340 x_6355 _ _ _  ⟨(om_83b90de5 hi0_n_6340.1 vx_6355), (om_d99ff3f9 gc_6341 vx_6355)⟩ (ms_lt hm_n_6340 (om_b9393183 vx_6355) (om_50af1673 gc_6341)) hG hP hD hS (lv_sub hl [0, 1, 2] rfl)
              · skip
                have hG := hG.trans (if_neg c_6354)
                have gc_6354 := ti_ne c_6354 rfl kc_0
                refine lv_iload_n hx hb dX6_rest_49 rfl (lv_at hl 0 rfl) ?_
                refine lv_iconst (v := 1) hx hb dX6_rest_50 (by decide) ?_
                refine lv_ishr hx hb dX6_rest_51 ?_
                refine lv_topi (fun x_6356 ex_6356 => ?_)
                have hG := hG.trans (lt_eq ex_6356)
                have rg_x_6356 := fb_rng x_6356
                refine lv_bipush (v := 10) hx hb dX6_rest_52 (by decide) ?_
                refine lv_imul hx hb dX6_rest_54 ?_
                refine lv_topi (fun x_6357 ex_6357 => ?_)
                have hG := hG.trans (lt_eq ex_6357)
                have rg_x_6357 := fb_rng x_6357
                refine lv_iload_n hx hb dX6_rest_55 rfl (lv_at hl 0 rfl) ?_
                refine lv_iconst (v := 1) hx hb dX6_rest_56 (by decide) ?_
                refine lv_iand hx hb dX6_rest_57 ?_
                refine lv_topi (fun x_6358 ex_6358 => ?_)
                have hG := hG.trans (lt_eq ex_6358)
                have rg_x_6358 := fb_rng x_6358
                refine lv_iadd hx hb dX6_rest_58 ?_
                refine lv_topi (fun x_6359 ex_6359 => ?_)
                have hG := hG.trans (lt_eq ex_6359)
                have rg_x_6359 := fb_rng x_6359
                exact wq_i hx hb hr (cI x_6359) ⟨⟨trivial, trivial⟩, (cI_of x_6359)⟩ (fun t ht hW => ⟨x_6335, (cI_tup hG), Bw.to hP hD hK ht hW⟩) hS dX6_rest_59 hlocks
          · skip
            have hG := hG.trans (if_neg c_6343)
            have gc_6343 := ti_ne c_6343 rfl kc_0
            refine lv_iconst (v := 1) hx hb dX6_rest_27 (by decide) ?_
            refine lv_goto (tgt := 32) hx hb dX6_rest_28 (by decide) ?_
            refine lv_iload_n hx hb dX6_rest_32 rfl (lv_at hl 0 rfl) ?_
            refine lv_iconst (v := 1) hx hb dX6_rest_33 (by decide) ?_
            refine lv_iand hx hb dX6_rest_34 ?_
            refine lv_topi (fun x_6360 ex_6360 => ?_)
            have hG := hG.trans (lt_eq ex_6360)
            have rg_x_6360 := fb_rng x_6360
            refine lv_if_eq (tgt := 42) hx hb dX6_rest_35 (by decide) (fun c_6361 => ?_) (fun c_6361 => ?_)
            · skip
              have hG := hG.trans (if_pos c_6361)
              have gc_6361 := ti_eq c_6361 rfl kc_0
              refine lv_iconst (v := 0) hx hb dX6_rest_42 (by decide) ?_
              have hFc : ∀ q, va_A [] _ q → A q := fun q h => hA q (Nat.le_trans hS.1 (va_nilA h))
              refine va_calli (va_runS (As := [.int p0, .int 1, .int 0]) (rest := []) ⟨hx, hb, hml, hown, hts⟩ (tX6_isRest l dC dI _ p0 1 0 ) (va_cwS 3 hts (wd_S wd_1304 wd_1305 wd_2 (wd_c wd_1306)) rfl rfl rfl ds_yX6_isRest_3 ⟨Nat.le_of_ble_eq_true rfl, Nat.le_of_ble_eq_true rfl⟩) ⟨Pw.fb, fun U hU hW => Pn.to hK hE hS hA hU hW⟩ rfl rfl hl.1 rfl (lv_room (Nat.le_of_ble_eq_true rfl)) dX6_rest_43 ⟨Nat.le_of_ble_eq_true rfl, Nat.le_of_ble_eq_true rfl⟩) hS (fun q _ h => hFc q h) hFc (fun r u t H locs ht hvm hw hB hz1 hk1 hS => ?_)
              obtain ⟨hP, hD, hK⟩ := Bw.same ht hvm hP hD hK hk1 hFc
              clear hz1 hk1 hvm ht hB
              have hq9 := hw.2
              have hw := hw.1
              obtain ⟨x_6362, rfl⟩ : ∃ z, z = r := ⟨_, rfl⟩
              have hq_x_6362 := hq9
              have hG := hG.trans (lt_eq hq_x_6362.symm)
              have rg_x_6362 := fb_rng x_6362
              have bx_6362 := hw.1
              have dx_6362 := bz_tb bx_6362
              refine lv_if_eq (tgt := 60) hx hb dX6_rest_46 (by decide) (fun c_6363 => ?_) (fun c_6363 => ?_)
              · skip
                have hG := hG.trans (if_pos c_6363)
                have gc_6363 := ti_eq c_6363 rfl kc_0
                obtain ⟨x_6364, ex_6364⟩ : ∃ z : Int32, z = z_6339 + Int32.ofInt 1 := ⟨_, rfl⟩
                have hG := hG.trans (lt_eq ex_6364)
                have vx_6364 : x_6364.toInt = z_6339.toInt + 1 := ti_add (y := 1) ex_6364 rfl kc_1 (om_4e4fce7e hi0_n_6340.1) (om_71ed274a gc_6341)
                refine lv_iinc (v := x_6364) (lv' := [(2, .int x_6364), (0, .ref oK), (1, .int p0)]) hx hb dX6_rest_60 hl (k := 0) rfl ex_6364.symm (by decide) rfl (fun ls hl => ?_)
                refine lv_goto (tgt := 15) hx hb dX6_rest_63 (by decide) ?_
                exact ih_n_6340 x_6364 _ _ _  ⟨(om_83b90de5 hi0_n_6340.1 vx_6364), (om_d99ff3f9 gc_6341 vx_6364)⟩ (ms_lt hm_n_6340 (om_b9393183 vx_6364) (om_50af1673 gc_6341)) hG hP hD hS (lv_sub hl [0, 1, 2] rfl)
              · skip
                have hG := hG.trans (if_neg c_6363)
                have gc_6363 := ti_ne c_6363 rfl kc_0
                refine lv_iload_n hx hb dX6_rest_49 rfl (lv_at hl 0 rfl) ?_
                refine lv_iconst (v := 1) hx hb dX6_rest_50 (by decide) ?_
                refine lv_ishr hx hb dX6_rest_51 ?_
                refine lv_topi (fun x_6365 ex_6365 => ?_)
                have hG := hG.trans (lt_eq ex_6365)
                have rg_x_6365 := fb_rng x_6365
                refine lv_bipush (v := 10) hx hb dX6_rest_52 (by decide) ?_
                refine lv_imul hx hb dX6_rest_54 ?_
                refine lv_topi (fun x_6366 ex_6366 => ?_)
                have hG := hG.trans (lt_eq ex_6366)
                have rg_x_6366 := fb_rng x_6366
                refine lv_iload_n hx hb dX6_rest_55 rfl (lv_at hl 0 rfl) ?_
                refine lv_iconst (v := 1) hx hb dX6_rest_56 (by decide) ?_
                refine lv_iand hx hb dX6_rest_57 ?_
                refine lv_topi (fun x_6367 ex_6367 => ?_)
                have hG := hG.trans (lt_eq ex_6367)
                have rg_x_6367 := fb_rng x_6367
                refine lv_iadd hx hb dX6_rest_58 ?_
                refine lv_topi (fun x_6368 ex_6368 => ?_)
                have hG := hG.trans (lt_eq ex_6368)
                have rg_x_6368 := fb_rng x_6368
                exact wq_i hx hb hr (cI x_6368) ⟨⟨trivial, trivial⟩, (cI_of x_6368)⟩ (fun t ht hW => ⟨x_6335, (cI_tup hG), Bw.to hP hD hK ht hW⟩) hS dX6_rest_59 hlocks
            · skip
              have hG := hG.trans (if_neg c_6361)
              have gc_6361 := ti_ne c_6361 rfl kc_0
              refine lv_iconst (v := 1) hx hb dX6_rest_38 (by decide) ?_
              refine lv_goto (tgt := 43) hx hb dX6_rest_39 (by decide) ?_
              have hFc : ∀ q, va_A [] _ q → A q := fun q h => hA q (Nat.le_trans hS.1 (va_nilA h))
              refine va_calli (va_runS (As := [.int p0, .int 1, .int 1]) (rest := []) ⟨hx, hb, hml, hown, hts⟩ (tX6_isRest l dC dI _ p0 1 1 ) (va_cwS 3 hts (wd_S wd_1304 wd_1305 wd_2 (wd_c wd_1306)) rfl rfl rfl ds_yX6_isRest_3 ⟨Nat.le_of_ble_eq_true rfl, Nat.le_of_ble_eq_true rfl⟩) ⟨Pw.fb, fun U hU hW => Pn.to hK hE hS hA hU hW⟩ rfl rfl hl.1 rfl (lv_room (Nat.le_of_ble_eq_true rfl)) dX6_rest_43 ⟨Nat.le_of_ble_eq_true rfl, Nat.le_of_ble_eq_true rfl⟩) hS (fun q _ h => hFc q h) hFc (fun r u t H locs ht hvm hw hB hz1 hk1 hS => ?_)
              obtain ⟨hP, hD, hK⟩ := Bw.same ht hvm hP hD hK hk1 hFc
              clear hz1 hk1 hvm ht hB
              have hq9 := hw.2
              have hw := hw.1
              obtain ⟨x_6369, rfl⟩ : ∃ z, z = r := ⟨_, rfl⟩
              have hq_x_6369 := hq9
              have hG := hG.trans (lt_eq hq_x_6369.symm)
              have rg_x_6369 := fb_rng x_6369
              have bx_6369 := hw.1
              have dx_6369 := bz_tb bx_6369
              refine lv_if_eq (tgt := 60) hx hb dX6_rest_46 (by decide) (fun c_6370 => ?_) (fun c_6370 => ?_)
              · skip
                have hG := hG.trans (if_pos c_6370)
                have gc_6370 := ti_eq c_6370 rfl kc_0
                obtain ⟨x_6371, ex_6371⟩ : ∃ z : Int32, z = z_6339 + Int32.ofInt 1 := ⟨_, rfl⟩
                have hG := hG.trans (lt_eq ex_6371)
                have vx_6371 : x_6371.toInt = z_6339.toInt + 1 := ti_add (y := 1) ex_6371 rfl kc_1 (om_4e4fce7e hi0_n_6340.1) (om_71ed274a gc_6341)
                refine lv_iinc (v := x_6371) (lv' := [(2, .int x_6371), (0, .ref oK), (1, .int p0)]) hx hb dX6_rest_60 hl (k := 0) rfl ex_6371.symm (by decide) rfl (fun ls hl => ?_)
                refine lv_goto (tgt := 15) hx hb dX6_rest_63 (by decide) ?_
                exact ih_n_6340 x_6371 _ _ _  ⟨(om_83b90de5 hi0_n_6340.1 vx_6371), (om_d99ff3f9 gc_6341 vx_6371)⟩ (ms_lt hm_n_6340 (om_b9393183 vx_6371) (om_50af1673 gc_6341)) hG hP hD hS (lv_sub hl [0, 1, 2] rfl)
              · skip
                have hG := hG.trans (if_neg c_6370)
                have gc_6370 := ti_ne c_6370 rfl kc_0
                refine lv_iload_n hx hb dX6_rest_49 rfl (lv_at hl 0 rfl) ?_
                refine lv_iconst (v := 1) hx hb dX6_rest_50 (by decide) ?_
                refine lv_ishr hx hb dX6_rest_51 ?_
                refine lv_topi (fun x_6372 ex_6372 => ?_)
                have hG := hG.trans (lt_eq ex_6372)
                have rg_x_6372 := fb_rng x_6372
                refine lv_bipush (v := 10) hx hb dX6_rest_52 (by decide) ?_
                refine lv_imul hx hb dX6_rest_54 ?_
                refine lv_topi (fun x_6373 ex_6373 => ?_)
                have hG := hG.trans (lt_eq ex_6373)
                have rg_x_6373 := fb_rng x_6373
                refine lv_iload_n hx hb dX6_rest_55 rfl (lv_at hl 0 rfl) ?_
                refine lv_iconst (v := 1) hx hb dX6_rest_56 (by decide) ?_
                refine lv_iand hx hb dX6_rest_57 ?_
                refine lv_topi (fun x_6374 ex_6374 => ?_)
                have hG := hG.trans (lt_eq ex_6374)
                have rg_x_6374 := fb_rng x_6374
                refine lv_iadd hx hb dX6_rest_58 ?_
                refine lv_topi (fun x_6375 ex_6375 => ?_)
                have hG := hG.trans (lt_eq ex_6375)
                have rg_x_6375 := fb_rng x_6375
                exact wq_i hx hb hr (cI x_6375) ⟨⟨trivial, trivial⟩, (cI_of x_6375)⟩ (fun t ht hW => ⟨x_6335, (cI_tup hG), Bw.to hP hD hK ht hW⟩) hS dX6_rest_59 hlocks
    exact key_n_6340 (((2147483647 - (0 : Int32).toInt).toNat) + 1) 0 _ _ _  ⟨(om_b1de7dbe kc_0), (om_daf17c64 kc_0)⟩ (Nat.lt_add_one _) hG hP hD hS hl
  · skip
    have hG := hG.trans (un2_eq e_x_6335_0)
    have hG := hG.trans (if_neg (by decide))
    refine lv_if_eq (tgt := 13) hx hb dX6_rest_8 (by decide) (fun c => absurd c (by decide)) (fun _ => ?_)
    refine lv_iconst (v := (-1)) hx hb dX6_rest_11 (by decide) ?_
    exact wq_i hx hb hr (cI (-1)) ⟨⟨trivial, trivial⟩, (cI_of (-1))⟩ (fun t ht hW => ⟨x_6335, (cI_tup hG), Bw.to hP hD hK ht hW⟩) hS dX6_rest_12 hlocks
set_option maxHeartbeats 4000000 in
set_option maxRecDepth 100000 in
theorem tX6_lacksDraws (l : Launch) (dC : Nat → ClassId) (dI : Nat → Nat → Nat) (sz : Nat) (oK : Nat) (oR : Nat) (oC : Nat) (oS : Nat) (oT : Nat) (rK_images : Nat) (iK_imageCount : Int32) (oA : Nat) (oH : Nat) (oL : Nat) (iK_refusal : Int32) (iK_latestFault : Int32) (iK_latestPlace : Int32) (iC_nodes : Int32) (iC_words : Int32) (iC_chances : Int32) (iC_unsures : Int32) (iC_slips : Int32) (iC_throneNode : Int32) (iC_saidWorth : Int32) (iC_unit : Int32) (rC_kind : Nat) (rC_parts : Nat) (rC_partNodes : Nat) (rC_weights : Nat) (rC_weightSums : Nat) (rC_toldWorths : Nat) (rC_steps : Nat) (rC_below : Nat) (rC_above : Nat) (rC_unsureWords : Nat) (rC_unsureWorths : Nat) (p0 : Int32) (p1 : Int32) (b_iK_imageCount : 0 ≤ iK_imageCount.toInt ∧ iK_imageCount.toInt ≤ 3) (b_iC_nodes : 0 ≤ iC_nodes.toInt ∧ iC_nodes.toInt ≤ 18) (b_iC_unsures : 0 ≤ iC_unsures.toInt ∧ iC_unsures.toInt ≤ 4) (b_iC_throneNode : (-1) ≤ iC_throneNode.toInt ∧ iC_throneNode.toInt ≤ 17)  : Met l yX6_lacksDraws (Cond.code yX6_lacksDraws cX6_lacksDraws 3 (some .boolean) :: wG) ({ frames := 2, cells := 0, slots := 0, locals := 43 }) (va_Pc [.ref oK, .int p0, .int p1] (Pw dC dI sz [(oc6 oK oR oC oS oT rK_images iK_imageCount oA oH oL iK_refusal iK_latestFault iK_latestPlace), (oc1 oC iC_nodes iC_words iC_chances iC_unsures iC_slips iC_throneNode iC_saidWorth iC_unit rC_kind rC_parts rC_partNodes rC_weights rC_weightSums rC_toldWorths rC_steps rC_below rC_above rC_unsureWords rC_unsureWorths)] [])) (va_Qi (fun (r : Int32) (u : Nat) => ((r = 0 ∨ r = 1) ∧ ((r = 0 ∧ 0 < iC_nodes.toInt ∧ 0 ≤ p0.toInt ∧ p0.toInt ≤ 65536) ∨ (r = 1 ∧ True))) ∧ r = Int32.ofNat u) (fun (u : Nat) (t : State) => ∃ (niK_refusal : Int32), (PX6_lacksDraws iC_nodes p0 p1 = (Int32.ofNat u, niK_refusal)) ∧ Bw dC dI (va_A [(oc6 oK oR oC oS oT rK_images iK_imageCount oA oH oL iK_refusal iK_latestFault iK_latestPlace), (oc1 oC iC_nodes iC_words iC_chances iC_unsures iC_slips iC_throneNode iC_saidWorth iC_unit rC_kind rC_parts rC_partNodes rC_weights rC_weightSums rC_toldWorths rC_steps rC_below rC_above rC_unsureWords rC_unsureWorths)] sz) [(oc6 oK oR oC oS oT rK_images iK_imageCount oA oH oL niK_refusal iK_latestFault iK_latestPlace), (oc1 oC iC_nodes iC_words iC_chances iC_unsures iC_slips iC_throneNode iC_saidWorth iC_unit rC_kind rC_parts rC_partNodes rC_weights rC_weightSums rC_toldWorths rC_steps rC_below rC_above rC_unsureWords rC_unsureWorths)] [] t) (va_A [(oc6 oK oR oC oS oT rK_images iK_imageCount oA oH oL iK_refusal iK_latestFault iK_latestPlace), (oc1 oC iC_nodes iC_words iC_chances iC_unsures iC_slips iC_throneNode iC_saidWorth iC_unit rC_kind rC_parts rC_partNodes rC_weights rC_weightSums rC_toldWorths rC_steps rC_below rC_above rC_unsureWords rC_unsureWorths)] sz)) 0 0 (va_A [(oc6 oK oR oC oS oT rK_images iK_imageCount oA oH oL iK_refusal iK_latestFault iK_latestPlace), (oc1 oC iC_nodes iC_words iC_chances iC_unsures iC_slips iC_throneNode iC_saidWorth iC_unit rC_kind rC_parts rC_partNodes rC_weights rC_weightSums rC_toldWorths rC_steps rC_below rC_above rC_unsureWords rC_unsureWorths)] sz) := by
  refine Met.ofW (cc := cX6_lacksDraws) (maxL := 3) (ret := (some .boolean)) pnX6 rfl ?_
  intro p e s m args below meth c s₁ B hml hv
  obtain ⟨rfl, hsz, hP, hK, hD0, hE⟩ := hv
  have hx := B.exec
  have hb := B.bytes
  have hr := B.returns
  have hts : ∀ w ∈ wG, w.before ([.ref oK, .int p0, .int p1] : List Value).toArray s = true := fun w h => atoms_spec (ws := Cond.code yX6_lacksDraws cX6_lacksDraws 3 (some .boolean) :: wG) B.pre w (List.mem_cons_of_mem _ h)
  have hown : s.vm.findClass RX6 = some m.cls := own_of B.named rfl
  have hlocks := B.notSynchronized
  subst hsz
  have hD := hD0.self (sz := s.heap.size)
  generalize hAe : va_A [(oc6 oK oR oC oS oT rK_images iK_imageCount oA oH oL iK_refusal iK_latestFault iK_latestPlace), (oc1 oC iC_nodes iC_words iC_chances iC_unsures iC_slips iC_throneNode iC_saidWorth iC_unit rC_kind rC_parts rC_partNodes rC_weights rC_weightSums rC_toldWorths rC_steps rC_below rC_above rC_unsureWords rC_unsureWorths)] s.heap.size = A at hD hE ⊢
  have hA : ∀ q : Nat, s.heap.size ≤ q → A q := fun q h => by rw [← hAe]; exact Or.inr h
  have hS : va_S A s.heap s.heap [] := va_S.rf
  have hl := lv_entry ([.ref oK, .int p0, .int p1]) (n := 3) (Nat.le_of_ble_eq_true rfl)
  rw [lg_entry_eq]
  generalize (lg_sl ([.ref oK, .int p0, .int p1]) ++ List.replicate (3 - (lg_sl ([.ref oK, .int p0, .int p1])).length) Slot.unset).toArray = ls at hl ⊢
  have hl : lv_has ls 3 [(0, .ref oK), (1, .int p0), (2, .int p1)] := hl
  have hG := PX6_lacksDraws_eq iC_nodes p0 p1
  refine lv_aload_n hx hb dX6_lacksDraws_0 rfl (lv_at hl 0 rfl) ?_
  refine lv_iload_n hx hb dX6_lacksDraws_1 rfl (lv_at hl 1 rfl) ?_
  refine lv_iconst (v := 0) hx hb dX6_lacksDraws_2 (by decide) ?_
  refine lv_ldcw hx hb hown (hts _ wd_1332) dX6_lacksDraws_3 ?_
  have hFc := va_freeI hD hS hA
  refine va_calli (va_runV (As := [.int p0, .int 0, .int 65536]) (rest := []) ⟨hx, hb, hml, hown, hts⟩ (tX6_lacksNumber l dC dI _ oK oR oC oS oT rK_images iK_imageCount oA oH oL iK_refusal iK_latestFault iK_latestPlace iC_nodes iC_words iC_chances iC_unsures iC_slips iC_throneNode iC_saidWorth iC_unit rC_kind rC_parts rC_partNodes rC_weights rC_weightSums rC_toldWorths rC_steps rC_below rC_above rC_unsureWords rC_unsureWorths p0 0 65536 b_iK_imageCount b_iC_nodes b_iC_unsures b_iC_throneNode) (cwV 3 hts (wd_V wd_866 wd_867 wd_868 wd_2 (wd_c wd_869)) rfl rfl rfl dv_yX6_lacksNumber_3 ⟨Nat.le_of_ble_eq_true rfl, Nat.le_of_ble_eq_true rfl⟩) ⟨Pw.fb, recvX6 hK hP (q0 := 0) rfl, fun U hU hW => Pw.to hP hD hK hE hS hFc hU hW⟩ rfl rfl hl.1 rfl (lv_room (Nat.le_of_ble_eq_true rfl)) dX6_lacksDraws_6 ⟨Nat.le_of_ble_eq_true rfl, Nat.le_of_ble_eq_true rfl⟩) hS (fun q _ h => hFc q h) hFc (fun r u t H locs ht hvm hw hB hz1 hk1 hS => ?_)
  have hru9 := hw.2
  have hw := hw.1
  refine ex_1_1 hB (fun x_6383 e_x_6383_0 hB => ?_)
  obtain ⟨hP, hD⟩ := Bw.goA (ws' := [(oc6 oK oR oC oS oT rK_images iK_imageCount oA oH oL x_6383 iK_latestFault iK_latestPlace), (oc1 oC iC_nodes iC_words iC_chances iC_unsures iC_slips iC_throneNode iC_saidWorth iC_unit rC_kind rC_parts rC_partNodes rC_weights rC_weightSums rC_toldWorths rC_steps rC_below rC_above rC_unsureWords rC_unsureWorths)]) hB rfl ht hFc rfl
  clear hz1 hk1 hvm ht hB
  rw [← hru9] at e_x_6383_0
  rcases hw.2 with ⟨rfl, hc_6384⟩ | ⟨rfl, hc_6384⟩
  · skip
    have hG := hG.trans (un2_eq e_x_6383_0)
    have hG := hG.trans (if_pos rfl)
    refine lv_if_eq (tgt := 14) hx hb dX6_lacksDraws_9 (by decide) (fun _ => ?_) (fun c => absurd c (by decide))
    refine lv_aload_n hx hb dX6_lacksDraws_14 rfl (lv_at hl 0 rfl) ?_
    refine lv_iload_n hx hb dX6_lacksDraws_15 rfl (lv_at hl 2 rfl) ?_
    refine lv_iconst (v := 1) hx hb dX6_lacksDraws_16 (by decide) ?_
    refine lv_bipush (v := 60) hx hb dX6_lacksDraws_17 (by decide) ?_
    have hFc := va_freeI hD hS hA
    refine va_calli (va_runV (As := [.int p1, .int 1, .int 60]) (rest := []) ⟨hx, hb, hml, hown, hts⟩ (tX6_lacksNumber l dC dI _ oK oR oC oS oT rK_images iK_imageCount oA oH oL x_6383 iK_latestFault iK_latestPlace iC_nodes iC_words iC_chances iC_unsures iC_slips iC_throneNode iC_saidWorth iC_unit rC_kind rC_parts rC_partNodes rC_weights rC_weightSums rC_toldWorths rC_steps rC_below rC_above rC_unsureWords rC_unsureWorths p1 1 60 b_iK_imageCount b_iC_nodes b_iC_unsures b_iC_throneNode) (cwV 3 hts (wd_V wd_866 wd_867 wd_868 wd_2 (wd_c wd_869)) rfl rfl rfl dv_yX6_lacksNumber_3 ⟨Nat.le_of_ble_eq_true rfl, Nat.le_of_ble_eq_true rfl⟩) ⟨Pw.fb, recvX6 hK hP (q0 := 0) rfl, fun U hU hW => Pw.to hP hD hK hE hS hFc hU hW⟩ rfl rfl hl.1 rfl (lv_room (Nat.le_of_ble_eq_true rfl)) dX6_lacksDraws_19 ⟨Nat.le_of_ble_eq_true rfl, Nat.le_of_ble_eq_true rfl⟩) hS (fun q _ h => hFc q h) hFc (fun r u t H locs ht hvm hw hB hz1 hk1 hS => ?_)
    have hru9 := hw.2
    have hw := hw.1
    refine ex_1_1 hB (fun x_6387 e_x_6387_0 hB => ?_)
    obtain ⟨hP, hD⟩ := Bw.goA (ws' := [(oc6 oK oR oC oS oT rK_images iK_imageCount oA oH oL x_6387 iK_latestFault iK_latestPlace), (oc1 oC iC_nodes iC_words iC_chances iC_unsures iC_slips iC_throneNode iC_saidWorth iC_unit rC_kind rC_parts rC_partNodes rC_weights rC_weightSums rC_toldWorths rC_steps rC_below rC_above rC_unsureWords rC_unsureWorths)]) hB rfl ht hFc rfl
    clear hz1 hk1 hvm ht hB
    rw [← hru9] at e_x_6387_0
    rcases hw.2 with ⟨rfl, hc_6388⟩ | ⟨rfl, hc_6388⟩
    · skip
      have hG := hG.trans (un2_eq e_x_6387_0)
      have hG := hG.trans (if_pos rfl)
      exact wq_z (v := 0) hx hb hr rfl (cI 0) ⟨⟨Or.inl rfl, (Or.inl ⟨rfl, by first | omega | trivial⟩)⟩, (cI_of 0)⟩ (fun t ht hW => ⟨x_6387, (cI_tup hG), Bw.to hP hD hK ht hW⟩) hS dX6_lacksDraws_22 hlocks
    · skip
      have hG := hG.trans (un2_eq e_x_6387_0)
      have hG := hG.trans (if_neg (by decide))
      exact wq_z (v := 1) hx hb hr rfl (cI 1) ⟨⟨Or.inr rfl, (Or.inr (⟨rfl, trivial⟩))⟩, (cI_of 1)⟩ (fun t ht hW => ⟨x_6387, (cI_tup hG), Bw.to hP hD hK ht hW⟩) hS dX6_lacksDraws_22 hlocks
  · skip
    have hG := hG.trans (un2_eq e_x_6383_0)
    have hG := hG.trans (if_neg (by decide))
    refine lv_if_eq (tgt := 14) hx hb dX6_lacksDraws_9 (by decide) (fun c => absurd c (by decide)) (fun _ => ?_)
    refine lv_iconst (v := 1) hx hb dX6_lacksDraws_12 (by decide) ?_
    exact wq_z (v := 1) hx hb hr rfl (cI 1) ⟨⟨Or.inr rfl, (Or.inr (⟨rfl, trivial⟩))⟩, (cI_of 1)⟩ (fun t ht hW => ⟨x_6383, (cI_tup hG), Bw.to hP hD hK ht hW⟩) hS dX6_lacksDraws_13 hlocks
set_option maxHeartbeats 4000000 in
set_option maxRecDepth 100000 in
theorem tX6_drawOrders (l : Launch) (dC : Nat → ClassId) (dI : Nat → Nat → Nat) (sz : Nat) (oK : Nat) (oR : Nat) (oC : Nat) (oS : Nat) (oT : Nat) (rK_images : Nat) (iK_imageCount : Int32) (oA : Nat) (oH : Nat) (oL : Nat) (iK_refusal : Int32) (iK_latestFault : Int32) (iK_latestPlace : Int32) (iC_nodes : Int32) (iC_words : Int32) (iC_chances : Int32) (iC_unsures : Int32) (iC_slips : Int32) (iC_throneNode : Int32) (iC_saidWorth : Int32) (iC_unit : Int32) (rC_kind : Nat) (rC_parts : Nat) (fC_parts : Nat → Int32) (kC_parts : ClassId) (rC_partNodes : Nat) (rC_weights : Nat) (rC_weightSums : Nat) (rC_toldWorths : Nat) (rC_steps : Nat) (rC_below : Nat) (rC_above : Nat) (rC_unsureWords : Nat) (rC_unsureWorths : Nat) (rS_worths : Nat) (rS_order : Nat) (fS_order : Nat → Int32) (kS_order : ClassId) (rS_left : Nat) (rT_worths : Nat) (rT_order : Nat) (fT_order : Nat → Int32) (kT_order : ClassId) (rT_left : Nat) (p0 : Int32) (b_iK_imageCount : 0 ≤ iK_imageCount.toInt ∧ iK_imageCount.toInt ≤ 3) (b_iC_nodes : 0 ≤ iC_nodes.toInt ∧ iC_nodes.toInt ≤ 18) (b_iC_unsures : 0 ≤ iC_unsures.toInt ∧ iC_unsures.toInt ≤ 4) (b_iC_throneNode : (-1) ≤ iC_throneNode.toInt ∧ iC_throneNode.toInt ≤ 17) (a_fC_parts : ∀ j : Nat, j < 18 → 0 ≤ (fC_parts j).toInt ∧ (fC_parts j).toInt ≤ 4) (a_fS_order : ∀ j : Nat, j < 72 → 0 ≤ (fS_order j).toInt ∧ (fS_order j).toInt ≤ 3) (a_fT_order : ∀ j : Nat, j < 72 → 0 ≤ (fT_order j).toInt ∧ (fT_order j).toInt ≤ 3) (hp0 : 0 ≤ p0.toInt ∧ p0.toInt ≤ 65536) : Met l yX6_drawOrders (Cond.code yX6_drawOrders cX6_drawOrders 5 (some .int) :: wG) ({ frames := 1, cells := 0, slots := 0, locals := 27 }) (va_Pc [.ref oK, .int p0] (Pw dC dI sz [(oc6 oK oR oC oS oT rK_images iK_imageCount oA oH oL iK_refusal iK_latestFault iK_latestPlace), (oc1 oC iC_nodes iC_words iC_chances iC_unsures iC_slips iC_throneNode iC_saidWorth iC_unit rC_kind rC_parts rC_partNodes rC_weights rC_weightSums rC_toldWorths rC_steps rC_below rC_above rC_unsureWords rC_unsureWorths), (arI rC_parts kC_parts 18 fC_parts), (oc5 oS rS_worths rS_order rS_left), (arI rS_order kS_order 72 fS_order), (oc5 oT rT_worths rT_order rT_left), (arI rT_order kT_order 72 fT_order)] [(kC_parts, .int), (kS_order, .int), (kT_order, .int)])) (va_Qi (fun (r : Int32) (u : Nat) => (True ∧ (0 ≤ r.toInt ∧ r.toInt ≤ 65536)) ∧ r = Int32.ofNat u) (fun (u : Nat) (t : State) => ∃ (nfT_order : Nat → Int32), (∀ j : Nat, j < 72 → 0 ≤ (nfT_order j).toInt ∧ (nfT_order j).toInt ≤ 3) ∧ (PX6_drawOrders iC_nodes fC_parts fS_order fT_order p0 = (Int32.ofNat u, nfT_order)) ∧ Bw dC dI (va_A [(oc6 oK oR oC oS oT rK_images iK_imageCount oA oH oL iK_refusal iK_latestFault iK_latestPlace), (oc1 oC iC_nodes iC_words iC_chances iC_unsures iC_slips iC_throneNode iC_saidWorth iC_unit rC_kind rC_parts rC_partNodes rC_weights rC_weightSums rC_toldWorths rC_steps rC_below rC_above rC_unsureWords rC_unsureWorths), (arI rC_parts kC_parts 18 fC_parts), (oc5 oS rS_worths rS_order rS_left), (arI rS_order kS_order 72 fS_order), (oc5 oT rT_worths rT_order rT_left), (arI rT_order kT_order 72 fT_order)] sz) [(oc6 oK oR oC oS oT rK_images iK_imageCount oA oH oL iK_refusal iK_latestFault iK_latestPlace), (oc1 oC iC_nodes iC_words iC_chances iC_unsures iC_slips iC_throneNode iC_saidWorth iC_unit rC_kind rC_parts rC_partNodes rC_weights rC_weightSums rC_toldWorths rC_steps rC_below rC_above rC_unsureWords rC_unsureWorths), (arI rC_parts kC_parts 18 fC_parts), (oc5 oS rS_worths rS_order rS_left), (arI rS_order kS_order 72 fS_order), (oc5 oT rT_worths rT_order rT_left), (arI rT_order kT_order 72 nfT_order)] [(kC_parts, .int), (kS_order, .int), (kT_order, .int)] t) (va_A [(oc6 oK oR oC oS oT rK_images iK_imageCount oA oH oL iK_refusal iK_latestFault iK_latestPlace), (oc1 oC iC_nodes iC_words iC_chances iC_unsures iC_slips iC_throneNode iC_saidWorth iC_unit rC_kind rC_parts rC_partNodes rC_weights rC_weightSums rC_toldWorths rC_steps rC_below rC_above rC_unsureWords rC_unsureWorths), (arI rC_parts kC_parts 18 fC_parts), (oc5 oS rS_worths rS_order rS_left), (arI rS_order kS_order 72 fS_order), (oc5 oT rT_worths rT_order rT_left), (arI rT_order kT_order 72 fT_order)] sz)) 0 0 (va_A [(oc6 oK oR oC oS oT rK_images iK_imageCount oA oH oL iK_refusal iK_latestFault iK_latestPlace), (oc1 oC iC_nodes iC_words iC_chances iC_unsures iC_slips iC_throneNode iC_saidWorth iC_unit rC_kind rC_parts rC_partNodes rC_weights rC_weightSums rC_toldWorths rC_steps rC_below rC_above rC_unsureWords rC_unsureWorths), (arI rC_parts kC_parts 18 fC_parts), (oc5 oS rS_worths rS_order rS_left), (arI rS_order kS_order 72 fS_order), (oc5 oT rT_worths rT_order rT_left), (arI rT_order kT_order 72 fT_order)] sz) := by
  refine Met.ofW (cc := cX6_drawOrders) (maxL := 5) (ret := (some .int)) pnX6 rfl ?_
  intro p e s m args below meth c s₁ B hml hv
  obtain ⟨rfl, hsz, hP, hK, hD0, hE⟩ := hv
  have hx := B.exec
  have hb := B.bytes
  have hr := B.returns
  have hts : ∀ w ∈ wG, w.before ([.ref oK, .int p0] : List Value).toArray s = true := fun w h => atoms_spec (ws := Cond.code yX6_drawOrders cX6_drawOrders 5 (some .int) :: wG) B.pre w (List.mem_cons_of_mem _ h)
  have hown : s.vm.findClass RX6 = some m.cls := own_of B.named rfl
  have hlocks := B.notSynchronized
  subst hsz
  have hD := hD0.self (sz := s.heap.size)
  generalize hAe : va_A [(oc6 oK oR oC oS oT rK_images iK_imageCount oA oH oL iK_refusal iK_latestFault iK_latestPlace), (oc1 oC iC_nodes iC_words iC_chances iC_unsures iC_slips iC_throneNode iC_saidWorth iC_unit rC_kind rC_parts rC_partNodes rC_weights rC_weightSums rC_toldWorths rC_steps rC_below rC_above rC_unsureWords rC_unsureWorths), (arI rC_parts kC_parts 18 fC_parts), (oc5 oS rS_worths rS_order rS_left), (arI rS_order kS_order 72 fS_order), (oc5 oT rT_worths rT_order rT_left), (arI rT_order kT_order 72 fT_order)] s.heap.size = A at hD hE ⊢
  have hA : ∀ q : Nat, s.heap.size ≤ q → A q := fun q h => by rw [← hAe]; exact Or.inr h
  have hS : va_S A s.heap s.heap [] := va_S.rf
  have hl := lv_entry ([.ref oK, .int p0]) (n := 5) (Nat.le_of_ble_eq_true rfl)
  rw [lg_entry_eq]
  generalize (lg_sl ([.ref oK, .int p0]) ++ List.replicate (5 - (lg_sl ([.ref oK, .int p0])).length) Slot.unset).toArray = ls at hl ⊢
  have hl : lv_has ls 5 [(0, .ref oK), (1, .int p0)] := hl
  have hG := PX6_drawOrders_eq iC_nodes fC_parts fS_order fT_order p0
  have rg_p0 := fb_rng p0
  refine lv_iload_n hx hb dX6_drawOrders_0 rfl (lv_at hl 1 rfl) ?_
  refine lv_istore_n (lv' := [(2, .int p0), (0, .ref oK), (1, .int p0)]) hx hb dX6_drawOrders_1 rfl hl (by decide) rfl (fun ls hl => ?_)
  refine lv_iconst (v := 0) hx hb dX6_drawOrders_2 (by decide) ?_
  refine lv_istore_n (lv' := [(3, .int 0), (2, .int p0), (0, .ref oK), (1, .int p0)]) hx hb dX6_drawOrders_3 rfl hl (by decide) rfl (fun ls hl => ?_)
  have hl := lv_sub hl (l' := [(3, .int 0), (2, .int p0), (0, .ref oK), (1, .int p0)]) [0, 1, 2, 3] rfl
  have key_n_6421 : ∀ (n_6421 : Nat) (z_6418 : Int32) (z_6419 : Int32) (f_6420 : Nat → Int32) (H : Heap) (locs : List Loc) (ls : Array Slot), (∀ j : Nat, j < 72 → 0 ≤ (f_6420 j).toInt ∧ (f_6420 j).toInt ≤ 3) → (0 ≤ z_6418.toInt ∧ z_6418.toInt ≤ 2147483647) → (0 ≤ z_6419.toInt ∧ z_6419.toInt ≤ 65536) → (2147483647 - z_6418.toInt).toNat < n_6421 → (PX6_drawOrders iC_nodes fC_parts fS_order fT_order p0 = HX6_drawOrders_0 iC_nodes fC_parts fS_order n_6421 z_6418 z_6419 f_6420) → va_P (dC, dI) vwCl [(oc6 oK oR oC oS oT rK_images iK_imageCount oA oH oL iK_refusal iK_latestFault iK_latestPlace), (oc1 oC iC_nodes iC_words iC_chances iC_unsures iC_slips iC_throneNode iC_saidWorth iC_unit rC_kind rC_parts rC_partNodes rC_weights rC_weightSums rC_toldWorths rC_steps rC_below rC_above rC_unsureWords rC_unsureWorths), (arI rC_parts kC_parts 18 fC_parts), (oc5 oS rS_worths rS_order rS_left), (arI rS_order kS_order 72 fS_order), (oc5 oT rT_worths rT_order rT_left), (arI rT_order kT_order 72 f_6420)] H → va_D A [(oc6 oK oR oC oS oT rK_images iK_imageCount oA oH oL iK_refusal iK_latestFault iK_latestPlace), (oc1 oC iC_nodes iC_words iC_chances iC_unsures iC_slips iC_throneNode iC_saidWorth iC_unit rC_kind rC_parts rC_partNodes rC_weights rC_weightSums rC_toldWorths rC_steps rC_below rC_above rC_unsureWords rC_unsureWorths), (arI rC_parts kC_parts 18 fC_parts), (oc5 oS rS_worths rS_order rS_left), (arI rS_order kS_order 72 fS_order), (oc5 oT rT_worths rT_order rT_left), (arI rT_order kT_order 72 f_6420)] → va_S A s.heap H locs → lv_has ls 5 [(3, .int z_6418), (2, .int z_6419), (0, .ref oK), (1, .int p0)] → W p l e (headSpec (Cond.code yX6_drawOrders cX6_drawOrders 5 (some .int) :: wG) ({ frames := 1, cells := 0, slots := 0, locals := 27 })).room s m ([.ref oK, .int p0] : List Value).toArray below meth c H locs 0 0 (MQ below (va_Qi (fun (r : Int32) (u : Nat) => (True ∧ (0 ≤ r.toInt ∧ r.toInt ≤ 65536)) ∧ r = Int32.ofNat u) (fun (u : Nat) (t : State) => ∃ (nfT_order : Nat → Int32), (∀ j : Nat, j < 72 → 0 ≤ (nfT_order j).toInt ∧ (nfT_order j).toInt ≤ 3) ∧ (PX6_drawOrders iC_nodes fC_parts fS_order fT_order p0 = (Int32.ofNat u, nfT_order)) ∧ Bw dC dI A [(oc6 oK oR oC oS oT rK_images iK_imageCount oA oH oL iK_refusal iK_latestFault iK_latestPlace), (oc1 oC iC_nodes iC_words iC_chances iC_unsures iC_slips iC_throneNode iC_saidWorth iC_unit rC_kind rC_parts rC_partNodes rC_weights rC_weightSums rC_toldWorths rC_steps rC_below rC_above rC_unsureWords rC_unsureWorths), (arI rC_parts kC_parts 18 fC_parts), (oc5 oS rS_worths rS_order rS_left), (arI rS_order kS_order 72 fS_order), (oc5 oT rT_worths rT_order rT_left), (arI rT_order kT_order 72 nfT_order)] [(kC_parts, .int), (kS_order, .int), (kT_order, .int)] t) A) ([.ref oK, .int p0] : List Value).toArray s 0 0 A) (F0 m 4 ls []) := by
    intro n_6421
    induction n_6421 with
    | zero => intro z_6418 z_6419 f_6420 H locs ls a_f_6420 hi0_n_6421 hi1_n_6421 hm; exact absurd hm (Nat.not_lt_zero _)
    | succ n_6421 ih_n_6421 =>
      intro z_6418 z_6419 f_6420 H locs ls a_f_6420 hi0_n_6421 hi1_n_6421 hm_n_6421 hG hP hD hS hl
      have hG := hG.trans (HX6_drawOrders_0_eq _ _ _ _ _ _ _)
      have rg_z_6418 := fb_rng z_6418
      have rg_z_6419 := fb_rng z_6419
      refine lv_iload_n hx hb dX6_drawOrders_4 rfl (lv_at hl 0 rfl) ?_
      refine lv_aload_n hx hb dX6_drawOrders_5 rfl (lv_at hl 2 rfl) ?_
      refine va_get (D := (dC, dI)) (ci := 6) (v := .ref oC) (C := RX6) (T := TX6) (N := 12) hx hb hts inX6 hown hK hP 0 rfl rfl 1 (by decide) (hts _ wd_20) (fun _ h9 => h9) rfl dX6_drawOrders_6 ?_
      refine va_get (D := (dC, dI)) (ci := 1) (v := .int iC_nodes) (C := RX1) (T := TX1) (N := 19) hx hb hts inX1 hown hK hP 1 rfl rfl 0 (by decide) (hts _ wd_196) (fun _ h9 => h9) rfl dX6_drawOrders_9 ?_
      have rg_iC_nodes := fb_rng iC_nodes
      refine lv_icmp_ge (tgt := 67) hx hb dX6_drawOrders_12 (by decide) (fun c_6422 => ?_) (fun c_6422 => ?_)
      · skip
        have hG := hG.trans (if_pos c_6422)
        have gc_6422 := ti_le c_6422 rfl rfl
        refine lv_iload_n hx hb dX6_drawOrders_67 rfl (lv_at hl 1 rfl) ?_
        exact wq_i hx hb hr (cI z_6419) ⟨⟨trivial, ⟨hi1_n_6421.1, hi1_n_6421.2⟩⟩, (cI_of z_6419)⟩ (fun t ht hW => ⟨f_6420, a_f_6420, (cI_tup hG), Bw.to hP hD hK ht hW⟩) hS dX6_drawOrders_68 hlocks
      · skip
        have hG := hG.trans (if_neg c_6422)
        have gc_6422 := ti_nle c_6422 rfl rfl
        refine lv_aload_n hx hb dX6_drawOrders_15 rfl (lv_at hl 2 rfl) ?_
        refine va_get (D := (dC, dI)) (ci := 6) (v := .ref oC) (C := RX6) (T := TX6) (N := 12) hx hb hts inX6 hown hK hP 0 rfl rfl 1 (by decide) (hts _ wd_20) (fun _ h9 => h9) rfl dX6_drawOrders_16 ?_
        refine va_get (D := (dC, dI)) (ci := 1) (v := .ref rC_parts) (C := RX1) (T := TX1) (N := 19) hx hb hts inX1 hown hK hP 1 rfl rfl 9 (by decide) (hts _ wd_531) (fun _ h9 => h9) rfl dX6_drawOrders_19 ?_
        refine lv_iload_n hx hb dX6_drawOrders_22 rfl (lv_at hl 0 rfl) ?_
        refine va_iald hx hb hK hP 2 0 rfl rfl (ti_in rfl hi0_n_6421.1 (om_97cd4a7c b_iC_nodes.2 gc_6422)) dX6_drawOrders_23 ?_
        refine lv_topi (fun x_6423 ex_6423 => ?_)
        have hG := hG.trans (lt_eq ex_6423)
        have rg_x_6423 := fb_rng x_6423
        have kx_6423 : (fC_parts z_6418.toNatClampNeg).toInt = x_6423.toInt := by rw [ex_6423]
        have ux_6423 := a_fC_parts z_6418.toNatClampNeg (cl_lt rfl hi0_n_6421.1 (om_97cd4a7c b_iC_nodes.2 gc_6422))
        rw [show fC_parts z_6418.toNatClampNeg = x_6423 from ex_6423.symm] at ux_6423
        refine lv_istore (lv' := [(4, .int x_6423), (3, .int z_6418), (2, .int z_6419), (0, .ref oK), (1, .int p0)]) hx hb dX6_drawOrders_24 hl (by decide) rfl (fun ls hl => ?_)
        refine lv_iload hx hb dX6_drawOrders_26 (lv_at hl 0 rfl) ?_
        refine lv_if_le (tgt := 61) hx hb dX6_drawOrders_28 (by decide) (fun c_6424 => ?_) (fun c_6424 => ?_)
        · skip
          have hG := hG.trans (if_pos c_6424)
          have gc_6424 := ti_le c_6424 rfl kc_0
          obtain ⟨x_6425, ex_6425⟩ : ∃ z : Int32, z = z_6418 + Int32.ofInt 1 := ⟨_, rfl⟩
          have hG := hG.trans (lt_eq ex_6425)
          have vx_6425 : x_6425.toInt = z_6418.toInt + 1 := ti_add (y := 1) ex_6425 rfl kc_1 (om_4e4fce7e hi0_n_6421.1) (om_a32d6481 b_iC_nodes.2 gc_6422)
          refine lv_iinc (v := x_6425) (lv' := [(3, .int x_6425), (4, .int x_6423), (2, .int z_6419), (0, .ref oK), (1, .int p0)]) hx hb dX6_drawOrders_61 hl (k := 1) rfl ex_6425.symm (by decide) rfl (fun ls hl => ?_)
          refine lv_goto (tgt := 4) hx hb dX6_drawOrders_64 (by decide) ?_
          exact ih_n_6421 x_6425 z_6419 f_6420 _ _ _ a_f_6420 ⟨(om_83b90de5 hi0_n_6421.1 vx_6425), (om_ed8867da b_iC_nodes.2 gc_6422 vx_6425)⟩ ⟨hi1_n_6421.1, hi1_n_6421.2⟩ (ms_lt hm_n_6421 (om_b9393183 vx_6425) (om_1d9fa7fb b_iC_nodes.2 gc_6422)) hG hP hD hS (lv_sub hl [0, 2, 3, 4] rfl)
        · skip
          have hG := hG.trans (if_neg c_6424)
          have gc_6424 := ti_nle c_6424 rfl kc_0
          refine lv_bipush (v := 75) hx hb dX6_drawOrders_31 (by decide) ?_
          refine lv_iload_n hx hb dX6_drawOrders_33 rfl (lv_at hl 2 rfl) ?_
          refine lv_imul hx hb dX6_drawOrders_34 ?_
          refine lv_topi (fun x_6426 ex_6426 => ?_)
          have hG := hG.trans (lt_eq ex_6426)
          have vx_6426 : x_6426.toInt = 75 * z_6419.toInt := ti_mul ex_6426 kc_75 rfl (om_04c49496 hi1_n_6421.1) (om_ce900001 hi1_n_6421.2)
          refine lv_bipush (v := 74) hx hb dX6_drawOrders_35 (by decide) ?_
          refine lv_iadd hx hb dX6_drawOrders_37 ?_
          refine lv_topi (fun x_6427 ex_6427 => ?_)
          have hG := hG.trans (lt_eq ex_6427)
          have vx_6427 : x_6427.toInt = 75 * z_6419.toInt + 74 := om_f6704f69 (ti_add ex_6427 vx_6426 kc_74 (om_57c1b9c1 hi1_n_6421.1) (om_bd291552 hi1_n_6421.2))
          refine lv_ldcw hx hb hown (hts _ wd_1337) dX6_drawOrders_38 ?_
          refine lv_irem hx hb dX6_drawOrders_41 (by decide) ?_
          refine lv_topi (fun x_6428 ex_6428 => ?_)
          have hG := hG.trans (lt_eq ex_6428)
          have rg_x_6428 := fb_rng x_6428
          have qx_6428 := ti_rem ex_6428 vx_6427 kc_65537 (om_a8960480 hi1_n_6421.1) (by decide)
          refine lv_istore_n (lv' := [(2, .int x_6428), (4, .int x_6423), (3, .int z_6418), (0, .ref oK), (1, .int p0)]) hx hb dX6_drawOrders_42 rfl hl (by decide) rfl (fun ls hl => ?_)
          refine lv_aload_n hx hb dX6_drawOrders_43 rfl (lv_at hl 3 rfl) ?_
          refine va_get (D := (dC, dI)) (ci := 6) (v := .ref oT) (C := RX6) (T := TX6) (N := 12) hx hb hts inX6 hown hK hP 0 rfl rfl 3 (by decide) (hts _ wd_25) (fun _ h9 => h9) rfl dX6_drawOrders_44 ?_
          refine lv_aload_n hx hb dX6_drawOrders_47 rfl (lv_at hl 3 rfl) ?_
          refine va_get (D := (dC, dI)) (ci := 6) (v := .ref oS) (C := RX6) (T := TX6) (N := 12) hx hb hts inX6 hown hK hP 0 rfl rfl 2 (by decide) (hts _ wd_24) (fun _ h9 => h9) rfl dX6_drawOrders_48 ?_
          refine lv_iload_n hx hb dX6_drawOrders_51 rfl (lv_at hl 2 rfl) ?_
          refine lv_iload hx hb dX6_drawOrders_52 (lv_at hl 1 rfl) ?_
          refine lv_iload_n hx hb dX6_drawOrders_54 rfl (lv_at hl 0 rfl) ?_
          refine lv_iload hx hb dX6_drawOrders_55 (lv_at hl 1 rfl) ?_
          refine lv_irem hx hb dX6_drawOrders_57 (ti_n0 rfl (by omega)) ?_
          refine lv_topi (fun x_6429 ex_6429 => ?_)
          have hG := hG.trans (lt_eq ex_6429)
          have rg_x_6429 := fb_rng x_6429
          have qx_6429 := ti_rem ex_6429 rfl rfl qx_6428.1 gc_6424
          have hFc := va_free (wc := [(oc5 oT rT_worths rT_order rT_left), (arI rT_order kT_order 72 f_6420), (oc5 oS rS_worths rS_order rS_left), (arI rS_order kS_order 72 fS_order)]) hD hS hA [5, 6, 3, 4] rfl
          refine va_callv (va_runV (As := [.ref oS, .int z_6418, .int x_6423, .int x_6429]) (rest := []) ⟨hx, hb, hml, hown, hts⟩ (tX5_turnRound l dC dI _ oT rT_worths rT_order f_6420 kT_order rT_left oS rS_worths rS_order fS_order kS_order rS_left z_6418 x_6423 x_6429 a_f_6420 a_fS_order ⟨hi0_n_6421.1, (om_525c5d3e b_iC_nodes.2 gc_6422)⟩ ⟨ux_6423.1, ux_6423.2⟩ ⟨qx_6429.1, qx_6429.2.1⟩) (cwV 4 hts (wd_V wd_1338 wd_1339 wd_1340 wd_23 (wd_c wd_1341)) rfl rfl rfl dv_yX5_turnRound_4 ⟨Nat.le_of_ble_eq_true rfl, Nat.le_of_ble_eq_true rfl⟩) ⟨Pw.fb, recvX5 hK hP (q0 := 5) rfl, fun U hU hW => Pw.to (hP.sub [5, 6, 3, 4] rfl) (hD.sub [5, 6, 3, 4] (by decide) rfl) (hK.sub [2, 1] rfl) hE hS hFc hU hW⟩ rfl rfl hl.1 rfl (lv_room (Nat.le_of_ble_eq_true rfl)) dX6_drawOrders_58 ⟨Nat.le_of_ble_eq_true rfl, Nat.le_of_ble_eq_true rfl⟩) hS (fun q _ h => hFc q h) hFc (fun u t H locs ht hvm hw hB hz1 hk1 hS => ?_)
          refine ex_1_2 hB (fun f_6430 a_f_6430 e_f_6430_0 hB => ?_)
          obtain ⟨hP, hD, hK⟩ := Bw.go (ws' := [(oc6 oK oR oC oS oT rK_images iK_imageCount oA oH oL iK_refusal iK_latestFault iK_latestPlace), (oc1 oC iC_nodes iC_words iC_chances iC_unsures iC_slips iC_throneNode iC_saidWorth iC_unit rC_kind rC_parts rC_partNodes rC_weights rC_weightSums rC_toldWorths rC_steps rC_below rC_above rC_unsureWords rC_unsureWorths), (arI rC_parts kC_parts 18 fC_parts), (oc5 oT rT_worths rT_order rT_left), (arI rT_order kT_order 72 f_6430), (oc5 oS rS_worths rS_order rS_left), (arI rS_order kS_order 72 fS_order)]) (tys' := [(kC_parts, .int), (kT_order, .int), (kS_order, .int)]) hB rfl ht hvm hP hD hK [5, 6, 3, 4] [0, 1, 2] rfl (by decide) (by decide) [0] hk1 hFc rfl rfl rfl
          clear hz1 hk1 hvm ht hB
          have hG := hG.trans (lt_eq e_f_6430_0.symm)
          obtain ⟨x_6431, ex_6431⟩ : ∃ z : Int32, z = z_6418 + Int32.ofInt 1 := ⟨_, rfl⟩
          have hG := hG.trans (lt_eq ex_6431)
          have vx_6431 : x_6431.toInt = z_6418.toInt + 1 := ti_add (y := 1) ex_6431 rfl kc_1 (om_4e4fce7e hi0_n_6421.1) (om_a32d6481 b_iC_nodes.2 gc_6422)
          refine lv_iinc (v := x_6431) (lv' := [(3, .int x_6431), (2, .int x_6428), (4, .int x_6423), (0, .ref oK), (1, .int p0)]) hx hb dX6_drawOrders_61 hl (k := 2) rfl ex_6431.symm (by decide) rfl (fun ls hl => ?_)
          refine lv_goto (tgt := 4) hx hb dX6_drawOrders_64 (by decide) ?_
          exact ih_n_6421 x_6431 x_6428 f_6430 _ _ _ a_f_6430 ⟨(om_83b90de5 hi0_n_6421.1 vx_6431), (om_ed8867da b_iC_nodes.2 gc_6422 vx_6431)⟩ ⟨qx_6428.1, (om_767858ca qx_6428.2.1)⟩ (ms_lt hm_n_6421 (om_b9393183 vx_6431) (om_1d9fa7fb b_iC_nodes.2 gc_6422)) hG (hP.sub [0, 1, 2, 5, 6, 3, 4] rfl) (hD.sub [0, 1, 2, 5, 6, 3, 4] (by decide) rfl) hS (lv_sub hl [0, 1, 3, 4] rfl)
  exact key_n_6421 (((2147483647 - (0 : Int32).toInt).toNat) + 1) 0 p0 fT_order _ _ _ a_fT_order ⟨(om_b1de7dbe kc_0), (om_daf17c64 kc_0)⟩ ⟨hp0.1, hp0.2⟩ (Nat.lt_add_one _) hG hP hD hS hl
set_option maxHeartbeats 4000000 in
set_option maxRecDepth 100000 in
theorem tX6_drawn (l : Launch) (dC : Nat → ClassId) (dI : Nat → Nat → Nat) (sz : Nat) (oK : Nat) (oR : Nat) (oC : Nat) (oS : Nat) (oT : Nat) (rK_images : Nat) (iK_imageCount : Int32) (oA : Nat) (oH : Nat) (oL : Nat) (iK_refusal : Int32) (iK_latestFault : Int32) (iK_latestPlace : Int32) (iC_nodes : Int32) (iC_words : Int32) (iC_chances : Int32) (iC_unsures : Int32) (iC_slips : Int32) (iC_throneNode : Int32) (iC_saidWorth : Int32) (iC_unit : Int32) (rC_kind : Nat) (fC_kind : Nat → Int32) (kC_kind : ClassId) (rC_parts : Nat) (fC_parts : Nat → Int32) (kC_parts : ClassId) (rC_partNodes : Nat) (fC_partNodes : Nat → Int32) (kC_partNodes : ClassId) (rC_weights : Nat) (fC_weights : Nat → Int32) (kC_weights : ClassId) (rC_weightSums : Nat) (fC_weightSums : Nat → Int32) (kC_weightSums : ClassId) (rC_toldWorths : Nat) (rC_steps : Nat) (rC_below : Nat) (rC_above : Nat) (rC_unsureWords : Nat) (rC_unsureWorths : Nat) (rS_worths : Nat) (fS_worths : Nat → Int32) (kS_worths : ClassId) (rS_order : Nat) (fS_order : Nat → Int32) (kS_order : ClassId) (rS_left : Nat) (rT_worths : Nat) (fT_worths : Nat → Int32) (kT_worths : ClassId) (rT_order : Nat) (fT_order : Nat → Int32) (kT_order : ClassId) (rT_left : Nat) (iH_breaths : Int32) (iH_heardBits : Int32) (iH_cutCount : Int32) (iH_halfBreaths : Int32) (iH_halfQuestions : Int32) (rH_heardWords : Nat) (fH_heardWords : Nat → Int32) (kH_heardWords : ClassId) (rH_cutParts : Nat) (fH_cutParts : Nat → Int32) (kH_cutParts : ClassId) (p0 : Int32) (p1 : Int32) (b_iK_imageCount : 0 ≤ iK_imageCount.toInt ∧ iK_imageCount.toInt ≤ 3) (b_iC_nodes : 0 ≤ iC_nodes.toInt ∧ iC_nodes.toInt ≤ 18) (b_iC_unsures : 0 ≤ iC_unsures.toInt ∧ iC_unsures.toInt ≤ 4) (b_iC_throneNode : (-1) ≤ iC_throneNode.toInt ∧ iC_throneNode.toInt ≤ 17) (a_fC_parts : ∀ j : Nat, j < 18 → 0 ≤ (fC_parts j).toInt ∧ (fC_parts j).toInt ≤ 4) (a_fC_partNodes : ∀ j : Nat, j < 72 → 0 ≤ (fC_partNodes j).toInt ∧ (fC_partNodes j).toInt ≤ 17) (a_fS_order : ∀ j : Nat, j < 72 → 0 ≤ (fS_order j).toInt ∧ (fS_order j).toInt ≤ 3) (a_fT_order : ∀ j : Nat, j < 72 → 0 ≤ (fT_order j).toInt ∧ (fT_order j).toInt ≤ 3) (b_iH_breaths : 0 ≤ iH_breaths.toInt ∧ iH_breaths.toInt ≤ 1000000000) (b_iH_cutCount : 0 ≤ iH_cutCount.toInt ∧ iH_cutCount.toInt ≤ 1000000000)  : Met l yX6_drawn (Cond.code yX6_drawn cX6_drawn 5 (some .int) :: wG) ({ frames := 34, cells := 0, slots := 0, locals := 998 }) (va_Pc [.ref oK, .int p0, .int p1] (Pw dC dI sz [(oc6 oK oR oC oS oT rK_images iK_imageCount oA oH oL iK_refusal iK_latestFault iK_latestPlace), (oc1 oC iC_nodes iC_words iC_chances iC_unsures iC_slips iC_throneNode iC_saidWorth iC_unit rC_kind rC_parts rC_partNodes rC_weights rC_weightSums rC_toldWorths rC_steps rC_below rC_above rC_unsureWords rC_unsureWorths), (arI rC_kind kC_kind 18 fC_kind), (arI rC_parts kC_parts 18 fC_parts), (arI rC_partNodes kC_partNodes 72 fC_partNodes), (arI rC_weights kC_weights 72 fC_weights), (arI rC_weightSums kC_weightSums 18 fC_weightSums), (oc5 oS rS_worths rS_order rS_left), (arI rS_worths kS_worths 18 fS_worths), (arI rS_order kS_order 72 fS_order), (oc5 oT rT_worths rT_order rT_left), (arI rT_worths kT_worths 18 fT_worths), (arI rT_order kT_order 72 fT_order), (oc2 oH iH_breaths iH_heardBits iH_cutCount iH_halfBreaths iH_halfQuestions rH_heardWords rH_cutParts), (arI rH_heardWords kH_heardWords 512 fH_heardWords), (arI rH_cutParts kH_cutParts 512 fH_cutParts)] [(kC_kind, .int), (kC_parts, .int), (kC_partNodes, .int), (kC_weights, .int), (kC_weightSums, .int), (kS_worths, .int), (kS_order, .int), (kT_worths, .int), (kT_order, .int), (kH_heardWords, .int), (kH_cutParts, .int)])) (va_Qi (fun (r : Int32) (u : Nat) => (True ∧ True) ∧ r = Int32.ofNat u) (fun (u : Nat) (t : State) => ∃ (niK_refusal : Int32) (nfT_worths : Nat → Int32) (nfT_order : Nat → Int32) (niH_breaths : Int32) (niH_heardBits : Int32) (niH_cutCount : Int32) (nfH_heardWords : Nat → Int32) (nfH_cutParts : Nat → Int32), (∀ j : Nat, j < 72 → 0 ≤ (nfT_order j).toInt ∧ (nfT_order j).toInt ≤ 3) ∧ (0 ≤ niH_breaths.toInt ∧ niH_breaths.toInt ≤ 1000000000) ∧ (0 ≤ niH_cutCount.toInt ∧ niH_cutCount.toInt ≤ 1000000000) ∧ (PX6_drawn iC_nodes iC_throneNode iC_unit fC_kind fC_parts fC_partNodes fC_weights fC_weightSums fS_worths fS_order fT_worths fT_order iH_breaths iH_heardBits iH_cutCount fH_heardWords fH_cutParts p0 p1 = (Int32.ofNat u, niK_refusal, nfT_worths, nfT_order, niH_breaths, niH_heardBits, niH_cutCount, nfH_heardWords, nfH_cutParts)) ∧ Bw dC dI (va_A [(oc6 oK oR oC oS oT rK_images iK_imageCount oA oH oL iK_refusal iK_latestFault iK_latestPlace), (oc1 oC iC_nodes iC_words iC_chances iC_unsures iC_slips iC_throneNode iC_saidWorth iC_unit rC_kind rC_parts rC_partNodes rC_weights rC_weightSums rC_toldWorths rC_steps rC_below rC_above rC_unsureWords rC_unsureWorths), (arI rC_kind kC_kind 18 fC_kind), (arI rC_parts kC_parts 18 fC_parts), (arI rC_partNodes kC_partNodes 72 fC_partNodes), (arI rC_weights kC_weights 72 fC_weights), (arI rC_weightSums kC_weightSums 18 fC_weightSums), (oc5 oS rS_worths rS_order rS_left), (arI rS_worths kS_worths 18 fS_worths), (arI rS_order kS_order 72 fS_order), (oc5 oT rT_worths rT_order rT_left), (arI rT_worths kT_worths 18 fT_worths), (arI rT_order kT_order 72 fT_order), (oc2 oH iH_breaths iH_heardBits iH_cutCount iH_halfBreaths iH_halfQuestions rH_heardWords rH_cutParts), (arI rH_heardWords kH_heardWords 512 fH_heardWords), (arI rH_cutParts kH_cutParts 512 fH_cutParts)] sz) [(oc6 oK oR oC oS oT rK_images iK_imageCount oA oH oL niK_refusal iK_latestFault iK_latestPlace), (oc1 oC iC_nodes iC_words iC_chances iC_unsures iC_slips iC_throneNode iC_saidWorth iC_unit rC_kind rC_parts rC_partNodes rC_weights rC_weightSums rC_toldWorths rC_steps rC_below rC_above rC_unsureWords rC_unsureWorths), (arI rC_kind kC_kind 18 fC_kind), (arI rC_parts kC_parts 18 fC_parts), (arI rC_partNodes kC_partNodes 72 fC_partNodes), (arI rC_weights kC_weights 72 fC_weights), (arI rC_weightSums kC_weightSums 18 fC_weightSums), (oc5 oS rS_worths rS_order rS_left), (arI rS_worths kS_worths 18 fS_worths), (arI rS_order kS_order 72 fS_order), (oc5 oT rT_worths rT_order rT_left), (arI rT_worths kT_worths 18 nfT_worths), (arI rT_order kT_order 72 nfT_order), (oc2 oH niH_breaths niH_heardBits niH_cutCount iH_halfBreaths iH_halfQuestions rH_heardWords rH_cutParts), (arI rH_heardWords kH_heardWords 512 nfH_heardWords), (arI rH_cutParts kH_cutParts 512 nfH_cutParts)] [(kC_kind, .int), (kC_parts, .int), (kC_partNodes, .int), (kC_weights, .int), (kC_weightSums, .int), (kS_worths, .int), (kS_order, .int), (kT_worths, .int), (kT_order, .int), (kH_heardWords, .int), (kH_cutParts, .int)] t) (va_A [(oc6 oK oR oC oS oT rK_images iK_imageCount oA oH oL iK_refusal iK_latestFault iK_latestPlace), (oc1 oC iC_nodes iC_words iC_chances iC_unsures iC_slips iC_throneNode iC_saidWorth iC_unit rC_kind rC_parts rC_partNodes rC_weights rC_weightSums rC_toldWorths rC_steps rC_below rC_above rC_unsureWords rC_unsureWorths), (arI rC_kind kC_kind 18 fC_kind), (arI rC_parts kC_parts 18 fC_parts), (arI rC_partNodes kC_partNodes 72 fC_partNodes), (arI rC_weights kC_weights 72 fC_weights), (arI rC_weightSums kC_weightSums 18 fC_weightSums), (oc5 oS rS_worths rS_order rS_left), (arI rS_worths kS_worths 18 fS_worths), (arI rS_order kS_order 72 fS_order), (oc5 oT rT_worths rT_order rT_left), (arI rT_worths kT_worths 18 fT_worths), (arI rT_order kT_order 72 fT_order), (oc2 oH iH_breaths iH_heardBits iH_cutCount iH_halfBreaths iH_halfQuestions rH_heardWords rH_cutParts), (arI rH_heardWords kH_heardWords 512 fH_heardWords), (arI rH_cutParts kH_cutParts 512 fH_cutParts)] sz)) 0 0 (va_A [(oc6 oK oR oC oS oT rK_images iK_imageCount oA oH oL iK_refusal iK_latestFault iK_latestPlace), (oc1 oC iC_nodes iC_words iC_chances iC_unsures iC_slips iC_throneNode iC_saidWorth iC_unit rC_kind rC_parts rC_partNodes rC_weights rC_weightSums rC_toldWorths rC_steps rC_below rC_above rC_unsureWords rC_unsureWorths), (arI rC_kind kC_kind 18 fC_kind), (arI rC_parts kC_parts 18 fC_parts), (arI rC_partNodes kC_partNodes 72 fC_partNodes), (arI rC_weights kC_weights 72 fC_weights), (arI rC_weightSums kC_weightSums 18 fC_weightSums), (oc5 oS rS_worths rS_order rS_left), (arI rS_worths kS_worths 18 fS_worths), (arI rS_order kS_order 72 fS_order), (oc5 oT rT_worths rT_order rT_left), (arI rT_worths kT_worths 18 fT_worths), (arI rT_order kT_order 72 fT_order), (oc2 oH iH_breaths iH_heardBits iH_cutCount iH_halfBreaths iH_halfQuestions rH_heardWords rH_cutParts), (arI rH_heardWords kH_heardWords 512 fH_heardWords), (arI rH_cutParts kH_cutParts 512 fH_cutParts)] sz) := by
  refine Met.ofW (cc := cX6_drawn) (maxL := 5) (ret := (some .int)) pnX6 rfl ?_
  intro p e s m args below meth c s₁ B hml hv
  obtain ⟨rfl, hsz, hP, hK, hD0, hE⟩ := hv
  have hx := B.exec
  have hb := B.bytes
  have hr := B.returns
  have hts : ∀ w ∈ wG, w.before ([.ref oK, .int p0, .int p1] : List Value).toArray s = true := fun w h => atoms_spec (ws := Cond.code yX6_drawn cX6_drawn 5 (some .int) :: wG) B.pre w (List.mem_cons_of_mem _ h)
  have hown : s.vm.findClass RX6 = some m.cls := own_of B.named rfl
  have hlocks := B.notSynchronized
  subst hsz
  have hD := hD0.self (sz := s.heap.size)
  generalize hAe : va_A [(oc6 oK oR oC oS oT rK_images iK_imageCount oA oH oL iK_refusal iK_latestFault iK_latestPlace), (oc1 oC iC_nodes iC_words iC_chances iC_unsures iC_slips iC_throneNode iC_saidWorth iC_unit rC_kind rC_parts rC_partNodes rC_weights rC_weightSums rC_toldWorths rC_steps rC_below rC_above rC_unsureWords rC_unsureWorths), (arI rC_kind kC_kind 18 fC_kind), (arI rC_parts kC_parts 18 fC_parts), (arI rC_partNodes kC_partNodes 72 fC_partNodes), (arI rC_weights kC_weights 72 fC_weights), (arI rC_weightSums kC_weightSums 18 fC_weightSums), (oc5 oS rS_worths rS_order rS_left), (arI rS_worths kS_worths 18 fS_worths), (arI rS_order kS_order 72 fS_order), (oc5 oT rT_worths rT_order rT_left), (arI rT_worths kT_worths 18 fT_worths), (arI rT_order kT_order 72 fT_order), (oc2 oH iH_breaths iH_heardBits iH_cutCount iH_halfBreaths iH_halfQuestions rH_heardWords rH_cutParts), (arI rH_heardWords kH_heardWords 512 fH_heardWords), (arI rH_cutParts kH_cutParts 512 fH_cutParts)] s.heap.size = A at hD hE ⊢
  have hA : ∀ q : Nat, s.heap.size ≤ q → A q := fun q h => by rw [← hAe]; exact Or.inr h
  have hS : va_S A s.heap s.heap [] := va_S.rf
  have hl := lv_entry ([.ref oK, .int p0, .int p1]) (n := 5) (Nat.le_of_ble_eq_true rfl)
  rw [lg_entry_eq]
  generalize (lg_sl ([.ref oK, .int p0, .int p1]) ++ List.replicate (5 - (lg_sl ([.ref oK, .int p0, .int p1])).length) Slot.unset).toArray = ls at hl ⊢
  have hl : lv_has ls 5 [(0, .ref oK), (1, .int p0), (2, .int p1)] := hl
  have hG := PX6_drawn_eq iC_nodes iC_throneNode iC_unit fC_kind fC_parts fC_partNodes fC_weights fC_weightSums fS_worths fS_order fT_worths fT_order iH_breaths iH_heardBits iH_cutCount fH_heardWords fH_cutParts p0 p1
  have rg_p0 := fb_rng p0
  have rg_p1 := fb_rng p1
  refine lv_aload_n hx hb dX6_drawn_0 rfl (lv_at hl 0 rfl) ?_
  refine lv_iload_n hx hb dX6_drawn_1 rfl (lv_at hl 1 rfl) ?_
  refine lv_iload_n hx hb dX6_drawn_2 rfl (lv_at hl 2 rfl) ?_
  have hMs := ml_of hD [true, true, false, false, false, false, false, false, false, false, false, false, false, false, false, false] (wc := [(oc6 oK oR oC oS oT rK_images iK_imageCount oA oH oL iK_refusal iK_latestFault iK_latestPlace), (oc1 oC iC_nodes iC_words iC_chances iC_unsures iC_slips iC_throneNode iC_saidWorth iC_unit rC_kind rC_parts rC_partNodes rC_weights rC_weightSums rC_toldWorths rC_steps rC_below rC_above rC_unsureWords rC_unsureWorths)]) rfl
  have hFc := va_freeM hD hS hA _ hMs
  refine va_calli (va_runV (As := [.int p0, .int p1]) (rest := []) ⟨hx, hb, hml, hown, hts⟩ (tX6_lacksDraws l dC dI _ oK oR oC oS oT rK_images iK_imageCount oA oH oL iK_refusal iK_latestFault iK_latestPlace iC_nodes iC_words iC_chances iC_unsures iC_slips iC_throneNode iC_saidWorth iC_unit rC_kind rC_parts rC_partNodes rC_weights rC_weightSums rC_toldWorths rC_steps rC_below rC_above rC_unsureWords rC_unsureWorths p0 p1 b_iK_imageCount b_iC_nodes b_iC_unsures b_iC_throneNode) (cwV 2 hts (wd_V wd_1328 wd_1329 wd_1330 wd_2 (wd_c wd_1331)) rfl rfl rfl dv_yX6_lacksDraws_2 ⟨Nat.le_of_ble_eq_true rfl, Nat.le_of_ble_eq_true rfl⟩) ⟨Pw.fb, recvX6 hK hP (q0 := 0) rfl, fun U hU hW => Pw.to (hP.ms _ hMs) (hD.ms _ hMs) (hK.ms [false, false, false, false, false, false, false, false, false, false, false] rfl) hE hS hFc hU hW⟩ rfl rfl hl.1 rfl (lv_room (Nat.le_of_ble_eq_true rfl)) dX6_drawn_3 ⟨Nat.le_of_ble_eq_true rfl, Nat.le_of_ble_eq_true rfl⟩) hS (fun q _ h => hFc q h) hFc (fun r u t H locs ht hvm hw hB hz1 hk1 hS => ?_)
  have hru9 := hw.2
  have hw := hw.1
  refine ex_1_1 hB (fun x_6470 e_x_6470_0 hB => ?_)
  obtain ⟨hP, hD⟩ := Bw.goN (ws' := [(oc6 oK oR oC oS oT rK_images iK_imageCount oA oH oL x_6470 iK_latestFault iK_latestPlace), (oc1 oC iC_nodes iC_words iC_chances iC_unsures iC_slips iC_throneNode iC_saidWorth iC_unit rC_kind rC_parts rC_partNodes rC_weights rC_weightSums rC_toldWorths rC_steps rC_below rC_above rC_unsureWords rC_unsureWorths), (arI rC_kind kC_kind 18 fC_kind), (arI rC_parts kC_parts 18 fC_parts), (arI rC_partNodes kC_partNodes 72 fC_partNodes), (arI rC_weights kC_weights 72 fC_weights), (arI rC_weightSums kC_weightSums 18 fC_weightSums), (oc5 oS rS_worths rS_order rS_left), (arI rS_worths kS_worths 18 fS_worths), (arI rS_order kS_order 72 fS_order), (oc5 oT rT_worths rT_order rT_left), (arI rT_worths kT_worths 18 fT_worths), (arI rT_order kT_order 72 fT_order), (oc2 oH iH_breaths iH_heardBits iH_cutCount iH_halfBreaths iH_halfQuestions rH_heardWords rH_cutParts), (arI rH_heardWords kH_heardWords 512 fH_heardWords), (arI rH_cutParts kH_cutParts 512 fH_cutParts)]) hB rfl ht hP hD _ hMs hk1 hFc rfl
  clear hz1 hk1 hvm ht hB hMs
  have rg_x_6470 := fb_rng x_6470
  rw [← hru9] at e_x_6470_0
  rcases hw.2 with ⟨rfl, hc_6471⟩ | ⟨rfl, hc_6471⟩
  · skip
    have rg_iC_nodes := fb_rng iC_nodes
    have hG := hG.trans (un2_eq e_x_6470_0)
    have hG := hG.trans (if_pos rfl)
    refine lv_if_eq (tgt := 11) hx hb dX6_drawn_6 (by decide) (fun _ => ?_) (fun c => absurd c (by decide))
    refine lv_aload_n hx hb dX6_drawn_11 rfl (lv_at hl 0 rfl) ?_
    refine va_get (D := (dC, dI)) (ci := 6) (v := .ref oT) (C := RX6) (T := TX6) (N := 12) hx hb hts inX6 hown hK hP 0 rfl rfl 3 (by decide) (hts _ wd_25) (fun _ h9 => h9) rfl dX6_drawn_12 ?_
    refine lv_aload_n hx hb dX6_drawn_15 rfl (lv_at hl 0 rfl) ?_
    refine va_get (D := (dC, dI)) (ci := 6) (v := .ref oS) (C := RX6) (T := TX6) (N := 12) hx hb hts inX6 hown hK hP 0 rfl rfl 2 (by decide) (hts _ wd_24) (fun _ h9 => h9) rfl dX6_drawn_16 ?_
    have hFc := va_free (wc := [(oc5 oT rT_worths rT_order rT_left), (arI rT_worths kT_worths 18 fT_worths), (arI rT_order kT_order 72 fT_order), (oc5 oS rS_worths rS_order rS_left), (arI rS_worths kS_worths 18 fS_worths), (arI rS_order kS_order 72 fS_order)]) hD hS hA [10, 11, 12, 7, 8, 9] rfl
    refine va_callv (va_runV (As := [.ref oS]) (rest := []) ⟨hx, hb, hml, hown, hts⟩ (tX5_copyFrom l dC dI _ oT rT_worths fT_worths kT_worths rT_order fT_order kT_order rT_left oS rS_worths fS_worths kS_worths rS_order fS_order kS_order rS_left a_fT_order a_fS_order) (cwV 1 hts (wd_V wd_1011 wd_1012 wd_1013 wd_23 (wd_c wd_1014)) rfl rfl rfl dv_yX5_copyFrom_1 ⟨Nat.le_of_ble_eq_true rfl, Nat.le_of_ble_eq_true rfl⟩) ⟨Pw.fb, recvX5 hK hP (q0 := 10) rfl, fun U hU hW => Pw.to (hP.sub [10, 11, 12, 7, 8, 9] rfl) (hD.sub [10, 11, 12, 7, 8, 9] (by decide) rfl) (hK.sub [7, 8, 5, 6] rfl) hE hS hFc hU hW⟩ rfl rfl hl.1 rfl (lv_room (Nat.le_of_ble_eq_true rfl)) dX6_drawn_19 ⟨Nat.le_of_ble_eq_true rfl, Nat.le_of_ble_eq_true rfl⟩) hS (fun q _ h => hFc q h) hFc (fun u t H locs ht hvm hw hB hz1 hk1 hS => ?_)
    refine ex_2_2 hB (fun f_6474 f_6475 a_f_6475 e_f_6474_0 hB => ?_)
    obtain ⟨hP, hD, hK⟩ := Bw.go (ws' := [(oc6 oK oR oC oS oT rK_images iK_imageCount oA oH oL x_6470 iK_latestFault iK_latestPlace), (oc1 oC iC_nodes iC_words iC_chances iC_unsures iC_slips iC_throneNode iC_saidWorth iC_unit rC_kind rC_parts rC_partNodes rC_weights rC_weightSums rC_toldWorths rC_steps rC_below rC_above rC_unsureWords rC_unsureWorths), (arI rC_kind kC_kind 18 fC_kind), (arI rC_parts kC_parts 18 fC_parts), (arI rC_partNodes kC_partNodes 72 fC_partNodes), (arI rC_weights kC_weights 72 fC_weights), (arI rC_weightSums kC_weightSums 18 fC_weightSums), (oc2 oH iH_breaths iH_heardBits iH_cutCount iH_halfBreaths iH_halfQuestions rH_heardWords rH_cutParts), (arI rH_heardWords kH_heardWords 512 fH_heardWords), (arI rH_cutParts kH_cutParts 512 fH_cutParts), (oc5 oT rT_worths rT_order rT_left), (arI rT_worths kT_worths 18 f_6474), (arI rT_order kT_order 72 f_6475), (oc5 oS rS_worths rS_order rS_left), (arI rS_worths kS_worths 18 fS_worths), (arI rS_order kS_order 72 fS_order)]) (tys' := [(kC_kind, .int), (kC_parts, .int), (kC_partNodes, .int), (kC_weights, .int), (kC_weightSums, .int), (kH_heardWords, .int), (kH_cutParts, .int), (kT_worths, .int), (kT_order, .int), (kS_worths, .int), (kS_order, .int)]) hB rfl ht hvm hP hD hK [10, 11, 12, 7, 8, 9] [0, 1, 2, 3, 4, 5, 6, 13, 14, 15] rfl (by decide) (by decide) [0, 1, 2, 3, 4, 9, 10] hk1 hFc rfl rfl rfl
    clear hz1 hk1 hvm ht hB
    have hG := hG.trans (un2_eq e_f_6474_0)
    refine lv_iload_n hx hb dX6_drawn_22 rfl (lv_at hl 1 rfl) ?_
    refine lv_istore_n (lv' := [(3, .int p0), (0, .ref oK), (1, .int p0), (2, .int p1)]) hx hb dX6_drawn_23 rfl hl (by decide) rfl (fun ls hl => ?_)
    refine lv_iconst (v := 0) hx hb dX6_drawn_24 (by decide) ?_
    refine lv_istore (lv' := [(4, .int 0), (3, .int p0), (0, .ref oK), (1, .int p0), (2, .int p1)]) hx hb dX6_drawn_25 hl (by decide) rfl (fun ls hl => ?_)
    have hl := lv_sub hl (l' := [(4, .int 0), (3, .int p0), (0, .ref oK), (1, .int p0), (2, .int p1)]) [0, 1, 2, 3, 4] rfl
    have key_n_6479 : ∀ (n_6479 : Nat) (z_6476 : Int32) (z_6477 : Int32) (f_6478 : Nat → Int32) (H : Heap) (locs : List Loc) (ls : Array Slot), (∀ j : Nat, j < 72 → 0 ≤ (f_6478 j).toInt ∧ (f_6478 j).toInt ≤ 3) → (0 ≤ z_6476.toInt ∧ z_6476.toInt ≤ 2147483647) → (0 ≤ z_6477.toInt ∧ z_6477.toInt ≤ 65536) → (2147483647 - z_6476.toInt).toNat < n_6479 → (PX6_drawn iC_nodes iC_throneNode iC_unit fC_kind fC_parts fC_partNodes fC_weights fC_weightSums fS_worths fS_order fT_worths fT_order iH_breaths iH_heardBits iH_cutCount fH_heardWords fH_cutParts p0 p1 = HX6_drawn_0 iC_nodes iC_throneNode iC_unit fC_kind fC_parts fC_partNodes fC_weights fC_weightSums fS_order fH_heardWords fH_cutParts p1 x_6470 f_6474 n_6479 z_6476 z_6477 f_6478) → va_P (dC, dI) vwCl [(oc6 oK oR oC oS oT rK_images iK_imageCount oA oH oL x_6470 iK_latestFault iK_latestPlace), (oc1 oC iC_nodes iC_words iC_chances iC_unsures iC_slips iC_throneNode iC_saidWorth iC_unit rC_kind rC_parts rC_partNodes rC_weights rC_weightSums rC_toldWorths rC_steps rC_below rC_above rC_unsureWords rC_unsureWorths), (arI rC_kind kC_kind 18 fC_kind), (arI rC_parts kC_parts 18 fC_parts), (arI rC_partNodes kC_partNodes 72 fC_partNodes), (arI rC_weights kC_weights 72 fC_weights), (arI rC_weightSums kC_weightSums 18 fC_weightSums), (oc2 oH iH_breaths iH_heardBits iH_cutCount iH_halfBreaths iH_halfQuestions rH_heardWords rH_cutParts), (arI rH_heardWords kH_heardWords 512 fH_heardWords), (arI rH_cutParts kH_cutParts 512 fH_cutParts), (oc5 oT rT_worths rT_order rT_left), (arI rT_worths kT_worths 18 f_6474), (arI rT_order kT_order 72 f_6478), (oc5 oS rS_worths rS_order rS_left), (arI rS_worths kS_worths 18 fS_worths), (arI rS_order kS_order 72 fS_order)] H → va_D A [(oc6 oK oR oC oS oT rK_images iK_imageCount oA oH oL x_6470 iK_latestFault iK_latestPlace), (oc1 oC iC_nodes iC_words iC_chances iC_unsures iC_slips iC_throneNode iC_saidWorth iC_unit rC_kind rC_parts rC_partNodes rC_weights rC_weightSums rC_toldWorths rC_steps rC_below rC_above rC_unsureWords rC_unsureWorths), (arI rC_kind kC_kind 18 fC_kind), (arI rC_parts kC_parts 18 fC_parts), (arI rC_partNodes kC_partNodes 72 fC_partNodes), (arI rC_weights kC_weights 72 fC_weights), (arI rC_weightSums kC_weightSums 18 fC_weightSums), (oc2 oH iH_breaths iH_heardBits iH_cutCount iH_halfBreaths iH_halfQuestions rH_heardWords rH_cutParts), (arI rH_heardWords kH_heardWords 512 fH_heardWords), (arI rH_cutParts kH_cutParts 512 fH_cutParts), (oc5 oT rT_worths rT_order rT_left), (arI rT_worths kT_worths 18 f_6474), (arI rT_order kT_order 72 f_6478), (oc5 oS rS_worths rS_order rS_left), (arI rS_worths kS_worths 18 fS_worths), (arI rS_order kS_order 72 fS_order)] → va_S A s.heap H locs → lv_has ls 5 [(4, .int z_6476), (3, .int z_6477), (0, .ref oK), (1, .int p0), (2, .int p1)] → W p l e (headSpec (Cond.code yX6_drawn cX6_drawn 5 (some .int) :: wG) ({ frames := 34, cells := 0, slots := 0, locals := 998 })).room s m ([.ref oK, .int p0, .int p1] : List Value).toArray below meth c H locs 0 0 (MQ below (va_Qi (fun (r : Int32) (u : Nat) => (True ∧ True) ∧ r = Int32.ofNat u) (fun (u : Nat) (t : State) => ∃ (niK_refusal : Int32) (nfT_worths : Nat → Int32) (nfT_order : Nat → Int32) (niH_breaths : Int32) (niH_heardBits : Int32) (niH_cutCount : Int32) (nfH_heardWords : Nat → Int32) (nfH_cutParts : Nat → Int32), (∀ j : Nat, j < 72 → 0 ≤ (nfT_order j).toInt ∧ (nfT_order j).toInt ≤ 3) ∧ (0 ≤ niH_breaths.toInt ∧ niH_breaths.toInt ≤ 1000000000) ∧ (0 ≤ niH_cutCount.toInt ∧ niH_cutCount.toInt ≤ 1000000000) ∧ (PX6_drawn iC_nodes iC_throneNode iC_unit fC_kind fC_parts fC_partNodes fC_weights fC_weightSums fS_worths fS_order fT_worths fT_order iH_breaths iH_heardBits iH_cutCount fH_heardWords fH_cutParts p0 p1 = (Int32.ofNat u, niK_refusal, nfT_worths, nfT_order, niH_breaths, niH_heardBits, niH_cutCount, nfH_heardWords, nfH_cutParts)) ∧ Bw dC dI A [(oc6 oK oR oC oS oT rK_images iK_imageCount oA oH oL niK_refusal iK_latestFault iK_latestPlace), (oc1 oC iC_nodes iC_words iC_chances iC_unsures iC_slips iC_throneNode iC_saidWorth iC_unit rC_kind rC_parts rC_partNodes rC_weights rC_weightSums rC_toldWorths rC_steps rC_below rC_above rC_unsureWords rC_unsureWorths), (arI rC_kind kC_kind 18 fC_kind), (arI rC_parts kC_parts 18 fC_parts), (arI rC_partNodes kC_partNodes 72 fC_partNodes), (arI rC_weights kC_weights 72 fC_weights), (arI rC_weightSums kC_weightSums 18 fC_weightSums), (oc5 oS rS_worths rS_order rS_left), (arI rS_worths kS_worths 18 fS_worths), (arI rS_order kS_order 72 fS_order), (oc5 oT rT_worths rT_order rT_left), (arI rT_worths kT_worths 18 nfT_worths), (arI rT_order kT_order 72 nfT_order), (oc2 oH niH_breaths niH_heardBits niH_cutCount iH_halfBreaths iH_halfQuestions rH_heardWords rH_cutParts), (arI rH_heardWords kH_heardWords 512 nfH_heardWords), (arI rH_cutParts kH_cutParts 512 nfH_cutParts)] [(kC_kind, .int), (kC_parts, .int), (kC_partNodes, .int), (kC_weights, .int), (kC_weightSums, .int), (kS_worths, .int), (kS_order, .int), (kT_worths, .int), (kT_order, .int), (kH_heardWords, .int), (kH_cutParts, .int)] t) A) ([.ref oK, .int p0, .int p1] : List Value).toArray s 0 0 A) (F0 m 27 ls []) := by
      intro n_6479
      induction n_6479 with
      | zero => intro z_6476 z_6477 f_6478 H locs ls a_f_6478 hi0_n_6479 hi1_n_6479 hm; exact absurd hm (Nat.not_lt_zero _)
      | succ n_6479 ih_n_6479 =>
        intro z_6476 z_6477 f_6478 H locs ls a_f_6478 hi0_n_6479 hi1_n_6479 hm_n_6479 hG hP hD hS hl
        have hG := hG.trans (HX6_drawn_0_eq _ _ _ _ _ _ _ _ _ _ _ _ _ _ _ _ _ _)
        have rg_z_6476 := fb_rng z_6476
        have rg_z_6477 := fb_rng z_6477
        refine lv_iload hx hb dX6_drawn_27 (lv_at hl 0 rfl) ?_
        refine lv_iload_n hx hb dX6_drawn_29 rfl (lv_at hl 4 rfl) ?_
        refine lv_icmp_ge (tgt := 45) hx hb dX6_drawn_30 (by decide) (fun c_6480 => ?_) (fun c_6480 => ?_)
        · skip
          have hG := hG.trans (if_pos c_6480)
          have gc_6480 := ti_le c_6480 rfl rfl
          refine lv_aload_n hx hb dX6_drawn_45 rfl (lv_at hl 2 rfl) ?_
          refine va_get (D := (dC, dI)) (ci := 6) (v := .ref oH) (C := RX6) (T := TX6) (N := 12) hx hb hts inX6 hown hK hP 0 rfl rfl 7 (by decide) (hts _ wd_34) (fun _ h9 => h9) rfl dX6_drawn_46 ?_
          refine lv_aload_n hx hb dX6_drawn_49 rfl (lv_at hl 2 rfl) ?_
          refine va_get (D := (dC, dI)) (ci := 6) (v := .ref oC) (C := RX6) (T := TX6) (N := 12) hx hb hts inX6 hown hK hP 0 rfl rfl 1 (by decide) (hts _ wd_20) (fun _ h9 => h9) rfl dX6_drawn_50 ?_
          refine lv_aload_n hx hb dX6_drawn_53 rfl (lv_at hl 2 rfl) ?_
          refine va_get (D := (dC, dI)) (ci := 6) (v := .ref oT) (C := RX6) (T := TX6) (N := 12) hx hb hts inX6 hown hK hP 0 rfl rfl 3 (by decide) (hts _ wd_25) (fun _ h9 => h9) rfl dX6_drawn_54 ?_
          have hFc := va_free (wc := [(oc2 oH iH_breaths iH_heardBits iH_cutCount iH_halfBreaths iH_halfQuestions rH_heardWords rH_cutParts), (arI rH_heardWords kH_heardWords 512 fH_heardWords), (arI rH_cutParts kH_cutParts 512 fH_cutParts), (oc1 oC iC_nodes iC_words iC_chances iC_unsures iC_slips iC_throneNode iC_saidWorth iC_unit rC_kind rC_parts rC_partNodes rC_weights rC_weightSums rC_toldWorths rC_steps rC_below rC_above rC_unsureWords rC_unsureWorths), (arI rC_kind kC_kind 18 fC_kind), (arI rC_parts kC_parts 18 fC_parts), (arI rC_partNodes kC_partNodes 72 fC_partNodes), (arI rC_weights kC_weights 72 fC_weights), (arI rC_weightSums kC_weightSums 18 fC_weightSums), (oc5 oT rT_worths rT_order rT_left), (arI rT_worths kT_worths 18 f_6474), (arI rT_order kT_order 72 f_6478)]) hD hS hA [7, 8, 9, 1, 2, 3, 4, 5, 6, 10, 11, 12] rfl
          refine va_calli (va_runV (As := [.ref oC, .ref oT]) (rest := []) ⟨hx, hb, hml, hown, hts⟩ (tX2_breathsFreely l dC dI _ oH iH_breaths iH_heardBits iH_cutCount iH_halfBreaths iH_halfQuestions rH_heardWords fH_heardWords kH_heardWords rH_cutParts fH_cutParts kH_cutParts oC iC_nodes iC_words iC_chances iC_unsures iC_slips iC_throneNode iC_saidWorth iC_unit rC_kind fC_kind kC_kind rC_parts fC_parts kC_parts rC_partNodes fC_partNodes kC_partNodes rC_weights fC_weights kC_weights rC_weightSums fC_weightSums kC_weightSums rC_toldWorths rC_steps rC_below rC_above rC_unsureWords rC_unsureWorths oT rT_worths f_6474 kT_worths rT_order f_6478 kT_order rT_left b_iH_breaths b_iH_cutCount b_iC_nodes b_iC_unsures b_iC_throneNode a_fC_parts a_fC_partNodes a_f_6478) (cwV 2 hts (wd_V wd_714 wd_715 wd_716 wd_33 (wd_c wd_717)) rfl rfl rfl dv_yX2_breathsFreely_2 ⟨Nat.le_of_ble_eq_true rfl, Nat.le_of_ble_eq_true rfl⟩) ⟨Pw.fb, recvX2 hK hP (q0 := 7) rfl, fun U hU hW => Pw.to (hP.sub [7, 8, 9, 1, 2, 3, 4, 5, 6, 10, 11, 12] rfl) (hD.sub [7, 8, 9, 1, 2, 3, 4, 5, 6, 10, 11, 12] (by decide) rfl) (hK.sub [5, 6, 0, 1, 2, 3, 4, 7, 8] rfl) hE hS hFc hU hW⟩ rfl rfl hl.1 rfl (lv_room (Nat.le_of_ble_eq_true rfl)) dX6_drawn_57 ⟨Nat.le_of_ble_eq_true rfl, Nat.le_of_ble_eq_true rfl⟩) hS (fun q _ h => hFc q h) hFc (fun r u t H locs ht hvm hw hB hz1 hk1 hS => ?_)
          have hru9 := hw.2
          have hw := hw.1
          refine ex_5_3 hB (fun x_6481 x_6482 x_6483 f_6484 f_6485 b_x_6481 b_x_6483 e_x_6481_0 hB => ?_)
          obtain ⟨hP, hD, hK⟩ := Bw.go (ws' := [(oc6 oK oR oC oS oT rK_images iK_imageCount oA oH oL x_6470 iK_latestFault iK_latestPlace), (oc5 oS rS_worths rS_order rS_left), (arI rS_worths kS_worths 18 fS_worths), (arI rS_order kS_order 72 fS_order), (oc2 oH x_6481 x_6482 x_6483 iH_halfBreaths iH_halfQuestions rH_heardWords rH_cutParts), (arI rH_heardWords kH_heardWords 512 f_6484), (arI rH_cutParts kH_cutParts 512 f_6485), (oc1 oC iC_nodes iC_words iC_chances iC_unsures iC_slips iC_throneNode iC_saidWorth iC_unit rC_kind rC_parts rC_partNodes rC_weights rC_weightSums rC_toldWorths rC_steps rC_below rC_above rC_unsureWords rC_unsureWorths), (arI rC_kind kC_kind 18 fC_kind), (arI rC_parts kC_parts 18 fC_parts), (arI rC_partNodes kC_partNodes 72 fC_partNodes), (arI rC_weights kC_weights 72 fC_weights), (arI rC_weightSums kC_weightSums 18 fC_weightSums), (oc5 oT rT_worths rT_order rT_left), (arI rT_worths kT_worths 18 f_6474), (arI rT_order kT_order 72 f_6478)]) (tys' := [(kS_worths, .int), (kS_order, .int), (kH_heardWords, .int), (kH_cutParts, .int), (kC_kind, .int), (kC_parts, .int), (kC_partNodes, .int), (kC_weights, .int), (kC_weightSums, .int), (kT_worths, .int), (kT_order, .int)]) hB rfl ht hvm hP hD hK [7, 8, 9, 1, 2, 3, 4, 5, 6, 10, 11, 12] [0, 13, 14, 15] rfl (by decide) (by decide) [9, 10] hk1 hFc rfl rfl rfl
          clear hz1 hk1 hvm ht hB
          have rg_x_6481 := fb_rng x_6481
          have rg_x_6482 := fb_rng x_6482
          have rg_x_6483 := fb_rng x_6483
          rw [← hru9] at e_x_6481_0
          obtain ⟨x_6486, rfl⟩ : ∃ z, z = r := ⟨_, rfl⟩
          have hG := hG.trans (un6_eq e_x_6481_0)
          have rg_x_6486 := fb_rng x_6486
          exact wq_i hx hb hr (cI x_6486) ⟨⟨trivial, trivial⟩, (cI_of x_6486)⟩ (fun t ht hW => ⟨x_6470, f_6474, f_6478, x_6481, x_6482, x_6483, f_6484, f_6485, a_f_6478, b_x_6481, b_x_6483, (cI_tup hG), Bw.to (hP.sub [0, 7, 8, 9, 10, 11, 12, 1, 2, 3, 13, 14, 15, 4, 5, 6] rfl) (hD.sub [0, 7, 8, 9, 10, 11, 12, 1, 2, 3, 13, 14, 15, 4, 5, 6] (by decide) rfl) (hK.sub [4, 5, 6, 7, 8, 0, 1, 9, 10, 2, 3] rfl) ht hW⟩) hS dX6_drawn_60 hlocks
        · skip
          have hG := hG.trans (if_neg c_6480)
          have gc_6480 := ti_nle c_6480 rfl rfl
          refine lv_aload_n hx hb dX6_drawn_33 rfl (lv_at hl 2 rfl) ?_
          refine lv_iload_n hx hb dX6_drawn_34 rfl (lv_at hl 1 rfl) ?_
          have hFc := va_free (wc := [(oc6 oK oR oC oS oT rK_images iK_imageCount oA oH oL x_6470 iK_latestFault iK_latestPlace), (oc1 oC iC_nodes iC_words iC_chances iC_unsures iC_slips iC_throneNode iC_saidWorth iC_unit rC_kind rC_parts rC_partNodes rC_weights rC_weightSums rC_toldWorths rC_steps rC_below rC_above rC_unsureWords rC_unsureWorths), (arI rC_parts kC_parts 18 fC_parts), (oc5 oS rS_worths rS_order rS_left), (arI rS_order kS_order 72 fS_order), (oc5 oT rT_worths rT_order rT_left), (arI rT_order kT_order 72 f_6478)]) hD hS hA [0, 1, 3, 13, 15, 10, 12] rfl
          refine va_calli (va_runV (As := [.int z_6477]) (rest := []) ⟨hx, hb, hml, hown, hts⟩ (tX6_drawOrders l dC dI _ oK oR oC oS oT rK_images iK_imageCount oA oH oL x_6470 iK_latestFault iK_latestPlace iC_nodes iC_words iC_chances iC_unsures iC_slips iC_throneNode iC_saidWorth iC_unit rC_kind rC_parts fC_parts kC_parts rC_partNodes rC_weights rC_weightSums rC_toldWorths rC_steps rC_below rC_above rC_unsureWords rC_unsureWorths rS_worths rS_order fS_order kS_order rS_left rT_worths rT_order f_6478 kT_order rT_left z_6477 b_iK_imageCount b_iC_nodes b_iC_unsures b_iC_throneNode a_fC_parts a_fS_order a_f_6478 ⟨hi1_n_6479.1, hi1_n_6479.2⟩) (cwV 1 hts (wd_V wd_1333 wd_1334 wd_1335 wd_2 (wd_c wd_1336)) rfl rfl rfl dv_yX6_drawOrders_1 ⟨Nat.le_of_ble_eq_true rfl, Nat.le_of_ble_eq_true rfl⟩) ⟨Pw.fb, recvX6 hK hP (q0 := 0) rfl, fun U hU hW => Pw.to (hP.sub [0, 1, 3, 13, 15, 10, 12] rfl) (hD.sub [0, 1, 3, 13, 15, 10, 12] (by decide) rfl) (hK.sub [1, 10, 8] rfl) hE hS hFc hU hW⟩ rfl rfl hl.1 rfl (lv_room (Nat.le_of_ble_eq_true rfl)) dX6_drawn_35 ⟨Nat.le_of_ble_eq_true rfl, Nat.le_of_ble_eq_true rfl⟩) hS (fun q _ h => hFc q h) hFc (fun r u t H locs ht hvm hw hB hz1 hk1 hS => ?_)
          have hru9 := hw.2
          have hw := hw.1
          refine ex_1_2 hB (fun f_6487 a_f_6487 e_f_6487_0 hB => ?_)
          obtain ⟨hP, hD, hK⟩ := Bw.go (ws' := [(arI rC_kind kC_kind 18 fC_kind), (arI rC_partNodes kC_partNodes 72 fC_partNodes), (arI rC_weights kC_weights 72 fC_weights), (arI rC_weightSums kC_weightSums 18 fC_weightSums), (oc2 oH iH_breaths iH_heardBits iH_cutCount iH_halfBreaths iH_halfQuestions rH_heardWords rH_cutParts), (arI rH_heardWords kH_heardWords 512 fH_heardWords), (arI rH_cutParts kH_cutParts 512 fH_cutParts), (arI rT_worths kT_worths 18 f_6474), (arI rS_worths kS_worths 18 fS_worths), (oc6 oK oR oC oS oT rK_images iK_imageCount oA oH oL x_6470 iK_latestFault iK_latestPlace), (oc1 oC iC_nodes iC_words iC_chances iC_unsures iC_slips iC_throneNode iC_saidWorth iC_unit rC_kind rC_parts rC_partNodes rC_weights rC_weightSums rC_toldWorths rC_steps rC_below rC_above rC_unsureWords rC_unsureWorths), (arI rC_parts kC_parts 18 fC_parts), (oc5 oS rS_worths rS_order rS_left), (arI rS_order kS_order 72 fS_order), (oc5 oT rT_worths rT_order rT_left), (arI rT_order kT_order 72 f_6487)]) (tys' := [(kC_kind, .int), (kC_partNodes, .int), (kC_weights, .int), (kC_weightSums, .int), (kH_heardWords, .int), (kH_cutParts, .int), (kT_worths, .int), (kS_worths, .int), (kC_parts, .int), (kS_order, .int), (kT_order, .int)]) hB rfl ht hvm hP hD hK [0, 1, 3, 13, 15, 10, 12] [2, 4, 5, 6, 7, 8, 9, 11, 14] rfl (by decide) (by decide) [0, 2, 3, 4, 5, 6, 7, 9] hk1 hFc rfl rfl rfl
          clear hz1 hk1 hvm ht hB
          rw [← hru9] at e_f_6487_0
          obtain ⟨x_6488, rfl⟩ : ∃ z, z = r := ⟨_, rfl⟩
          have hG := hG.trans (un2_eq e_f_6487_0)
          have rg_x_6488 := fb_rng x_6488
          have ux_6488 := hw.2
          refine lv_istore_n (lv' := [(3, .int x_6488), (4, .int z_6476), (0, .ref oK), (1, .int p0), (2, .int p1)]) hx hb dX6_drawn_38 rfl hl (by decide) rfl (fun ls hl => ?_)
          obtain ⟨x_6489, ex_6489⟩ : ∃ z : Int32, z = z_6476 + Int32.ofInt 1 := ⟨_, rfl⟩
          have hG := hG.trans (lt_eq ex_6489)
          have vx_6489 : x_6489.toInt = z_6476.toInt + 1 := ti_add (y := 1) ex_6489 rfl kc_1 (om_4e4fce7e hi0_n_6479.1) (om_219cd8d8 rg_p1.2 gc_6480)
          refine lv_iinc (v := x_6489) (lv' := [(4, .int x_6489), (3, .int x_6488), (0, .ref oK), (1, .int p0), (2, .int p1)]) hx hb dX6_drawn_39 hl (k := 1) rfl ex_6489.symm (by decide) rfl (fun ls hl => ?_)
          refine lv_goto (tgt := 27) hx hb dX6_drawn_42 (by decide) ?_
          exact ih_n_6479 x_6489 x_6488 f_6487 _ _ _ a_f_6487 ⟨(om_83b90de5 hi0_n_6479.1 vx_6489), (om_5c6bfac3 rg_p1.2 gc_6480 vx_6489)⟩ ⟨ux_6488.1, ux_6488.2⟩ (ms_lt hm_n_6479 (om_b9393183 vx_6489) (om_bc4d5040 rg_p1.2 gc_6480)) hG (hP.sub [9, 10, 0, 11, 1, 2, 3, 4, 5, 6, 14, 7, 15, 12, 8, 13] rfl) (hD.sub [9, 10, 0, 11, 1, 2, 3, 4, 5, 6, 14, 7, 15, 12, 8, 13] (by decide) rfl) hS (lv_sub hl [0, 1, 2, 3, 4] rfl)
    exact key_n_6479 (((2147483647 - (0 : Int32).toInt).toNat) + 1) 0 p0 f_6475 _ _ _ a_f_6475 ⟨(om_b1de7dbe kc_0), (om_daf17c64 kc_0)⟩ ⟨hc_6471.2.1, hc_6471.2.2⟩ (Nat.lt_add_one _) hG hP hD hS hl
  · skip
    have hG := hG.trans (un2_eq e_x_6470_0)
    have hG := hG.trans (if_neg (by decide))
    refine lv_if_eq (tgt := 11) hx hb dX6_drawn_6 (by decide) (fun c => absurd c (by decide)) (fun _ => ?_)
    refine lv_iconst (v := (-1)) hx hb dX6_drawn_9 (by decide) ?_
    exact wq_i hx hb hr (cI (-1)) ⟨⟨trivial, trivial⟩, (cI_of (-1))⟩ (fun t ht hW => ⟨x_6470, fT_worths, fT_order, iH_breaths, iH_heardBits, iH_cutCount, fH_heardWords, fH_cutParts, a_fT_order, b_iH_breaths, b_iH_cutCount, (cI_tup hG), Bw.to hP hD hK ht hW⟩) hS dX6_drawn_10 hlocks
set_option maxHeartbeats 4000000 in
set_option maxRecDepth 100000 in
theorem tX6_drawnLeast (l : Launch) (dC : Nat → ClassId) (dI : Nat → Nat → Nat) (sz : Nat) (oK : Nat) (oR : Nat) (oC : Nat) (oS : Nat) (oT : Nat) (rK_images : Nat) (iK_imageCount : Int32) (oA : Nat) (oH : Nat) (oL : Nat) (iK_refusal : Int32) (iK_latestFault : Int32) (iK_latestPlace : Int32) (iC_nodes : Int32) (iC_words : Int32) (iC_chances : Int32) (iC_unsures : Int32) (iC_slips : Int32) (iC_throneNode : Int32) (iC_saidWorth : Int32) (iC_unit : Int32) (rC_kind : Nat) (fC_kind : Nat → Int32) (kC_kind : ClassId) (rC_parts : Nat) (fC_parts : Nat → Int32) (kC_parts : ClassId) (rC_partNodes : Nat) (fC_partNodes : Nat → Int32) (kC_partNodes : ClassId) (rC_weights : Nat) (fC_weights : Nat → Int32) (kC_weights : ClassId) (rC_weightSums : Nat) (fC_weightSums : Nat → Int32) (kC_weightSums : ClassId) (rC_toldWorths : Nat) (rC_steps : Nat) (rC_below : Nat) (rC_above : Nat) (rC_unsureWords : Nat) (rC_unsureWorths : Nat) (rS_worths : Nat) (fS_worths : Nat → Int32) (kS_worths : ClassId) (rS_order : Nat) (fS_order : Nat → Int32) (kS_order : ClassId) (rS_left : Nat) (rT_worths : Nat) (fT_worths : Nat → Int32) (kT_worths : ClassId) (rT_order : Nat) (fT_order : Nat → Int32) (kT_order : ClassId) (rT_left : Nat) (iH_breaths : Int32) (iH_heardBits : Int32) (iH_cutCount : Int32) (iH_halfBreaths : Int32) (iH_halfQuestions : Int32) (rH_heardWords : Nat) (fH_heardWords : Nat → Int32) (kH_heardWords : ClassId) (rH_cutParts : Nat) (fH_cutParts : Nat → Int32) (kH_cutParts : ClassId) (p0 : Int32) (p1 : Int32) (b_iK_imageCount : 0 ≤ iK_imageCount.toInt ∧ iK_imageCount.toInt ≤ 3) (b_iC_nodes : 0 ≤ iC_nodes.toInt ∧ iC_nodes.toInt ≤ 18) (b_iC_unsures : 0 ≤ iC_unsures.toInt ∧ iC_unsures.toInt ≤ 4) (b_iC_throneNode : (-1) ≤ iC_throneNode.toInt ∧ iC_throneNode.toInt ≤ 17) (a_fC_parts : ∀ j : Nat, j < 18 → 0 ≤ (fC_parts j).toInt ∧ (fC_parts j).toInt ≤ 4) (a_fC_partNodes : ∀ j : Nat, j < 72 → 0 ≤ (fC_partNodes j).toInt ∧ (fC_partNodes j).toInt ≤ 17) (a_fS_order : ∀ j : Nat, j < 72 → 0 ≤ (fS_order j).toInt ∧ (fS_order j).toInt ≤ 3) (a_fT_order : ∀ j : Nat, j < 72 → 0 ≤ (fT_order j).toInt ∧ (fT_order j).toInt ≤ 3) (b_iH_breaths : 0 ≤ iH_breaths.toInt ∧ iH_breaths.toInt ≤ 1000000000) (b_iH_cutCount : 0 ≤ iH_cutCount.toInt ∧ iH_cutCount.toInt ≤ 1000000000)  : Met l yX6_drawnLeast (Cond.code yX6_drawnLeast cX6_drawnLeast 7 (some .int) :: wG) ({ frames := 34, cells := 0, slots := 0, locals := 998 }) (va_Pc [.ref oK, .int p0, .int p1] (Pw dC dI sz [(oc6 oK oR oC oS oT rK_images iK_imageCount oA oH oL iK_refusal iK_latestFault iK_latestPlace), (oc1 oC iC_nodes iC_words iC_chances iC_unsures iC_slips iC_throneNode iC_saidWorth iC_unit rC_kind rC_parts rC_partNodes rC_weights rC_weightSums rC_toldWorths rC_steps rC_below rC_above rC_unsureWords rC_unsureWorths), (arI rC_kind kC_kind 18 fC_kind), (arI rC_parts kC_parts 18 fC_parts), (arI rC_partNodes kC_partNodes 72 fC_partNodes), (arI rC_weights kC_weights 72 fC_weights), (arI rC_weightSums kC_weightSums 18 fC_weightSums), (oc5 oS rS_worths rS_order rS_left), (arI rS_worths kS_worths 18 fS_worths), (arI rS_order kS_order 72 fS_order), (oc5 oT rT_worths rT_order rT_left), (arI rT_worths kT_worths 18 fT_worths), (arI rT_order kT_order 72 fT_order), (oc2 oH iH_breaths iH_heardBits iH_cutCount iH_halfBreaths iH_halfQuestions rH_heardWords rH_cutParts), (arI rH_heardWords kH_heardWords 512 fH_heardWords), (arI rH_cutParts kH_cutParts 512 fH_cutParts)] [(kC_kind, .int), (kC_parts, .int), (kC_partNodes, .int), (kC_weights, .int), (kC_weightSums, .int), (kS_worths, .int), (kS_order, .int), (kT_worths, .int), (kT_order, .int), (kH_heardWords, .int), (kH_cutParts, .int)])) (va_Qi (fun (r : Int32) (u : Nat) => (True ∧ True) ∧ r = Int32.ofNat u) (fun (u : Nat) (t : State) => ∃ (niK_refusal : Int32) (nfT_worths : Nat → Int32) (nfT_order : Nat → Int32) (niH_breaths : Int32) (niH_heardBits : Int32) (niH_cutCount : Int32) (nfH_heardWords : Nat → Int32) (nfH_cutParts : Nat → Int32), (∀ j : Nat, j < 72 → 0 ≤ (nfT_order j).toInt ∧ (nfT_order j).toInt ≤ 3) ∧ (0 ≤ niH_breaths.toInt ∧ niH_breaths.toInt ≤ 1000000000) ∧ (0 ≤ niH_cutCount.toInt ∧ niH_cutCount.toInt ≤ 1000000000) ∧ (PX6_drawnLeast iC_nodes iC_throneNode iC_unit fC_kind fC_parts fC_partNodes fC_weights fC_weightSums fS_worths fS_order fT_worths fT_order iH_breaths iH_heardBits iH_cutCount fH_heardWords fH_cutParts p0 p1 = (Int32.ofNat u, niK_refusal, nfT_worths, nfT_order, niH_breaths, niH_heardBits, niH_cutCount, nfH_heardWords, nfH_cutParts)) ∧ Bw dC dI (va_A [(oc6 oK oR oC oS oT rK_images iK_imageCount oA oH oL iK_refusal iK_latestFault iK_latestPlace), (oc1 oC iC_nodes iC_words iC_chances iC_unsures iC_slips iC_throneNode iC_saidWorth iC_unit rC_kind rC_parts rC_partNodes rC_weights rC_weightSums rC_toldWorths rC_steps rC_below rC_above rC_unsureWords rC_unsureWorths), (arI rC_kind kC_kind 18 fC_kind), (arI rC_parts kC_parts 18 fC_parts), (arI rC_partNodes kC_partNodes 72 fC_partNodes), (arI rC_weights kC_weights 72 fC_weights), (arI rC_weightSums kC_weightSums 18 fC_weightSums), (oc5 oS rS_worths rS_order rS_left), (arI rS_worths kS_worths 18 fS_worths), (arI rS_order kS_order 72 fS_order), (oc5 oT rT_worths rT_order rT_left), (arI rT_worths kT_worths 18 fT_worths), (arI rT_order kT_order 72 fT_order), (oc2 oH iH_breaths iH_heardBits iH_cutCount iH_halfBreaths iH_halfQuestions rH_heardWords rH_cutParts), (arI rH_heardWords kH_heardWords 512 fH_heardWords), (arI rH_cutParts kH_cutParts 512 fH_cutParts)] sz) [(oc6 oK oR oC oS oT rK_images iK_imageCount oA oH oL niK_refusal iK_latestFault iK_latestPlace), (oc1 oC iC_nodes iC_words iC_chances iC_unsures iC_slips iC_throneNode iC_saidWorth iC_unit rC_kind rC_parts rC_partNodes rC_weights rC_weightSums rC_toldWorths rC_steps rC_below rC_above rC_unsureWords rC_unsureWorths), (arI rC_kind kC_kind 18 fC_kind), (arI rC_parts kC_parts 18 fC_parts), (arI rC_partNodes kC_partNodes 72 fC_partNodes), (arI rC_weights kC_weights 72 fC_weights), (arI rC_weightSums kC_weightSums 18 fC_weightSums), (oc5 oS rS_worths rS_order rS_left), (arI rS_worths kS_worths 18 fS_worths), (arI rS_order kS_order 72 fS_order), (oc5 oT rT_worths rT_order rT_left), (arI rT_worths kT_worths 18 nfT_worths), (arI rT_order kT_order 72 nfT_order), (oc2 oH niH_breaths niH_heardBits niH_cutCount iH_halfBreaths iH_halfQuestions rH_heardWords rH_cutParts), (arI rH_heardWords kH_heardWords 512 nfH_heardWords), (arI rH_cutParts kH_cutParts 512 nfH_cutParts)] [(kC_kind, .int), (kC_parts, .int), (kC_partNodes, .int), (kC_weights, .int), (kC_weightSums, .int), (kS_worths, .int), (kS_order, .int), (kT_worths, .int), (kT_order, .int), (kH_heardWords, .int), (kH_cutParts, .int)] t) (va_A [(oc6 oK oR oC oS oT rK_images iK_imageCount oA oH oL iK_refusal iK_latestFault iK_latestPlace), (oc1 oC iC_nodes iC_words iC_chances iC_unsures iC_slips iC_throneNode iC_saidWorth iC_unit rC_kind rC_parts rC_partNodes rC_weights rC_weightSums rC_toldWorths rC_steps rC_below rC_above rC_unsureWords rC_unsureWorths), (arI rC_kind kC_kind 18 fC_kind), (arI rC_parts kC_parts 18 fC_parts), (arI rC_partNodes kC_partNodes 72 fC_partNodes), (arI rC_weights kC_weights 72 fC_weights), (arI rC_weightSums kC_weightSums 18 fC_weightSums), (oc5 oS rS_worths rS_order rS_left), (arI rS_worths kS_worths 18 fS_worths), (arI rS_order kS_order 72 fS_order), (oc5 oT rT_worths rT_order rT_left), (arI rT_worths kT_worths 18 fT_worths), (arI rT_order kT_order 72 fT_order), (oc2 oH iH_breaths iH_heardBits iH_cutCount iH_halfBreaths iH_halfQuestions rH_heardWords rH_cutParts), (arI rH_heardWords kH_heardWords 512 fH_heardWords), (arI rH_cutParts kH_cutParts 512 fH_cutParts)] sz)) 0 0 (va_A [(oc6 oK oR oC oS oT rK_images iK_imageCount oA oH oL iK_refusal iK_latestFault iK_latestPlace), (oc1 oC iC_nodes iC_words iC_chances iC_unsures iC_slips iC_throneNode iC_saidWorth iC_unit rC_kind rC_parts rC_partNodes rC_weights rC_weightSums rC_toldWorths rC_steps rC_below rC_above rC_unsureWords rC_unsureWorths), (arI rC_kind kC_kind 18 fC_kind), (arI rC_parts kC_parts 18 fC_parts), (arI rC_partNodes kC_partNodes 72 fC_partNodes), (arI rC_weights kC_weights 72 fC_weights), (arI rC_weightSums kC_weightSums 18 fC_weightSums), (oc5 oS rS_worths rS_order rS_left), (arI rS_worths kS_worths 18 fS_worths), (arI rS_order kS_order 72 fS_order), (oc5 oT rT_worths rT_order rT_left), (arI rT_worths kT_worths 18 fT_worths), (arI rT_order kT_order 72 fT_order), (oc2 oH iH_breaths iH_heardBits iH_cutCount iH_halfBreaths iH_halfQuestions rH_heardWords rH_cutParts), (arI rH_heardWords kH_heardWords 512 fH_heardWords), (arI rH_cutParts kH_cutParts 512 fH_cutParts)] sz) := by
  refine Met.ofW (cc := cX6_drawnLeast) (maxL := 7) (ret := (some .int)) pnX6 rfl ?_
  intro p e s m args below meth c s₁ B hml hv
  obtain ⟨rfl, hsz, hP, hK, hD0, hE⟩ := hv
  have hx := B.exec
  have hb := B.bytes
  have hr := B.returns
  have hts : ∀ w ∈ wG, w.before ([.ref oK, .int p0, .int p1] : List Value).toArray s = true := fun w h => atoms_spec (ws := Cond.code yX6_drawnLeast cX6_drawnLeast 7 (some .int) :: wG) B.pre w (List.mem_cons_of_mem _ h)
  have hown : s.vm.findClass RX6 = some m.cls := own_of B.named rfl
  have hlocks := B.notSynchronized
  subst hsz
  have hD := hD0.self (sz := s.heap.size)
  generalize hAe : va_A [(oc6 oK oR oC oS oT rK_images iK_imageCount oA oH oL iK_refusal iK_latestFault iK_latestPlace), (oc1 oC iC_nodes iC_words iC_chances iC_unsures iC_slips iC_throneNode iC_saidWorth iC_unit rC_kind rC_parts rC_partNodes rC_weights rC_weightSums rC_toldWorths rC_steps rC_below rC_above rC_unsureWords rC_unsureWorths), (arI rC_kind kC_kind 18 fC_kind), (arI rC_parts kC_parts 18 fC_parts), (arI rC_partNodes kC_partNodes 72 fC_partNodes), (arI rC_weights kC_weights 72 fC_weights), (arI rC_weightSums kC_weightSums 18 fC_weightSums), (oc5 oS rS_worths rS_order rS_left), (arI rS_worths kS_worths 18 fS_worths), (arI rS_order kS_order 72 fS_order), (oc5 oT rT_worths rT_order rT_left), (arI rT_worths kT_worths 18 fT_worths), (arI rT_order kT_order 72 fT_order), (oc2 oH iH_breaths iH_heardBits iH_cutCount iH_halfBreaths iH_halfQuestions rH_heardWords rH_cutParts), (arI rH_heardWords kH_heardWords 512 fH_heardWords), (arI rH_cutParts kH_cutParts 512 fH_cutParts)] s.heap.size = A at hD hE ⊢
  have hA : ∀ q : Nat, s.heap.size ≤ q → A q := fun q h => by rw [← hAe]; exact Or.inr h
  have hS : va_S A s.heap s.heap [] := va_S.rf
  have hl := lv_entry ([.ref oK, .int p0, .int p1]) (n := 7) (Nat.le_of_ble_eq_true rfl)
  rw [lg_entry_eq]
  generalize (lg_sl ([.ref oK, .int p0, .int p1]) ++ List.replicate (7 - (lg_sl ([.ref oK, .int p0, .int p1])).length) Slot.unset).toArray = ls at hl ⊢
  have hl : lv_has ls 7 [(0, .ref oK), (1, .int p0), (2, .int p1)] := hl
  have hG := PX6_drawnLeast_eq iC_nodes iC_throneNode iC_unit fC_kind fC_parts fC_partNodes fC_weights fC_weightSums fS_worths fS_order fT_worths fT_order iH_breaths iH_heardBits iH_cutCount fH_heardWords fH_cutParts p0 p1
  have rg_p0 := fb_rng p0
  have rg_p1 := fb_rng p1
  refine lv_aload_n hx hb dX6_drawnLeast_0 rfl (lv_at hl 0 rfl) ?_
  refine lv_iload_n hx hb dX6_drawnLeast_1 rfl (lv_at hl 1 rfl) ?_
  refine lv_iload_n hx hb dX6_drawnLeast_2 rfl (lv_at hl 2 rfl) ?_
  have hMs := ml_of hD [true, true, false, false, false, false, false, false, false, false, false, false, false, false, false, false] (wc := [(oc6 oK oR oC oS oT rK_images iK_imageCount oA oH oL iK_refusal iK_latestFault iK_latestPlace), (oc1 oC iC_nodes iC_words iC_chances iC_unsures iC_slips iC_throneNode iC_saidWorth iC_unit rC_kind rC_parts rC_partNodes rC_weights rC_weightSums rC_toldWorths rC_steps rC_below rC_above rC_unsureWords rC_unsureWorths)]) rfl
  have hFc := va_freeM hD hS hA _ hMs
  refine va_calli (va_runV (As := [.int p0, .int p1]) (rest := []) ⟨hx, hb, hml, hown, hts⟩ (tX6_lacksDraws l dC dI _ oK oR oC oS oT rK_images iK_imageCount oA oH oL iK_refusal iK_latestFault iK_latestPlace iC_nodes iC_words iC_chances iC_unsures iC_slips iC_throneNode iC_saidWorth iC_unit rC_kind rC_parts rC_partNodes rC_weights rC_weightSums rC_toldWorths rC_steps rC_below rC_above rC_unsureWords rC_unsureWorths p0 p1 b_iK_imageCount b_iC_nodes b_iC_unsures b_iC_throneNode) (cwV 2 hts (wd_V wd_1328 wd_1329 wd_1330 wd_2 (wd_c wd_1331)) rfl rfl rfl dv_yX6_lacksDraws_2 ⟨Nat.le_of_ble_eq_true rfl, Nat.le_of_ble_eq_true rfl⟩) ⟨Pw.fb, recvX6 hK hP (q0 := 0) rfl, fun U hU hW => Pw.to (hP.ms _ hMs) (hD.ms _ hMs) (hK.ms [false, false, false, false, false, false, false, false, false, false, false] rfl) hE hS hFc hU hW⟩ rfl rfl hl.1 rfl (lv_room (Nat.le_of_ble_eq_true rfl)) dX6_drawnLeast_3 ⟨Nat.le_of_ble_eq_true rfl, Nat.le_of_ble_eq_true rfl⟩) hS (fun q _ h => hFc q h) hFc (fun r u t H locs ht hvm hw hB hz1 hk1 hS => ?_)
  have hru9 := hw.2
  have hw := hw.1
  refine ex_1_1 hB (fun x_6540 e_x_6540_0 hB => ?_)
  obtain ⟨hP, hD⟩ := Bw.goN (ws' := [(oc6 oK oR oC oS oT rK_images iK_imageCount oA oH oL x_6540 iK_latestFault iK_latestPlace), (oc1 oC iC_nodes iC_words iC_chances iC_unsures iC_slips iC_throneNode iC_saidWorth iC_unit rC_kind rC_parts rC_partNodes rC_weights rC_weightSums rC_toldWorths rC_steps rC_below rC_above rC_unsureWords rC_unsureWorths), (arI rC_kind kC_kind 18 fC_kind), (arI rC_parts kC_parts 18 fC_parts), (arI rC_partNodes kC_partNodes 72 fC_partNodes), (arI rC_weights kC_weights 72 fC_weights), (arI rC_weightSums kC_weightSums 18 fC_weightSums), (oc5 oS rS_worths rS_order rS_left), (arI rS_worths kS_worths 18 fS_worths), (arI rS_order kS_order 72 fS_order), (oc5 oT rT_worths rT_order rT_left), (arI rT_worths kT_worths 18 fT_worths), (arI rT_order kT_order 72 fT_order), (oc2 oH iH_breaths iH_heardBits iH_cutCount iH_halfBreaths iH_halfQuestions rH_heardWords rH_cutParts), (arI rH_heardWords kH_heardWords 512 fH_heardWords), (arI rH_cutParts kH_cutParts 512 fH_cutParts)]) hB rfl ht hP hD _ hMs hk1 hFc rfl
  clear hz1 hk1 hvm ht hB hMs
  have rg_x_6540 := fb_rng x_6540
  rw [← hru9] at e_x_6540_0
  rcases hw.2 with ⟨rfl, hc_6541⟩ | ⟨rfl, hc_6541⟩
  · skip
    have rg_iC_nodes := fb_rng iC_nodes
    have hG := hG.trans (un2_eq e_x_6540_0)
    have hG := hG.trans (if_pos rfl)
    refine lv_if_eq (tgt := 11) hx hb dX6_drawnLeast_6 (by decide) (fun _ => ?_) (fun c => absurd c (by decide))
    refine lv_aload_n hx hb dX6_drawnLeast_11 rfl (lv_at hl 0 rfl) ?_
    refine va_get (D := (dC, dI)) (ci := 6) (v := .ref oT) (C := RX6) (T := TX6) (N := 12) hx hb hts inX6 hown hK hP 0 rfl rfl 3 (by decide) (hts _ wd_25) (fun _ h9 => h9) rfl dX6_drawnLeast_12 ?_
    refine lv_aload_n hx hb dX6_drawnLeast_15 rfl (lv_at hl 0 rfl) ?_
    refine va_get (D := (dC, dI)) (ci := 6) (v := .ref oS) (C := RX6) (T := TX6) (N := 12) hx hb hts inX6 hown hK hP 0 rfl rfl 2 (by decide) (hts _ wd_24) (fun _ h9 => h9) rfl dX6_drawnLeast_16 ?_
    have hFc := va_free (wc := [(oc5 oT rT_worths rT_order rT_left), (arI rT_worths kT_worths 18 fT_worths), (arI rT_order kT_order 72 fT_order), (oc5 oS rS_worths rS_order rS_left), (arI rS_worths kS_worths 18 fS_worths), (arI rS_order kS_order 72 fS_order)]) hD hS hA [10, 11, 12, 7, 8, 9] rfl
    refine va_callv (va_runV (As := [.ref oS]) (rest := []) ⟨hx, hb, hml, hown, hts⟩ (tX5_copyFrom l dC dI _ oT rT_worths fT_worths kT_worths rT_order fT_order kT_order rT_left oS rS_worths fS_worths kS_worths rS_order fS_order kS_order rS_left a_fT_order a_fS_order) (cwV 1 hts (wd_V wd_1011 wd_1012 wd_1013 wd_23 (wd_c wd_1014)) rfl rfl rfl dv_yX5_copyFrom_1 ⟨Nat.le_of_ble_eq_true rfl, Nat.le_of_ble_eq_true rfl⟩) ⟨Pw.fb, recvX5 hK hP (q0 := 10) rfl, fun U hU hW => Pw.to (hP.sub [10, 11, 12, 7, 8, 9] rfl) (hD.sub [10, 11, 12, 7, 8, 9] (by decide) rfl) (hK.sub [7, 8, 5, 6] rfl) hE hS hFc hU hW⟩ rfl rfl hl.1 rfl (lv_room (Nat.le_of_ble_eq_true rfl)) dX6_drawnLeast_19 ⟨Nat.le_of_ble_eq_true rfl, Nat.le_of_ble_eq_true rfl⟩) hS (fun q _ h => hFc q h) hFc (fun u t H locs ht hvm hw hB hz1 hk1 hS => ?_)
    refine ex_2_2 hB (fun f_6544 f_6545 a_f_6545 e_f_6544_0 hB => ?_)
    obtain ⟨hP, hD, hK⟩ := Bw.go (ws' := [(oc6 oK oR oC oS oT rK_images iK_imageCount oA oH oL x_6540 iK_latestFault iK_latestPlace), (oc1 oC iC_nodes iC_words iC_chances iC_unsures iC_slips iC_throneNode iC_saidWorth iC_unit rC_kind rC_parts rC_partNodes rC_weights rC_weightSums rC_toldWorths rC_steps rC_below rC_above rC_unsureWords rC_unsureWorths), (arI rC_kind kC_kind 18 fC_kind), (arI rC_parts kC_parts 18 fC_parts), (arI rC_partNodes kC_partNodes 72 fC_partNodes), (arI rC_weights kC_weights 72 fC_weights), (arI rC_weightSums kC_weightSums 18 fC_weightSums), (oc2 oH iH_breaths iH_heardBits iH_cutCount iH_halfBreaths iH_halfQuestions rH_heardWords rH_cutParts), (arI rH_heardWords kH_heardWords 512 fH_heardWords), (arI rH_cutParts kH_cutParts 512 fH_cutParts), (oc5 oT rT_worths rT_order rT_left), (arI rT_worths kT_worths 18 f_6544), (arI rT_order kT_order 72 f_6545), (oc5 oS rS_worths rS_order rS_left), (arI rS_worths kS_worths 18 fS_worths), (arI rS_order kS_order 72 fS_order)]) (tys' := [(kC_kind, .int), (kC_parts, .int), (kC_partNodes, .int), (kC_weights, .int), (kC_weightSums, .int), (kH_heardWords, .int), (kH_cutParts, .int), (kT_worths, .int), (kT_order, .int), (kS_worths, .int), (kS_order, .int)]) hB rfl ht hvm hP hD hK [10, 11, 12, 7, 8, 9] [0, 1, 2, 3, 4, 5, 6, 13, 14, 15] rfl (by decide) (by decide) [0, 1, 2, 3, 4, 9, 10] hk1 hFc rfl rfl rfl
    clear hz1 hk1 hvm ht hB
    have hG := hG.trans (un2_eq e_f_6544_0)
    refine lv_iload_n hx hb dX6_drawnLeast_22 rfl (lv_at hl 1 rfl) ?_
    refine lv_istore_n (lv' := [(3, .int p0), (0, .ref oK), (1, .int p0), (2, .int p1)]) hx hb dX6_drawnLeast_23 rfl hl (by decide) rfl (fun ls hl => ?_)
    refine lv_iconst (v := 0) hx hb dX6_drawnLeast_24 (by decide) ?_
    refine lv_istore (lv' := [(4, .int 0), (3, .int p0), (0, .ref oK), (1, .int p0), (2, .int p1)]) hx hb dX6_drawnLeast_25 hl (by decide) rfl (fun ls hl => ?_)
    refine lv_iconst (v := 0) hx hb dX6_drawnLeast_27 (by decide) ?_
    refine lv_istore (lv' := [(5, .int 0), (4, .int 0), (3, .int p0), (0, .ref oK), (1, .int p0), (2, .int p1)]) hx hb dX6_drawnLeast_28 hl (by decide) rfl (fun ls hl => ?_)
    have hl := lv_sub hl (l' := [(5, .int 0), (4, .int 0), (3, .int p0), (0, .ref oK), (1, .int p0), (2, .int p1)]) [0, 1, 2, 3, 4, 5] rfl
    have key_n_6555 : ∀ (n_6555 : Nat) (z_6546 : Int32) (z_6547 : Int32) (z_6548 : Int32) (z_6549 : Int32) (z_6550 : Int32) (z_6551 : Int32) (f_6552 : Nat → Int32) (f_6553 : Nat → Int32) (f_6554 : Nat → Int32) (H : Heap) (locs : List Loc) (ls : Array Slot), (0 ≤ z_6549.toInt ∧ z_6549.toInt ≤ 1000000000) → (0 ≤ z_6551.toInt ∧ z_6551.toInt ≤ 1000000000) → (∀ j : Nat, j < 72 → 0 ≤ (f_6554 j).toInt ∧ (f_6554 j).toInt ≤ 3) → (0 ≤ z_6546.toInt ∧ z_6546.toInt ≤ 2147483647) → (0 ≤ z_6547.toInt ∧ z_6547.toInt ≤ 65536) → (2147483647 - z_6546.toInt).toNat < n_6555 → (PX6_drawnLeast iC_nodes iC_throneNode iC_unit fC_kind fC_parts fC_partNodes fC_weights fC_weightSums fS_worths fS_order fT_worths fT_order iH_breaths iH_heardBits iH_cutCount fH_heardWords fH_cutParts p0 p1 = HX6_drawnLeast_0 iC_nodes iC_throneNode iC_unit fC_kind fC_parts fC_partNodes fC_weights fC_weightSums fS_order p1 x_6540 f_6544 n_6555 z_6546 z_6547 z_6548 z_6549 z_6550 z_6551 f_6552 f_6553 f_6554) → va_P (dC, dI) vwCl [(oc6 oK oR oC oS oT rK_images iK_imageCount oA oH oL x_6540 iK_latestFault iK_latestPlace), (oc1 oC iC_nodes iC_words iC_chances iC_unsures iC_slips iC_throneNode iC_saidWorth iC_unit rC_kind rC_parts rC_partNodes rC_weights rC_weightSums rC_toldWorths rC_steps rC_below rC_above rC_unsureWords rC_unsureWorths), (arI rC_kind kC_kind 18 fC_kind), (arI rC_parts kC_parts 18 fC_parts), (arI rC_partNodes kC_partNodes 72 fC_partNodes), (arI rC_weights kC_weights 72 fC_weights), (arI rC_weightSums kC_weightSums 18 fC_weightSums), (oc2 oH z_6549 z_6550 z_6551 iH_halfBreaths iH_halfQuestions rH_heardWords rH_cutParts), (arI rH_heardWords kH_heardWords 512 f_6552), (arI rH_cutParts kH_cutParts 512 f_6553), (oc5 oT rT_worths rT_order rT_left), (arI rT_worths kT_worths 18 f_6544), (arI rT_order kT_order 72 f_6554), (oc5 oS rS_worths rS_order rS_left), (arI rS_worths kS_worths 18 fS_worths), (arI rS_order kS_order 72 fS_order)] H → va_D A [(oc6 oK oR oC oS oT rK_images iK_imageCount oA oH oL x_6540 iK_latestFault iK_latestPlace), (oc1 oC iC_nodes iC_words iC_chances iC_unsures iC_slips iC_throneNode iC_saidWorth iC_unit rC_kind rC_parts rC_partNodes rC_weights rC_weightSums rC_toldWorths rC_steps rC_below rC_above rC_unsureWords rC_unsureWorths), (arI rC_kind kC_kind 18 fC_kind), (arI rC_parts kC_parts 18 fC_parts), (arI rC_partNodes kC_partNodes 72 fC_partNodes), (arI rC_weights kC_weights 72 fC_weights), (arI rC_weightSums kC_weightSums 18 fC_weightSums), (oc2 oH z_6549 z_6550 z_6551 iH_halfBreaths iH_halfQuestions rH_heardWords rH_cutParts), (arI rH_heardWords kH_heardWords 512 f_6552), (arI rH_cutParts kH_cutParts 512 f_6553), (oc5 oT rT_worths rT_order rT_left), (arI rT_worths kT_worths 18 f_6544), (arI rT_order kT_order 72 f_6554), (oc5 oS rS_worths rS_order rS_left), (arI rS_worths kS_worths 18 fS_worths), (arI rS_order kS_order 72 fS_order)] → va_S A s.heap H locs → lv_has ls 7 [(5, .int z_6546), (4, .int z_6548), (3, .int z_6547), (0, .ref oK), (1, .int p0), (2, .int p1)] → W p l e (headSpec (Cond.code yX6_drawnLeast cX6_drawnLeast 7 (some .int) :: wG) ({ frames := 34, cells := 0, slots := 0, locals := 998 })).room s m ([.ref oK, .int p0, .int p1] : List Value).toArray below meth c H locs 0 0 (MQ below (va_Qi (fun (r : Int32) (u : Nat) => (True ∧ True) ∧ r = Int32.ofNat u) (fun (u : Nat) (t : State) => ∃ (niK_refusal : Int32) (nfT_worths : Nat → Int32) (nfT_order : Nat → Int32) (niH_breaths : Int32) (niH_heardBits : Int32) (niH_cutCount : Int32) (nfH_heardWords : Nat → Int32) (nfH_cutParts : Nat → Int32), (∀ j : Nat, j < 72 → 0 ≤ (nfT_order j).toInt ∧ (nfT_order j).toInt ≤ 3) ∧ (0 ≤ niH_breaths.toInt ∧ niH_breaths.toInt ≤ 1000000000) ∧ (0 ≤ niH_cutCount.toInt ∧ niH_cutCount.toInt ≤ 1000000000) ∧ (PX6_drawnLeast iC_nodes iC_throneNode iC_unit fC_kind fC_parts fC_partNodes fC_weights fC_weightSums fS_worths fS_order fT_worths fT_order iH_breaths iH_heardBits iH_cutCount fH_heardWords fH_cutParts p0 p1 = (Int32.ofNat u, niK_refusal, nfT_worths, nfT_order, niH_breaths, niH_heardBits, niH_cutCount, nfH_heardWords, nfH_cutParts)) ∧ Bw dC dI A [(oc6 oK oR oC oS oT rK_images iK_imageCount oA oH oL niK_refusal iK_latestFault iK_latestPlace), (oc1 oC iC_nodes iC_words iC_chances iC_unsures iC_slips iC_throneNode iC_saidWorth iC_unit rC_kind rC_parts rC_partNodes rC_weights rC_weightSums rC_toldWorths rC_steps rC_below rC_above rC_unsureWords rC_unsureWorths), (arI rC_kind kC_kind 18 fC_kind), (arI rC_parts kC_parts 18 fC_parts), (arI rC_partNodes kC_partNodes 72 fC_partNodes), (arI rC_weights kC_weights 72 fC_weights), (arI rC_weightSums kC_weightSums 18 fC_weightSums), (oc5 oS rS_worths rS_order rS_left), (arI rS_worths kS_worths 18 fS_worths), (arI rS_order kS_order 72 fS_order), (oc5 oT rT_worths rT_order rT_left), (arI rT_worths kT_worths 18 nfT_worths), (arI rT_order kT_order 72 nfT_order), (oc2 oH niH_breaths niH_heardBits niH_cutCount iH_halfBreaths iH_halfQuestions rH_heardWords rH_cutParts), (arI rH_heardWords kH_heardWords 512 nfH_heardWords), (arI rH_cutParts kH_cutParts 512 nfH_cutParts)] [(kC_kind, .int), (kC_parts, .int), (kC_partNodes, .int), (kC_weights, .int), (kC_weightSums, .int), (kS_worths, .int), (kS_order, .int), (kT_worths, .int), (kT_order, .int), (kH_heardWords, .int), (kH_cutParts, .int)] t) A) ([.ref oK, .int p0, .int p1] : List Value).toArray s 0 0 A) (F0 m 30 ls []) := by
      intro n_6555
      induction n_6555 with
      | zero => intro z_6546 z_6547 z_6548 z_6549 z_6550 z_6551 f_6552 f_6553 f_6554 H locs ls b_z_6549 b_z_6551 a_f_6554 hi0_n_6555 hi1_n_6555 hm; exact absurd hm (Nat.not_lt_zero _)
      | succ n_6555 ih_n_6555 =>
        intro z_6546 z_6547 z_6548 z_6549 z_6550 z_6551 f_6552 f_6553 f_6554 H locs ls b_z_6549 b_z_6551 a_f_6554 hi0_n_6555 hi1_n_6555 hm_n_6555 hG hP hD hS hl
        have hG := hG.trans (HX6_drawnLeast_0_eq _ _ _ _ _ _ _ _ _ _ _ _ _ _ _ _ _ _ _ _ _ _)
        have rg_z_6546 := fb_rng z_6546
        have rg_z_6547 := fb_rng z_6547
        have rg_z_6548 := fb_rng z_6548
        have rg_z_6549 := fb_rng z_6549
        have rg_z_6550 := fb_rng z_6550
        have rg_z_6551 := fb_rng z_6551
        refine lv_iload hx hb dX6_drawnLeast_30 (lv_at hl 0 rfl) ?_
        refine lv_iload_n hx hb dX6_drawnLeast_32 rfl (lv_at hl 5 rfl) ?_
        refine lv_icmp_ge (tgt := 81) hx hb dX6_drawnLeast_33 (by decide) (fun c_6556 => ?_) (fun c_6556 => ?_)
        · skip
          have hG := hG.trans (if_pos c_6556)
          have gc_6556 := ti_le c_6556 rfl rfl
          refine lv_iload hx hb dX6_drawnLeast_81 (lv_at hl 1 rfl) ?_
          exact wq_i hx hb hr (cI z_6548) ⟨⟨trivial, trivial⟩, (cI_of z_6548)⟩ (fun t ht hW => ⟨x_6540, f_6544, f_6554, z_6549, z_6550, z_6551, f_6552, f_6553, a_f_6554, b_z_6549, b_z_6551, (cI_tup hG), Bw.to (hP.sub [0, 1, 2, 3, 4, 5, 6, 13, 14, 15, 10, 11, 12, 7, 8, 9] rfl) (hD.sub [0, 1, 2, 3, 4, 5, 6, 13, 14, 15, 10, 11, 12, 7, 8, 9] (by decide) rfl) (hK.sub [0, 1, 2, 3, 4, 9, 10, 7, 8, 5, 6] rfl) ht hW⟩) hS dX6_drawnLeast_83 hlocks
        · skip
          have hG := hG.trans (if_neg c_6556)
          have gc_6556 := ti_nle c_6556 rfl rfl
          refine lv_aload_n hx hb dX6_drawnLeast_36 rfl (lv_at hl 3 rfl) ?_
          refine lv_iload_n hx hb dX6_drawnLeast_37 rfl (lv_at hl 2 rfl) ?_
          have hFc := va_free (wc := [(oc6 oK oR oC oS oT rK_images iK_imageCount oA oH oL x_6540 iK_latestFault iK_latestPlace), (oc1 oC iC_nodes iC_words iC_chances iC_unsures iC_slips iC_throneNode iC_saidWorth iC_unit rC_kind rC_parts rC_partNodes rC_weights rC_weightSums rC_toldWorths rC_steps rC_below rC_above rC_unsureWords rC_unsureWorths), (arI rC_parts kC_parts 18 fC_parts), (oc5 oS rS_worths rS_order rS_left), (arI rS_order kS_order 72 fS_order), (oc5 oT rT_worths rT_order rT_left), (arI rT_order kT_order 72 f_6554)]) hD hS hA [0, 1, 3, 13, 15, 10, 12] rfl
          refine va_calli (va_runV (As := [.int z_6547]) (rest := []) ⟨hx, hb, hml, hown, hts⟩ (tX6_drawOrders l dC dI _ oK oR oC oS oT rK_images iK_imageCount oA oH oL x_6540 iK_latestFault iK_latestPlace iC_nodes iC_words iC_chances iC_unsures iC_slips iC_throneNode iC_saidWorth iC_unit rC_kind rC_parts fC_parts kC_parts rC_partNodes rC_weights rC_weightSums rC_toldWorths rC_steps rC_below rC_above rC_unsureWords rC_unsureWorths rS_worths rS_order fS_order kS_order rS_left rT_worths rT_order f_6554 kT_order rT_left z_6547 b_iK_imageCount b_iC_nodes b_iC_unsures b_iC_throneNode a_fC_parts a_fS_order a_f_6554 ⟨hi1_n_6555.1, hi1_n_6555.2⟩) (cwV 1 hts (wd_V wd_1333 wd_1334 wd_1335 wd_2 (wd_c wd_1336)) rfl rfl rfl dv_yX6_drawOrders_1 ⟨Nat.le_of_ble_eq_true rfl, Nat.le_of_ble_eq_true rfl⟩) ⟨Pw.fb, recvX6 hK hP (q0 := 0) rfl, fun U hU hW => Pw.to (hP.sub [0, 1, 3, 13, 15, 10, 12] rfl) (hD.sub [0, 1, 3, 13, 15, 10, 12] (by decide) rfl) (hK.sub [1, 10, 8] rfl) hE hS hFc hU hW⟩ rfl rfl hl.1 rfl (lv_room (Nat.le_of_ble_eq_true rfl)) dX6_drawnLeast_38 ⟨Nat.le_of_ble_eq_true rfl, Nat.le_of_ble_eq_true rfl⟩) hS (fun q _ h => hFc q h) hFc (fun r u t H locs ht hvm hw hB hz1 hk1 hS => ?_)
          have hru9 := hw.2
          have hw := hw.1
          refine ex_1_2 hB (fun f_6557 a_f_6557 e_f_6557_0 hB => ?_)
          obtain ⟨hP, hD, hK⟩ := Bw.go (ws' := [(arI rC_kind kC_kind 18 fC_kind), (arI rC_partNodes kC_partNodes 72 fC_partNodes), (arI rC_weights kC_weights 72 fC_weights), (arI rC_weightSums kC_weightSums 18 fC_weightSums), (oc2 oH z_6549 z_6550 z_6551 iH_halfBreaths iH_halfQuestions rH_heardWords rH_cutParts), (arI rH_heardWords kH_heardWords 512 f_6552), (arI rH_cutParts kH_cutParts 512 f_6553), (arI rT_worths kT_worths 18 f_6544), (arI rS_worths kS_worths 18 fS_worths), (oc6 oK oR oC oS oT rK_images iK_imageCount oA oH oL x_6540 iK_latestFault iK_latestPlace), (oc1 oC iC_nodes iC_words iC_chances iC_unsures iC_slips iC_throneNode iC_saidWorth iC_unit rC_kind rC_parts rC_partNodes rC_weights rC_weightSums rC_toldWorths rC_steps rC_below rC_above rC_unsureWords rC_unsureWorths), (arI rC_parts kC_parts 18 fC_parts), (oc5 oS rS_worths rS_order rS_left), (arI rS_order kS_order 72 fS_order), (oc5 oT rT_worths rT_order rT_left), (arI rT_order kT_order 72 f_6557)]) (tys' := [(kC_kind, .int), (kC_partNodes, .int), (kC_weights, .int), (kC_weightSums, .int), (kH_heardWords, .int), (kH_cutParts, .int), (kT_worths, .int), (kS_worths, .int), (kC_parts, .int), (kS_order, .int), (kT_order, .int)]) hB rfl ht hvm hP hD hK [0, 1, 3, 13, 15, 10, 12] [2, 4, 5, 6, 7, 8, 9, 11, 14] rfl (by decide) (by decide) [0, 2, 3, 4, 5, 6, 7, 9] hk1 hFc rfl rfl rfl
          clear hz1 hk1 hvm ht hB
          rw [← hru9] at e_f_6557_0
          obtain ⟨x_6558, rfl⟩ : ∃ z, z = r := ⟨_, rfl⟩
          have hG := hG.trans (un2_eq e_f_6557_0)
          have rg_x_6558 := fb_rng x_6558
          have ux_6558 := hw.2
          refine lv_istore_n (lv' := [(3, .int x_6558), (5, .int z_6546), (4, .int z_6548), (0, .ref oK), (1, .int p0), (2, .int p1)]) hx hb dX6_drawnLeast_41 rfl hl (by decide) rfl (fun ls hl => ?_)
          refine lv_aload_n hx hb dX6_drawnLeast_42 rfl (lv_at hl 3 rfl) ?_
          refine va_get (D := (dC, dI)) (ci := 6) (v := .ref oH) (C := RX6) (T := TX6) (N := 12) hx hb hts inX6 hown hK hP 9 rfl rfl 7 (by decide) (hts _ wd_34) (fun _ h9 => h9) rfl dX6_drawnLeast_43 ?_
          refine lv_aload_n hx hb dX6_drawnLeast_46 rfl (lv_at hl 3 rfl) ?_
          refine va_get (D := (dC, dI)) (ci := 6) (v := .ref oC) (C := RX6) (T := TX6) (N := 12) hx hb hts inX6 hown hK hP 9 rfl rfl 1 (by decide) (hts _ wd_20) (fun _ h9 => h9) rfl dX6_drawnLeast_47 ?_
          refine lv_aload_n hx hb dX6_drawnLeast_50 rfl (lv_at hl 3 rfl) ?_
          refine va_get (D := (dC, dI)) (ci := 6) (v := .ref oT) (C := RX6) (T := TX6) (N := 12) hx hb hts inX6 hown hK hP 9 rfl rfl 3 (by decide) (hts _ wd_25) (fun _ h9 => h9) rfl dX6_drawnLeast_51 ?_
          have hFc := va_free (wc := [(oc2 oH z_6549 z_6550 z_6551 iH_halfBreaths iH_halfQuestions rH_heardWords rH_cutParts), (arI rH_heardWords kH_heardWords 512 f_6552), (arI rH_cutParts kH_cutParts 512 f_6553), (oc1 oC iC_nodes iC_words iC_chances iC_unsures iC_slips iC_throneNode iC_saidWorth iC_unit rC_kind rC_parts rC_partNodes rC_weights rC_weightSums rC_toldWorths rC_steps rC_below rC_above rC_unsureWords rC_unsureWorths), (arI rC_kind kC_kind 18 fC_kind), (arI rC_parts kC_parts 18 fC_parts), (arI rC_partNodes kC_partNodes 72 fC_partNodes), (arI rC_weights kC_weights 72 fC_weights), (arI rC_weightSums kC_weightSums 18 fC_weightSums), (oc5 oT rT_worths rT_order rT_left), (arI rT_worths kT_worths 18 f_6544), (arI rT_order kT_order 72 f_6557)]) hD hS hA [4, 5, 6, 10, 0, 11, 1, 2, 3, 14, 7, 15] rfl
          refine va_calli (va_runV (As := [.ref oC, .ref oT]) (rest := []) ⟨hx, hb, hml, hown, hts⟩ (tX2_breathsFreely l dC dI _ oH z_6549 z_6550 z_6551 iH_halfBreaths iH_halfQuestions rH_heardWords f_6552 kH_heardWords rH_cutParts f_6553 kH_cutParts oC iC_nodes iC_words iC_chances iC_unsures iC_slips iC_throneNode iC_saidWorth iC_unit rC_kind fC_kind kC_kind rC_parts fC_parts kC_parts rC_partNodes fC_partNodes kC_partNodes rC_weights fC_weights kC_weights rC_weightSums fC_weightSums kC_weightSums rC_toldWorths rC_steps rC_below rC_above rC_unsureWords rC_unsureWorths oT rT_worths f_6544 kT_worths rT_order f_6557 kT_order rT_left b_z_6549 b_z_6551 b_iC_nodes b_iC_unsures b_iC_throneNode a_fC_parts a_fC_partNodes a_f_6557) (cwV 2 hts (wd_V wd_714 wd_715 wd_716 wd_33 (wd_c wd_717)) rfl rfl rfl dv_yX2_breathsFreely_2 ⟨Nat.le_of_ble_eq_true rfl, Nat.le_of_ble_eq_true rfl⟩) ⟨Pw.fb, recvX2 hK hP (q0 := 4) rfl, fun U hU hW => Pw.to (hP.sub [4, 5, 6, 10, 0, 11, 1, 2, 3, 14, 7, 15] rfl) (hD.sub [4, 5, 6, 10, 0, 11, 1, 2, 3, 14, 7, 15] (by decide) rfl) (hK.sub [4, 5, 0, 8, 1, 2, 3, 6, 10] rfl) hE hS hFc hU hW⟩ rfl rfl hl.1 rfl (lv_room (Nat.le_of_ble_eq_true rfl)) dX6_drawnLeast_54 ⟨Nat.le_of_ble_eq_true rfl, Nat.le_of_ble_eq_true rfl⟩) hS (fun q _ h => hFc q h) hFc (fun r u t H locs ht hvm hw hB hz1 hk1 hS => ?_)
          have hru9 := hw.2
          have hw := hw.1
          refine ex_5_3 hB (fun x_6559 x_6560 x_6561 f_6562 f_6563 b_x_6559 b_x_6561 e_x_6559_0 hB => ?_)
          obtain ⟨hP, hD, hK⟩ := Bw.go (ws' := [(arI rS_worths kS_worths 18 fS_worths), (oc6 oK oR oC oS oT rK_images iK_imageCount oA oH oL x_6540 iK_latestFault iK_latestPlace), (oc5 oS rS_worths rS_order rS_left), (arI rS_order kS_order 72 fS_order), (oc2 oH x_6559 x_6560 x_6561 iH_halfBreaths iH_halfQuestions rH_heardWords rH_cutParts), (arI rH_heardWords kH_heardWords 512 f_6562), (arI rH_cutParts kH_cutParts 512 f_6563), (oc1 oC iC_nodes iC_words iC_chances iC_unsures iC_slips iC_throneNode iC_saidWorth iC_unit rC_kind rC_parts rC_partNodes rC_weights rC_weightSums rC_toldWorths rC_steps rC_below rC_above rC_unsureWords rC_unsureWorths), (arI rC_kind kC_kind 18 fC_kind), (arI rC_parts kC_parts 18 fC_parts), (arI rC_partNodes kC_partNodes 72 fC_partNodes), (arI rC_weights kC_weights 72 fC_weights), (arI rC_weightSums kC_weightSums 18 fC_weightSums), (oc5 oT rT_worths rT_order rT_left), (arI rT_worths kT_worths 18 f_6544), (arI rT_order kT_order 72 f_6557)]) (tys' := [(kS_worths, .int), (kS_order, .int), (kH_heardWords, .int), (kH_cutParts, .int), (kC_kind, .int), (kC_parts, .int), (kC_partNodes, .int), (kC_weights, .int), (kC_weightSums, .int), (kT_worths, .int), (kT_order, .int)]) hB rfl ht hvm hP hD hK [4, 5, 6, 10, 0, 11, 1, 2, 3, 14, 7, 15] [8, 9, 12, 13] rfl (by decide) (by decide) [7, 9] hk1 hFc rfl rfl rfl
          clear hz1 hk1 hvm ht hB
          have rg_x_6559 := fb_rng x_6559
          have rg_x_6560 := fb_rng x_6560
          have rg_x_6561 := fb_rng x_6561
          rw [← hru9] at e_x_6559_0
          obtain ⟨x_6564, rfl⟩ : ∃ z, z = r := ⟨_, rfl⟩
          have hG := hG.trans (un6_eq e_x_6559_0)
          have rg_x_6564 := fb_rng x_6564
          refine lv_istore (lv' := [(6, .int x_6564), (3, .int x_6558), (5, .int z_6546), (4, .int z_6548), (0, .ref oK), (1, .int p0), (2, .int p1)]) hx hb dX6_drawnLeast_57 hl (by decide) rfl (fun ls hl => ?_)
          refine lv_iload hx hb dX6_drawnLeast_59 (lv_at hl 2 rfl) ?_
          refine lv_if_eq (tgt := 71) hx hb dX6_drawnLeast_61 (by decide) (fun c_6565 => ?_) (fun c_6565 => ?_)
          · skip
            have hG := hG.trans (if_pos c_6565)
            have gc_6565 := ti_eq c_6565 rfl kc_0
            refine lv_iload hx hb dX6_drawnLeast_71 (lv_at hl 0 rfl) ?_
            refine lv_istore (lv' := [(4, .int x_6564), (6, .int x_6564), (3, .int x_6558), (5, .int z_6546), (0, .ref oK), (1, .int p0), (2, .int p1)]) hx hb dX6_drawnLeast_73 hl (by decide) rfl (fun ls hl => ?_)
            obtain ⟨x_6566, ex_6566⟩ : ∃ z : Int32, z = z_6546 + Int32.ofInt 1 := ⟨_, rfl⟩
            have hG := hG.trans (lt_eq ex_6566)
            have vx_6566 : x_6566.toInt = z_6546.toInt + 1 := ti_add (y := 1) ex_6566 rfl kc_1 (om_4e4fce7e hi0_n_6555.1) (om_f4fb5b9a gc_6565)
            refine lv_iinc (v := x_6566) (lv' := [(5, .int x_6566), (4, .int x_6564), (6, .int x_6564), (3, .int x_6558), (0, .ref oK), (1, .int p0), (2, .int p1)]) hx hb dX6_drawnLeast_75 hl (k := 3) rfl ex_6566.symm (by decide) rfl (fun ls hl => ?_)
            refine lv_goto (tgt := 30) hx hb dX6_drawnLeast_78 (by decide) ?_
            exact ih_n_6555 x_6566 x_6558 x_6564 x_6559 x_6560 x_6561 f_6562 f_6563 f_6557 _ _ _ b_x_6559 b_x_6561 a_f_6557 ⟨(om_83b90de5 hi0_n_6555.1 vx_6566), (om_b8edbab1 gc_6565 vx_6566)⟩ ⟨ux_6558.1, ux_6558.2⟩ (ms_lt hm_n_6555 (om_b9393183 vx_6566) (om_ec9d7b39 gc_6565)) hG (hP.sub [1, 7, 8, 9, 10, 11, 12, 4, 5, 6, 13, 14, 15, 2, 0, 3] rfl) (hD.sub [1, 7, 8, 9, 10, 11, 12, 4, 5, 6, 13, 14, 15, 2, 0, 3] (by decide) rfl) hS (lv_sub hl [0, 1, 3, 4, 5, 6] rfl)
          · skip
            have hG := hG.trans (if_neg c_6565)
            have gc_6565 := ti_ne c_6565 rfl kc_0
            refine lv_iload hx hb dX6_drawnLeast_64 (lv_at hl 0 rfl) ?_
            refine lv_iload hx hb dX6_drawnLeast_66 (lv_at hl 3 rfl) ?_
            refine lv_icmp_ge (tgt := 75) hx hb dX6_drawnLeast_68 (by decide) (fun c_6567 => ?_) (fun c_6567 => ?_)
            · skip
              have hG := hG.trans (if_pos c_6567)
              have gc_6567 := ti_le c_6567 rfl rfl
              obtain ⟨x_6568, ex_6568⟩ : ∃ z : Int32, z = z_6546 + Int32.ofInt 1 := ⟨_, rfl⟩
              have hG := hG.trans (lt_eq ex_6568)
              have vx_6568 : x_6568.toInt = z_6546.toInt + 1 := ti_add (y := 1) ex_6568 rfl kc_1 (om_4e4fce7e hi0_n_6555.1) (om_219cd8d8 rg_p1.2 gc_6556)
              refine lv_iinc (v := x_6568) (lv' := [(5, .int x_6568), (6, .int x_6564), (3, .int x_6558), (4, .int z_6548), (0, .ref oK), (1, .int p0), (2, .int p1)]) hx hb dX6_drawnLeast_75 hl (k := 2) rfl ex_6568.symm (by decide) rfl (fun ls hl => ?_)
              refine lv_goto (tgt := 30) hx hb dX6_drawnLeast_78 (by decide) ?_
              exact ih_n_6555 x_6568 x_6558 z_6548 x_6559 x_6560 x_6561 f_6562 f_6563 f_6557 _ _ _ b_x_6559 b_x_6561 a_f_6557 ⟨(om_83b90de5 hi0_n_6555.1 vx_6568), (om_5c6bfac3 rg_p1.2 gc_6556 vx_6568)⟩ ⟨ux_6558.1, ux_6558.2⟩ (ms_lt hm_n_6555 (om_b9393183 vx_6568) (om_bc4d5040 rg_p1.2 gc_6556)) hG (hP.sub [1, 7, 8, 9, 10, 11, 12, 4, 5, 6, 13, 14, 15, 2, 0, 3] rfl) (hD.sub [1, 7, 8, 9, 10, 11, 12, 4, 5, 6, 13, 14, 15, 2, 0, 3] (by decide) rfl) hS (lv_sub hl [0, 3, 2, 4, 5, 6] rfl)
            · skip
              have hG := hG.trans (if_neg c_6567)
              have gc_6567 := ti_nle c_6567 rfl rfl
              refine lv_iload hx hb dX6_drawnLeast_71 (lv_at hl 0 rfl) ?_
              refine lv_istore (lv' := [(4, .int x_6564), (6, .int x_6564), (3, .int x_6558), (5, .int z_6546), (0, .ref oK), (1, .int p0), (2, .int p1)]) hx hb dX6_drawnLeast_73 hl (by decide) rfl (fun ls hl => ?_)
              obtain ⟨x_6569, ex_6569⟩ : ∃ z : Int32, z = z_6546 + Int32.ofInt 1 := ⟨_, rfl⟩
              have hG := hG.trans (lt_eq ex_6569)
              have vx_6569 : x_6569.toInt = z_6546.toInt + 1 := ti_add (y := 1) ex_6569 rfl kc_1 (om_4e4fce7e hi0_n_6555.1) (om_219cd8d8 rg_p1.2 gc_6556)
              refine lv_iinc (v := x_6569) (lv' := [(5, .int x_6569), (4, .int x_6564), (6, .int x_6564), (3, .int x_6558), (0, .ref oK), (1, .int p0), (2, .int p1)]) hx hb dX6_drawnLeast_75 hl (k := 3) rfl ex_6569.symm (by decide) rfl (fun ls hl => ?_)
              refine lv_goto (tgt := 30) hx hb dX6_drawnLeast_78 (by decide) ?_
              exact ih_n_6555 x_6569 x_6558 x_6564 x_6559 x_6560 x_6561 f_6562 f_6563 f_6557 _ _ _ b_x_6559 b_x_6561 a_f_6557 ⟨(om_83b90de5 hi0_n_6555.1 vx_6569), (om_5c6bfac3 rg_p1.2 gc_6556 vx_6569)⟩ ⟨ux_6558.1, ux_6558.2⟩ (ms_lt hm_n_6555 (om_b9393183 vx_6569) (om_bc4d5040 rg_p1.2 gc_6556)) hG (hP.sub [1, 7, 8, 9, 10, 11, 12, 4, 5, 6, 13, 14, 15, 2, 0, 3] rfl) (hD.sub [1, 7, 8, 9, 10, 11, 12, 4, 5, 6, 13, 14, 15, 2, 0, 3] (by decide) rfl) hS (lv_sub hl [0, 1, 3, 4, 5, 6] rfl)
    exact key_n_6555 (((2147483647 - (0 : Int32).toInt).toNat) + 1) 0 p0 0 iH_breaths iH_heardBits iH_cutCount fH_heardWords fH_cutParts f_6545 _ _ _ b_iH_breaths b_iH_cutCount a_f_6545 ⟨(om_b1de7dbe kc_0), (om_daf17c64 kc_0)⟩ ⟨hc_6541.2.1, hc_6541.2.2⟩ (Nat.lt_add_one _) hG hP hD hS hl
  · skip
    have hG := hG.trans (un2_eq e_x_6540_0)
    have hG := hG.trans (if_neg (by decide))
    refine lv_if_eq (tgt := 11) hx hb dX6_drawnLeast_6 (by decide) (fun c => absurd c (by decide)) (fun _ => ?_)
    refine lv_iconst (v := (-1)) hx hb dX6_drawnLeast_9 (by decide) ?_
    exact wq_i hx hb hr (cI (-1)) ⟨⟨trivial, trivial⟩, (cI_of (-1))⟩ (fun t ht hW => ⟨x_6540, fT_worths, fT_order, iH_breaths, iH_heardBits, iH_cutCount, fH_heardWords, fH_cutParts, a_fT_order, b_iH_breaths, b_iH_cutCount, (cI_tup hG), Bw.to hP hD hK ht hW⟩) hS dX6_drawnLeast_10 hlocks
set_option maxHeartbeats 4000000 in
set_option maxRecDepth 100000 in
theorem tX6_say (l : Launch) (dC : Nat → ClassId) (dI : Nat → Nat → Nat) (sz : Nat) (oK : Nat) (oR : Nat) (oC : Nat) (oS : Nat) (oT : Nat) (rK_images : Nat) (iK_imageCount : Int32) (oA : Nat) (oH : Nat) (oL : Nat) (iK_refusal : Int32) (iK_latestFault : Int32) (iK_latestPlace : Int32) (iC_nodes : Int32) (iC_words : Int32) (iC_chances : Int32) (iC_unsures : Int32) (iC_slips : Int32) (iC_throneNode : Int32) (iC_saidWorth : Int32) (iC_unit : Int32) (rC_kind : Nat) (fC_kind : Nat → Int32) (kC_kind : ClassId) (rC_parts : Nat) (rC_partNodes : Nat) (rC_weights : Nat) (rC_weightSums : Nat) (rC_toldWorths : Nat) (rC_steps : Nat) (rC_below : Nat) (rC_above : Nat) (rC_unsureWords : Nat) (rC_unsureWorths : Nat) (rS_worths : Nat) (fS_worths : Nat → Int32) (kS_worths : ClassId) (rS_order : Nat) (rS_left : Nat) (iA_count : Int32) (rA_nodes : Nat) (fA_nodes : Nat → Int32) (kA_nodes : ClassId) (rA_olds : Nat) (fA_olds : Nat → Int32) (kA_olds : ClassId) (rA_says : Nat) (fA_says : Nat → Int32) (kA_says : ClassId) (p0 : Int32) (p1 : Int32) (b_iK_imageCount : 0 ≤ iK_imageCount.toInt ∧ iK_imageCount.toInt ≤ 3) (b_iC_nodes : 0 ≤ iC_nodes.toInt ∧ iC_nodes.toInt ≤ 18) (b_iC_unsures : 0 ≤ iC_unsures.toInt ∧ iC_unsures.toInt ≤ 4) (b_iC_throneNode : (-1) ≤ iC_throneNode.toInt ∧ iC_throneNode.toInt ≤ 17) (b_iA_count : 0 ≤ iA_count.toInt ∧ iA_count.toInt ≤ 16) (a_fA_nodes : ∀ j : Nat, j < 16 → 0 ≤ (fA_nodes j).toInt ∧ (fA_nodes j).toInt ≤ 17) (a_fA_says : ∀ j : Nat, j < 16 → 0 ≤ (fA_says j).toInt ∧ (fA_says j).toInt ≤ 1) (r_A : ∀ j : Nat, j < 16 → fA_says j = 0 → 0 ≤ (fA_olds j).toInt ∧ (fA_olds j).toInt ≤ 3)  : Met l yX6_say (Cond.code yX6_say cX6_say 3 (some .boolean) :: wG) ({ frames := 3, cells := 0, slots := 0, locals := 63 }) (va_Pc [.ref oK, .int p0, .int p1] (Pw dC dI sz [(oc6 oK oR oC oS oT rK_images iK_imageCount oA oH oL iK_refusal iK_latestFault iK_latestPlace), (oc1 oC iC_nodes iC_words iC_chances iC_unsures iC_slips iC_throneNode iC_saidWorth iC_unit rC_kind rC_parts rC_partNodes rC_weights rC_weightSums rC_toldWorths rC_steps rC_below rC_above rC_unsureWords rC_unsureWorths), (arI rC_kind kC_kind 18 fC_kind), (oc5 oS rS_worths rS_order rS_left), (arI rS_worths kS_worths 18 fS_worths), (oc0 oA iA_count rA_nodes rA_olds rA_says), (arI rA_nodes kA_nodes 16 fA_nodes), (arI rA_olds kA_olds 16 fA_olds), (arI rA_says kA_says 16 fA_says)] [(kC_kind, .int), (kS_worths, .int), (kA_nodes, .int), (kA_olds, .int), (kA_says, .boolean)])) (va_Qi (fun (r : Int32) (u : Nat) => ((r = 0 ∨ r = 1) ∧ True) ∧ r = Int32.ofNat u) (fun (u : Nat) (t : State) => ∃ (niK_refusal : Int32) (nfS_worths : Nat → Int32) (niA_count : Int32) (nfA_nodes : Nat → Int32) (nfA_olds : Nat → Int32) (nfA_says : Nat → Int32), (0 ≤ niA_count.toInt ∧ niA_count.toInt ≤ 16) ∧ (∀ j : Nat, j < 16 → 0 ≤ (nfA_nodes j).toInt ∧ (nfA_nodes j).toInt ≤ 17) ∧ (∀ j : Nat, j < 16 → 0 ≤ (nfA_says j).toInt ∧ (nfA_says j).toInt ≤ 1) ∧ (PX6_say iC_nodes fC_kind fS_worths iA_count fA_nodes fA_olds fA_says p0 p1 = (Int32.ofNat u, niK_refusal, nfS_worths, niA_count, nfA_nodes, nfA_olds, nfA_says)) ∧ Bw dC dI (va_A [(oc6 oK oR oC oS oT rK_images iK_imageCount oA oH oL iK_refusal iK_latestFault iK_latestPlace), (oc1 oC iC_nodes iC_words iC_chances iC_unsures iC_slips iC_throneNode iC_saidWorth iC_unit rC_kind rC_parts rC_partNodes rC_weights rC_weightSums rC_toldWorths rC_steps rC_below rC_above rC_unsureWords rC_unsureWorths), (arI rC_kind kC_kind 18 fC_kind), (oc5 oS rS_worths rS_order rS_left), (arI rS_worths kS_worths 18 fS_worths), (oc0 oA iA_count rA_nodes rA_olds rA_says), (arI rA_nodes kA_nodes 16 fA_nodes), (arI rA_olds kA_olds 16 fA_olds), (arI rA_says kA_says 16 fA_says)] sz) [(oc6 oK oR oC oS oT rK_images iK_imageCount oA oH oL niK_refusal iK_latestFault iK_latestPlace), (oc1 oC iC_nodes iC_words iC_chances iC_unsures iC_slips iC_throneNode iC_saidWorth iC_unit rC_kind rC_parts rC_partNodes rC_weights rC_weightSums rC_toldWorths rC_steps rC_below rC_above rC_unsureWords rC_unsureWorths), (arI rC_kind kC_kind 18 fC_kind), (oc5 oS rS_worths rS_order rS_left), (arI rS_worths kS_worths 18 nfS_worths), (oc0 oA niA_count rA_nodes rA_olds rA_says), (arI rA_nodes kA_nodes 16 nfA_nodes), (arI rA_olds kA_olds 16 nfA_olds), (arI rA_says kA_says 16 nfA_says)] [(kC_kind, .int), (kS_worths, .int), (kA_nodes, .int), (kA_olds, .int), (kA_says, .boolean)] t) (va_A [(oc6 oK oR oC oS oT rK_images iK_imageCount oA oH oL iK_refusal iK_latestFault iK_latestPlace), (oc1 oC iC_nodes iC_words iC_chances iC_unsures iC_slips iC_throneNode iC_saidWorth iC_unit rC_kind rC_parts rC_partNodes rC_weights rC_weightSums rC_toldWorths rC_steps rC_below rC_above rC_unsureWords rC_unsureWorths), (arI rC_kind kC_kind 18 fC_kind), (oc5 oS rS_worths rS_order rS_left), (arI rS_worths kS_worths 18 fS_worths), (oc0 oA iA_count rA_nodes rA_olds rA_says), (arI rA_nodes kA_nodes 16 fA_nodes), (arI rA_olds kA_olds 16 fA_olds), (arI rA_says kA_says 16 fA_says)] sz)) 0 0 (va_A [(oc6 oK oR oC oS oT rK_images iK_imageCount oA oH oL iK_refusal iK_latestFault iK_latestPlace), (oc1 oC iC_nodes iC_words iC_chances iC_unsures iC_slips iC_throneNode iC_saidWorth iC_unit rC_kind rC_parts rC_partNodes rC_weights rC_weightSums rC_toldWorths rC_steps rC_below rC_above rC_unsureWords rC_unsureWorths), (arI rC_kind kC_kind 18 fC_kind), (oc5 oS rS_worths rS_order rS_left), (arI rS_worths kS_worths 18 fS_worths), (oc0 oA iA_count rA_nodes rA_olds rA_says), (arI rA_nodes kA_nodes 16 fA_nodes), (arI rA_olds kA_olds 16 fA_olds), (arI rA_says kA_says 16 fA_says)] sz) := by
  refine Met.ofW (cc := cX6_say) (maxL := 3) (ret := (some .boolean)) pnX6 rfl ?_
  intro p e s m args below meth c s₁ B hml hv
  obtain ⟨rfl, hsz, hP, hK, hD0, hE⟩ := hv
  have hx := B.exec
  have hb := B.bytes
  have hr := B.returns
  have hts : ∀ w ∈ wG, w.before ([.ref oK, .int p0, .int p1] : List Value).toArray s = true := fun w h => atoms_spec (ws := Cond.code yX6_say cX6_say 3 (some .boolean) :: wG) B.pre w (List.mem_cons_of_mem _ h)
  have hown : s.vm.findClass RX6 = some m.cls := own_of B.named rfl
  have hlocks := B.notSynchronized
  subst hsz
  have hD := hD0.self (sz := s.heap.size)
  generalize hAe : va_A [(oc6 oK oR oC oS oT rK_images iK_imageCount oA oH oL iK_refusal iK_latestFault iK_latestPlace), (oc1 oC iC_nodes iC_words iC_chances iC_unsures iC_slips iC_throneNode iC_saidWorth iC_unit rC_kind rC_parts rC_partNodes rC_weights rC_weightSums rC_toldWorths rC_steps rC_below rC_above rC_unsureWords rC_unsureWorths), (arI rC_kind kC_kind 18 fC_kind), (oc5 oS rS_worths rS_order rS_left), (arI rS_worths kS_worths 18 fS_worths), (oc0 oA iA_count rA_nodes rA_olds rA_says), (arI rA_nodes kA_nodes 16 fA_nodes), (arI rA_olds kA_olds 16 fA_olds), (arI rA_says kA_says 16 fA_says)] s.heap.size = A at hD hE ⊢
  have hA : ∀ q : Nat, s.heap.size ≤ q → A q := fun q h => by rw [← hAe]; exact Or.inr h
  have hS : va_S A s.heap s.heap [] := va_S.rf
  have hl := lv_entry ([.ref oK, .int p0, .int p1]) (n := 3) (Nat.le_of_ble_eq_true rfl)
  rw [lg_entry_eq]
  generalize (lg_sl ([.ref oK, .int p0, .int p1]) ++ List.replicate (3 - (lg_sl ([.ref oK, .int p0, .int p1])).length) Slot.unset).toArray = ls at hl ⊢
  have hl : lv_has ls 3 [(0, .ref oK), (1, .int p0), (2, .int p1)] := hl
  have hG := PX6_say_eq iC_nodes fC_kind fS_worths iA_count fA_nodes fA_olds fA_says p0 p1
  refine lv_aload_n hx hb dX6_say_0 rfl (lv_at hl 0 rfl) ?_
  refine lv_iload_n hx hb dX6_say_1 rfl (lv_at hl 1 rfl) ?_
  have hMs := ml_of hD [true, true, true, false, false, false, false, false, false] (wc := [(oc6 oK oR oC oS oT rK_images iK_imageCount oA oH oL iK_refusal iK_latestFault iK_latestPlace), (oc1 oC iC_nodes iC_words iC_chances iC_unsures iC_slips iC_throneNode iC_saidWorth iC_unit rC_kind rC_parts rC_partNodes rC_weights rC_weightSums rC_toldWorths rC_steps rC_below rC_above rC_unsureWords rC_unsureWorths), (arI rC_kind kC_kind 18 fC_kind)]) rfl
  have hFc := va_freeM hD hS hA _ hMs
  refine va_calli (va_runV (As := [.int p0]) (rest := []) ⟨hx, hb, hml, hown, hts⟩ (tX6_lacksWord l dC dI _ oK oR oC oS oT rK_images iK_imageCount oA oH oL iK_refusal iK_latestFault iK_latestPlace iC_nodes iC_words iC_chances iC_unsures iC_slips iC_throneNode iC_saidWorth iC_unit rC_kind fC_kind kC_kind rC_parts rC_partNodes rC_weights rC_weightSums rC_toldWorths rC_steps rC_below rC_above rC_unsureWords rC_unsureWorths p0 b_iK_imageCount b_iC_nodes b_iC_unsures b_iC_throneNode) (cwV 1 hts (wd_V wd_1116 wd_1117 wd_1118 wd_2 (wd_c wd_1119)) rfl rfl rfl dv_yX6_lacksWord_1 ⟨Nat.le_of_ble_eq_true rfl, Nat.le_of_ble_eq_true rfl⟩) ⟨Pw.fb, recvX6 hK hP (q0 := 0) rfl, fun U hU hW => Pw.to (hP.ms _ hMs) (hD.ms _ hMs) (hK.ms [true, false, false, false, false] rfl) hE hS hFc hU hW⟩ rfl rfl hl.1 rfl (lv_room (Nat.le_of_ble_eq_true rfl)) dX6_say_2 ⟨Nat.le_of_ble_eq_true rfl, Nat.le_of_ble_eq_true rfl⟩) hS (fun q _ h => hFc q h) hFc (fun r u t H locs ht hvm hw hB hz1 hk1 hS => ?_)
  have hru9 := hw.2
  have hw := hw.1
  refine ex_1_2 hB (fun x_6587 b_x_6587 e_x_6587_0 hB => ?_)
  obtain ⟨hP, hD⟩ := Bw.goN (ws' := [(oc6 oK oR oC oS oT rK_images iK_imageCount oA oH oL x_6587 iK_latestFault iK_latestPlace), (oc1 oC iC_nodes iC_words iC_chances iC_unsures iC_slips iC_throneNode iC_saidWorth iC_unit rC_kind rC_parts rC_partNodes rC_weights rC_weightSums rC_toldWorths rC_steps rC_below rC_above rC_unsureWords rC_unsureWorths), (arI rC_kind kC_kind 18 fC_kind), (oc5 oS rS_worths rS_order rS_left), (arI rS_worths kS_worths 18 fS_worths), (oc0 oA iA_count rA_nodes rA_olds rA_says), (arI rA_nodes kA_nodes 16 fA_nodes), (arI rA_olds kA_olds 16 fA_olds), (arI rA_says kA_says 16 fA_says)]) hB rfl ht hP hD _ hMs hk1 hFc rfl
  clear hz1 hk1 hvm ht hB hMs
  rw [← hru9] at e_x_6587_0
  rcases hw.2 with ⟨rfl, hc_6588⟩ | ⟨rfl, hc_6588⟩
  · skip
    have hG := hG.trans (un2_eq e_x_6587_0)
    have hG := hG.trans (if_pos rfl)
    refine lv_if_ne (tgt := 19) hx hb dX6_say_5 (by decide) (fun c => absurd c (by decide)) (fun _ => ?_)
    refine lv_aload_n hx hb dX6_say_8 rfl (lv_at hl 0 rfl) ?_
    refine lv_iload_n hx hb dX6_say_9 rfl (lv_at hl 2 rfl) ?_
    refine lv_iconst (v := 0) hx hb dX6_say_10 (by decide) ?_
    refine lv_bipush (v := 99) hx hb dX6_say_11 (by decide) ?_
    have hMs := ml_of hD [true, true, false, false, false, false, false, false, false] (wc := [(oc6 oK oR oC oS oT rK_images iK_imageCount oA oH oL x_6587 iK_latestFault iK_latestPlace), (oc1 oC iC_nodes iC_words iC_chances iC_unsures iC_slips iC_throneNode iC_saidWorth iC_unit rC_kind rC_parts rC_partNodes rC_weights rC_weightSums rC_toldWorths rC_steps rC_below rC_above rC_unsureWords rC_unsureWorths)]) rfl
    have hFc := va_freeM hD hS hA _ hMs
    refine va_calli (va_runV (As := [.int p1, .int 0, .int 99]) (rest := []) ⟨hx, hb, hml, hown, hts⟩ (tX6_lacksNumber l dC dI _ oK oR oC oS oT rK_images iK_imageCount oA oH oL x_6587 iK_latestFault iK_latestPlace iC_nodes iC_words iC_chances iC_unsures iC_slips iC_throneNode iC_saidWorth iC_unit rC_kind rC_parts rC_partNodes rC_weights rC_weightSums rC_toldWorths rC_steps rC_below rC_above rC_unsureWords rC_unsureWorths p1 0 99 b_iK_imageCount b_iC_nodes b_iC_unsures b_iC_throneNode) (cwV 3 hts (wd_V wd_866 wd_867 wd_868 wd_2 (wd_c wd_869)) rfl rfl rfl dv_yX6_lacksNumber_3 ⟨Nat.le_of_ble_eq_true rfl, Nat.le_of_ble_eq_true rfl⟩) ⟨Pw.fb, recvX6 hK hP (q0 := 0) rfl, fun U hU hW => Pw.to (hP.ms _ hMs) (hD.ms _ hMs) (hK.ms [false, false, false, false, false] rfl) hE hS hFc hU hW⟩ rfl rfl hl.1 rfl (lv_room (Nat.le_of_ble_eq_true rfl)) dX6_say_13 ⟨Nat.le_of_ble_eq_true rfl, Nat.le_of_ble_eq_true rfl⟩) hS (fun q _ h => hFc q h) hFc (fun r u t H locs ht hvm hw hB hz1 hk1 hS => ?_)
    have hru9 := hw.2
    have hw := hw.1
    refine ex_1_1 hB (fun x_6591 e_x_6591_0 hB => ?_)
    obtain ⟨hP, hD⟩ := Bw.goN (ws' := [(oc6 oK oR oC oS oT rK_images iK_imageCount oA oH oL x_6591 iK_latestFault iK_latestPlace), (oc1 oC iC_nodes iC_words iC_chances iC_unsures iC_slips iC_throneNode iC_saidWorth iC_unit rC_kind rC_parts rC_partNodes rC_weights rC_weightSums rC_toldWorths rC_steps rC_below rC_above rC_unsureWords rC_unsureWorths), (arI rC_kind kC_kind 18 fC_kind), (oc5 oS rS_worths rS_order rS_left), (arI rS_worths kS_worths 18 fS_worths), (oc0 oA iA_count rA_nodes rA_olds rA_says), (arI rA_nodes kA_nodes 16 fA_nodes), (arI rA_olds kA_olds 16 fA_olds), (arI rA_says kA_says 16 fA_says)]) hB rfl ht hP hD _ hMs hk1 hFc rfl
    clear hz1 hk1 hvm ht hB hMs
    rw [← hru9] at e_x_6591_0
    rcases hw.2 with ⟨rfl, hc_6592⟩ | ⟨rfl, hc_6592⟩
    · skip
      have hG := hG.trans (un2_eq e_x_6591_0)
      have hG := hG.trans (if_pos rfl)
      refine lv_if_eq (tgt := 21) hx hb dX6_say_16 (by decide) (fun _ => ?_) (fun c => absurd c (by decide))
      refine lv_aload_n hx hb dX6_say_21 rfl (lv_at hl 0 rfl) ?_
      refine va_get (D := (dC, dI)) (ci := 6) (v := .ref oS) (C := RX6) (T := TX6) (N := 12) hx hb hts inX6 hown hK hP 0 rfl rfl 2 (by decide) (hts _ wd_24) (fun _ h9 => h9) rfl dX6_say_22 ?_
      refine va_get (D := (dC, dI)) (ci := 5) (v := .ref rS_worths) (C := RX5) (T := TX5) (N := 3) hx hb hts inX5 hown hK hP 3 rfl rfl 0 (by decide) (hts _ wd_609) (fun _ h9 => h9) rfl dX6_say_25 ?_
      refine lv_iload_n hx hb dX6_say_28 rfl (lv_at hl 1 rfl) ?_
      refine va_iald hx hb hK hP 4 1 rfl rfl (ti_in rfl hc_6588.1 (om_97cd4a7c b_iC_nodes.2 hc_6588.2)) dX6_say_29 ?_
      refine lv_topi (fun x_6595 ex_6595 => ?_)
      have hG := hG.trans (lt_eq ex_6595)
      have kx_6595 : (fS_worths p0.toNatClampNeg).toInt = x_6595.toInt := by rw [ex_6595]
      refine lv_iload_n hx hb dX6_say_30 rfl (lv_at hl 2 rfl) ?_
      refine lv_icmp_ne (tgt := 41) hx hb dX6_say_31 (by decide) (fun c_6596 => ?_) (fun c_6596 => ?_)
      · skip
        have hG := hG.trans (if_neg c_6596)
        have gc_6596 := ti_ne c_6596 rfl rfl
        refine lv_aload_n hx hb dX6_say_41 rfl (lv_at hl 0 rfl) ?_
        refine va_get (D := (dC, dI)) (ci := 6) (v := .ref oA) (C := RX6) (T := TX6) (N := 12) hx hb hts inX6 hown hK hP 0 rfl rfl 6 (by decide) (hts _ wd_30) (fun _ h9 => h9) rfl dX6_say_42 ?_
        refine lv_iload_n hx hb dX6_say_45 rfl (lv_at hl 1 rfl) ?_
        refine lv_aload_n hx hb dX6_say_46 rfl (lv_at hl 0 rfl) ?_
        refine va_get (D := (dC, dI)) (ci := 6) (v := .ref oS) (C := RX6) (T := TX6) (N := 12) hx hb hts inX6 hown hK hP 0 rfl rfl 2 (by decide) (hts _ wd_24) (fun _ h9 => h9) rfl dX6_say_47 ?_
        refine va_get (D := (dC, dI)) (ci := 5) (v := .ref rS_worths) (C := RX5) (T := TX5) (N := 3) hx hb hts inX5 hown hK hP 3 rfl rfl 0 (by decide) (hts _ wd_609) (fun _ h9 => h9) rfl dX6_say_50 ?_
        refine lv_iload_n hx hb dX6_say_53 rfl (lv_at hl 1 rfl) ?_
        refine va_iald hx hb hK hP 4 1 rfl rfl (ti_in rfl hc_6588.1 (om_97cd4a7c b_iC_nodes.2 hc_6588.2)) dX6_say_54 ?_
        refine lv_topi (fun x_6597 ex_6597 => ?_)
        have hG := hG.trans (lt_eq ex_6597)
        have kx_6597 : (fS_worths p0.toNatClampNeg).toInt = x_6597.toInt := by rw [ex_6597]
        refine lv_iconst (v := 1) hx hb dX6_say_55 (by decide) ?_
        have hMs := ml_of hD [false, false, false, false, false, true, true, true, true] (wc := [(oc0 oA iA_count rA_nodes rA_olds rA_says), (arI rA_nodes kA_nodes 16 fA_nodes), (arI rA_olds kA_olds 16 fA_olds), (arI rA_says kA_says 16 fA_says)]) rfl
        have hFc := va_freeM hD hS hA _ hMs
        refine va_callv (va_runV (As := [.int p0, .int x_6597, .int 1]) (rest := []) ⟨hx, hb, hml, hown, hts⟩ (tX0_keep l dC dI _ oA iA_count rA_nodes fA_nodes kA_nodes rA_olds fA_olds kA_olds rA_says fA_says kA_says p0 x_6597 1 b_iA_count a_fA_nodes a_fA_says (by assumption) ⟨hc_6588.1, (om_525c5d3e b_iC_nodes.2 hc_6588.2)⟩ ⟨(om_1b364b1c kc_1), (om_02032f93 kc_1)⟩ (by first | assumption | (have q0 := kc_0; have q1 := kc_1; first | exact ⟨by omega, by omega⟩ | omega) | decide | (intro h; exact absurd h (by decide)))) (cwV 3 hts (wd_V wd_1365 wd_1366 wd_1367 wd_29 (wd_c wd_1368)) rfl rfl rfl dv_yX0_keep_3 ⟨Nat.le_of_ble_eq_true rfl, Nat.le_of_ble_eq_true rfl⟩) ⟨Pw.fb, recvX0 hK hP (q0 := 5) rfl, fun U hU hW => Pw.to (hP.ms _ hMs) (hD.ms _ hMs) (hK.ms [false, false, true, true, true] rfl) hE hS hFc hU hW⟩ rfl rfl hl.1 rfl (lv_room (Nat.le_of_ble_eq_true rfl)) dX6_say_56 ⟨Nat.le_of_ble_eq_true rfl, Nat.le_of_ble_eq_true rfl⟩) hS (fun q _ h => hFc q h) hFc (fun u t H locs ht hvm hw hB hz1 hk1 hS => ?_)
        refine ex_4_5 hB (fun x_6598 f_6599 f_6600 f_6601 b_x_6598 a_f_6599 a_f_6601 e_x_6598_0 e_x_6598_1 hB => ?_)
        obtain ⟨hP, hD⟩ := Bw.goN (ws' := [(oc6 oK oR oC oS oT rK_images iK_imageCount oA oH oL x_6591 iK_latestFault iK_latestPlace), (oc1 oC iC_nodes iC_words iC_chances iC_unsures iC_slips iC_throneNode iC_saidWorth iC_unit rC_kind rC_parts rC_partNodes rC_weights rC_weightSums rC_toldWorths rC_steps rC_below rC_above rC_unsureWords rC_unsureWorths), (arI rC_kind kC_kind 18 fC_kind), (oc5 oS rS_worths rS_order rS_left), (arI rS_worths kS_worths 18 fS_worths), (oc0 oA x_6598 rA_nodes rA_olds rA_says), (arI rA_nodes kA_nodes 16 f_6599), (arI rA_olds kA_olds 16 f_6600), (arI rA_says kA_says 16 f_6601)]) hB rfl ht hP hD _ hMs hk1 hFc rfl
        clear hz1 hk1 hvm ht hB hMs
        have hG := hG.trans (un4_eq e_x_6598_1)
        refine lv_aload_n hx hb dX6_say_59 rfl (lv_at hl 0 rfl) ?_
        refine va_get (D := (dC, dI)) (ci := 6) (v := .ref oS) (C := RX6) (T := TX6) (N := 12) hx hb hts inX6 hown hK hP 0 rfl rfl 2 (by decide) (hts _ wd_24) (fun _ h9 => h9) rfl dX6_say_60 ?_
        refine va_get (D := (dC, dI)) (ci := 5) (v := .ref rS_worths) (C := RX5) (T := TX5) (N := 3) hx hb hts inX5 hown hK hP 3 rfl rfl 0 (by decide) (hts _ wd_609) (fun _ h9 => h9) rfl dX6_say_63 ?_
        refine lv_iload_n hx hb dX6_say_66 rfl (lv_at hl 1 rfl) ?_
        refine lv_iload_n hx hb dX6_say_67 rfl (lv_at hl 2 rfl) ?_
        refine va_iast hx hb hK hP hD hS 4 1 rfl rfl (ti_in rfl hc_6588.1 (om_97cd4a7c b_iC_nodes.2 hc_6588.2)) dX6_say_68 (fun H locs hP hD hS => ?_)
        obtain ⟨f_6603, ef_6603⟩ : ∃ g : Nat → Int32, g = upd fS_worths p0.toNatClampNeg p1 := ⟨_, rfl⟩
        rw [← ef_6603] at hP hD
        have hG := hG.trans (lt_eq ef_6603)
        obtain ⟨hP, hD⟩ := wl2 (ws' := [(oc6 oK oR oC oS oT rK_images iK_imageCount oA oH oL x_6591 iK_latestFault iK_latestPlace), (oc1 oC iC_nodes iC_words iC_chances iC_unsures iC_slips iC_throneNode iC_saidWorth iC_unit rC_kind rC_parts rC_partNodes rC_weights rC_weightSums rC_toldWorths rC_steps rC_below rC_above rC_unsureWords rC_unsureWorths), (arI rC_kind kC_kind 18 fC_kind), (oc5 oS rS_worths rS_order rS_left), (arI rS_worths kS_worths 18 f_6603), (oc0 oA x_6598 rA_nodes rA_olds rA_says), (arI rA_nodes kA_nodes 16 f_6599), (arI rA_olds kA_olds 16 f_6600), (arI rA_says kA_says 16 f_6601)]) hP hD rfl
        refine lv_iconst (v := 1) hx hb dX6_say_69 (by decide) ?_
        exact wq_z (v := 1) hx hb hr rfl (cI 1) ⟨⟨Or.inr rfl, trivial⟩, (cI_of 1)⟩ (fun t ht hW => ⟨x_6591, f_6603, x_6598, f_6599, f_6600, f_6601, b_x_6598, a_f_6599, a_f_6601, (cI_tup hG), Bw.to hP hD hK ht hW⟩) hS dX6_say_70 hlocks
      · skip
        have hG := hG.trans (if_pos c_6596)
        have gc_6596 := ti_eq c_6596 rfl rfl
        refine lv_aload_n hx hb dX6_say_34 rfl (lv_at hl 0 rfl) ?_
        refine lv_iconst (v := 5) hx hb dX6_say_35 (by decide) ?_
        refine va_put (D := (dC, dI)) (ci := 6) (v := .int 5) (ty := .int) (C := RX6) (T := TX6) (N := 12) hx hb hts inX6 tyX6 tyX6_ok nmX6 hown hK hP hD hS 0 rfl rfl 9 (by decide) (hts _ wd_195) (fun _ h9 => h9) rfl (by decide +kernel) rfl rfl (Nat.le_of_ble_eq_true rfl) dX6_say_36 (fun H locs hP hD hS => ?_)
        obtain ⟨hP, hD⟩ := wl2 (ws' := [(oc6 oK oR oC oS oT rK_images iK_imageCount oA oH oL 5 iK_latestFault iK_latestPlace), (oc1 oC iC_nodes iC_words iC_chances iC_unsures iC_slips iC_throneNode iC_saidWorth iC_unit rC_kind rC_parts rC_partNodes rC_weights rC_weightSums rC_toldWorths rC_steps rC_below rC_above rC_unsureWords rC_unsureWorths), (arI rC_kind kC_kind 18 fC_kind), (oc5 oS rS_worths rS_order rS_left), (arI rS_worths kS_worths 18 fS_worths), (oc0 oA iA_count rA_nodes rA_olds rA_says), (arI rA_nodes kA_nodes 16 fA_nodes), (arI rA_olds kA_olds 16 fA_olds), (arI rA_says kA_says 16 fA_says)]) hP hD rfl
        refine lv_iconst (v := 0) hx hb dX6_say_39 (by decide) ?_
        exact wq_z (v := 0) hx hb hr rfl (cI 0) ⟨⟨Or.inl rfl, trivial⟩, (cI_of 0)⟩ (fun t ht hW => ⟨5, fS_worths, iA_count, fA_nodes, fA_olds, fA_says, b_iA_count, a_fA_nodes, a_fA_says, (cI_tup hG), Bw.to hP hD hK ht hW⟩) hS dX6_say_40 hlocks
    · skip
      have hG := hG.trans (un2_eq e_x_6591_0)
      have hG := hG.trans (if_neg (by decide))
      refine lv_if_eq (tgt := 21) hx hb dX6_say_16 (by decide) (fun c => absurd c (by decide)) (fun _ => ?_)
      refine lv_iconst (v := 0) hx hb dX6_say_19 (by decide) ?_
      exact wq_z (v := 0) hx hb hr rfl (cI 0) ⟨⟨Or.inl rfl, trivial⟩, (cI_of 0)⟩ (fun t ht hW => ⟨x_6591, fS_worths, iA_count, fA_nodes, fA_olds, fA_says, b_iA_count, a_fA_nodes, a_fA_says, (cI_tup hG), Bw.to hP hD hK ht hW⟩) hS dX6_say_20 hlocks
  · skip
    have hG := hG.trans (un2_eq e_x_6587_0)
    have hG := hG.trans (if_neg (by decide))
    refine lv_if_ne (tgt := 19) hx hb dX6_say_5 (by decide) (fun _ => ?_) (fun c => absurd c (by decide))
    refine lv_iconst (v := 0) hx hb dX6_say_19 (by decide) ?_
    exact wq_z (v := 0) hx hb hr rfl (cI 0) ⟨⟨Or.inl rfl, trivial⟩, (cI_of 0)⟩ (fun t ht hW => ⟨x_6587, fS_worths, iA_count, fA_nodes, fA_olds, fA_says, b_iA_count, a_fA_nodes, a_fA_says, (cI_tup hG), Bw.to hP hD hK ht hW⟩) hS dX6_say_20 hlocks
set_option maxHeartbeats 4000000 in
set_option maxRecDepth 100000 in
theorem tX6_front (l : Launch) (dC : Nat → ClassId) (dI : Nat → Nat → Nat) (sz : Nat) (oK : Nat) (oR : Nat) (oC : Nat) (oS : Nat) (oT : Nat) (rK_images : Nat) (iK_imageCount : Int32) (oA : Nat) (oH : Nat) (oL : Nat) (iK_refusal : Int32) (iK_latestFault : Int32) (iK_latestPlace : Int32) (iC_nodes : Int32) (iC_words : Int32) (iC_chances : Int32) (iC_unsures : Int32) (iC_slips : Int32) (iC_throneNode : Int32) (iC_saidWorth : Int32) (iC_unit : Int32) (rC_kind : Nat) (rC_parts : Nat) (fC_parts : Nat → Int32) (kC_parts : ClassId) (rC_partNodes : Nat) (fC_partNodes : Nat → Int32) (kC_partNodes : ClassId) (rC_weights : Nat) (rC_weightSums : Nat) (rC_toldWorths : Nat) (rC_steps : Nat) (rC_below : Nat) (rC_above : Nat) (rC_unsureWords : Nat) (rC_unsureWorths : Nat) (rS_worths : Nat) (rS_order : Nat) (fS_order : Nat → Int32) (kS_order : ClassId) (rS_left : Nat) (iA_count : Int32) (rA_nodes : Nat) (fA_nodes : Nat → Int32) (kA_nodes : ClassId) (rA_olds : Nat) (fA_olds : Nat → Int32) (kA_olds : ClassId) (rA_says : Nat) (fA_says : Nat → Int32) (kA_says : ClassId) (p0 : Int32) (p1 : Int32) (b_iK_imageCount : 0 ≤ iK_imageCount.toInt ∧ iK_imageCount.toInt ≤ 3) (b_iC_nodes : 0 ≤ iC_nodes.toInt ∧ iC_nodes.toInt ≤ 18) (b_iC_unsures : 0 ≤ iC_unsures.toInt ∧ iC_unsures.toInt ≤ 4) (b_iC_throneNode : (-1) ≤ iC_throneNode.toInt ∧ iC_throneNode.toInt ≤ 17) (a_fC_parts : ∀ j : Nat, j < 18 → 0 ≤ (fC_parts j).toInt ∧ (fC_parts j).toInt ≤ 4) (a_fC_partNodes : ∀ j : Nat, j < 72 → 0 ≤ (fC_partNodes j).toInt ∧ (fC_partNodes j).toInt ≤ 17) (a_fS_order : ∀ j : Nat, j < 72 → 0 ≤ (fS_order j).toInt ∧ (fS_order j).toInt ≤ 3) (b_iA_count : 0 ≤ iA_count.toInt ∧ iA_count.toInt ≤ 16) (a_fA_nodes : ∀ j : Nat, j < 16 → 0 ≤ (fA_nodes j).toInt ∧ (fA_nodes j).toInt ≤ 17) (a_fA_says : ∀ j : Nat, j < 16 → 0 ≤ (fA_says j).toInt ∧ (fA_says j).toInt ≤ 1) (r_A : ∀ j : Nat, j < 16 → fA_says j = 0 → 0 ≤ (fA_olds j).toInt ∧ (fA_olds j).toInt ≤ 3)  : Met l yX6_front (Cond.code yX6_front cX6_front 3 (some .int) :: wG) ({ frames := 2, cells := 0, slots := 0, locals := 44 }) (va_Pc [.ref oK, .int p0, .int p1] (Pw dC dI sz [(oc6 oK oR oC oS oT rK_images iK_imageCount oA oH oL iK_refusal iK_latestFault iK_latestPlace), (oc1 oC iC_nodes iC_words iC_chances iC_unsures iC_slips iC_throneNode iC_saidWorth iC_unit rC_kind rC_parts rC_partNodes rC_weights rC_weightSums rC_toldWorths rC_steps rC_below rC_above rC_unsureWords rC_unsureWorths), (arI rC_parts kC_parts 18 fC_parts), (arI rC_partNodes kC_partNodes 72 fC_partNodes), (oc5 oS rS_worths rS_order rS_left), (arI rS_order kS_order 72 fS_order), (oc0 oA iA_count rA_nodes rA_olds rA_says), (arI rA_nodes kA_nodes 16 fA_nodes), (arI rA_olds kA_olds 16 fA_olds), (arI rA_says kA_says 16 fA_says)] [(kC_parts, .int), (kC_partNodes, .int), (kS_order, .int), (kA_nodes, .int), (kA_olds, .int), (kA_says, .boolean)])) (va_Qi (fun (r : Int32) (u : Nat) => (True ∧ True) ∧ r = Int32.ofNat u) (fun (u : Nat) (t : State) => ∃ (niK_refusal : Int32) (nfS_order : Nat → Int32) (niA_count : Int32) (nfA_nodes : Nat → Int32) (nfA_olds : Nat → Int32) (nfA_says : Nat → Int32), (∀ j : Nat, j < 72 → 0 ≤ (nfS_order j).toInt ∧ (nfS_order j).toInt ≤ 3) ∧ (0 ≤ niA_count.toInt ∧ niA_count.toInt ≤ 16) ∧ (∀ j : Nat, j < 16 → 0 ≤ (nfA_nodes j).toInt ∧ (nfA_nodes j).toInt ≤ 17) ∧ (∀ j : Nat, j < 16 → 0 ≤ (nfA_says j).toInt ∧ (nfA_says j).toInt ≤ 1) ∧ (PX6_front iC_nodes fC_parts fC_partNodes fS_order iA_count fA_nodes fA_olds fA_says p0 p1 = (Int32.ofNat u, niK_refusal, nfS_order, niA_count, nfA_nodes, nfA_olds, nfA_says)) ∧ Bw dC dI (va_A [(oc6 oK oR oC oS oT rK_images iK_imageCount oA oH oL iK_refusal iK_latestFault iK_latestPlace), (oc1 oC iC_nodes iC_words iC_chances iC_unsures iC_slips iC_throneNode iC_saidWorth iC_unit rC_kind rC_parts rC_partNodes rC_weights rC_weightSums rC_toldWorths rC_steps rC_below rC_above rC_unsureWords rC_unsureWorths), (arI rC_parts kC_parts 18 fC_parts), (arI rC_partNodes kC_partNodes 72 fC_partNodes), (oc5 oS rS_worths rS_order rS_left), (arI rS_order kS_order 72 fS_order), (oc0 oA iA_count rA_nodes rA_olds rA_says), (arI rA_nodes kA_nodes 16 fA_nodes), (arI rA_olds kA_olds 16 fA_olds), (arI rA_says kA_says 16 fA_says)] sz) [(oc6 oK oR oC oS oT rK_images iK_imageCount oA oH oL niK_refusal iK_latestFault iK_latestPlace), (oc1 oC iC_nodes iC_words iC_chances iC_unsures iC_slips iC_throneNode iC_saidWorth iC_unit rC_kind rC_parts rC_partNodes rC_weights rC_weightSums rC_toldWorths rC_steps rC_below rC_above rC_unsureWords rC_unsureWorths), (arI rC_parts kC_parts 18 fC_parts), (arI rC_partNodes kC_partNodes 72 fC_partNodes), (oc5 oS rS_worths rS_order rS_left), (arI rS_order kS_order 72 nfS_order), (oc0 oA niA_count rA_nodes rA_olds rA_says), (arI rA_nodes kA_nodes 16 nfA_nodes), (arI rA_olds kA_olds 16 nfA_olds), (arI rA_says kA_says 16 nfA_says)] [(kC_parts, .int), (kC_partNodes, .int), (kS_order, .int), (kA_nodes, .int), (kA_olds, .int), (kA_says, .boolean)] t) (va_A [(oc6 oK oR oC oS oT rK_images iK_imageCount oA oH oL iK_refusal iK_latestFault iK_latestPlace), (oc1 oC iC_nodes iC_words iC_chances iC_unsures iC_slips iC_throneNode iC_saidWorth iC_unit rC_kind rC_parts rC_partNodes rC_weights rC_weightSums rC_toldWorths rC_steps rC_below rC_above rC_unsureWords rC_unsureWorths), (arI rC_parts kC_parts 18 fC_parts), (arI rC_partNodes kC_partNodes 72 fC_partNodes), (oc5 oS rS_worths rS_order rS_left), (arI rS_order kS_order 72 fS_order), (oc0 oA iA_count rA_nodes rA_olds rA_says), (arI rA_nodes kA_nodes 16 fA_nodes), (arI rA_olds kA_olds 16 fA_olds), (arI rA_says kA_says 16 fA_says)] sz)) 0 0 (va_A [(oc6 oK oR oC oS oT rK_images iK_imageCount oA oH oL iK_refusal iK_latestFault iK_latestPlace), (oc1 oC iC_nodes iC_words iC_chances iC_unsures iC_slips iC_throneNode iC_saidWorth iC_unit rC_kind rC_parts rC_partNodes rC_weights rC_weightSums rC_toldWorths rC_steps rC_below rC_above rC_unsureWords rC_unsureWorths), (arI rC_parts kC_parts 18 fC_parts), (arI rC_partNodes kC_partNodes 72 fC_partNodes), (oc5 oS rS_worths rS_order rS_left), (arI rS_order kS_order 72 fS_order), (oc0 oA iA_count rA_nodes rA_olds rA_says), (arI rA_nodes kA_nodes 16 fA_nodes), (arI rA_olds kA_olds 16 fA_olds), (arI rA_says kA_says 16 fA_says)] sz) := by
  refine Met.ofW (cc := cX6_front) (maxL := 3) (ret := (some .int)) pnX6 rfl ?_
  intro p e s m args below meth c s₁ B hml hv
  obtain ⟨rfl, hsz, hP, hK, hD0, hE⟩ := hv
  have hx := B.exec
  have hb := B.bytes
  have hr := B.returns
  have hts : ∀ w ∈ wG, w.before ([.ref oK, .int p0, .int p1] : List Value).toArray s = true := fun w h => atoms_spec (ws := Cond.code yX6_front cX6_front 3 (some .int) :: wG) B.pre w (List.mem_cons_of_mem _ h)
  have hown : s.vm.findClass RX6 = some m.cls := own_of B.named rfl
  have hlocks := B.notSynchronized
  subst hsz
  have hD := hD0.self (sz := s.heap.size)
  generalize hAe : va_A [(oc6 oK oR oC oS oT rK_images iK_imageCount oA oH oL iK_refusal iK_latestFault iK_latestPlace), (oc1 oC iC_nodes iC_words iC_chances iC_unsures iC_slips iC_throneNode iC_saidWorth iC_unit rC_kind rC_parts rC_partNodes rC_weights rC_weightSums rC_toldWorths rC_steps rC_below rC_above rC_unsureWords rC_unsureWorths), (arI rC_parts kC_parts 18 fC_parts), (arI rC_partNodes kC_partNodes 72 fC_partNodes), (oc5 oS rS_worths rS_order rS_left), (arI rS_order kS_order 72 fS_order), (oc0 oA iA_count rA_nodes rA_olds rA_says), (arI rA_nodes kA_nodes 16 fA_nodes), (arI rA_olds kA_olds 16 fA_olds), (arI rA_says kA_says 16 fA_says)] s.heap.size = A at hD hE ⊢
  have hA : ∀ q : Nat, s.heap.size ≤ q → A q := fun q h => by rw [← hAe]; exact Or.inr h
  have hS : va_S A s.heap s.heap [] := va_S.rf
  have hl := lv_entry ([.ref oK, .int p0, .int p1]) (n := 3) (Nat.le_of_ble_eq_true rfl)
  rw [lg_entry_eq]
  generalize (lg_sl ([.ref oK, .int p0, .int p1]) ++ List.replicate (3 - (lg_sl ([.ref oK, .int p0, .int p1])).length) Slot.unset).toArray = ls at hl ⊢
  have hl : lv_has ls 3 [(0, .ref oK), (1, .int p0), (2, .int p1)] := hl
  have hG := PX6_front_eq iC_nodes fC_parts fC_partNodes fS_order iA_count fA_nodes fA_olds fA_says p0 p1
  refine lv_aload_n hx hb dX6_front_0 rfl (lv_at hl 0 rfl) ?_
  refine lv_iload_n hx hb dX6_front_1 rfl (lv_at hl 1 rfl) ?_
  refine lv_iload_n hx hb dX6_front_2 rfl (lv_at hl 2 rfl) ?_
  have hMs := ml_of hD [true, true, true, false, false, false, false, false, false, false] (wc := [(oc6 oK oR oC oS oT rK_images iK_imageCount oA oH oL iK_refusal iK_latestFault iK_latestPlace), (oc1 oC iC_nodes iC_words iC_chances iC_unsures iC_slips iC_throneNode iC_saidWorth iC_unit rC_kind rC_parts rC_partNodes rC_weights rC_weightSums rC_toldWorths rC_steps rC_below rC_above rC_unsureWords rC_unsureWorths), (arI rC_parts kC_parts 18 fC_parts)]) rfl
  have hFc := va_freeM hD hS hA _ hMs
  refine va_calli (va_runV (As := [.int p0, .int p1]) (rest := []) ⟨hx, hb, hml, hown, hts⟩ (tX6_lacksPart l dC dI _ oK oR oC oS oT rK_images iK_imageCount oA oH oL iK_refusal iK_latestFault iK_latestPlace iC_nodes iC_words iC_chances iC_unsures iC_slips iC_throneNode iC_saidWorth iC_unit rC_kind rC_parts fC_parts kC_parts rC_partNodes rC_weights rC_weightSums rC_toldWorths rC_steps rC_below rC_above rC_unsureWords rC_unsureWorths p0 p1 b_iK_imageCount b_iC_nodes b_iC_unsures b_iC_throneNode a_fC_parts) (cwV 2 hts (wd_V wd_564 wd_565 wd_566 wd_2 (wd_c wd_567)) rfl rfl rfl dv_yX6_lacksPart_2 ⟨Nat.le_of_ble_eq_true rfl, Nat.le_of_ble_eq_true rfl⟩) ⟨Pw.fb, recvX6 hK hP (q0 := 0) rfl, fun U hU hW => Pw.to (hP.ms _ hMs) (hD.ms _ hMs) (hK.ms [true, false, false, false, false, false] rfl) hE hS hFc hU hW⟩ rfl rfl hl.1 rfl (lv_room (Nat.le_of_ble_eq_true rfl)) dX6_front_3 ⟨Nat.le_of_ble_eq_true rfl, Nat.le_of_ble_eq_true rfl⟩) hS (fun q _ h => hFc q h) hFc (fun r u t H locs ht hvm hw hB hz1 hk1 hS => ?_)
  have hru9 := hw.2
  have hw := hw.1
  refine ex_1_2 hB (fun x_6619 b_x_6619 e_x_6619_0 hB => ?_)
  obtain ⟨hP, hD⟩ := Bw.goN (ws' := [(oc6 oK oR oC oS oT rK_images iK_imageCount oA oH oL x_6619 iK_latestFault iK_latestPlace), (oc1 oC iC_nodes iC_words iC_chances iC_unsures iC_slips iC_throneNode iC_saidWorth iC_unit rC_kind rC_parts rC_partNodes rC_weights rC_weightSums rC_toldWorths rC_steps rC_below rC_above rC_unsureWords rC_unsureWorths), (arI rC_parts kC_parts 18 fC_parts), (arI rC_partNodes kC_partNodes 72 fC_partNodes), (oc5 oS rS_worths rS_order rS_left), (arI rS_order kS_order 72 fS_order), (oc0 oA iA_count rA_nodes rA_olds rA_says), (arI rA_nodes kA_nodes 16 fA_nodes), (arI rA_olds kA_olds 16 fA_olds), (arI rA_says kA_says 16 fA_says)]) hB rfl ht hP hD _ hMs hk1 hFc rfl
  clear hz1 hk1 hvm ht hB hMs
  rw [← hru9] at e_x_6619_0
  rcases hw.2 with ⟨rfl, hc_6620⟩ | ⟨rfl, hc_6620⟩
  · skip
    have hG := hG.trans (un2_eq e_x_6619_0)
    have hG := hG.trans (if_pos rfl)
    refine lv_if_eq (tgt := 11) hx hb dX6_front_6 (by decide) (fun _ => ?_) (fun c => absurd c (by decide))
    refine lv_iload_n hx hb dX6_front_11 rfl (lv_at hl 2 rfl) ?_
    refine lv_if_ne (tgt := 21) hx hb dX6_front_12 (by decide) (fun c_6623 => ?_) (fun c_6623 => ?_)
    · skip
      have hG := hG.trans (if_neg c_6623)
      have gc_6623 := ti_ne c_6623 rfl kc_0
      refine lv_aload_n hx hb dX6_front_21 rfl (lv_at hl 0 rfl) ?_
      refine va_get (D := (dC, dI)) (ci := 6) (v := .ref oA) (C := RX6) (T := TX6) (N := 12) hx hb hts inX6 hown hK hP 0 rfl rfl 6 (by decide) (hts _ wd_30) (fun _ h9 => h9) rfl dX6_front_22 ?_
      refine lv_iload_n hx hb dX6_front_25 rfl (lv_at hl 1 rfl) ?_
      refine lv_iload_n hx hb dX6_front_26 rfl (lv_at hl 2 rfl) ?_
      refine lv_iconst (v := 0) hx hb dX6_front_27 (by decide) ?_
      have hMs := ml_of hD [false, false, false, false, false, false, true, true, true, true] (wc := [(oc0 oA iA_count rA_nodes rA_olds rA_says), (arI rA_nodes kA_nodes 16 fA_nodes), (arI rA_olds kA_olds 16 fA_olds), (arI rA_says kA_says 16 fA_says)]) rfl
      have hFc := va_freeM hD hS hA _ hMs
      refine va_callv (va_runV (As := [.int p0, .int p1, .int 0]) (rest := []) ⟨hx, hb, hml, hown, hts⟩ (tX0_keep l dC dI _ oA iA_count rA_nodes fA_nodes kA_nodes rA_olds fA_olds kA_olds rA_says fA_says kA_says p0 p1 0 b_iA_count a_fA_nodes a_fA_says (by assumption) ⟨hc_6620.1, (om_525c5d3e b_iC_nodes.2 hc_6620.2.1)⟩ ⟨(om_b1de7dbe kc_0), (om_270f4ea0 kc_0)⟩ (by first | assumption | (have q0 := kc_0; have q1 := kc_1; first | exact ⟨by omega, by omega⟩ | omega) | decide | (intro h; exact absurd h (by decide)))) (cwV 3 hts (wd_V wd_1365 wd_1366 wd_1367 wd_29 (wd_c wd_1368)) rfl rfl rfl dv_yX0_keep_3 ⟨Nat.le_of_ble_eq_true rfl, Nat.le_of_ble_eq_true rfl⟩) ⟨Pw.fb, recvX0 hK hP (q0 := 6) rfl, fun U hU hW => Pw.to (hP.ms _ hMs) (hD.ms _ hMs) (hK.ms [false, false, false, true, true, true] rfl) hE hS hFc hU hW⟩ rfl rfl hl.1 rfl (lv_room (Nat.le_of_ble_eq_true rfl)) dX6_front_28 ⟨Nat.le_of_ble_eq_true rfl, Nat.le_of_ble_eq_true rfl⟩) hS (fun q _ h => hFc q h) hFc (fun u t H locs ht hvm hw hB hz1 hk1 hS => ?_)
      refine ex_4_5 hB (fun x_6624 f_6625 f_6626 f_6627 b_x_6624 a_f_6625 a_f_6627 e_x_6624_0 e_x_6624_1 hB => ?_)
      obtain ⟨hP, hD⟩ := Bw.goN (ws' := [(oc6 oK oR oC oS oT rK_images iK_imageCount oA oH oL x_6619 iK_latestFault iK_latestPlace), (oc1 oC iC_nodes iC_words iC_chances iC_unsures iC_slips iC_throneNode iC_saidWorth iC_unit rC_kind rC_parts rC_partNodes rC_weights rC_weightSums rC_toldWorths rC_steps rC_below rC_above rC_unsureWords rC_unsureWorths), (arI rC_parts kC_parts 18 fC_parts), (arI rC_partNodes kC_partNodes 72 fC_partNodes), (oc5 oS rS_worths rS_order rS_left), (arI rS_order kS_order 72 fS_order), (oc0 oA x_6624 rA_nodes rA_olds rA_says), (arI rA_nodes kA_nodes 16 f_6625), (arI rA_olds kA_olds 16 f_6626), (arI rA_says kA_says 16 f_6627)]) hB rfl ht hP hD _ hMs hk1 hFc rfl
      clear hz1 hk1 hvm ht hB hMs
      have hG := hG.trans (un4_eq e_x_6624_1)
      refine lv_aload_n hx hb dX6_front_31 rfl (lv_at hl 0 rfl) ?_
      refine va_get (D := (dC, dI)) (ci := 6) (v := .ref oS) (C := RX6) (T := TX6) (N := 12) hx hb hts inX6 hown hK hP 0 rfl rfl 2 (by decide) (hts _ wd_24) (fun _ h9 => h9) rfl dX6_front_32 ?_
      refine lv_iload_n hx hb dX6_front_35 rfl (lv_at hl 1 rfl) ?_
      refine lv_iload_n hx hb dX6_front_36 rfl (lv_at hl 2 rfl) ?_
      have hMs := ml_of hD [false, false, false, false, true, true, false, false, false, false] (wc := [(oc5 oS rS_worths rS_order rS_left), (arI rS_order kS_order 72 fS_order)]) rfl
      have hFc := va_freeM hD hS hA _ hMs
      refine va_callv (va_runV (As := [.int p0, .int p1]) (rest := []) ⟨hx, hb, hml, hown, hts⟩ (tX5_bringFirst l dC dI _ oS rS_worths rS_order fS_order kS_order rS_left p0 p1 a_fS_order ⟨hc_6620.1, (om_525c5d3e b_iC_nodes.2 hc_6620.2.1)⟩ ⟨hc_6620.2.2.1, hc_6620.2.2.2.2⟩) (cwV 2 hts (wd_V wd_1019 wd_1020 wd_1021 wd_23 (wd_c wd_1022)) rfl rfl rfl dv_yX5_bringFirst_2 ⟨Nat.le_of_ble_eq_true rfl, Nat.le_of_ble_eq_true rfl⟩) ⟨Pw.fb, recvX5 hK hP (q0 := 4) rfl, fun U hU hW => Pw.to (hP.ms _ hMs) (hD.ms _ hMs) (hK.ms [false, false, true, false, false, false] rfl) hE hS hFc hU hW⟩ rfl rfl hl.1 rfl (lv_room (Nat.le_of_ble_eq_true rfl)) dX6_front_37 ⟨Nat.le_of_ble_eq_true rfl, Nat.le_of_ble_eq_true rfl⟩) hS (fun q _ h => hFc q h) hFc (fun u t H locs ht hvm hw hB hz1 hk1 hS => ?_)
      refine ex_1_2 hB (fun f_6628 a_f_6628 e_f_6628_0 hB => ?_)
      obtain ⟨hP, hD⟩ := Bw.goN (ws' := [(oc6 oK oR oC oS oT rK_images iK_imageCount oA oH oL x_6619 iK_latestFault iK_latestPlace), (oc1 oC iC_nodes iC_words iC_chances iC_unsures iC_slips iC_throneNode iC_saidWorth iC_unit rC_kind rC_parts rC_partNodes rC_weights rC_weightSums rC_toldWorths rC_steps rC_below rC_above rC_unsureWords rC_unsureWorths), (arI rC_parts kC_parts 18 fC_parts), (arI rC_partNodes kC_partNodes 72 fC_partNodes), (oc5 oS rS_worths rS_order rS_left), (arI rS_order kS_order 72 f_6628), (oc0 oA x_6624 rA_nodes rA_olds rA_says), (arI rA_nodes kA_nodes 16 f_6625), (arI rA_olds kA_olds 16 f_6626), (arI rA_says kA_says 16 f_6627)]) hB rfl ht hP hD _ hMs hk1 hFc rfl
      clear hz1 hk1 hvm ht hB hMs
      have hG := hG.trans (lt_eq e_f_6628_0.symm)
      refine lv_aload_n hx hb dX6_front_40 rfl (lv_at hl 0 rfl) ?_
      refine va_get (D := (dC, dI)) (ci := 6) (v := .ref oS) (C := RX6) (T := TX6) (N := 12) hx hb hts inX6 hown hK hP 0 rfl rfl 2 (by decide) (hts _ wd_24) (fun _ h9 => h9) rfl dX6_front_41 ?_
      refine lv_aload_n hx hb dX6_front_44 rfl (lv_at hl 0 rfl) ?_
      refine va_get (D := (dC, dI)) (ci := 6) (v := .ref oC) (C := RX6) (T := TX6) (N := 12) hx hb hts inX6 hown hK hP 0 rfl rfl 1 (by decide) (hts _ wd_20) (fun _ h9 => h9) rfl dX6_front_45 ?_
      refine lv_iload_n hx hb dX6_front_48 rfl (lv_at hl 1 rfl) ?_
      refine lv_iconst (v := 0) hx hb dX6_front_49 (by decide) ?_
      have hFc := va_free (wc := [(oc5 oS rS_worths rS_order rS_left), (arI rS_order kS_order 72 f_6628), (oc1 oC iC_nodes iC_words iC_chances iC_unsures iC_slips iC_throneNode iC_saidWorth iC_unit rC_kind rC_parts rC_partNodes rC_weights rC_weightSums rC_toldWorths rC_steps rC_below rC_above rC_unsureWords rC_unsureWorths), (arI rC_partNodes kC_partNodes 72 fC_partNodes)]) hD hS hA [4, 5, 1, 3] rfl
      refine va_calli (va_runV (As := [.ref oC, .int p0, .int 0]) (rest := []) ⟨hx, hb, hml, hown, hts⟩ (tX5_partAt l dC dI _ oS rS_worths rS_order f_6628 kS_order rS_left oC iC_nodes iC_words iC_chances iC_unsures iC_slips iC_throneNode iC_saidWorth iC_unit rC_kind rC_parts rC_partNodes fC_partNodes kC_partNodes rC_weights rC_weightSums rC_toldWorths rC_steps rC_below rC_above rC_unsureWords rC_unsureWorths p0 0 a_f_6628 b_iC_nodes b_iC_unsures b_iC_throneNode a_fC_partNodes ⟨hc_6620.1, (om_525c5d3e b_iC_nodes.2 hc_6620.2.1)⟩ ⟨(om_b1de7dbe kc_0), (om_9747a55e kc_0)⟩) (cwV 3 hts (wd_V wd_568 wd_569 wd_570 wd_23 (wd_c wd_571)) rfl rfl rfl dv_yX5_partAt_3 ⟨Nat.le_of_ble_eq_true rfl, Nat.le_of_ble_eq_true rfl⟩) ⟨Pw.fb, recvX5 hK hP (q0 := 4) rfl, fun U hU hW => Pw.to (hP.sub [4, 5, 1, 3] rfl) (hD.sub [4, 5, 1, 3] (by decide) rfl) (hK.sub [2, 1] rfl) hE hS hFc hU hW⟩ rfl rfl hl.1 rfl (lv_room (Nat.le_of_ble_eq_true rfl)) dX6_front_50 ⟨Nat.le_of_ble_eq_true rfl, Nat.le_of_ble_eq_true rfl⟩) hS (fun q _ h => hFc q h) hFc (fun r u t H locs ht hvm hw hB hz1 hk1 hS => ?_)
      have hru9 := hw.2
      have hw := hw.1
      obtain ⟨hP, hD, hK⟩ := Bw.go (ws' := [(oc6 oK oR oC oS oT rK_images iK_imageCount oA oH oL x_6619 iK_latestFault iK_latestPlace), (arI rC_parts kC_parts 18 fC_parts), (oc0 oA x_6624 rA_nodes rA_olds rA_says), (arI rA_nodes kA_nodes 16 f_6625), (arI rA_olds kA_olds 16 f_6626), (arI rA_says kA_says 16 f_6627), (oc5 oS rS_worths rS_order rS_left), (arI rS_order kS_order 72 f_6628), (oc1 oC iC_nodes iC_words iC_chances iC_unsures iC_slips iC_throneNode iC_saidWorth iC_unit rC_kind rC_parts rC_partNodes rC_weights rC_weightSums rC_toldWorths rC_steps rC_below rC_above rC_unsureWords rC_unsureWorths), (arI rC_partNodes kC_partNodes 72 fC_partNodes)]) (tys' := [(kC_parts, .int), (kA_nodes, .int), (kA_olds, .int), (kA_says, .boolean), (kS_order, .int), (kC_partNodes, .int)]) hB rfl ht hvm hP hD hK [4, 5, 1, 3] [0, 2, 6, 7, 8, 9] rfl (by decide) (by decide) [0, 3, 4, 5] hk1 hFc rfl rfl rfl
      clear hz1 hk1 hvm ht hB
      obtain ⟨x_6629, rfl⟩ : ∃ z, z = r := ⟨_, rfl⟩
      have hG := hG.trans (lt_eq hru9.symm)
      have ux_6629 := hw.2
      exact wq_i hx hb hr (cI x_6629) ⟨⟨trivial, trivial⟩, (cI_of x_6629)⟩ (fun t ht hW => ⟨x_6619, f_6628, x_6624, f_6625, f_6626, f_6627, a_f_6628, b_x_6624, a_f_6625, a_f_6627, (cI_tup hG), Bw.to (hP.sub [0, 8, 1, 9, 6, 7, 2, 3, 4, 5] rfl) (hD.sub [0, 8, 1, 9, 6, 7, 2, 3, 4, 5] (by decide) rfl) (hK.sub [0, 5, 4, 1, 2, 3] rfl) ht hW⟩) hS dX6_front_53 hlocks
    · skip
      have hG := hG.trans (if_pos c_6623)
      have gc_6623 := ti_eq c_6623 rfl kc_0
      refine lv_aload_n hx hb dX6_front_15 rfl (lv_at hl 0 rfl) ?_
      refine lv_iconst (v := 5) hx hb dX6_front_16 (by decide) ?_
      have hMs := ml_of hD [true, false, false, false, false, false, false, false, false, false] (wc := [(oc6 oK oR oC oS oT rK_images iK_imageCount oA oH oL x_6619 iK_latestFault iK_latestPlace)]) rfl
      have hFc := va_freeM hD hS hA _ hMs
      refine va_calli (va_runV (As := [.int 5]) (rest := []) ⟨hx, hb, hml, hown, hts⟩ (tX6_refuse l dC dI _ oK oR oC oS oT rK_images iK_imageCount oA oH oL x_6619 iK_latestFault iK_latestPlace 5 b_iK_imageCount) (cwV 1 hts (wd_V wd_197 wd_198 wd_199 wd_2 (wd_c wd_200)) rfl rfl rfl dv_yX6_refuse_1 ⟨Nat.le_of_ble_eq_true rfl, Nat.le_of_ble_eq_true rfl⟩) ⟨Pw.fb, recvX6 hK hP (q0 := 0) rfl, fun U hU hW => Pw.to (hP.ms _ hMs) (hD.ms _ hMs) (hK.ms [false, false, false, false, false, false] rfl) hE hS hFc hU hW⟩ rfl rfl hl.1 rfl (lv_room (Nat.le_of_ble_eq_true rfl)) dX6_front_17 ⟨Nat.le_of_ble_eq_true rfl, Nat.le_of_ble_eq_true rfl⟩) hS (fun q _ h => hFc q h) hFc (fun r u t H locs ht hvm hw hB hz1 hk1 hS => ?_)
      have hru9 := hw.2
      have hw := hw.1
      refine ex_1_1 hB (fun x_6630 e_x_6630_0 hB => ?_)
      obtain ⟨hP, hD⟩ := Bw.goN (ws' := [(oc6 oK oR oC oS oT rK_images iK_imageCount oA oH oL x_6630 iK_latestFault iK_latestPlace), (oc1 oC iC_nodes iC_words iC_chances iC_unsures iC_slips iC_throneNode iC_saidWorth iC_unit rC_kind rC_parts rC_partNodes rC_weights rC_weightSums rC_toldWorths rC_steps rC_below rC_above rC_unsureWords rC_unsureWorths), (arI rC_parts kC_parts 18 fC_parts), (arI rC_partNodes kC_partNodes 72 fC_partNodes), (oc5 oS rS_worths rS_order rS_left), (arI rS_order kS_order 72 fS_order), (oc0 oA iA_count rA_nodes rA_olds rA_says), (arI rA_nodes kA_nodes 16 fA_nodes), (arI rA_olds kA_olds 16 fA_olds), (arI rA_says kA_says 16 fA_says)]) hB rfl ht hP hD _ hMs hk1 hFc rfl
      clear hz1 hk1 hvm ht hB hMs
      rw [← hru9] at e_x_6630_0
      obtain ⟨x_6631, rfl⟩ : ∃ z, z = r := ⟨_, rfl⟩
      have hG := hG.trans (un2_eq e_x_6630_0)
      have ux_6631 := hw.2
      exact wq_i hx hb hr (cI x_6631) ⟨⟨trivial, trivial⟩, (cI_of x_6631)⟩ (fun t ht hW => ⟨x_6630, fS_order, iA_count, fA_nodes, fA_olds, fA_says, a_fS_order, b_iA_count, a_fA_nodes, a_fA_says, (cI_tup hG), Bw.to hP hD hK ht hW⟩) hS dX6_front_20 hlocks
  · skip
    have hG := hG.trans (un2_eq e_x_6619_0)
    have hG := hG.trans (if_neg (by decide))
    refine lv_if_eq (tgt := 11) hx hb dX6_front_6 (by decide) (fun c => absurd c (by decide)) (fun _ => ?_)
    refine lv_iconst (v := (-1)) hx hb dX6_front_9 (by decide) ?_
    exact wq_i hx hb hr (cI (-1)) ⟨⟨trivial, trivial⟩, (cI_of (-1))⟩ (fun t ht hW => ⟨x_6619, fS_order, iA_count, fA_nodes, fA_olds, fA_says, a_fS_order, b_iA_count, a_fA_nodes, a_fA_says, (cI_tup hG), Bw.to hP hD hK ht hW⟩) hS dX6_front_10 hlocks
set_option maxHeartbeats 4000000 in
set_option maxRecDepth 100000 in
theorem tX6_undo (l : Launch) (dC : Nat → ClassId) (dI : Nat → Nat → Nat) (sz : Nat) (oK : Nat) (oR : Nat) (oC : Nat) (oS : Nat) (oT : Nat) (rK_images : Nat) (iK_imageCount : Int32) (oA : Nat) (oH : Nat) (oL : Nat) (iK_refusal : Int32) (iK_latestFault : Int32) (iK_latestPlace : Int32) (rS_worths : Nat) (fS_worths : Nat → Int32) (kS_worths : ClassId) (rS_order : Nat) (fS_order : Nat → Int32) (kS_order : ClassId) (rS_left : Nat) (iA_count : Int32) (rA_nodes : Nat) (fA_nodes : Nat → Int32) (kA_nodes : ClassId) (rA_olds : Nat) (fA_olds : Nat → Int32) (kA_olds : ClassId) (rA_says : Nat) (fA_says : Nat → Int32) (kA_says : ClassId) (b_iK_imageCount : 0 ≤ iK_imageCount.toInt ∧ iK_imageCount.toInt ≤ 3) (a_fS_order : ∀ j : Nat, j < 72 → 0 ≤ (fS_order j).toInt ∧ (fS_order j).toInt ≤ 3) (b_iA_count : 0 ≤ iA_count.toInt ∧ iA_count.toInt ≤ 16) (a_fA_nodes : ∀ j : Nat, j < 16 → 0 ≤ (fA_nodes j).toInt ∧ (fA_nodes j).toInt ≤ 17) (a_fA_says : ∀ j : Nat, j < 16 → 0 ≤ (fA_says j).toInt ∧ (fA_says j).toInt ≤ 1) (r_A : ∀ j : Nat, j < 16 → fA_says j = 0 → 0 ≤ (fA_olds j).toInt ∧ (fA_olds j).toInt ≤ 3)  : Met l yX6_undo (Cond.code yX6_undo cX6_undo 1 (some .boolean) :: wG) ({ frames := 2, cells := 0, slots := 0, locals := 46 }) (va_Pc [.ref oK] (Pw dC dI sz [(oc6 oK oR oC oS oT rK_images iK_imageCount oA oH oL iK_refusal iK_latestFault iK_latestPlace), (oc5 oS rS_worths rS_order rS_left), (arI rS_worths kS_worths 18 fS_worths), (arI rS_order kS_order 72 fS_order), (oc0 oA iA_count rA_nodes rA_olds rA_says), (arI rA_nodes kA_nodes 16 fA_nodes), (arI rA_olds kA_olds 16 fA_olds), (arI rA_says kA_says 16 fA_says)] [(kS_worths, .int), (kS_order, .int), (kA_nodes, .int), (kA_olds, .int), (kA_says, .boolean)])) (va_Qi (fun (r : Int32) (u : Nat) => ((r = 0 ∨ r = 1) ∧ True) ∧ r = Int32.ofNat u) (fun (u : Nat) (t : State) => ∃ (niK_refusal : Int32) (nfS_worths : Nat → Int32) (nfS_order : Nat → Int32) (niA_count : Int32), (0 ≤ niK_refusal.toInt ∧ niK_refusal.toInt ≤ 6) ∧ (∀ j : Nat, j < 72 → 0 ≤ (nfS_order j).toInt ∧ (nfS_order j).toInt ≤ 3) ∧ (0 ≤ niA_count.toInt ∧ niA_count.toInt ≤ 16) ∧ (PX6_undo fS_worths fS_order iA_count fA_nodes fA_olds fA_says = (Int32.ofNat u, niK_refusal, nfS_worths, nfS_order, niA_count)) ∧ Bw dC dI (va_A [(oc6 oK oR oC oS oT rK_images iK_imageCount oA oH oL iK_refusal iK_latestFault iK_latestPlace), (oc5 oS rS_worths rS_order rS_left), (arI rS_worths kS_worths 18 fS_worths), (arI rS_order kS_order 72 fS_order), (oc0 oA iA_count rA_nodes rA_olds rA_says), (arI rA_nodes kA_nodes 16 fA_nodes), (arI rA_olds kA_olds 16 fA_olds), (arI rA_says kA_says 16 fA_says)] sz) [(oc6 oK oR oC oS oT rK_images iK_imageCount oA oH oL niK_refusal iK_latestFault iK_latestPlace), (oc5 oS rS_worths rS_order rS_left), (arI rS_worths kS_worths 18 nfS_worths), (arI rS_order kS_order 72 nfS_order), (oc0 oA niA_count rA_nodes rA_olds rA_says), (arI rA_nodes kA_nodes 16 fA_nodes), (arI rA_olds kA_olds 16 fA_olds), (arI rA_says kA_says 16 fA_says)] [(kS_worths, .int), (kS_order, .int), (kA_nodes, .int), (kA_olds, .int), (kA_says, .boolean)] t) (va_A [(oc6 oK oR oC oS oT rK_images iK_imageCount oA oH oL iK_refusal iK_latestFault iK_latestPlace), (oc5 oS rS_worths rS_order rS_left), (arI rS_worths kS_worths 18 fS_worths), (arI rS_order kS_order 72 fS_order), (oc0 oA iA_count rA_nodes rA_olds rA_says), (arI rA_nodes kA_nodes 16 fA_nodes), (arI rA_olds kA_olds 16 fA_olds), (arI rA_says kA_says 16 fA_says)] sz)) 0 0 (va_A [(oc6 oK oR oC oS oT rK_images iK_imageCount oA oH oL iK_refusal iK_latestFault iK_latestPlace), (oc5 oS rS_worths rS_order rS_left), (arI rS_worths kS_worths 18 fS_worths), (arI rS_order kS_order 72 fS_order), (oc0 oA iA_count rA_nodes rA_olds rA_says), (arI rA_nodes kA_nodes 16 fA_nodes), (arI rA_olds kA_olds 16 fA_olds), (arI rA_says kA_says 16 fA_says)] sz) := by
  refine Met.ofW (cc := cX6_undo) (maxL := 1) (ret := (some .boolean)) pnX6 rfl ?_
  intro p e s m args below meth c s₁ B hml hv
  obtain ⟨rfl, hsz, hP, hK, hD0, hE⟩ := hv
  have hx := B.exec
  have hb := B.bytes
  have hr := B.returns
  have hts : ∀ w ∈ wG, w.before ([.ref oK] : List Value).toArray s = true := fun w h => atoms_spec (ws := Cond.code yX6_undo cX6_undo 1 (some .boolean) :: wG) B.pre w (List.mem_cons_of_mem _ h)
  have hown : s.vm.findClass RX6 = some m.cls := own_of B.named rfl
  have hlocks := B.notSynchronized
  subst hsz
  have hD := hD0.self (sz := s.heap.size)
  generalize hAe : va_A [(oc6 oK oR oC oS oT rK_images iK_imageCount oA oH oL iK_refusal iK_latestFault iK_latestPlace), (oc5 oS rS_worths rS_order rS_left), (arI rS_worths kS_worths 18 fS_worths), (arI rS_order kS_order 72 fS_order), (oc0 oA iA_count rA_nodes rA_olds rA_says), (arI rA_nodes kA_nodes 16 fA_nodes), (arI rA_olds kA_olds 16 fA_olds), (arI rA_says kA_says 16 fA_says)] s.heap.size = A at hD hE ⊢
  have hA : ∀ q : Nat, s.heap.size ≤ q → A q := fun q h => by rw [← hAe]; exact Or.inr h
  have hS : va_S A s.heap s.heap [] := va_S.rf
  have hl := lv_entry ([.ref oK]) (n := 1) (Nat.le_of_ble_eq_true rfl)
  rw [lg_entry_eq]
  generalize (lg_sl ([.ref oK]) ++ List.replicate (1 - (lg_sl ([.ref oK])).length) Slot.unset).toArray = ls at hl ⊢
  have hl : lv_has ls 1 [(0, .ref oK)] := hl
  have hG := PX6_undo_eq fS_worths fS_order iA_count fA_nodes fA_olds fA_says
  refine lv_aload_n hx hb dX6_undo_0 rfl (lv_at hl 0 rfl) ?_
  refine lv_aload_n hx hb dX6_undo_1 rfl (lv_at hl 0 rfl) ?_
  refine va_get (D := (dC, dI)) (ci := 6) (v := .ref oA) (C := RX6) (T := TX6) (N := 12) hx hb hts inX6 hown hK hP 0 rfl rfl 6 (by decide) (hts _ wd_30) (fun _ h9 => h9) rfl dX6_undo_2 ?_
  refine va_get (D := (dC, dI)) (ci := 0) (v := .int iA_count) (C := RX0) (T := TX0) (N := 4) hx hb hts inX0 hown hK hP 4 rfl rfl 0 (by decide) (hts _ wd_1397) (fun _ h9 => h9) rfl dX6_undo_5 ?_
  refine lv_if_le (tgt := 15) hx hb dX6_undo_8 (by decide) (fun c_6641 => ?_) (fun c_6641 => ?_)
  · skip
    have hG := hG.trans (if_pos c_6641)
    have gc_6641 := ti_le c_6641 rfl kc_0
    refine lv_bipush (v := 6) hx hb dX6_undo_15 (by decide) ?_
    refine va_put (D := (dC, dI)) (ci := 6) (v := .int 6) (ty := .int) (C := RX6) (T := TX6) (N := 12) hx hb hts inX6 tyX6 tyX6_ok nmX6 hown hK hP hD hS 0 rfl rfl 9 (by decide) (hts _ wd_195) (fun _ h9 => h9) rfl (by decide +kernel) rfl rfl (Nat.le_of_ble_eq_true rfl) dX6_undo_17 (fun H locs hP hD hS => ?_)
    obtain ⟨hP, hD⟩ := wl2 (ws' := [(oc6 oK oR oC oS oT rK_images iK_imageCount oA oH oL 6 iK_latestFault iK_latestPlace), (oc5 oS rS_worths rS_order rS_left), (arI rS_worths kS_worths 18 fS_worths), (arI rS_order kS_order 72 fS_order), (oc0 oA iA_count rA_nodes rA_olds rA_says), (arI rA_nodes kA_nodes 16 fA_nodes), (arI rA_olds kA_olds 16 fA_olds), (arI rA_says kA_says 16 fA_says)]) hP hD rfl
    refine lv_aload_n hx hb dX6_undo_20 rfl (lv_at hl 0 rfl) ?_
    refine va_get (D := (dC, dI)) (ci := 6) (v := .int 6) (C := RX6) (T := TX6) (N := 12) hx hb hts inX6 hown hK hP 0 rfl rfl 9 (by decide) (hts _ wd_195) (fun _ h9 => h9) rfl dX6_undo_21 ?_
    refine lv_if_ne (tgt := 45) hx hb dX6_undo_24 (by decide) (fun _ => ?_) (fun c => absurd c (by decide))
    refine lv_iconst (v := 0) hx hb dX6_undo_45 (by decide) ?_
    exact wq_z (v := 0) hx hb hr rfl (cI 0) ⟨⟨Or.inl rfl, trivial⟩, (cI_of 0)⟩ (fun t ht hW => ⟨6, fS_worths, fS_order, iA_count, (by decide), a_fS_order, b_iA_count, (cI_tup hG), Bw.to hP hD hK ht hW⟩) hS dX6_undo_46 hlocks
  · skip
    have hG := hG.trans (if_neg c_6641)
    have gc_6641 := ti_nle c_6641 rfl kc_0
    refine lv_iconst (v := 0) hx hb dX6_undo_11 (by decide) ?_
    refine lv_goto (tgt := 17) hx hb dX6_undo_12 (by decide) ?_
    refine va_put (D := (dC, dI)) (ci := 6) (v := .int 0) (ty := .int) (C := RX6) (T := TX6) (N := 12) hx hb hts inX6 tyX6 tyX6_ok nmX6 hown hK hP hD hS 0 rfl rfl 9 (by decide) (hts _ wd_195) (fun _ h9 => h9) rfl (by decide +kernel) rfl rfl (Nat.le_of_ble_eq_true rfl) dX6_undo_17 (fun H locs hP hD hS => ?_)
    obtain ⟨hP, hD⟩ := wl2 (ws' := [(oc6 oK oR oC oS oT rK_images iK_imageCount oA oH oL 0 iK_latestFault iK_latestPlace), (oc5 oS rS_worths rS_order rS_left), (arI rS_worths kS_worths 18 fS_worths), (arI rS_order kS_order 72 fS_order), (oc0 oA iA_count rA_nodes rA_olds rA_says), (arI rA_nodes kA_nodes 16 fA_nodes), (arI rA_olds kA_olds 16 fA_olds), (arI rA_says kA_says 16 fA_says)]) hP hD rfl
    refine lv_aload_n hx hb dX6_undo_20 rfl (lv_at hl 0 rfl) ?_
    refine va_get (D := (dC, dI)) (ci := 6) (v := .int 0) (C := RX6) (T := TX6) (N := 12) hx hb hts inX6 hown hK hP 0 rfl rfl 9 (by decide) (hts _ wd_195) (fun _ h9 => h9) rfl dX6_undo_21 ?_
    refine lv_if_ne (tgt := 45) hx hb dX6_undo_24 (by decide) (fun c => absurd c (by decide)) (fun _ => ?_)
    refine lv_aload_n hx hb dX6_undo_27 rfl (lv_at hl 0 rfl) ?_
    refine va_get (D := (dC, dI)) (ci := 6) (v := .ref oA) (C := RX6) (T := TX6) (N := 12) hx hb hts inX6 hown hK hP 0 rfl rfl 6 (by decide) (hts _ wd_30) (fun _ h9 => h9) rfl dX6_undo_28 ?_
    refine lv_aload_n hx hb dX6_undo_31 rfl (lv_at hl 0 rfl) ?_
    refine va_get (D := (dC, dI)) (ci := 6) (v := .ref oS) (C := RX6) (T := TX6) (N := 12) hx hb hts inX6 hown hK hP 0 rfl rfl 2 (by decide) (hts _ wd_24) (fun _ h9 => h9) rfl dX6_undo_32 ?_
    have hFc := va_free (wc := [(oc0 oA iA_count rA_nodes rA_olds rA_says), (arI rA_nodes kA_nodes 16 fA_nodes), (arI rA_olds kA_olds 16 fA_olds), (arI rA_says kA_says 16 fA_says), (oc5 oS rS_worths rS_order rS_left), (arI rS_worths kS_worths 18 fS_worths), (arI rS_order kS_order 72 fS_order)]) hD hS hA [4, 5, 6, 7, 1, 2, 3] rfl
    refine va_calli (va_runV (As := [.ref oS]) (rest := []) ⟨hx, hb, hml, hown, hts⟩ (tX0_takeBack l dC dI _ oA iA_count rA_nodes fA_nodes kA_nodes rA_olds fA_olds kA_olds rA_says fA_says kA_says oS rS_worths fS_worths kS_worths rS_order fS_order kS_order rS_left b_iA_count a_fA_nodes a_fA_says a_fS_order (by assumption)) (cwV 1 hts (wd_V wd_1398 wd_1399 wd_1400 wd_29 (wd_c wd_1401)) rfl rfl rfl dv_yX0_takeBack_1 ⟨Nat.le_of_ble_eq_true rfl, Nat.le_of_ble_eq_true rfl⟩) ⟨Pw.fb, recvX0 hK hP (q0 := 4) rfl, fun U hU hW => Pw.to (hP.sub [4, 5, 6, 7, 1, 2, 3] rfl) (hD.sub [4, 5, 6, 7, 1, 2, 3] (by decide) rfl) (hK.sub [2, 3, 4, 0, 1] rfl) hE hS hFc hU hW⟩ rfl rfl hl.1 rfl (lv_room (Nat.le_of_ble_eq_true rfl)) dX6_undo_35 ⟨Nat.le_of_ble_eq_true rfl, Nat.le_of_ble_eq_true rfl⟩) hS (fun q _ h => hFc q h) hFc (fun r u t H locs ht hvm hw hB hz1 hk1 hS => ?_)
    have hru9 := hw.2
    have hw := hw.1
    refine ex_3_3 hB (fun x_6644 f_6645 f_6646 b_x_6644 a_f_6646 e_x_6644_0 hB => ?_)
    obtain ⟨hP, hD, hK⟩ := Bw.go (ws' := [(oc6 oK oR oC oS oT rK_images iK_imageCount oA oH oL 0 iK_latestFault iK_latestPlace), (oc0 oA x_6644 rA_nodes rA_olds rA_says), (arI rA_nodes kA_nodes 16 fA_nodes), (arI rA_olds kA_olds 16 fA_olds), (arI rA_says kA_says 16 fA_says), (oc5 oS rS_worths rS_order rS_left), (arI rS_worths kS_worths 18 f_6645), (arI rS_order kS_order 72 f_6646)]) (tys' := [(kA_nodes, .int), (kA_olds, .int), (kA_says, .boolean), (kS_worths, .int), (kS_order, .int)]) hB rfl ht hvm hP hD hK [4, 5, 6, 7, 1, 2, 3] [0] rfl (by decide) (by decide) [] hk1 hFc rfl rfl rfl
    clear hz1 hk1 hvm ht hB
    rw [← hru9] at e_x_6644_0
    obtain ⟨x_6647, rfl⟩ : ∃ z, z = r := ⟨_, rfl⟩
    have hG := hG.trans (un4_eq e_x_6644_0)
    have bx_6647 := hw.1
    have dx_6647 := bz_tb bx_6647
    refine lv_if_eq (tgt := 45) hx hb dX6_undo_38 (by decide) (fun c_6648 => ?_) (fun c_6648 => ?_)
    · skip
      have hG := hG.trans (if_pos c_6648)
      have gc_6648 := ti_eq c_6648 rfl kc_0
      refine lv_iconst (v := 0) hx hb dX6_undo_45 (by decide) ?_
      exact wq_z (v := 0) hx hb hr rfl (cI 0) ⟨⟨Or.inl rfl, trivial⟩, (cI_of 0)⟩ (fun t ht hW => ⟨0, f_6645, f_6646, x_6644, (by decide), a_f_6646, b_x_6644, (cI_tup hG), Bw.to (hP.sub [0, 5, 6, 7, 1, 2, 3, 4] rfl) (hD.sub [0, 5, 6, 7, 1, 2, 3, 4] (by decide) rfl) (hK.sub [3, 4, 0, 1, 2] rfl) ht hW⟩) hS dX6_undo_46 hlocks
    · skip
      have hG := hG.trans (if_neg c_6648)
      have gc_6648 := ti_ne c_6648 rfl kc_0
      refine lv_iconst (v := 1) hx hb dX6_undo_41 (by decide) ?_
      refine lv_goto (tgt := 46) hx hb dX6_undo_42 (by decide) ?_
      exact wq_z (v := 1) hx hb hr rfl (cI 1) ⟨⟨Or.inr rfl, trivial⟩, (cI_of 1)⟩ (fun t ht hW => ⟨0, f_6645, f_6646, x_6644, (by decide), a_f_6646, b_x_6644, (cI_tup hG), Bw.to (hP.sub [0, 5, 6, 7, 1, 2, 3, 4] rfl) (hD.sub [0, 5, 6, 7, 1, 2, 3, 4] (by decide) rfl) (hK.sub [3, 4, 0, 1, 2] rfl) ht hW⟩) hS dX6_undo_46 hlocks
set_option maxHeartbeats 4000000 in
set_option maxRecDepth 100000 in
theorem tX6_size (l : Launch) (dC : Nat → ClassId) (dI : Nat → Nat → Nat) (sz : Nat) (oK : Nat) (oR : Nat) (oC : Nat) (oS : Nat) (oT : Nat) (rK_images : Nat) (iK_imageCount : Int32) (oA : Nat) (oH : Nat) (oL : Nat) (iK_refusal : Int32) (iK_latestFault : Int32) (iK_latestPlace : Int32) (iC_nodes : Int32) (iC_words : Int32) (iC_chances : Int32) (iC_unsures : Int32) (iC_slips : Int32) (iC_throneNode : Int32) (iC_saidWorth : Int32) (iC_unit : Int32) (rC_kind : Nat) (rC_parts : Nat) (rC_partNodes : Nat) (rC_weights : Nat) (rC_weightSums : Nat) (rC_toldWorths : Nat) (rC_steps : Nat) (rC_below : Nat) (rC_above : Nat) (rC_unsureWords : Nat) (rC_unsureWorths : Nat) (iA_count : Int32) (rA_nodes : Nat) (rA_olds : Nat) (rA_says : Nat) (iR_faultNumber : Int32) (iR_faultPlace : Int32) (iR_tapeSize : Int32) (rR_tape : Nat) (iR_end : Int32) (iR_tokenKind : Int32) (iR_tokenFrom : Int32) (iR_tokenTo : Int32) (iR_tokenName : Int64) (iR_tokenKey : Int32) (iR_tokenWhole : Int32) (oD : Nat) (iR_courtTold : Int32) (rR_names : Nat) (rR_keys : Nat) (p0 : Int32) (b_iK_imageCount : 0 ≤ iK_imageCount.toInt ∧ iK_imageCount.toInt ≤ 3) (b_iC_nodes : 0 ≤ iC_nodes.toInt ∧ iC_nodes.toInt ≤ 18) (b_iC_unsures : 0 ≤ iC_unsures.toInt ∧ iC_unsures.toInt ≤ 4) (b_iC_throneNode : (-1) ≤ iC_throneNode.toInt ∧ iC_throneNode.toInt ≤ 17) (b_iA_count : 0 ≤ iA_count.toInt ∧ iA_count.toInt ≤ 16) (b_iR_tapeSize : 0 ≤ iR_tapeSize.toInt ∧ iR_tapeSize.toInt ≤ 900) (b_iR_courtTold : 0 ≤ iR_courtTold.toInt ∧ iR_courtTold.toInt ≤ 1)  : Met l yX6_size (Cond.code yX6_size cX6_size 2 (some .int) :: wG) ({ frames := 0, cells := 0, slots := 0, locals := 0 }) (va_Pc [.ref oK, .int p0] (Pw dC dI sz [(oc6 oK oR oC oS oT rK_images iK_imageCount oA oH oL iK_refusal iK_latestFault iK_latestPlace), (oc1 oC iC_nodes iC_words iC_chances iC_unsures iC_slips iC_throneNode iC_saidWorth iC_unit rC_kind rC_parts rC_partNodes rC_weights rC_weightSums rC_toldWorths rC_steps rC_below rC_above rC_unsureWords rC_unsureWorths), (oc0 oA iA_count rA_nodes rA_olds rA_says), (oc3 oR iR_faultNumber iR_faultPlace iR_tapeSize rR_tape iR_end iR_tokenKind iR_tokenFrom iR_tokenTo iR_tokenName iR_tokenKey iR_tokenWhole oD iR_courtTold rR_names rR_keys)] [])) (va_Qi (fun (r : Int32) (_ : Nat) => (True ∧ True) ∧ PX6_size iK_imageCount iC_nodes iC_words iC_unsures iC_slips iC_saidWorth iA_count iR_tapeSize p0 = r) (fun (_ : Nat) (t : State) => Bw dC dI (va_A [(oc6 oK oR oC oS oT rK_images iK_imageCount oA oH oL iK_refusal iK_latestFault iK_latestPlace), (oc1 oC iC_nodes iC_words iC_chances iC_unsures iC_slips iC_throneNode iC_saidWorth iC_unit rC_kind rC_parts rC_partNodes rC_weights rC_weightSums rC_toldWorths rC_steps rC_below rC_above rC_unsureWords rC_unsureWorths), (oc0 oA iA_count rA_nodes rA_olds rA_says), (oc3 oR iR_faultNumber iR_faultPlace iR_tapeSize rR_tape iR_end iR_tokenKind iR_tokenFrom iR_tokenTo iR_tokenName iR_tokenKey iR_tokenWhole oD iR_courtTold rR_names rR_keys)] sz) [(oc6 oK oR oC oS oT rK_images iK_imageCount oA oH oL iK_refusal iK_latestFault iK_latestPlace), (oc1 oC iC_nodes iC_words iC_chances iC_unsures iC_slips iC_throneNode iC_saidWorth iC_unit rC_kind rC_parts rC_partNodes rC_weights rC_weightSums rC_toldWorths rC_steps rC_below rC_above rC_unsureWords rC_unsureWorths), (oc0 oA iA_count rA_nodes rA_olds rA_says), (oc3 oR iR_faultNumber iR_faultPlace iR_tapeSize rR_tape iR_end iR_tokenKind iR_tokenFrom iR_tokenTo iR_tokenName iR_tokenKey iR_tokenWhole oD iR_courtTold rR_names rR_keys)] [] t) (va_A [(oc6 oK oR oC oS oT rK_images iK_imageCount oA oH oL iK_refusal iK_latestFault iK_latestPlace), (oc1 oC iC_nodes iC_words iC_chances iC_unsures iC_slips iC_throneNode iC_saidWorth iC_unit rC_kind rC_parts rC_partNodes rC_weights rC_weightSums rC_toldWorths rC_steps rC_below rC_above rC_unsureWords rC_unsureWorths), (oc0 oA iA_count rA_nodes rA_olds rA_says), (oc3 oR iR_faultNumber iR_faultPlace iR_tapeSize rR_tape iR_end iR_tokenKind iR_tokenFrom iR_tokenTo iR_tokenName iR_tokenKey iR_tokenWhole oD iR_courtTold rR_names rR_keys)] sz)) 0 0 (va_A [(oc6 oK oR oC oS oT rK_images iK_imageCount oA oH oL iK_refusal iK_latestFault iK_latestPlace), (oc1 oC iC_nodes iC_words iC_chances iC_unsures iC_slips iC_throneNode iC_saidWorth iC_unit rC_kind rC_parts rC_partNodes rC_weights rC_weightSums rC_toldWorths rC_steps rC_below rC_above rC_unsureWords rC_unsureWorths), (oc0 oA iA_count rA_nodes rA_olds rA_says), (oc3 oR iR_faultNumber iR_faultPlace iR_tapeSize rR_tape iR_end iR_tokenKind iR_tokenFrom iR_tokenTo iR_tokenName iR_tokenKey iR_tokenWhole oD iR_courtTold rR_names rR_keys)] sz) := by
  refine Met.ofW (cc := cX6_size) (maxL := 2) (ret := (some .int)) pnX6 rfl ?_
  intro p e s m args below meth c s₁ B hml hv
  obtain ⟨rfl, hsz, hP, hK, hD0, hE⟩ := hv
  have hx := B.exec
  have hb := B.bytes
  have hr := B.returns
  have hts : ∀ w ∈ wG, w.before ([.ref oK, .int p0] : List Value).toArray s = true := fun w h => atoms_spec (ws := Cond.code yX6_size cX6_size 2 (some .int) :: wG) B.pre w (List.mem_cons_of_mem _ h)
  have hown : s.vm.findClass RX6 = some m.cls := own_of B.named rfl
  have hlocks := B.notSynchronized
  subst hsz
  have hD := hD0.self (sz := s.heap.size)
  generalize hAe : va_A [(oc6 oK oR oC oS oT rK_images iK_imageCount oA oH oL iK_refusal iK_latestFault iK_latestPlace), (oc1 oC iC_nodes iC_words iC_chances iC_unsures iC_slips iC_throneNode iC_saidWorth iC_unit rC_kind rC_parts rC_partNodes rC_weights rC_weightSums rC_toldWorths rC_steps rC_below rC_above rC_unsureWords rC_unsureWorths), (oc0 oA iA_count rA_nodes rA_olds rA_says), (oc3 oR iR_faultNumber iR_faultPlace iR_tapeSize rR_tape iR_end iR_tokenKind iR_tokenFrom iR_tokenTo iR_tokenName iR_tokenKey iR_tokenWhole oD iR_courtTold rR_names rR_keys)] s.heap.size = A at hD hE ⊢
  have hA : ∀ q : Nat, s.heap.size ≤ q → A q := fun q h => by rw [← hAe]; exact Or.inr h
  have hS : va_S A s.heap s.heap [] := va_S.rf
  have hl := lv_entry ([.ref oK, .int p0]) (n := 2) (Nat.le_of_ble_eq_true rfl)
  rw [lg_entry_eq]
  generalize (lg_sl ([.ref oK, .int p0]) ++ List.replicate (2 - (lg_sl ([.ref oK, .int p0])).length) Slot.unset).toArray = ls at hl ⊢
  have hl : lv_has ls 2 [(0, .ref oK), (1, .int p0)] := hl
  have hG := PX6_size_eq iK_imageCount iC_nodes iC_words iC_unsures iC_slips iC_saidWorth iA_count iR_tapeSize p0
  refine lv_iload_n hx hb dX6_size_0 rfl (lv_at hl 1 rfl) ?_
  rcases (show p0.toInt < 0 ∨ 7 < p0.toInt ∨ p0.toInt = 0 ∨ p0.toInt = 1 ∨ p0.toInt = 2 ∨ p0.toInt = 3 ∨ p0.toInt = 4 ∨ p0.toInt = 5 ∨ p0.toInt = 6 ∨ p0.toInt = 7 by omega) with h_s | h_s | h_s | h_s | h_s | h_s | h_s | h_s | h_s | h_s
  · skip
    have hG := hG.trans (sw_out (by first | exact Or.inl h_s | exact Or.inr (by show ((0 : Int) + (8 : Nat) ≤ _); omega)))
    refine lv_tableOut (tgt := 117) hx hb dX6_size_1 (Or.inl h_s) (by decide) ?_
    refine lv_iconst (v := (-1)) hx hb dX6_size_117 (by decide) ?_
    exact wq_i hx hb hr 0 ⟨⟨trivial, trivial⟩, hG⟩ (fun t ht hW => Bw.to hP hD hK ht hW) hS dX6_size_118 hlocks
  · skip
    have hG := hG.trans (sw_out (by first | exact Or.inl h_s | exact Or.inr (by show ((0 : Int) + (8 : Nat) ≤ _); omega)))
    refine lv_tableOut (tgt := 117) hx hb dX6_size_1 (Or.inr h_s) (by decide) ?_
    refine lv_iconst (v := (-1)) hx hb dX6_size_117 (by decide) ?_
    exact wq_i hx hb hr 0 ⟨⟨trivial, trivial⟩, hG⟩ (fun t ht hW => Bw.to hP hD hK ht hW) hS dX6_size_118 hlocks
  · skip
    have hG := hG.trans (sw_in (j := 0) (h_s.trans (by decide)) rfl)
    refine lv_tableIn (off := 47) (tgt := 48) hx hb dX6_size_1 (by rw [h_s]; decide) (by rw [h_s]; decide) (by rw [h_s]; rfl) (by decide) ?_
    refine lv_aload_n hx hb dX6_size_48 rfl (lv_at hl 0 rfl) ?_
    refine va_get (D := (dC, dI)) (ci := 6) (v := .ref oC) (C := RX6) (T := TX6) (N := 12) hx hb hts inX6 hown hK hP 0 rfl rfl 1 (by decide) (hts _ wd_20) (fun _ h9 => h9) rfl dX6_size_49 ?_
    refine va_get (D := (dC, dI)) (ci := 1) (v := .int iC_slips) (C := RX1) (T := TX1) (N := 19) hx hb hts inX1 hown hK hP 1 rfl rfl 4 (by decide) (hts _ wd_1450) (fun _ h9 => h9) rfl dX6_size_52 ?_
    exact wq_i hx hb hr 0 ⟨⟨trivial, trivial⟩, hG⟩ (fun t ht hW => Bw.to hP hD hK ht hW) hS dX6_size_55 hlocks
  · skip
    have hG := hG.trans (sw_in (j := 1) (h_s.trans (by decide)) rfl)
    refine lv_tableIn (off := 55) (tgt := 56) hx hb dX6_size_1 (by rw [h_s]; decide) (by rw [h_s]; decide) (by rw [h_s]; rfl) (by decide) ?_
    refine lv_aload_n hx hb dX6_size_56 rfl (lv_at hl 0 rfl) ?_
    refine va_get (D := (dC, dI)) (ci := 6) (v := .ref oC) (C := RX6) (T := TX6) (N := 12) hx hb hts inX6 hown hK hP 0 rfl rfl 1 (by decide) (hts _ wd_20) (fun _ h9 => h9) rfl dX6_size_57 ?_
    refine va_get (D := (dC, dI)) (ci := 1) (v := .int iC_nodes) (C := RX1) (T := TX1) (N := 19) hx hb hts inX1 hown hK hP 1 rfl rfl 0 (by decide) (hts _ wd_196) (fun _ h9 => h9) rfl dX6_size_60 ?_
    exact wq_i hx hb hr 0 ⟨⟨trivial, trivial⟩, hG⟩ (fun t ht hW => Bw.to hP hD hK ht hW) hS dX6_size_63 hlocks
  · skip
    have hG := hG.trans (sw_in (j := 2) (h_s.trans (by decide)) rfl)
    refine lv_tableIn (off := 63) (tgt := 64) hx hb dX6_size_1 (by rw [h_s]; decide) (by rw [h_s]; decide) (by rw [h_s]; rfl) (by decide) ?_
    refine lv_aload_n hx hb dX6_size_64 rfl (lv_at hl 0 rfl) ?_
    refine va_get (D := (dC, dI)) (ci := 6) (v := .ref oC) (C := RX6) (T := TX6) (N := 12) hx hb hts inX6 hown hK hP 0 rfl rfl 1 (by decide) (hts _ wd_20) (fun _ h9 => h9) rfl dX6_size_65 ?_
    refine va_get (D := (dC, dI)) (ci := 1) (v := .int iC_words) (C := RX1) (T := TX1) (N := 19) hx hb hts inX1 hown hK hP 1 rfl rfl 1 (by decide) (hts _ wd_1451) (fun _ h9 => h9) rfl dX6_size_68 ?_
    exact wq_i hx hb hr 0 ⟨⟨trivial, trivial⟩, hG⟩ (fun t ht hW => Bw.to hP hD hK ht hW) hS dX6_size_71 hlocks
  · skip
    have hG := hG.trans (sw_in (j := 3) (h_s.trans (by decide)) rfl)
    refine lv_tableIn (off := 71) (tgt := 72) hx hb dX6_size_1 (by rw [h_s]; decide) (by rw [h_s]; decide) (by rw [h_s]; rfl) (by decide) ?_
    refine lv_aload_n hx hb dX6_size_72 rfl (lv_at hl 0 rfl) ?_
    refine va_get (D := (dC, dI)) (ci := 6) (v := .ref oC) (C := RX6) (T := TX6) (N := 12) hx hb hts inX6 hown hK hP 0 rfl rfl 1 (by decide) (hts _ wd_20) (fun _ h9 => h9) rfl dX6_size_73 ?_
    refine va_get (D := (dC, dI)) (ci := 1) (v := .int iC_unsures) (C := RX1) (T := TX1) (N := 19) hx hb hts inX1 hown hK hP 1 rfl rfl 3 (by decide) (hts _ wd_1229) (fun _ h9 => h9) rfl dX6_size_76 ?_
    exact wq_i hx hb hr 0 ⟨⟨trivial, trivial⟩, hG⟩ (fun t ht hW => Bw.to hP hD hK ht hW) hS dX6_size_79 hlocks
  · skip
    have hG := hG.trans (sw_in (j := 4) (h_s.trans (by decide)) rfl)
    refine lv_tableIn (off := 79) (tgt := 80) hx hb dX6_size_1 (by rw [h_s]; decide) (by rw [h_s]; decide) (by rw [h_s]; rfl) (by decide) ?_
    refine lv_aload_n hx hb dX6_size_80 rfl (lv_at hl 0 rfl) ?_
    refine va_get (D := (dC, dI)) (ci := 6) (v := .ref oC) (C := RX6) (T := TX6) (N := 12) hx hb hts inX6 hown hK hP 0 rfl rfl 1 (by decide) (hts _ wd_20) (fun _ h9 => h9) rfl dX6_size_81 ?_
    refine va_get (D := (dC, dI)) (ci := 1) (v := .int iC_saidWorth) (C := RX1) (T := TX1) (N := 19) hx hb hts inX1 hown hK hP 1 rfl rfl 6 (by decide) (hts _ wd_1164) (fun _ h9 => h9) rfl dX6_size_84 ?_
    refine lv_if_lt (tgt := 94) hx hb dX6_size_87 (by decide) (fun c_6650 => ?_) (fun c_6650 => ?_)
    · skip
      have hG := hG.trans (if_pos c_6650)
      have gc_6650 := ti_lt c_6650 rfl kc_0
      refine lv_iconst (v := 0) hx hb dX6_size_94 (by decide) ?_
      exact wq_i hx hb hr 0 ⟨⟨trivial, trivial⟩, hG⟩ (fun t ht hW => Bw.to hP hD hK ht hW) hS dX6_size_95 hlocks
    · skip
      have hG := hG.trans (if_neg c_6650)
      have gc_6650 := ti_nlt c_6650 rfl kc_0
      refine lv_iconst (v := 1) hx hb dX6_size_90 (by decide) ?_
      refine lv_goto (tgt := 95) hx hb dX6_size_91 (by decide) ?_
      exact wq_i hx hb hr 0 ⟨⟨trivial, trivial⟩, hG⟩ (fun t ht hW => Bw.to hP hD hK ht hW) hS dX6_size_95 hlocks
  · skip
    have hG := hG.trans (sw_in (j := 5) (h_s.trans (by decide)) rfl)
    refine lv_tableIn (off := 95) (tgt := 96) hx hb dX6_size_1 (by rw [h_s]; decide) (by rw [h_s]; decide) (by rw [h_s]; rfl) (by decide) ?_
    refine lv_aload_n hx hb dX6_size_96 rfl (lv_at hl 0 rfl) ?_
    refine va_get (D := (dC, dI)) (ci := 6) (v := .ref oA) (C := RX6) (T := TX6) (N := 12) hx hb hts inX6 hown hK hP 0 rfl rfl 6 (by decide) (hts _ wd_30) (fun _ h9 => h9) rfl dX6_size_97 ?_
    refine va_get (D := (dC, dI)) (ci := 0) (v := .int iA_count) (C := RX0) (T := TX0) (N := 4) hx hb hts inX0 hown hK hP 2 rfl rfl 0 (by decide) (hts _ wd_1397) (fun _ h9 => h9) rfl dX6_size_100 ?_
    exact wq_i hx hb hr 0 ⟨⟨trivial, trivial⟩, hG⟩ (fun t ht hW => Bw.to hP hD hK ht hW) hS dX6_size_103 hlocks
  · skip
    have hG := hG.trans (sw_in (j := 6) (h_s.trans (by decide)) rfl)
    refine lv_tableIn (off := 103) (tgt := 104) hx hb dX6_size_1 (by rw [h_s]; decide) (by rw [h_s]; decide) (by rw [h_s]; rfl) (by decide) ?_
    refine lv_aload_n hx hb dX6_size_104 rfl (lv_at hl 0 rfl) ?_
    refine va_get (D := (dC, dI)) (ci := 6) (v := .int iK_imageCount) (C := RX6) (T := TX6) (N := 12) hx hb hts inX6 hown hK hP 0 rfl rfl 5 (by decide) (hts _ wd_194) (fun _ h9 => h9) rfl dX6_size_105 ?_
    exact wq_i hx hb hr 0 ⟨⟨trivial, trivial⟩, hG⟩ (fun t ht hW => Bw.to hP hD hK ht hW) hS dX6_size_108 hlocks
  · skip
    have hG := hG.trans (sw_in (j := 7) (h_s.trans (by decide)) rfl)
    refine lv_tableIn (off := 108) (tgt := 109) hx hb dX6_size_1 (by rw [h_s]; decide) (by rw [h_s]; decide) (by rw [h_s]; rfl) (by decide) ?_
    refine lv_aload_n hx hb dX6_size_109 rfl (lv_at hl 0 rfl) ?_
    refine va_get (D := (dC, dI)) (ci := 6) (v := .ref oR) (C := RX6) (T := TX6) (N := 12) hx hb hts inX6 hown hK hP 0 rfl rfl 0 (by decide) (hts _ wd_16) (fun _ h9 => h9) rfl dX6_size_110 ?_
    refine va_get (D := (dC, dI)) (ci := 3) (v := .int iR_tapeSize) (C := RX3) (T := TX3) (N := 15) hx hb hts inX3 hown hK hP 3 rfl rfl 2 (by decide) (hts _ wd_174) (fun _ h9 => h9) rfl dX6_size_113 ?_
    exact wq_i hx hb hr 0 ⟨⟨trivial, trivial⟩, hG⟩ (fun t ht hW => Bw.to hP hD hK ht hW) hS dX6_size_116 hlocks
set_option maxHeartbeats 4000000 in
set_option maxRecDepth 100000 in
theorem tX6_unheardWord (l : Launch) (dC : Nat → ClassId) (dI : Nat → Nat → Nat) (sz : Nat) (oK : Nat) (oR : Nat) (oC : Nat) (oS : Nat) (oT : Nat) (rK_images : Nat) (iK_imageCount : Int32) (oA : Nat) (oH : Nat) (oL : Nat) (iK_refusal : Int32) (iK_latestFault : Int32) (iK_latestPlace : Int32) (iC_nodes : Int32) (iC_words : Int32) (iC_chances : Int32) (iC_unsures : Int32) (iC_slips : Int32) (iC_throneNode : Int32) (iC_saidWorth : Int32) (iC_unit : Int32) (rC_kind : Nat) (fC_kind : Nat → Int32) (kC_kind : ClassId) (rC_parts : Nat) (fC_parts : Nat → Int32) (kC_parts : ClassId) (rC_partNodes : Nat) (fC_partNodes : Nat → Int32) (kC_partNodes : ClassId) (rC_weights : Nat) (fC_weights : Nat → Int32) (kC_weights : ClassId) (rC_weightSums : Nat) (fC_weightSums : Nat → Int32) (kC_weightSums : ClassId) (rC_toldWorths : Nat) (rC_steps : Nat) (rC_below : Nat) (rC_above : Nat) (rC_unsureWords : Nat) (rC_unsureWorths : Nat) (rS_worths : Nat) (fS_worths : Nat → Int32) (kS_worths : ClassId) (rS_order : Nat) (fS_order : Nat → Int32) (kS_order : ClassId) (rS_left : Nat) (iH_breaths : Int32) (iH_heardBits : Int32) (iH_cutCount : Int32) (iH_halfBreaths : Int32) (iH_halfQuestions : Int32) (rH_heardWords : Nat) (fH_heardWords : Nat → Int32) (kH_heardWords : ClassId) (rH_cutParts : Nat) (fH_cutParts : Nat → Int32) (kH_cutParts : ClassId) (p0 : Int32) (b_iK_imageCount : 0 ≤ iK_imageCount.toInt ∧ iK_imageCount.toInt ≤ 3) (b_iC_nodes : 0 ≤ iC_nodes.toInt ∧ iC_nodes.toInt ≤ 18) (b_iC_unsures : 0 ≤ iC_unsures.toInt ∧ iC_unsures.toInt ≤ 4) (b_iC_throneNode : (-1) ≤ iC_throneNode.toInt ∧ iC_throneNode.toInt ≤ 17) (a_fC_parts : ∀ j : Nat, j < 18 → 0 ≤ (fC_parts j).toInt ∧ (fC_parts j).toInt ≤ 4) (a_fC_partNodes : ∀ j : Nat, j < 72 → 0 ≤ (fC_partNodes j).toInt ∧ (fC_partNodes j).toInt ≤ 17) (a_fS_order : ∀ j : Nat, j < 72 → 0 ≤ (fS_order j).toInt ∧ (fS_order j).toInt ≤ 3) (b_iH_breaths : 0 ≤ iH_breaths.toInt ∧ iH_breaths.toInt ≤ 1000000000) (b_iH_cutCount : 0 ≤ iH_cutCount.toInt ∧ iH_cutCount.toInt ≤ 1000000000)  : Met l yX6_unheardWord (Cond.code yX6_unheardWord cX6_unheardWord 4 (some .int) :: wG) ({ frames := 34, cells := 0, slots := 0, locals := 998 }) (va_Pc [.ref oK, .int p0] (Pw dC dI sz [(oc6 oK oR oC oS oT rK_images iK_imageCount oA oH oL iK_refusal iK_latestFault iK_latestPlace), (oc1 oC iC_nodes iC_words iC_chances iC_unsures iC_slips iC_throneNode iC_saidWorth iC_unit rC_kind rC_parts rC_partNodes rC_weights rC_weightSums rC_toldWorths rC_steps rC_below rC_above rC_unsureWords rC_unsureWorths), (arI rC_kind kC_kind 18 fC_kind), (arI rC_parts kC_parts 18 fC_parts), (arI rC_partNodes kC_partNodes 72 fC_partNodes), (arI rC_weights kC_weights 72 fC_weights), (arI rC_weightSums kC_weightSums 18 fC_weightSums), (oc5 oS rS_worths rS_order rS_left), (arI rS_worths kS_worths 18 fS_worths), (arI rS_order kS_order 72 fS_order), (oc2 oH iH_breaths iH_heardBits iH_cutCount iH_halfBreaths iH_halfQuestions rH_heardWords rH_cutParts), (arI rH_heardWords kH_heardWords 512 fH_heardWords), (arI rH_cutParts kH_cutParts 512 fH_cutParts)] [(kC_kind, .int), (kC_parts, .int), (kC_partNodes, .int), (kC_weights, .int), (kC_weightSums, .int), (kS_worths, .int), (kS_order, .int), (kH_heardWords, .int), (kH_cutParts, .int)])) (va_Qi (fun (r : Int32) (u : Nat) => (True ∧ True) ∧ r = Int32.ofNat u) (fun (u : Nat) (t : State) => ∃ (niH_breaths : Int32) (niH_heardBits : Int32) (niH_cutCount : Int32) (nfH_heardWords : Nat → Int32) (nfH_cutParts : Nat → Int32), (0 ≤ niH_breaths.toInt ∧ niH_breaths.toInt ≤ 1000000000) ∧ (0 ≤ niH_cutCount.toInt ∧ niH_cutCount.toInt ≤ 1000000000) ∧ (PX6_unheardWord iC_nodes iC_throneNode iC_unit fC_kind fC_parts fC_partNodes fC_weights fC_weightSums fS_worths fS_order fH_heardWords fH_cutParts p0 = (Int32.ofNat u, niH_breaths, niH_heardBits, niH_cutCount, nfH_heardWords, nfH_cutParts)) ∧ Bw dC dI (va_A [(oc6 oK oR oC oS oT rK_images iK_imageCount oA oH oL iK_refusal iK_latestFault iK_latestPlace), (oc1 oC iC_nodes iC_words iC_chances iC_unsures iC_slips iC_throneNode iC_saidWorth iC_unit rC_kind rC_parts rC_partNodes rC_weights rC_weightSums rC_toldWorths rC_steps rC_below rC_above rC_unsureWords rC_unsureWorths), (arI rC_kind kC_kind 18 fC_kind), (arI rC_parts kC_parts 18 fC_parts), (arI rC_partNodes kC_partNodes 72 fC_partNodes), (arI rC_weights kC_weights 72 fC_weights), (arI rC_weightSums kC_weightSums 18 fC_weightSums), (oc5 oS rS_worths rS_order rS_left), (arI rS_worths kS_worths 18 fS_worths), (arI rS_order kS_order 72 fS_order), (oc2 oH iH_breaths iH_heardBits iH_cutCount iH_halfBreaths iH_halfQuestions rH_heardWords rH_cutParts), (arI rH_heardWords kH_heardWords 512 fH_heardWords), (arI rH_cutParts kH_cutParts 512 fH_cutParts)] sz) [(oc6 oK oR oC oS oT rK_images iK_imageCount oA oH oL iK_refusal iK_latestFault iK_latestPlace), (oc1 oC iC_nodes iC_words iC_chances iC_unsures iC_slips iC_throneNode iC_saidWorth iC_unit rC_kind rC_parts rC_partNodes rC_weights rC_weightSums rC_toldWorths rC_steps rC_below rC_above rC_unsureWords rC_unsureWorths), (arI rC_kind kC_kind 18 fC_kind), (arI rC_parts kC_parts 18 fC_parts), (arI rC_partNodes kC_partNodes 72 fC_partNodes), (arI rC_weights kC_weights 72 fC_weights), (arI rC_weightSums kC_weightSums 18 fC_weightSums), (oc5 oS rS_worths rS_order rS_left), (arI rS_worths kS_worths 18 fS_worths), (arI rS_order kS_order 72 fS_order), (oc2 oH niH_breaths niH_heardBits niH_cutCount iH_halfBreaths iH_halfQuestions rH_heardWords rH_cutParts), (arI rH_heardWords kH_heardWords 512 nfH_heardWords), (arI rH_cutParts kH_cutParts 512 nfH_cutParts)] [(kC_kind, .int), (kC_parts, .int), (kC_partNodes, .int), (kC_weights, .int), (kC_weightSums, .int), (kS_worths, .int), (kS_order, .int), (kH_heardWords, .int), (kH_cutParts, .int)] t) (va_A [(oc6 oK oR oC oS oT rK_images iK_imageCount oA oH oL iK_refusal iK_latestFault iK_latestPlace), (oc1 oC iC_nodes iC_words iC_chances iC_unsures iC_slips iC_throneNode iC_saidWorth iC_unit rC_kind rC_parts rC_partNodes rC_weights rC_weightSums rC_toldWorths rC_steps rC_below rC_above rC_unsureWords rC_unsureWorths), (arI rC_kind kC_kind 18 fC_kind), (arI rC_parts kC_parts 18 fC_parts), (arI rC_partNodes kC_partNodes 72 fC_partNodes), (arI rC_weights kC_weights 72 fC_weights), (arI rC_weightSums kC_weightSums 18 fC_weightSums), (oc5 oS rS_worths rS_order rS_left), (arI rS_worths kS_worths 18 fS_worths), (arI rS_order kS_order 72 fS_order), (oc2 oH iH_breaths iH_heardBits iH_cutCount iH_halfBreaths iH_halfQuestions rH_heardWords rH_cutParts), (arI rH_heardWords kH_heardWords 512 fH_heardWords), (arI rH_cutParts kH_cutParts 512 fH_cutParts)] sz)) 0 0 (va_A [(oc6 oK oR oC oS oT rK_images iK_imageCount oA oH oL iK_refusal iK_latestFault iK_latestPlace), (oc1 oC iC_nodes iC_words iC_chances iC_unsures iC_slips iC_throneNode iC_saidWorth iC_unit rC_kind rC_parts rC_partNodes rC_weights rC_weightSums rC_toldWorths rC_steps rC_below rC_above rC_unsureWords rC_unsureWorths), (arI rC_kind kC_kind 18 fC_kind), (arI rC_parts kC_parts 18 fC_parts), (arI rC_partNodes kC_partNodes 72 fC_partNodes), (arI rC_weights kC_weights 72 fC_weights), (arI rC_weightSums kC_weightSums 18 fC_weightSums), (oc5 oS rS_worths rS_order rS_left), (arI rS_worths kS_worths 18 fS_worths), (arI rS_order kS_order 72 fS_order), (oc2 oH iH_breaths iH_heardBits iH_cutCount iH_halfBreaths iH_halfQuestions rH_heardWords rH_cutParts), (arI rH_heardWords kH_heardWords 512 fH_heardWords), (arI rH_cutParts kH_cutParts 512 fH_cutParts)] sz) := by
  refine Met.ofW (cc := cX6_unheardWord) (maxL := 4) (ret := (some .int)) pnX6 rfl ?_
  intro p e s m args below meth c s₁ B hml hv
  obtain ⟨rfl, hsz, hP, hK, hD0, hE⟩ := hv
  have hx := B.exec
  have hb := B.bytes
  have hr := B.returns
  have hts : ∀ w ∈ wG, w.before ([.ref oK, .int p0] : List Value).toArray s = true := fun w h => atoms_spec (ws := Cond.code yX6_unheardWord cX6_unheardWord 4 (some .int) :: wG) B.pre w (List.mem_cons_of_mem _ h)
  have hown : s.vm.findClass RX6 = some m.cls := own_of B.named rfl
  have hlocks := B.notSynchronized
  subst hsz
  have hD := hD0.self (sz := s.heap.size)
  generalize hAe : va_A [(oc6 oK oR oC oS oT rK_images iK_imageCount oA oH oL iK_refusal iK_latestFault iK_latestPlace), (oc1 oC iC_nodes iC_words iC_chances iC_unsures iC_slips iC_throneNode iC_saidWorth iC_unit rC_kind rC_parts rC_partNodes rC_weights rC_weightSums rC_toldWorths rC_steps rC_below rC_above rC_unsureWords rC_unsureWorths), (arI rC_kind kC_kind 18 fC_kind), (arI rC_parts kC_parts 18 fC_parts), (arI rC_partNodes kC_partNodes 72 fC_partNodes), (arI rC_weights kC_weights 72 fC_weights), (arI rC_weightSums kC_weightSums 18 fC_weightSums), (oc5 oS rS_worths rS_order rS_left), (arI rS_worths kS_worths 18 fS_worths), (arI rS_order kS_order 72 fS_order), (oc2 oH iH_breaths iH_heardBits iH_cutCount iH_halfBreaths iH_halfQuestions rH_heardWords rH_cutParts), (arI rH_heardWords kH_heardWords 512 fH_heardWords), (arI rH_cutParts kH_cutParts 512 fH_cutParts)] s.heap.size = A at hD hE ⊢
  have hA : ∀ q : Nat, s.heap.size ≤ q → A q := fun q h => by rw [← hAe]; exact Or.inr h
  have hS : va_S A s.heap s.heap [] := va_S.rf
  have hl := lv_entry ([.ref oK, .int p0]) (n := 4) (Nat.le_of_ble_eq_true rfl)
  rw [lg_entry_eq]
  generalize (lg_sl ([.ref oK, .int p0]) ++ List.replicate (4 - (lg_sl ([.ref oK, .int p0])).length) Slot.unset).toArray = ls at hl ⊢
  have hl : lv_has ls 4 [(0, .ref oK), (1, .int p0)] := hl
  have hG := PX6_unheardWord_eq iC_nodes iC_throneNode iC_unit fC_kind fC_parts fC_partNodes fC_weights fC_weightSums fS_worths fS_order fH_heardWords fH_cutParts p0
  have rg_p0 := fb_rng p0
  refine lv_aload_n hx hb dX6_unheardWord_0 rfl (lv_at hl 0 rfl) ?_
  refine va_get (D := (dC, dI)) (ci := 6) (v := .ref oH) (C := RX6) (T := TX6) (N := 12) hx hb hts inX6 hown hK hP 0 rfl rfl 7 (by decide) (hts _ wd_34) (fun _ h9 => h9) rfl dX6_unheardWord_1 ?_
  refine lv_aload_n hx hb dX6_unheardWord_4 rfl (lv_at hl 0 rfl) ?_
  refine va_get (D := (dC, dI)) (ci := 6) (v := .ref oC) (C := RX6) (T := TX6) (N := 12) hx hb hts inX6 hown hK hP 0 rfl rfl 1 (by decide) (hts _ wd_20) (fun _ h9 => h9) rfl dX6_unheardWord_5 ?_
  refine lv_aload_n hx hb dX6_unheardWord_8 rfl (lv_at hl 0 rfl) ?_
  refine va_get (D := (dC, dI)) (ci := 6) (v := .ref oS) (C := RX6) (T := TX6) (N := 12) hx hb hts inX6 hown hK hP 0 rfl rfl 2 (by decide) (hts _ wd_24) (fun _ h9 => h9) rfl dX6_unheardWord_9 ?_
  have hFc := va_free (wc := [(oc2 oH iH_breaths iH_heardBits iH_cutCount iH_halfBreaths iH_halfQuestions rH_heardWords rH_cutParts), (arI rH_heardWords kH_heardWords 512 fH_heardWords), (arI rH_cutParts kH_cutParts 512 fH_cutParts), (oc1 oC iC_nodes iC_words iC_chances iC_unsures iC_slips iC_throneNode iC_saidWorth iC_unit rC_kind rC_parts rC_partNodes rC_weights rC_weightSums rC_toldWorths rC_steps rC_below rC_above rC_unsureWords rC_unsureWorths), (arI rC_kind kC_kind 18 fC_kind), (arI rC_parts kC_parts 18 fC_parts), (arI rC_partNodes kC_partNodes 72 fC_partNodes), (arI rC_weights kC_weights 72 fC_weights), (arI rC_weightSums kC_weightSums 18 fC_weightSums), (oc5 oS rS_worths rS_order rS_left), (arI rS_worths kS_worths 18 fS_worths), (arI rS_order kS_order 72 fS_order)]) hD hS hA [10, 11, 12, 1, 2, 3, 4, 5, 6, 7, 8, 9] rfl
  refine va_calli (va_runV (As := [.ref oC, .ref oS]) (rest := []) ⟨hx, hb, hml, hown, hts⟩ (tX2_breathsFreely l dC dI _ oH iH_breaths iH_heardBits iH_cutCount iH_halfBreaths iH_halfQuestions rH_heardWords fH_heardWords kH_heardWords rH_cutParts fH_cutParts kH_cutParts oC iC_nodes iC_words iC_chances iC_unsures iC_slips iC_throneNode iC_saidWorth iC_unit rC_kind fC_kind kC_kind rC_parts fC_parts kC_parts rC_partNodes fC_partNodes kC_partNodes rC_weights fC_weights kC_weights rC_weightSums fC_weightSums kC_weightSums rC_toldWorths rC_steps rC_below rC_above rC_unsureWords rC_unsureWorths oS rS_worths fS_worths kS_worths rS_order fS_order kS_order rS_left b_iH_breaths b_iH_cutCount b_iC_nodes b_iC_unsures b_iC_throneNode a_fC_parts a_fC_partNodes a_fS_order) (cwV 2 hts (wd_V wd_714 wd_715 wd_716 wd_33 (wd_c wd_717)) rfl rfl rfl dv_yX2_breathsFreely_2 ⟨Nat.le_of_ble_eq_true rfl, Nat.le_of_ble_eq_true rfl⟩) ⟨Pw.fb, recvX2 hK hP (q0 := 10) rfl, fun U hU hW => Pw.to (hP.sub [10, 11, 12, 1, 2, 3, 4, 5, 6, 7, 8, 9] rfl) (hD.sub [10, 11, 12, 1, 2, 3, 4, 5, 6, 7, 8, 9] (by decide) rfl) (hK.sub [7, 8, 0, 1, 2, 3, 4, 5, 6] rfl) hE hS hFc hU hW⟩ rfl rfl hl.1 rfl (lv_room (Nat.le_of_ble_eq_true rfl)) dX6_unheardWord_12 ⟨Nat.le_of_ble_eq_true rfl, Nat.le_of_ble_eq_true rfl⟩) hS (fun q _ h => hFc q h) hFc (fun r u t H locs ht hvm hw hB hz1 hk1 hS => ?_)
  have hru9 := hw.2
  have hw := hw.1
  refine ex_5_3 hB (fun x_6690 x_6691 x_6692 f_6693 f_6694 b_x_6690 b_x_6692 e_x_6690_0 hB => ?_)
  obtain ⟨hP, hD, hK⟩ := Bw.go (ws' := [(oc6 oK oR oC oS oT rK_images iK_imageCount oA oH oL iK_refusal iK_latestFault iK_latestPlace), (oc2 oH x_6690 x_6691 x_6692 iH_halfBreaths iH_halfQuestions rH_heardWords rH_cutParts), (arI rH_heardWords kH_heardWords 512 f_6693), (arI rH_cutParts kH_cutParts 512 f_6694), (oc1 oC iC_nodes iC_words iC_chances iC_unsures iC_slips iC_throneNode iC_saidWorth iC_unit rC_kind rC_parts rC_partNodes rC_weights rC_weightSums rC_toldWorths rC_steps rC_below rC_above rC_unsureWords rC_unsureWorths), (arI rC_kind kC_kind 18 fC_kind), (arI rC_parts kC_parts 18 fC_parts), (arI rC_partNodes kC_partNodes 72 fC_partNodes), (arI rC_weights kC_weights 72 fC_weights), (arI rC_weightSums kC_weightSums 18 fC_weightSums), (oc5 oS rS_worths rS_order rS_left), (arI rS_worths kS_worths 18 fS_worths), (arI rS_order kS_order 72 fS_order)]) (tys' := [(kH_heardWords, .int), (kH_cutParts, .int), (kC_kind, .int), (kC_parts, .int), (kC_partNodes, .int), (kC_weights, .int), (kC_weightSums, .int), (kS_worths, .int), (kS_order, .int)]) hB rfl ht hvm hP hD hK [10, 11, 12, 1, 2, 3, 4, 5, 6, 7, 8, 9] [0] rfl (by decide) (by decide) [] hk1 hFc rfl rfl rfl
  clear hz1 hk1 hvm ht hB
  have rg_x_6690 := fb_rng x_6690
  have rg_x_6691 := fb_rng x_6691
  have rg_x_6692 := fb_rng x_6692
  rw [← hru9] at e_x_6690_0
  obtain ⟨x_6695, rfl⟩ : ∃ z, z = r := ⟨_, rfl⟩
  have hG := hG.trans (un6_eq e_x_6690_0)
  have rg_x_6695 := fb_rng x_6695
  refine lv_pop hx hb dX6_unheardWord_15 rfl ?_
  refine lv_iconst (v := 0) hx hb dX6_unheardWord_16 (by decide) ?_
  refine lv_istore_n (lv' := [(2, .int 0), (0, .ref oK), (1, .int p0)]) hx hb dX6_unheardWord_17 rfl hl (by decide) rfl (fun ls hl => ?_)
  refine lv_iconst (v := 0) hx hb dX6_unheardWord_18 (by decide) ?_
  refine lv_istore_n (lv' := [(3, .int 0), (2, .int 0), (0, .ref oK), (1, .int p0)]) hx hb dX6_unheardWord_19 rfl hl (by decide) rfl (fun ls hl => ?_)
  have hl := lv_sub hl (l' := [(3, .int 0), (2, .int 0), (0, .ref oK), (1, .int p0)]) [0, 1, 2, 3] rfl
  have key_n_6698 : ∀ (n_6698 : Nat) (z_6696 : Int32) (z_6697 : Int32) (H : Heap) (locs : List Loc) (ls : Array Slot), (0 ≤ z_6696.toInt ∧ z_6696.toInt ≤ 2147483647) → (2147483647 - z_6696.toInt).toNat < n_6698 → (PX6_unheardWord iC_nodes iC_throneNode iC_unit fC_kind fC_parts fC_partNodes fC_weights fC_weightSums fS_worths fS_order fH_heardWords fH_cutParts p0 = HX6_unheardWord_0 iC_nodes fC_kind p0 x_6690 x_6691 x_6692 f_6693 f_6694 n_6698 z_6696 z_6697) → va_P (dC, dI) vwCl [(oc6 oK oR oC oS oT rK_images iK_imageCount oA oH oL iK_refusal iK_latestFault iK_latestPlace), (oc2 oH x_6690 x_6691 x_6692 iH_halfBreaths iH_halfQuestions rH_heardWords rH_cutParts), (arI rH_heardWords kH_heardWords 512 f_6693), (arI rH_cutParts kH_cutParts 512 f_6694), (oc1 oC iC_nodes iC_words iC_chances iC_unsures iC_slips iC_throneNode iC_saidWorth iC_unit rC_kind rC_parts rC_partNodes rC_weights rC_weightSums rC_toldWorths rC_steps rC_below rC_above rC_unsureWords rC_unsureWorths), (arI rC_kind kC_kind 18 fC_kind), (arI rC_parts kC_parts 18 fC_parts), (arI rC_partNodes kC_partNodes 72 fC_partNodes), (arI rC_weights kC_weights 72 fC_weights), (arI rC_weightSums kC_weightSums 18 fC_weightSums), (oc5 oS rS_worths rS_order rS_left), (arI rS_worths kS_worths 18 fS_worths), (arI rS_order kS_order 72 fS_order)] H → va_D A [(oc6 oK oR oC oS oT rK_images iK_imageCount oA oH oL iK_refusal iK_latestFault iK_latestPlace), (oc2 oH x_6690 x_6691 x_6692 iH_halfBreaths iH_halfQuestions rH_heardWords rH_cutParts), (arI rH_heardWords kH_heardWords 512 f_6693), (arI rH_cutParts kH_cutParts 512 f_6694), (oc1 oC iC_nodes iC_words iC_chances iC_unsures iC_slips iC_throneNode iC_saidWorth iC_unit rC_kind rC_parts rC_partNodes rC_weights rC_weightSums rC_toldWorths rC_steps rC_below rC_above rC_unsureWords rC_unsureWorths), (arI rC_kind kC_kind 18 fC_kind), (arI rC_parts kC_parts 18 fC_parts), (arI rC_partNodes kC_partNodes 72 fC_partNodes), (arI rC_weights kC_weights 72 fC_weights), (arI rC_weightSums kC_weightSums 18 fC_weightSums), (oc5 oS rS_worths rS_order rS_left), (arI rS_worths kS_worths 18 fS_worths), (arI rS_order kS_order 72 fS_order)] → va_S A s.heap H locs → lv_has ls 4 [(3, .int z_6696), (2, .int z_6697), (0, .ref oK), (1, .int p0)] → W p l e (headSpec (Cond.code yX6_unheardWord cX6_unheardWord 4 (some .int) :: wG) ({ frames := 34, cells := 0, slots := 0, locals := 998 })).room s m ([.ref oK, .int p0] : List Value).toArray below meth c H locs 0 0 (MQ below (va_Qi (fun (r : Int32) (u : Nat) => (True ∧ True) ∧ r = Int32.ofNat u) (fun (u : Nat) (t : State) => ∃ (niH_breaths : Int32) (niH_heardBits : Int32) (niH_cutCount : Int32) (nfH_heardWords : Nat → Int32) (nfH_cutParts : Nat → Int32), (0 ≤ niH_breaths.toInt ∧ niH_breaths.toInt ≤ 1000000000) ∧ (0 ≤ niH_cutCount.toInt ∧ niH_cutCount.toInt ≤ 1000000000) ∧ (PX6_unheardWord iC_nodes iC_throneNode iC_unit fC_kind fC_parts fC_partNodes fC_weights fC_weightSums fS_worths fS_order fH_heardWords fH_cutParts p0 = (Int32.ofNat u, niH_breaths, niH_heardBits, niH_cutCount, nfH_heardWords, nfH_cutParts)) ∧ Bw dC dI A [(oc6 oK oR oC oS oT rK_images iK_imageCount oA oH oL iK_refusal iK_latestFault iK_latestPlace), (oc1 oC iC_nodes iC_words iC_chances iC_unsures iC_slips iC_throneNode iC_saidWorth iC_unit rC_kind rC_parts rC_partNodes rC_weights rC_weightSums rC_toldWorths rC_steps rC_below rC_above rC_unsureWords rC_unsureWorths), (arI rC_kind kC_kind 18 fC_kind), (arI rC_parts kC_parts 18 fC_parts), (arI rC_partNodes kC_partNodes 72 fC_partNodes), (arI rC_weights kC_weights 72 fC_weights), (arI rC_weightSums kC_weightSums 18 fC_weightSums), (oc5 oS rS_worths rS_order rS_left), (arI rS_worths kS_worths 18 fS_worths), (arI rS_order kS_order 72 fS_order), (oc2 oH niH_breaths niH_heardBits niH_cutCount iH_halfBreaths iH_halfQuestions rH_heardWords rH_cutParts), (arI rH_heardWords kH_heardWords 512 nfH_heardWords), (arI rH_cutParts kH_cutParts 512 nfH_cutParts)] [(kC_kind, .int), (kC_parts, .int), (kC_partNodes, .int), (kC_weights, .int), (kC_weightSums, .int), (kS_worths, .int), (kS_order, .int), (kH_heardWords, .int), (kH_cutParts, .int)] t) A) ([.ref oK, .int p0] : List Value).toArray s 0 0 A) (F0 m 20 ls []) := by
    intro n_6698
    induction n_6698 with
    | zero => intro z_6696 z_6697 H locs ls hi0_n_6698 hm; exact absurd hm (Nat.not_lt_zero _)
    | succ n_6698 ih_n_6698 =>
      intro z_6696 z_6697 H locs ls hi0_n_6698 hm_n_6698 hG hP hD hS hl
      have hG := hG.trans (HX6_unheardWord_0_eq _ _ _ _ _ _ _ _ _ _ _)
      have rg_z_6696 := fb_rng z_6696
      have rg_z_6697 := fb_rng z_6697
      refine lv_iload_n hx hb dX6_unheardWord_20 rfl (lv_at hl 0 rfl) ?_
      refine lv_aload_n hx hb dX6_unheardWord_21 rfl (lv_at hl 2 rfl) ?_
      refine va_get (D := (dC, dI)) (ci := 6) (v := .ref oC) (C := RX6) (T := TX6) (N := 12) hx hb hts inX6 hown hK hP 0 rfl rfl 1 (by decide) (hts _ wd_20) (fun _ h9 => h9) rfl dX6_unheardWord_22 ?_
      refine va_get (D := (dC, dI)) (ci := 1) (v := .int iC_nodes) (C := RX1) (T := TX1) (N := 19) hx hb hts inX1 hown hK hP 4 rfl rfl 0 (by decide) (hts _ wd_196) (fun _ h9 => h9) rfl dX6_unheardWord_25 ?_
      have rg_iC_nodes := fb_rng iC_nodes
      refine lv_icmp_ge (tgt := 73) hx hb dX6_unheardWord_28 (by decide) (fun c_6699 => ?_) (fun c_6699 => ?_)
      · skip
        have hG := hG.trans (if_pos c_6699)
        have gc_6699 := ti_le c_6699 rfl rfl
        refine lv_iconst (v := (-1)) hx hb dX6_unheardWord_73 (by decide) ?_
        exact wq_i hx hb hr (cI (-1)) ⟨⟨trivial, trivial⟩, (cI_of (-1))⟩ (fun t ht hW => ⟨x_6690, x_6691, x_6692, f_6693, f_6694, b_x_6690, b_x_6692, (cI_tup hG), Bw.to (hP.sub [0, 4, 5, 6, 7, 8, 9, 10, 11, 12, 1, 2, 3] rfl) (hD.sub [0, 4, 5, 6, 7, 8, 9, 10, 11, 12, 1, 2, 3] (by decide) rfl) (hK.sub [2, 3, 4, 5, 6, 7, 8, 0, 1] rfl) ht hW⟩) hS dX6_unheardWord_74 hlocks
      · skip
        have hG := hG.trans (if_neg c_6699)
        have gc_6699 := ti_nle c_6699 rfl rfl
        refine lv_aload_n hx hb dX6_unheardWord_31 rfl (lv_at hl 2 rfl) ?_
        refine va_get (D := (dC, dI)) (ci := 6) (v := .ref oC) (C := RX6) (T := TX6) (N := 12) hx hb hts inX6 hown hK hP 0 rfl rfl 1 (by decide) (hts _ wd_20) (fun _ h9 => h9) rfl dX6_unheardWord_32 ?_
        refine va_get (D := (dC, dI)) (ci := 1) (v := .ref rC_kind) (C := RX1) (T := TX1) (N := 19) hx hb hts inX1 hown hK hP 4 rfl rfl 8 (by decide) (hts _ wd_530) (fun _ h9 => h9) rfl dX6_unheardWord_35 ?_
        refine lv_iload_n hx hb dX6_unheardWord_38 rfl (lv_at hl 0 rfl) ?_
        refine va_iald hx hb hK hP 5 2 rfl rfl (ti_in rfl hi0_n_6698.1 (om_97cd4a7c b_iC_nodes.2 gc_6699)) dX6_unheardWord_39 ?_
        refine lv_topi (fun x_6700 ex_6700 => ?_)
        have hG := hG.trans (lt_eq ex_6700)
        have rg_x_6700 := fb_rng x_6700
        have kx_6700 : (fC_kind z_6696.toNatClampNeg).toInt = x_6700.toInt := by rw [ex_6700]
        refine lv_if_ne (tgt := 67) hx hb dX6_unheardWord_40 (by decide) (fun c_6701 => ?_) (fun c_6701 => ?_)
        · skip
          have hG := hG.trans (if_neg c_6701)
          have gc_6701 := ti_ne c_6701 rfl kc_0
          obtain ⟨x_6702, ex_6702⟩ : ∃ z : Int32, z = z_6696 + Int32.ofInt 1 := ⟨_, rfl⟩
          have hG := hG.trans (lt_eq ex_6702)
          have vx_6702 : x_6702.toInt = z_6696.toInt + 1 := ti_add (y := 1) ex_6702 rfl kc_1 (om_4e4fce7e hi0_n_6698.1) (om_a32d6481 b_iC_nodes.2 gc_6699)
          refine lv_iinc (v := x_6702) (lv' := [(3, .int x_6702), (2, .int z_6697), (0, .ref oK), (1, .int p0)]) hx hb dX6_unheardWord_67 hl (k := 0) rfl ex_6702.symm (by decide) rfl (fun ls hl => ?_)
          refine lv_goto (tgt := 20) hx hb dX6_unheardWord_70 (by decide) ?_
          exact ih_n_6698 x_6702 z_6697 _ _ _  ⟨(om_83b90de5 hi0_n_6698.1 vx_6702), (om_ed8867da b_iC_nodes.2 gc_6699 vx_6702)⟩ (ms_lt hm_n_6698 (om_b9393183 vx_6702) (om_1d9fa7fb b_iC_nodes.2 gc_6699)) hG hP hD hS (lv_sub hl [0, 1, 2, 3] rfl)
        · skip
          have hG := hG.trans (if_pos c_6701)
          have gc_6701 := ti_eq c_6701 rfl kc_0
          refine lv_aload_n hx hb dX6_unheardWord_43 rfl (lv_at hl 2 rfl) ?_
          refine va_get (D := (dC, dI)) (ci := 6) (v := .ref oH) (C := RX6) (T := TX6) (N := 12) hx hb hts inX6 hown hK hP 0 rfl rfl 7 (by decide) (hts _ wd_34) (fun _ h9 => h9) rfl dX6_unheardWord_44 ?_
          refine va_get (D := (dC, dI)) (ci := 2) (v := .int x_6691) (C := RX2) (T := TX2) (N := 7) hx hb hts inX2 hown hK hP 1 rfl rfl 1 (by decide) (hts _ wd_803) (fun _ h9 => h9) rfl dX6_unheardWord_47 ?_
          refine lv_iload_n hx hb dX6_unheardWord_50 rfl (lv_at hl 0 rfl) ?_
          refine lv_ishr hx hb dX6_unheardWord_51 ?_
          refine lv_topi (fun x_6703 ex_6703 => ?_)
          have hG := hG.trans (lt_eq ex_6703)
          have rg_x_6703 := fb_rng x_6703
          refine lv_iconst (v := 1) hx hb dX6_unheardWord_52 (by decide) ?_
          refine lv_iand hx hb dX6_unheardWord_53 ?_
          refine lv_topi (fun x_6704 ex_6704 => ?_)
          have hG := hG.trans (lt_eq ex_6704)
          have rg_x_6704 := fb_rng x_6704
          refine lv_if_ne (tgt := 67) hx hb dX6_unheardWord_54 (by decide) (fun c_6705 => ?_) (fun c_6705 => ?_)
          · skip
            have hG := hG.trans (if_neg c_6705)
            have gc_6705 := ti_ne c_6705 rfl kc_0
            obtain ⟨x_6706, ex_6706⟩ : ∃ z : Int32, z = z_6696 + Int32.ofInt 1 := ⟨_, rfl⟩
            have hG := hG.trans (lt_eq ex_6706)
            have vx_6706 : x_6706.toInt = z_6696.toInt + 1 := ti_add (y := 1) ex_6706 rfl kc_1 (om_4e4fce7e hi0_n_6698.1) (om_a32d6481 b_iC_nodes.2 gc_6699)
            refine lv_iinc (v := x_6706) (lv' := [(3, .int x_6706), (2, .int z_6697), (0, .ref oK), (1, .int p0)]) hx hb dX6_unheardWord_67 hl (k := 0) rfl ex_6706.symm (by decide) rfl (fun ls hl => ?_)
            refine lv_goto (tgt := 20) hx hb dX6_unheardWord_70 (by decide) ?_
            exact ih_n_6698 x_6706 z_6697 _ _ _  ⟨(om_83b90de5 hi0_n_6698.1 vx_6706), (om_ed8867da b_iC_nodes.2 gc_6699 vx_6706)⟩ (ms_lt hm_n_6698 (om_b9393183 vx_6706) (om_1d9fa7fb b_iC_nodes.2 gc_6699)) hG hP hD hS (lv_sub hl [0, 1, 2, 3] rfl)
          · skip
            have hG := hG.trans (if_pos c_6705)
            have gc_6705 := ti_eq c_6705 rfl kc_0
            refine lv_iload_n hx hb dX6_unheardWord_57 rfl (lv_at hl 1 rfl) ?_
            refine lv_iload_n hx hb dX6_unheardWord_58 rfl (lv_at hl 3 rfl) ?_
            refine lv_icmp_ne (tgt := 64) hx hb dX6_unheardWord_59 (by decide) (fun c_6707 => ?_) (fun c_6707 => ?_)
            · skip
              have hG := hG.trans (if_neg c_6707)
              have gc_6707 := ti_ne c_6707 rfl rfl
              obtain ⟨x_6708, ex_6708⟩ : ∃ z : Int32, z = z_6697 + Int32.ofInt 1 := ⟨_, rfl⟩
              have hG := hG.trans (lt_eq ex_6708)
              have rg_x_6708 := fb_rng x_6708
              refine lv_iinc (v := x_6708) (lv' := [(2, .int x_6708), (3, .int z_6696), (0, .ref oK), (1, .int p0)]) hx hb dX6_unheardWord_64 hl (k := 1) rfl ex_6708.symm (by decide) rfl (fun ls hl => ?_)
              obtain ⟨x_6709, ex_6709⟩ : ∃ z : Int32, z = z_6696 + Int32.ofInt 1 := ⟨_, rfl⟩
              have hG := hG.trans (lt_eq ex_6709)
              have vx_6709 : x_6709.toInt = z_6696.toInt + 1 := ti_add (y := 1) ex_6709 rfl kc_1 (om_4e4fce7e hi0_n_6698.1) (om_a32d6481 b_iC_nodes.2 gc_6699)
              refine lv_iinc (v := x_6709) (lv' := [(3, .int x_6709), (2, .int x_6708), (0, .ref oK), (1, .int p0)]) hx hb dX6_unheardWord_67 hl (k := 1) rfl ex_6709.symm (by decide) rfl (fun ls hl => ?_)
              refine lv_goto (tgt := 20) hx hb dX6_unheardWord_70 (by decide) ?_
              exact ih_n_6698 x_6709 x_6708 _ _ _  ⟨(om_83b90de5 hi0_n_6698.1 vx_6709), (om_ed8867da b_iC_nodes.2 gc_6699 vx_6709)⟩ (ms_lt hm_n_6698 (om_b9393183 vx_6709) (om_1d9fa7fb b_iC_nodes.2 gc_6699)) hG hP hD hS (lv_sub hl [0, 1, 2, 3] rfl)
            · skip
              have hG := hG.trans (if_pos c_6707)
              have gc_6707 := ti_eq c_6707 rfl rfl
              refine lv_iload_n hx hb dX6_unheardWord_62 rfl (lv_at hl 0 rfl) ?_
              exact wq_i hx hb hr (cI z_6696) ⟨⟨trivial, trivial⟩, (cI_of z_6696)⟩ (fun t ht hW => ⟨x_6690, x_6691, x_6692, f_6693, f_6694, b_x_6690, b_x_6692, (cI_tup hG), Bw.to (hP.sub [0, 4, 5, 6, 7, 8, 9, 10, 11, 12, 1, 2, 3] rfl) (hD.sub [0, 4, 5, 6, 7, 8, 9, 10, 11, 12, 1, 2, 3] (by decide) rfl) (hK.sub [2, 3, 4, 5, 6, 7, 8, 0, 1] rfl) ht hW⟩) hS dX6_unheardWord_63 hlocks
  exact key_n_6698 (((2147483647 - (0 : Int32).toInt).toNat) + 1) 0 0 _ _ _  ⟨(om_b1de7dbe kc_0), (om_daf17c64 kc_0)⟩ (Nat.lt_add_one _) hG hP hD hS hl
set_option maxHeartbeats 4000000 in
set_option maxRecDepth 100000 in
theorem tX6_feed (l : Launch) (dC : Nat → ClassId) (dI : Nat → Nat → Nat) (sz : Nat) (oK : Nat) (oR : Nat) (oC : Nat) (oS : Nat) (oT : Nat) (rK_images : Nat) (iK_imageCount : Int32) (oA : Nat) (oH : Nat) (oL : Nat) (iK_refusal : Int32) (iK_latestFault : Int32) (iK_latestPlace : Int32) (iR_faultNumber : Int32) (iR_faultPlace : Int32) (iR_tapeSize : Int32) (rR_tape : Nat) (fR_tape : Nat → Int32) (kR_tape : ClassId) (iR_end : Int32) (iR_tokenKind : Int32) (iR_tokenFrom : Int32) (iR_tokenTo : Int32) (iR_tokenName : Int64) (iR_tokenKey : Int32) (iR_tokenWhole : Int32) (oD : Nat) (iR_courtTold : Int32) (rR_names : Nat) (rR_keys : Nat) (p0 : Int32) (p1 : Int32) (p2 : Int32) (p3 : Int32) (p4 : Int32) (b_iK_imageCount : 0 ≤ iK_imageCount.toInt ∧ iK_imageCount.toInt ≤ 3) (b_iR_tapeSize : 0 ≤ iR_tapeSize.toInt ∧ iR_tapeSize.toInt ≤ 900) (b_iR_courtTold : 0 ≤ iR_courtTold.toInt ∧ iR_courtTold.toInt ≤ 1)  : Met l yX6_feed (Cond.code yX6_feed cX6_feed 6 (some .int) :: wG) ({ frames := 1, cells := 0, slots := 0, locals := 22 }) (va_Pc [.ref oK, .int p0, .int p1, .int p2, .int p3, .int p4] (Pw dC dI sz [(oc6 oK oR oC oS oT rK_images iK_imageCount oA oH oL iK_refusal iK_latestFault iK_latestPlace), (oc3 oR iR_faultNumber iR_faultPlace iR_tapeSize rR_tape iR_end iR_tokenKind iR_tokenFrom iR_tokenTo iR_tokenName iR_tokenKey iR_tokenWhole oD iR_courtTold rR_names rR_keys), (arI rR_tape kR_tape 900 fR_tape)] [(kR_tape, .byte)])) (va_Qi (fun (r : Int32) (u : Nat) => (True ∧ ((880 < iR_tapeSize.toInt ∧ r.toInt = -1) ∨ (iR_tapeSize.toInt ≤ 880 ∧ r.toInt = iR_tapeSize.toInt + 20))) ∧ r = Int32.ofNat u) (fun (u : Nat) (t : State) => ∃ (niR_tapeSize : Int32) (nfR_tape : Nat → Int32), (0 ≤ niR_tapeSize.toInt ∧ niR_tapeSize.toInt ≤ 900) ∧ ((880 < iR_tapeSize.toInt ∧ niR_tapeSize.toInt = iR_tapeSize.toInt) ∨ (iR_tapeSize.toInt ≤ 880 ∧ niR_tapeSize.toInt = iR_tapeSize.toInt + 20)) ∧ (PX6_feed iR_tapeSize fR_tape p0 p1 p2 p3 p4 = (Int32.ofNat u, niR_tapeSize, nfR_tape)) ∧ Bw dC dI (va_A [(oc6 oK oR oC oS oT rK_images iK_imageCount oA oH oL iK_refusal iK_latestFault iK_latestPlace), (oc3 oR iR_faultNumber iR_faultPlace iR_tapeSize rR_tape iR_end iR_tokenKind iR_tokenFrom iR_tokenTo iR_tokenName iR_tokenKey iR_tokenWhole oD iR_courtTold rR_names rR_keys), (arI rR_tape kR_tape 900 fR_tape)] sz) [(oc6 oK oR oC oS oT rK_images iK_imageCount oA oH oL iK_refusal iK_latestFault iK_latestPlace), (oc3 oR iR_faultNumber iR_faultPlace niR_tapeSize rR_tape iR_end iR_tokenKind iR_tokenFrom iR_tokenTo iR_tokenName iR_tokenKey iR_tokenWhole oD iR_courtTold rR_names rR_keys), (arI rR_tape kR_tape 900 nfR_tape)] [(kR_tape, .byte)] t) (va_A [(oc6 oK oR oC oS oT rK_images iK_imageCount oA oH oL iK_refusal iK_latestFault iK_latestPlace), (oc3 oR iR_faultNumber iR_faultPlace iR_tapeSize rR_tape iR_end iR_tokenKind iR_tokenFrom iR_tokenTo iR_tokenName iR_tokenKey iR_tokenWhole oD iR_courtTold rR_names rR_keys), (arI rR_tape kR_tape 900 fR_tape)] sz)) 0 0 (va_A [(oc6 oK oR oC oS oT rK_images iK_imageCount oA oH oL iK_refusal iK_latestFault iK_latestPlace), (oc3 oR iR_faultNumber iR_faultPlace iR_tapeSize rR_tape iR_end iR_tokenKind iR_tokenFrom iR_tokenTo iR_tokenName iR_tokenKey iR_tokenWhole oD iR_courtTold rR_names rR_keys), (arI rR_tape kR_tape 900 fR_tape)] sz) := by
  refine Met.ofW (cc := cX6_feed) (maxL := 6) (ret := (some .int)) pnX6 rfl ?_
  intro p e s m args below meth c s₁ B hml hv
  obtain ⟨rfl, hsz, hP, hK, hD0, hE⟩ := hv
  have hx := B.exec
  have hb := B.bytes
  have hr := B.returns
  have hts : ∀ w ∈ wG, w.before ([.ref oK, .int p0, .int p1, .int p2, .int p3, .int p4] : List Value).toArray s = true := fun w h => atoms_spec (ws := Cond.code yX6_feed cX6_feed 6 (some .int) :: wG) B.pre w (List.mem_cons_of_mem _ h)
  have hown : s.vm.findClass RX6 = some m.cls := own_of B.named rfl
  have hlocks := B.notSynchronized
  subst hsz
  have hD := hD0.self (sz := s.heap.size)
  generalize hAe : va_A [(oc6 oK oR oC oS oT rK_images iK_imageCount oA oH oL iK_refusal iK_latestFault iK_latestPlace), (oc3 oR iR_faultNumber iR_faultPlace iR_tapeSize rR_tape iR_end iR_tokenKind iR_tokenFrom iR_tokenTo iR_tokenName iR_tokenKey iR_tokenWhole oD iR_courtTold rR_names rR_keys), (arI rR_tape kR_tape 900 fR_tape)] s.heap.size = A at hD hE ⊢
  have hA : ∀ q : Nat, s.heap.size ≤ q → A q := fun q h => by rw [← hAe]; exact Or.inr h
  have hS : va_S A s.heap s.heap [] := va_S.rf
  have hl := lv_entry ([.ref oK, .int p0, .int p1, .int p2, .int p3, .int p4]) (n := 6) (Nat.le_of_ble_eq_true rfl)
  rw [lg_entry_eq]
  generalize (lg_sl ([.ref oK, .int p0, .int p1, .int p2, .int p3, .int p4]) ++ List.replicate (6 - (lg_sl ([.ref oK, .int p0, .int p1, .int p2, .int p3, .int p4])).length) Slot.unset).toArray = ls at hl ⊢
  have hl : lv_has ls 6 [(0, .ref oK), (1, .int p0), (2, .int p1), (3, .int p2), (4, .int p3), (5, .int p4)] := hl
  have hG := PX6_feed_eq iR_tapeSize fR_tape p0 p1 p2 p3 p4
  refine lv_aload_n hx hb dX6_feed_0 rfl (lv_at hl 0 rfl) ?_
  refine va_get (D := (dC, dI)) (ci := 6) (v := .ref oR) (C := RX6) (T := TX6) (N := 12) hx hb hts inX6 hown hK hP 0 rfl rfl 0 (by decide) (hts _ wd_16) (fun _ h9 => h9) rfl dX6_feed_1 ?_
  refine va_get (D := (dC, dI)) (ci := 3) (v := .int iR_tapeSize) (C := RX3) (T := TX3) (N := 15) hx hb hts inX3 hown hK hP 1 rfl rfl 2 (by decide) (hts _ wd_174) (fun _ h9 => h9) rfl dX6_feed_4 ?_
  refine lv_sipush (v := 880) hx hb dX6_feed_7 (by decide) ?_
  refine lv_icmp_le (tgt := 15) hx hb dX6_feed_10 (by decide) (fun c_6721 => ?_) (fun c_6721 => ?_)
  · skip
    have hG := hG.trans (if_pos c_6721)
    have gc_6721 := ti_le c_6721 rfl kc_880
    refine lv_aload_n hx hb dX6_feed_15 rfl (lv_at hl 0 rfl) ?_
    refine va_get (D := (dC, dI)) (ci := 6) (v := .ref oR) (C := RX6) (T := TX6) (N := 12) hx hb hts inX6 hown hK hP 0 rfl rfl 0 (by decide) (hts _ wd_16) (fun _ h9 => h9) rfl dX6_feed_16 ?_
    refine lv_iload_n hx hb dX6_feed_19 rfl (lv_at hl 1 rfl) ?_
    have hMs := ml_of hD [false, true, true] (wc := [(oc3 oR iR_faultNumber iR_faultPlace iR_tapeSize rR_tape iR_end iR_tokenKind iR_tokenFrom iR_tokenTo iR_tokenName iR_tokenKey iR_tokenWhole oD iR_courtTold rR_names rR_keys), (arI rR_tape kR_tape 900 fR_tape)]) rfl
    have hFc := va_freeM hD hS hA _ hMs
    refine va_callv (va_runV (As := [.int p0]) (rest := []) ⟨hx, hb, hml, hown, hts⟩ (tX3_putBytes l dC dI _ oR iR_faultNumber iR_faultPlace iR_tapeSize rR_tape fR_tape kR_tape iR_end iR_tokenKind iR_tokenFrom iR_tokenTo iR_tokenName iR_tokenKey iR_tokenWhole oD iR_courtTold rR_names rR_keys p0 b_iR_tapeSize b_iR_courtTold (om_26e0d5d2 gc_6721)) (cwV 1 hts (wd_V wd_175 wd_176 wd_177 wd_15 (wd_c wd_178)) rfl rfl rfl dv_yX3_putBytes_1 ⟨Nat.le_of_ble_eq_true rfl, Nat.le_of_ble_eq_true rfl⟩) ⟨Pw.fb, recvX3 hK hP (q0 := 1) rfl, fun U hU hW => Pw.to (hP.ms _ hMs) (hD.ms _ hMs) hK hE hS hFc hU hW⟩ rfl rfl hl.1 rfl (lv_room (Nat.le_of_ble_eq_true rfl)) dX6_feed_20 ⟨Nat.le_of_ble_eq_true rfl, Nat.le_of_ble_eq_true rfl⟩) hS (fun q _ h => hFc q h) hFc (fun u t H locs ht hvm hw hB hz1 hk1 hS => ?_)
    refine ex_2_3 hB (fun x_6722 f_6723 b_x_6722 e_x_6722_0 e_x_6722_1 hB => ?_)
    obtain ⟨hP, hD⟩ := Bw.goN (ws' := [(oc6 oK oR oC oS oT rK_images iK_imageCount oA oH oL iK_refusal iK_latestFault iK_latestPlace), (oc3 oR iR_faultNumber iR_faultPlace x_6722 rR_tape iR_end iR_tokenKind iR_tokenFrom iR_tokenTo iR_tokenName iR_tokenKey iR_tokenWhole oD iR_courtTold rR_names rR_keys), (arI rR_tape kR_tape 900 f_6723)]) hB rfl ht hP hD _ hMs hk1 hFc rfl
    clear hz1 hk1 hvm ht hB hMs
    have hG := hG.trans (un2_eq e_x_6722_1)
    refine lv_aload_n hx hb dX6_feed_23 rfl (lv_at hl 0 rfl) ?_
    refine va_get (D := (dC, dI)) (ci := 6) (v := .ref oR) (C := RX6) (T := TX6) (N := 12) hx hb hts inX6 hown hK hP 0 rfl rfl 0 (by decide) (hts _ wd_16) (fun _ h9 => h9) rfl dX6_feed_24 ?_
    refine lv_iload_n hx hb dX6_feed_27 rfl (lv_at hl 2 rfl) ?_
    have hMs := ml_of hD [false, true, true] (wc := [(oc3 oR iR_faultNumber iR_faultPlace x_6722 rR_tape iR_end iR_tokenKind iR_tokenFrom iR_tokenTo iR_tokenName iR_tokenKey iR_tokenWhole oD iR_courtTold rR_names rR_keys), (arI rR_tape kR_tape 900 f_6723)]) rfl
    have hFc := va_freeM hD hS hA _ hMs
    refine va_callv (va_runV (As := [.int p1]) (rest := []) ⟨hx, hb, hml, hown, hts⟩ (tX3_putBytes l dC dI _ oR iR_faultNumber iR_faultPlace x_6722 rR_tape f_6723 kR_tape iR_end iR_tokenKind iR_tokenFrom iR_tokenTo iR_tokenName iR_tokenKey iR_tokenWhole oD iR_courtTold rR_names rR_keys p1 b_x_6722 b_iR_courtTold (om_58a75ecc gc_6721 e_x_6722_0)) (cwV 1 hts (wd_V wd_175 wd_176 wd_177 wd_15 (wd_c wd_178)) rfl rfl rfl dv_yX3_putBytes_1 ⟨Nat.le_of_ble_eq_true rfl, Nat.le_of_ble_eq_true rfl⟩) ⟨Pw.fb, recvX3 hK hP (q0 := 1) rfl, fun U hU hW => Pw.to (hP.ms _ hMs) (hD.ms _ hMs) hK hE hS hFc hU hW⟩ rfl rfl hl.1 rfl (lv_room (Nat.le_of_ble_eq_true rfl)) dX6_feed_28 ⟨Nat.le_of_ble_eq_true rfl, Nat.le_of_ble_eq_true rfl⟩) hS (fun q _ h => hFc q h) hFc (fun u t H locs ht hvm hw hB hz1 hk1 hS => ?_)
    refine ex_2_3 hB (fun x_6724 f_6725 b_x_6724 e_x_6724_0 e_x_6724_1 hB => ?_)
    obtain ⟨hP, hD⟩ := Bw.goN (ws' := [(oc6 oK oR oC oS oT rK_images iK_imageCount oA oH oL iK_refusal iK_latestFault iK_latestPlace), (oc3 oR iR_faultNumber iR_faultPlace x_6724 rR_tape iR_end iR_tokenKind iR_tokenFrom iR_tokenTo iR_tokenName iR_tokenKey iR_tokenWhole oD iR_courtTold rR_names rR_keys), (arI rR_tape kR_tape 900 f_6725)]) hB rfl ht hP hD _ hMs hk1 hFc rfl
    clear hz1 hk1 hvm ht hB hMs
    have hG := hG.trans (un2_eq e_x_6724_1)
    refine lv_aload_n hx hb dX6_feed_31 rfl (lv_at hl 0 rfl) ?_
    refine va_get (D := (dC, dI)) (ci := 6) (v := .ref oR) (C := RX6) (T := TX6) (N := 12) hx hb hts inX6 hown hK hP 0 rfl rfl 0 (by decide) (hts _ wd_16) (fun _ h9 => h9) rfl dX6_feed_32 ?_
    refine lv_iload_n hx hb dX6_feed_35 rfl (lv_at hl 3 rfl) ?_
    have hMs := ml_of hD [false, true, true] (wc := [(oc3 oR iR_faultNumber iR_faultPlace x_6724 rR_tape iR_end iR_tokenKind iR_tokenFrom iR_tokenTo iR_tokenName iR_tokenKey iR_tokenWhole oD iR_courtTold rR_names rR_keys), (arI rR_tape kR_tape 900 f_6725)]) rfl
    have hFc := va_freeM hD hS hA _ hMs
    refine va_callv (va_runV (As := [.int p2]) (rest := []) ⟨hx, hb, hml, hown, hts⟩ (tX3_putBytes l dC dI _ oR iR_faultNumber iR_faultPlace x_6724 rR_tape f_6725 kR_tape iR_end iR_tokenKind iR_tokenFrom iR_tokenTo iR_tokenName iR_tokenKey iR_tokenWhole oD iR_courtTold rR_names rR_keys p2 b_x_6724 b_iR_courtTold (om_2e3bc2c7 gc_6721 e_x_6722_0 e_x_6724_0)) (cwV 1 hts (wd_V wd_175 wd_176 wd_177 wd_15 (wd_c wd_178)) rfl rfl rfl dv_yX3_putBytes_1 ⟨Nat.le_of_ble_eq_true rfl, Nat.le_of_ble_eq_true rfl⟩) ⟨Pw.fb, recvX3 hK hP (q0 := 1) rfl, fun U hU hW => Pw.to (hP.ms _ hMs) (hD.ms _ hMs) hK hE hS hFc hU hW⟩ rfl rfl hl.1 rfl (lv_room (Nat.le_of_ble_eq_true rfl)) dX6_feed_36 ⟨Nat.le_of_ble_eq_true rfl, Nat.le_of_ble_eq_true rfl⟩) hS (fun q _ h => hFc q h) hFc (fun u t H locs ht hvm hw hB hz1 hk1 hS => ?_)
    refine ex_2_3 hB (fun x_6726 f_6727 b_x_6726 e_x_6726_0 e_x_6726_1 hB => ?_)
    obtain ⟨hP, hD⟩ := Bw.goN (ws' := [(oc6 oK oR oC oS oT rK_images iK_imageCount oA oH oL iK_refusal iK_latestFault iK_latestPlace), (oc3 oR iR_faultNumber iR_faultPlace x_6726 rR_tape iR_end iR_tokenKind iR_tokenFrom iR_tokenTo iR_tokenName iR_tokenKey iR_tokenWhole oD iR_courtTold rR_names rR_keys), (arI rR_tape kR_tape 900 f_6727)]) hB rfl ht hP hD _ hMs hk1 hFc rfl
    clear hz1 hk1 hvm ht hB hMs
    have hG := hG.trans (un2_eq e_x_6726_1)
    refine lv_aload_n hx hb dX6_feed_39 rfl (lv_at hl 0 rfl) ?_
    refine va_get (D := (dC, dI)) (ci := 6) (v := .ref oR) (C := RX6) (T := TX6) (N := 12) hx hb hts inX6 hown hK hP 0 rfl rfl 0 (by decide) (hts _ wd_16) (fun _ h9 => h9) rfl dX6_feed_40 ?_
    refine lv_iload hx hb dX6_feed_43 (lv_at hl 4 rfl) ?_
    have hMs := ml_of hD [false, true, true] (wc := [(oc3 oR iR_faultNumber iR_faultPlace x_6726 rR_tape iR_end iR_tokenKind iR_tokenFrom iR_tokenTo iR_tokenName iR_tokenKey iR_tokenWhole oD iR_courtTold rR_names rR_keys), (arI rR_tape kR_tape 900 f_6727)]) rfl
    have hFc := va_freeM hD hS hA _ hMs
    refine va_callv (va_runV (As := [.int p3]) (rest := []) ⟨hx, hb, hml, hown, hts⟩ (tX3_putBytes l dC dI _ oR iR_faultNumber iR_faultPlace x_6726 rR_tape f_6727 kR_tape iR_end iR_tokenKind iR_tokenFrom iR_tokenTo iR_tokenName iR_tokenKey iR_tokenWhole oD iR_courtTold rR_names rR_keys p3 b_x_6726 b_iR_courtTold (om_017f17f3 gc_6721 e_x_6722_0 e_x_6724_0 e_x_6726_0)) (cwV 1 hts (wd_V wd_175 wd_176 wd_177 wd_15 (wd_c wd_178)) rfl rfl rfl dv_yX3_putBytes_1 ⟨Nat.le_of_ble_eq_true rfl, Nat.le_of_ble_eq_true rfl⟩) ⟨Pw.fb, recvX3 hK hP (q0 := 1) rfl, fun U hU hW => Pw.to (hP.ms _ hMs) (hD.ms _ hMs) hK hE hS hFc hU hW⟩ rfl rfl hl.1 rfl (lv_room (Nat.le_of_ble_eq_true rfl)) dX6_feed_45 ⟨Nat.le_of_ble_eq_true rfl, Nat.le_of_ble_eq_true rfl⟩) hS (fun q _ h => hFc q h) hFc (fun u t H locs ht hvm hw hB hz1 hk1 hS => ?_)
    refine ex_2_3 hB (fun x_6728 f_6729 b_x_6728 e_x_6728_0 e_x_6728_1 hB => ?_)
    obtain ⟨hP, hD⟩ := Bw.goN (ws' := [(oc6 oK oR oC oS oT rK_images iK_imageCount oA oH oL iK_refusal iK_latestFault iK_latestPlace), (oc3 oR iR_faultNumber iR_faultPlace x_6728 rR_tape iR_end iR_tokenKind iR_tokenFrom iR_tokenTo iR_tokenName iR_tokenKey iR_tokenWhole oD iR_courtTold rR_names rR_keys), (arI rR_tape kR_tape 900 f_6729)]) hB rfl ht hP hD _ hMs hk1 hFc rfl
    clear hz1 hk1 hvm ht hB hMs
    have hG := hG.trans (un2_eq e_x_6728_1)
    refine lv_aload_n hx hb dX6_feed_48 rfl (lv_at hl 0 rfl) ?_
    refine va_get (D := (dC, dI)) (ci := 6) (v := .ref oR) (C := RX6) (T := TX6) (N := 12) hx hb hts inX6 hown hK hP 0 rfl rfl 0 (by decide) (hts _ wd_16) (fun _ h9 => h9) rfl dX6_feed_49 ?_
    refine lv_iload hx hb dX6_feed_52 (lv_at hl 5 rfl) ?_
    have hMs := ml_of hD [false, true, true] (wc := [(oc3 oR iR_faultNumber iR_faultPlace x_6728 rR_tape iR_end iR_tokenKind iR_tokenFrom iR_tokenTo iR_tokenName iR_tokenKey iR_tokenWhole oD iR_courtTold rR_names rR_keys), (arI rR_tape kR_tape 900 f_6729)]) rfl
    have hFc := va_freeM hD hS hA _ hMs
    refine va_callv (va_runV (As := [.int p4]) (rest := []) ⟨hx, hb, hml, hown, hts⟩ (tX3_putBytes l dC dI _ oR iR_faultNumber iR_faultPlace x_6728 rR_tape f_6729 kR_tape iR_end iR_tokenKind iR_tokenFrom iR_tokenTo iR_tokenName iR_tokenKey iR_tokenWhole oD iR_courtTold rR_names rR_keys p4 b_x_6728 b_iR_courtTold (om_91e3ab43 gc_6721 e_x_6722_0 e_x_6724_0 e_x_6726_0 e_x_6728_0)) (cwV 1 hts (wd_V wd_175 wd_176 wd_177 wd_15 (wd_c wd_178)) rfl rfl rfl dv_yX3_putBytes_1 ⟨Nat.le_of_ble_eq_true rfl, Nat.le_of_ble_eq_true rfl⟩) ⟨Pw.fb, recvX3 hK hP (q0 := 1) rfl, fun U hU hW => Pw.to (hP.ms _ hMs) (hD.ms _ hMs) hK hE hS hFc hU hW⟩ rfl rfl hl.1 rfl (lv_room (Nat.le_of_ble_eq_true rfl)) dX6_feed_54 ⟨Nat.le_of_ble_eq_true rfl, Nat.le_of_ble_eq_true rfl⟩) hS (fun q _ h => hFc q h) hFc (fun u t H locs ht hvm hw hB hz1 hk1 hS => ?_)
    refine ex_2_3 hB (fun x_6730 f_6731 b_x_6730 e_x_6730_0 e_x_6730_1 hB => ?_)
    obtain ⟨hP, hD⟩ := Bw.goN (ws' := [(oc6 oK oR oC oS oT rK_images iK_imageCount oA oH oL iK_refusal iK_latestFault iK_latestPlace), (oc3 oR iR_faultNumber iR_faultPlace x_6730 rR_tape iR_end iR_tokenKind iR_tokenFrom iR_tokenTo iR_tokenName iR_tokenKey iR_tokenWhole oD iR_courtTold rR_names rR_keys), (arI rR_tape kR_tape 900 f_6731)]) hB rfl ht hP hD _ hMs hk1 hFc rfl
    clear hz1 hk1 hvm ht hB hMs
    have hG := hG.trans (un2_eq e_x_6730_1)
    refine lv_aload_n hx hb dX6_feed_57 rfl (lv_at hl 0 rfl) ?_
    refine va_get (D := (dC, dI)) (ci := 6) (v := .ref oR) (C := RX6) (T := TX6) (N := 12) hx hb hts inX6 hown hK hP 0 rfl rfl 0 (by decide) (hts _ wd_16) (fun _ h9 => h9) rfl dX6_feed_58 ?_
    refine va_get (D := (dC, dI)) (ci := 3) (v := .int x_6730) (C := RX3) (T := TX3) (N := 15) hx hb hts inX3 hown hK hP 1 rfl rfl 2 (by decide) (hts _ wd_174) (fun _ h9 => h9) rfl dX6_feed_61 ?_
    exact wq_i hx hb hr (cI x_6730) ⟨⟨trivial, (by first | omega | assumption)⟩, (cI_of x_6730)⟩ (fun t ht hW => ⟨x_6730, f_6731, b_x_6730, (by first | omega | decide | assumption), (cI_tup hG), Bw.to hP hD hK ht hW⟩) hS dX6_feed_64 hlocks
  · skip
    have hG := hG.trans (if_neg c_6721)
    have gc_6721 := ti_nle c_6721 rfl kc_880
    refine lv_iconst (v := (-1)) hx hb dX6_feed_13 (by decide) ?_
    exact wq_i hx hb hr (cI (-1)) ⟨⟨trivial, (by have q := kc_m1; first | omega | assumption)⟩, (cI_of (-1))⟩ (fun t ht hW => ⟨iR_tapeSize, fR_tape, b_iR_tapeSize, (by first | omega | decide | assumption), (cI_tup hG), Bw.to hP hD hK ht hW⟩) hS dX6_feed_14 hlocks
set_option maxHeartbeats 4000000 in
set_option maxRecDepth 100000 in
theorem tX6_image (l : Launch) (dC : Nat → ClassId) (dI : Nat → Nat → Nat) (sz : Nat) (oK : Nat) (oR : Nat) (oC : Nat) (oS : Nat) (oT : Nat) (rK_images : Nat) (iK_imageCount : Int32) (oA : Nat) (oH : Nat) (oL : Nat) (iK_refusal : Int32) (iK_latestFault : Int32) (iK_latestPlace : Int32) (iC_nodes : Int32) (iC_words : Int32) (iC_chances : Int32) (iC_unsures : Int32) (iC_slips : Int32) (iC_throneNode : Int32) (iC_saidWorth : Int32) (iC_unit : Int32) (rC_kind : Nat) (rC_parts : Nat) (rC_partNodes : Nat) (rC_weights : Nat) (rC_weightSums : Nat) (rC_toldWorths : Nat) (rC_steps : Nat) (rC_below : Nat) (rC_above : Nat) (rC_unsureWords : Nat) (rC_unsureWorths : Nat) (rS_worths : Nat) (fS_worths : Nat → Int32) (kS_worths : ClassId) (rS_order : Nat) (fS_order : Nat → Int32) (kS_order : ClassId) (rS_left : Nat) (oI0 : Nat) (rI0_worths : Nat) (fI0_worths : Nat → Int32) (kI0_worths : ClassId) (rI0_order : Nat) (fI0_order : Nat → Int32) (kI0_order : ClassId) (rI0_left : Nat) (oI1 : Nat) (rI1_worths : Nat) (fI1_worths : Nat → Int32) (kI1_worths : ClassId) (rI1_order : Nat) (fI1_order : Nat → Int32) (kI1_order : ClassId) (rI1_left : Nat) (oI2 : Nat) (rI2_worths : Nat) (fI2_worths : Nat → Int32) (kI2_worths : ClassId) (rI2_order : Nat) (fI2_order : Nat → Int32) (kI2_order : ClassId) (rI2_left : Nat) (kK_images : ClassId) (fK_images : Nat → Option Nat) (b_iK_imageCount : 0 ≤ iK_imageCount.toInt ∧ iK_imageCount.toInt ≤ 3) (b_iC_nodes : 0 ≤ iC_nodes.toInt ∧ iC_nodes.toInt ≤ 18) (b_iC_unsures : 0 ≤ iC_unsures.toInt ∧ iC_unsures.toInt ≤ 4) (b_iC_throneNode : (-1) ≤ iC_throneNode.toInt ∧ iC_throneNode.toInt ≤ 17) (a_fS_order : ∀ j : Nat, j < 72 → 0 ≤ (fS_order j).toInt ∧ (fS_order j).toInt ≤ 3) (a_fI0_order : ∀ j : Nat, j < 72 → 0 ≤ (fI0_order j).toInt ∧ (fI0_order j).toInt ≤ 3) (a_fI1_order : ∀ j : Nat, j < 72 → 0 ≤ (fI1_order j).toInt ∧ (fI1_order j).toInt ≤ 3) (a_fI2_order : ∀ j : Nat, j < 72 → 0 ≤ (fI2_order j).toInt ∧ (fI2_order j).toInt ≤ 3) (r_I0 : fK_images 0 = some oI0) (r_I1 : fK_images 1 = some oI1) (r_I2 : fK_images 2 = some oI2)  : Met l yX6_image (Cond.code yX6_image cX6_image 1 (some .int) :: wG) ({ frames := 2, cells := 0, slots := 0, locals := 85 }) (va_Pc [.ref oK] (Pw dC dI sz [(oc6 oK oR oC oS oT rK_images iK_imageCount oA oH oL iK_refusal iK_latestFault iK_latestPlace), (oc1 oC iC_nodes iC_words iC_chances iC_unsures iC_slips iC_throneNode iC_saidWorth iC_unit rC_kind rC_parts rC_partNodes rC_weights rC_weightSums rC_toldWorths rC_steps rC_below rC_above rC_unsureWords rC_unsureWorths), (oc5 oS rS_worths rS_order rS_left), (arI rS_worths kS_worths 18 fS_worths), (arI rS_order kS_order 72 fS_order), (oc5 oI0 rI0_worths rI0_order rI0_left), (arI rI0_worths kI0_worths 18 fI0_worths), (arI rI0_order kI0_order 72 fI0_order), (oc5 oI1 rI1_worths rI1_order rI1_left), (arI rI1_worths kI1_worths 18 fI1_worths), (arI rI1_order kI1_order 72 fI1_order), (oc5 oI2 rI2_worths rI2_order rI2_left), (arI rI2_worths kI2_worths 18 fI2_worths), (arI rI2_order kI2_order 72 fI2_order), (rK_images, .inl (kK_images, 3, .inr (.inr (.inr (.inr fK_images)))))] [(kS_worths, .int), (kS_order, .int), (kI0_worths, .int), (kI0_order, .int), (kI1_worths, .int), (kI1_order, .int), (kI2_worths, .int), (kI2_order, .int), (kK_images, .object "KingHears$Stand")])) (va_Qi (fun (r : Int32) (u : Nat) => (True ∧ True) ∧ r = Int32.ofNat u) (fun (u : Nat) (t : State) => ∃ (niK_imageCount : Int32) (niK_refusal : Int32) (nfI0_worths : Nat → Int32) (nfI0_order : Nat → Int32) (nfI1_worths : Nat → Int32) (nfI1_order : Nat → Int32) (nfI2_worths : Nat → Int32) (nfI2_order : Nat → Int32), (0 ≤ niK_imageCount.toInt ∧ niK_imageCount.toInt ≤ 3) ∧ (∀ j : Nat, j < 72 → 0 ≤ (nfI0_order j).toInt ∧ (nfI0_order j).toInt ≤ 3) ∧ (∀ j : Nat, j < 72 → 0 ≤ (nfI1_order j).toInt ∧ (nfI1_order j).toInt ≤ 3) ∧ (∀ j : Nat, j < 72 → 0 ≤ (nfI2_order j).toInt ∧ (nfI2_order j).toInt ≤ 3) ∧ (PX6_image iK_imageCount iC_nodes fS_worths fS_order fI0_worths fI0_order fI1_worths fI1_order fI2_worths fI2_order = (Int32.ofNat u, niK_imageCount, niK_refusal, nfI0_worths, nfI0_order, nfI1_worths, nfI1_order, nfI2_worths, nfI2_order)) ∧ Bw dC dI (va_A [(oc6 oK oR oC oS oT rK_images iK_imageCount oA oH oL iK_refusal iK_latestFault iK_latestPlace), (oc1 oC iC_nodes iC_words iC_chances iC_unsures iC_slips iC_throneNode iC_saidWorth iC_unit rC_kind rC_parts rC_partNodes rC_weights rC_weightSums rC_toldWorths rC_steps rC_below rC_above rC_unsureWords rC_unsureWorths), (oc5 oS rS_worths rS_order rS_left), (arI rS_worths kS_worths 18 fS_worths), (arI rS_order kS_order 72 fS_order), (oc5 oI0 rI0_worths rI0_order rI0_left), (arI rI0_worths kI0_worths 18 fI0_worths), (arI rI0_order kI0_order 72 fI0_order), (oc5 oI1 rI1_worths rI1_order rI1_left), (arI rI1_worths kI1_worths 18 fI1_worths), (arI rI1_order kI1_order 72 fI1_order), (oc5 oI2 rI2_worths rI2_order rI2_left), (arI rI2_worths kI2_worths 18 fI2_worths), (arI rI2_order kI2_order 72 fI2_order), (rK_images, .inl (kK_images, 3, .inr (.inr (.inr (.inr fK_images)))))] sz) [(oc6 oK oR oC oS oT rK_images niK_imageCount oA oH oL niK_refusal iK_latestFault iK_latestPlace), (oc1 oC iC_nodes iC_words iC_chances iC_unsures iC_slips iC_throneNode iC_saidWorth iC_unit rC_kind rC_parts rC_partNodes rC_weights rC_weightSums rC_toldWorths rC_steps rC_below rC_above rC_unsureWords rC_unsureWorths), (oc5 oS rS_worths rS_order rS_left), (arI rS_worths kS_worths 18 fS_worths), (arI rS_order kS_order 72 fS_order), (oc5 oI0 rI0_worths rI0_order rI0_left), (arI rI0_worths kI0_worths 18 nfI0_worths), (arI rI0_order kI0_order 72 nfI0_order), (oc5 oI1 rI1_worths rI1_order rI1_left), (arI rI1_worths kI1_worths 18 nfI1_worths), (arI rI1_order kI1_order 72 nfI1_order), (oc5 oI2 rI2_worths rI2_order rI2_left), (arI rI2_worths kI2_worths 18 nfI2_worths), (arI rI2_order kI2_order 72 nfI2_order), (rK_images, .inl (kK_images, 3, .inr (.inr (.inr (.inr fK_images)))))] [(kS_worths, .int), (kS_order, .int), (kI0_worths, .int), (kI0_order, .int), (kI1_worths, .int), (kI1_order, .int), (kI2_worths, .int), (kI2_order, .int), (kK_images, .object "KingHears$Stand")] t) (va_A [(oc6 oK oR oC oS oT rK_images iK_imageCount oA oH oL iK_refusal iK_latestFault iK_latestPlace), (oc1 oC iC_nodes iC_words iC_chances iC_unsures iC_slips iC_throneNode iC_saidWorth iC_unit rC_kind rC_parts rC_partNodes rC_weights rC_weightSums rC_toldWorths rC_steps rC_below rC_above rC_unsureWords rC_unsureWorths), (oc5 oS rS_worths rS_order rS_left), (arI rS_worths kS_worths 18 fS_worths), (arI rS_order kS_order 72 fS_order), (oc5 oI0 rI0_worths rI0_order rI0_left), (arI rI0_worths kI0_worths 18 fI0_worths), (arI rI0_order kI0_order 72 fI0_order), (oc5 oI1 rI1_worths rI1_order rI1_left), (arI rI1_worths kI1_worths 18 fI1_worths), (arI rI1_order kI1_order 72 fI1_order), (oc5 oI2 rI2_worths rI2_order rI2_left), (arI rI2_worths kI2_worths 18 fI2_worths), (arI rI2_order kI2_order 72 fI2_order), (rK_images, .inl (kK_images, 3, .inr (.inr (.inr (.inr fK_images)))))] sz)) 0 0 (va_A [(oc6 oK oR oC oS oT rK_images iK_imageCount oA oH oL iK_refusal iK_latestFault iK_latestPlace), (oc1 oC iC_nodes iC_words iC_chances iC_unsures iC_slips iC_throneNode iC_saidWorth iC_unit rC_kind rC_parts rC_partNodes rC_weights rC_weightSums rC_toldWorths rC_steps rC_below rC_above rC_unsureWords rC_unsureWorths), (oc5 oS rS_worths rS_order rS_left), (arI rS_worths kS_worths 18 fS_worths), (arI rS_order kS_order 72 fS_order), (oc5 oI0 rI0_worths rI0_order rI0_left), (arI rI0_worths kI0_worths 18 fI0_worths), (arI rI0_order kI0_order 72 fI0_order), (oc5 oI1 rI1_worths rI1_order rI1_left), (arI rI1_worths kI1_worths 18 fI1_worths), (arI rI1_order kI1_order 72 fI1_order), (oc5 oI2 rI2_worths rI2_order rI2_left), (arI rI2_worths kI2_worths 18 fI2_worths), (arI rI2_order kI2_order 72 fI2_order), (rK_images, .inl (kK_images, 3, .inr (.inr (.inr (.inr fK_images)))))] sz) := by
  refine Met.ofW (cc := cX6_image) (maxL := 1) (ret := (some .int)) pnX6 rfl ?_
  intro p e s m args below meth c s₁ B hml hv
  obtain ⟨rfl, hsz, hP, hK, hD0, hE⟩ := hv
  have hx := B.exec
  have hb := B.bytes
  have hr := B.returns
  have hts : ∀ w ∈ wG, w.before ([.ref oK] : List Value).toArray s = true := fun w h => atoms_spec (ws := Cond.code yX6_image cX6_image 1 (some .int) :: wG) B.pre w (List.mem_cons_of_mem _ h)
  have hown : s.vm.findClass RX6 = some m.cls := own_of B.named rfl
  have hlocks := B.notSynchronized
  subst hsz
  have hD := hD0.self (sz := s.heap.size)
  generalize hAe : va_A [(oc6 oK oR oC oS oT rK_images iK_imageCount oA oH oL iK_refusal iK_latestFault iK_latestPlace), (oc1 oC iC_nodes iC_words iC_chances iC_unsures iC_slips iC_throneNode iC_saidWorth iC_unit rC_kind rC_parts rC_partNodes rC_weights rC_weightSums rC_toldWorths rC_steps rC_below rC_above rC_unsureWords rC_unsureWorths), (oc5 oS rS_worths rS_order rS_left), (arI rS_worths kS_worths 18 fS_worths), (arI rS_order kS_order 72 fS_order), (oc5 oI0 rI0_worths rI0_order rI0_left), (arI rI0_worths kI0_worths 18 fI0_worths), (arI rI0_order kI0_order 72 fI0_order), (oc5 oI1 rI1_worths rI1_order rI1_left), (arI rI1_worths kI1_worths 18 fI1_worths), (arI rI1_order kI1_order 72 fI1_order), (oc5 oI2 rI2_worths rI2_order rI2_left), (arI rI2_worths kI2_worths 18 fI2_worths), (arI rI2_order kI2_order 72 fI2_order), (rK_images, .inl (kK_images, 3, .inr (.inr (.inr (.inr fK_images)))))] s.heap.size = A at hD hE ⊢
  have hA : ∀ q : Nat, s.heap.size ≤ q → A q := fun q h => by rw [← hAe]; exact Or.inr h
  have hS : va_S A s.heap s.heap [] := va_S.rf
  have hl := lv_entry ([.ref oK]) (n := 1) (Nat.le_of_ble_eq_true rfl)
  rw [lg_entry_eq]
  generalize (lg_sl ([.ref oK]) ++ List.replicate (1 - (lg_sl ([.ref oK])).length) Slot.unset).toArray = ls at hl ⊢
  have hl : lv_has ls 1 [(0, .ref oK)] := hl
  have hG := PX6_image_eq iK_imageCount iC_nodes fS_worths fS_order fI0_worths fI0_order fI1_worths fI1_order fI2_worths fI2_order
  refine lv_aload_n hx hb dX6_image_0 rfl (lv_at hl 0 rfl) ?_
  have hMs := ml_of hD [true, true, false, false, false, false, false, false, false, false, false, false, false, false, false] (wc := [(oc6 oK oR oC oS oT rK_images iK_imageCount oA oH oL iK_refusal iK_latestFault iK_latestPlace), (oc1 oC iC_nodes iC_words iC_chances iC_unsures iC_slips iC_throneNode iC_saidWorth iC_unit rC_kind rC_parts rC_partNodes rC_weights rC_weightSums rC_toldWorths rC_steps rC_below rC_above rC_unsureWords rC_unsureWorths)]) rfl
  have hFc := va_freeM hD hS hA _ hMs
  refine va_calli (va_runV (As := []) (rest := []) ⟨hx, hb, hml, hown, hts⟩ (tX6_lacksCourt l dC dI _ oK oR oC oS oT rK_images iK_imageCount oA oH oL iK_refusal iK_latestFault iK_latestPlace iC_nodes iC_words iC_chances iC_unsures iC_slips iC_throneNode iC_saidWorth iC_unit rC_kind rC_parts rC_partNodes rC_weights rC_weightSums rC_toldWorths rC_steps rC_below rC_above rC_unsureWords rC_unsureWorths b_iK_imageCount b_iC_nodes b_iC_unsures b_iC_throneNode) (cwV 0 hts (wd_V wd_596 wd_597 wd_598 wd_2 (wd_c wd_599)) rfl rfl rfl dv_yX6_lacksCourt_0 ⟨Nat.le_of_ble_eq_true rfl, Nat.le_of_ble_eq_true rfl⟩) ⟨Pw.fb, recvX6 hK hP (q0 := 0) rfl, fun U hU hW => Pw.to (hP.ms _ hMs) (hD.ms _ hMs) (hK.ms [false, false, false, false, false, false, false, false, false] rfl) hE hS hFc hU hW⟩ rfl rfl hl.1 rfl (lv_room (Nat.le_of_ble_eq_true rfl)) dX6_image_1 ⟨Nat.le_of_ble_eq_true rfl, Nat.le_of_ble_eq_true rfl⟩) hS (fun q _ h => hFc q h) hFc (fun r u t H locs ht hvm hw hB hz1 hk1 hS => ?_)
  have hru9 := hw.2
  have hw := hw.1
  refine ex_1_2 hB (fun x_6751 b_x_6751 e_x_6751_0 hB => ?_)
  obtain ⟨hP, hD⟩ := Bw.goN (ws' := [(oc6 oK oR oC oS oT rK_images iK_imageCount oA oH oL x_6751 iK_latestFault iK_latestPlace), (oc1 oC iC_nodes iC_words iC_chances iC_unsures iC_slips iC_throneNode iC_saidWorth iC_unit rC_kind rC_parts rC_partNodes rC_weights rC_weightSums rC_toldWorths rC_steps rC_below rC_above rC_unsureWords rC_unsureWorths), (oc5 oS rS_worths rS_order rS_left), (arI rS_worths kS_worths 18 fS_worths), (arI rS_order kS_order 72 fS_order), (oc5 oI0 rI0_worths rI0_order rI0_left), (arI rI0_worths kI0_worths 18 fI0_worths), (arI rI0_order kI0_order 72 fI0_order), (oc5 oI1 rI1_worths rI1_order rI1_left), (arI rI1_worths kI1_worths 18 fI1_worths), (arI rI1_order kI1_order 72 fI1_order), (oc5 oI2 rI2_worths rI2_order rI2_left), (arI rI2_worths kI2_worths 18 fI2_worths), (arI rI2_order kI2_order 72 fI2_order), (rK_images, .inl (kK_images, 3, .inr (.inr (.inr (.inr fK_images)))))]) hB rfl ht hP hD _ hMs hk1 hFc rfl
  clear hz1 hk1 hvm ht hB hMs
  rw [← hru9] at e_x_6751_0
  rcases hw.2 with ⟨rfl, hc_6752⟩ | ⟨rfl, hc_6752⟩
  · skip
    have hG := hG.trans (un2_eq e_x_6751_0)
    have hG := hG.trans (if_pos rfl)
    refine lv_if_eq (tgt := 9) hx hb dX6_image_4 (by decide) (fun _ => ?_) (fun c => absurd c (by decide))
    refine lv_aload_n hx hb dX6_image_9 rfl (lv_at hl 0 rfl) ?_
    refine va_get (D := (dC, dI)) (ci := 6) (v := .int iK_imageCount) (C := RX6) (T := TX6) (N := 12) hx hb hts inX6 hown hK hP 0 rfl rfl 5 (by decide) (hts _ wd_194) (fun _ h9 => h9) rfl dX6_image_10 ?_
    refine lv_iconst (v := 3) hx hb dX6_image_13 (by decide) ?_
    refine lv_icmp_lt (tgt := 23) hx hb dX6_image_14 (by decide) (fun c_6755 => ?_) (fun c_6755 => ?_)
    · skip
      have hG := hG.trans (if_pos c_6755)
      have gc_6755 := ti_lt c_6755 rfl kc_3
      refine lv_aload_n hx hb dX6_image_23 rfl (lv_at hl 0 rfl) ?_
      refine va_get (D := (dC, dI)) (ci := 6) (v := .ref rK_images) (C := RX6) (T := TX6) (N := 12) hx hb hts inX6 hown hK hP 0 rfl rfl 4 (by decide) (hts _ wd_26) (fun _ h9 => h9) rfl dX6_image_24 ?_
      refine lv_aload_n hx hb dX6_image_27 rfl (lv_at hl 0 rfl) ?_
      refine va_get (D := (dC, dI)) (ci := 6) (v := .int iK_imageCount) (C := RX6) (T := TX6) (N := 12) hx hb hts inX6 hown hK hP 0 rfl rfl 5 (by decide) (hts _ wd_194) (fun _ h9 => h9) rfl dX6_image_28 ?_
      refine va_aldq (C := "KingHears$Stand") hx hb hK hP 14 8 rfl rfl (ti_in rfl b_iK_imageCount.1 (om_495fbfcb gc_6755)) dX6_image_31 ?_
      rcases (show iK_imageCount.toInt = 0 ∨ iK_imageCount.toInt = 1 ∨ iK_imageCount.toInt = 2 by omega) with h_s | h_s | h_s
      · skip
        have hG := hG.trans (if_pos (show iK_imageCount = (0 : Int32) by rw [fz_eq, kc_0]; omega))
        rw [show fK_images iK_imageCount.toNatClampNeg = some oI0 from (show iK_imageCount.toNatClampNeg = 0 from by have q := ti_cl (x := iK_imageCount) rfl (by omega); omega) ▸ r_I0]
        refine W.eq (g2 := F0 m 32 ls [.ref oI0]) rfl ?_
        refine lv_aload_n hx hb dX6_image_32 rfl (lv_at hl 0 rfl) ?_
        refine va_get (D := (dC, dI)) (ci := 6) (v := .ref oS) (C := RX6) (T := TX6) (N := 12) hx hb hts inX6 hown hK hP 0 rfl rfl 2 (by decide) (hts _ wd_24) (fun _ h9 => h9) rfl dX6_image_33 ?_
        have hFc := va_free (wc := [(oc5 oI0 rI0_worths rI0_order rI0_left), (arI rI0_worths kI0_worths 18 fI0_worths), (arI rI0_order kI0_order 72 fI0_order), (oc5 oS rS_worths rS_order rS_left), (arI rS_worths kS_worths 18 fS_worths), (arI rS_order kS_order 72 fS_order)]) hD hS hA [5, 6, 7, 2, 3, 4] rfl
        refine va_callv (va_runV (As := [.ref oS]) (rest := []) ⟨hx, hb, hml, hown, hts⟩ (tX5_copyFrom l dC dI _ oI0 rI0_worths fI0_worths kI0_worths rI0_order fI0_order kI0_order rI0_left oS rS_worths fS_worths kS_worths rS_order fS_order kS_order rS_left a_fI0_order a_fS_order) (cwV 1 hts (wd_V wd_1011 wd_1012 wd_1013 wd_23 (wd_c wd_1014)) rfl rfl rfl dv_yX5_copyFrom_1 ⟨Nat.le_of_ble_eq_true rfl, Nat.le_of_ble_eq_true rfl⟩) ⟨Pw.fb, recvX5 hK hP (q0 := 5) rfl, fun U hU hW => Pw.to (hP.sub [5, 6, 7, 2, 3, 4] rfl) (hD.sub [5, 6, 7, 2, 3, 4] (by decide) rfl) (hK.sub [2, 3, 0, 1] rfl) hE hS hFc hU hW⟩ rfl rfl hl.1 rfl (lv_room (Nat.le_of_ble_eq_true rfl)) dX6_image_36 ⟨Nat.le_of_ble_eq_true rfl, Nat.le_of_ble_eq_true rfl⟩) hS (fun q _ h => hFc q h) hFc (fun u t H locs ht hvm hw hB hz1 hk1 hS => ?_)
        refine ex_2_2 hB (fun f_6756 f_6757 a_f_6757 e_f_6756_0 hB => ?_)
        obtain ⟨hP, hD, hK⟩ := Bw.go (ws' := [(oc6 oK oR oC oS oT rK_images iK_imageCount oA oH oL x_6751 iK_latestFault iK_latestPlace), (oc1 oC iC_nodes iC_words iC_chances iC_unsures iC_slips iC_throneNode iC_saidWorth iC_unit rC_kind rC_parts rC_partNodes rC_weights rC_weightSums rC_toldWorths rC_steps rC_below rC_above rC_unsureWords rC_unsureWorths), (oc5 oI1 rI1_worths rI1_order rI1_left), (arI rI1_worths kI1_worths 18 fI1_worths), (arI rI1_order kI1_order 72 fI1_order), (oc5 oI2 rI2_worths rI2_order rI2_left), (arI rI2_worths kI2_worths 18 fI2_worths), (arI rI2_order kI2_order 72 fI2_order), (rK_images, .inl (kK_images, 3, .inr (.inr (.inr (.inr fK_images))))), (oc5 oI0 rI0_worths rI0_order rI0_left), (arI rI0_worths kI0_worths 18 f_6756), (arI rI0_order kI0_order 72 f_6757), (oc5 oS rS_worths rS_order rS_left), (arI rS_worths kS_worths 18 fS_worths), (arI rS_order kS_order 72 fS_order)]) (tys' := [(kI1_worths, .int), (kI1_order, .int), (kI2_worths, .int), (kI2_order, .int), (kK_images, .object "KingHears$Stand"), (kI0_worths, .int), (kI0_order, .int), (kS_worths, .int), (kS_order, .int)]) hB rfl ht hvm hP hD hK [5, 6, 7, 2, 3, 4] [0, 1, 8, 9, 10, 11, 12, 13, 14] rfl (by decide) (by decide) [4, 5, 6, 7, 8] hk1 hFc rfl rfl rfl
        clear hz1 hk1 hvm ht hB
        have hG := hG.trans (un2_eq e_f_6756_0)
        refine lv_aload_n hx hb dX6_image_39 rfl (lv_at hl 0 rfl) ?_
        refine lv_dup hx hb dX6_image_40 rfl ?_
        refine va_get (D := (dC, dI)) (ci := 6) (v := .int iK_imageCount) (C := RX6) (T := TX6) (N := 12) hx hb hts inX6 hown hK hP 0 rfl rfl 5 (by decide) (hts _ wd_194) (fun _ h9 => h9) rfl dX6_image_41 ?_
        refine lv_iconst (v := 1) hx hb dX6_image_44 (by decide) ?_
        refine lv_iadd hx hb dX6_image_45 ?_
        refine lv_topi (fun x_6758 ex_6758 => ?_)
        have hG := hG.trans (lt_eq ex_6758)
        have vx_6758 : x_6758.toInt = iK_imageCount.toInt + 1 := ti_add ex_6758 rfl kc_1 (om_4e4fce7e b_iK_imageCount.1) (om_bf06ae8a b_iK_imageCount.2)
        refine va_put (D := (dC, dI)) (ci := 6) (v := .int x_6758) (ty := .int) (C := RX6) (T := TX6) (N := 12) hx hb hts inX6 tyX6 tyX6_ok nmX6 hown hK hP hD hS 0 rfl rfl 5 (by decide) (hts _ wd_194) (fun _ h9 => h9) rfl (by decide +kernel) rfl rfl (Nat.le_of_ble_eq_true rfl) dX6_image_46 (fun H locs hP hD hS => ?_)
        obtain ⟨hP, hD⟩ := wl2 (ws' := [(oc6 oK oR oC oS oT rK_images x_6758 oA oH oL x_6751 iK_latestFault iK_latestPlace), (oc1 oC iC_nodes iC_words iC_chances iC_unsures iC_slips iC_throneNode iC_saidWorth iC_unit rC_kind rC_parts rC_partNodes rC_weights rC_weightSums rC_toldWorths rC_steps rC_below rC_above rC_unsureWords rC_unsureWorths), (oc5 oI1 rI1_worths rI1_order rI1_left), (arI rI1_worths kI1_worths 18 fI1_worths), (arI rI1_order kI1_order 72 fI1_order), (oc5 oI2 rI2_worths rI2_order rI2_left), (arI rI2_worths kI2_worths 18 fI2_worths), (arI rI2_order kI2_order 72 fI2_order), (rK_images, .inl (kK_images, 3, .inr (.inr (.inr (.inr fK_images))))), (oc5 oI0 rI0_worths rI0_order rI0_left), (arI rI0_worths kI0_worths 18 f_6756), (arI rI0_order kI0_order 72 f_6757), (oc5 oS rS_worths rS_order rS_left), (arI rS_worths kS_worths 18 fS_worths), (arI rS_order kS_order 72 fS_order)]) hP hD rfl
        refine lv_aload_n hx hb dX6_image_49 rfl (lv_at hl 0 rfl) ?_
        refine va_get (D := (dC, dI)) (ci := 6) (v := .int x_6758) (C := RX6) (T := TX6) (N := 12) hx hb hts inX6 hown hK hP 0 rfl rfl 5 (by decide) (hts _ wd_194) (fun _ h9 => h9) rfl dX6_image_50 ?_
        refine lv_iconst (v := 1) hx hb dX6_image_53 (by decide) ?_
        refine lv_isub hx hb dX6_image_54 ?_
        refine lv_topi (fun x_6759 ex_6759 => ?_)
        have hG := hG.trans (lt_eq ex_6759)
        have vx_6759 : x_6759.toInt = iK_imageCount.toInt := om_b1b8516a (ti_sub ex_6759 vx_6758 kc_1 (om_df8c7ace b_iK_imageCount.1) (om_b632e1fc b_iK_imageCount.2))
        exact wq_i hx hb hr (cI x_6759) ⟨⟨trivial, trivial⟩, (cI_of x_6759)⟩ (fun t ht hW => ⟨x_6758, x_6751, f_6756, f_6757, fI1_worths, fI1_order, fI2_worths, fI2_order, ⟨(om_83b90de5 b_iK_imageCount.1 vx_6758), (om_441f7b60 gc_6755 vx_6758)⟩, a_f_6757, a_fI1_order, a_fI2_order, (cI_tup hG), Bw.to (hP.sub [0, 1, 12, 13, 14, 9, 10, 11, 2, 3, 4, 5, 6, 7, 8] rfl) (hD.sub [0, 1, 12, 13, 14, 9, 10, 11, 2, 3, 4, 5, 6, 7, 8] (by decide) rfl) (hK.sub [7, 8, 5, 6, 0, 1, 2, 3, 4] rfl) ht hW⟩) hS dX6_image_55 hlocks
      · skip
        have hG := hG.trans (if_neg (show ¬ iK_imageCount = (0 : Int32) by rw [fz_eq, kc_0]; omega))
        have hG := hG.trans (if_pos (show iK_imageCount = (1 : Int32) by rw [fz_eq, kc_1]; omega))
        rw [show fK_images iK_imageCount.toNatClampNeg = some oI1 from (show iK_imageCount.toNatClampNeg = 1 from by have q := ti_cl (x := iK_imageCount) rfl (by omega); omega) ▸ r_I1]
        refine W.eq (g2 := F0 m 32 ls [.ref oI1]) rfl ?_
        refine lv_aload_n hx hb dX6_image_32 rfl (lv_at hl 0 rfl) ?_
        refine va_get (D := (dC, dI)) (ci := 6) (v := .ref oS) (C := RX6) (T := TX6) (N := 12) hx hb hts inX6 hown hK hP 0 rfl rfl 2 (by decide) (hts _ wd_24) (fun _ h9 => h9) rfl dX6_image_33 ?_
        have hFc := va_free (wc := [(oc5 oI1 rI1_worths rI1_order rI1_left), (arI rI1_worths kI1_worths 18 fI1_worths), (arI rI1_order kI1_order 72 fI1_order), (oc5 oS rS_worths rS_order rS_left), (arI rS_worths kS_worths 18 fS_worths), (arI rS_order kS_order 72 fS_order)]) hD hS hA [8, 9, 10, 2, 3, 4] rfl
        refine va_callv (va_runV (As := [.ref oS]) (rest := []) ⟨hx, hb, hml, hown, hts⟩ (tX5_copyFrom l dC dI _ oI1 rI1_worths fI1_worths kI1_worths rI1_order fI1_order kI1_order rI1_left oS rS_worths fS_worths kS_worths rS_order fS_order kS_order rS_left a_fI1_order a_fS_order) (cwV 1 hts (wd_V wd_1011 wd_1012 wd_1013 wd_23 (wd_c wd_1014)) rfl rfl rfl dv_yX5_copyFrom_1 ⟨Nat.le_of_ble_eq_true rfl, Nat.le_of_ble_eq_true rfl⟩) ⟨Pw.fb, recvX5 hK hP (q0 := 8) rfl, fun U hU hW => Pw.to (hP.sub [8, 9, 10, 2, 3, 4] rfl) (hD.sub [8, 9, 10, 2, 3, 4] (by decide) rfl) (hK.sub [4, 5, 0, 1] rfl) hE hS hFc hU hW⟩ rfl rfl hl.1 rfl (lv_room (Nat.le_of_ble_eq_true rfl)) dX6_image_36 ⟨Nat.le_of_ble_eq_true rfl, Nat.le_of_ble_eq_true rfl⟩) hS (fun q _ h => hFc q h) hFc (fun u t H locs ht hvm hw hB hz1 hk1 hS => ?_)
        refine ex_2_2 hB (fun f_6760 f_6761 a_f_6761 e_f_6760_0 hB => ?_)
        obtain ⟨hP, hD, hK⟩ := Bw.go (ws' := [(oc6 oK oR oC oS oT rK_images iK_imageCount oA oH oL x_6751 iK_latestFault iK_latestPlace), (oc1 oC iC_nodes iC_words iC_chances iC_unsures iC_slips iC_throneNode iC_saidWorth iC_unit rC_kind rC_parts rC_partNodes rC_weights rC_weightSums rC_toldWorths rC_steps rC_below rC_above rC_unsureWords rC_unsureWorths), (oc5 oI0 rI0_worths rI0_order rI0_left), (arI rI0_worths kI0_worths 18 fI0_worths), (arI rI0_order kI0_order 72 fI0_order), (oc5 oI2 rI2_worths rI2_order rI2_left), (arI rI2_worths kI2_worths 18 fI2_worths), (arI rI2_order kI2_order 72 fI2_order), (rK_images, .inl (kK_images, 3, .inr (.inr (.inr (.inr fK_images))))), (oc5 oI1 rI1_worths rI1_order rI1_left), (arI rI1_worths kI1_worths 18 f_6760), (arI rI1_order kI1_order 72 f_6761), (oc5 oS rS_worths rS_order rS_left), (arI rS_worths kS_worths 18 fS_worths), (arI rS_order kS_order 72 fS_order)]) (tys' := [(kI0_worths, .int), (kI0_order, .int), (kI2_worths, .int), (kI2_order, .int), (kK_images, .object "KingHears$Stand"), (kI1_worths, .int), (kI1_order, .int), (kS_worths, .int), (kS_order, .int)]) hB rfl ht hvm hP hD hK [8, 9, 10, 2, 3, 4] [0, 1, 5, 6, 7, 11, 12, 13, 14] rfl (by decide) (by decide) [2, 3, 6, 7, 8] hk1 hFc rfl rfl rfl
        clear hz1 hk1 hvm ht hB
        have hG := hG.trans (un2_eq e_f_6760_0)
        refine lv_aload_n hx hb dX6_image_39 rfl (lv_at hl 0 rfl) ?_
        refine lv_dup hx hb dX6_image_40 rfl ?_
        refine va_get (D := (dC, dI)) (ci := 6) (v := .int iK_imageCount) (C := RX6) (T := TX6) (N := 12) hx hb hts inX6 hown hK hP 0 rfl rfl 5 (by decide) (hts _ wd_194) (fun _ h9 => h9) rfl dX6_image_41 ?_
        refine lv_iconst (v := 1) hx hb dX6_image_44 (by decide) ?_
        refine lv_iadd hx hb dX6_image_45 ?_
        refine lv_topi (fun x_6762 ex_6762 => ?_)
        have hG := hG.trans (lt_eq ex_6762)
        have vx_6762 : x_6762.toInt = iK_imageCount.toInt + 1 := ti_add ex_6762 rfl kc_1 (om_4e4fce7e b_iK_imageCount.1) (om_bf06ae8a b_iK_imageCount.2)
        refine va_put (D := (dC, dI)) (ci := 6) (v := .int x_6762) (ty := .int) (C := RX6) (T := TX6) (N := 12) hx hb hts inX6 tyX6 tyX6_ok nmX6 hown hK hP hD hS 0 rfl rfl 5 (by decide) (hts _ wd_194) (fun _ h9 => h9) rfl (by decide +kernel) rfl rfl (Nat.le_of_ble_eq_true rfl) dX6_image_46 (fun H locs hP hD hS => ?_)
        obtain ⟨hP, hD⟩ := wl2 (ws' := [(oc6 oK oR oC oS oT rK_images x_6762 oA oH oL x_6751 iK_latestFault iK_latestPlace), (oc1 oC iC_nodes iC_words iC_chances iC_unsures iC_slips iC_throneNode iC_saidWorth iC_unit rC_kind rC_parts rC_partNodes rC_weights rC_weightSums rC_toldWorths rC_steps rC_below rC_above rC_unsureWords rC_unsureWorths), (oc5 oI0 rI0_worths rI0_order rI0_left), (arI rI0_worths kI0_worths 18 fI0_worths), (arI rI0_order kI0_order 72 fI0_order), (oc5 oI2 rI2_worths rI2_order rI2_left), (arI rI2_worths kI2_worths 18 fI2_worths), (arI rI2_order kI2_order 72 fI2_order), (rK_images, .inl (kK_images, 3, .inr (.inr (.inr (.inr fK_images))))), (oc5 oI1 rI1_worths rI1_order rI1_left), (arI rI1_worths kI1_worths 18 f_6760), (arI rI1_order kI1_order 72 f_6761), (oc5 oS rS_worths rS_order rS_left), (arI rS_worths kS_worths 18 fS_worths), (arI rS_order kS_order 72 fS_order)]) hP hD rfl
        refine lv_aload_n hx hb dX6_image_49 rfl (lv_at hl 0 rfl) ?_
        refine va_get (D := (dC, dI)) (ci := 6) (v := .int x_6762) (C := RX6) (T := TX6) (N := 12) hx hb hts inX6 hown hK hP 0 rfl rfl 5 (by decide) (hts _ wd_194) (fun _ h9 => h9) rfl dX6_image_50 ?_
        refine lv_iconst (v := 1) hx hb dX6_image_53 (by decide) ?_
        refine lv_isub hx hb dX6_image_54 ?_
        refine lv_topi (fun x_6763 ex_6763 => ?_)
        have hG := hG.trans (lt_eq ex_6763)
        have vx_6763 : x_6763.toInt = iK_imageCount.toInt := om_b1b8516a (ti_sub ex_6763 vx_6762 kc_1 (om_df8c7ace b_iK_imageCount.1) (om_b632e1fc b_iK_imageCount.2))
        exact wq_i hx hb hr (cI x_6763) ⟨⟨trivial, trivial⟩, (cI_of x_6763)⟩ (fun t ht hW => ⟨x_6762, x_6751, fI0_worths, fI0_order, f_6760, f_6761, fI2_worths, fI2_order, ⟨(om_83b90de5 b_iK_imageCount.1 vx_6762), (om_441f7b60 gc_6755 vx_6762)⟩, a_fI0_order, a_f_6761, a_fI2_order, (cI_tup hG), Bw.to (hP.sub [0, 1, 12, 13, 14, 2, 3, 4, 9, 10, 11, 5, 6, 7, 8] rfl) (hD.sub [0, 1, 12, 13, 14, 2, 3, 4, 9, 10, 11, 5, 6, 7, 8] (by decide) rfl) (hK.sub [7, 8, 0, 1, 5, 6, 2, 3, 4] rfl) ht hW⟩) hS dX6_image_55 hlocks
      · skip
        have hG := hG.trans (if_neg (show ¬ iK_imageCount = (0 : Int32) by rw [fz_eq, kc_0]; omega))
        have hG := hG.trans (if_neg (show ¬ iK_imageCount = (1 : Int32) by rw [fz_eq, kc_1]; omega))
        rw [show fK_images iK_imageCount.toNatClampNeg = some oI2 from (show iK_imageCount.toNatClampNeg = 2 from by have q := ti_cl (x := iK_imageCount) rfl (by omega); omega) ▸ r_I2]
        refine W.eq (g2 := F0 m 32 ls [.ref oI2]) rfl ?_
        refine lv_aload_n hx hb dX6_image_32 rfl (lv_at hl 0 rfl) ?_
        refine va_get (D := (dC, dI)) (ci := 6) (v := .ref oS) (C := RX6) (T := TX6) (N := 12) hx hb hts inX6 hown hK hP 0 rfl rfl 2 (by decide) (hts _ wd_24) (fun _ h9 => h9) rfl dX6_image_33 ?_
        have hFc := va_free (wc := [(oc5 oI2 rI2_worths rI2_order rI2_left), (arI rI2_worths kI2_worths 18 fI2_worths), (arI rI2_order kI2_order 72 fI2_order), (oc5 oS rS_worths rS_order rS_left), (arI rS_worths kS_worths 18 fS_worths), (arI rS_order kS_order 72 fS_order)]) hD hS hA [11, 12, 13, 2, 3, 4] rfl
        refine va_callv (va_runV (As := [.ref oS]) (rest := []) ⟨hx, hb, hml, hown, hts⟩ (tX5_copyFrom l dC dI _ oI2 rI2_worths fI2_worths kI2_worths rI2_order fI2_order kI2_order rI2_left oS rS_worths fS_worths kS_worths rS_order fS_order kS_order rS_left a_fI2_order a_fS_order) (cwV 1 hts (wd_V wd_1011 wd_1012 wd_1013 wd_23 (wd_c wd_1014)) rfl rfl rfl dv_yX5_copyFrom_1 ⟨Nat.le_of_ble_eq_true rfl, Nat.le_of_ble_eq_true rfl⟩) ⟨Pw.fb, recvX5 hK hP (q0 := 11) rfl, fun U hU hW => Pw.to (hP.sub [11, 12, 13, 2, 3, 4] rfl) (hD.sub [11, 12, 13, 2, 3, 4] (by decide) rfl) (hK.sub [6, 7, 0, 1] rfl) hE hS hFc hU hW⟩ rfl rfl hl.1 rfl (lv_room (Nat.le_of_ble_eq_true rfl)) dX6_image_36 ⟨Nat.le_of_ble_eq_true rfl, Nat.le_of_ble_eq_true rfl⟩) hS (fun q _ h => hFc q h) hFc (fun u t H locs ht hvm hw hB hz1 hk1 hS => ?_)
        refine ex_2_2 hB (fun f_6764 f_6765 a_f_6765 e_f_6764_0 hB => ?_)
        obtain ⟨hP, hD, hK⟩ := Bw.go (ws' := [(oc6 oK oR oC oS oT rK_images iK_imageCount oA oH oL x_6751 iK_latestFault iK_latestPlace), (oc1 oC iC_nodes iC_words iC_chances iC_unsures iC_slips iC_throneNode iC_saidWorth iC_unit rC_kind rC_parts rC_partNodes rC_weights rC_weightSums rC_toldWorths rC_steps rC_below rC_above rC_unsureWords rC_unsureWorths), (oc5 oI0 rI0_worths rI0_order rI0_left), (arI rI0_worths kI0_worths 18 fI0_worths), (arI rI0_order kI0_order 72 fI0_order), (oc5 oI1 rI1_worths rI1_order rI1_left), (arI rI1_worths kI1_worths 18 fI1_worths), (arI rI1_order kI1_order 72 fI1_order), (rK_images, .inl (kK_images, 3, .inr (.inr (.inr (.inr fK_images))))), (oc5 oI2 rI2_worths rI2_order rI2_left), (arI rI2_worths kI2_worths 18 f_6764), (arI rI2_order kI2_order 72 f_6765), (oc5 oS rS_worths rS_order rS_left), (arI rS_worths kS_worths 18 fS_worths), (arI rS_order kS_order 72 fS_order)]) (tys' := [(kI0_worths, .int), (kI0_order, .int), (kI1_worths, .int), (kI1_order, .int), (kK_images, .object "KingHears$Stand"), (kI2_worths, .int), (kI2_order, .int), (kS_worths, .int), (kS_order, .int)]) hB rfl ht hvm hP hD hK [11, 12, 13, 2, 3, 4] [0, 1, 5, 6, 7, 8, 9, 10, 14] rfl (by decide) (by decide) [2, 3, 4, 5, 8] hk1 hFc rfl rfl rfl
        clear hz1 hk1 hvm ht hB
        have hG := hG.trans (un2_eq e_f_6764_0)
        refine lv_aload_n hx hb dX6_image_39 rfl (lv_at hl 0 rfl) ?_
        refine lv_dup hx hb dX6_image_40 rfl ?_
        refine va_get (D := (dC, dI)) (ci := 6) (v := .int iK_imageCount) (C := RX6) (T := TX6) (N := 12) hx hb hts inX6 hown hK hP 0 rfl rfl 5 (by decide) (hts _ wd_194) (fun _ h9 => h9) rfl dX6_image_41 ?_
        refine lv_iconst (v := 1) hx hb dX6_image_44 (by decide) ?_
        refine lv_iadd hx hb dX6_image_45 ?_
        refine lv_topi (fun x_6766 ex_6766 => ?_)
        have hG := hG.trans (lt_eq ex_6766)
        have vx_6766 : x_6766.toInt = iK_imageCount.toInt + 1 := ti_add ex_6766 rfl kc_1 (om_4e4fce7e b_iK_imageCount.1) (om_bf06ae8a b_iK_imageCount.2)
        refine va_put (D := (dC, dI)) (ci := 6) (v := .int x_6766) (ty := .int) (C := RX6) (T := TX6) (N := 12) hx hb hts inX6 tyX6 tyX6_ok nmX6 hown hK hP hD hS 0 rfl rfl 5 (by decide) (hts _ wd_194) (fun _ h9 => h9) rfl (by decide +kernel) rfl rfl (Nat.le_of_ble_eq_true rfl) dX6_image_46 (fun H locs hP hD hS => ?_)
        obtain ⟨hP, hD⟩ := wl2 (ws' := [(oc6 oK oR oC oS oT rK_images x_6766 oA oH oL x_6751 iK_latestFault iK_latestPlace), (oc1 oC iC_nodes iC_words iC_chances iC_unsures iC_slips iC_throneNode iC_saidWorth iC_unit rC_kind rC_parts rC_partNodes rC_weights rC_weightSums rC_toldWorths rC_steps rC_below rC_above rC_unsureWords rC_unsureWorths), (oc5 oI0 rI0_worths rI0_order rI0_left), (arI rI0_worths kI0_worths 18 fI0_worths), (arI rI0_order kI0_order 72 fI0_order), (oc5 oI1 rI1_worths rI1_order rI1_left), (arI rI1_worths kI1_worths 18 fI1_worths), (arI rI1_order kI1_order 72 fI1_order), (rK_images, .inl (kK_images, 3, .inr (.inr (.inr (.inr fK_images))))), (oc5 oI2 rI2_worths rI2_order rI2_left), (arI rI2_worths kI2_worths 18 f_6764), (arI rI2_order kI2_order 72 f_6765), (oc5 oS rS_worths rS_order rS_left), (arI rS_worths kS_worths 18 fS_worths), (arI rS_order kS_order 72 fS_order)]) hP hD rfl
        refine lv_aload_n hx hb dX6_image_49 rfl (lv_at hl 0 rfl) ?_
        refine va_get (D := (dC, dI)) (ci := 6) (v := .int x_6766) (C := RX6) (T := TX6) (N := 12) hx hb hts inX6 hown hK hP 0 rfl rfl 5 (by decide) (hts _ wd_194) (fun _ h9 => h9) rfl dX6_image_50 ?_
        refine lv_iconst (v := 1) hx hb dX6_image_53 (by decide) ?_
        refine lv_isub hx hb dX6_image_54 ?_
        refine lv_topi (fun x_6767 ex_6767 => ?_)
        have hG := hG.trans (lt_eq ex_6767)
        have vx_6767 : x_6767.toInt = iK_imageCount.toInt := om_b1b8516a (ti_sub ex_6767 vx_6766 kc_1 (om_df8c7ace b_iK_imageCount.1) (om_b632e1fc b_iK_imageCount.2))
        exact wq_i hx hb hr (cI x_6767) ⟨⟨trivial, trivial⟩, (cI_of x_6767)⟩ (fun t ht hW => ⟨x_6766, x_6751, fI0_worths, fI0_order, fI1_worths, fI1_order, f_6764, f_6765, ⟨(om_83b90de5 b_iK_imageCount.1 vx_6766), (om_441f7b60 gc_6755 vx_6766)⟩, a_fI0_order, a_fI1_order, a_f_6765, (cI_tup hG), Bw.to (hP.sub [0, 1, 12, 13, 14, 2, 3, 4, 5, 6, 7, 9, 10, 11, 8] rfl) (hD.sub [0, 1, 12, 13, 14, 2, 3, 4, 5, 6, 7, 9, 10, 11, 8] (by decide) rfl) (hK.sub [7, 8, 0, 1, 2, 3, 5, 6, 4] rfl) ht hW⟩) hS dX6_image_55 hlocks
    · skip
      have hG := hG.trans (if_neg c_6755)
      have gc_6755 := ti_nlt c_6755 rfl kc_3
      refine lv_aload_n hx hb dX6_image_17 rfl (lv_at hl 0 rfl) ?_
      refine lv_iconst (v := 3) hx hb dX6_image_18 (by decide) ?_
      have hMs := ml_of hD [true, false, false, false, false, false, false, false, false, false, false, false, false, false, false] (wc := [(oc6 oK oR oC oS oT rK_images iK_imageCount oA oH oL x_6751 iK_latestFault iK_latestPlace)]) rfl
      have hFc := va_freeM hD hS hA _ hMs
      refine va_calli (va_runV (As := [.int 3]) (rest := []) ⟨hx, hb, hml, hown, hts⟩ (tX6_refuse l dC dI _ oK oR oC oS oT rK_images iK_imageCount oA oH oL x_6751 iK_latestFault iK_latestPlace 3 b_iK_imageCount) (cwV 1 hts (wd_V wd_197 wd_198 wd_199 wd_2 (wd_c wd_200)) rfl rfl rfl dv_yX6_refuse_1 ⟨Nat.le_of_ble_eq_true rfl, Nat.le_of_ble_eq_true rfl⟩) ⟨Pw.fb, recvX6 hK hP (q0 := 0) rfl, fun U hU hW => Pw.to (hP.ms _ hMs) (hD.ms _ hMs) (hK.ms [false, false, false, false, false, false, false, false, false] rfl) hE hS hFc hU hW⟩ rfl rfl hl.1 rfl (lv_room (Nat.le_of_ble_eq_true rfl)) dX6_image_19 ⟨Nat.le_of_ble_eq_true rfl, Nat.le_of_ble_eq_true rfl⟩) hS (fun q _ h => hFc q h) hFc (fun r u t H locs ht hvm hw hB hz1 hk1 hS => ?_)
      have hru9 := hw.2
      have hw := hw.1
      refine ex_1_1 hB (fun x_6768 e_x_6768_0 hB => ?_)
      obtain ⟨hP, hD⟩ := Bw.goN (ws' := [(oc6 oK oR oC oS oT rK_images iK_imageCount oA oH oL x_6768 iK_latestFault iK_latestPlace), (oc1 oC iC_nodes iC_words iC_chances iC_unsures iC_slips iC_throneNode iC_saidWorth iC_unit rC_kind rC_parts rC_partNodes rC_weights rC_weightSums rC_toldWorths rC_steps rC_below rC_above rC_unsureWords rC_unsureWorths), (oc5 oS rS_worths rS_order rS_left), (arI rS_worths kS_worths 18 fS_worths), (arI rS_order kS_order 72 fS_order), (oc5 oI0 rI0_worths rI0_order rI0_left), (arI rI0_worths kI0_worths 18 fI0_worths), (arI rI0_order kI0_order 72 fI0_order), (oc5 oI1 rI1_worths rI1_order rI1_left), (arI rI1_worths kI1_worths 18 fI1_worths), (arI rI1_order kI1_order 72 fI1_order), (oc5 oI2 rI2_worths rI2_order rI2_left), (arI rI2_worths kI2_worths 18 fI2_worths), (arI rI2_order kI2_order 72 fI2_order), (rK_images, .inl (kK_images, 3, .inr (.inr (.inr (.inr fK_images)))))]) hB rfl ht hP hD _ hMs hk1 hFc rfl
      clear hz1 hk1 hvm ht hB hMs
      rw [← hru9] at e_x_6768_0
      obtain ⟨x_6769, rfl⟩ : ∃ z, z = r := ⟨_, rfl⟩
      have hG := hG.trans (un2_eq e_x_6768_0)
      have ux_6769 := hw.2
      exact wq_i hx hb hr (cI x_6769) ⟨⟨trivial, trivial⟩, (cI_of x_6769)⟩ (fun t ht hW => ⟨iK_imageCount, x_6768, fI0_worths, fI0_order, fI1_worths, fI1_order, fI2_worths, fI2_order, b_iK_imageCount, a_fI0_order, a_fI1_order, a_fI2_order, (cI_tup hG), Bw.to hP hD hK ht hW⟩) hS dX6_image_22 hlocks
  · skip
    have hG := hG.trans (un2_eq e_x_6751_0)
    have hG := hG.trans (if_neg (by decide))
    refine lv_if_eq (tgt := 9) hx hb dX6_image_4 (by decide) (fun c => absurd c (by decide)) (fun _ => ?_)
    refine lv_iconst (v := (-1)) hx hb dX6_image_7 (by decide) ?_
    exact wq_i hx hb hr (cI (-1)) ⟨⟨trivial, trivial⟩, (cI_of (-1))⟩ (fun t ht hW => ⟨iK_imageCount, x_6751, fI0_worths, fI0_order, fI1_worths, fI1_order, fI2_worths, fI2_order, b_iK_imageCount, a_fI0_order, a_fI1_order, a_fI2_order, (cI_tup hG), Bw.to hP hD hK ht hW⟩) hS dX6_image_8 hlocks
set_option maxHeartbeats 4000000 in
set_option maxRecDepth 100000 in
theorem tX6_back (l : Launch) (dC : Nat → ClassId) (dI : Nat → Nat → Nat) (sz : Nat) (oK : Nat) (oR : Nat) (oC : Nat) (oS : Nat) (oT : Nat) (rK_images : Nat) (iK_imageCount : Int32) (oA : Nat) (oH : Nat) (oL : Nat) (iK_refusal : Int32) (iK_latestFault : Int32) (iK_latestPlace : Int32) (rS_worths : Nat) (fS_worths : Nat → Int32) (kS_worths : ClassId) (rS_order : Nat) (fS_order : Nat → Int32) (kS_order : ClassId) (rS_left : Nat) (iA_count : Int32) (rA_nodes : Nat) (rA_olds : Nat) (rA_says : Nat) (oI0 : Nat) (rI0_worths : Nat) (fI0_worths : Nat → Int32) (kI0_worths : ClassId) (rI0_order : Nat) (fI0_order : Nat → Int32) (kI0_order : ClassId) (rI0_left : Nat) (oI1 : Nat) (rI1_worths : Nat) (fI1_worths : Nat → Int32) (kI1_worths : ClassId) (rI1_order : Nat) (fI1_order : Nat → Int32) (kI1_order : ClassId) (rI1_left : Nat) (oI2 : Nat) (rI2_worths : Nat) (fI2_worths : Nat → Int32) (kI2_worths : ClassId) (rI2_order : Nat) (fI2_order : Nat → Int32) (kI2_order : ClassId) (rI2_left : Nat) (kK_images : ClassId) (fK_images : Nat → Option Nat) (p0 : Int32) (b_iK_imageCount : 0 ≤ iK_imageCount.toInt ∧ iK_imageCount.toInt ≤ 3) (a_fS_order : ∀ j : Nat, j < 72 → 0 ≤ (fS_order j).toInt ∧ (fS_order j).toInt ≤ 3) (b_iA_count : 0 ≤ iA_count.toInt ∧ iA_count.toInt ≤ 16) (a_fI0_order : ∀ j : Nat, j < 72 → 0 ≤ (fI0_order j).toInt ∧ (fI0_order j).toInt ≤ 3) (a_fI1_order : ∀ j : Nat, j < 72 → 0 ≤ (fI1_order j).toInt ∧ (fI1_order j).toInt ≤ 3) (a_fI2_order : ∀ j : Nat, j < 72 → 0 ≤ (fI2_order j).toInt ∧ (fI2_order j).toInt ≤ 3) (r_I0 : fK_images 0 = some oI0) (r_I1 : fK_images 1 = some oI1) (r_I2 : fK_images 2 = some oI2)  : Met l yX6_back (Cond.code yX6_back cX6_back 2 (some .boolean) :: wG) ({ frames := 2, cells := 0, slots := 0, locals := 85 }) (va_Pc [.ref oK, .int p0] (Pw dC dI sz [(oc6 oK oR oC oS oT rK_images iK_imageCount oA oH oL iK_refusal iK_latestFault iK_latestPlace), (oc5 oS rS_worths rS_order rS_left), (arI rS_worths kS_worths 18 fS_worths), (arI rS_order kS_order 72 fS_order), (oc0 oA iA_count rA_nodes rA_olds rA_says), (oc5 oI0 rI0_worths rI0_order rI0_left), (arI rI0_worths kI0_worths 18 fI0_worths), (arI rI0_order kI0_order 72 fI0_order), (oc5 oI1 rI1_worths rI1_order rI1_left), (arI rI1_worths kI1_worths 18 fI1_worths), (arI rI1_order kI1_order 72 fI1_order), (oc5 oI2 rI2_worths rI2_order rI2_left), (arI rI2_worths kI2_worths 18 fI2_worths), (arI rI2_order kI2_order 72 fI2_order), (rK_images, .inl (kK_images, 3, .inr (.inr (.inr (.inr fK_images)))))] [(kS_worths, .int), (kS_order, .int), (kI0_worths, .int), (kI0_order, .int), (kI1_worths, .int), (kI1_order, .int), (kI2_worths, .int), (kI2_order, .int), (kK_images, .object "KingHears$Stand")])) (va_Qi (fun (r : Int32) (u : Nat) => ((r = 0 ∨ r = 1) ∧ True) ∧ r = Int32.ofNat u) (fun (u : Nat) (t : State) => ∃ (niK_refusal : Int32) (nfS_worths : Nat → Int32) (nfS_order : Nat → Int32) (niA_count : Int32), (0 ≤ niK_refusal.toInt ∧ niK_refusal.toInt ≤ 1) ∧ (∀ j : Nat, j < 72 → 0 ≤ (nfS_order j).toInt ∧ (nfS_order j).toInt ≤ 3) ∧ (0 ≤ niA_count.toInt ∧ niA_count.toInt ≤ 16) ∧ (PX6_back iK_imageCount fS_worths fS_order iA_count fI0_worths fI0_order fI1_worths fI1_order fI2_worths fI2_order p0 = (Int32.ofNat u, niK_refusal, nfS_worths, nfS_order, niA_count)) ∧ Bw dC dI (va_A [(oc6 oK oR oC oS oT rK_images iK_imageCount oA oH oL iK_refusal iK_latestFault iK_latestPlace), (oc5 oS rS_worths rS_order rS_left), (arI rS_worths kS_worths 18 fS_worths), (arI rS_order kS_order 72 fS_order), (oc0 oA iA_count rA_nodes rA_olds rA_says), (oc5 oI0 rI0_worths rI0_order rI0_left), (arI rI0_worths kI0_worths 18 fI0_worths), (arI rI0_order kI0_order 72 fI0_order), (oc5 oI1 rI1_worths rI1_order rI1_left), (arI rI1_worths kI1_worths 18 fI1_worths), (arI rI1_order kI1_order 72 fI1_order), (oc5 oI2 rI2_worths rI2_order rI2_left), (arI rI2_worths kI2_worths 18 fI2_worths), (arI rI2_order kI2_order 72 fI2_order), (rK_images, .inl (kK_images, 3, .inr (.inr (.inr (.inr fK_images)))))] sz) [(oc6 oK oR oC oS oT rK_images iK_imageCount oA oH oL niK_refusal iK_latestFault iK_latestPlace), (oc5 oS rS_worths rS_order rS_left), (arI rS_worths kS_worths 18 nfS_worths), (arI rS_order kS_order 72 nfS_order), (oc0 oA niA_count rA_nodes rA_olds rA_says), (oc5 oI0 rI0_worths rI0_order rI0_left), (arI rI0_worths kI0_worths 18 fI0_worths), (arI rI0_order kI0_order 72 fI0_order), (oc5 oI1 rI1_worths rI1_order rI1_left), (arI rI1_worths kI1_worths 18 fI1_worths), (arI rI1_order kI1_order 72 fI1_order), (oc5 oI2 rI2_worths rI2_order rI2_left), (arI rI2_worths kI2_worths 18 fI2_worths), (arI rI2_order kI2_order 72 fI2_order), (rK_images, .inl (kK_images, 3, .inr (.inr (.inr (.inr fK_images)))))] [(kS_worths, .int), (kS_order, .int), (kI0_worths, .int), (kI0_order, .int), (kI1_worths, .int), (kI1_order, .int), (kI2_worths, .int), (kI2_order, .int), (kK_images, .object "KingHears$Stand")] t) (va_A [(oc6 oK oR oC oS oT rK_images iK_imageCount oA oH oL iK_refusal iK_latestFault iK_latestPlace), (oc5 oS rS_worths rS_order rS_left), (arI rS_worths kS_worths 18 fS_worths), (arI rS_order kS_order 72 fS_order), (oc0 oA iA_count rA_nodes rA_olds rA_says), (oc5 oI0 rI0_worths rI0_order rI0_left), (arI rI0_worths kI0_worths 18 fI0_worths), (arI rI0_order kI0_order 72 fI0_order), (oc5 oI1 rI1_worths rI1_order rI1_left), (arI rI1_worths kI1_worths 18 fI1_worths), (arI rI1_order kI1_order 72 fI1_order), (oc5 oI2 rI2_worths rI2_order rI2_left), (arI rI2_worths kI2_worths 18 fI2_worths), (arI rI2_order kI2_order 72 fI2_order), (rK_images, .inl (kK_images, 3, .inr (.inr (.inr (.inr fK_images)))))] sz)) 0 0 (va_A [(oc6 oK oR oC oS oT rK_images iK_imageCount oA oH oL iK_refusal iK_latestFault iK_latestPlace), (oc5 oS rS_worths rS_order rS_left), (arI rS_worths kS_worths 18 fS_worths), (arI rS_order kS_order 72 fS_order), (oc0 oA iA_count rA_nodes rA_olds rA_says), (oc5 oI0 rI0_worths rI0_order rI0_left), (arI rI0_worths kI0_worths 18 fI0_worths), (arI rI0_order kI0_order 72 fI0_order), (oc5 oI1 rI1_worths rI1_order rI1_left), (arI rI1_worths kI1_worths 18 fI1_worths), (arI rI1_order kI1_order 72 fI1_order), (oc5 oI2 rI2_worths rI2_order rI2_left), (arI rI2_worths kI2_worths 18 fI2_worths), (arI rI2_order kI2_order 72 fI2_order), (rK_images, .inl (kK_images, 3, .inr (.inr (.inr (.inr fK_images)))))] sz) := by
  refine Met.ofW (cc := cX6_back) (maxL := 2) (ret := (some .boolean)) pnX6 rfl ?_
  intro p e s m args below meth c s₁ B hml hv
  obtain ⟨rfl, hsz, hP, hK, hD0, hE⟩ := hv
  have hx := B.exec
  have hb := B.bytes
  have hr := B.returns
  have hts : ∀ w ∈ wG, w.before ([.ref oK, .int p0] : List Value).toArray s = true := fun w h => atoms_spec (ws := Cond.code yX6_back cX6_back 2 (some .boolean) :: wG) B.pre w (List.mem_cons_of_mem _ h)
  have hown : s.vm.findClass RX6 = some m.cls := own_of B.named rfl
  have hlocks := B.notSynchronized
  subst hsz
  have hD := hD0.self (sz := s.heap.size)
  generalize hAe : va_A [(oc6 oK oR oC oS oT rK_images iK_imageCount oA oH oL iK_refusal iK_latestFault iK_latestPlace), (oc5 oS rS_worths rS_order rS_left), (arI rS_worths kS_worths 18 fS_worths), (arI rS_order kS_order 72 fS_order), (oc0 oA iA_count rA_nodes rA_olds rA_says), (oc5 oI0 rI0_worths rI0_order rI0_left), (arI rI0_worths kI0_worths 18 fI0_worths), (arI rI0_order kI0_order 72 fI0_order), (oc5 oI1 rI1_worths rI1_order rI1_left), (arI rI1_worths kI1_worths 18 fI1_worths), (arI rI1_order kI1_order 72 fI1_order), (oc5 oI2 rI2_worths rI2_order rI2_left), (arI rI2_worths kI2_worths 18 fI2_worths), (arI rI2_order kI2_order 72 fI2_order), (rK_images, .inl (kK_images, 3, .inr (.inr (.inr (.inr fK_images)))))] s.heap.size = A at hD hE ⊢
  have hA : ∀ q : Nat, s.heap.size ≤ q → A q := fun q h => by rw [← hAe]; exact Or.inr h
  have hS : va_S A s.heap s.heap [] := va_S.rf
  have hl := lv_entry ([.ref oK, .int p0]) (n := 2) (Nat.le_of_ble_eq_true rfl)
  rw [lg_entry_eq]
  generalize (lg_sl ([.ref oK, .int p0]) ++ List.replicate (2 - (lg_sl ([.ref oK, .int p0])).length) Slot.unset).toArray = ls at hl ⊢
  have hl : lv_has ls 2 [(0, .ref oK), (1, .int p0)] := hl
  have hG := PX6_back_eq iK_imageCount fS_worths fS_order iA_count fI0_worths fI0_order fI1_worths fI1_order fI2_worths fI2_order p0
  refine lv_iload_n hx hb dX6_back_0 rfl (lv_at hl 1 rfl) ?_
  refine lv_if_lt (tgt := 12) hx hb dX6_back_1 (by decide) (fun c_6782 => ?_) (fun c_6782 => ?_)
  · skip
    have hG := hG.trans (if_pos c_6782)
    have gc_6782 := ti_lt c_6782 rfl kc_0
    refine lv_aload_n hx hb dX6_back_12 rfl (lv_at hl 0 rfl) ?_
    refine lv_iconst (v := 1) hx hb dX6_back_13 (by decide) ?_
    refine va_put (D := (dC, dI)) (ci := 6) (v := .int 1) (ty := .int) (C := RX6) (T := TX6) (N := 12) hx hb hts inX6 tyX6 tyX6_ok nmX6 hown hK hP hD hS 0 rfl rfl 9 (by decide) (hts _ wd_195) (fun _ h9 => h9) rfl (by decide +kernel) rfl rfl (Nat.le_of_ble_eq_true rfl) dX6_back_14 (fun H locs hP hD hS => ?_)
    obtain ⟨hP, hD⟩ := wl2 (ws' := [(oc6 oK oR oC oS oT rK_images iK_imageCount oA oH oL 1 iK_latestFault iK_latestPlace), (oc5 oS rS_worths rS_order rS_left), (arI rS_worths kS_worths 18 fS_worths), (arI rS_order kS_order 72 fS_order), (oc0 oA iA_count rA_nodes rA_olds rA_says), (oc5 oI0 rI0_worths rI0_order rI0_left), (arI rI0_worths kI0_worths 18 fI0_worths), (arI rI0_order kI0_order 72 fI0_order), (oc5 oI1 rI1_worths rI1_order rI1_left), (arI rI1_worths kI1_worths 18 fI1_worths), (arI rI1_order kI1_order 72 fI1_order), (oc5 oI2 rI2_worths rI2_order rI2_left), (arI rI2_worths kI2_worths 18 fI2_worths), (arI rI2_order kI2_order 72 fI2_order), (rK_images, .inl (kK_images, 3, .inr (.inr (.inr (.inr fK_images)))))]) hP hD rfl
    refine lv_iconst (v := 0) hx hb dX6_back_17 (by decide) ?_
    exact wq_z (v := 0) hx hb hr rfl (cI 0) ⟨⟨Or.inl rfl, trivial⟩, (cI_of 0)⟩ (fun t ht hW => ⟨1, fS_worths, fS_order, iA_count, (by decide), a_fS_order, b_iA_count, (cI_tup hG), Bw.to hP hD hK ht hW⟩) hS dX6_back_18 hlocks
  · skip
    have hG := hG.trans (if_neg c_6782)
    have gc_6782 := ti_nlt c_6782 rfl kc_0
    refine lv_iload_n hx hb dX6_back_4 rfl (lv_at hl 1 rfl) ?_
    refine lv_aload_n hx hb dX6_back_5 rfl (lv_at hl 0 rfl) ?_
    refine va_get (D := (dC, dI)) (ci := 6) (v := .int iK_imageCount) (C := RX6) (T := TX6) (N := 12) hx hb hts inX6 hown hK hP 0 rfl rfl 5 (by decide) (hts _ wd_194) (fun _ h9 => h9) rfl dX6_back_6 ?_
    refine lv_icmp_lt (tgt := 19) hx hb dX6_back_9 (by decide) (fun c_6783 => ?_) (fun c_6783 => ?_)
    · skip
      have hG := hG.trans (if_pos c_6783)
      have gc_6783 := ti_lt c_6783 rfl rfl
      refine lv_aload_n hx hb dX6_back_19 rfl (lv_at hl 0 rfl) ?_
      refine va_get (D := (dC, dI)) (ci := 6) (v := .ref oS) (C := RX6) (T := TX6) (N := 12) hx hb hts inX6 hown hK hP 0 rfl rfl 2 (by decide) (hts _ wd_24) (fun _ h9 => h9) rfl dX6_back_20 ?_
      refine lv_aload_n hx hb dX6_back_23 rfl (lv_at hl 0 rfl) ?_
      refine va_get (D := (dC, dI)) (ci := 6) (v := .ref rK_images) (C := RX6) (T := TX6) (N := 12) hx hb hts inX6 hown hK hP 0 rfl rfl 4 (by decide) (hts _ wd_26) (fun _ h9 => h9) rfl dX6_back_24 ?_
      refine lv_iload_n hx hb dX6_back_27 rfl (lv_at hl 1 rfl) ?_
      refine va_aldq (C := "KingHears$Stand") hx hb hK hP 14 8 rfl rfl (ti_in rfl gc_6782 (om_543fbe6f b_iK_imageCount.2 gc_6783)) dX6_back_28 ?_
      rcases (show p0.toInt = 0 ∨ p0.toInt = 1 ∨ p0.toInt = 2 by omega) with h_s | h_s | h_s
      · skip
        have hG := hG.trans (if_pos (show p0 = (0 : Int32) by rw [fz_eq, kc_0]; omega))
        rw [show fK_images p0.toNatClampNeg = some oI0 from (show p0.toNatClampNeg = 0 from by have q := ti_cl (x := p0) rfl (by omega); omega) ▸ r_I0]
        refine W.eq (g2 := F0 m 29 ls [.ref oI0, .ref oS]) rfl ?_
        have hMs := ml_of hD [false, true, true, true, false, true, true, true, false, false, false, false, false, false, false] (wc := [(oc5 oS rS_worths rS_order rS_left), (arI rS_worths kS_worths 18 fS_worths), (arI rS_order kS_order 72 fS_order), (oc5 oI0 rI0_worths rI0_order rI0_left), (arI rI0_worths kI0_worths 18 fI0_worths), (arI rI0_order kI0_order 72 fI0_order)]) rfl
        have hFc := va_freeM hD hS hA _ hMs
        refine va_callv (va_runV (As := [.ref oI0]) (rest := []) ⟨hx, hb, hml, hown, hts⟩ (tX5_copyFrom l dC dI _ oS rS_worths fS_worths kS_worths rS_order fS_order kS_order rS_left oI0 rI0_worths fI0_worths kI0_worths rI0_order fI0_order kI0_order rI0_left a_fS_order a_fI0_order) (cwV 1 hts (wd_V wd_1011 wd_1012 wd_1013 wd_23 (wd_c wd_1014)) rfl rfl rfl dv_yX5_copyFrom_1 ⟨Nat.le_of_ble_eq_true rfl, Nat.le_of_ble_eq_true rfl⟩) ⟨Pw.fb, recvX5 hK hP (q0 := 1) rfl, fun U hU hW => Pw.to (hP.ms _ hMs) (hD.ms _ hMs) (hK.ms [true, true, true, true, false, false, false, false, false] rfl) hE hS hFc hU hW⟩ rfl rfl hl.1 rfl (lv_room (Nat.le_of_ble_eq_true rfl)) dX6_back_29 ⟨Nat.le_of_ble_eq_true rfl, Nat.le_of_ble_eq_true rfl⟩) hS (fun q _ h => hFc q h) hFc (fun u t H locs ht hvm hw hB hz1 hk1 hS => ?_)
        refine ex_2_2 hB (fun f_6784 f_6785 a_f_6785 e_f_6784_0 hB => ?_)
        obtain ⟨hP, hD⟩ := Bw.goN (ws' := [(oc6 oK oR oC oS oT rK_images iK_imageCount oA oH oL iK_refusal iK_latestFault iK_latestPlace), (oc5 oS rS_worths rS_order rS_left), (arI rS_worths kS_worths 18 f_6784), (arI rS_order kS_order 72 f_6785), (oc0 oA iA_count rA_nodes rA_olds rA_says), (oc5 oI0 rI0_worths rI0_order rI0_left), (arI rI0_worths kI0_worths 18 fI0_worths), (arI rI0_order kI0_order 72 fI0_order), (oc5 oI1 rI1_worths rI1_order rI1_left), (arI rI1_worths kI1_worths 18 fI1_worths), (arI rI1_order kI1_order 72 fI1_order), (oc5 oI2 rI2_worths rI2_order rI2_left), (arI rI2_worths kI2_worths 18 fI2_worths), (arI rI2_order kI2_order 72 fI2_order), (rK_images, .inl (kK_images, 3, .inr (.inr (.inr (.inr fK_images)))))]) hB rfl ht hP hD _ hMs hk1 hFc rfl
        clear hz1 hk1 hvm ht hB hMs
        have hG := hG.trans (un2_eq e_f_6784_0)
        refine lv_aload_n hx hb dX6_back_32 rfl (lv_at hl 0 rfl) ?_
        refine va_get (D := (dC, dI)) (ci := 6) (v := .ref oA) (C := RX6) (T := TX6) (N := 12) hx hb hts inX6 hown hK hP 0 rfl rfl 6 (by decide) (hts _ wd_30) (fun _ h9 => h9) rfl dX6_back_33 ?_
        have hMs := ml_of hD [false, false, false, false, true, false, false, false, false, false, false, false, false, false, false] (wc := [(oc0 oA iA_count rA_nodes rA_olds rA_says)]) rfl
        have hFc := va_freeM hD hS hA _ hMs
        refine va_callv (va_runV (As := []) (rest := []) ⟨hx, hb, hml, hown, hts⟩ (tX0_forget l dC dI _ oA iA_count rA_nodes rA_olds rA_says b_iA_count) (cwV 0 hts (wd_V wd_370 wd_371 wd_372 wd_29 (wd_c wd_373)) rfl rfl rfl dv_yX0_forget_0 ⟨Nat.le_of_ble_eq_true rfl, Nat.le_of_ble_eq_true rfl⟩) ⟨Pw.fb, recvX0 hK hP (q0 := 4) rfl, fun U hU hW => Pw.to (hP.ms _ hMs) (hD.ms _ hMs) (hK.ms [false, false, false, false, false, false, false, false, false] rfl) hE hS hFc hU hW⟩ rfl rfl hl.1 rfl (lv_room (Nat.le_of_ble_eq_true rfl)) dX6_back_36 ⟨Nat.le_of_ble_eq_true rfl, Nat.le_of_ble_eq_true rfl⟩) hS (fun q _ h => hFc q h) hFc (fun u t H locs ht hvm hw hB hz1 hk1 hS => ?_)
        refine ex_1_2 hB (fun x_6786 b_x_6786 e_x_6786_0 hB => ?_)
        obtain ⟨hP, hD⟩ := Bw.goN (ws' := [(oc6 oK oR oC oS oT rK_images iK_imageCount oA oH oL iK_refusal iK_latestFault iK_latestPlace), (oc5 oS rS_worths rS_order rS_left), (arI rS_worths kS_worths 18 f_6784), (arI rS_order kS_order 72 f_6785), (oc0 oA x_6786 rA_nodes rA_olds rA_says), (oc5 oI0 rI0_worths rI0_order rI0_left), (arI rI0_worths kI0_worths 18 fI0_worths), (arI rI0_order kI0_order 72 fI0_order), (oc5 oI1 rI1_worths rI1_order rI1_left), (arI rI1_worths kI1_worths 18 fI1_worths), (arI rI1_order kI1_order 72 fI1_order), (oc5 oI2 rI2_worths rI2_order rI2_left), (arI rI2_worths kI2_worths 18 fI2_worths), (arI rI2_order kI2_order 72 fI2_order), (rK_images, .inl (kK_images, 3, .inr (.inr (.inr (.inr fK_images)))))]) hB rfl ht hP hD _ hMs hk1 hFc rfl
        clear hz1 hk1 hvm ht hB hMs
        have hG := hG.trans (lt_eq e_x_6786_0.symm)
        refine lv_aload_n hx hb dX6_back_39 rfl (lv_at hl 0 rfl) ?_
        refine lv_iconst (v := 0) hx hb dX6_back_40 (by decide) ?_
        refine va_put (D := (dC, dI)) (ci := 6) (v := .int 0) (ty := .int) (C := RX6) (T := TX6) (N := 12) hx hb hts inX6 tyX6 tyX6_ok nmX6 hown hK hP hD hS 0 rfl rfl 9 (by decide) (hts _ wd_195) (fun _ h9 => h9) rfl (by decide +kernel) rfl rfl (Nat.le_of_ble_eq_true rfl) dX6_back_41 (fun H locs hP hD hS => ?_)
        obtain ⟨hP, hD⟩ := wl2 (ws' := [(oc6 oK oR oC oS oT rK_images iK_imageCount oA oH oL 0 iK_latestFault iK_latestPlace), (oc5 oS rS_worths rS_order rS_left), (arI rS_worths kS_worths 18 f_6784), (arI rS_order kS_order 72 f_6785), (oc0 oA x_6786 rA_nodes rA_olds rA_says), (oc5 oI0 rI0_worths rI0_order rI0_left), (arI rI0_worths kI0_worths 18 fI0_worths), (arI rI0_order kI0_order 72 fI0_order), (oc5 oI1 rI1_worths rI1_order rI1_left), (arI rI1_worths kI1_worths 18 fI1_worths), (arI rI1_order kI1_order 72 fI1_order), (oc5 oI2 rI2_worths rI2_order rI2_left), (arI rI2_worths kI2_worths 18 fI2_worths), (arI rI2_order kI2_order 72 fI2_order), (rK_images, .inl (kK_images, 3, .inr (.inr (.inr (.inr fK_images)))))]) hP hD rfl
        refine lv_iconst (v := 1) hx hb dX6_back_44 (by decide) ?_
        exact wq_z (v := 1) hx hb hr rfl (cI 1) ⟨⟨Or.inr rfl, trivial⟩, (cI_of 1)⟩ (fun t ht hW => ⟨0, f_6784, f_6785, x_6786, (by decide), a_f_6785, ⟨b_x_6786.1, (om_b868baad b_x_6786.2)⟩, (cI_tup hG), Bw.to hP hD hK ht hW⟩) hS dX6_back_45 hlocks
      · skip
        have hG := hG.trans (if_neg (show ¬ p0 = (0 : Int32) by rw [fz_eq, kc_0]; omega))
        have hG := hG.trans (if_pos (show p0 = (1 : Int32) by rw [fz_eq, kc_1]; omega))
        rw [show fK_images p0.toNatClampNeg = some oI1 from (show p0.toNatClampNeg = 1 from by have q := ti_cl (x := p0) rfl (by omega); omega) ▸ r_I1]
        refine W.eq (g2 := F0 m 29 ls [.ref oI1, .ref oS]) rfl ?_
        have hMs := ml_of hD [false, true, true, true, false, false, false, false, true, true, true, false, false, false, false] (wc := [(oc5 oS rS_worths rS_order rS_left), (arI rS_worths kS_worths 18 fS_worths), (arI rS_order kS_order 72 fS_order), (oc5 oI1 rI1_worths rI1_order rI1_left), (arI rI1_worths kI1_worths 18 fI1_worths), (arI rI1_order kI1_order 72 fI1_order)]) rfl
        have hFc := va_freeM hD hS hA _ hMs
        refine va_callv (va_runV (As := [.ref oI1]) (rest := []) ⟨hx, hb, hml, hown, hts⟩ (tX5_copyFrom l dC dI _ oS rS_worths fS_worths kS_worths rS_order fS_order kS_order rS_left oI1 rI1_worths fI1_worths kI1_worths rI1_order fI1_order kI1_order rI1_left a_fS_order a_fI1_order) (cwV 1 hts (wd_V wd_1011 wd_1012 wd_1013 wd_23 (wd_c wd_1014)) rfl rfl rfl dv_yX5_copyFrom_1 ⟨Nat.le_of_ble_eq_true rfl, Nat.le_of_ble_eq_true rfl⟩) ⟨Pw.fb, recvX5 hK hP (q0 := 1) rfl, fun U hU hW => Pw.to (hP.ms _ hMs) (hD.ms _ hMs) (hK.ms [true, true, false, false, true, true, false, false, false] rfl) hE hS hFc hU hW⟩ rfl rfl hl.1 rfl (lv_room (Nat.le_of_ble_eq_true rfl)) dX6_back_29 ⟨Nat.le_of_ble_eq_true rfl, Nat.le_of_ble_eq_true rfl⟩) hS (fun q _ h => hFc q h) hFc (fun u t H locs ht hvm hw hB hz1 hk1 hS => ?_)
        refine ex_2_2 hB (fun f_6787 f_6788 a_f_6788 e_f_6787_0 hB => ?_)
        obtain ⟨hP, hD⟩ := Bw.goN (ws' := [(oc6 oK oR oC oS oT rK_images iK_imageCount oA oH oL iK_refusal iK_latestFault iK_latestPlace), (oc5 oS rS_worths rS_order rS_left), (arI rS_worths kS_worths 18 f_6787), (arI rS_order kS_order 72 f_6788), (oc0 oA iA_count rA_nodes rA_olds rA_says), (oc5 oI0 rI0_worths rI0_order rI0_left), (arI rI0_worths kI0_worths 18 fI0_worths), (arI rI0_order kI0_order 72 fI0_order), (oc5 oI1 rI1_worths rI1_order rI1_left), (arI rI1_worths kI1_worths 18 fI1_worths), (arI rI1_order kI1_order 72 fI1_order), (oc5 oI2 rI2_worths rI2_order rI2_left), (arI rI2_worths kI2_worths 18 fI2_worths), (arI rI2_order kI2_order 72 fI2_order), (rK_images, .inl (kK_images, 3, .inr (.inr (.inr (.inr fK_images)))))]) hB rfl ht hP hD _ hMs hk1 hFc rfl
        clear hz1 hk1 hvm ht hB hMs
        have hG := hG.trans (un2_eq e_f_6787_0)
        refine lv_aload_n hx hb dX6_back_32 rfl (lv_at hl 0 rfl) ?_
        refine va_get (D := (dC, dI)) (ci := 6) (v := .ref oA) (C := RX6) (T := TX6) (N := 12) hx hb hts inX6 hown hK hP 0 rfl rfl 6 (by decide) (hts _ wd_30) (fun _ h9 => h9) rfl dX6_back_33 ?_
        have hMs := ml_of hD [false, false, false, false, true, false, false, false, false, false, false, false, false, false, false] (wc := [(oc0 oA iA_count rA_nodes rA_olds rA_says)]) rfl
        have hFc := va_freeM hD hS hA _ hMs
        refine va_callv (va_runV (As := []) (rest := []) ⟨hx, hb, hml, hown, hts⟩ (tX0_forget l dC dI _ oA iA_count rA_nodes rA_olds rA_says b_iA_count) (cwV 0 hts (wd_V wd_370 wd_371 wd_372 wd_29 (wd_c wd_373)) rfl rfl rfl dv_yX0_forget_0 ⟨Nat.le_of_ble_eq_true rfl, Nat.le_of_ble_eq_true rfl⟩) ⟨Pw.fb, recvX0 hK hP (q0 := 4) rfl, fun U hU hW => Pw.to (hP.ms _ hMs) (hD.ms _ hMs) (hK.ms [false, false, false, false, false, false, false, false, false] rfl) hE hS hFc hU hW⟩ rfl rfl hl.1 rfl (lv_room (Nat.le_of_ble_eq_true rfl)) dX6_back_36 ⟨Nat.le_of_ble_eq_true rfl, Nat.le_of_ble_eq_true rfl⟩) hS (fun q _ h => hFc q h) hFc (fun u t H locs ht hvm hw hB hz1 hk1 hS => ?_)
        refine ex_1_2 hB (fun x_6789 b_x_6789 e_x_6789_0 hB => ?_)
        obtain ⟨hP, hD⟩ := Bw.goN (ws' := [(oc6 oK oR oC oS oT rK_images iK_imageCount oA oH oL iK_refusal iK_latestFault iK_latestPlace), (oc5 oS rS_worths rS_order rS_left), (arI rS_worths kS_worths 18 f_6787), (arI rS_order kS_order 72 f_6788), (oc0 oA x_6789 rA_nodes rA_olds rA_says), (oc5 oI0 rI0_worths rI0_order rI0_left), (arI rI0_worths kI0_worths 18 fI0_worths), (arI rI0_order kI0_order 72 fI0_order), (oc5 oI1 rI1_worths rI1_order rI1_left), (arI rI1_worths kI1_worths 18 fI1_worths), (arI rI1_order kI1_order 72 fI1_order), (oc5 oI2 rI2_worths rI2_order rI2_left), (arI rI2_worths kI2_worths 18 fI2_worths), (arI rI2_order kI2_order 72 fI2_order), (rK_images, .inl (kK_images, 3, .inr (.inr (.inr (.inr fK_images)))))]) hB rfl ht hP hD _ hMs hk1 hFc rfl
        clear hz1 hk1 hvm ht hB hMs
        have hG := hG.trans (lt_eq e_x_6789_0.symm)
        refine lv_aload_n hx hb dX6_back_39 rfl (lv_at hl 0 rfl) ?_
        refine lv_iconst (v := 0) hx hb dX6_back_40 (by decide) ?_
        refine va_put (D := (dC, dI)) (ci := 6) (v := .int 0) (ty := .int) (C := RX6) (T := TX6) (N := 12) hx hb hts inX6 tyX6 tyX6_ok nmX6 hown hK hP hD hS 0 rfl rfl 9 (by decide) (hts _ wd_195) (fun _ h9 => h9) rfl (by decide +kernel) rfl rfl (Nat.le_of_ble_eq_true rfl) dX6_back_41 (fun H locs hP hD hS => ?_)
        obtain ⟨hP, hD⟩ := wl2 (ws' := [(oc6 oK oR oC oS oT rK_images iK_imageCount oA oH oL 0 iK_latestFault iK_latestPlace), (oc5 oS rS_worths rS_order rS_left), (arI rS_worths kS_worths 18 f_6787), (arI rS_order kS_order 72 f_6788), (oc0 oA x_6789 rA_nodes rA_olds rA_says), (oc5 oI0 rI0_worths rI0_order rI0_left), (arI rI0_worths kI0_worths 18 fI0_worths), (arI rI0_order kI0_order 72 fI0_order), (oc5 oI1 rI1_worths rI1_order rI1_left), (arI rI1_worths kI1_worths 18 fI1_worths), (arI rI1_order kI1_order 72 fI1_order), (oc5 oI2 rI2_worths rI2_order rI2_left), (arI rI2_worths kI2_worths 18 fI2_worths), (arI rI2_order kI2_order 72 fI2_order), (rK_images, .inl (kK_images, 3, .inr (.inr (.inr (.inr fK_images)))))]) hP hD rfl
        refine lv_iconst (v := 1) hx hb dX6_back_44 (by decide) ?_
        exact wq_z (v := 1) hx hb hr rfl (cI 1) ⟨⟨Or.inr rfl, trivial⟩, (cI_of 1)⟩ (fun t ht hW => ⟨0, f_6787, f_6788, x_6789, (by decide), a_f_6788, ⟨b_x_6789.1, (om_b868baad b_x_6789.2)⟩, (cI_tup hG), Bw.to hP hD hK ht hW⟩) hS dX6_back_45 hlocks
      · skip
        have hG := hG.trans (if_neg (show ¬ p0 = (0 : Int32) by rw [fz_eq, kc_0]; omega))
        have hG := hG.trans (if_neg (show ¬ p0 = (1 : Int32) by rw [fz_eq, kc_1]; omega))
        rw [show fK_images p0.toNatClampNeg = some oI2 from (show p0.toNatClampNeg = 2 from by have q := ti_cl (x := p0) rfl (by omega); omega) ▸ r_I2]
        refine W.eq (g2 := F0 m 29 ls [.ref oI2, .ref oS]) rfl ?_
        have hMs := ml_of hD [false, true, true, true, false, false, false, false, false, false, false, true, true, true, false] (wc := [(oc5 oS rS_worths rS_order rS_left), (arI rS_worths kS_worths 18 fS_worths), (arI rS_order kS_order 72 fS_order), (oc5 oI2 rI2_worths rI2_order rI2_left), (arI rI2_worths kI2_worths 18 fI2_worths), (arI rI2_order kI2_order 72 fI2_order)]) rfl
        have hFc := va_freeM hD hS hA _ hMs
        refine va_callv (va_runV (As := [.ref oI2]) (rest := []) ⟨hx, hb, hml, hown, hts⟩ (tX5_copyFrom l dC dI _ oS rS_worths fS_worths kS_worths rS_order fS_order kS_order rS_left oI2 rI2_worths fI2_worths kI2_worths rI2_order fI2_order kI2_order rI2_left a_fS_order a_fI2_order) (cwV 1 hts (wd_V wd_1011 wd_1012 wd_1013 wd_23 (wd_c wd_1014)) rfl rfl rfl dv_yX5_copyFrom_1 ⟨Nat.le_of_ble_eq_true rfl, Nat.le_of_ble_eq_true rfl⟩) ⟨Pw.fb, recvX5 hK hP (q0 := 1) rfl, fun U hU hW => Pw.to (hP.ms _ hMs) (hD.ms _ hMs) (hK.ms [true, true, false, false, false, false, true, true, false] rfl) hE hS hFc hU hW⟩ rfl rfl hl.1 rfl (lv_room (Nat.le_of_ble_eq_true rfl)) dX6_back_29 ⟨Nat.le_of_ble_eq_true rfl, Nat.le_of_ble_eq_true rfl⟩) hS (fun q _ h => hFc q h) hFc (fun u t H locs ht hvm hw hB hz1 hk1 hS => ?_)
        refine ex_2_2 hB (fun f_6790 f_6791 a_f_6791 e_f_6790_0 hB => ?_)
        obtain ⟨hP, hD⟩ := Bw.goN (ws' := [(oc6 oK oR oC oS oT rK_images iK_imageCount oA oH oL iK_refusal iK_latestFault iK_latestPlace), (oc5 oS rS_worths rS_order rS_left), (arI rS_worths kS_worths 18 f_6790), (arI rS_order kS_order 72 f_6791), (oc0 oA iA_count rA_nodes rA_olds rA_says), (oc5 oI0 rI0_worths rI0_order rI0_left), (arI rI0_worths kI0_worths 18 fI0_worths), (arI rI0_order kI0_order 72 fI0_order), (oc5 oI1 rI1_worths rI1_order rI1_left), (arI rI1_worths kI1_worths 18 fI1_worths), (arI rI1_order kI1_order 72 fI1_order), (oc5 oI2 rI2_worths rI2_order rI2_left), (arI rI2_worths kI2_worths 18 fI2_worths), (arI rI2_order kI2_order 72 fI2_order), (rK_images, .inl (kK_images, 3, .inr (.inr (.inr (.inr fK_images)))))]) hB rfl ht hP hD _ hMs hk1 hFc rfl
        clear hz1 hk1 hvm ht hB hMs
        have hG := hG.trans (un2_eq e_f_6790_0)
        refine lv_aload_n hx hb dX6_back_32 rfl (lv_at hl 0 rfl) ?_
        refine va_get (D := (dC, dI)) (ci := 6) (v := .ref oA) (C := RX6) (T := TX6) (N := 12) hx hb hts inX6 hown hK hP 0 rfl rfl 6 (by decide) (hts _ wd_30) (fun _ h9 => h9) rfl dX6_back_33 ?_
        have hMs := ml_of hD [false, false, false, false, true, false, false, false, false, false, false, false, false, false, false] (wc := [(oc0 oA iA_count rA_nodes rA_olds rA_says)]) rfl
        have hFc := va_freeM hD hS hA _ hMs
        refine va_callv (va_runV (As := []) (rest := []) ⟨hx, hb, hml, hown, hts⟩ (tX0_forget l dC dI _ oA iA_count rA_nodes rA_olds rA_says b_iA_count) (cwV 0 hts (wd_V wd_370 wd_371 wd_372 wd_29 (wd_c wd_373)) rfl rfl rfl dv_yX0_forget_0 ⟨Nat.le_of_ble_eq_true rfl, Nat.le_of_ble_eq_true rfl⟩) ⟨Pw.fb, recvX0 hK hP (q0 := 4) rfl, fun U hU hW => Pw.to (hP.ms _ hMs) (hD.ms _ hMs) (hK.ms [false, false, false, false, false, false, false, false, false] rfl) hE hS hFc hU hW⟩ rfl rfl hl.1 rfl (lv_room (Nat.le_of_ble_eq_true rfl)) dX6_back_36 ⟨Nat.le_of_ble_eq_true rfl, Nat.le_of_ble_eq_true rfl⟩) hS (fun q _ h => hFc q h) hFc (fun u t H locs ht hvm hw hB hz1 hk1 hS => ?_)
        refine ex_1_2 hB (fun x_6792 b_x_6792 e_x_6792_0 hB => ?_)
        obtain ⟨hP, hD⟩ := Bw.goN (ws' := [(oc6 oK oR oC oS oT rK_images iK_imageCount oA oH oL iK_refusal iK_latestFault iK_latestPlace), (oc5 oS rS_worths rS_order rS_left), (arI rS_worths kS_worths 18 f_6790), (arI rS_order kS_order 72 f_6791), (oc0 oA x_6792 rA_nodes rA_olds rA_says), (oc5 oI0 rI0_worths rI0_order rI0_left), (arI rI0_worths kI0_worths 18 fI0_worths), (arI rI0_order kI0_order 72 fI0_order), (oc5 oI1 rI1_worths rI1_order rI1_left), (arI rI1_worths kI1_worths 18 fI1_worths), (arI rI1_order kI1_order 72 fI1_order), (oc5 oI2 rI2_worths rI2_order rI2_left), (arI rI2_worths kI2_worths 18 fI2_worths), (arI rI2_order kI2_order 72 fI2_order), (rK_images, .inl (kK_images, 3, .inr (.inr (.inr (.inr fK_images)))))]) hB rfl ht hP hD _ hMs hk1 hFc rfl
        clear hz1 hk1 hvm ht hB hMs
        have hG := hG.trans (lt_eq e_x_6792_0.symm)
        refine lv_aload_n hx hb dX6_back_39 rfl (lv_at hl 0 rfl) ?_
        refine lv_iconst (v := 0) hx hb dX6_back_40 (by decide) ?_
        refine va_put (D := (dC, dI)) (ci := 6) (v := .int 0) (ty := .int) (C := RX6) (T := TX6) (N := 12) hx hb hts inX6 tyX6 tyX6_ok nmX6 hown hK hP hD hS 0 rfl rfl 9 (by decide) (hts _ wd_195) (fun _ h9 => h9) rfl (by decide +kernel) rfl rfl (Nat.le_of_ble_eq_true rfl) dX6_back_41 (fun H locs hP hD hS => ?_)
        obtain ⟨hP, hD⟩ := wl2 (ws' := [(oc6 oK oR oC oS oT rK_images iK_imageCount oA oH oL 0 iK_latestFault iK_latestPlace), (oc5 oS rS_worths rS_order rS_left), (arI rS_worths kS_worths 18 f_6790), (arI rS_order kS_order 72 f_6791), (oc0 oA x_6792 rA_nodes rA_olds rA_says), (oc5 oI0 rI0_worths rI0_order rI0_left), (arI rI0_worths kI0_worths 18 fI0_worths), (arI rI0_order kI0_order 72 fI0_order), (oc5 oI1 rI1_worths rI1_order rI1_left), (arI rI1_worths kI1_worths 18 fI1_worths), (arI rI1_order kI1_order 72 fI1_order), (oc5 oI2 rI2_worths rI2_order rI2_left), (arI rI2_worths kI2_worths 18 fI2_worths), (arI rI2_order kI2_order 72 fI2_order), (rK_images, .inl (kK_images, 3, .inr (.inr (.inr (.inr fK_images)))))]) hP hD rfl
        refine lv_iconst (v := 1) hx hb dX6_back_44 (by decide) ?_
        exact wq_z (v := 1) hx hb hr rfl (cI 1) ⟨⟨Or.inr rfl, trivial⟩, (cI_of 1)⟩ (fun t ht hW => ⟨0, f_6790, f_6791, x_6792, (by decide), a_f_6791, ⟨b_x_6792.1, (om_b868baad b_x_6792.2)⟩, (cI_tup hG), Bw.to hP hD hK ht hW⟩) hS dX6_back_45 hlocks
    · skip
      have hG := hG.trans (if_neg c_6783)
      have gc_6783 := ti_nlt c_6783 rfl rfl
      refine lv_aload_n hx hb dX6_back_12 rfl (lv_at hl 0 rfl) ?_
      refine lv_iconst (v := 1) hx hb dX6_back_13 (by decide) ?_
      refine va_put (D := (dC, dI)) (ci := 6) (v := .int 1) (ty := .int) (C := RX6) (T := TX6) (N := 12) hx hb hts inX6 tyX6 tyX6_ok nmX6 hown hK hP hD hS 0 rfl rfl 9 (by decide) (hts _ wd_195) (fun _ h9 => h9) rfl (by decide +kernel) rfl rfl (Nat.le_of_ble_eq_true rfl) dX6_back_14 (fun H locs hP hD hS => ?_)
      obtain ⟨hP, hD⟩ := wl2 (ws' := [(oc6 oK oR oC oS oT rK_images iK_imageCount oA oH oL 1 iK_latestFault iK_latestPlace), (oc5 oS rS_worths rS_order rS_left), (arI rS_worths kS_worths 18 fS_worths), (arI rS_order kS_order 72 fS_order), (oc0 oA iA_count rA_nodes rA_olds rA_says), (oc5 oI0 rI0_worths rI0_order rI0_left), (arI rI0_worths kI0_worths 18 fI0_worths), (arI rI0_order kI0_order 72 fI0_order), (oc5 oI1 rI1_worths rI1_order rI1_left), (arI rI1_worths kI1_worths 18 fI1_worths), (arI rI1_order kI1_order 72 fI1_order), (oc5 oI2 rI2_worths rI2_order rI2_left), (arI rI2_worths kI2_worths 18 fI2_worths), (arI rI2_order kI2_order 72 fI2_order), (rK_images, .inl (kK_images, 3, .inr (.inr (.inr (.inr fK_images)))))]) hP hD rfl
      refine lv_iconst (v := 0) hx hb dX6_back_17 (by decide) ?_
      exact wq_z (v := 0) hx hb hr rfl (cI 0) ⟨⟨Or.inl rfl, trivial⟩, (cI_of 0)⟩ (fun t ht hW => ⟨1, fS_worths, fS_order, iA_count, (by decide), a_fS_order, b_iA_count, (cI_tup hG), Bw.to hP hD hK ht hW⟩) hS dX6_back_18 hlocks
set_option maxHeartbeats 4000000 in
set_option maxRecDepth 100000 in
theorem tX6_court (l : Launch) (dC : Nat → ClassId) (dI : Nat → Nat → Nat) (sz : Nat) (oK : Nat) (oR : Nat) (oC : Nat) (oS : Nat) (oT : Nat) (rK_images : Nat) (iK_imageCount : Int32) (oA : Nat) (oH : Nat) (oL : Nat) (iK_refusal : Int32) (iK_latestFault : Int32) (iK_latestPlace : Int32) (rS_worths : Nat) (fS_worths : Nat → Int32) (kS_worths : ClassId) (rS_order : Nat) (fS_order : Nat → Int32) (kS_order : ClassId) (rS_left : Nat) (iA_count : Int32) (rA_nodes : Nat) (rA_olds : Nat) (rA_says : Nat) (iR_faultNumber : Int32) (iR_faultPlace : Int32) (iR_tapeSize : Int32) (rR_tape : Nat) (fR_tape : Nat → Int32) (kR_tape : ClassId) (iR_end : Int32) (iR_tokenKind : Int32) (iR_tokenFrom : Int32) (iR_tokenTo : Int32) (iR_tokenName : Int64) (iR_tokenKey : Int32) (iR_tokenWhole : Int32) (oD : Nat) (iR_courtTold : Int32) (rR_names : Nat) (fR_names : Nat → Int64) (kR_names : ClassId) (rR_keys : Nat) (fR_keys : Nat → Int64) (kR_keys : ClassId) (iD_nodes : Int32) (iD_words : Int32) (iD_chances : Int32) (iD_unsures : Int32) (iD_slips : Int32) (iD_throneNode : Int32) (iD_saidWorth : Int32) (iD_unit : Int32) (rD_kind : Nat) (fD_kind : Nat → Int32) (kD_kind : ClassId) (rD_parts : Nat) (fD_parts : Nat → Int32) (kD_parts : ClassId) (rD_partNodes : Nat) (fD_partNodes : Nat → Int32) (kD_partNodes : ClassId) (rD_weights : Nat) (fD_weights : Nat → Int32) (kD_weights : ClassId) (rD_weightSums : Nat) (fD_weightSums : Nat → Int32) (kD_weightSums : ClassId) (rD_toldWorths : Nat) (fD_toldWorths : Nat → Int32) (kD_toldWorths : ClassId) (rD_steps : Nat) (fD_steps : Nat → Int32) (kD_steps : ClassId) (rD_below : Nat) (fD_below : Nat → Int32) (kD_below : ClassId) (rD_above : Nat) (fD_above : Nat → Int32) (kD_above : ClassId) (rD_unsureWords : Nat) (fD_unsureWords : Nat → Int32) (kD_unsureWords : ClassId) (rD_unsureWorths : Nat) (fD_unsureWorths : Nat → Int32) (kD_unsureWorths : ClassId) (p0 : Int32) (b_iK_imageCount : 0 ≤ iK_imageCount.toInt ∧ iK_imageCount.toInt ≤ 3) (a_fS_order : ∀ j : Nat, j < 72 → 0 ≤ (fS_order j).toInt ∧ (fS_order j).toInt ≤ 3) (b_iA_count : 0 ≤ iA_count.toInt ∧ iA_count.toInt ≤ 16) (b_iR_tapeSize : 0 ≤ iR_tapeSize.toInt ∧ iR_tapeSize.toInt ≤ 900) (b_iR_courtTold : 0 ≤ iR_courtTold.toInt ∧ iR_courtTold.toInt ≤ 1) (b_iD_nodes : 0 ≤ iD_nodes.toInt ∧ iD_nodes.toInt ≤ 18) (b_iD_unsures : 0 ≤ iD_unsures.toInt ∧ iD_unsures.toInt ≤ 4) (b_iD_throneNode : (-1) ≤ iD_throneNode.toInt ∧ iD_throneNode.toInt ≤ 17) (a_fD_parts : ∀ j : Nat, j < 18 → 0 ≤ (fD_parts j).toInt ∧ (fD_parts j).toInt ≤ 4) (a_fD_partNodes : ∀ j : Nat, j < 72 → 0 ≤ (fD_partNodes j).toInt ∧ (fD_partNodes j).toInt ≤ 17) (a_fD_unsureWords : ∀ j : Nat, j < 4 → 0 ≤ (fD_unsureWords j).toInt ∧ (fD_unsureWords j).toInt ≤ 17)  : Met l yX6_court (Cond.code yX6_court cX6_court 3 (some .int) :: wG) ({ frames := 7, cells := 0, slots := 0, locals := 157 }) (va_Pc [.ref oK, .int p0] (Pw dC dI sz [(oc6 oK oR oC oS oT rK_images iK_imageCount oA oH oL iK_refusal iK_latestFault iK_latestPlace), (oc5 oS rS_worths rS_order rS_left), (arI rS_worths kS_worths 18 fS_worths), (arI rS_order kS_order 72 fS_order), (oc0 oA iA_count rA_nodes rA_olds rA_says), (oc3 oR iR_faultNumber iR_faultPlace iR_tapeSize rR_tape iR_end iR_tokenKind iR_tokenFrom iR_tokenTo iR_tokenName iR_tokenKey iR_tokenWhole oD iR_courtTold rR_names rR_keys), (arI rR_tape kR_tape 900 fR_tape), (arL rR_names kR_names 18 fR_names), (arL rR_keys kR_keys 10 fR_keys), (oc1 oD iD_nodes iD_words iD_chances iD_unsures iD_slips iD_throneNode iD_saidWorth iD_unit rD_kind rD_parts rD_partNodes rD_weights rD_weightSums rD_toldWorths rD_steps rD_below rD_above rD_unsureWords rD_unsureWorths), (arI rD_kind kD_kind 18 fD_kind), (arI rD_parts kD_parts 18 fD_parts), (arI rD_partNodes kD_partNodes 72 fD_partNodes), (arI rD_weights kD_weights 72 fD_weights), (arI rD_weightSums kD_weightSums 18 fD_weightSums), (arI rD_toldWorths kD_toldWorths 18 fD_toldWorths), (arI rD_steps kD_steps 18 fD_steps), (arI rD_below kD_below 18 fD_below), (arI rD_above kD_above 18 fD_above), (arI rD_unsureWords kD_unsureWords 4 fD_unsureWords), (arI rD_unsureWorths kD_unsureWorths 4 fD_unsureWorths)] [(kS_worths, .int), (kS_order, .int), (kR_tape, .byte), (kR_names, .long), (kR_keys, .long), (kD_kind, .int), (kD_parts, .int), (kD_partNodes, .int), (kD_weights, .int), (kD_weightSums, .int), (kD_toldWorths, .int), (kD_steps, .int), (kD_below, .int), (kD_above, .int), (kD_unsureWords, .int), (kD_unsureWorths, .int)])) (va_Qi (fun (r : Int32) (u : Nat) => (True ∧ True) ∧ r = Int32.ofNat u) (fun (u : Nat) (t : State) => ∃ (niK_imageCount : Int32) (niK_refusal : Int32) (niK_latestFault : Int32) (niK_latestPlace : Int32) (nfS_worths : Nat → Int32) (nfS_order : Nat → Int32) (niA_count : Int32) (niR_faultNumber : Int32) (niR_faultPlace : Int32) (niR_tapeSize : Int32) (niR_end : Int32) (niR_tokenKind : Int32) (niR_tokenFrom : Int32) (niR_tokenTo : Int32) (niR_tokenName : Int64) (niR_tokenKey : Int32) (niR_tokenWhole : Int32) (niR_courtTold : Int32) (nfR_names : Nat → Int64) (niD_nodes : Int32) (niD_words : Int32) (niD_chances : Int32) (niD_unsures : Int32) (niD_slips : Int32) (niD_throneNode : Int32) (niD_saidWorth : Int32) (niD_unit : Int32) (nfD_kind : Nat → Int32) (nfD_parts : Nat → Int32) (nfD_partNodes : Nat → Int32) (nfD_weights : Nat → Int32) (nfD_weightSums : Nat → Int32) (nfD_toldWorths : Nat → Int32) (nfD_steps : Nat → Int32) (nfD_below : Nat → Int32) (nfD_above : Nat → Int32) (nfD_unsureWords : Nat → Int32) (nfD_unsureWorths : Nat → Int32), (0 ≤ niK_imageCount.toInt ∧ niK_imageCount.toInt ≤ 3) ∧ (∀ j : Nat, j < 72 → 0 ≤ (nfS_order j).toInt ∧ (nfS_order j).toInt ≤ 3) ∧ (0 ≤ niA_count.toInt ∧ niA_count.toInt ≤ 16) ∧ (0 ≤ niR_tapeSize.toInt ∧ niR_tapeSize.toInt ≤ 900) ∧ (0 ≤ niR_courtTold.toInt ∧ niR_courtTold.toInt ≤ 1) ∧ (0 ≤ niD_nodes.toInt ∧ niD_nodes.toInt ≤ 18) ∧ (0 ≤ niD_unsures.toInt ∧ niD_unsures.toInt ≤ 4) ∧ ((-1) ≤ niD_throneNode.toInt ∧ niD_throneNode.toInt ≤ 17) ∧ (∀ j : Nat, j < 18 → 0 ≤ (nfD_parts j).toInt ∧ (nfD_parts j).toInt ≤ 4) ∧ (∀ j : Nat, j < 72 → 0 ≤ (nfD_partNodes j).toInt ∧ (nfD_partNodes j).toInt ≤ 17) ∧ (∀ j : Nat, j < 4 → 0 ≤ (nfD_unsureWords j).toInt ∧ (nfD_unsureWords j).toInt ≤ 17) ∧ ((0 ≤ p0.toInt ∧ p0.toInt ≤ iR_tapeSize.toInt ∧ niR_tapeSize.toInt = 0) ∨ ((p0.toInt < 0 ∨ iR_tapeSize.toInt < p0.toInt) ∧ niR_tapeSize.toInt = iR_tapeSize.toInt)) ∧ (PX6_court iK_imageCount iK_latestFault iK_latestPlace fS_worths fS_order iA_count iR_faultNumber iR_faultPlace iR_tapeSize fR_tape iR_end iR_tokenKind iR_tokenFrom iR_tokenTo iR_tokenName iR_tokenKey iR_tokenWhole iR_courtTold fR_names fR_keys iD_nodes iD_words iD_chances iD_unsures iD_slips iD_throneNode iD_saidWorth iD_unit fD_kind fD_parts fD_partNodes fD_weights fD_weightSums fD_toldWorths fD_steps fD_below fD_above fD_unsureWords fD_unsureWorths p0 = (Int32.ofNat u, niK_imageCount, niK_refusal, niK_latestFault, niK_latestPlace, nfS_worths, nfS_order, niA_count, niR_faultNumber, niR_faultPlace, niR_tapeSize, niR_end, niR_tokenKind, niR_tokenFrom, niR_tokenTo, niR_tokenName, niR_tokenKey, niR_tokenWhole, niR_courtTold, nfR_names, niD_nodes, niD_words, niD_chances, niD_unsures, niD_slips, niD_throneNode, niD_saidWorth, niD_unit, nfD_kind, nfD_parts, nfD_partNodes, nfD_weights, nfD_weightSums, nfD_toldWorths, nfD_steps, nfD_below, nfD_above, nfD_unsureWords, nfD_unsureWorths)) ∧ ((((Int32.ofNat u).toInt = -1) ∧ Bw dC dI (va_A [(oc6 oK oR oC oS oT rK_images iK_imageCount oA oH oL iK_refusal iK_latestFault iK_latestPlace), (oc5 oS rS_worths rS_order rS_left), (arI rS_worths kS_worths 18 fS_worths), (arI rS_order kS_order 72 fS_order), (oc0 oA iA_count rA_nodes rA_olds rA_says), (oc3 oR iR_faultNumber iR_faultPlace iR_tapeSize rR_tape iR_end iR_tokenKind iR_tokenFrom iR_tokenTo iR_tokenName iR_tokenKey iR_tokenWhole oD iR_courtTold rR_names rR_keys), (arI rR_tape kR_tape 900 fR_tape), (arL rR_names kR_names 18 fR_names), (arL rR_keys kR_keys 10 fR_keys), (oc1 oD iD_nodes iD_words iD_chances iD_unsures iD_slips iD_throneNode iD_saidWorth iD_unit rD_kind rD_parts rD_partNodes rD_weights rD_weightSums rD_toldWorths rD_steps rD_below rD_above rD_unsureWords rD_unsureWorths), (arI rD_kind kD_kind 18 fD_kind), (arI rD_parts kD_parts 18 fD_parts), (arI rD_partNodes kD_partNodes 72 fD_partNodes), (arI rD_weights kD_weights 72 fD_weights), (arI rD_weightSums kD_weightSums 18 fD_weightSums), (arI rD_toldWorths kD_toldWorths 18 fD_toldWorths), (arI rD_steps kD_steps 18 fD_steps), (arI rD_below kD_below 18 fD_below), (arI rD_above kD_above 18 fD_above), (arI rD_unsureWords kD_unsureWords 4 fD_unsureWords), (arI rD_unsureWorths kD_unsureWorths 4 fD_unsureWorths)] sz) [(oc6 oK oR oC oS oT rK_images niK_imageCount oA oH oL niK_refusal niK_latestFault niK_latestPlace), (oc5 oS rS_worths rS_order rS_left), (arI rS_worths kS_worths 18 nfS_worths), (arI rS_order kS_order 72 nfS_order), (oc0 oA niA_count rA_nodes rA_olds rA_says), (oc3 oR niR_faultNumber niR_faultPlace niR_tapeSize rR_tape niR_end niR_tokenKind niR_tokenFrom niR_tokenTo niR_tokenName niR_tokenKey niR_tokenWhole oD niR_courtTold rR_names rR_keys), (arI rR_tape kR_tape 900 fR_tape), (arL rR_names kR_names 18 nfR_names), (arL rR_keys kR_keys 10 fR_keys), (oc1 oD niD_nodes niD_words niD_chances niD_unsures niD_slips niD_throneNode niD_saidWorth niD_unit rD_kind rD_parts rD_partNodes rD_weights rD_weightSums rD_toldWorths rD_steps rD_below rD_above rD_unsureWords rD_unsureWorths), (arI rD_kind kD_kind 18 nfD_kind), (arI rD_parts kD_parts 18 nfD_parts), (arI rD_partNodes kD_partNodes 72 nfD_partNodes), (arI rD_weights kD_weights 72 nfD_weights), (arI rD_weightSums kD_weightSums 18 nfD_weightSums), (arI rD_toldWorths kD_toldWorths 18 nfD_toldWorths), (arI rD_steps kD_steps 18 nfD_steps), (arI rD_below kD_below 18 nfD_below), (arI rD_above kD_above 18 nfD_above), (arI rD_unsureWords kD_unsureWords 4 nfD_unsureWords), (arI rD_unsureWorths kD_unsureWorths 4 nfD_unsureWorths)] [(kS_worths, .int), (kS_order, .int), (kR_tape, .byte), (kR_names, .long), (kR_keys, .long), (kD_kind, .int), (kD_parts, .int), (kD_partNodes, .int), (kD_weights, .int), (kD_weightSums, .int), (kD_toldWorths, .int), (kD_steps, .int), (kD_below, .int), (kD_above, .int), (kD_unsureWords, .int), (kD_unsureWorths, .int)] t) ∨ ((0 ≤ (Int32.ofNat u).toInt ∧ (niD_nodes.toInt ≤ 0 ∨ 0 ≤ niD_throneNode.toInt)) ∧ Bw dC dI (va_A [(oc6 oK oR oC oS oT rK_images iK_imageCount oA oH oL iK_refusal iK_latestFault iK_latestPlace), (oc5 oS rS_worths rS_order rS_left), (arI rS_worths kS_worths 18 fS_worths), (arI rS_order kS_order 72 fS_order), (oc0 oA iA_count rA_nodes rA_olds rA_says), (oc3 oR iR_faultNumber iR_faultPlace iR_tapeSize rR_tape iR_end iR_tokenKind iR_tokenFrom iR_tokenTo iR_tokenName iR_tokenKey iR_tokenWhole oD iR_courtTold rR_names rR_keys), (arI rR_tape kR_tape 900 fR_tape), (arL rR_names kR_names 18 fR_names), (arL rR_keys kR_keys 10 fR_keys), (oc1 oD iD_nodes iD_words iD_chances iD_unsures iD_slips iD_throneNode iD_saidWorth iD_unit rD_kind rD_parts rD_partNodes rD_weights rD_weightSums rD_toldWorths rD_steps rD_below rD_above rD_unsureWords rD_unsureWorths), (arI rD_kind kD_kind 18 fD_kind), (arI rD_parts kD_parts 18 fD_parts), (arI rD_partNodes kD_partNodes 72 fD_partNodes), (arI rD_weights kD_weights 72 fD_weights), (arI rD_weightSums kD_weightSums 18 fD_weightSums), (arI rD_toldWorths kD_toldWorths 18 fD_toldWorths), (arI rD_steps kD_steps 18 fD_steps), (arI rD_below kD_below 18 fD_below), (arI rD_above kD_above 18 fD_above), (arI rD_unsureWords kD_unsureWords 4 fD_unsureWords), (arI rD_unsureWorths kD_unsureWorths 4 fD_unsureWorths)] sz) [(oc6 oK oR oD oS oT rK_images niK_imageCount oA oH oL niK_refusal niK_latestFault niK_latestPlace), (oc5 oS rS_worths rS_order rS_left), (arI rS_worths kS_worths 18 nfS_worths), (arI rS_order kS_order 72 nfS_order), (oc0 oA niA_count rA_nodes rA_olds rA_says), (oc3 oR niR_faultNumber niR_faultPlace niR_tapeSize rR_tape niR_end niR_tokenKind niR_tokenFrom niR_tokenTo niR_tokenName niR_tokenKey niR_tokenWhole oC niR_courtTold rR_names rR_keys), (arI rR_tape kR_tape 900 fR_tape), (arL rR_names kR_names 18 nfR_names), (arL rR_keys kR_keys 10 fR_keys), (oc1 oD niD_nodes niD_words niD_chances niD_unsures niD_slips niD_throneNode niD_saidWorth niD_unit rD_kind rD_parts rD_partNodes rD_weights rD_weightSums rD_toldWorths rD_steps rD_below rD_above rD_unsureWords rD_unsureWorths), (arI rD_kind kD_kind 18 nfD_kind), (arI rD_parts kD_parts 18 nfD_parts), (arI rD_partNodes kD_partNodes 72 nfD_partNodes), (arI rD_weights kD_weights 72 nfD_weights), (arI rD_weightSums kD_weightSums 18 nfD_weightSums), (arI rD_toldWorths kD_toldWorths 18 nfD_toldWorths), (arI rD_steps kD_steps 18 nfD_steps), (arI rD_below kD_below 18 nfD_below), (arI rD_above kD_above 18 nfD_above), (arI rD_unsureWords kD_unsureWords 4 nfD_unsureWords), (arI rD_unsureWorths kD_unsureWorths 4 nfD_unsureWorths)] [(kS_worths, .int), (kS_order, .int), (kR_tape, .byte), (kR_names, .long), (kR_keys, .long), (kD_kind, .int), (kD_parts, .int), (kD_partNodes, .int), (kD_weights, .int), (kD_weightSums, .int), (kD_toldWorths, .int), (kD_steps, .int), (kD_below, .int), (kD_above, .int), (kD_unsureWords, .int), (kD_unsureWorths, .int)] t))) (va_A [(oc6 oK oR oC oS oT rK_images iK_imageCount oA oH oL iK_refusal iK_latestFault iK_latestPlace), (oc5 oS rS_worths rS_order rS_left), (arI rS_worths kS_worths 18 fS_worths), (arI rS_order kS_order 72 fS_order), (oc0 oA iA_count rA_nodes rA_olds rA_says), (oc3 oR iR_faultNumber iR_faultPlace iR_tapeSize rR_tape iR_end iR_tokenKind iR_tokenFrom iR_tokenTo iR_tokenName iR_tokenKey iR_tokenWhole oD iR_courtTold rR_names rR_keys), (arI rR_tape kR_tape 900 fR_tape), (arL rR_names kR_names 18 fR_names), (arL rR_keys kR_keys 10 fR_keys), (oc1 oD iD_nodes iD_words iD_chances iD_unsures iD_slips iD_throneNode iD_saidWorth iD_unit rD_kind rD_parts rD_partNodes rD_weights rD_weightSums rD_toldWorths rD_steps rD_below rD_above rD_unsureWords rD_unsureWorths), (arI rD_kind kD_kind 18 fD_kind), (arI rD_parts kD_parts 18 fD_parts), (arI rD_partNodes kD_partNodes 72 fD_partNodes), (arI rD_weights kD_weights 72 fD_weights), (arI rD_weightSums kD_weightSums 18 fD_weightSums), (arI rD_toldWorths kD_toldWorths 18 fD_toldWorths), (arI rD_steps kD_steps 18 fD_steps), (arI rD_below kD_below 18 fD_below), (arI rD_above kD_above 18 fD_above), (arI rD_unsureWords kD_unsureWords 4 fD_unsureWords), (arI rD_unsureWorths kD_unsureWorths 4 fD_unsureWorths)] sz)) 0 0 (va_A [(oc6 oK oR oC oS oT rK_images iK_imageCount oA oH oL iK_refusal iK_latestFault iK_latestPlace), (oc5 oS rS_worths rS_order rS_left), (arI rS_worths kS_worths 18 fS_worths), (arI rS_order kS_order 72 fS_order), (oc0 oA iA_count rA_nodes rA_olds rA_says), (oc3 oR iR_faultNumber iR_faultPlace iR_tapeSize rR_tape iR_end iR_tokenKind iR_tokenFrom iR_tokenTo iR_tokenName iR_tokenKey iR_tokenWhole oD iR_courtTold rR_names rR_keys), (arI rR_tape kR_tape 900 fR_tape), (arL rR_names kR_names 18 fR_names), (arL rR_keys kR_keys 10 fR_keys), (oc1 oD iD_nodes iD_words iD_chances iD_unsures iD_slips iD_throneNode iD_saidWorth iD_unit rD_kind rD_parts rD_partNodes rD_weights rD_weightSums rD_toldWorths rD_steps rD_below rD_above rD_unsureWords rD_unsureWorths), (arI rD_kind kD_kind 18 fD_kind), (arI rD_parts kD_parts 18 fD_parts), (arI rD_partNodes kD_partNodes 72 fD_partNodes), (arI rD_weights kD_weights 72 fD_weights), (arI rD_weightSums kD_weightSums 18 fD_weightSums), (arI rD_toldWorths kD_toldWorths 18 fD_toldWorths), (arI rD_steps kD_steps 18 fD_steps), (arI rD_below kD_below 18 fD_below), (arI rD_above kD_above 18 fD_above), (arI rD_unsureWords kD_unsureWords 4 fD_unsureWords), (arI rD_unsureWorths kD_unsureWorths 4 fD_unsureWorths)] sz) := by
  refine Met.ofW (cc := cX6_court) (maxL := 3) (ret := (some .int)) pnX6 rfl ?_
  intro p e s m args below meth c s₁ B hml hv
  obtain ⟨rfl, hsz, hP, hK, hD0, hE⟩ := hv
  have hx := B.exec
  have hb := B.bytes
  have hr := B.returns
  have hts : ∀ w ∈ wG, w.before ([.ref oK, .int p0] : List Value).toArray s = true := fun w h => atoms_spec (ws := Cond.code yX6_court cX6_court 3 (some .int) :: wG) B.pre w (List.mem_cons_of_mem _ h)
  have hown : s.vm.findClass RX6 = some m.cls := own_of B.named rfl
  have hlocks := B.notSynchronized
  subst hsz
  have hD := hD0.self (sz := s.heap.size)
  generalize hAe : va_A [(oc6 oK oR oC oS oT rK_images iK_imageCount oA oH oL iK_refusal iK_latestFault iK_latestPlace), (oc5 oS rS_worths rS_order rS_left), (arI rS_worths kS_worths 18 fS_worths), (arI rS_order kS_order 72 fS_order), (oc0 oA iA_count rA_nodes rA_olds rA_says), (oc3 oR iR_faultNumber iR_faultPlace iR_tapeSize rR_tape iR_end iR_tokenKind iR_tokenFrom iR_tokenTo iR_tokenName iR_tokenKey iR_tokenWhole oD iR_courtTold rR_names rR_keys), (arI rR_tape kR_tape 900 fR_tape), (arL rR_names kR_names 18 fR_names), (arL rR_keys kR_keys 10 fR_keys), (oc1 oD iD_nodes iD_words iD_chances iD_unsures iD_slips iD_throneNode iD_saidWorth iD_unit rD_kind rD_parts rD_partNodes rD_weights rD_weightSums rD_toldWorths rD_steps rD_below rD_above rD_unsureWords rD_unsureWorths), (arI rD_kind kD_kind 18 fD_kind), (arI rD_parts kD_parts 18 fD_parts), (arI rD_partNodes kD_partNodes 72 fD_partNodes), (arI rD_weights kD_weights 72 fD_weights), (arI rD_weightSums kD_weightSums 18 fD_weightSums), (arI rD_toldWorths kD_toldWorths 18 fD_toldWorths), (arI rD_steps kD_steps 18 fD_steps), (arI rD_below kD_below 18 fD_below), (arI rD_above kD_above 18 fD_above), (arI rD_unsureWords kD_unsureWords 4 fD_unsureWords), (arI rD_unsureWorths kD_unsureWorths 4 fD_unsureWorths)] s.heap.size = A at hD hE ⊢
  have hA : ∀ q : Nat, s.heap.size ≤ q → A q := fun q h => by rw [← hAe]; exact Or.inr h
  have hS : va_S A s.heap s.heap [] := va_S.rf
  have hl := lv_entry ([.ref oK, .int p0]) (n := 3) (Nat.le_of_ble_eq_true rfl)
  rw [lg_entry_eq]
  generalize (lg_sl ([.ref oK, .int p0]) ++ List.replicate (3 - (lg_sl ([.ref oK, .int p0])).length) Slot.unset).toArray = ls at hl ⊢
  have hl : lv_has ls 3 [(0, .ref oK), (1, .int p0)] := hl
  have hG := PX6_court_eq iK_imageCount iK_latestFault iK_latestPlace fS_worths fS_order iA_count iR_faultNumber iR_faultPlace iR_tapeSize fR_tape iR_end iR_tokenKind iR_tokenFrom iR_tokenTo iR_tokenName iR_tokenKey iR_tokenWhole iR_courtTold fR_names fR_keys iD_nodes iD_words iD_chances iD_unsures iD_slips iD_throneNode iD_saidWorth iD_unit fD_kind fD_parts fD_partNodes fD_weights fD_weightSums fD_toldWorths fD_steps fD_below fD_above fD_unsureWords fD_unsureWorths p0
  refine lv_iload_n hx hb dX6_court_0 rfl (lv_at hl 1 rfl) ?_
  refine lv_if_lt (tgt := 15) hx hb dX6_court_1 (by decide) (fun c_6837 => ?_) (fun c_6837 => ?_)
  · skip
    have hG := hG.trans (if_pos c_6837)
    have gc_6837 := ti_lt c_6837 rfl kc_0
    refine lv_aload_n hx hb dX6_court_15 rfl (lv_at hl 0 rfl) ?_
    refine lv_iconst (v := 2) hx hb dX6_court_16 (by decide) ?_
    have hMs := ml_of hD [true, false, false, false, false, false, false, false, false, false, false, false, false, false, false, false, false, false, false, false, false] (wc := [(oc6 oK oR oC oS oT rK_images iK_imageCount oA oH oL iK_refusal iK_latestFault iK_latestPlace)]) rfl
    have hFc := va_freeM hD hS hA _ hMs
    refine va_calli (va_runV (As := [.int 2]) (rest := []) ⟨hx, hb, hml, hown, hts⟩ (tX6_refuse l dC dI _ oK oR oC oS oT rK_images iK_imageCount oA oH oL iK_refusal iK_latestFault iK_latestPlace 2 b_iK_imageCount) (cwV 1 hts (wd_V wd_197 wd_198 wd_199 wd_2 (wd_c wd_200)) rfl rfl rfl dv_yX6_refuse_1 ⟨Nat.le_of_ble_eq_true rfl, Nat.le_of_ble_eq_true rfl⟩) ⟨Pw.fb, recvX6 hK hP (q0 := 0) rfl, fun U hU hW => Pw.to (hP.ms _ hMs) (hD.ms _ hMs) (hK.ms [false, false, false, false, false, false, false, false, false, false, false, false, false, false, false, false] rfl) hE hS hFc hU hW⟩ rfl rfl hl.1 rfl (lv_room (Nat.le_of_ble_eq_true rfl)) dX6_court_17 ⟨Nat.le_of_ble_eq_true rfl, Nat.le_of_ble_eq_true rfl⟩) hS (fun q _ h => hFc q h) hFc (fun r u t H locs ht hvm hw hB hz1 hk1 hS => ?_)
    have hru9 := hw.2
    have hw := hw.1
    refine ex_1_1 hB (fun x_6838 e_x_6838_0 hB => ?_)
    obtain ⟨hP, hD⟩ := Bw.goN (ws' := [(oc6 oK oR oC oS oT rK_images iK_imageCount oA oH oL x_6838 iK_latestFault iK_latestPlace), (oc5 oS rS_worths rS_order rS_left), (arI rS_worths kS_worths 18 fS_worths), (arI rS_order kS_order 72 fS_order), (oc0 oA iA_count rA_nodes rA_olds rA_says), (oc3 oR iR_faultNumber iR_faultPlace iR_tapeSize rR_tape iR_end iR_tokenKind iR_tokenFrom iR_tokenTo iR_tokenName iR_tokenKey iR_tokenWhole oD iR_courtTold rR_names rR_keys), (arI rR_tape kR_tape 900 fR_tape), (arL rR_names kR_names 18 fR_names), (arL rR_keys kR_keys 10 fR_keys), (oc1 oD iD_nodes iD_words iD_chances iD_unsures iD_slips iD_throneNode iD_saidWorth iD_unit rD_kind rD_parts rD_partNodes rD_weights rD_weightSums rD_toldWorths rD_steps rD_below rD_above rD_unsureWords rD_unsureWorths), (arI rD_kind kD_kind 18 fD_kind), (arI rD_parts kD_parts 18 fD_parts), (arI rD_partNodes kD_partNodes 72 fD_partNodes), (arI rD_weights kD_weights 72 fD_weights), (arI rD_weightSums kD_weightSums 18 fD_weightSums), (arI rD_toldWorths kD_toldWorths 18 fD_toldWorths), (arI rD_steps kD_steps 18 fD_steps), (arI rD_below kD_below 18 fD_below), (arI rD_above kD_above 18 fD_above), (arI rD_unsureWords kD_unsureWords 4 fD_unsureWords), (arI rD_unsureWorths kD_unsureWorths 4 fD_unsureWorths)]) hB rfl ht hP hD _ hMs hk1 hFc rfl
    clear hz1 hk1 hvm ht hB hMs
    rw [← hru9] at e_x_6838_0
    obtain ⟨x_6839, rfl⟩ : ∃ z, z = r := ⟨_, rfl⟩
    have hG := hG.trans (un2_eq e_x_6838_0)
    have ux_6839 := hw.2
    exact wq_i hx hb hr (cI x_6839) ⟨⟨trivial, trivial⟩, (cI_of x_6839)⟩ (fun t ht hW => ⟨iK_imageCount, x_6838, iK_latestFault, iK_latestPlace, fS_worths, fS_order, iA_count, iR_faultNumber, iR_faultPlace, iR_tapeSize, iR_end, iR_tokenKind, iR_tokenFrom, iR_tokenTo, iR_tokenName, iR_tokenKey, iR_tokenWhole, iR_courtTold, fR_names, iD_nodes, iD_words, iD_chances, iD_unsures, iD_slips, iD_throneNode, iD_saidWorth, iD_unit, fD_kind, fD_parts, fD_partNodes, fD_weights, fD_weightSums, fD_toldWorths, fD_steps, fD_below, fD_above, fD_unsureWords, fD_unsureWorths, b_iK_imageCount, a_fS_order, b_iA_count, b_iR_tapeSize, b_iR_courtTold, b_iD_nodes, b_iD_unsures, b_iD_throneNode, a_fD_parts, a_fD_partNodes, a_fD_unsureWords, (by first | omega | decide | assumption), (cI_tup hG), (Or.inl (⟨(by rw [← cI_of]; omega), Bw.to hP hD hK ht hW⟩))⟩) hS dX6_court_20 hlocks
  · skip
    have hG := hG.trans (if_neg c_6837)
    have gc_6837 := ti_nlt c_6837 rfl kc_0
    refine lv_iload_n hx hb dX6_court_4 rfl (lv_at hl 1 rfl) ?_
    refine lv_aload_n hx hb dX6_court_5 rfl (lv_at hl 0 rfl) ?_
    refine va_get (D := (dC, dI)) (ci := 6) (v := .ref oR) (C := RX6) (T := TX6) (N := 12) hx hb hts inX6 hown hK hP 0 rfl rfl 0 (by decide) (hts _ wd_16) (fun _ h9 => h9) rfl dX6_court_6 ?_
    refine va_get (D := (dC, dI)) (ci := 3) (v := .int iR_tapeSize) (C := RX3) (T := TX3) (N := 15) hx hb hts inX3 hown hK hP 5 rfl rfl 2 (by decide) (hts _ wd_174) (fun _ h9 => h9) rfl dX6_court_9 ?_
    refine lv_icmp_le (tgt := 21) hx hb dX6_court_12 (by decide) (fun c_6840 => ?_) (fun c_6840 => ?_)
    · skip
      have hG := hG.trans (if_pos c_6840)
      have gc_6840 := ti_le c_6840 rfl rfl
      refine lv_aload_n hx hb dX6_court_21 rfl (lv_at hl 0 rfl) ?_
      refine va_get (D := (dC, dI)) (ci := 6) (v := .ref oR) (C := RX6) (T := TX6) (N := 12) hx hb hts inX6 hown hK hP 0 rfl rfl 0 (by decide) (hts _ wd_16) (fun _ h9 => h9) rfl dX6_court_22 ?_
      refine lv_iload_n hx hb dX6_court_25 rfl (lv_at hl 1 rfl) ?_
      have hMs := ml_of hD [false, false, false, false, false, true, true, true, true, true, true, true, true, true, true, true, true, true, true, true, true] (wc := [(oc3 oR iR_faultNumber iR_faultPlace iR_tapeSize rR_tape iR_end iR_tokenKind iR_tokenFrom iR_tokenTo iR_tokenName iR_tokenKey iR_tokenWhole oD iR_courtTold rR_names rR_keys), (arI rR_tape kR_tape 900 fR_tape), (arL rR_names kR_names 18 fR_names), (arL rR_keys kR_keys 10 fR_keys), (oc1 oD iD_nodes iD_words iD_chances iD_unsures iD_slips iD_throneNode iD_saidWorth iD_unit rD_kind rD_parts rD_partNodes rD_weights rD_weightSums rD_toldWorths rD_steps rD_below rD_above rD_unsureWords rD_unsureWorths), (arI rD_kind kD_kind 18 fD_kind), (arI rD_parts kD_parts 18 fD_parts), (arI rD_partNodes kD_partNodes 72 fD_partNodes), (arI rD_weights kD_weights 72 fD_weights), (arI rD_weightSums kD_weightSums 18 fD_weightSums), (arI rD_toldWorths kD_toldWorths 18 fD_toldWorths), (arI rD_steps kD_steps 18 fD_steps), (arI rD_below kD_below 18 fD_below), (arI rD_above kD_above 18 fD_above), (arI rD_unsureWords kD_unsureWords 4 fD_unsureWords), (arI rD_unsureWorths kD_unsureWorths 4 fD_unsureWorths)]) rfl
      have hFc := va_freeM hD hS hA _ hMs
      refine va_calli (va_runV (As := [.int p0]) (rest := []) ⟨hx, hb, hml, hown, hts⟩ (tX3_reads l dC dI _ oR iR_faultNumber iR_faultPlace iR_tapeSize rR_tape fR_tape kR_tape iR_end iR_tokenKind iR_tokenFrom iR_tokenTo iR_tokenName iR_tokenKey iR_tokenWhole oD iR_courtTold rR_names fR_names kR_names rR_keys fR_keys kR_keys iD_nodes iD_words iD_chances iD_unsures iD_slips iD_throneNode iD_saidWorth iD_unit rD_kind fD_kind kD_kind rD_parts fD_parts kD_parts rD_partNodes fD_partNodes kD_partNodes rD_weights fD_weights kD_weights rD_weightSums fD_weightSums kD_weightSums rD_toldWorths fD_toldWorths kD_toldWorths rD_steps fD_steps kD_steps rD_below fD_below kD_below rD_above fD_above kD_above rD_unsureWords fD_unsureWords kD_unsureWords rD_unsureWorths fD_unsureWorths kD_unsureWorths p0 b_iR_tapeSize b_iR_courtTold b_iD_nodes b_iD_unsures b_iD_throneNode a_fD_parts a_fD_partNodes a_fD_unsureWords) (cwV 1 hts (wd_V wd_201 wd_202 wd_203 wd_15 (wd_c wd_204)) rfl rfl rfl dv_yX3_reads_1 ⟨Nat.le_of_ble_eq_true rfl, Nat.le_of_ble_eq_true rfl⟩) ⟨Pw.fb, recvX3 hK hP (q0 := 5) rfl, fun U hU hW => Pw.to (hP.ms _ hMs) (hD.ms _ hMs) (hK.ms [false, false, true, true, true, true, true, true, true, true, true, true, true, true, true, true] rfl) hE hS hFc hU hW⟩ rfl rfl hl.1 rfl (lv_room (Nat.le_of_ble_eq_true rfl)) dX6_court_26 ⟨Nat.le_of_ble_eq_true rfl, Nat.le_of_ble_eq_true rfl⟩) hS (fun q _ h => hFc q h) hFc (fun r u t H locs ht hvm hw hB hz1 hk1 hS => ?_)
      have hru9 := hw.2
      have hw := hw.1
      refine ex_31_10 hB (fun x_6841 x_6842 x_6843 x_6844 x_6845 x_6846 x_6847 y_6848 x_6849 x_6850 x_6851 f_6852 x_6853 x_6854 x_6855 x_6856 x_6857 x_6858 x_6859 x_6860 f_6861 f_6862 f_6863 f_6864 f_6865 f_6866 f_6867 f_6868 f_6869 f_6870 f_6871 b_x_6843 b_x_6851 b_x_6853 b_x_6856 b_x_6858 a_f_6862 a_f_6863 a_f_6870 e_x_6841_0 e_x_6841_1 hB => ?_)
      obtain ⟨hP, hD⟩ := Bw.goN (ws' := [(oc6 oK oR oC oS oT rK_images iK_imageCount oA oH oL iK_refusal iK_latestFault iK_latestPlace), (oc5 oS rS_worths rS_order rS_left), (arI rS_worths kS_worths 18 fS_worths), (arI rS_order kS_order 72 fS_order), (oc0 oA iA_count rA_nodes rA_olds rA_says), (oc3 oR x_6841 x_6842 x_6843 rR_tape x_6844 x_6845 x_6846 x_6847 y_6848 x_6849 x_6850 oD x_6851 rR_names rR_keys), (arI rR_tape kR_tape 900 fR_tape), (arL rR_names kR_names 18 f_6852), (arL rR_keys kR_keys 10 fR_keys), (oc1 oD x_6853 x_6854 x_6855 x_6856 x_6857 x_6858 x_6859 x_6860 rD_kind rD_parts rD_partNodes rD_weights rD_weightSums rD_toldWorths rD_steps rD_below rD_above rD_unsureWords rD_unsureWorths), (arI rD_kind kD_kind 18 f_6861), (arI rD_parts kD_parts 18 f_6862), (arI rD_partNodes kD_partNodes 72 f_6863), (arI rD_weights kD_weights 72 f_6864), (arI rD_weightSums kD_weightSums 18 f_6865), (arI rD_toldWorths kD_toldWorths 18 f_6866), (arI rD_steps kD_steps 18 f_6867), (arI rD_below kD_below 18 f_6868), (arI rD_above kD_above 18 f_6869), (arI rD_unsureWords kD_unsureWords 4 f_6870), (arI rD_unsureWorths kD_unsureWorths 4 f_6871)]) hB rfl ht hP hD _ hMs hk1 hFc rfl
      clear hz1 hk1 hvm ht hB hMs
      rw [← hru9] at e_x_6841_1
      obtain ⟨x_6872, rfl⟩ : ∃ z, z = r := ⟨_, rfl⟩
      have hG := hG.trans (un32_eq e_x_6841_1)
      have bx_6872 := hw.1
      have dx_6872 := bz_tb bx_6872
      have lx_6872 := hw.2
      refine lv_istore_n (lv' := [(2, .int x_6872), (0, .ref oK), (1, .int p0)]) hx hb dX6_court_29 rfl hl (by decide) rfl (fun ls hl => ?_)
      refine lv_aload_n hx hb dX6_court_30 rfl (lv_at hl 1 rfl) ?_
      refine lv_aload_n hx hb dX6_court_31 rfl (lv_at hl 1 rfl) ?_
      refine va_get (D := (dC, dI)) (ci := 6) (v := .ref oR) (C := RX6) (T := TX6) (N := 12) hx hb hts inX6 hown hK hP 0 rfl rfl 0 (by decide) (hts _ wd_16) (fun _ h9 => h9) rfl dX6_court_32 ?_
      refine va_get (D := (dC, dI)) (ci := 3) (v := .int x_6841) (C := RX3) (T := TX3) (N := 15) hx hb hts inX3 hown hK hP 5 rfl rfl 0 (by decide) (hts _ wd_190) (fun _ h9 => h9) rfl dX6_court_35 ?_
      refine va_put (D := (dC, dI)) (ci := 6) (v := .int x_6841) (ty := .int) (C := RX6) (T := TX6) (N := 12) hx hb hts inX6 tyX6 tyX6_ok nmX6 hown hK hP hD hS 0 rfl rfl 10 (by decide) (hts _ wd_191) (fun _ h9 => h9) rfl (by decide +kernel) rfl rfl (Nat.le_of_ble_eq_true rfl) dX6_court_38 (fun H locs hP hD hS => ?_)
      obtain ⟨hP, hD⟩ := wl2 (ws' := [(oc6 oK oR oC oS oT rK_images iK_imageCount oA oH oL iK_refusal x_6841 iK_latestPlace), (oc5 oS rS_worths rS_order rS_left), (arI rS_worths kS_worths 18 fS_worths), (arI rS_order kS_order 72 fS_order), (oc0 oA iA_count rA_nodes rA_olds rA_says), (oc3 oR x_6841 x_6842 x_6843 rR_tape x_6844 x_6845 x_6846 x_6847 y_6848 x_6849 x_6850 oD x_6851 rR_names rR_keys), (arI rR_tape kR_tape 900 fR_tape), (arL rR_names kR_names 18 f_6852), (arL rR_keys kR_keys 10 fR_keys), (oc1 oD x_6853 x_6854 x_6855 x_6856 x_6857 x_6858 x_6859 x_6860 rD_kind rD_parts rD_partNodes rD_weights rD_weightSums rD_toldWorths rD_steps rD_below rD_above rD_unsureWords rD_unsureWorths), (arI rD_kind kD_kind 18 f_6861), (arI rD_parts kD_parts 18 f_6862), (arI rD_partNodes kD_partNodes 72 f_6863), (arI rD_weights kD_weights 72 f_6864), (arI rD_weightSums kD_weightSums 18 f_6865), (arI rD_toldWorths kD_toldWorths 18 f_6866), (arI rD_steps kD_steps 18 f_6867), (arI rD_below kD_below 18 f_6868), (arI rD_above kD_above 18 f_6869), (arI rD_unsureWords kD_unsureWords 4 f_6870), (arI rD_unsureWorths kD_unsureWorths 4 f_6871)]) hP hD rfl
      refine lv_aload_n hx hb dX6_court_41 rfl (lv_at hl 1 rfl) ?_
      refine lv_aload_n hx hb dX6_court_42 rfl (lv_at hl 1 rfl) ?_
      refine va_get (D := (dC, dI)) (ci := 6) (v := .ref oR) (C := RX6) (T := TX6) (N := 12) hx hb hts inX6 hown hK hP 0 rfl rfl 0 (by decide) (hts _ wd_16) (fun _ h9 => h9) rfl dX6_court_43 ?_
      refine va_get (D := (dC, dI)) (ci := 3) (v := .int x_6842) (C := RX3) (T := TX3) (N := 15) hx hb hts inX3 hown hK hP 5 rfl rfl 1 (by decide) (hts _ wd_192) (fun _ h9 => h9) rfl dX6_court_46 ?_
      refine va_put (D := (dC, dI)) (ci := 6) (v := .int x_6842) (ty := .int) (C := RX6) (T := TX6) (N := 12) hx hb hts inX6 tyX6 tyX6_ok nmX6 hown hK hP hD hS 0 rfl rfl 11 (by decide) (hts _ wd_193) (fun _ h9 => h9) rfl (by decide +kernel) rfl rfl (Nat.le_of_ble_eq_true rfl) dX6_court_49 (fun H locs hP hD hS => ?_)
      obtain ⟨hP, hD⟩ := wl2 (ws' := [(oc6 oK oR oC oS oT rK_images iK_imageCount oA oH oL iK_refusal x_6841 x_6842), (oc5 oS rS_worths rS_order rS_left), (arI rS_worths kS_worths 18 fS_worths), (arI rS_order kS_order 72 fS_order), (oc0 oA iA_count rA_nodes rA_olds rA_says), (oc3 oR x_6841 x_6842 x_6843 rR_tape x_6844 x_6845 x_6846 x_6847 y_6848 x_6849 x_6850 oD x_6851 rR_names rR_keys), (arI rR_tape kR_tape 900 fR_tape), (arL rR_names kR_names 18 f_6852), (arL rR_keys kR_keys 10 fR_keys), (oc1 oD x_6853 x_6854 x_6855 x_6856 x_6857 x_6858 x_6859 x_6860 rD_kind rD_parts rD_partNodes rD_weights rD_weightSums rD_toldWorths rD_steps rD_below rD_above rD_unsureWords rD_unsureWorths), (arI rD_kind kD_kind 18 f_6861), (arI rD_parts kD_parts 18 f_6862), (arI rD_partNodes kD_partNodes 72 f_6863), (arI rD_weights kD_weights 72 f_6864), (arI rD_weightSums kD_weightSums 18 f_6865), (arI rD_toldWorths kD_toldWorths 18 f_6866), (arI rD_steps kD_steps 18 f_6867), (arI rD_below kD_below 18 f_6868), (arI rD_above kD_above 18 f_6869), (arI rD_unsureWords kD_unsureWords 4 f_6870), (arI rD_unsureWorths kD_unsureWorths 4 f_6871)]) hP hD rfl
      refine lv_iload_n hx hb dX6_court_52 rfl (lv_at hl 0 rfl) ?_
      refine lv_if_ne (tgt := 62) hx hb dX6_court_53 (by decide) (fun c_6873 => ?_) (fun c_6873 => ?_)
      · skip
        have hG := hG.trans (if_neg c_6873)
        have gc_6873 := ti_ne c_6873 rfl kc_0
        refine lv_aload_n hx hb dX6_court_62 rfl (lv_at hl 1 rfl) ?_
        refine lv_aload_n hx hb dX6_court_63 rfl (lv_at hl 1 rfl) ?_
        refine va_get (D := (dC, dI)) (ci := 6) (v := .ref oR) (C := RX6) (T := TX6) (N := 12) hx hb hts inX6 hown hK hP 0 rfl rfl 0 (by decide) (hts _ wd_16) (fun _ h9 => h9) rfl dX6_court_64 ?_
        refine lv_aload_n hx hb dX6_court_67 rfl (lv_at hl 1 rfl) ?_
        refine va_get (D := (dC, dI)) (ci := 6) (v := .ref oC) (C := RX6) (T := TX6) (N := 12) hx hb hts inX6 hown hK hP 0 rfl rfl 1 (by decide) (hts _ wd_20) (fun _ h9 => h9) rfl dX6_court_68 ?_
        have hMs := ml_of hD [false, false, false, false, false, true, false, false, false, false, false, false, false, false, false, false, false, false, false, false, false] (wc := [(oc3 oR x_6841 x_6842 x_6843 rR_tape x_6844 x_6845 x_6846 x_6847 y_6848 x_6849 x_6850 oD x_6851 rR_names rR_keys)]) rfl
        have hFc := va_freeM hD hS hA _ hMs
        refine va_callr (va_runV (As := [.ref oC]) (rest := [.ref oK]) ⟨hx, hb, hml, hown, hts⟩ (tX3_exchanged l dC dI _ oR x_6841 x_6842 x_6843 rR_tape x_6844 x_6845 x_6846 x_6847 y_6848 x_6849 x_6850 oD x_6851 rR_names rR_keys oC (by first | exact b_x_6843 | omega | decide) b_x_6851) (cwV 1 hts (wd_V wd_361 wd_362 wd_363 wd_15 (wd_c wd_364)) rfl rfl rfl dv_yX3_exchanged_1 ⟨Nat.le_of_ble_eq_true rfl, Nat.le_of_ble_eq_true rfl⟩) ⟨Pw.fb, recvX3 hK hP (q0 := 5) rfl, fun U hU hW => Pw.to (hP.ms _ hMs) (hD.ms _ hMs) (hK.ms [false, false, false, false, false, false, false, false, false, false, false, false, false, false, false, false] rfl) hE hS hFc hU hW⟩ rfl rfl hl.1 rfl (lv_room (Nat.le_of_ble_eq_true rfl)) dX6_court_71 ⟨Nat.le_of_ble_eq_true rfl, Nat.le_of_ble_eq_true rfl⟩) hS (fun q _ h => hFc q h) hFc (fun u ra t H locs ht hvm hw hB hz1 hk1 hS => ?_)
        obtain ⟨era, hB⟩ := hB
        subst era
        obtain ⟨hP, hD⟩ := Bw.goN (ws' := [(oc6 oK oR oC oS oT rK_images iK_imageCount oA oH oL iK_refusal x_6841 x_6842), (oc5 oS rS_worths rS_order rS_left), (arI rS_worths kS_worths 18 fS_worths), (arI rS_order kS_order 72 fS_order), (oc0 oA iA_count rA_nodes rA_olds rA_says), (oc3 oR x_6841 x_6842 x_6843 rR_tape x_6844 x_6845 x_6846 x_6847 y_6848 x_6849 x_6850 oC x_6851 rR_names rR_keys), (arI rR_tape kR_tape 900 fR_tape), (arL rR_names kR_names 18 f_6852), (arL rR_keys kR_keys 10 fR_keys), (oc1 oD x_6853 x_6854 x_6855 x_6856 x_6857 x_6858 x_6859 x_6860 rD_kind rD_parts rD_partNodes rD_weights rD_weightSums rD_toldWorths rD_steps rD_below rD_above rD_unsureWords rD_unsureWorths), (arI rD_kind kD_kind 18 f_6861), (arI rD_parts kD_parts 18 f_6862), (arI rD_partNodes kD_partNodes 72 f_6863), (arI rD_weights kD_weights 72 f_6864), (arI rD_weightSums kD_weightSums 18 f_6865), (arI rD_toldWorths kD_toldWorths 18 f_6866), (arI rD_steps kD_steps 18 f_6867), (arI rD_below kD_below 18 f_6868), (arI rD_above kD_above 18 f_6869), (arI rD_unsureWords kD_unsureWords 4 f_6870), (arI rD_unsureWorths kD_unsureWorths 4 f_6871)]) hB rfl ht hP hD _ hMs hk1 hFc rfl
        clear hz1 hk1 hvm ht hB hMs
        refine va_put (D := (dC, dI)) (ci := 6) (v := .ref oD) (ty := .object "KingHears$Court") (C := RX6) (T := TX6) (N := 12) hx hb hts inX6 tyX6 tyX6_ok nmX6 hown hK hP hD hS 0 rfl rfl 1 (by decide) (hts _ wd_20) (fun _ h9 => h9) rfl (by decide +kernel) rfl rfl (Nat.le_of_ble_eq_true rfl) dX6_court_74 (fun H locs hP hD hS => ?_)
        obtain ⟨hP, hD⟩ := wl2 (ws' := [(oc6 oK oR oD oS oT rK_images iK_imageCount oA oH oL iK_refusal x_6841 x_6842), (oc5 oS rS_worths rS_order rS_left), (arI rS_worths kS_worths 18 fS_worths), (arI rS_order kS_order 72 fS_order), (oc0 oA iA_count rA_nodes rA_olds rA_says), (oc3 oR x_6841 x_6842 x_6843 rR_tape x_6844 x_6845 x_6846 x_6847 y_6848 x_6849 x_6850 oC x_6851 rR_names rR_keys), (arI rR_tape kR_tape 900 fR_tape), (arL rR_names kR_names 18 f_6852), (arL rR_keys kR_keys 10 fR_keys), (oc1 oD x_6853 x_6854 x_6855 x_6856 x_6857 x_6858 x_6859 x_6860 rD_kind rD_parts rD_partNodes rD_weights rD_weightSums rD_toldWorths rD_steps rD_below rD_above rD_unsureWords rD_unsureWorths), (arI rD_kind kD_kind 18 f_6861), (arI rD_parts kD_parts 18 f_6862), (arI rD_partNodes kD_partNodes 72 f_6863), (arI rD_weights kD_weights 72 f_6864), (arI rD_weightSums kD_weightSums 18 f_6865), (arI rD_toldWorths kD_toldWorths 18 f_6866), (arI rD_steps kD_steps 18 f_6867), (arI rD_below kD_below 18 f_6868), (arI rD_above kD_above 18 f_6869), (arI rD_unsureWords kD_unsureWords 4 f_6870), (arI rD_unsureWorths kD_unsureWorths 4 f_6871)]) hP hD rfl
        refine lv_aload_n hx hb dX6_court_77 rfl (lv_at hl 1 rfl) ?_
        refine va_get (D := (dC, dI)) (ci := 6) (v := .ref oS) (C := RX6) (T := TX6) (N := 12) hx hb hts inX6 hown hK hP 0 rfl rfl 2 (by decide) (hts _ wd_24) (fun _ h9 => h9) rfl dX6_court_78 ?_
        refine lv_aload_n hx hb dX6_court_81 rfl (lv_at hl 1 rfl) ?_
        refine va_get (D := (dC, dI)) (ci := 6) (v := .ref oD) (C := RX6) (T := TX6) (N := 12) hx hb hts inX6 hown hK hP 0 rfl rfl 1 (by decide) (hts _ wd_20) (fun _ h9 => h9) rfl dX6_court_82 ?_
        have hMs := ml_of hD [false, true, true, true, false, false, false, false, false, true, false, false, false, false, false, true, false, false, false, false, false] (wc := [(oc5 oS rS_worths rS_order rS_left), (arI rS_worths kS_worths 18 fS_worths), (arI rS_order kS_order 72 fS_order), (oc1 oD x_6853 x_6854 x_6855 x_6856 x_6857 x_6858 x_6859 x_6860 rD_kind rD_parts rD_partNodes rD_weights rD_weightSums rD_toldWorths rD_steps rD_below rD_above rD_unsureWords rD_unsureWorths), (arI rD_toldWorths kD_toldWorths 18 f_6866)]) rfl
        have hFc := va_freeM hD hS hA _ hMs
        refine va_callv (va_runV (As := [.ref oD]) (rest := []) ⟨hx, hb, hml, hown, hts⟩ (tX5_standAsTold l dC dI _ oS rS_worths fS_worths kS_worths rS_order fS_order kS_order rS_left oD x_6853 x_6854 x_6855 x_6856 x_6857 x_6858 x_6859 x_6860 rD_kind rD_parts rD_partNodes rD_weights rD_weightSums rD_toldWorths f_6866 kD_toldWorths rD_steps rD_below rD_above rD_unsureWords rD_unsureWorths a_fS_order b_x_6853 b_x_6856 b_x_6858) (cwV 1 hts (wd_V wd_365 wd_366 wd_367 wd_23 (wd_c wd_368)) rfl rfl rfl dv_yX5_standAsTold_1 ⟨Nat.le_of_ble_eq_true rfl, Nat.le_of_ble_eq_true rfl⟩) ⟨Pw.fb, recvX5 hK hP (q0 := 1) rfl, fun U hU hW => Pw.to (hP.ms _ hMs) (hD.ms _ hMs) (hK.ms [true, true, false, false, false, false, false, false, false, false, true, false, false, false, false, false] rfl) hE hS hFc hU hW⟩ rfl rfl hl.1 rfl (lv_room (Nat.le_of_ble_eq_true rfl)) dX6_court_85 ⟨Nat.le_of_ble_eq_true rfl, Nat.le_of_ble_eq_true rfl⟩) hS (fun q _ h => hFc q h) hFc (fun u t H locs ht hvm hw hB hz1 hk1 hS => ?_)
        refine ex_2_2 hB (fun f_6874 f_6875 a_f_6875 e_f_6874_0 hB => ?_)
        obtain ⟨hP, hD⟩ := Bw.goN (ws' := [(oc6 oK oR oD oS oT rK_images iK_imageCount oA oH oL iK_refusal x_6841 x_6842), (oc5 oS rS_worths rS_order rS_left), (arI rS_worths kS_worths 18 f_6874), (arI rS_order kS_order 72 f_6875), (oc0 oA iA_count rA_nodes rA_olds rA_says), (oc3 oR x_6841 x_6842 x_6843 rR_tape x_6844 x_6845 x_6846 x_6847 y_6848 x_6849 x_6850 oC x_6851 rR_names rR_keys), (arI rR_tape kR_tape 900 fR_tape), (arL rR_names kR_names 18 f_6852), (arL rR_keys kR_keys 10 fR_keys), (oc1 oD x_6853 x_6854 x_6855 x_6856 x_6857 x_6858 x_6859 x_6860 rD_kind rD_parts rD_partNodes rD_weights rD_weightSums rD_toldWorths rD_steps rD_below rD_above rD_unsureWords rD_unsureWorths), (arI rD_kind kD_kind 18 f_6861), (arI rD_parts kD_parts 18 f_6862), (arI rD_partNodes kD_partNodes 72 f_6863), (arI rD_weights kD_weights 72 f_6864), (arI rD_weightSums kD_weightSums 18 f_6865), (arI rD_toldWorths kD_toldWorths 18 f_6866), (arI rD_steps kD_steps 18 f_6867), (arI rD_below kD_below 18 f_6868), (arI rD_above kD_above 18 f_6869), (arI rD_unsureWords kD_unsureWords 4 f_6870), (arI rD_unsureWorths kD_unsureWorths 4 f_6871)]) hB rfl ht hP hD _ hMs hk1 hFc rfl
        clear hz1 hk1 hvm ht hB hMs
        have hG := hG.trans (un2_eq e_f_6874_0)
        refine lv_aload_n hx hb dX6_court_88 rfl (lv_at hl 1 rfl) ?_
        refine va_get (D := (dC, dI)) (ci := 6) (v := .ref oA) (C := RX6) (T := TX6) (N := 12) hx hb hts inX6 hown hK hP 0 rfl rfl 6 (by decide) (hts _ wd_30) (fun _ h9 => h9) rfl dX6_court_89 ?_
        have hMs := ml_of hD [false, false, false, false, true, false, false, false, false, false, false, false, false, false, false, false, false, false, false, false, false] (wc := [(oc0 oA iA_count rA_nodes rA_olds rA_says)]) rfl
        have hFc := va_freeM hD hS hA _ hMs
        refine va_callv (va_runV (As := []) (rest := []) ⟨hx, hb, hml, hown, hts⟩ (tX0_forget l dC dI _ oA iA_count rA_nodes rA_olds rA_says b_iA_count) (cwV 0 hts (wd_V wd_370 wd_371 wd_372 wd_29 (wd_c wd_373)) rfl rfl rfl dv_yX0_forget_0 ⟨Nat.le_of_ble_eq_true rfl, Nat.le_of_ble_eq_true rfl⟩) ⟨Pw.fb, recvX0 hK hP (q0 := 4) rfl, fun U hU hW => Pw.to (hP.ms _ hMs) (hD.ms _ hMs) (hK.ms [false, false, false, false, false, false, false, false, false, false, false, false, false, false, false, false] rfl) hE hS hFc hU hW⟩ rfl rfl hl.1 rfl (lv_room (Nat.le_of_ble_eq_true rfl)) dX6_court_92 ⟨Nat.le_of_ble_eq_true rfl, Nat.le_of_ble_eq_true rfl⟩) hS (fun q _ h => hFc q h) hFc (fun u t H locs ht hvm hw hB hz1 hk1 hS => ?_)
        refine ex_1_2 hB (fun x_6876 b_x_6876 e_x_6876_0 hB => ?_)
        obtain ⟨hP, hD⟩ := Bw.goN (ws' := [(oc6 oK oR oD oS oT rK_images iK_imageCount oA oH oL iK_refusal x_6841 x_6842), (oc5 oS rS_worths rS_order rS_left), (arI rS_worths kS_worths 18 f_6874), (arI rS_order kS_order 72 f_6875), (oc0 oA x_6876 rA_nodes rA_olds rA_says), (oc3 oR x_6841 x_6842 x_6843 rR_tape x_6844 x_6845 x_6846 x_6847 y_6848 x_6849 x_6850 oC x_6851 rR_names rR_keys), (arI rR_tape kR_tape 900 fR_tape), (arL rR_names kR_names 18 f_6852), (arL rR_keys kR_keys 10 fR_keys), (oc1 oD x_6853 x_6854 x_6855 x_6856 x_6857 x_6858 x_6859 x_6860 rD_kind rD_parts rD_partNodes rD_weights rD_weightSums rD_toldWorths rD_steps rD_below rD_above rD_unsureWords rD_unsureWorths), (arI rD_kind kD_kind 18 f_6861), (arI rD_parts kD_parts 18 f_6862), (arI rD_partNodes kD_partNodes 72 f_6863), (arI rD_weights kD_weights 72 f_6864), (arI rD_weightSums kD_weightSums 18 f_6865), (arI rD_toldWorths kD_toldWorths 18 f_6866), (arI rD_steps kD_steps 18 f_6867), (arI rD_below kD_below 18 f_6868), (arI rD_above kD_above 18 f_6869), (arI rD_unsureWords kD_unsureWords 4 f_6870), (arI rD_unsureWorths kD_unsureWorths 4 f_6871)]) hB rfl ht hP hD _ hMs hk1 hFc rfl
        clear hz1 hk1 hvm ht hB hMs
        have hG := hG.trans (lt_eq e_x_6876_0.symm)
        refine lv_aload_n hx hb dX6_court_95 rfl (lv_at hl 1 rfl) ?_
        refine lv_iconst (v := 0) hx hb dX6_court_96 (by decide) ?_
        refine va_put (D := (dC, dI)) (ci := 6) (v := .int 0) (ty := .int) (C := RX6) (T := TX6) (N := 12) hx hb hts inX6 tyX6 tyX6_ok nmX6 hown hK hP hD hS 0 rfl rfl 5 (by decide) (hts _ wd_194) (fun _ h9 => h9) rfl (by decide +kernel) rfl rfl (Nat.le_of_ble_eq_true rfl) dX6_court_97 (fun H locs hP hD hS => ?_)
        obtain ⟨hP, hD⟩ := wl2 (ws' := [(oc6 oK oR oD oS oT rK_images 0 oA oH oL iK_refusal x_6841 x_6842), (oc5 oS rS_worths rS_order rS_left), (arI rS_worths kS_worths 18 f_6874), (arI rS_order kS_order 72 f_6875), (oc0 oA x_6876 rA_nodes rA_olds rA_says), (oc3 oR x_6841 x_6842 x_6843 rR_tape x_6844 x_6845 x_6846 x_6847 y_6848 x_6849 x_6850 oC x_6851 rR_names rR_keys), (arI rR_tape kR_tape 900 fR_tape), (arL rR_names kR_names 18 f_6852), (arL rR_keys kR_keys 10 fR_keys), (oc1 oD x_6853 x_6854 x_6855 x_6856 x_6857 x_6858 x_6859 x_6860 rD_kind rD_parts rD_partNodes rD_weights rD_weightSums rD_toldWorths rD_steps rD_below rD_above rD_unsureWords rD_unsureWorths), (arI rD_kind kD_kind 18 f_6861), (arI rD_parts kD_parts 18 f_6862), (arI rD_partNodes kD_partNodes 72 f_6863), (arI rD_weights kD_weights 72 f_6864), (arI rD_weightSums kD_weightSums 18 f_6865), (arI rD_toldWorths kD_toldWorths 18 f_6866), (arI rD_steps kD_steps 18 f_6867), (arI rD_below kD_below 18 f_6868), (arI rD_above kD_above 18 f_6869), (arI rD_unsureWords kD_unsureWords 4 f_6870), (arI rD_unsureWorths kD_unsureWorths 4 f_6871)]) hP hD rfl
        refine lv_aload_n hx hb dX6_court_100 rfl (lv_at hl 1 rfl) ?_
        refine lv_iconst (v := 0) hx hb dX6_court_101 (by decide) ?_
        refine va_put (D := (dC, dI)) (ci := 6) (v := .int 0) (ty := .int) (C := RX6) (T := TX6) (N := 12) hx hb hts inX6 tyX6 tyX6_ok nmX6 hown hK hP hD hS 0 rfl rfl 9 (by decide) (hts _ wd_195) (fun _ h9 => h9) rfl (by decide +kernel) rfl rfl (Nat.le_of_ble_eq_true rfl) dX6_court_102 (fun H locs hP hD hS => ?_)
        obtain ⟨hP, hD⟩ := wl2 (ws' := [(oc6 oK oR oD oS oT rK_images 0 oA oH oL 0 x_6841 x_6842), (oc5 oS rS_worths rS_order rS_left), (arI rS_worths kS_worths 18 f_6874), (arI rS_order kS_order 72 f_6875), (oc0 oA x_6876 rA_nodes rA_olds rA_says), (oc3 oR x_6841 x_6842 x_6843 rR_tape x_6844 x_6845 x_6846 x_6847 y_6848 x_6849 x_6850 oC x_6851 rR_names rR_keys), (arI rR_tape kR_tape 900 fR_tape), (arL rR_names kR_names 18 f_6852), (arL rR_keys kR_keys 10 fR_keys), (oc1 oD x_6853 x_6854 x_6855 x_6856 x_6857 x_6858 x_6859 x_6860 rD_kind rD_parts rD_partNodes rD_weights rD_weightSums rD_toldWorths rD_steps rD_below rD_above rD_unsureWords rD_unsureWorths), (arI rD_kind kD_kind 18 f_6861), (arI rD_parts kD_parts 18 f_6862), (arI rD_partNodes kD_partNodes 72 f_6863), (arI rD_weights kD_weights 72 f_6864), (arI rD_weightSums kD_weightSums 18 f_6865), (arI rD_toldWorths kD_toldWorths 18 f_6866), (arI rD_steps kD_steps 18 f_6867), (arI rD_below kD_below 18 f_6868), (arI rD_above kD_above 18 f_6869), (arI rD_unsureWords kD_unsureWords 4 f_6870), (arI rD_unsureWorths kD_unsureWorths 4 f_6871)]) hP hD rfl
        refine lv_aload_n hx hb dX6_court_105 rfl (lv_at hl 1 rfl) ?_
        refine va_get (D := (dC, dI)) (ci := 6) (v := .ref oD) (C := RX6) (T := TX6) (N := 12) hx hb hts inX6 hown hK hP 0 rfl rfl 1 (by decide) (hts _ wd_20) (fun _ h9 => h9) rfl dX6_court_106 ?_
        refine va_get (D := (dC, dI)) (ci := 1) (v := .int x_6853) (C := RX1) (T := TX1) (N := 19) hx hb hts inX1 hown hK hP 9 rfl rfl 0 (by decide) (hts _ wd_196) (fun _ h9 => h9) rfl dX6_court_109 ?_
        exact wq_i hx hb hr (cI x_6853) ⟨⟨trivial, trivial⟩, (cI_of x_6853)⟩ (fun t ht hW => ⟨0, 0, x_6841, x_6842, f_6874, f_6875, x_6876, x_6841, x_6842, x_6843, x_6844, x_6845, x_6846, x_6847, y_6848, x_6849, x_6850, x_6851, f_6852, x_6853, x_6854, x_6855, x_6856, x_6857, x_6858, x_6859, x_6860, f_6861, f_6862, f_6863, f_6864, f_6865, f_6866, f_6867, f_6868, f_6869, f_6870, f_6871, (by decide), a_f_6875, ⟨b_x_6876.1, (om_b868baad b_x_6876.2)⟩, ⟨b_x_6843.1, (om_899216b5 b_x_6843.2)⟩, b_x_6851, b_x_6853, b_x_6856, b_x_6858, a_f_6862, a_f_6863, a_f_6870, (by first | omega | decide | assumption), (cI_tup hG), (Or.inr (⟨⟨by rw [← cI_of]; omega, by omega⟩, Bw.to hP hD hK ht hW⟩))⟩) hS dX6_court_112 hlocks
      · skip
        have hG := hG.trans (if_pos c_6873)
        have gc_6873 := ti_eq c_6873 rfl kc_0
        refine lv_aload_n hx hb dX6_court_56 rfl (lv_at hl 1 rfl) ?_
        refine lv_iconst (v := 4) hx hb dX6_court_57 (by decide) ?_
        have hMs := ml_of hD [true, false, false, false, false, false, false, false, false, false, false, false, false, false, false, false, false, false, false, false, false] (wc := [(oc6 oK oR oC oS oT rK_images iK_imageCount oA oH oL iK_refusal x_6841 x_6842)]) rfl
        have hFc := va_freeM hD hS hA _ hMs
        refine va_calli (va_runV (As := [.int 4]) (rest := []) ⟨hx, hb, hml, hown, hts⟩ (tX6_refuse l dC dI _ oK oR oC oS oT rK_images iK_imageCount oA oH oL iK_refusal x_6841 x_6842 4 b_iK_imageCount) (cwV 1 hts (wd_V wd_197 wd_198 wd_199 wd_2 (wd_c wd_200)) rfl rfl rfl dv_yX6_refuse_1 ⟨Nat.le_of_ble_eq_true rfl, Nat.le_of_ble_eq_true rfl⟩) ⟨Pw.fb, recvX6 hK hP (q0 := 0) rfl, fun U hU hW => Pw.to (hP.ms _ hMs) (hD.ms _ hMs) (hK.ms [false, false, false, false, false, false, false, false, false, false, false, false, false, false, false, false] rfl) hE hS hFc hU hW⟩ rfl rfl hl.1 rfl (lv_room (Nat.le_of_ble_eq_true rfl)) dX6_court_58 ⟨Nat.le_of_ble_eq_true rfl, Nat.le_of_ble_eq_true rfl⟩) hS (fun q _ h => hFc q h) hFc (fun r u t H locs ht hvm hw hB hz1 hk1 hS => ?_)
        have hru9 := hw.2
        have hw := hw.1
        refine ex_1_1 hB (fun x_6877 e_x_6877_0 hB => ?_)
        obtain ⟨hP, hD⟩ := Bw.goN (ws' := [(oc6 oK oR oC oS oT rK_images iK_imageCount oA oH oL x_6877 x_6841 x_6842), (oc5 oS rS_worths rS_order rS_left), (arI rS_worths kS_worths 18 fS_worths), (arI rS_order kS_order 72 fS_order), (oc0 oA iA_count rA_nodes rA_olds rA_says), (oc3 oR x_6841 x_6842 x_6843 rR_tape x_6844 x_6845 x_6846 x_6847 y_6848 x_6849 x_6850 oD x_6851 rR_names rR_keys), (arI rR_tape kR_tape 900 fR_tape), (arL rR_names kR_names 18 f_6852), (arL rR_keys kR_keys 10 fR_keys), (oc1 oD x_6853 x_6854 x_6855 x_6856 x_6857 x_6858 x_6859 x_6860 rD_kind rD_parts rD_partNodes rD_weights rD_weightSums rD_toldWorths rD_steps rD_below rD_above rD_unsureWords rD_unsureWorths), (arI rD_kind kD_kind 18 f_6861), (arI rD_parts kD_parts 18 f_6862), (arI rD_partNodes kD_partNodes 72 f_6863), (arI rD_weights kD_weights 72 f_6864), (arI rD_weightSums kD_weightSums 18 f_6865), (arI rD_toldWorths kD_toldWorths 18 f_6866), (arI rD_steps kD_steps 18 f_6867), (arI rD_below kD_below 18 f_6868), (arI rD_above kD_above 18 f_6869), (arI rD_unsureWords kD_unsureWords 4 f_6870), (arI rD_unsureWorths kD_unsureWorths 4 f_6871)]) hB rfl ht hP hD _ hMs hk1 hFc rfl
        clear hz1 hk1 hvm ht hB hMs
        rw [← hru9] at e_x_6877_0
        obtain ⟨x_6878, rfl⟩ : ∃ z, z = r := ⟨_, rfl⟩
        have hG := hG.trans (un2_eq e_x_6877_0)
        have ux_6878 := hw.2
        exact wq_i hx hb hr (cI x_6878) ⟨⟨trivial, trivial⟩, (cI_of x_6878)⟩ (fun t ht hW => ⟨iK_imageCount, x_6877, x_6841, x_6842, fS_worths, fS_order, iA_count, x_6841, x_6842, x_6843, x_6844, x_6845, x_6846, x_6847, y_6848, x_6849, x_6850, x_6851, f_6852, x_6853, x_6854, x_6855, x_6856, x_6857, x_6858, x_6859, x_6860, f_6861, f_6862, f_6863, f_6864, f_6865, f_6866, f_6867, f_6868, f_6869, f_6870, f_6871, b_iK_imageCount, a_fS_order, b_iA_count, ⟨b_x_6843.1, (om_899216b5 b_x_6843.2)⟩, b_x_6851, b_x_6853, b_x_6856, b_x_6858, a_f_6862, a_f_6863, a_f_6870, (by first | omega | decide | assumption), (cI_tup hG), (Or.inl (⟨(by rw [← cI_of]; omega), Bw.to hP hD hK ht hW⟩))⟩) hS dX6_court_61 hlocks
    · skip
      have hG := hG.trans (if_neg c_6840)
      have gc_6840 := ti_nle c_6840 rfl rfl
      refine lv_aload_n hx hb dX6_court_15 rfl (lv_at hl 0 rfl) ?_
      refine lv_iconst (v := 2) hx hb dX6_court_16 (by decide) ?_
      have hMs := ml_of hD [true, false, false, false, false, false, false, false, false, false, false, false, false, false, false, false, false, false, false, false, false] (wc := [(oc6 oK oR oC oS oT rK_images iK_imageCount oA oH oL iK_refusal iK_latestFault iK_latestPlace)]) rfl
      have hFc := va_freeM hD hS hA _ hMs
      refine va_calli (va_runV (As := [.int 2]) (rest := []) ⟨hx, hb, hml, hown, hts⟩ (tX6_refuse l dC dI _ oK oR oC oS oT rK_images iK_imageCount oA oH oL iK_refusal iK_latestFault iK_latestPlace 2 b_iK_imageCount) (cwV 1 hts (wd_V wd_197 wd_198 wd_199 wd_2 (wd_c wd_200)) rfl rfl rfl dv_yX6_refuse_1 ⟨Nat.le_of_ble_eq_true rfl, Nat.le_of_ble_eq_true rfl⟩) ⟨Pw.fb, recvX6 hK hP (q0 := 0) rfl, fun U hU hW => Pw.to (hP.ms _ hMs) (hD.ms _ hMs) (hK.ms [false, false, false, false, false, false, false, false, false, false, false, false, false, false, false, false] rfl) hE hS hFc hU hW⟩ rfl rfl hl.1 rfl (lv_room (Nat.le_of_ble_eq_true rfl)) dX6_court_17 ⟨Nat.le_of_ble_eq_true rfl, Nat.le_of_ble_eq_true rfl⟩) hS (fun q _ h => hFc q h) hFc (fun r u t H locs ht hvm hw hB hz1 hk1 hS => ?_)
      have hru9 := hw.2
      have hw := hw.1
      refine ex_1_1 hB (fun x_6879 e_x_6879_0 hB => ?_)
      obtain ⟨hP, hD⟩ := Bw.goN (ws' := [(oc6 oK oR oC oS oT rK_images iK_imageCount oA oH oL x_6879 iK_latestFault iK_latestPlace), (oc5 oS rS_worths rS_order rS_left), (arI rS_worths kS_worths 18 fS_worths), (arI rS_order kS_order 72 fS_order), (oc0 oA iA_count rA_nodes rA_olds rA_says), (oc3 oR iR_faultNumber iR_faultPlace iR_tapeSize rR_tape iR_end iR_tokenKind iR_tokenFrom iR_tokenTo iR_tokenName iR_tokenKey iR_tokenWhole oD iR_courtTold rR_names rR_keys), (arI rR_tape kR_tape 900 fR_tape), (arL rR_names kR_names 18 fR_names), (arL rR_keys kR_keys 10 fR_keys), (oc1 oD iD_nodes iD_words iD_chances iD_unsures iD_slips iD_throneNode iD_saidWorth iD_unit rD_kind rD_parts rD_partNodes rD_weights rD_weightSums rD_toldWorths rD_steps rD_below rD_above rD_unsureWords rD_unsureWorths), (arI rD_kind kD_kind 18 fD_kind), (arI rD_parts kD_parts 18 fD_parts), (arI rD_partNodes kD_partNodes 72 fD_partNodes), (arI rD_weights kD_weights 72 fD_weights), (arI rD_weightSums kD_weightSums 18 fD_weightSums), (arI rD_toldWorths kD_toldWorths 18 fD_toldWorths), (arI rD_steps kD_steps 18 fD_steps), (arI rD_below kD_below 18 fD_below), (arI rD_above kD_above 18 fD_above), (arI rD_unsureWords kD_unsureWords 4 fD_unsureWords), (arI rD_unsureWorths kD_unsureWorths 4 fD_unsureWorths)]) hB rfl ht hP hD _ hMs hk1 hFc rfl
      clear hz1 hk1 hvm ht hB hMs
      rw [← hru9] at e_x_6879_0
      obtain ⟨x_6880, rfl⟩ : ∃ z, z = r := ⟨_, rfl⟩
      have hG := hG.trans (un2_eq e_x_6879_0)
      have ux_6880 := hw.2
      exact wq_i hx hb hr (cI x_6880) ⟨⟨trivial, trivial⟩, (cI_of x_6880)⟩ (fun t ht hW => ⟨iK_imageCount, x_6879, iK_latestFault, iK_latestPlace, fS_worths, fS_order, iA_count, iR_faultNumber, iR_faultPlace, iR_tapeSize, iR_end, iR_tokenKind, iR_tokenFrom, iR_tokenTo, iR_tokenName, iR_tokenKey, iR_tokenWhole, iR_courtTold, fR_names, iD_nodes, iD_words, iD_chances, iD_unsures, iD_slips, iD_throneNode, iD_saidWorth, iD_unit, fD_kind, fD_parts, fD_partNodes, fD_weights, fD_weightSums, fD_toldWorths, fD_steps, fD_below, fD_above, fD_unsureWords, fD_unsureWorths, b_iK_imageCount, a_fS_order, b_iA_count, b_iR_tapeSize, b_iR_courtTold, b_iD_nodes, b_iD_unsures, b_iD_throneNode, a_fD_parts, a_fD_partNodes, a_fD_unsureWords, (by first | omega | decide | assumption), (cI_tup hG), (Or.inl (⟨(by rw [← cI_of]; omega), Bw.to hP hD hK ht hW⟩))⟩) hS dX6_court_20 hlocks
