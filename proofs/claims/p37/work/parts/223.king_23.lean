set_option maxHeartbeats 4000000 in
set_option maxRecDepth 100000 in
theorem tX6_speaks (l : Launch) (dC : Nat → ClassId) (dI : Nat → Nat → Nat) (sz : Nat) (oK : Nat) (oR : Nat) (oC : Nat) (oS : Nat) (oT : Nat) (rK_images : Nat) (iK_imageCount : Int32) (oA : Nat) (oH : Nat) (oL : Nat) (iK_refusal : Int32) (iK_latestFault : Int32) (iK_latestPlace : Int32) (iC_nodes : Int32) (iC_words : Int32) (iC_chances : Int32) (iC_unsures : Int32) (iC_slips : Int32) (iC_throneNode : Int32) (iC_saidWorth : Int32) (iC_unit : Int32) (rC_kind : Nat) (rC_parts : Nat) (rC_partNodes : Nat) (rC_weights : Nat) (rC_weightSums : Nat) (rC_toldWorths : Nat) (rC_steps : Nat) (rC_below : Nat) (rC_above : Nat) (rC_unsureWords : Nat) (rC_unsureWorths : Nat) (p0 : Int32) (p1 : Int32) (p2 : Int32) (p3 : Int32) (b_iK_imageCount : 0 ≤ iK_imageCount.toInt ∧ iK_imageCount.toInt ≤ 3) (b_iC_nodes : 0 ≤ iC_nodes.toInt ∧ iC_nodes.toInt ≤ 18) (b_iC_unsures : 0 ≤ iC_unsures.toInt ∧ iC_unsures.toInt ≤ 4) (b_iC_throneNode : (-1) ≤ iC_throneNode.toInt ∧ iC_throneNode.toInt ≤ 17)  : Met l yX6_speaks (Cond.code yX6_speaks cX6_speaks 5 (some .int) :: wG) ({ frames := 2, cells := 0, slots := 0, locals := 43 }) (va_Pc [.ref oK, .int p0, .int p1, .int p2, .int p3] (Pw dC dI sz [(oc6 oK oR oC oS oT rK_images iK_imageCount oA oH oL iK_refusal iK_latestFault iK_latestPlace), (oc1 oC iC_nodes iC_words iC_chances iC_unsures iC_slips iC_throneNode iC_saidWorth iC_unit rC_kind rC_parts rC_partNodes rC_weights rC_weightSums rC_toldWorths rC_steps rC_below rC_above rC_unsureWords rC_unsureWorths)] [])) (va_Qi (fun (r : Int32) (u : Nat) => (True ∧ True) ∧ r = Int32.ofNat u) (fun (u : Nat) (t : State) => ∃ (niK_refusal : Int32), (PX6_speaks iC_nodes p0 p1 p2 p3 = (Int32.ofNat u, niK_refusal)) ∧ Bw dC dI (va_A [(oc6 oK oR oC oS oT rK_images iK_imageCount oA oH oL iK_refusal iK_latestFault iK_latestPlace), (oc1 oC iC_nodes iC_words iC_chances iC_unsures iC_slips iC_throneNode iC_saidWorth iC_unit rC_kind rC_parts rC_partNodes rC_weights rC_weightSums rC_toldWorths rC_steps rC_below rC_above rC_unsureWords rC_unsureWorths)] sz) [(oc6 oK oR oC oS oT rK_images iK_imageCount oA oH oL niK_refusal iK_latestFault iK_latestPlace), (oc1 oC iC_nodes iC_words iC_chances iC_unsures iC_slips iC_throneNode iC_saidWorth iC_unit rC_kind rC_parts rC_partNodes rC_weights rC_weightSums rC_toldWorths rC_steps rC_below rC_above rC_unsureWords rC_unsureWorths)] [] t) (va_A [(oc6 oK oR oC oS oT rK_images iK_imageCount oA oH oL iK_refusal iK_latestFault iK_latestPlace), (oc1 oC iC_nodes iC_words iC_chances iC_unsures iC_slips iC_throneNode iC_saidWorth iC_unit rC_kind rC_parts rC_partNodes rC_weights rC_weightSums rC_toldWorths rC_steps rC_below rC_above rC_unsureWords rC_unsureWorths)] sz)) 0 0 (va_A [(oc6 oK oR oC oS oT rK_images iK_imageCount oA oH oL iK_refusal iK_latestFault iK_latestPlace), (oc1 oC iC_nodes iC_words iC_chances iC_unsures iC_slips iC_throneNode iC_saidWorth iC_unit rC_kind rC_parts rC_partNodes rC_weights rC_weightSums rC_toldWorths rC_steps rC_below rC_above rC_unsureWords rC_unsureWorths)] sz) := by
  refine Met.ofW (cc := cX6_speaks) (maxL := 5) (ret := (some .int)) pnX6 rfl ?_
  intro p e s m args below meth c s₁ B hml hv
  obtain ⟨rfl, hsz, hP, hK, hD0, hE⟩ := hv
  have hx := B.exec
  have hb := B.bytes
  have hr := B.returns
  have hts : ∀ w ∈ wG, w.before ([.ref oK, .int p0, .int p1, .int p2, .int p3] : List Value).toArray s = true := fun w h => atoms_spec (ws := Cond.code yX6_speaks cX6_speaks 5 (some .int) :: wG) B.pre w (List.mem_cons_of_mem _ h)
  have hown : s.vm.findClass RX6 = some m.cls := own_of B.named rfl
  have hlocks := B.notSynchronized
  subst hsz
  have hD := hD0.self (sz := s.heap.size)
  generalize hAe : va_A [(oc6 oK oR oC oS oT rK_images iK_imageCount oA oH oL iK_refusal iK_latestFault iK_latestPlace), (oc1 oC iC_nodes iC_words iC_chances iC_unsures iC_slips iC_throneNode iC_saidWorth iC_unit rC_kind rC_parts rC_partNodes rC_weights rC_weightSums rC_toldWorths rC_steps rC_below rC_above rC_unsureWords rC_unsureWorths)] s.heap.size = A at hD hE ⊢
  have hA : ∀ q : Nat, s.heap.size ≤ q → A q := fun q h => by rw [← hAe]; exact Or.inr h
  have hS : va_S A s.heap s.heap [] := va_S.rf
  have hl := lv_entry ([.ref oK, .int p0, .int p1, .int p2, .int p3]) (n := 5) (Nat.le_of_ble_eq_true rfl)
  rw [lg_entry_eq]
  generalize (lg_sl ([.ref oK, .int p0, .int p1, .int p2, .int p3]) ++ List.replicate (5 - (lg_sl ([.ref oK, .int p0, .int p1, .int p2, .int p3])).length) Slot.unset).toArray = ls at hl ⊢
  have hl : lv_has ls 5 [(0, .ref oK), (1, .int p0), (2, .int p1), (3, .int p2), (4, .int p3)] := hl
  have hG := PX6_speaks_eq iC_nodes p0 p1 p2 p3
  refine lv_aload_n hx hb dX6_speaks_0 rfl (lv_at hl 0 rfl) ?_
  refine lv_iload_n hx hb dX6_speaks_1 rfl (lv_at hl 1 rfl) ?_
  refine lv_iconst (v := 0) hx hb dX6_speaks_2 (by decide) ?_
  refine lv_bipush (v := 9) hx hb dX6_speaks_3 (by decide) ?_
  have hFc := va_freeI hD hS hA
  refine va_calli (va_runV (As := [.int p0, .int 0, .int 9]) (rest := []) ⟨hx, hb, hml, hown, hts⟩ (tX6_lacksNumber l dC dI _ oK oR oC oS oT rK_images iK_imageCount oA oH oL iK_refusal iK_latestFault iK_latestPlace iC_nodes iC_words iC_chances iC_unsures iC_slips iC_throneNode iC_saidWorth iC_unit rC_kind rC_parts rC_partNodes rC_weights rC_weightSums rC_toldWorths rC_steps rC_below rC_above rC_unsureWords rC_unsureWorths p0 0 9 b_iK_imageCount b_iC_nodes b_iC_unsures b_iC_throneNode) (cwV 3 hts (wd_V wd_866 wd_867 wd_868 wd_2 (wd_c wd_869)) rfl rfl rfl dv_yX6_lacksNumber_3 ⟨Nat.le_of_ble_eq_true rfl, Nat.le_of_ble_eq_true rfl⟩) ⟨Pw.fb, recvX6 hK hP (q0 := 0) rfl, fun U hU hW => Pw.to hP hD hK hE hS hFc hU hW⟩ rfl rfl hl.1 rfl (lv_room (Nat.le_of_ble_eq_true rfl)) dX6_speaks_5 ⟨Nat.le_of_ble_eq_true rfl, Nat.le_of_ble_eq_true rfl⟩) hS (fun q _ h => hFc q h) hFc (fun r u t H locs ht hvm hw hB hz1 hk1 hS => ?_)
  have hru9 := hw.2
  have hw := hw.1
  refine ex_1_1 hB (fun x_6178 e_x_6178_0 hB => ?_)
  obtain ⟨hP, hD⟩ := Bw.goA (ws' := [(oc6 oK oR oC oS oT rK_images iK_imageCount oA oH oL x_6178 iK_latestFault iK_latestPlace), (oc1 oC iC_nodes iC_words iC_chances iC_unsures iC_slips iC_throneNode iC_saidWorth iC_unit rC_kind rC_parts rC_partNodes rC_weights rC_weightSums rC_toldWorths rC_steps rC_below rC_above rC_unsureWords rC_unsureWorths)]) hB rfl ht hFc rfl
  clear hz1 hk1 hvm ht hB
  rw [← hru9] at e_x_6178_0
  rcases hw.2 with ⟨rfl, hc_6179⟩ | ⟨rfl, hc_6179⟩
  · skip
    have hG := hG.trans (un2_eq e_x_6178_0)
    have hG := hG.trans (if_pos rfl)
    refine lv_if_eq (tgt := 14) hx hb dX6_speaks_8 (by decide) (fun _ => ?_) (fun c => absurd c (by decide))
    refine lv_iload hx hb dX6_speaks_14 (lv_at hl 4 rfl) ?_
    refine lv_if_eq (tgt := 28) hx hb dX6_speaks_16 (by decide) (fun c_6182 => ?_) (fun c_6182 => ?_)
    · skip
      have hG := hG.trans (if_pos c_6182)
      have gc_6182 := ti_eq c_6182 rfl kc_0
      refine lv_iload_n hx hb dX6_speaks_28 rfl (lv_at hl 1 rfl) ?_
      refine lv_iload_n hx hb dX6_speaks_29 rfl (lv_at hl 2 rfl) ?_
      refine lv_iload_n hx hb dX6_speaks_30 rfl (lv_at hl 3 rfl) ?_
      have hFc : ∀ q, va_A [] _ q → A q := fun q h => hA q (Nat.le_trans hS.1 (va_nilA h))
      refine va_calli (va_runS (As := [.int p0, .int p1, .int p2]) (rest := []) ⟨hx, hb, hml, hown, hts⟩ (tX6_shareOf l dC dI _ p0 p1 p2 ) (va_cwS 3 hts (wd_S wd_1290 wd_1291 wd_2 (wd_c wd_1292)) rfl rfl rfl ds_yX6_shareOf_3 ⟨Nat.le_of_ble_eq_true rfl, Nat.le_of_ble_eq_true rfl⟩) ⟨Pw.fb, fun U hU hW => Pn.to hK hE hS hA hU hW⟩ rfl rfl hl.1 rfl (lv_room (Nat.le_of_ble_eq_true rfl)) dX6_speaks_31 ⟨Nat.le_of_ble_eq_true rfl, Nat.le_of_ble_eq_true rfl⟩) hS (fun q _ h => hFc q h) hFc (fun r u t H locs ht hvm hw hB hz1 hk1 hS => ?_)
      obtain ⟨hP, hD, hK⟩ := Bw.same ht hvm hP hD hK hk1 hFc
      clear hz1 hk1 hvm ht hB
      have hq9 := hw.2
      have hw := hw.1
      obtain ⟨x_6183, rfl⟩ : ∃ z, z = r := ⟨_, rfl⟩
      have hq_x_6183 := hq9
      have hG := hG.trans (lt_eq hq_x_6183.symm)
      exact wq_i hx hb hr (cI x_6183) ⟨⟨trivial, trivial⟩, (cI_of x_6183)⟩ (fun t ht hW => ⟨x_6178, (cI_tup hG), Bw.to hP hD hK ht hW⟩) hS dX6_speaks_34 hlocks
    · skip
      have hG := hG.trans (if_neg c_6182)
      have gc_6182 := ti_ne c_6182 rfl kc_0
      refine lv_iload_n hx hb dX6_speaks_19 rfl (lv_at hl 1 rfl) ?_
      refine lv_iload_n hx hb dX6_speaks_20 rfl (lv_at hl 3 rfl) ?_
      refine lv_iload_n hx hb dX6_speaks_21 rfl (lv_at hl 2 rfl) ?_
      have hFc : ∀ q, va_A [] _ q → A q := fun q h => hA q (Nat.le_trans hS.1 (va_nilA h))
      refine va_calli (va_runS (As := [.int p0, .int p2, .int p1]) (rest := []) ⟨hx, hb, hml, hown, hts⟩ (tX6_shareOf l dC dI _ p0 p2 p1 ) (va_cwS 3 hts (wd_S wd_1290 wd_1291 wd_2 (wd_c wd_1292)) rfl rfl rfl ds_yX6_shareOf_3 ⟨Nat.le_of_ble_eq_true rfl, Nat.le_of_ble_eq_true rfl⟩) ⟨Pw.fb, fun U hU hW => Pn.to hK hE hS hA hU hW⟩ rfl rfl hl.1 rfl (lv_room (Nat.le_of_ble_eq_true rfl)) dX6_speaks_22 ⟨Nat.le_of_ble_eq_true rfl, Nat.le_of_ble_eq_true rfl⟩) hS (fun q _ h => hFc q h) hFc (fun r u t H locs ht hvm hw hB hz1 hk1 hS => ?_)
      obtain ⟨hP, hD, hK⟩ := Bw.same ht hvm hP hD hK hk1 hFc
      clear hz1 hk1 hvm ht hB
      have hq9 := hw.2
      have hw := hw.1
      obtain ⟨x_6184, rfl⟩ : ∃ z, z = r := ⟨_, rfl⟩
      have hq_x_6184 := hq9
      have hG := hG.trans (lt_eq hq_x_6184.symm)
      refine lv_goto (tgt := 34) hx hb dX6_speaks_25 (by decide) ?_
      exact wq_i hx hb hr (cI x_6184) ⟨⟨trivial, trivial⟩, (cI_of x_6184)⟩ (fun t ht hW => ⟨x_6178, (cI_tup hG), Bw.to hP hD hK ht hW⟩) hS dX6_speaks_34 hlocks
  · skip
    have hG := hG.trans (un2_eq e_x_6178_0)
    have hG := hG.trans (if_neg (by decide))
    refine lv_if_eq (tgt := 14) hx hb dX6_speaks_8 (by decide) (fun c => absurd c (by decide)) (fun _ => ?_)
    refine lv_bipush (v := (-100)) hx hb dX6_speaks_11 (by decide) ?_
    exact wq_i hx hb hr (cI (-100)) ⟨⟨trivial, trivial⟩, (cI_of (-100))⟩ (fun t ht hW => ⟨x_6178, (cI_tup hG), Bw.to hP hD hK ht hW⟩) hS dX6_speaks_13 hlocks
set_option maxHeartbeats 4000000 in
set_option maxRecDepth 100000 in
theorem tX6_rests (l : Launch) (dC : Nat → ClassId) (dI : Nat → Nat → Nat) (sz : Nat) (oK : Nat) (oR : Nat) (oC : Nat) (oS : Nat) (oT : Nat) (rK_images : Nat) (iK_imageCount : Int32) (oA : Nat) (oH : Nat) (oL : Nat) (iK_refusal : Int32) (iK_latestFault : Int32) (iK_latestPlace : Int32) (iC_nodes : Int32) (iC_words : Int32) (iC_chances : Int32) (iC_unsures : Int32) (iC_slips : Int32) (iC_throneNode : Int32) (iC_saidWorth : Int32) (iC_unit : Int32) (rC_kind : Nat) (rC_parts : Nat) (rC_partNodes : Nat) (rC_weights : Nat) (rC_weightSums : Nat) (rC_toldWorths : Nat) (rC_steps : Nat) (rC_below : Nat) (rC_above : Nat) (rC_unsureWords : Nat) (rC_unsureWorths : Nat) (p0 : Int32) (b_iK_imageCount : 0 ≤ iK_imageCount.toInt ∧ iK_imageCount.toInt ≤ 3) (b_iC_nodes : 0 ≤ iC_nodes.toInt ∧ iC_nodes.toInt ≤ 18) (b_iC_unsures : 0 ≤ iC_unsures.toInt ∧ iC_unsures.toInt ≤ 4) (b_iC_throneNode : (-1) ≤ iC_throneNode.toInt ∧ iC_throneNode.toInt ≤ 17)  : Met l yX6_rests (Cond.code yX6_rests cX6_rests 4 (some .int) :: wG) ({ frames := 2, cells := 0, slots := 0, locals := 44 }) (va_Pc [.ref oK, .int p0] (Pw dC dI sz [(oc6 oK oR oC oS oT rK_images iK_imageCount oA oH oL iK_refusal iK_latestFault iK_latestPlace), (oc1 oC iC_nodes iC_words iC_chances iC_unsures iC_slips iC_throneNode iC_saidWorth iC_unit rC_kind rC_parts rC_partNodes rC_weights rC_weightSums rC_toldWorths rC_steps rC_below rC_above rC_unsureWords rC_unsureWorths)] [])) (va_Qi (fun (r : Int32) (u : Nat) => (True ∧ True) ∧ r = Int32.ofNat u) (fun (u : Nat) (t : State) => ∃ (niK_refusal : Int32), (PX6_rests iC_nodes p0 = (Int32.ofNat u, niK_refusal)) ∧ Bw dC dI (va_A [(oc6 oK oR oC oS oT rK_images iK_imageCount oA oH oL iK_refusal iK_latestFault iK_latestPlace), (oc1 oC iC_nodes iC_words iC_chances iC_unsures iC_slips iC_throneNode iC_saidWorth iC_unit rC_kind rC_parts rC_partNodes rC_weights rC_weightSums rC_toldWorths rC_steps rC_below rC_above rC_unsureWords rC_unsureWorths)] sz) [(oc6 oK oR oC oS oT rK_images iK_imageCount oA oH oL niK_refusal iK_latestFault iK_latestPlace), (oc1 oC iC_nodes iC_words iC_chances iC_unsures iC_slips iC_throneNode iC_saidWorth iC_unit rC_kind rC_parts rC_partNodes rC_weights rC_weightSums rC_toldWorths rC_steps rC_below rC_above rC_unsureWords rC_unsureWorths)] [] t) (va_A [(oc6 oK oR oC oS oT rK_images iK_imageCount oA oH oL iK_refusal iK_latestFault iK_latestPlace), (oc1 oC iC_nodes iC_words iC_chances iC_unsures iC_slips iC_throneNode iC_saidWorth iC_unit rC_kind rC_parts rC_partNodes rC_weights rC_weightSums rC_toldWorths rC_steps rC_below rC_above rC_unsureWords rC_unsureWorths)] sz)) 0 0 (va_A [(oc6 oK oR oC oS oT rK_images iK_imageCount oA oH oL iK_refusal iK_latestFault iK_latestPlace), (oc1 oC iC_nodes iC_words iC_chances iC_unsures iC_slips iC_throneNode iC_saidWorth iC_unit rC_kind rC_parts rC_partNodes rC_weights rC_weightSums rC_toldWorths rC_steps rC_below rC_above rC_unsureWords rC_unsureWorths)] sz) := by
  refine Met.ofW (cc := cX6_rests) (maxL := 4) (ret := (some .int)) pnX6 rfl ?_
  intro p e s m args below meth c s₁ B hml hv
  obtain ⟨rfl, hsz, hP, hK, hD0, hE⟩ := hv
  have hx := B.exec
  have hb := B.bytes
  have hr := B.returns
  have hts : ∀ w ∈ wG, w.before ([.ref oK, .int p0] : List Value).toArray s = true := fun w h => atoms_spec (ws := Cond.code yX6_rests cX6_rests 4 (some .int) :: wG) B.pre w (List.mem_cons_of_mem _ h)
  have hown : s.vm.findClass RX6 = some m.cls := own_of B.named rfl
  have hlocks := B.notSynchronized
  subst hsz
  have hD := hD0.self (sz := s.heap.size)
  generalize hAe : va_A [(oc6 oK oR oC oS oT rK_images iK_imageCount oA oH oL iK_refusal iK_latestFault iK_latestPlace), (oc1 oC iC_nodes iC_words iC_chances iC_unsures iC_slips iC_throneNode iC_saidWorth iC_unit rC_kind rC_parts rC_partNodes rC_weights rC_weightSums rC_toldWorths rC_steps rC_below rC_above rC_unsureWords rC_unsureWorths)] s.heap.size = A at hD hE ⊢
  have hA : ∀ q : Nat, s.heap.size ≤ q → A q := fun q h => by rw [← hAe]; exact Or.inr h
  have hS : va_S A s.heap s.heap [] := va_S.rf
  have hl := lv_entry ([.ref oK, .int p0]) (n := 4) (Nat.le_of_ble_eq_true rfl)
  rw [lg_entry_eq]
  generalize (lg_sl ([.ref oK, .int p0]) ++ List.replicate (4 - (lg_sl ([.ref oK, .int p0])).length) Slot.unset).toArray = ls at hl ⊢
  have hl : lv_has ls 4 [(0, .ref oK), (1, .int p0)] := hl
  have hG := PX6_rests_eq iC_nodes p0
  have rg_p0 := fb_rng p0
  refine lv_aload_n hx hb dX6_rests_0 rfl (lv_at hl 0 rfl) ?_
  refine lv_iload_n hx hb dX6_rests_1 rfl (lv_at hl 1 rfl) ?_
  refine lv_iconst (v := 0) hx hb dX6_rests_2 (by decide) ?_
  refine lv_bipush (v := 9) hx hb dX6_rests_3 (by decide) ?_
  have hFc := va_freeI hD hS hA
  refine va_calli (va_runV (As := [.int p0, .int 0, .int 9]) (rest := []) ⟨hx, hb, hml, hown, hts⟩ (tX6_lacksNumber l dC dI _ oK oR oC oS oT rK_images iK_imageCount oA oH oL iK_refusal iK_latestFault iK_latestPlace iC_nodes iC_words iC_chances iC_unsures iC_slips iC_throneNode iC_saidWorth iC_unit rC_kind rC_parts rC_partNodes rC_weights rC_weightSums rC_toldWorths rC_steps rC_below rC_above rC_unsureWords rC_unsureWorths p0 0 9 b_iK_imageCount b_iC_nodes b_iC_unsures b_iC_throneNode) (cwV 3 hts (wd_V wd_866 wd_867 wd_868 wd_2 (wd_c wd_869)) rfl rfl rfl dv_yX6_lacksNumber_3 ⟨Nat.le_of_ble_eq_true rfl, Nat.le_of_ble_eq_true rfl⟩) ⟨Pw.fb, recvX6 hK hP (q0 := 0) rfl, fun U hU hW => Pw.to hP hD hK hE hS hFc hU hW⟩ rfl rfl hl.1 rfl (lv_room (Nat.le_of_ble_eq_true rfl)) dX6_rests_5 ⟨Nat.le_of_ble_eq_true rfl, Nat.le_of_ble_eq_true rfl⟩) hS (fun q _ h => hFc q h) hFc (fun r u t H locs ht hvm hw hB hz1 hk1 hS => ?_)
  have hru9 := hw.2
  have hw := hw.1
  refine ex_1_1 hB (fun x_6235 e_x_6235_0 hB => ?_)
  obtain ⟨hP, hD⟩ := Bw.goA (ws' := [(oc6 oK oR oC oS oT rK_images iK_imageCount oA oH oL x_6235 iK_latestFault iK_latestPlace), (oc1 oC iC_nodes iC_words iC_chances iC_unsures iC_slips iC_throneNode iC_saidWorth iC_unit rC_kind rC_parts rC_partNodes rC_weights rC_weightSums rC_toldWorths rC_steps rC_below rC_above rC_unsureWords rC_unsureWorths)]) hB rfl ht hFc rfl
  clear hz1 hk1 hvm ht hB
  have rg_x_6235 := fb_rng x_6235
  rw [← hru9] at e_x_6235_0
  rcases hw.2 with ⟨rfl, hc_6236⟩ | ⟨rfl, hc_6236⟩
  · skip
    have rg_iC_nodes := fb_rng iC_nodes
    have hG := hG.trans (un2_eq e_x_6235_0)
    have hG := hG.trans (if_pos rfl)
    refine lv_if_eq (tgt := 13) hx hb dX6_rests_8 (by decide) (fun _ => ?_) (fun c => absurd c (by decide))
    refine lv_iconst (v := 0) hx hb dX6_rests_13 (by decide) ?_
    refine lv_istore_n (lv' := [(2, .int 0), (0, .ref oK), (1, .int p0)]) hx hb dX6_rests_14 rfl hl (by decide) rfl (fun ls hl => ?_)
    refine lv_iconst (v := 0) hx hb dX6_rests_15 (by decide) ?_
    refine lv_istore_n (lv' := [(3, .int 0), (2, .int 0), (0, .ref oK), (1, .int p0)]) hx hb dX6_rests_16 rfl hl (by decide) rfl (fun ls hl => ?_)
    have hl := lv_sub hl (l' := [(3, .int 0), (2, .int 0), (0, .ref oK), (1, .int p0)]) [0, 1, 2, 3] rfl
    have key_n_6241 : ∀ (n_6241 : Nat) (z_6239 : Int32) (z_6240 : Int32) (H : Heap) (locs : List Loc) (ls : Array Slot), (0 ≤ z_6239.toInt ∧ z_6239.toInt ≤ 2147483647) → (2147483647 - z_6239.toInt).toNat < n_6241 → (PX6_rests iC_nodes p0 = HX6_rests_0 p0 x_6235 n_6241 z_6239 z_6240) → va_P (dC, dI) vwCl [(oc6 oK oR oC oS oT rK_images iK_imageCount oA oH oL x_6235 iK_latestFault iK_latestPlace), (oc1 oC iC_nodes iC_words iC_chances iC_unsures iC_slips iC_throneNode iC_saidWorth iC_unit rC_kind rC_parts rC_partNodes rC_weights rC_weightSums rC_toldWorths rC_steps rC_below rC_above rC_unsureWords rC_unsureWorths)] H → va_D A [(oc6 oK oR oC oS oT rK_images iK_imageCount oA oH oL x_6235 iK_latestFault iK_latestPlace), (oc1 oC iC_nodes iC_words iC_chances iC_unsures iC_slips iC_throneNode iC_saidWorth iC_unit rC_kind rC_parts rC_partNodes rC_weights rC_weightSums rC_toldWorths rC_steps rC_below rC_above rC_unsureWords rC_unsureWorths)] → va_S A s.heap H locs → lv_has ls 4 [(3, .int z_6239), (2, .int z_6240), (0, .ref oK), (1, .int p0)] → W p l e (headSpec (Cond.code yX6_rests cX6_rests 4 (some .int) :: wG) ({ frames := 2, cells := 0, slots := 0, locals := 44 })).room s m ([.ref oK, .int p0] : List Value).toArray below meth c H locs 0 0 (MQ below (va_Qi (fun (r : Int32) (u : Nat) => (True ∧ True) ∧ r = Int32.ofNat u) (fun (u : Nat) (t : State) => ∃ (niK_refusal : Int32), (PX6_rests iC_nodes p0 = (Int32.ofNat u, niK_refusal)) ∧ Bw dC dI A [(oc6 oK oR oC oS oT rK_images iK_imageCount oA oH oL niK_refusal iK_latestFault iK_latestPlace), (oc1 oC iC_nodes iC_words iC_chances iC_unsures iC_slips iC_throneNode iC_saidWorth iC_unit rC_kind rC_parts rC_partNodes rC_weights rC_weightSums rC_toldWorths rC_steps rC_below rC_above rC_unsureWords rC_unsureWorths)] [] t) A) ([.ref oK, .int p0] : List Value).toArray s 0 0 A) (F0 m 17 ls []) := by
      intro n_6241
      induction n_6241 with
      | zero => intro z_6239 z_6240 H locs ls hi0_n_6241 hm; exact absurd hm (Nat.not_lt_zero _)
      | succ n_6241 ih_n_6241 =>
        intro z_6239 z_6240 H locs ls hi0_n_6241 hm_n_6241 hG hP hD hS hl
        have hG := hG.trans (HX6_rests_0_eq _ _ _ _ _)
        have rg_z_6239 := fb_rng z_6239
        have rg_z_6240 := fb_rng z_6240
        refine lv_iload_n hx hb dX6_rests_17 rfl (lv_at hl 0 rfl) ?_
        refine lv_iconst (v := 4) hx hb dX6_rests_18 (by decide) ?_
        refine lv_icmp_ge (tgt := 60) hx hb dX6_rests_19 (by decide) (fun c_6242 => ?_) (fun c_6242 => ?_)
        · skip
          have hG := hG.trans (if_pos c_6242)
          have gc_6242 := ti_le c_6242 kc_4 rfl
          refine lv_iload_n hx hb dX6_rests_60 rfl (lv_at hl 1 rfl) ?_
          exact wq_i hx hb hr (cI z_6240) ⟨⟨trivial, trivial⟩, (cI_of z_6240)⟩ (fun t ht hW => ⟨x_6235, (cI_tup hG), Bw.to hP hD hK ht hW⟩) hS dX6_rests_61 hlocks
        · skip
          have hG := hG.trans (if_neg c_6242)
          have gc_6242 := ti_nle c_6242 kc_4 rfl
          refine lv_iload_n hx hb dX6_rests_22 rfl (lv_at hl 3 rfl) ?_
          refine lv_iload_n hx hb dX6_rests_23 rfl (lv_at hl 0 rfl) ?_
          refine lv_iconst (v := 2) hx hb dX6_rests_24 (by decide) ?_
          refine lv_iand hx hb dX6_rests_25 ?_
          refine lv_topi (fun x_6243 ex_6243 => ?_)
          have hG := hG.trans (lt_eq ex_6243)
          have rg_x_6243 := fb_rng x_6243
          refine lv_if_eq (tgt := 33) hx hb dX6_rests_26 (by decide) (fun c_6244 => ?_) (fun c_6244 => ?_)
          · skip
            have hG := hG.trans (if_pos c_6244)
            have gc_6244 := ti_eq c_6244 rfl kc_0
            refine lv_iconst (v := 0) hx hb dX6_rests_33 (by decide) ?_
            refine lv_iload_n hx hb dX6_rests_34 rfl (lv_at hl 0 rfl) ?_
            refine lv_iconst (v := 1) hx hb dX6_rests_35 (by decide) ?_
            refine lv_iand hx hb dX6_rests_36 ?_
            refine lv_topi (fun x_6245 ex_6245 => ?_)
            have hG := hG.trans (lt_eq ex_6245)
            have rg_x_6245 := fb_rng x_6245
            refine lv_if_eq (tgt := 44) hx hb dX6_rests_37 (by decide) (fun c_6246 => ?_) (fun c_6246 => ?_)
            · skip
              have hG := hG.trans (if_pos c_6246)
              have gc_6246 := ti_eq c_6246 rfl kc_0
              refine lv_iconst (v := 0) hx hb dX6_rests_44 (by decide) ?_
              have hFc : ∀ q, va_A [] _ q → A q := fun q h => hA q (Nat.le_trans hS.1 (va_nilA h))
              refine va_calli (va_runS (As := [.int p0, .int 0, .int 0]) (rest := []) ⟨hx, hb, hml, hown, hts⟩ (tX6_isRest l dC dI _ p0 0 0 ) (va_cwS 3 hts (wd_S wd_1304 wd_1305 wd_2 (wd_c wd_1306)) rfl rfl rfl ds_yX6_isRest_3 ⟨Nat.le_of_ble_eq_true rfl, Nat.le_of_ble_eq_true rfl⟩) ⟨Pw.fb, fun U hU hW => Pn.to hK hE hS hA hU hW⟩ rfl rfl hl.1 rfl (lv_room (Nat.le_of_ble_eq_true rfl)) dX6_rests_45 ⟨Nat.le_of_ble_eq_true rfl, Nat.le_of_ble_eq_true rfl⟩) hS (fun q _ h => hFc q h) hFc (fun r u t H locs ht hvm hw hB hz1 hk1 hS => ?_)
              obtain ⟨hP, hD, hK⟩ := Bw.same ht hvm hP hD hK hk1 hFc
              clear hz1 hk1 hvm ht hB
              have hq9 := hw.2
              have hw := hw.1
              obtain ⟨x_6247, rfl⟩ : ∃ z, z = r := ⟨_, rfl⟩
              have hq_x_6247 := hq9
              have hG := hG.trans (lt_eq hq_x_6247.symm)
              have rg_x_6247 := fb_rng x_6247
              have bx_6247 := hw.1
              have dx_6247 := bz_tb bx_6247
              refine lv_if_eq (tgt := 54) hx hb dX6_rests_48 (by decide) (fun c_6248 => ?_) (fun c_6248 => ?_)
              · skip
                have hG := hG.trans (if_pos c_6248)
                have gc_6248 := ti_eq c_6248 rfl kc_0
                obtain ⟨x_6249, ex_6249⟩ : ∃ z : Int32, z = z_6239 + Int32.ofInt 1 := ⟨_, rfl⟩
                have hG := hG.trans (lt_eq ex_6249)
                have vx_6249 : x_6249.toInt = z_6239.toInt + 1 := ti_add (y := 1) ex_6249 rfl kc_1 (om_4e4fce7e hi0_n_6241.1) (om_71ed274a gc_6242)
                refine lv_iinc (v := x_6249) (lv' := [(3, .int x_6249), (2, .int z_6240), (0, .ref oK), (1, .int p0)]) hx hb dX6_rests_54 hl (k := 0) rfl ex_6249.symm (by decide) rfl (fun ls hl => ?_)
                refine lv_goto (tgt := 17) hx hb dX6_rests_57 (by decide) ?_
                exact ih_n_6241 x_6249 z_6240 _ _ _  ⟨(om_83b90de5 hi0_n_6241.1 vx_6249), (om_d99ff3f9 gc_6242 vx_6249)⟩ (ms_lt hm_n_6241 (om_b9393183 vx_6249) (om_50af1673 gc_6242)) hG hP hD hS (lv_sub hl [0, 1, 2, 3] rfl)
              · skip
                have hG := hG.trans (if_neg c_6248)
                have gc_6248 := ti_ne c_6248 rfl kc_0
                obtain ⟨x_6250, ex_6250⟩ : ∃ z : Int32, z = z_6240 + Int32.ofInt 1 := ⟨_, rfl⟩
                have hG := hG.trans (lt_eq ex_6250)
                have rg_x_6250 := fb_rng x_6250
                refine lv_iinc (v := x_6250) (lv' := [(2, .int x_6250), (3, .int z_6239), (0, .ref oK), (1, .int p0)]) hx hb dX6_rests_51 hl (k := 1) rfl ex_6250.symm (by decide) rfl (fun ls hl => ?_)
                obtain ⟨x_6251, ex_6251⟩ : ∃ z : Int32, z = z_6239 + Int32.ofInt 1 := ⟨_, rfl⟩
                have hG := hG.trans (lt_eq ex_6251)
                have vx_6251 : x_6251.toInt = z_6239.toInt + 1 := ti_add (y := 1) ex_6251 rfl kc_1 (om_4e4fce7e hi0_n_6241.1) (om_71ed274a gc_6242)
                refine lv_iinc (v := x_6251) (lv' := [(3, .int x_6251), (2, .int x_6250), (0, .ref oK), (1, .int p0)]) hx hb dX6_rests_54 hl (k := 1) rfl ex_6251.symm (by decide) rfl (fun ls hl => ?_)
                refine lv_goto (tgt := 17) hx hb dX6_rests_57 (by decide) ?_
                exact ih_n_6241 x_6251 x_6250 _ _ _  ⟨(om_83b90de5 hi0_n_6241.1 vx_6251), (om_d99ff3f9 gc_6242 vx_6251)⟩ (ms_lt hm_n_6241 (om_b9393183 vx_6251) (om_50af1673 gc_6242)) hG hP hD hS (lv_sub hl [0, 1, 2, 3] rfl)
            · skip
              have hG := hG.trans (if_neg c_6246)
              have gc_6246 := ti_ne c_6246 rfl kc_0
              refine lv_iconst (v := 1) hx hb dX6_rests_40 (by decide) ?_
              refine lv_goto (tgt := 45) hx hb dX6_rests_41 (by decide) ?_
              have hFc : ∀ q, va_A [] _ q → A q := fun q h => hA q (Nat.le_trans hS.1 (va_nilA h))
              refine va_calli (va_runS (As := [.int p0, .int 0, .int 1]) (rest := []) ⟨hx, hb, hml, hown, hts⟩ (tX6_isRest l dC dI _ p0 0 1 ) (va_cwS 3 hts (wd_S wd_1304 wd_1305 wd_2 (wd_c wd_1306)) rfl rfl rfl ds_yX6_isRest_3 ⟨Nat.le_of_ble_eq_true rfl, Nat.le_of_ble_eq_true rfl⟩) ⟨Pw.fb, fun U hU hW => Pn.to hK hE hS hA hU hW⟩ rfl rfl hl.1 rfl (lv_room (Nat.le_of_ble_eq_true rfl)) dX6_rests_45 ⟨Nat.le_of_ble_eq_true rfl, Nat.le_of_ble_eq_true rfl⟩) hS (fun q _ h => hFc q h) hFc (fun r u t H locs ht hvm hw hB hz1 hk1 hS => ?_)
              obtain ⟨hP, hD, hK⟩ := Bw.same ht hvm hP hD hK hk1 hFc
              clear hz1 hk1 hvm ht hB
              have hq9 := hw.2
              have hw := hw.1
              obtain ⟨x_6252, rfl⟩ : ∃ z, z = r := ⟨_, rfl⟩
              have hq_x_6252 := hq9
              have hG := hG.trans (lt_eq hq_x_6252.symm)
              have rg_x_6252 := fb_rng x_6252
              have bx_6252 := hw.1
              have dx_6252 := bz_tb bx_6252
              refine lv_if_eq (tgt := 54) hx hb dX6_rests_48 (by decide) (fun c_6253 => ?_) (fun c_6253 => ?_)
              · skip
                have hG := hG.trans (if_pos c_6253)
                have gc_6253 := ti_eq c_6253 rfl kc_0
                obtain ⟨x_6254, ex_6254⟩ : ∃ z : Int32, z = z_6239 + Int32.ofInt 1 := ⟨_, rfl⟩
                have hG := hG.trans (lt_eq ex_6254)
                have vx_6254 : x_6254.toInt = z_6239.toInt + 1 := ti_add (y := 1) ex_6254 rfl kc_1 (om_4e4fce7e hi0_n_6241.1) (om_71ed274a gc_6242)
                refine lv_iinc (v := x_6254) (lv' := [(3, .int x_6254), (2, .int z_6240), (0, .ref oK), (1, .int p0)]) hx hb dX6_rests_54 hl (k := 0) rfl ex_6254.symm (by decide) rfl (fun ls hl => ?_)
                refine lv_goto (tgt := 17) hx hb dX6_rests_57 (by decide) ?_
                exact ih_n_6241 x_6254 z_6240 _ _ _  ⟨(om_83b90de5 hi0_n_6241.1 vx_6254), (om_d99ff3f9 gc_6242 vx_6254)⟩ (ms_lt hm_n_6241 (om_b9393183 vx_6254) (om_50af1673 gc_6242)) hG hP hD hS (lv_sub hl [0, 1, 2, 3] rfl)
              · skip
                have hG := hG.trans (if_neg c_6253)
                have gc_6253 := ti_ne c_6253 rfl kc_0
                obtain ⟨x_6255, ex_6255⟩ : ∃ z : Int32, z = z_6240 + Int32.ofInt 1 := ⟨_, rfl⟩
                have hG := hG.trans (lt_eq ex_6255)
                have rg_x_6255 := fb_rng x_6255
                refine lv_iinc (v := x_6255) (lv' := [(2, .int x_6255), (3, .int z_6239), (0, .ref oK), (1, .int p0)]) hx hb dX6_rests_51 hl (k := 1) rfl ex_6255.symm (by decide) rfl (fun ls hl => ?_)
                obtain ⟨x_6256, ex_6256⟩ : ∃ z : Int32, z = z_6239 + Int32.ofInt 1 := ⟨_, rfl⟩
                have hG := hG.trans (lt_eq ex_6256)
                have vx_6256 : x_6256.toInt = z_6239.toInt + 1 := ti_add (y := 1) ex_6256 rfl kc_1 (om_4e4fce7e hi0_n_6241.1) (om_71ed274a gc_6242)
                refine lv_iinc (v := x_6256) (lv' := [(3, .int x_6256), (2, .int x_6255), (0, .ref oK), (1, .int p0)]) hx hb dX6_rests_54 hl (k := 1) rfl ex_6256.symm (by decide) rfl (fun ls hl => ?_)
                refine lv_goto (tgt := 17) hx hb dX6_rests_57 (by decide) ?_
                exact ih_n_6241 x_6256 x_6255 _ _ _  ⟨(om_83b90de5 hi0_n_6241.1 vx_6256), (om_d99ff3f9 gc_6242 vx_6256)⟩ (ms_lt hm_n_6241 (om_b9393183 vx_6256) (om_50af1673 gc_6242)) hG hP hD hS (lv_sub hl [0, 1, 2, 3] rfl)
          · skip
            have hG := hG.trans (if_neg c_6244)
            have gc_6244 := ti_ne c_6244 rfl kc_0
            refine lv_iconst (v := 1) hx hb dX6_rests_29 (by decide) ?_
            refine lv_goto (tgt := 34) hx hb dX6_rests_30 (by decide) ?_
            refine lv_iload_n hx hb dX6_rests_34 rfl (lv_at hl 0 rfl) ?_
            refine lv_iconst (v := 1) hx hb dX6_rests_35 (by decide) ?_
            refine lv_iand hx hb dX6_rests_36 ?_
            refine lv_topi (fun x_6257 ex_6257 => ?_)
            have hG := hG.trans (lt_eq ex_6257)
            have rg_x_6257 := fb_rng x_6257
            refine lv_if_eq (tgt := 44) hx hb dX6_rests_37 (by decide) (fun c_6258 => ?_) (fun c_6258 => ?_)
            · skip
              have hG := hG.trans (if_pos c_6258)
              have gc_6258 := ti_eq c_6258 rfl kc_0
              refine lv_iconst (v := 0) hx hb dX6_rests_44 (by decide) ?_
              have hFc : ∀ q, va_A [] _ q → A q := fun q h => hA q (Nat.le_trans hS.1 (va_nilA h))
              refine va_calli (va_runS (As := [.int p0, .int 1, .int 0]) (rest := []) ⟨hx, hb, hml, hown, hts⟩ (tX6_isRest l dC dI _ p0 1 0 ) (va_cwS 3 hts (wd_S wd_1304 wd_1305 wd_2 (wd_c wd_1306)) rfl rfl rfl ds_yX6_isRest_3 ⟨Nat.le_of_ble_eq_true rfl, Nat.le_of_ble_eq_true rfl⟩) ⟨Pw.fb, fun U hU hW => Pn.to hK hE hS hA hU hW⟩ rfl rfl hl.1 rfl (lv_room (Nat.le_of_ble_eq_true rfl)) dX6_rests_45 ⟨Nat.le_of_ble_eq_true rfl, Nat.le_of_ble_eq_true rfl⟩) hS (fun q _ h => hFc q h) hFc (fun r u t H locs ht hvm hw hB hz1 hk1 hS => ?_)
              obtain ⟨hP, hD, hK⟩ := Bw.same ht hvm hP hD hK hk1 hFc
              clear hz1 hk1 hvm ht hB
              have hq9 := hw.2
              have hw := hw.1
              obtain ⟨x_6259, rfl⟩ : ∃ z, z = r := ⟨_, rfl⟩
              have hq_x_6259 := hq9
              have hG := hG.trans (lt_eq hq_x_6259.symm)
              have rg_x_6259 := fb_rng x_6259
              have bx_6259 := hw.1
              have dx_6259 := bz_tb bx_6259
              refine lv_if_eq (tgt := 54) hx hb dX6_rests_48 (by decide) (fun c_6260 => ?_) (fun c_6260 => ?_)
              · skip
                have hG := hG.trans (if_pos c_6260)
                have gc_6260 := ti_eq c_6260 rfl kc_0
                obtain ⟨x_6261, ex_6261⟩ : ∃ z : Int32, z = z_6239 + Int32.ofInt 1 := ⟨_, rfl⟩
                have hG := hG.trans (lt_eq ex_6261)
                have vx_6261 : x_6261.toInt = z_6239.toInt + 1 := ti_add (y := 1) ex_6261 rfl kc_1 (om_4e4fce7e hi0_n_6241.1) (om_71ed274a gc_6242)
                refine lv_iinc (v := x_6261) (lv' := [(3, .int x_6261), (2, .int z_6240), (0, .ref oK), (1, .int p0)]) hx hb dX6_rests_54 hl (k := 0) rfl ex_6261.symm (by decide) rfl (fun ls hl => ?_)
                refine lv_goto (tgt := 17) hx hb dX6_rests_57 (by decide) ?_
                exact ih_n_6241 x_6261 z_6240 _ _ _  ⟨(om_83b90de5 hi0_n_6241.1 vx_6261), (om_d99ff3f9 gc_6242 vx_6261)⟩ (ms_lt hm_n_6241 (om_b9393183 vx_6261) (om_50af1673 gc_6242)) hG hP hD hS (lv_sub hl [0, 1, 2, 3] rfl)
              · skip
                have hG := hG.trans (if_neg c_6260)
                have gc_6260 := ti_ne c_6260 rfl kc_0
                obtain ⟨x_6262, ex_6262⟩ : ∃ z : Int32, z = z_6240 + Int32.ofInt 1 := ⟨_, rfl⟩
                have hG := hG.trans (lt_eq ex_6262)
                have rg_x_6262 := fb_rng x_6262
                refine lv_iinc (v := x_6262) (lv' := [(2, .int x_6262), (3, .int z_6239), (0, .ref oK), (1, .int p0)]) hx hb dX6_rests_51 hl (k := 1) rfl ex_6262.symm (by decide) rfl (fun ls hl => ?_)
                obtain ⟨x_6263, ex_6263⟩ : ∃ z : Int32, z = z_6239 + Int32.ofInt 1 := ⟨_, rfl⟩
                have hG := hG.trans (lt_eq ex_6263)
                have vx_6263 : x_6263.toInt = z_6239.toInt + 1 := ti_add (y := 1) ex_6263 rfl kc_1 (om_4e4fce7e hi0_n_6241.1) (om_71ed274a gc_6242)
                refine lv_iinc (v := x_6263) (lv' := [(3, .int x_6263), (2, .int x_6262), (0, .ref oK), (1, .int p0)]) hx hb dX6_rests_54 hl (k := 1) rfl ex_6263.symm (by decide) rfl (fun ls hl => ?_)
                refine lv_goto (tgt := 17) hx hb dX6_rests_57 (by decide) ?_
                exact ih_n_6241 x_6263 x_6262 _ _ _  ⟨(om_83b90de5 hi0_n_6241.1 vx_6263), (om_d99ff3f9 gc_6242 vx_6263)⟩ (ms_lt hm_n_6241 (om_b9393183 vx_6263) (om_50af1673 gc_6242)) hG hP hD hS (lv_sub hl [0, 1, 2, 3] rfl)
            · skip
              have hG := hG.trans (if_neg c_6258)
              have gc_6258 := ti_ne c_6258 rfl kc_0
              refine lv_iconst (v := 1) hx hb dX6_rests_40 (by decide) ?_
              refine lv_goto (tgt := 45) hx hb dX6_rests_41 (by decide) ?_
              have hFc : ∀ q, va_A [] _ q → A q := fun q h => hA q (Nat.le_trans hS.1 (va_nilA h))
              refine va_calli (va_runS (As := [.int p0, .int 1, .int 1]) (rest := []) ⟨hx, hb, hml, hown, hts⟩ (tX6_isRest l dC dI _ p0 1 1 ) (va_cwS 3 hts (wd_S wd_1304 wd_1305 wd_2 (wd_c wd_1306)) rfl rfl rfl ds_yX6_isRest_3 ⟨Nat.le_of_ble_eq_true rfl, Nat.le_of_ble_eq_true rfl⟩) ⟨Pw.fb, fun U hU hW => Pn.to hK hE hS hA hU hW⟩ rfl rfl hl.1 rfl (lv_room (Nat.le_of_ble_eq_true rfl)) dX6_rests_45 ⟨Nat.le_of_ble_eq_true rfl, Nat.le_of_ble_eq_true rfl⟩) hS (fun q _ h => hFc q h) hFc (fun r u t H locs ht hvm hw hB hz1 hk1 hS => ?_)
              obtain ⟨hP, hD, hK⟩ := Bw.same ht hvm hP hD hK hk1 hFc
              clear hz1 hk1 hvm ht hB
              have hq9 := hw.2
              have hw := hw.1
              obtain ⟨x_6264, rfl⟩ : ∃ z, z = r := ⟨_, rfl⟩
              have hq_x_6264 := hq9
              have hG := hG.trans (lt_eq hq_x_6264.symm)
              have rg_x_6264 := fb_rng x_6264
              have bx_6264 := hw.1
              have dx_6264 := bz_tb bx_6264
              refine lv_if_eq (tgt := 54) hx hb dX6_rests_48 (by decide) (fun c_6265 => ?_) (fun c_6265 => ?_)
              · skip
                have hG := hG.trans (if_pos c_6265)
                have gc_6265 := ti_eq c_6265 rfl kc_0
                obtain ⟨x_6266, ex_6266⟩ : ∃ z : Int32, z = z_6239 + Int32.ofInt 1 := ⟨_, rfl⟩
                have hG := hG.trans (lt_eq ex_6266)
                have vx_6266 : x_6266.toInt = z_6239.toInt + 1 := ti_add (y := 1) ex_6266 rfl kc_1 (om_4e4fce7e hi0_n_6241.1) (om_71ed274a gc_6242)
                refine lv_iinc (v := x_6266) (lv' := [(3, .int x_6266), (2, .int z_6240), (0, .ref oK), (1, .int p0)]) hx hb dX6_rests_54 hl (k := 0) rfl ex_6266.symm (by decide) rfl (fun ls hl => ?_)
                refine lv_goto (tgt := 17) hx hb dX6_rests_57 (by decide) ?_
                exact ih_n_6241 x_6266 z_6240 _ _ _  ⟨(om_83b90de5 hi0_n_6241.1 vx_6266), (om_d99ff3f9 gc_6242 vx_6266)⟩ (ms_lt hm_n_6241 (om_b9393183 vx_6266) (om_50af1673 gc_6242)) hG hP hD hS (lv_sub hl [0, 1, 2, 3] rfl)
              · skip
                have hG := hG.trans (if_neg c_6265)
                have gc_6265 := ti_ne c_6265 rfl kc_0
                obtain ⟨x_6267, ex_6267⟩ : ∃ z : Int32, z = z_6240 + Int32.ofInt 1 := ⟨_, rfl⟩
                have hG := hG.trans (lt_eq ex_6267)
                have rg_x_6267 := fb_rng x_6267
                refine lv_iinc (v := x_6267) (lv' := [(2, .int x_6267), (3, .int z_6239), (0, .ref oK), (1, .int p0)]) hx hb dX6_rests_51 hl (k := 1) rfl ex_6267.symm (by decide) rfl (fun ls hl => ?_)
                obtain ⟨x_6268, ex_6268⟩ : ∃ z : Int32, z = z_6239 + Int32.ofInt 1 := ⟨_, rfl⟩
                have hG := hG.trans (lt_eq ex_6268)
                have vx_6268 : x_6268.toInt = z_6239.toInt + 1 := ti_add (y := 1) ex_6268 rfl kc_1 (om_4e4fce7e hi0_n_6241.1) (om_71ed274a gc_6242)
                refine lv_iinc (v := x_6268) (lv' := [(3, .int x_6268), (2, .int x_6267), (0, .ref oK), (1, .int p0)]) hx hb dX6_rests_54 hl (k := 1) rfl ex_6268.symm (by decide) rfl (fun ls hl => ?_)
                refine lv_goto (tgt := 17) hx hb dX6_rests_57 (by decide) ?_
                exact ih_n_6241 x_6268 x_6267 _ _ _  ⟨(om_83b90de5 hi0_n_6241.1 vx_6268), (om_d99ff3f9 gc_6242 vx_6268)⟩ (ms_lt hm_n_6241 (om_b9393183 vx_6268) (om_50af1673 gc_6242)) hG hP hD hS (lv_sub hl [0, 1, 2, 3] rfl)
    exact key_n_6241 (((2147483647 - (0 : Int32).toInt).toNat) + 1) 0 0 _ _ _  ⟨(om_b1de7dbe kc_0), (om_daf17c64 kc_0)⟩ (Nat.lt_add_one _) hG hP hD hS hl
  · skip
    have hG := hG.trans (un2_eq e_x_6235_0)
    have hG := hG.trans (if_neg (by decide))
    refine lv_if_eq (tgt := 13) hx hb dX6_rests_8 (by decide) (fun c => absurd c (by decide)) (fun _ => ?_)
    refine lv_iconst (v := (-1)) hx hb dX6_rests_11 (by decide) ?_
    exact wq_i hx hb hr (cI (-1)) ⟨⟨trivial, trivial⟩, (cI_of (-1))⟩ (fun t ht hW => ⟨x_6235, (cI_tup hG), Bw.to hP hD hK ht hW⟩) hS dX6_rests_12 hlocks
set_option maxHeartbeats 4000000 in
set_option maxRecDepth 100000 in
theorem tX6_rest (l : Launch) (dC : Nat → ClassId) (dI : Nat → Nat → Nat) (sz : Nat) (oK : Nat) (oR : Nat) (oC : Nat) (oS : Nat) (oT : Nat) (rK_images : Nat) (iK_imageCount : Int32) (oA : Nat) (oH : Nat) (oL : Nat) (iK_refusal : Int32) (iK_latestFault : Int32) (iK_latestPlace : Int32) (iC_nodes : Int32) (iC_words : Int32) (iC_chances : Int32) (iC_unsures : Int32) (iC_slips : Int32) (iC_throneNode : Int32) (iC_saidWorth : Int32) (iC_unit : Int32) (rC_kind : Nat) (rC_parts : Nat) (rC_partNodes : Nat) (rC_weights : Nat) (rC_weightSums : Nat) (rC_toldWorths : Nat) (rC_steps : Nat) (rC_below : Nat) (rC_above : Nat) (rC_unsureWords : Nat) (rC_unsureWorths : Nat) (p0 : Int32) (b_iK_imageCount : 0 ≤ iK_imageCount.toInt ∧ iK_imageCount.toInt ≤ 3) (b_iC_nodes : 0 ≤ iC_nodes.toInt ∧ iC_nodes.toInt ≤ 18) (b_iC_unsures : 0 ≤ iC_unsures.toInt ∧ iC_unsures.toInt ≤ 4) (b_iC_throneNode : (-1) ≤ iC_throneNode.toInt ∧ iC_throneNode.toInt ≤ 17)  : Met l yX6_rest (Cond.code yX6_rest cX6_rest 3 (some .int) :: wG) ({ frames := 2, cells := 0, slots := 0, locals := 44 }) (va_Pc [.ref oK, .int p0] (Pw dC dI sz [(oc6 oK oR oC oS oT rK_images iK_imageCount oA oH oL iK_refusal iK_latestFault iK_latestPlace), (oc1 oC iC_nodes iC_words iC_chances iC_unsures iC_slips iC_throneNode iC_saidWorth iC_unit rC_kind rC_parts rC_partNodes rC_weights rC_weightSums rC_toldWorths rC_steps rC_below rC_above rC_unsureWords rC_unsureWorths)] [])) (va_Qi (fun (r : Int32) (u : Nat) => (True ∧ True) ∧ r = Int32.ofNat u) (fun (u : Nat) (t : State) => ∃ (niK_refusal : Int32), (PX6_rest iC_nodes p0 = (Int32.ofNat u, niK_refusal)) ∧ Bw dC dI (va_A [(oc6 oK oR oC oS oT rK_images iK_imageCount oA oH oL iK_refusal iK_latestFault iK_latestPlace), (oc1 oC iC_nodes iC_words iC_chances iC_unsures iC_slips iC_throneNode iC_saidWorth iC_unit rC_kind rC_parts rC_partNodes rC_weights rC_weightSums rC_toldWorths rC_steps rC_below rC_above rC_unsureWords rC_unsureWorths)] sz) [(oc6 oK oR oC oS oT rK_images iK_imageCount oA oH oL niK_refusal iK_latestFault iK_latestPlace), (oc1 oC iC_nodes iC_words iC_chances iC_unsures iC_slips iC_throneNode iC_saidWorth iC_unit rC_kind rC_parts rC_partNodes rC_weights rC_weightSums rC_toldWorths rC_steps rC_below rC_above rC_unsureWords rC_unsureWorths)] [] t) (va_A [(oc6 oK oR oC oS oT rK_images iK_imageCount oA oH oL iK_refusal iK_latestFault iK_latestPlace), (oc1 oC iC_nodes iC_words iC_chances iC_unsures iC_slips iC_throneNode iC_saidWorth iC_unit rC_kind rC_parts rC_partNodes rC_weights rC_weightSums rC_toldWorths rC_steps rC_below rC_above rC_unsureWords rC_unsureWorths)] sz)) 0 0 (va_A [(oc6 oK oR oC oS oT rK_images iK_imageCount oA oH oL iK_refusal iK_latestFault iK_latestPlace), (oc1 oC iC_nodes iC_words iC_chances iC_unsures iC_slips iC_throneNode iC_saidWorth iC_unit rC_kind rC_parts rC_partNodes rC_weights rC_weightSums rC_toldWorths rC_steps rC_below rC_above rC_unsureWords rC_unsureWorths)] sz) := by
  refine Met.ofW (cc := cX6_rest) (maxL := 3) (ret := (some .int)) pnX6 rfl ?_
  intro p e s m args below meth c s₁ B hml hv
  obtain ⟨rfl, hsz, hP, hK, hD0, hE⟩ := hv
  have hx := B.exec
  have hb := B.bytes
  have hr := B.returns
  have hts : ∀ w ∈ wG, w.before ([.ref oK, .int p0] : List Value).toArray s = true := fun w h => atoms_spec (ws := Cond.code yX6_rest cX6_rest 3 (some .int) :: wG) B.pre w (List.mem_cons_of_mem _ h)
  have hown : s.vm.findClass RX6 = some m.cls := own_of B.named rfl
  have hlocks := B.notSynchronized
  subst hsz
  have hD := hD0.self (sz := s.heap.size)
  generalize hAe : va_A [(oc6 oK oR oC oS oT rK_images iK_imageCount oA oH oL iK_refusal iK_latestFault iK_latestPlace), (oc1 oC iC_nodes iC_words iC_chances iC_unsures iC_slips iC_throneNode iC_saidWorth iC_unit rC_kind rC_parts rC_partNodes rC_weights rC_weightSums rC_toldWorths rC_steps rC_below rC_above rC_unsureWords rC_unsureWorths)] s.heap.size = A at hD hE ⊢
  have hA : ∀ q : Nat, s.heap.size ≤ q → A q := fun q h => by rw [← hAe]; exact Or.inr h
  have hS : va_S A s.heap s.heap [] := va_S.rf
  have hl := lv_entry ([.ref oK, .int p0]) (n := 3) (Nat.le_of_ble_eq_true rfl)
  rw [lg_entry_eq]
  generalize (lg_sl ([.ref oK, .int p0]) ++ List.replicate (3 - (lg_sl ([.ref oK, .int p0])).length) Slot.unset).toArray = ls at hl ⊢
  have hl : lv_has ls 3 [(0, .ref oK), (1, .int p0)] := hl
  have hG := PX6_rest_eq iC_nodes p0
  have rg_p0 := fb_rng p0
  refine lv_aload_n hx hb dX6_rest_0 rfl (lv_at hl 0 rfl) ?_
  refine lv_iload_n hx hb dX6_rest_1 rfl (lv_at hl 1 rfl) ?_
  refine lv_iconst (v := 0) hx hb dX6_rest_2 (by decide) ?_
  refine lv_bipush (v := 9) hx hb dX6_rest_3 (by decide) ?_
  have hFc := va_freeI hD hS hA
  refine va_calli (va_runV (As := [.int p0, .int 0, .int 9]) (rest := []) ⟨hx, hb, hml, hown, hts⟩ (tX6_lacksNumber l dC dI _ oK oR oC oS oT rK_images iK_imageCount oA oH oL iK_refusal iK_latestFault iK_latestPlace iC_nodes iC_words iC_chances iC_unsures iC_slips iC_throneNode iC_saidWorth iC_unit rC_kind rC_parts rC_partNodes rC_weights rC_weightSums rC_toldWorths rC_steps rC_below rC_above rC_unsureWords rC_unsureWorths p0 0 9 b_iK_imageCount b_iC_nodes b_iC_unsures b_iC_throneNode) (cwV 3 hts (wd_V wd_866 wd_867 wd_868 wd_2 (wd_c wd_869)) rfl rfl rfl dv_yX6_lacksNumber_3 ⟨Nat.le_of_ble_eq_true rfl, Nat.le_of_ble_eq_true rfl⟩) ⟨Pw.fb, recvX6 hK hP (q0 := 0) rfl, fun U hU hW => Pw.to hP hD hK hE hS hFc hU hW⟩ rfl rfl hl.1 rfl (lv_room (Nat.le_of_ble_eq_true rfl)) dX6_rest_5 ⟨Nat.le_of_ble_eq_true rfl, Nat.le_of_ble_eq_true rfl⟩) hS (fun q _ h => hFc q h) hFc (fun r u t H locs ht hvm hw hB hz1 hk1 hS => ?_)
  have hru9 := hw.2
  have hw := hw.1
  refine ex_1_1 hB (fun x_6311 e_x_6311_0 hB => ?_)
  obtain ⟨hP, hD⟩ := Bw.goA (ws' := [(oc6 oK oR oC oS oT rK_images iK_imageCount oA oH oL x_6311 iK_latestFault iK_latestPlace), (oc1 oC iC_nodes iC_words iC_chances iC_unsures iC_slips iC_throneNode iC_saidWorth iC_unit rC_kind rC_parts rC_partNodes rC_weights rC_weightSums rC_toldWorths rC_steps rC_below rC_above rC_unsureWords rC_unsureWorths)]) hB rfl ht hFc rfl
  clear hz1 hk1 hvm ht hB
  have rg_x_6311 := fb_rng x_6311
  rw [← hru9] at e_x_6311_0
  rcases hw.2 with ⟨rfl, hc_6312⟩ | ⟨rfl, hc_6312⟩
  · skip
    have rg_iC_nodes := fb_rng iC_nodes
    have hG := hG.trans (un2_eq e_x_6311_0)
    have hG := hG.trans (if_pos rfl)
    refine lv_if_eq (tgt := 13) hx hb dX6_rest_8 (by decide) (fun _ => ?_) (fun c => absurd c (by decide))
    refine lv_iconst (v := 0) hx hb dX6_rest_13 (by decide) ?_
    refine lv_istore_n (lv' := [(2, .int 0), (0, .ref oK), (1, .int p0)]) hx hb dX6_rest_14 rfl hl (by decide) rfl (fun ls hl => ?_)
    have hl := lv_sub hl (l' := [(2, .int 0), (0, .ref oK), (1, .int p0)]) [0, 1, 2] rfl
    have key_n_6316 : ∀ (n_6316 : Nat) (z_6315 : Int32) (H : Heap) (locs : List Loc) (ls : Array Slot), (0 ≤ z_6315.toInt ∧ z_6315.toInt ≤ 2147483647) → (2147483647 - z_6315.toInt).toNat < n_6316 → (PX6_rest iC_nodes p0 = HX6_rest_0 p0 x_6311 n_6316 z_6315) → va_P (dC, dI) vwCl [(oc6 oK oR oC oS oT rK_images iK_imageCount oA oH oL x_6311 iK_latestFault iK_latestPlace), (oc1 oC iC_nodes iC_words iC_chances iC_unsures iC_slips iC_throneNode iC_saidWorth iC_unit rC_kind rC_parts rC_partNodes rC_weights rC_weightSums rC_toldWorths rC_steps rC_below rC_above rC_unsureWords rC_unsureWorths)] H → va_D A [(oc6 oK oR oC oS oT rK_images iK_imageCount oA oH oL x_6311 iK_latestFault iK_latestPlace), (oc1 oC iC_nodes iC_words iC_chances iC_unsures iC_slips iC_throneNode iC_saidWorth iC_unit rC_kind rC_parts rC_partNodes rC_weights rC_weightSums rC_toldWorths rC_steps rC_below rC_above rC_unsureWords rC_unsureWorths)] → va_S A s.heap H locs → lv_has ls 3 [(2, .int z_6315), (0, .ref oK), (1, .int p0)] → W p l e (headSpec (Cond.code yX6_rest cX6_rest 3 (some .int) :: wG) ({ frames := 2, cells := 0, slots := 0, locals := 44 })).room s m ([.ref oK, .int p0] : List Value).toArray below meth c H locs 0 0 (MQ below (va_Qi (fun (r : Int32) (u : Nat) => (True ∧ True) ∧ r = Int32.ofNat u) (fun (u : Nat) (t : State) => ∃ (niK_refusal : Int32), (PX6_rest iC_nodes p0 = (Int32.ofNat u, niK_refusal)) ∧ Bw dC dI A [(oc6 oK oR oC oS oT rK_images iK_imageCount oA oH oL niK_refusal iK_latestFault iK_latestPlace), (oc1 oC iC_nodes iC_words iC_chances iC_unsures iC_slips iC_throneNode iC_saidWorth iC_unit rC_kind rC_parts rC_partNodes rC_weights rC_weightSums rC_toldWorths rC_steps rC_below rC_above rC_unsureWords rC_unsureWorths)] [] t) A) ([.ref oK, .int p0] : List Value).toArray s 0 0 A) (F0 m 15 ls []) := by
      intro n_6316
      induction n_6316 with
      | zero => intro z_6315 H locs ls hi0_n_6316 hm; exact absurd hm (Nat.not_lt_zero _)
      | succ n_6316 ih_n_6316 =>
        intro z_6315 H locs ls hi0_n_6316 hm_n_6316 hG hP hD hS hl
        have hG := hG.trans (HX6_rest_0_eq _ _ _ _)
        have rg_z_6315 := fb_rng z_6315
        refine lv_iload_n hx hb dX6_rest_15 rfl (lv_at hl 0 rfl) ?_
        refine lv_iconst (v := 4) hx hb dX6_rest_16 (by decide) ?_
        refine lv_icmp_ge (tgt := 66) hx hb dX6_rest_17 (by decide) (fun c_6317 => ?_) (fun c_6317 => ?_)
        · skip
          have hG := hG.trans (if_pos c_6317)
          have gc_6317 := ti_le c_6317 kc_4 rfl
          refine lv_bipush (v := (-2)) hx hb dX6_rest_66 (by decide) ?_
          exact wq_i hx hb hr (cI (-2)) ⟨⟨trivial, trivial⟩, (cI_of (-2))⟩ (fun t ht hW => ⟨x_6311, (cI_tup hG), Bw.to hP hD hK ht hW⟩) hS dX6_rest_68 hlocks
        · skip
          have hG := hG.trans (if_neg c_6317)
          have gc_6317 := ti_nle c_6317 kc_4 rfl
          refine lv_iload_n hx hb dX6_rest_20 rfl (lv_at hl 2 rfl) ?_
          refine lv_iload_n hx hb dX6_rest_21 rfl (lv_at hl 0 rfl) ?_
          refine lv_iconst (v := 2) hx hb dX6_rest_22 (by decide) ?_
          refine lv_iand hx hb dX6_rest_23 ?_
          refine lv_topi (fun x_6318 ex_6318 => ?_)
          have hG := hG.trans (lt_eq ex_6318)
          have rg_x_6318 := fb_rng x_6318
          refine lv_if_eq (tgt := 31) hx hb dX6_rest_24 (by decide) (fun c_6319 => ?_) (fun c_6319 => ?_)
          · skip
            have hG := hG.trans (if_pos c_6319)
            have gc_6319 := ti_eq c_6319 rfl kc_0
            refine lv_iconst (v := 0) hx hb dX6_rest_31 (by decide) ?_
            refine lv_iload_n hx hb dX6_rest_32 rfl (lv_at hl 0 rfl) ?_
            refine lv_iconst (v := 1) hx hb dX6_rest_33 (by decide) ?_
            refine lv_iand hx hb dX6_rest_34 ?_
            refine lv_topi (fun x_6320 ex_6320 => ?_)
            have hG := hG.trans (lt_eq ex_6320)
            have rg_x_6320 := fb_rng x_6320
            refine lv_if_eq (tgt := 42) hx hb dX6_rest_35 (by decide) (fun c_6321 => ?_) (fun c_6321 => ?_)
            · skip
              have hG := hG.trans (if_pos c_6321)
              have gc_6321 := ti_eq c_6321 rfl kc_0
              refine lv_iconst (v := 0) hx hb dX6_rest_42 (by decide) ?_
              have hFc : ∀ q, va_A [] _ q → A q := fun q h => hA q (Nat.le_trans hS.1 (va_nilA h))
              refine va_calli (va_runS (As := [.int p0, .int 0, .int 0]) (rest := []) ⟨hx, hb, hml, hown, hts⟩ (tX6_isRest l dC dI _ p0 0 0 ) (va_cwS 3 hts (wd_S wd_1304 wd_1305 wd_2 (wd_c wd_1306)) rfl rfl rfl ds_yX6_isRest_3 ⟨Nat.le_of_ble_eq_true rfl, Nat.le_of_ble_eq_true rfl⟩) ⟨Pw.fb, fun U hU hW => Pn.to hK hE hS hA hU hW⟩ rfl rfl hl.1 rfl (lv_room (Nat.le_of_ble_eq_true rfl)) dX6_rest_43 ⟨Nat.le_of_ble_eq_true rfl, Nat.le_of_ble_eq_true rfl⟩) hS (fun q _ h => hFc q h) hFc (fun r u t H locs ht hvm hw hB hz1 hk1 hS => ?_)
              obtain ⟨hP, hD, hK⟩ := Bw.same ht hvm hP hD hK hk1 hFc
              clear hz1 hk1 hvm ht hB
              have hq9 := hw.2
              have hw := hw.1
              obtain ⟨x_6322, rfl⟩ : ∃ z, z = r := ⟨_, rfl⟩
              have hq_x_6322 := hq9
              have hG := hG.trans (lt_eq hq_x_6322.symm)
              have rg_x_6322 := fb_rng x_6322
              have bx_6322 := hw.1
              have dx_6322 := bz_tb bx_6322
              refine lv_if_eq (tgt := 60) hx hb dX6_rest_46 (by decide) (fun c_6323 => ?_) (fun c_6323 => ?_)
              · skip
                have hG := hG.trans (if_pos c_6323)
                have gc_6323 := ti_eq c_6323 rfl kc_0
                obtain ⟨x_6324, ex_6324⟩ : ∃ z : Int32, z = z_6315 + Int32.ofInt 1 := ⟨_, rfl⟩
                have hG := hG.trans (lt_eq ex_6324)
                have vx_6324 : x_6324.toInt = z_6315.toInt + 1 := ti_add (y := 1) ex_6324 rfl kc_1 (om_4e4fce7e hi0_n_6316.1) (om_71ed274a gc_6317)
                refine lv_iinc (v := x_6324) (lv' := [(2, .int x_6324), (0, .ref oK), (1, .int p0)]) hx hb dX6_rest_60 hl (k := 0) rfl ex_6324.symm (by decide) rfl (fun ls hl => ?_)
                refine lv_goto (tgt := 15) hx hb dX6_rest_63 (by decide) ?_
                exact ih_n_6316 x_6324 _ _ _  ⟨(om_83b90de5 hi0_n_6316.1 vx_6324), (om_d99ff3f9 gc_6317 vx_6324)⟩ (ms_lt hm_n_6316 (om_b9393183 vx_6324) (om_50af1673 gc_6317)) hG hP hD hS (lv_sub hl [0, 1, 2] rfl)
              · skip
                have hG := hG.trans (if_neg c_6323)
                have gc_6323 := ti_ne c_6323 rfl kc_0
                refine lv_iload_n hx hb dX6_rest_49 rfl (lv_at hl 0 rfl) ?_
                refine lv_iconst (v := 1) hx hb dX6_rest_50 (by decide) ?_
                refine lv_ishr hx hb dX6_rest_51 ?_
                refine lv_topi (fun x_6325 ex_6325 => ?_)
                have hG := hG.trans (lt_eq ex_6325)
                have rg_x_6325 := fb_rng x_6325
                refine lv_bipush (v := 10) hx hb dX6_rest_52 (by decide) ?_
                refine lv_imul hx hb dX6_rest_54 ?_
                refine lv_topi (fun x_6326 ex_6326 => ?_)
                have hG := hG.trans (lt_eq ex_6326)
                have rg_x_6326 := fb_rng x_6326
                refine lv_iload_n hx hb dX6_rest_55 rfl (lv_at hl 0 rfl) ?_
                refine lv_iconst (v := 1) hx hb dX6_rest_56 (by decide) ?_
                refine lv_iand hx hb dX6_rest_57 ?_
                refine lv_topi (fun x_6327 ex_6327 => ?_)
                have hG := hG.trans (lt_eq ex_6327)
                have rg_x_6327 := fb_rng x_6327
                refine lv_iadd hx hb dX6_rest_58 ?_
                refine lv_topi (fun x_6328 ex_6328 => ?_)
                have hG := hG.trans (lt_eq ex_6328)
                have rg_x_6328 := fb_rng x_6328
                exact wq_i hx hb hr (cI x_6328) ⟨⟨trivial, trivial⟩, (cI_of x_6328)⟩ (fun t ht hW => ⟨x_6311, (cI_tup hG), Bw.to hP hD hK ht hW⟩) hS dX6_rest_59 hlocks
            · skip
              have hG := hG.trans (if_neg c_6321)
              have gc_6321 := ti_ne c_6321 rfl kc_0
              refine lv_iconst (v := 1) hx hb dX6_rest_38 (by decide) ?_
              refine lv_goto (tgt := 43) hx hb dX6_rest_39 (by decide) ?_
              have hFc : ∀ q, va_A [] _ q → A q := fun q h => hA q (Nat.le_trans hS.1 (va_nilA h))
              refine va_calli (va_runS (As := [.int p0, .int 0, .int 1]) (rest := []) ⟨hx, hb, hml, hown, hts⟩ (tX6_isRest l dC dI _ p0 0 1 ) (va_cwS 3 hts (wd_S wd_1304 wd_1305 wd_2 (wd_c wd_1306)) rfl rfl rfl ds_yX6_isRest_3 ⟨Nat.le_of_ble_eq_true rfl, Nat.le_of_ble_eq_true rfl⟩) ⟨Pw.fb, fun U hU hW => Pn.to hK hE hS hA hU hW⟩ rfl rfl hl.1 rfl (lv_room (Nat.le_of_ble_eq_true rfl)) dX6_rest_43 ⟨Nat.le_of_ble_eq_true rfl, Nat.le_of_ble_eq_true rfl⟩) hS (fun q _ h => hFc q h) hFc (fun r u t H locs ht hvm hw hB hz1 hk1 hS => ?_)
              obtain ⟨hP, hD, hK⟩ := Bw.same ht hvm hP hD hK hk1 hFc
              clear hz1 hk1 hvm ht hB
              have hq9 := hw.2
              have hw := hw.1
              obtain ⟨x_6329, rfl⟩ : ∃ z, z = r := ⟨_, rfl⟩
              have hq_x_6329 := hq9
              have hG := hG.trans (lt_eq hq_x_6329.symm)
              have rg_x_6329 := fb_rng x_6329
              have bx_6329 := hw.1
              have dx_6329 := bz_tb bx_6329
              refine lv_if_eq (tgt := 60) hx hb dX6_rest_46 (by decide) (fun c_6330 => ?_) (fun c_6330 => ?_)
              · skip
                have hG := hG.trans (if_pos c_6330)
                have gc_6330 := ti_eq c_6330 rfl kc_0
                obtain ⟨x_6331, ex_6331⟩ : ∃ z : Int32, z = z_6315 + Int32.ofInt 1 := ⟨_, rfl⟩
                have hG := hG.trans (lt_eq ex_6331)
                have vx_6331 : x_6331.toInt = z_6315.toInt + 1 := ti_add (y := 1) ex_6331 rfl kc_1 (om_4e4fce7e hi0_n_6316.1) (om_71ed274a gc_6317)
                refine lv_iinc (v := x_6331) (lv' := [(2, .int x_6331), (0, .ref oK), (1, .int p0)]) hx hb dX6_rest_60 hl (k := 0) rfl ex_6331.symm (by decide) rfl (fun ls hl => ?_)
                refine lv_goto (tgt := 15) hx hb dX6_rest_63 (by decide) ?_
                exact ih_n_6316 x_6331 _ _ _  ⟨(om_83b90de5 hi0_n_6316.1 vx_6331), (om_d99ff3f9 gc_6317 vx_6331)⟩ (ms_lt hm_n_6316 (om_b9393183 vx_6331) (om_50af1673 gc_6317)) hG hP hD hS (lv_sub hl [0, 1, 2] rfl)
              · skip
                have hG := hG.trans (if_neg c_6330)
                have gc_6330 := ti_ne c_6330 rfl kc_0
                refine lv_iload_n hx hb dX6_rest_49 rfl (lv_at hl 0 rfl) ?_
                refine lv_iconst (v := 1) hx hb dX6_rest_50 (by decide) ?_
                refine lv_ishr hx hb dX6_rest_51 ?_
                refine lv_topi (fun x_6332 ex_6332 => ?_)
                have hG := hG.trans (lt_eq ex_6332)
                have rg_x_6332 := fb_rng x_6332
                refine lv_bipush (v := 10) hx hb dX6_rest_52 (by decide) ?_
                refine lv_imul hx hb dX6_rest_54 ?_
                refine lv_topi (fun x_6333 ex_6333 => ?_)
                have hG := hG.trans (lt_eq ex_6333)
                have rg_x_6333 := fb_rng x_6333
                refine lv_iload_n hx hb dX6_rest_55 rfl (lv_at hl 0 rfl) ?_
                refine lv_iconst (v := 1) hx hb dX6_rest_56 (by decide) ?_
                refine lv_iand hx hb dX6_rest_57 ?_
                refine lv_topi (fun x_6334 ex_6334 => ?_)
                have hG := hG.trans (lt_eq ex_6334)
                have rg_x_6334 := fb_rng x_6334
                refine lv_iadd hx hb dX6_rest_58 ?_
                refine lv_topi (fun x_6335 ex_6335 => ?_)
                have hG := hG.trans (lt_eq ex_6335)
                have rg_x_6335 := fb_rng x_6335
                exact wq_i hx hb hr (cI x_6335) ⟨⟨trivial, trivial⟩, (cI_of x_6335)⟩ (fun t ht hW => ⟨x_6311, (cI_tup hG), Bw.to hP hD hK ht hW⟩) hS dX6_rest_59 hlocks
          · skip
            have hG := hG.trans (if_neg c_6319)
            have gc_6319 := ti_ne c_6319 rfl kc_0
            refine lv_iconst (v := 1) hx hb dX6_rest_27 (by decide) ?_
            refine lv_goto (tgt := 32) hx hb dX6_rest_28 (by decide) ?_
            refine lv_iload_n hx hb dX6_rest_32 rfl (lv_at hl 0 rfl) ?_
            refine lv_iconst (v := 1) hx hb dX6_rest_33 (by decide) ?_
            refine lv_iand hx hb dX6_rest_34 ?_
            refine lv_topi (fun x_6336 ex_6336 => ?_)
            have hG := hG.trans (lt_eq ex_6336)
            have rg_x_6336 := fb_rng x_6336
            refine lv_if_eq (tgt := 42) hx hb dX6_rest_35 (by decide) (fun c_6337 => ?_) (fun c_6337 => ?_)
            · skip
              have hG := hG.trans (if_pos c_6337)
              have gc_6337 := ti_eq c_6337 rfl kc_0
              refine lv_iconst (v := 0) hx hb dX6_rest_42 (by decide) ?_
              have hFc : ∀ q, va_A [] _ q → A q := fun q h => hA q (Nat.le_trans hS.1 (va_nilA h))
              refine va_calli (va_runS (As := [.int p0, .int 1, .int 0]) (rest := []) ⟨hx, hb, hml, hown, hts⟩ (tX6_isRest l dC dI _ p0 1 0 ) (va_cwS 3 hts (wd_S wd_1304 wd_1305 wd_2 (wd_c wd_1306)) rfl rfl rfl ds_yX6_isRest_3 ⟨Nat.le_of_ble_eq_true rfl, Nat.le_of_ble_eq_true rfl⟩) ⟨Pw.fb, fun U hU hW => Pn.to hK hE hS hA hU hW⟩ rfl rfl hl.1 rfl (lv_room (Nat.le_of_ble_eq_true rfl)) dX6_rest_43 ⟨Nat.le_of_ble_eq_true rfl, Nat.le_of_ble_eq_true rfl⟩) hS (fun q _ h => hFc q h) hFc (fun r u t H locs ht hvm hw hB hz1 hk1 hS => ?_)
              obtain ⟨hP, hD, hK⟩ := Bw.same ht hvm hP hD hK hk1 hFc
              clear hz1 hk1 hvm ht hB
              have hq9 := hw.2
              have hw := hw.1
              obtain ⟨x_6338, rfl⟩ : ∃ z, z = r := ⟨_, rfl⟩
              have hq_x_6338 := hq9
              have hG := hG.trans (lt_eq hq_x_6338.symm)
              have rg_x_6338 := fb_rng x_6338
              have bx_6338 := hw.1
              have dx_6338 := bz_tb bx_6338
              refine lv_if_eq (tgt := 60) hx hb dX6_rest_46 (by decide) (fun c_6339 => ?_) (fun c_6339 => ?_)
              · skip
                have hG := hG.trans (if_pos c_6339)
                have gc_6339 := ti_eq c_6339 rfl kc_0
                obtain ⟨x_6340, ex_6340⟩ : ∃ z : Int32, z = z_6315 + Int32.ofInt 1 := ⟨_, rfl⟩
                have hG := hG.trans (lt_eq ex_6340)
                have vx_6340 : x_6340.toInt = z_6315.toInt + 1 := ti_add (y := 1) ex_6340 rfl kc_1 (om_4e4fce7e hi0_n_6316.1) (om_71ed274a gc_6317)
                refine lv_iinc (v := x_6340) (lv' := [(2, .int x_6340), (0, .ref oK), (1, .int p0)]) hx hb dX6_rest_60 hl (k := 0) rfl ex_6340.symm (by decide) rfl (fun ls hl => ?_)
                refine lv_goto (tgt := 15) hx hb dX6_rest_63 (by decide) ?_
                exact ih_n_6316 x_6340 _ _ _  ⟨(om_83b90de5 hi0_n_6316.1 vx_6340), (om_d99ff3f9 gc_6317 vx_6340)⟩ (ms_lt hm_n_6316 (om_b9393183 vx_6340) (om_50af1673 gc_6317)) hG hP hD hS (lv_sub hl [0, 1, 2] rfl)
              · skip
                have hG := hG.trans (if_neg c_6339)
                have gc_6339 := ti_ne c_6339 rfl kc_0
                refine lv_iload_n hx hb dX6_rest_49 rfl (lv_at hl 0 rfl) ?_
                refine lv_iconst (v := 1) hx hb dX6_rest_50 (by decide) ?_
                refine lv_ishr hx hb dX6_rest_51 ?_
                refine lv_topi (fun x_6341 ex_6341 => ?_)
                have hG := hG.trans (lt_eq ex_6341)
                have rg_x_6341 := fb_rng x_6341
                refine lv_bipush (v := 10) hx hb dX6_rest_52 (by decide) ?_
                refine lv_imul hx hb dX6_rest_54 ?_
                refine lv_topi (fun x_6342 ex_6342 => ?_)
                have hG := hG.trans (lt_eq ex_6342)
                have rg_x_6342 := fb_rng x_6342
                refine lv_iload_n hx hb dX6_rest_55 rfl (lv_at hl 0 rfl) ?_
                refine lv_iconst (v := 1) hx hb dX6_rest_56 (by decide) ?_
                refine lv_iand hx hb dX6_rest_57 ?_
                refine lv_topi (fun x_6343 ex_6343 => ?_)
                have hG := hG.trans (lt_eq ex_6343)
                have rg_x_6343 := fb_rng x_6343
                refine lv_iadd hx hb dX6_rest_58 ?_
                refine lv_topi (fun x_6344 ex_6344 => ?_)
                have hG := hG.trans (lt_eq ex_6344)
                have rg_x_6344 := fb_rng x_6344
                exact wq_i hx hb hr (cI x_6344) ⟨⟨trivial, trivial⟩, (cI_of x_6344)⟩ (fun t ht hW => ⟨x_6311, (cI_tup hG), Bw.to hP hD hK ht hW⟩) hS dX6_rest_59 hlocks
            · skip
              have hG := hG.trans (if_neg c_6337)
              have gc_6337 := ti_ne c_6337 rfl kc_0
              refine lv_iconst (v := 1) hx hb dX6_rest_38 (by decide) ?_
              refine lv_goto (tgt := 43) hx hb dX6_rest_39 (by decide) ?_
              have hFc : ∀ q, va_A [] _ q → A q := fun q h => hA q (Nat.le_trans hS.1 (va_nilA h))
              refine va_calli (va_runS (As := [.int p0, .int 1, .int 1]) (rest := []) ⟨hx, hb, hml, hown, hts⟩ (tX6_isRest l dC dI _ p0 1 1 ) (va_cwS 3 hts (wd_S wd_1304 wd_1305 wd_2 (wd_c wd_1306)) rfl rfl rfl ds_yX6_isRest_3 ⟨Nat.le_of_ble_eq_true rfl, Nat.le_of_ble_eq_true rfl⟩) ⟨Pw.fb, fun U hU hW => Pn.to hK hE hS hA hU hW⟩ rfl rfl hl.1 rfl (lv_room (Nat.le_of_ble_eq_true rfl)) dX6_rest_43 ⟨Nat.le_of_ble_eq_true rfl, Nat.le_of_ble_eq_true rfl⟩) hS (fun q _ h => hFc q h) hFc (fun r u t H locs ht hvm hw hB hz1 hk1 hS => ?_)
              obtain ⟨hP, hD, hK⟩ := Bw.same ht hvm hP hD hK hk1 hFc
              clear hz1 hk1 hvm ht hB
              have hq9 := hw.2
              have hw := hw.1
              obtain ⟨x_6345, rfl⟩ : ∃ z, z = r := ⟨_, rfl⟩
              have hq_x_6345 := hq9
              have hG := hG.trans (lt_eq hq_x_6345.symm)
              have rg_x_6345 := fb_rng x_6345
              have bx_6345 := hw.1
              have dx_6345 := bz_tb bx_6345
              refine lv_if_eq (tgt := 60) hx hb dX6_rest_46 (by decide) (fun c_6346 => ?_) (fun c_6346 => ?_)
              · skip
                have hG := hG.trans (if_pos c_6346)
                have gc_6346 := ti_eq c_6346 rfl kc_0
                obtain ⟨x_6347, ex_6347⟩ : ∃ z : Int32, z = z_6315 + Int32.ofInt 1 := ⟨_, rfl⟩
                have hG := hG.trans (lt_eq ex_6347)
                have vx_6347 : x_6347.toInt = z_6315.toInt + 1 := ti_add (y := 1) ex_6347 rfl kc_1 (om_4e4fce7e hi0_n_6316.1) (om_71ed274a gc_6317)
                refine lv_iinc (v := x_6347) (lv' := [(2, .int x_6347), (0, .ref oK), (1, .int p0)]) hx hb dX6_rest_60 hl (k := 0) rfl ex_6347.symm (by decide) rfl (fun ls hl => ?_)
                refine lv_goto (tgt := 15) hx hb dX6_rest_63 (by decide) ?_
                exact ih_n_6316 x_6347 _ _ _  ⟨(om_83b90de5 hi0_n_6316.1 vx_6347), (om_d99ff3f9 gc_6317 vx_6347)⟩ (ms_lt hm_n_6316 (om_b9393183 vx_6347) (om_50af1673 gc_6317)) hG hP hD hS (lv_sub hl [0, 1, 2] rfl)
              · skip
                have hG := hG.trans (if_neg c_6346)
                have gc_6346 := ti_ne c_6346 rfl kc_0
                refine lv_iload_n hx hb dX6_rest_49 rfl (lv_at hl 0 rfl) ?_
                refine lv_iconst (v := 1) hx hb dX6_rest_50 (by decide) ?_
                refine lv_ishr hx hb dX6_rest_51 ?_
                refine lv_topi (fun x_6348 ex_6348 => ?_)
                have hG := hG.trans (lt_eq ex_6348)
                have rg_x_6348 := fb_rng x_6348
                refine lv_bipush (v := 10) hx hb dX6_rest_52 (by decide) ?_
                refine lv_imul hx hb dX6_rest_54 ?_
                refine lv_topi (fun x_6349 ex_6349 => ?_)
                have hG := hG.trans (lt_eq ex_6349)
                have rg_x_6349 := fb_rng x_6349
                refine lv_iload_n hx hb dX6_rest_55 rfl (lv_at hl 0 rfl) ?_
                refine lv_iconst (v := 1) hx hb dX6_rest_56 (by decide) ?_
                refine lv_iand hx hb dX6_rest_57 ?_
                refine lv_topi (fun x_6350 ex_6350 => ?_)
                have hG := hG.trans (lt_eq ex_6350)
                have rg_x_6350 := fb_rng x_6350
                refine lv_iadd hx hb dX6_rest_58 ?_
                refine lv_topi (fun x_6351 ex_6351 => ?_)
                have hG := hG.trans (lt_eq ex_6351)
                have rg_x_6351 := fb_rng x_6351
                exact wq_i hx hb hr (cI x_6351) ⟨⟨trivial, trivial⟩, (cI_of x_6351)⟩ (fun t ht hW => ⟨x_6311, (cI_tup hG), Bw.to hP hD hK ht hW⟩) hS dX6_rest_59 hlocks
    exact key_n_6316 (((2147483647 - (0 : Int32).toInt).toNat) + 1) 0 _ _ _  ⟨(om_b1de7dbe kc_0), (om_daf17c64 kc_0)⟩ (Nat.lt_add_one _) hG hP hD hS hl
  · skip
    have hG := hG.trans (un2_eq e_x_6311_0)
    have hG := hG.trans (if_neg (by decide))
    refine lv_if_eq (tgt := 13) hx hb dX6_rest_8 (by decide) (fun c => absurd c (by decide)) (fun _ => ?_)
    refine lv_iconst (v := (-1)) hx hb dX6_rest_11 (by decide) ?_
    exact wq_i hx hb hr (cI (-1)) ⟨⟨trivial, trivial⟩, (cI_of (-1))⟩ (fun t ht hW => ⟨x_6311, (cI_tup hG), Bw.to hP hD hK ht hW⟩) hS dX6_rest_12 hlocks
set_option maxHeartbeats 4000000 in
set_option maxRecDepth 100000 in
theorem tX6_lacksDraws (l : Launch) (dC : Nat → ClassId) (dI : Nat → Nat → Nat) (sz : Nat) (oK : Nat) (oR : Nat) (oC : Nat) (oS : Nat) (oT : Nat) (rK_images : Nat) (iK_imageCount : Int32) (oA : Nat) (oH : Nat) (oL : Nat) (iK_refusal : Int32) (iK_latestFault : Int32) (iK_latestPlace : Int32) (iC_nodes : Int32) (iC_words : Int32) (iC_chances : Int32) (iC_unsures : Int32) (iC_slips : Int32) (iC_throneNode : Int32) (iC_saidWorth : Int32) (iC_unit : Int32) (rC_kind : Nat) (rC_parts : Nat) (rC_partNodes : Nat) (rC_weights : Nat) (rC_weightSums : Nat) (rC_toldWorths : Nat) (rC_steps : Nat) (rC_below : Nat) (rC_above : Nat) (rC_unsureWords : Nat) (rC_unsureWorths : Nat) (p0 : Int32) (p1 : Int32) (b_iK_imageCount : 0 ≤ iK_imageCount.toInt ∧ iK_imageCount.toInt ≤ 3) (b_iC_nodes : 0 ≤ iC_nodes.toInt ∧ iC_nodes.toInt ≤ 18) (b_iC_unsures : 0 ≤ iC_unsures.toInt ∧ iC_unsures.toInt ≤ 4) (b_iC_throneNode : (-1) ≤ iC_throneNode.toInt ∧ iC_throneNode.toInt ≤ 17)  : Met l yX6_lacksDraws (Cond.code yX6_lacksDraws cX6_lacksDraws 3 (some .boolean) :: wG) ({ frames := 2, cells := 0, slots := 0, locals := 43 }) (va_Pc [.ref oK, .int p0, .int p1] (Pw dC dI sz [(oc6 oK oR oC oS oT rK_images iK_imageCount oA oH oL iK_refusal iK_latestFault iK_latestPlace), (oc1 oC iC_nodes iC_words iC_chances iC_unsures iC_slips iC_throneNode iC_saidWorth iC_unit rC_kind rC_parts rC_partNodes rC_weights rC_weightSums rC_toldWorths rC_steps rC_below rC_above rC_unsureWords rC_unsureWorths)] [])) (va_Qi (fun (r : Int32) (_ : Nat) => (r = 0 ∨ r = 1) ∧ ((r = 0 ∧ 0 < iC_nodes.toInt ∧ 0 ≤ p0.toInt ∧ p0.toInt ≤ 65536) ∨ (r = 1 ∧ True))) (fun (_ : Nat) (t : State) => ∃ (niK_refusal : Int32), Bw dC dI (va_A [(oc6 oK oR oC oS oT rK_images iK_imageCount oA oH oL iK_refusal iK_latestFault iK_latestPlace), (oc1 oC iC_nodes iC_words iC_chances iC_unsures iC_slips iC_throneNode iC_saidWorth iC_unit rC_kind rC_parts rC_partNodes rC_weights rC_weightSums rC_toldWorths rC_steps rC_below rC_above rC_unsureWords rC_unsureWorths)] sz) [(oc6 oK oR oC oS oT rK_images iK_imageCount oA oH oL niK_refusal iK_latestFault iK_latestPlace), (oc1 oC iC_nodes iC_words iC_chances iC_unsures iC_slips iC_throneNode iC_saidWorth iC_unit rC_kind rC_parts rC_partNodes rC_weights rC_weightSums rC_toldWorths rC_steps rC_below rC_above rC_unsureWords rC_unsureWorths)] [] t) (va_A [(oc6 oK oR oC oS oT rK_images iK_imageCount oA oH oL iK_refusal iK_latestFault iK_latestPlace), (oc1 oC iC_nodes iC_words iC_chances iC_unsures iC_slips iC_throneNode iC_saidWorth iC_unit rC_kind rC_parts rC_partNodes rC_weights rC_weightSums rC_toldWorths rC_steps rC_below rC_above rC_unsureWords rC_unsureWorths)] sz)) 0 0 (va_A [(oc6 oK oR oC oS oT rK_images iK_imageCount oA oH oL iK_refusal iK_latestFault iK_latestPlace), (oc1 oC iC_nodes iC_words iC_chances iC_unsures iC_slips iC_throneNode iC_saidWorth iC_unit rC_kind rC_parts rC_partNodes rC_weights rC_weightSums rC_toldWorths rC_steps rC_below rC_above rC_unsureWords rC_unsureWorths)] sz) := by
  refine Met.ofW (cc := cX6_lacksDraws) (maxL := 3) (ret := (some .boolean)) pnX6 rfl ?_
  intro p e s m args below meth c s₁ B hml hv
  obtain ⟨rfl, hsz, hP, hK, hD0, hE⟩ := hv
  have hx := B.exec
  have hb := B.bytes
  have hr := B.returns
  have hts : ∀ w ∈ wG, w.before ([.ref oK, .int p0, .int p1] : List Value).toArray s = true := fun w h => atoms_spec (ws := Cond.code yX6_lacksDraws cX6_lacksDraws 3 (some .boolean) :: wG) B.pre w (List.mem_cons_of_mem _ h)
  have hown : s.vm.findClass RX6 = some m.cls := own_of B.named rfl
  have hlocks := B.notSynchronized
  subst hsz
  have hD := hD0.self (sz := s.heap.size)
  generalize hAe : va_A [(oc6 oK oR oC oS oT rK_images iK_imageCount oA oH oL iK_refusal iK_latestFault iK_latestPlace), (oc1 oC iC_nodes iC_words iC_chances iC_unsures iC_slips iC_throneNode iC_saidWorth iC_unit rC_kind rC_parts rC_partNodes rC_weights rC_weightSums rC_toldWorths rC_steps rC_below rC_above rC_unsureWords rC_unsureWorths)] s.heap.size = A at hD hE ⊢
  have hA : ∀ q : Nat, s.heap.size ≤ q → A q := fun q h => by rw [← hAe]; exact Or.inr h
  have hS : va_S A s.heap s.heap [] := va_S.rf
  have hl := lv_entry ([.ref oK, .int p0, .int p1]) (n := 3) (Nat.le_of_ble_eq_true rfl)
  rw [lg_entry_eq]
  generalize (lg_sl ([.ref oK, .int p0, .int p1]) ++ List.replicate (3 - (lg_sl ([.ref oK, .int p0, .int p1])).length) Slot.unset).toArray = ls at hl ⊢
  have hl : lv_has ls 3 [(0, .ref oK), (1, .int p0), (2, .int p1)] := hl
  refine lv_aload_n hx hb dX6_lacksDraws_0 rfl (lv_at hl 0 rfl) ?_
  refine lv_iload_n hx hb dX6_lacksDraws_1 rfl (lv_at hl 1 rfl) ?_
  refine lv_iconst (v := 0) hx hb dX6_lacksDraws_2 (by decide) ?_
  refine lv_ldcw hx hb hown (hts _ wd_1332) dX6_lacksDraws_3 ?_
  have hFc := va_freeI hD hS hA
  refine va_calli (va_runV (As := [.int p0, .int 0, .int 65536]) (rest := []) ⟨hx, hb, hml, hown, hts⟩ (tX6_lacksNumber l dC dI _ oK oR oC oS oT rK_images iK_imageCount oA oH oL iK_refusal iK_latestFault iK_latestPlace iC_nodes iC_words iC_chances iC_unsures iC_slips iC_throneNode iC_saidWorth iC_unit rC_kind rC_parts rC_partNodes rC_weights rC_weightSums rC_toldWorths rC_steps rC_below rC_above rC_unsureWords rC_unsureWorths p0 0 65536 b_iK_imageCount b_iC_nodes b_iC_unsures b_iC_throneNode) (cwV 3 hts (wd_V wd_866 wd_867 wd_868 wd_2 (wd_c wd_869)) rfl rfl rfl dv_yX6_lacksNumber_3 ⟨Nat.le_of_ble_eq_true rfl, Nat.le_of_ble_eq_true rfl⟩) ⟨Pw.fb, recvX6 hK hP (q0 := 0) rfl, fun U hU hW => Pw.to hP hD hK hE hS hFc hU hW⟩ rfl rfl hl.1 rfl (lv_room (Nat.le_of_ble_eq_true rfl)) dX6_lacksDraws_6 ⟨Nat.le_of_ble_eq_true rfl, Nat.le_of_ble_eq_true rfl⟩) hS (fun q _ h => hFc q h) hFc (fun r u t H locs ht hvm hw hB hz1 hk1 hS => ?_)
  have hru9 := hw.2
  have hw := hw.1
  refine ex_1_1 hB (fun x_6359 e_x_6359_0 hB => ?_)
  obtain ⟨hP, hD⟩ := Bw.goA (ws' := [(oc6 oK oR oC oS oT rK_images iK_imageCount oA oH oL x_6359 iK_latestFault iK_latestPlace), (oc1 oC iC_nodes iC_words iC_chances iC_unsures iC_slips iC_throneNode iC_saidWorth iC_unit rC_kind rC_parts rC_partNodes rC_weights rC_weightSums rC_toldWorths rC_steps rC_below rC_above rC_unsureWords rC_unsureWorths)]) hB rfl ht hFc rfl
  clear hz1 hk1 hvm ht hB
  rcases hw.2 with ⟨rfl, hc_6360⟩ | ⟨rfl, hc_6360⟩
  · skip
    refine lv_if_eq (tgt := 14) hx hb dX6_lacksDraws_9 (by decide) (fun _ => ?_) (fun c => absurd c (by decide))
    refine lv_aload_n hx hb dX6_lacksDraws_14 rfl (lv_at hl 0 rfl) ?_
    refine lv_iload_n hx hb dX6_lacksDraws_15 rfl (lv_at hl 2 rfl) ?_
    refine lv_iconst (v := 1) hx hb dX6_lacksDraws_16 (by decide) ?_
    refine lv_bipush (v := 60) hx hb dX6_lacksDraws_17 (by decide) ?_
    have hFc := va_freeI hD hS hA
    refine va_calli (va_runV (As := [.int p1, .int 1, .int 60]) (rest := []) ⟨hx, hb, hml, hown, hts⟩ (tX6_lacksNumber l dC dI _ oK oR oC oS oT rK_images iK_imageCount oA oH oL x_6359 iK_latestFault iK_latestPlace iC_nodes iC_words iC_chances iC_unsures iC_slips iC_throneNode iC_saidWorth iC_unit rC_kind rC_parts rC_partNodes rC_weights rC_weightSums rC_toldWorths rC_steps rC_below rC_above rC_unsureWords rC_unsureWorths p1 1 60 b_iK_imageCount b_iC_nodes b_iC_unsures b_iC_throneNode) (cwV 3 hts (wd_V wd_866 wd_867 wd_868 wd_2 (wd_c wd_869)) rfl rfl rfl dv_yX6_lacksNumber_3 ⟨Nat.le_of_ble_eq_true rfl, Nat.le_of_ble_eq_true rfl⟩) ⟨Pw.fb, recvX6 hK hP (q0 := 0) rfl, fun U hU hW => Pw.to hP hD hK hE hS hFc hU hW⟩ rfl rfl hl.1 rfl (lv_room (Nat.le_of_ble_eq_true rfl)) dX6_lacksDraws_19 ⟨Nat.le_of_ble_eq_true rfl, Nat.le_of_ble_eq_true rfl⟩) hS (fun q _ h => hFc q h) hFc (fun r u t H locs ht hvm hw hB hz1 hk1 hS => ?_)
    have hru9 := hw.2
    have hw := hw.1
    refine ex_1_1 hB (fun x_6362 e_x_6362_0 hB => ?_)
    obtain ⟨hP, hD⟩ := Bw.goA (ws' := [(oc6 oK oR oC oS oT rK_images iK_imageCount oA oH oL x_6362 iK_latestFault iK_latestPlace), (oc1 oC iC_nodes iC_words iC_chances iC_unsures iC_slips iC_throneNode iC_saidWorth iC_unit rC_kind rC_parts rC_partNodes rC_weights rC_weightSums rC_toldWorths rC_steps rC_below rC_above rC_unsureWords rC_unsureWorths)]) hB rfl ht hFc rfl
    clear hz1 hk1 hvm ht hB
    rcases hw.2 with ⟨rfl, hc_6363⟩ | ⟨rfl, hc_6363⟩
    · skip
      exact wq_z (v := 0) hx hb hr rfl 0 ⟨Or.inl rfl, (Or.inl ⟨rfl, by first | omega | trivial⟩)⟩ (fun t ht hW => ⟨x_6362, Bw.to hP hD hK ht hW⟩) hS dX6_lacksDraws_22 hlocks
    · skip
      exact wq_z (v := 1) hx hb hr rfl 0 ⟨Or.inr rfl, (Or.inr (⟨rfl, trivial⟩))⟩ (fun t ht hW => ⟨x_6362, Bw.to hP hD hK ht hW⟩) hS dX6_lacksDraws_22 hlocks
  · skip
    refine lv_if_eq (tgt := 14) hx hb dX6_lacksDraws_9 (by decide) (fun c => absurd c (by decide)) (fun _ => ?_)
    refine lv_iconst (v := 1) hx hb dX6_lacksDraws_12 (by decide) ?_
    exact wq_z (v := 1) hx hb hr rfl 0 ⟨Or.inr rfl, (Or.inr (⟨rfl, trivial⟩))⟩ (fun t ht hW => ⟨x_6359, Bw.to hP hD hK ht hW⟩) hS dX6_lacksDraws_13 hlocks
set_option maxHeartbeats 4000000 in
set_option maxRecDepth 100000 in
theorem tX6_drawOrders (l : Launch) (dC : Nat → ClassId) (dI : Nat → Nat → Nat) (sz : Nat) (oK : Nat) (oR : Nat) (oC : Nat) (oS : Nat) (oT : Nat) (rK_images : Nat) (iK_imageCount : Int32) (oA : Nat) (oH : Nat) (oL : Nat) (iK_refusal : Int32) (iK_latestFault : Int32) (iK_latestPlace : Int32) (iC_nodes : Int32) (iC_words : Int32) (iC_chances : Int32) (iC_unsures : Int32) (iC_slips : Int32) (iC_throneNode : Int32) (iC_saidWorth : Int32) (iC_unit : Int32) (rC_kind : Nat) (rC_parts : Nat) (fC_parts : Nat → Int32) (kC_parts : ClassId) (rC_partNodes : Nat) (rC_weights : Nat) (rC_weightSums : Nat) (rC_toldWorths : Nat) (rC_steps : Nat) (rC_below : Nat) (rC_above : Nat) (rC_unsureWords : Nat) (rC_unsureWorths : Nat) (rS_worths : Nat) (rS_order : Nat) (fS_order : Nat → Int32) (kS_order : ClassId) (rS_left : Nat) (rT_worths : Nat) (rT_order : Nat) (fT_order : Nat → Int32) (kT_order : ClassId) (rT_left : Nat) (p0 : Int32) (b_iK_imageCount : 0 ≤ iK_imageCount.toInt ∧ iK_imageCount.toInt ≤ 3) (b_iC_nodes : 0 ≤ iC_nodes.toInt ∧ iC_nodes.toInt ≤ 18) (b_iC_unsures : 0 ≤ iC_unsures.toInt ∧ iC_unsures.toInt ≤ 4) (b_iC_throneNode : (-1) ≤ iC_throneNode.toInt ∧ iC_throneNode.toInt ≤ 17) (a_fC_parts : ∀ j : Nat, j < 18 → 0 ≤ (fC_parts j).toInt ∧ (fC_parts j).toInt ≤ 4) (a_fS_order : ∀ j : Nat, j < 72 → 0 ≤ (fS_order j).toInt ∧ (fS_order j).toInt ≤ 3) (a_fT_order : ∀ j : Nat, j < 72 → 0 ≤ (fT_order j).toInt ∧ (fT_order j).toInt ≤ 3) (hp0 : 0 ≤ p0.toInt ∧ p0.toInt ≤ 65536) : Met l yX6_drawOrders (Cond.code yX6_drawOrders cX6_drawOrders 5 (some .int) :: wG) ({ frames := 1, cells := 0, slots := 0, locals := 27 }) (va_Pc [.ref oK, .int p0] (Pw dC dI sz [(oc6 oK oR oC oS oT rK_images iK_imageCount oA oH oL iK_refusal iK_latestFault iK_latestPlace), (oc1 oC iC_nodes iC_words iC_chances iC_unsures iC_slips iC_throneNode iC_saidWorth iC_unit rC_kind rC_parts rC_partNodes rC_weights rC_weightSums rC_toldWorths rC_steps rC_below rC_above rC_unsureWords rC_unsureWorths), (arI rC_parts kC_parts 18 fC_parts), (oc5 oS rS_worths rS_order rS_left), (arI rS_order kS_order 72 fS_order), (oc5 oT rT_worths rT_order rT_left), (arI rT_order kT_order 72 fT_order)] [(kC_parts, .int), (kS_order, .int), (kT_order, .int)])) (va_Qi (fun (r : Int32) (_ : Nat) => True ∧ (0 ≤ r.toInt ∧ r.toInt ≤ 65536)) (fun (_ : Nat) (t : State) => ∃ (nfT_order : Nat → Int32), (∀ j : Nat, j < 72 → 0 ≤ (nfT_order j).toInt ∧ (nfT_order j).toInt ≤ 3) ∧ Bw dC dI (va_A [(oc6 oK oR oC oS oT rK_images iK_imageCount oA oH oL iK_refusal iK_latestFault iK_latestPlace), (oc1 oC iC_nodes iC_words iC_chances iC_unsures iC_slips iC_throneNode iC_saidWorth iC_unit rC_kind rC_parts rC_partNodes rC_weights rC_weightSums rC_toldWorths rC_steps rC_below rC_above rC_unsureWords rC_unsureWorths), (arI rC_parts kC_parts 18 fC_parts), (oc5 oS rS_worths rS_order rS_left), (arI rS_order kS_order 72 fS_order), (oc5 oT rT_worths rT_order rT_left), (arI rT_order kT_order 72 fT_order)] sz) [(oc6 oK oR oC oS oT rK_images iK_imageCount oA oH oL iK_refusal iK_latestFault iK_latestPlace), (oc1 oC iC_nodes iC_words iC_chances iC_unsures iC_slips iC_throneNode iC_saidWorth iC_unit rC_kind rC_parts rC_partNodes rC_weights rC_weightSums rC_toldWorths rC_steps rC_below rC_above rC_unsureWords rC_unsureWorths), (arI rC_parts kC_parts 18 fC_parts), (oc5 oS rS_worths rS_order rS_left), (arI rS_order kS_order 72 fS_order), (oc5 oT rT_worths rT_order rT_left), (arI rT_order kT_order 72 nfT_order)] [(kC_parts, .int), (kS_order, .int), (kT_order, .int)] t) (va_A [(oc6 oK oR oC oS oT rK_images iK_imageCount oA oH oL iK_refusal iK_latestFault iK_latestPlace), (oc1 oC iC_nodes iC_words iC_chances iC_unsures iC_slips iC_throneNode iC_saidWorth iC_unit rC_kind rC_parts rC_partNodes rC_weights rC_weightSums rC_toldWorths rC_steps rC_below rC_above rC_unsureWords rC_unsureWorths), (arI rC_parts kC_parts 18 fC_parts), (oc5 oS rS_worths rS_order rS_left), (arI rS_order kS_order 72 fS_order), (oc5 oT rT_worths rT_order rT_left), (arI rT_order kT_order 72 fT_order)] sz)) 0 0 (va_A [(oc6 oK oR oC oS oT rK_images iK_imageCount oA oH oL iK_refusal iK_latestFault iK_latestPlace), (oc1 oC iC_nodes iC_words iC_chances iC_unsures iC_slips iC_throneNode iC_saidWorth iC_unit rC_kind rC_parts rC_partNodes rC_weights rC_weightSums rC_toldWorths rC_steps rC_below rC_above rC_unsureWords rC_unsureWorths), (arI rC_parts kC_parts 18 fC_parts), (oc5 oS rS_worths rS_order rS_left), (arI rS_order kS_order 72 fS_order), (oc5 oT rT_worths rT_order rT_left), (arI rT_order kT_order 72 fT_order)] sz) := by
  refine Met.ofW (cc := cX6_drawOrders) (maxL := 5) (ret := (some .int)) pnX6 rfl ?_
  intro p e s m args below meth c s₁ B hml hv
  obtain ⟨rfl, hsz, hP, hK, hD0, hE⟩ := hv
  have hx := B.exec
  have hb := B.bytes
  have hr := B.returns
  have hts : ∀ w ∈ wG, w.before ([.ref oK, .int p0] : List Value).toArray s = true := fun w h => atoms_spec (ws := Cond.code yX6_drawOrders cX6_drawOrders 5 (some .int) :: wG) B.pre w (List.mem_cons_of_mem _ h)
  have hown : s.vm.findClass RX6 = some m.cls := own_of B.named rfl
  have hlocks := B.notSynchronized
  subst hsz
  have hD := hD0.self (sz := s.heap.size)
  generalize hAe : va_A [(oc6 oK oR oC oS oT rK_images iK_imageCount oA oH oL iK_refusal iK_latestFault iK_latestPlace), (oc1 oC iC_nodes iC_words iC_chances iC_unsures iC_slips iC_throneNode iC_saidWorth iC_unit rC_kind rC_parts rC_partNodes rC_weights rC_weightSums rC_toldWorths rC_steps rC_below rC_above rC_unsureWords rC_unsureWorths), (arI rC_parts kC_parts 18 fC_parts), (oc5 oS rS_worths rS_order rS_left), (arI rS_order kS_order 72 fS_order), (oc5 oT rT_worths rT_order rT_left), (arI rT_order kT_order 72 fT_order)] s.heap.size = A at hD hE ⊢
  have hA : ∀ q : Nat, s.heap.size ≤ q → A q := fun q h => by rw [← hAe]; exact Or.inr h
  have hS : va_S A s.heap s.heap [] := va_S.rf
  have hl := lv_entry ([.ref oK, .int p0]) (n := 5) (Nat.le_of_ble_eq_true rfl)
  rw [lg_entry_eq]
  generalize (lg_sl ([.ref oK, .int p0]) ++ List.replicate (5 - (lg_sl ([.ref oK, .int p0])).length) Slot.unset).toArray = ls at hl ⊢
  have hl : lv_has ls 5 [(0, .ref oK), (1, .int p0)] := hl
  have rg_p0 := fb_rng p0
  refine lv_iload_n hx hb dX6_drawOrders_0 rfl (lv_at hl 1 rfl) ?_
  refine lv_istore_n (lv' := [(2, .int p0), (0, .ref oK), (1, .int p0)]) hx hb dX6_drawOrders_1 rfl hl (by decide) rfl (fun ls hl => ?_)
  refine lv_iconst (v := 0) hx hb dX6_drawOrders_2 (by decide) ?_
  refine lv_istore_n (lv' := [(3, .int 0), (2, .int p0), (0, .ref oK), (1, .int p0)]) hx hb dX6_drawOrders_3 rfl hl (by decide) rfl (fun ls hl => ?_)
  have hl := lv_sub hl (l' := [(3, .int 0), (2, .int p0), (0, .ref oK), (1, .int p0)]) [0, 1, 2, 3] rfl
  have key_n_6395 : ∀ (n_6395 : Nat) (z_6392 : Int32) (z_6393 : Int32) (f_6394 : Nat → Int32) (H : Heap) (locs : List Loc) (ls : Array Slot), (∀ j : Nat, j < 72 → 0 ≤ (f_6394 j).toInt ∧ (f_6394 j).toInt ≤ 3) → (0 ≤ z_6392.toInt ∧ z_6392.toInt ≤ 2147483647) → (0 ≤ z_6393.toInt ∧ z_6393.toInt ≤ 65536) → (2147483647 - z_6392.toInt).toNat < n_6395 → va_P (dC, dI) vwCl [(oc6 oK oR oC oS oT rK_images iK_imageCount oA oH oL iK_refusal iK_latestFault iK_latestPlace), (oc1 oC iC_nodes iC_words iC_chances iC_unsures iC_slips iC_throneNode iC_saidWorth iC_unit rC_kind rC_parts rC_partNodes rC_weights rC_weightSums rC_toldWorths rC_steps rC_below rC_above rC_unsureWords rC_unsureWorths), (arI rC_parts kC_parts 18 fC_parts), (oc5 oS rS_worths rS_order rS_left), (arI rS_order kS_order 72 fS_order), (oc5 oT rT_worths rT_order rT_left), (arI rT_order kT_order 72 f_6394)] H → va_D A [(oc6 oK oR oC oS oT rK_images iK_imageCount oA oH oL iK_refusal iK_latestFault iK_latestPlace), (oc1 oC iC_nodes iC_words iC_chances iC_unsures iC_slips iC_throneNode iC_saidWorth iC_unit rC_kind rC_parts rC_partNodes rC_weights rC_weightSums rC_toldWorths rC_steps rC_below rC_above rC_unsureWords rC_unsureWorths), (arI rC_parts kC_parts 18 fC_parts), (oc5 oS rS_worths rS_order rS_left), (arI rS_order kS_order 72 fS_order), (oc5 oT rT_worths rT_order rT_left), (arI rT_order kT_order 72 f_6394)] → va_S A s.heap H locs → lv_has ls 5 [(3, .int z_6392), (2, .int z_6393), (0, .ref oK), (1, .int p0)] → W p l e (headSpec (Cond.code yX6_drawOrders cX6_drawOrders 5 (some .int) :: wG) ({ frames := 1, cells := 0, slots := 0, locals := 27 })).room s m ([.ref oK, .int p0] : List Value).toArray below meth c H locs 0 0 (MQ below (va_Qi (fun (r : Int32) (_ : Nat) => True ∧ (0 ≤ r.toInt ∧ r.toInt ≤ 65536)) (fun (_ : Nat) (t : State) => ∃ (nfT_order : Nat → Int32), (∀ j : Nat, j < 72 → 0 ≤ (nfT_order j).toInt ∧ (nfT_order j).toInt ≤ 3) ∧ Bw dC dI A [(oc6 oK oR oC oS oT rK_images iK_imageCount oA oH oL iK_refusal iK_latestFault iK_latestPlace), (oc1 oC iC_nodes iC_words iC_chances iC_unsures iC_slips iC_throneNode iC_saidWorth iC_unit rC_kind rC_parts rC_partNodes rC_weights rC_weightSums rC_toldWorths rC_steps rC_below rC_above rC_unsureWords rC_unsureWorths), (arI rC_parts kC_parts 18 fC_parts), (oc5 oS rS_worths rS_order rS_left), (arI rS_order kS_order 72 fS_order), (oc5 oT rT_worths rT_order rT_left), (arI rT_order kT_order 72 nfT_order)] [(kC_parts, .int), (kS_order, .int), (kT_order, .int)] t) A) ([.ref oK, .int p0] : List Value).toArray s 0 0 A) (F0 m 4 ls []) := by
    intro n_6395
    induction n_6395 with
    | zero => intro z_6392 z_6393 f_6394 H locs ls a_f_6394 hi0_n_6395 hi1_n_6395 hm; exact absurd hm (Nat.not_lt_zero _)
    | succ n_6395 ih_n_6395 =>
      intro z_6392 z_6393 f_6394 H locs ls a_f_6394 hi0_n_6395 hi1_n_6395 hm_n_6395 hP hD hS hl
      have rg_z_6392 := fb_rng z_6392
      have rg_z_6393 := fb_rng z_6393
      refine lv_iload_n hx hb dX6_drawOrders_4 rfl (lv_at hl 0 rfl) ?_
      refine lv_aload_n hx hb dX6_drawOrders_5 rfl (lv_at hl 2 rfl) ?_
      refine va_get (D := (dC, dI)) (ci := 6) (v := .ref oC) (C := RX6) (T := TX6) (N := 12) hx hb hts inX6 hown hK hP 0 rfl rfl 1 (by decide) (hts _ wd_20) (fun _ h9 => h9) rfl dX6_drawOrders_6 ?_
      refine va_get (D := (dC, dI)) (ci := 1) (v := .int iC_nodes) (C := RX1) (T := TX1) (N := 19) hx hb hts inX1 hown hK hP 1 rfl rfl 0 (by decide) (hts _ wd_196) (fun _ h9 => h9) rfl dX6_drawOrders_9 ?_
      have rg_iC_nodes := fb_rng iC_nodes
      refine lv_icmp_ge (tgt := 67) hx hb dX6_drawOrders_12 (by decide) (fun c_6396 => ?_) (fun c_6396 => ?_)
      · skip
        have gc_6396 := ti_le c_6396 rfl rfl
        refine lv_iload_n hx hb dX6_drawOrders_67 rfl (lv_at hl 1 rfl) ?_
        exact wq_i hx hb hr 0 ⟨trivial, ⟨hi1_n_6395.1, hi1_n_6395.2⟩⟩ (fun t ht hW => ⟨f_6394, a_f_6394, Bw.to hP hD hK ht hW⟩) hS dX6_drawOrders_68 hlocks
      · skip
        have gc_6396 := ti_nle c_6396 rfl rfl
        refine lv_aload_n hx hb dX6_drawOrders_15 rfl (lv_at hl 2 rfl) ?_
        refine va_get (D := (dC, dI)) (ci := 6) (v := .ref oC) (C := RX6) (T := TX6) (N := 12) hx hb hts inX6 hown hK hP 0 rfl rfl 1 (by decide) (hts _ wd_20) (fun _ h9 => h9) rfl dX6_drawOrders_16 ?_
        refine va_get (D := (dC, dI)) (ci := 1) (v := .ref rC_parts) (C := RX1) (T := TX1) (N := 19) hx hb hts inX1 hown hK hP 1 rfl rfl 9 (by decide) (hts _ wd_531) (fun _ h9 => h9) rfl dX6_drawOrders_19 ?_
        refine lv_iload_n hx hb dX6_drawOrders_22 rfl (lv_at hl 0 rfl) ?_
        refine va_iald hx hb hK hP 2 0 rfl rfl (ti_in rfl hi0_n_6395.1 (om_97cd4a7c b_iC_nodes.2 gc_6396)) dX6_drawOrders_23 ?_
        refine lv_topi (fun x_6397 ex_6397 => ?_)
        have rg_x_6397 := fb_rng x_6397
        have kx_6397 : (fC_parts z_6392.toNatClampNeg).toInt = x_6397.toInt := by rw [ex_6397]
        have ux_6397 := a_fC_parts z_6392.toNatClampNeg (cl_lt rfl hi0_n_6395.1 (om_97cd4a7c b_iC_nodes.2 gc_6396))
        rw [show fC_parts z_6392.toNatClampNeg = x_6397 from ex_6397.symm] at ux_6397
        refine lv_istore (lv' := [(4, .int x_6397), (3, .int z_6392), (2, .int z_6393), (0, .ref oK), (1, .int p0)]) hx hb dX6_drawOrders_24 hl (by decide) rfl (fun ls hl => ?_)
        refine lv_iload hx hb dX6_drawOrders_26 (lv_at hl 0 rfl) ?_
        refine lv_if_le (tgt := 61) hx hb dX6_drawOrders_28 (by decide) (fun c_6398 => ?_) (fun c_6398 => ?_)
        · skip
          have gc_6398 := ti_le c_6398 rfl kc_0
          obtain ⟨x_6399, ex_6399⟩ : ∃ z : Int32, z = z_6392 + Int32.ofInt 1 := ⟨_, rfl⟩
          have vx_6399 : x_6399.toInt = z_6392.toInt + 1 := ti_add (y := 1) ex_6399 rfl kc_1 (om_4e4fce7e hi0_n_6395.1) (om_a32d6481 b_iC_nodes.2 gc_6396)
          refine lv_iinc (v := x_6399) (lv' := [(3, .int x_6399), (4, .int x_6397), (2, .int z_6393), (0, .ref oK), (1, .int p0)]) hx hb dX6_drawOrders_61 hl (k := 1) rfl ex_6399.symm (by decide) rfl (fun ls hl => ?_)
          refine lv_goto (tgt := 4) hx hb dX6_drawOrders_64 (by decide) ?_
          exact ih_n_6395 x_6399 z_6393 f_6394 _ _ _ a_f_6394 ⟨(om_83b90de5 hi0_n_6395.1 vx_6399), (om_ed8867da b_iC_nodes.2 gc_6396 vx_6399)⟩ ⟨hi1_n_6395.1, hi1_n_6395.2⟩ (ms_lt hm_n_6395 (om_b9393183 vx_6399) (om_1d9fa7fb b_iC_nodes.2 gc_6396)) hP hD hS (lv_sub hl [0, 2, 3, 4] rfl)
        · skip
          have gc_6398 := ti_nle c_6398 rfl kc_0
          refine lv_bipush (v := 75) hx hb dX6_drawOrders_31 (by decide) ?_
          refine lv_iload_n hx hb dX6_drawOrders_33 rfl (lv_at hl 2 rfl) ?_
          refine lv_imul hx hb dX6_drawOrders_34 ?_
          refine lv_topi (fun x_6400 ex_6400 => ?_)
          have vx_6400 : x_6400.toInt = 75 * z_6393.toInt := ti_mul ex_6400 kc_75 rfl (om_04c49496 hi1_n_6395.1) (om_ce900001 hi1_n_6395.2)
          refine lv_bipush (v := 74) hx hb dX6_drawOrders_35 (by decide) ?_
          refine lv_iadd hx hb dX6_drawOrders_37 ?_
          refine lv_topi (fun x_6401 ex_6401 => ?_)
          have vx_6401 : x_6401.toInt = 75 * z_6393.toInt + 74 := om_f6704f69 (ti_add ex_6401 vx_6400 kc_74 (om_57c1b9c1 hi1_n_6395.1) (om_bd291552 hi1_n_6395.2))
          refine lv_ldcw hx hb hown (hts _ wd_1337) dX6_drawOrders_38 ?_
          refine lv_irem hx hb dX6_drawOrders_41 (by decide) ?_
          refine lv_topi (fun x_6402 ex_6402 => ?_)
          have rg_x_6402 := fb_rng x_6402
          have qx_6402 := ti_rem ex_6402 vx_6401 kc_65537 (om_a8960480 hi1_n_6395.1) (by decide)
          refine lv_istore_n (lv' := [(2, .int x_6402), (4, .int x_6397), (3, .int z_6392), (0, .ref oK), (1, .int p0)]) hx hb dX6_drawOrders_42 rfl hl (by decide) rfl (fun ls hl => ?_)
          refine lv_aload_n hx hb dX6_drawOrders_43 rfl (lv_at hl 3 rfl) ?_
          refine va_get (D := (dC, dI)) (ci := 6) (v := .ref oT) (C := RX6) (T := TX6) (N := 12) hx hb hts inX6 hown hK hP 0 rfl rfl 3 (by decide) (hts _ wd_25) (fun _ h9 => h9) rfl dX6_drawOrders_44 ?_
          refine lv_aload_n hx hb dX6_drawOrders_47 rfl (lv_at hl 3 rfl) ?_
          refine va_get (D := (dC, dI)) (ci := 6) (v := .ref oS) (C := RX6) (T := TX6) (N := 12) hx hb hts inX6 hown hK hP 0 rfl rfl 2 (by decide) (hts _ wd_24) (fun _ h9 => h9) rfl dX6_drawOrders_48 ?_
          refine lv_iload_n hx hb dX6_drawOrders_51 rfl (lv_at hl 2 rfl) ?_
          refine lv_iload hx hb dX6_drawOrders_52 (lv_at hl 1 rfl) ?_
          refine lv_iload_n hx hb dX6_drawOrders_54 rfl (lv_at hl 0 rfl) ?_
          refine lv_iload hx hb dX6_drawOrders_55 (lv_at hl 1 rfl) ?_
          refine lv_irem hx hb dX6_drawOrders_57 (ti_n0 rfl (by omega)) ?_
          refine lv_topi (fun x_6403 ex_6403 => ?_)
          have rg_x_6403 := fb_rng x_6403
          have qx_6403 := ti_rem ex_6403 rfl rfl qx_6402.1 gc_6398
          have hFc := va_free (wc := [(oc5 oT rT_worths rT_order rT_left), (arI rT_order kT_order 72 f_6394), (oc5 oS rS_worths rS_order rS_left), (arI rS_order kS_order 72 fS_order)]) hD hS hA [5, 6, 3, 4] rfl
          refine va_callv (va_runV (As := [.ref oS, .int z_6392, .int x_6397, .int x_6403]) (rest := []) ⟨hx, hb, hml, hown, hts⟩ (tX5_turnRound l dC dI _ oT rT_worths rT_order f_6394 kT_order rT_left oS rS_worths rS_order fS_order kS_order rS_left z_6392 x_6397 x_6403 a_f_6394 a_fS_order ⟨hi0_n_6395.1, (om_525c5d3e b_iC_nodes.2 gc_6396)⟩ ⟨ux_6397.1, ux_6397.2⟩ ⟨qx_6403.1, qx_6403.2.1⟩) (cwV 4 hts (wd_V wd_1338 wd_1339 wd_1340 wd_23 (wd_c wd_1341)) rfl rfl rfl dv_yX5_turnRound_4 ⟨Nat.le_of_ble_eq_true rfl, Nat.le_of_ble_eq_true rfl⟩) ⟨Pw.fb, recvX5 hK hP (q0 := 5) rfl, fun U hU hW => Pw.to (hP.sub [5, 6, 3, 4] rfl) (hD.sub [5, 6, 3, 4] (by decide) rfl) (hK.sub [2, 1] rfl) hE hS hFc hU hW⟩ rfl rfl hl.1 rfl (lv_room (Nat.le_of_ble_eq_true rfl)) dX6_drawOrders_58 ⟨Nat.le_of_ble_eq_true rfl, Nat.le_of_ble_eq_true rfl⟩) hS (fun q _ h => hFc q h) hFc (fun u t H locs ht hvm hw hB hz1 hk1 hS => ?_)
          refine ex_1_1 hB (fun f_6404 a_f_6404 hB => ?_)
          obtain ⟨hP, hD, hK⟩ := Bw.go (ws' := [(oc6 oK oR oC oS oT rK_images iK_imageCount oA oH oL iK_refusal iK_latestFault iK_latestPlace), (oc1 oC iC_nodes iC_words iC_chances iC_unsures iC_slips iC_throneNode iC_saidWorth iC_unit rC_kind rC_parts rC_partNodes rC_weights rC_weightSums rC_toldWorths rC_steps rC_below rC_above rC_unsureWords rC_unsureWorths), (arI rC_parts kC_parts 18 fC_parts), (oc5 oT rT_worths rT_order rT_left), (arI rT_order kT_order 72 f_6404), (oc5 oS rS_worths rS_order rS_left), (arI rS_order kS_order 72 fS_order)]) (tys' := [(kC_parts, .int), (kT_order, .int), (kS_order, .int)]) hB rfl ht hvm hP hD hK [5, 6, 3, 4] [0, 1, 2] rfl (by decide) (by decide) [0] hk1 hFc rfl rfl rfl
          clear hz1 hk1 hvm ht hB
          obtain ⟨x_6405, ex_6405⟩ : ∃ z : Int32, z = z_6392 + Int32.ofInt 1 := ⟨_, rfl⟩
          have vx_6405 : x_6405.toInt = z_6392.toInt + 1 := ti_add (y := 1) ex_6405 rfl kc_1 (om_4e4fce7e hi0_n_6395.1) (om_a32d6481 b_iC_nodes.2 gc_6396)
          refine lv_iinc (v := x_6405) (lv' := [(3, .int x_6405), (2, .int x_6402), (4, .int x_6397), (0, .ref oK), (1, .int p0)]) hx hb dX6_drawOrders_61 hl (k := 2) rfl ex_6405.symm (by decide) rfl (fun ls hl => ?_)
          refine lv_goto (tgt := 4) hx hb dX6_drawOrders_64 (by decide) ?_
          exact ih_n_6395 x_6405 x_6402 f_6404 _ _ _ a_f_6404 ⟨(om_83b90de5 hi0_n_6395.1 vx_6405), (om_ed8867da b_iC_nodes.2 gc_6396 vx_6405)⟩ ⟨qx_6402.1, (om_767858ca qx_6402.2.1)⟩ (ms_lt hm_n_6395 (om_b9393183 vx_6405) (om_1d9fa7fb b_iC_nodes.2 gc_6396)) (hP.sub [0, 1, 2, 5, 6, 3, 4] rfl) (hD.sub [0, 1, 2, 5, 6, 3, 4] (by decide) rfl) hS (lv_sub hl [0, 1, 3, 4] rfl)
  exact key_n_6395 (((2147483647 - (0 : Int32).toInt).toNat) + 1) 0 p0 fT_order _ _ _ a_fT_order ⟨(om_b1de7dbe kc_0), (om_daf17c64 kc_0)⟩ ⟨hp0.1, hp0.2⟩ (Nat.lt_add_one _) hP hD hS hl
set_option maxHeartbeats 4000000 in
set_option maxRecDepth 100000 in
theorem tX6_drawn (l : Launch) (dC : Nat → ClassId) (dI : Nat → Nat → Nat) (sz : Nat) (oK : Nat) (oR : Nat) (oC : Nat) (oS : Nat) (oT : Nat) (rK_images : Nat) (iK_imageCount : Int32) (oA : Nat) (oH : Nat) (oL : Nat) (iK_refusal : Int32) (iK_latestFault : Int32) (iK_latestPlace : Int32) (iC_nodes : Int32) (iC_words : Int32) (iC_chances : Int32) (iC_unsures : Int32) (iC_slips : Int32) (iC_throneNode : Int32) (iC_saidWorth : Int32) (iC_unit : Int32) (rC_kind : Nat) (fC_kind : Nat → Int32) (kC_kind : ClassId) (rC_parts : Nat) (fC_parts : Nat → Int32) (kC_parts : ClassId) (rC_partNodes : Nat) (fC_partNodes : Nat → Int32) (kC_partNodes : ClassId) (rC_weights : Nat) (fC_weights : Nat → Int32) (kC_weights : ClassId) (rC_weightSums : Nat) (fC_weightSums : Nat → Int32) (kC_weightSums : ClassId) (rC_toldWorths : Nat) (rC_steps : Nat) (rC_below : Nat) (rC_above : Nat) (rC_unsureWords : Nat) (rC_unsureWorths : Nat) (rS_worths : Nat) (fS_worths : Nat → Int32) (kS_worths : ClassId) (rS_order : Nat) (fS_order : Nat → Int32) (kS_order : ClassId) (rS_left : Nat) (rT_worths : Nat) (fT_worths : Nat → Int32) (kT_worths : ClassId) (rT_order : Nat) (fT_order : Nat → Int32) (kT_order : ClassId) (rT_left : Nat) (iH_breaths : Int32) (iH_heardBits : Int32) (iH_cutCount : Int32) (iH_halfBreaths : Int32) (iH_halfQuestions : Int32) (rH_heardWords : Nat) (fH_heardWords : Nat → Int32) (kH_heardWords : ClassId) (rH_cutParts : Nat) (fH_cutParts : Nat → Int32) (kH_cutParts : ClassId) (p0 : Int32) (p1 : Int32) (b_iK_imageCount : 0 ≤ iK_imageCount.toInt ∧ iK_imageCount.toInt ≤ 3) (b_iC_nodes : 0 ≤ iC_nodes.toInt ∧ iC_nodes.toInt ≤ 18) (b_iC_unsures : 0 ≤ iC_unsures.toInt ∧ iC_unsures.toInt ≤ 4) (b_iC_throneNode : (-1) ≤ iC_throneNode.toInt ∧ iC_throneNode.toInt ≤ 17) (a_fC_parts : ∀ j : Nat, j < 18 → 0 ≤ (fC_parts j).toInt ∧ (fC_parts j).toInt ≤ 4) (a_fC_partNodes : ∀ j : Nat, j < 72 → 0 ≤ (fC_partNodes j).toInt ∧ (fC_partNodes j).toInt ≤ 17) (a_fS_order : ∀ j : Nat, j < 72 → 0 ≤ (fS_order j).toInt ∧ (fS_order j).toInt ≤ 3) (a_fT_order : ∀ j : Nat, j < 72 → 0 ≤ (fT_order j).toInt ∧ (fT_order j).toInt ≤ 3) (b_iH_breaths : 0 ≤ iH_breaths.toInt ∧ iH_breaths.toInt ≤ 1000000000) (b_iH_cutCount : 0 ≤ iH_cutCount.toInt ∧ iH_cutCount.toInt ≤ 1000000000)  : Met l yX6_drawn (Cond.code yX6_drawn cX6_drawn 5 (some .int) :: wG) ({ frames := 34, cells := 0, slots := 0, locals := 998 }) (va_Pc [.ref oK, .int p0, .int p1] (Pw dC dI sz [(oc6 oK oR oC oS oT rK_images iK_imageCount oA oH oL iK_refusal iK_latestFault iK_latestPlace), (oc1 oC iC_nodes iC_words iC_chances iC_unsures iC_slips iC_throneNode iC_saidWorth iC_unit rC_kind rC_parts rC_partNodes rC_weights rC_weightSums rC_toldWorths rC_steps rC_below rC_above rC_unsureWords rC_unsureWorths), (arI rC_kind kC_kind 18 fC_kind), (arI rC_parts kC_parts 18 fC_parts), (arI rC_partNodes kC_partNodes 72 fC_partNodes), (arI rC_weights kC_weights 72 fC_weights), (arI rC_weightSums kC_weightSums 18 fC_weightSums), (oc5 oS rS_worths rS_order rS_left), (arI rS_worths kS_worths 18 fS_worths), (arI rS_order kS_order 72 fS_order), (oc5 oT rT_worths rT_order rT_left), (arI rT_worths kT_worths 18 fT_worths), (arI rT_order kT_order 72 fT_order), (oc2 oH iH_breaths iH_heardBits iH_cutCount iH_halfBreaths iH_halfQuestions rH_heardWords rH_cutParts), (arI rH_heardWords kH_heardWords 512 fH_heardWords), (arI rH_cutParts kH_cutParts 512 fH_cutParts)] [(kC_kind, .int), (kC_parts, .int), (kC_partNodes, .int), (kC_weights, .int), (kC_weightSums, .int), (kS_worths, .int), (kS_order, .int), (kT_worths, .int), (kT_order, .int), (kH_heardWords, .int), (kH_cutParts, .int)])) (va_Qi (fun (r : Int32) (_ : Nat) => True ∧ True) (fun (_ : Nat) (t : State) => ∃ (niK_refusal : Int32) (nfT_worths : Nat → Int32) (nfT_order : Nat → Int32) (niH_breaths : Int32) (niH_heardBits : Int32) (niH_cutCount : Int32) (nfH_heardWords : Nat → Int32) (nfH_cutParts : Nat → Int32), (∀ j : Nat, j < 72 → 0 ≤ (nfT_order j).toInt ∧ (nfT_order j).toInt ≤ 3) ∧ (0 ≤ niH_breaths.toInt ∧ niH_breaths.toInt ≤ 1000000000) ∧ (0 ≤ niH_cutCount.toInt ∧ niH_cutCount.toInt ≤ 1000000000) ∧ Bw dC dI (va_A [(oc6 oK oR oC oS oT rK_images iK_imageCount oA oH oL iK_refusal iK_latestFault iK_latestPlace), (oc1 oC iC_nodes iC_words iC_chances iC_unsures iC_slips iC_throneNode iC_saidWorth iC_unit rC_kind rC_parts rC_partNodes rC_weights rC_weightSums rC_toldWorths rC_steps rC_below rC_above rC_unsureWords rC_unsureWorths), (arI rC_kind kC_kind 18 fC_kind), (arI rC_parts kC_parts 18 fC_parts), (arI rC_partNodes kC_partNodes 72 fC_partNodes), (arI rC_weights kC_weights 72 fC_weights), (arI rC_weightSums kC_weightSums 18 fC_weightSums), (oc5 oS rS_worths rS_order rS_left), (arI rS_worths kS_worths 18 fS_worths), (arI rS_order kS_order 72 fS_order), (oc5 oT rT_worths rT_order rT_left), (arI rT_worths kT_worths 18 fT_worths), (arI rT_order kT_order 72 fT_order), (oc2 oH iH_breaths iH_heardBits iH_cutCount iH_halfBreaths iH_halfQuestions rH_heardWords rH_cutParts), (arI rH_heardWords kH_heardWords 512 fH_heardWords), (arI rH_cutParts kH_cutParts 512 fH_cutParts)] sz) [(oc6 oK oR oC oS oT rK_images iK_imageCount oA oH oL niK_refusal iK_latestFault iK_latestPlace), (oc1 oC iC_nodes iC_words iC_chances iC_unsures iC_slips iC_throneNode iC_saidWorth iC_unit rC_kind rC_parts rC_partNodes rC_weights rC_weightSums rC_toldWorths rC_steps rC_below rC_above rC_unsureWords rC_unsureWorths), (arI rC_kind kC_kind 18 fC_kind), (arI rC_parts kC_parts 18 fC_parts), (arI rC_partNodes kC_partNodes 72 fC_partNodes), (arI rC_weights kC_weights 72 fC_weights), (arI rC_weightSums kC_weightSums 18 fC_weightSums), (oc5 oS rS_worths rS_order rS_left), (arI rS_worths kS_worths 18 fS_worths), (arI rS_order kS_order 72 fS_order), (oc5 oT rT_worths rT_order rT_left), (arI rT_worths kT_worths 18 nfT_worths), (arI rT_order kT_order 72 nfT_order), (oc2 oH niH_breaths niH_heardBits niH_cutCount iH_halfBreaths iH_halfQuestions rH_heardWords rH_cutParts), (arI rH_heardWords kH_heardWords 512 nfH_heardWords), (arI rH_cutParts kH_cutParts 512 nfH_cutParts)] [(kC_kind, .int), (kC_parts, .int), (kC_partNodes, .int), (kC_weights, .int), (kC_weightSums, .int), (kS_worths, .int), (kS_order, .int), (kT_worths, .int), (kT_order, .int), (kH_heardWords, .int), (kH_cutParts, .int)] t) (va_A [(oc6 oK oR oC oS oT rK_images iK_imageCount oA oH oL iK_refusal iK_latestFault iK_latestPlace), (oc1 oC iC_nodes iC_words iC_chances iC_unsures iC_slips iC_throneNode iC_saidWorth iC_unit rC_kind rC_parts rC_partNodes rC_weights rC_weightSums rC_toldWorths rC_steps rC_below rC_above rC_unsureWords rC_unsureWorths), (arI rC_kind kC_kind 18 fC_kind), (arI rC_parts kC_parts 18 fC_parts), (arI rC_partNodes kC_partNodes 72 fC_partNodes), (arI rC_weights kC_weights 72 fC_weights), (arI rC_weightSums kC_weightSums 18 fC_weightSums), (oc5 oS rS_worths rS_order rS_left), (arI rS_worths kS_worths 18 fS_worths), (arI rS_order kS_order 72 fS_order), (oc5 oT rT_worths rT_order rT_left), (arI rT_worths kT_worths 18 fT_worths), (arI rT_order kT_order 72 fT_order), (oc2 oH iH_breaths iH_heardBits iH_cutCount iH_halfBreaths iH_halfQuestions rH_heardWords rH_cutParts), (arI rH_heardWords kH_heardWords 512 fH_heardWords), (arI rH_cutParts kH_cutParts 512 fH_cutParts)] sz)) 0 0 (va_A [(oc6 oK oR oC oS oT rK_images iK_imageCount oA oH oL iK_refusal iK_latestFault iK_latestPlace), (oc1 oC iC_nodes iC_words iC_chances iC_unsures iC_slips iC_throneNode iC_saidWorth iC_unit rC_kind rC_parts rC_partNodes rC_weights rC_weightSums rC_toldWorths rC_steps rC_below rC_above rC_unsureWords rC_unsureWorths), (arI rC_kind kC_kind 18 fC_kind), (arI rC_parts kC_parts 18 fC_parts), (arI rC_partNodes kC_partNodes 72 fC_partNodes), (arI rC_weights kC_weights 72 fC_weights), (arI rC_weightSums kC_weightSums 18 fC_weightSums), (oc5 oS rS_worths rS_order rS_left), (arI rS_worths kS_worths 18 fS_worths), (arI rS_order kS_order 72 fS_order), (oc5 oT rT_worths rT_order rT_left), (arI rT_worths kT_worths 18 fT_worths), (arI rT_order kT_order 72 fT_order), (oc2 oH iH_breaths iH_heardBits iH_cutCount iH_halfBreaths iH_halfQuestions rH_heardWords rH_cutParts), (arI rH_heardWords kH_heardWords 512 fH_heardWords), (arI rH_cutParts kH_cutParts 512 fH_cutParts)] sz) := by
  refine Met.ofW (cc := cX6_drawn) (maxL := 5) (ret := (some .int)) pnX6 rfl ?_
  intro p e s m args below meth c s₁ B hml hv
  obtain ⟨rfl, hsz, hP, hK, hD0, hE⟩ := hv
  have hx := B.exec
  have hb := B.bytes
  have hr := B.returns
  have hts : ∀ w ∈ wG, w.before ([.ref oK, .int p0, .int p1] : List Value).toArray s = true := fun w h => atoms_spec (ws := Cond.code yX6_drawn cX6_drawn 5 (some .int) :: wG) B.pre w (List.mem_cons_of_mem _ h)
  have hown : s.vm.findClass RX6 = some m.cls := own_of B.named rfl
  have hlocks := B.notSynchronized
  subst hsz
  have hD := hD0.self (sz := s.heap.size)
  generalize hAe : va_A [(oc6 oK oR oC oS oT rK_images iK_imageCount oA oH oL iK_refusal iK_latestFault iK_latestPlace), (oc1 oC iC_nodes iC_words iC_chances iC_unsures iC_slips iC_throneNode iC_saidWorth iC_unit rC_kind rC_parts rC_partNodes rC_weights rC_weightSums rC_toldWorths rC_steps rC_below rC_above rC_unsureWords rC_unsureWorths), (arI rC_kind kC_kind 18 fC_kind), (arI rC_parts kC_parts 18 fC_parts), (arI rC_partNodes kC_partNodes 72 fC_partNodes), (arI rC_weights kC_weights 72 fC_weights), (arI rC_weightSums kC_weightSums 18 fC_weightSums), (oc5 oS rS_worths rS_order rS_left), (arI rS_worths kS_worths 18 fS_worths), (arI rS_order kS_order 72 fS_order), (oc5 oT rT_worths rT_order rT_left), (arI rT_worths kT_worths 18 fT_worths), (arI rT_order kT_order 72 fT_order), (oc2 oH iH_breaths iH_heardBits iH_cutCount iH_halfBreaths iH_halfQuestions rH_heardWords rH_cutParts), (arI rH_heardWords kH_heardWords 512 fH_heardWords), (arI rH_cutParts kH_cutParts 512 fH_cutParts)] s.heap.size = A at hD hE ⊢
  have hA : ∀ q : Nat, s.heap.size ≤ q → A q := fun q h => by rw [← hAe]; exact Or.inr h
  have hS : va_S A s.heap s.heap [] := va_S.rf
  have hl := lv_entry ([.ref oK, .int p0, .int p1]) (n := 5) (Nat.le_of_ble_eq_true rfl)
  rw [lg_entry_eq]
  generalize (lg_sl ([.ref oK, .int p0, .int p1]) ++ List.replicate (5 - (lg_sl ([.ref oK, .int p0, .int p1])).length) Slot.unset).toArray = ls at hl ⊢
  have hl : lv_has ls 5 [(0, .ref oK), (1, .int p0), (2, .int p1)] := hl
  have rg_p0 := fb_rng p0
  have rg_p1 := fb_rng p1
  refine lv_aload_n hx hb dX6_drawn_0 rfl (lv_at hl 0 rfl) ?_
  refine lv_iload_n hx hb dX6_drawn_1 rfl (lv_at hl 1 rfl) ?_
  refine lv_iload_n hx hb dX6_drawn_2 rfl (lv_at hl 2 rfl) ?_
  have hMs := ml_of hD [true, true, false, false, false, false, false, false, false, false, false, false, false, false, false, false] (wc := [(oc6 oK oR oC oS oT rK_images iK_imageCount oA oH oL iK_refusal iK_latestFault iK_latestPlace), (oc1 oC iC_nodes iC_words iC_chances iC_unsures iC_slips iC_throneNode iC_saidWorth iC_unit rC_kind rC_parts rC_partNodes rC_weights rC_weightSums rC_toldWorths rC_steps rC_below rC_above rC_unsureWords rC_unsureWorths)]) rfl
  have hFc := va_freeM hD hS hA _ hMs
  refine va_calli (va_runV (As := [.int p0, .int p1]) (rest := []) ⟨hx, hb, hml, hown, hts⟩ (tX6_lacksDraws l dC dI _ oK oR oC oS oT rK_images iK_imageCount oA oH oL iK_refusal iK_latestFault iK_latestPlace iC_nodes iC_words iC_chances iC_unsures iC_slips iC_throneNode iC_saidWorth iC_unit rC_kind rC_parts rC_partNodes rC_weights rC_weightSums rC_toldWorths rC_steps rC_below rC_above rC_unsureWords rC_unsureWorths p0 p1 b_iK_imageCount b_iC_nodes b_iC_unsures b_iC_throneNode) (cwV 2 hts (wd_V wd_1328 wd_1329 wd_1330 wd_2 (wd_c wd_1331)) rfl rfl rfl dv_yX6_lacksDraws_2 ⟨Nat.le_of_ble_eq_true rfl, Nat.le_of_ble_eq_true rfl⟩) ⟨Pw.fb, recvX6 hK hP (q0 := 0) rfl, fun U hU hW => Pw.to (hP.ms _ hMs) (hD.ms _ hMs) (hK.ms [false, false, false, false, false, false, false, false, false, false, false] rfl) hE hS hFc hU hW⟩ rfl rfl hl.1 rfl (lv_room (Nat.le_of_ble_eq_true rfl)) dX6_drawn_3 ⟨Nat.le_of_ble_eq_true rfl, Nat.le_of_ble_eq_true rfl⟩) hS (fun q _ h => hFc q h) hFc (fun r u t H locs ht hvm hw hB hz1 hk1 hS => ?_)
  refine ex_1_0 hB (fun x_6444 hB => ?_)
  obtain ⟨hP, hD⟩ := Bw.goN (ws' := [(oc6 oK oR oC oS oT rK_images iK_imageCount oA oH oL x_6444 iK_latestFault iK_latestPlace), (oc1 oC iC_nodes iC_words iC_chances iC_unsures iC_slips iC_throneNode iC_saidWorth iC_unit rC_kind rC_parts rC_partNodes rC_weights rC_weightSums rC_toldWorths rC_steps rC_below rC_above rC_unsureWords rC_unsureWorths), (arI rC_kind kC_kind 18 fC_kind), (arI rC_parts kC_parts 18 fC_parts), (arI rC_partNodes kC_partNodes 72 fC_partNodes), (arI rC_weights kC_weights 72 fC_weights), (arI rC_weightSums kC_weightSums 18 fC_weightSums), (oc5 oS rS_worths rS_order rS_left), (arI rS_worths kS_worths 18 fS_worths), (arI rS_order kS_order 72 fS_order), (oc5 oT rT_worths rT_order rT_left), (arI rT_worths kT_worths 18 fT_worths), (arI rT_order kT_order 72 fT_order), (oc2 oH iH_breaths iH_heardBits iH_cutCount iH_halfBreaths iH_halfQuestions rH_heardWords rH_cutParts), (arI rH_heardWords kH_heardWords 512 fH_heardWords), (arI rH_cutParts kH_cutParts 512 fH_cutParts)]) hB rfl ht hP hD _ hMs hk1 hFc rfl
  clear hz1 hk1 hvm ht hB hMs
  have rg_x_6444 := fb_rng x_6444
  rcases hw.2 with ⟨rfl, hc_6445⟩ | ⟨rfl, hc_6445⟩
  · skip
    have rg_iC_nodes := fb_rng iC_nodes
    refine lv_if_eq (tgt := 11) hx hb dX6_drawn_6 (by decide) (fun _ => ?_) (fun c => absurd c (by decide))
    refine lv_aload_n hx hb dX6_drawn_11 rfl (lv_at hl 0 rfl) ?_
    refine va_get (D := (dC, dI)) (ci := 6) (v := .ref oT) (C := RX6) (T := TX6) (N := 12) hx hb hts inX6 hown hK hP 0 rfl rfl 3 (by decide) (hts _ wd_25) (fun _ h9 => h9) rfl dX6_drawn_12 ?_
    refine lv_aload_n hx hb dX6_drawn_15 rfl (lv_at hl 0 rfl) ?_
    refine va_get (D := (dC, dI)) (ci := 6) (v := .ref oS) (C := RX6) (T := TX6) (N := 12) hx hb hts inX6 hown hK hP 0 rfl rfl 2 (by decide) (hts _ wd_24) (fun _ h9 => h9) rfl dX6_drawn_16 ?_
    have hFc := va_free (wc := [(oc5 oT rT_worths rT_order rT_left), (arI rT_worths kT_worths 18 fT_worths), (arI rT_order kT_order 72 fT_order), (oc5 oS rS_worths rS_order rS_left), (arI rS_worths kS_worths 18 fS_worths), (arI rS_order kS_order 72 fS_order)]) hD hS hA [10, 11, 12, 7, 8, 9] rfl
    refine va_callv (va_runV (As := [.ref oS]) (rest := []) ⟨hx, hb, hml, hown, hts⟩ (tX5_copyFrom l dC dI _ oT rT_worths fT_worths kT_worths rT_order fT_order kT_order rT_left oS rS_worths fS_worths kS_worths rS_order fS_order kS_order rS_left a_fT_order a_fS_order) (cwV 1 hts (wd_V wd_1011 wd_1012 wd_1013 wd_23 (wd_c wd_1014)) rfl rfl rfl dv_yX5_copyFrom_1 ⟨Nat.le_of_ble_eq_true rfl, Nat.le_of_ble_eq_true rfl⟩) ⟨Pw.fb, recvX5 hK hP (q0 := 10) rfl, fun U hU hW => Pw.to (hP.sub [10, 11, 12, 7, 8, 9] rfl) (hD.sub [10, 11, 12, 7, 8, 9] (by decide) rfl) (hK.sub [7, 8, 5, 6] rfl) hE hS hFc hU hW⟩ rfl rfl hl.1 rfl (lv_room (Nat.le_of_ble_eq_true rfl)) dX6_drawn_19 ⟨Nat.le_of_ble_eq_true rfl, Nat.le_of_ble_eq_true rfl⟩) hS (fun q _ h => hFc q h) hFc (fun u t H locs ht hvm hw hB hz1 hk1 hS => ?_)
    refine ex_2_2 hB (fun f_6447 f_6448 a_f_6448 e_f_6447_0 hB => ?_)
    obtain ⟨hP, hD, hK⟩ := Bw.go (ws' := [(oc6 oK oR oC oS oT rK_images iK_imageCount oA oH oL x_6444 iK_latestFault iK_latestPlace), (oc1 oC iC_nodes iC_words iC_chances iC_unsures iC_slips iC_throneNode iC_saidWorth iC_unit rC_kind rC_parts rC_partNodes rC_weights rC_weightSums rC_toldWorths rC_steps rC_below rC_above rC_unsureWords rC_unsureWorths), (arI rC_kind kC_kind 18 fC_kind), (arI rC_parts kC_parts 18 fC_parts), (arI rC_partNodes kC_partNodes 72 fC_partNodes), (arI rC_weights kC_weights 72 fC_weights), (arI rC_weightSums kC_weightSums 18 fC_weightSums), (oc2 oH iH_breaths iH_heardBits iH_cutCount iH_halfBreaths iH_halfQuestions rH_heardWords rH_cutParts), (arI rH_heardWords kH_heardWords 512 fH_heardWords), (arI rH_cutParts kH_cutParts 512 fH_cutParts), (oc5 oT rT_worths rT_order rT_left), (arI rT_worths kT_worths 18 f_6447), (arI rT_order kT_order 72 f_6448), (oc5 oS rS_worths rS_order rS_left), (arI rS_worths kS_worths 18 fS_worths), (arI rS_order kS_order 72 fS_order)]) (tys' := [(kC_kind, .int), (kC_parts, .int), (kC_partNodes, .int), (kC_weights, .int), (kC_weightSums, .int), (kH_heardWords, .int), (kH_cutParts, .int), (kT_worths, .int), (kT_order, .int), (kS_worths, .int), (kS_order, .int)]) hB rfl ht hvm hP hD hK [10, 11, 12, 7, 8, 9] [0, 1, 2, 3, 4, 5, 6, 13, 14, 15] rfl (by decide) (by decide) [0, 1, 2, 3, 4, 9, 10] hk1 hFc rfl rfl rfl
    clear hz1 hk1 hvm ht hB
    refine lv_iload_n hx hb dX6_drawn_22 rfl (lv_at hl 1 rfl) ?_
    refine lv_istore_n (lv' := [(3, .int p0), (0, .ref oK), (1, .int p0), (2, .int p1)]) hx hb dX6_drawn_23 rfl hl (by decide) rfl (fun ls hl => ?_)
    refine lv_iconst (v := 0) hx hb dX6_drawn_24 (by decide) ?_
    refine lv_istore (lv' := [(4, .int 0), (3, .int p0), (0, .ref oK), (1, .int p0), (2, .int p1)]) hx hb dX6_drawn_25 hl (by decide) rfl (fun ls hl => ?_)
    have hl := lv_sub hl (l' := [(4, .int 0), (3, .int p0), (0, .ref oK), (1, .int p0), (2, .int p1)]) [0, 1, 2, 3, 4] rfl
    have key_n_6452 : ∀ (n_6452 : Nat) (z_6449 : Int32) (z_6450 : Int32) (f_6451 : Nat → Int32) (H : Heap) (locs : List Loc) (ls : Array Slot), (∀ j : Nat, j < 72 → 0 ≤ (f_6451 j).toInt ∧ (f_6451 j).toInt ≤ 3) → (0 ≤ z_6449.toInt ∧ z_6449.toInt ≤ 2147483647) → (0 ≤ z_6450.toInt ∧ z_6450.toInt ≤ 65536) → (2147483647 - z_6449.toInt).toNat < n_6452 → va_P (dC, dI) vwCl [(oc6 oK oR oC oS oT rK_images iK_imageCount oA oH oL x_6444 iK_latestFault iK_latestPlace), (oc1 oC iC_nodes iC_words iC_chances iC_unsures iC_slips iC_throneNode iC_saidWorth iC_unit rC_kind rC_parts rC_partNodes rC_weights rC_weightSums rC_toldWorths rC_steps rC_below rC_above rC_unsureWords rC_unsureWorths), (arI rC_kind kC_kind 18 fC_kind), (arI rC_parts kC_parts 18 fC_parts), (arI rC_partNodes kC_partNodes 72 fC_partNodes), (arI rC_weights kC_weights 72 fC_weights), (arI rC_weightSums kC_weightSums 18 fC_weightSums), (oc2 oH iH_breaths iH_heardBits iH_cutCount iH_halfBreaths iH_halfQuestions rH_heardWords rH_cutParts), (arI rH_heardWords kH_heardWords 512 fH_heardWords), (arI rH_cutParts kH_cutParts 512 fH_cutParts), (oc5 oT rT_worths rT_order rT_left), (arI rT_worths kT_worths 18 f_6447), (arI rT_order kT_order 72 f_6451), (oc5 oS rS_worths rS_order rS_left), (arI rS_worths kS_worths 18 fS_worths), (arI rS_order kS_order 72 fS_order)] H → va_D A [(oc6 oK oR oC oS oT rK_images iK_imageCount oA oH oL x_6444 iK_latestFault iK_latestPlace), (oc1 oC iC_nodes iC_words iC_chances iC_unsures iC_slips iC_throneNode iC_saidWorth iC_unit rC_kind rC_parts rC_partNodes rC_weights rC_weightSums rC_toldWorths rC_steps rC_below rC_above rC_unsureWords rC_unsureWorths), (arI rC_kind kC_kind 18 fC_kind), (arI rC_parts kC_parts 18 fC_parts), (arI rC_partNodes kC_partNodes 72 fC_partNodes), (arI rC_weights kC_weights 72 fC_weights), (arI rC_weightSums kC_weightSums 18 fC_weightSums), (oc2 oH iH_breaths iH_heardBits iH_cutCount iH_halfBreaths iH_halfQuestions rH_heardWords rH_cutParts), (arI rH_heardWords kH_heardWords 512 fH_heardWords), (arI rH_cutParts kH_cutParts 512 fH_cutParts), (oc5 oT rT_worths rT_order rT_left), (arI rT_worths kT_worths 18 f_6447), (arI rT_order kT_order 72 f_6451), (oc5 oS rS_worths rS_order rS_left), (arI rS_worths kS_worths 18 fS_worths), (arI rS_order kS_order 72 fS_order)] → va_S A s.heap H locs → lv_has ls 5 [(4, .int z_6449), (3, .int z_6450), (0, .ref oK), (1, .int p0), (2, .int p1)] → W p l e (headSpec (Cond.code yX6_drawn cX6_drawn 5 (some .int) :: wG) ({ frames := 34, cells := 0, slots := 0, locals := 998 })).room s m ([.ref oK, .int p0, .int p1] : List Value).toArray below meth c H locs 0 0 (MQ below (va_Qi (fun (r : Int32) (_ : Nat) => True ∧ True) (fun (_ : Nat) (t : State) => ∃ (niK_refusal : Int32) (nfT_worths : Nat → Int32) (nfT_order : Nat → Int32) (niH_breaths : Int32) (niH_heardBits : Int32) (niH_cutCount : Int32) (nfH_heardWords : Nat → Int32) (nfH_cutParts : Nat → Int32), (∀ j : Nat, j < 72 → 0 ≤ (nfT_order j).toInt ∧ (nfT_order j).toInt ≤ 3) ∧ (0 ≤ niH_breaths.toInt ∧ niH_breaths.toInt ≤ 1000000000) ∧ (0 ≤ niH_cutCount.toInt ∧ niH_cutCount.toInt ≤ 1000000000) ∧ Bw dC dI A [(oc6 oK oR oC oS oT rK_images iK_imageCount oA oH oL niK_refusal iK_latestFault iK_latestPlace), (oc1 oC iC_nodes iC_words iC_chances iC_unsures iC_slips iC_throneNode iC_saidWorth iC_unit rC_kind rC_parts rC_partNodes rC_weights rC_weightSums rC_toldWorths rC_steps rC_below rC_above rC_unsureWords rC_unsureWorths), (arI rC_kind kC_kind 18 fC_kind), (arI rC_parts kC_parts 18 fC_parts), (arI rC_partNodes kC_partNodes 72 fC_partNodes), (arI rC_weights kC_weights 72 fC_weights), (arI rC_weightSums kC_weightSums 18 fC_weightSums), (oc5 oS rS_worths rS_order rS_left), (arI rS_worths kS_worths 18 fS_worths), (arI rS_order kS_order 72 fS_order), (oc5 oT rT_worths rT_order rT_left), (arI rT_worths kT_worths 18 nfT_worths), (arI rT_order kT_order 72 nfT_order), (oc2 oH niH_breaths niH_heardBits niH_cutCount iH_halfBreaths iH_halfQuestions rH_heardWords rH_cutParts), (arI rH_heardWords kH_heardWords 512 nfH_heardWords), (arI rH_cutParts kH_cutParts 512 nfH_cutParts)] [(kC_kind, .int), (kC_parts, .int), (kC_partNodes, .int), (kC_weights, .int), (kC_weightSums, .int), (kS_worths, .int), (kS_order, .int), (kT_worths, .int), (kT_order, .int), (kH_heardWords, .int), (kH_cutParts, .int)] t) A) ([.ref oK, .int p0, .int p1] : List Value).toArray s 0 0 A) (F0 m 27 ls []) := by
      intro n_6452
      induction n_6452 with
      | zero => intro z_6449 z_6450 f_6451 H locs ls a_f_6451 hi0_n_6452 hi1_n_6452 hm; exact absurd hm (Nat.not_lt_zero _)
      | succ n_6452 ih_n_6452 =>
        intro z_6449 z_6450 f_6451 H locs ls a_f_6451 hi0_n_6452 hi1_n_6452 hm_n_6452 hP hD hS hl
        have rg_z_6449 := fb_rng z_6449
        have rg_z_6450 := fb_rng z_6450
        refine lv_iload hx hb dX6_drawn_27 (lv_at hl 0 rfl) ?_
        refine lv_iload_n hx hb dX6_drawn_29 rfl (lv_at hl 4 rfl) ?_
        refine lv_icmp_ge (tgt := 45) hx hb dX6_drawn_30 (by decide) (fun c_6453 => ?_) (fun c_6453 => ?_)
        · skip
          have gc_6453 := ti_le c_6453 rfl rfl
          refine lv_aload_n hx hb dX6_drawn_45 rfl (lv_at hl 2 rfl) ?_
          refine va_get (D := (dC, dI)) (ci := 6) (v := .ref oH) (C := RX6) (T := TX6) (N := 12) hx hb hts inX6 hown hK hP 0 rfl rfl 7 (by decide) (hts _ wd_34) (fun _ h9 => h9) rfl dX6_drawn_46 ?_
          refine lv_aload_n hx hb dX6_drawn_49 rfl (lv_at hl 2 rfl) ?_
          refine va_get (D := (dC, dI)) (ci := 6) (v := .ref oC) (C := RX6) (T := TX6) (N := 12) hx hb hts inX6 hown hK hP 0 rfl rfl 1 (by decide) (hts _ wd_20) (fun _ h9 => h9) rfl dX6_drawn_50 ?_
          refine lv_aload_n hx hb dX6_drawn_53 rfl (lv_at hl 2 rfl) ?_
          refine va_get (D := (dC, dI)) (ci := 6) (v := .ref oT) (C := RX6) (T := TX6) (N := 12) hx hb hts inX6 hown hK hP 0 rfl rfl 3 (by decide) (hts _ wd_25) (fun _ h9 => h9) rfl dX6_drawn_54 ?_
          have hFc := va_free (wc := [(oc2 oH iH_breaths iH_heardBits iH_cutCount iH_halfBreaths iH_halfQuestions rH_heardWords rH_cutParts), (arI rH_heardWords kH_heardWords 512 fH_heardWords), (arI rH_cutParts kH_cutParts 512 fH_cutParts), (oc1 oC iC_nodes iC_words iC_chances iC_unsures iC_slips iC_throneNode iC_saidWorth iC_unit rC_kind rC_parts rC_partNodes rC_weights rC_weightSums rC_toldWorths rC_steps rC_below rC_above rC_unsureWords rC_unsureWorths), (arI rC_kind kC_kind 18 fC_kind), (arI rC_parts kC_parts 18 fC_parts), (arI rC_partNodes kC_partNodes 72 fC_partNodes), (arI rC_weights kC_weights 72 fC_weights), (arI rC_weightSums kC_weightSums 18 fC_weightSums), (oc5 oT rT_worths rT_order rT_left), (arI rT_worths kT_worths 18 f_6447), (arI rT_order kT_order 72 f_6451)]) hD hS hA [7, 8, 9, 1, 2, 3, 4, 5, 6, 10, 11, 12] rfl
          refine va_calli (va_runV (As := [.ref oC, .ref oT]) (rest := []) ⟨hx, hb, hml, hown, hts⟩ (tX2_breathsFreely l dC dI _ oH iH_breaths iH_heardBits iH_cutCount iH_halfBreaths iH_halfQuestions rH_heardWords fH_heardWords kH_heardWords rH_cutParts fH_cutParts kH_cutParts oC iC_nodes iC_words iC_chances iC_unsures iC_slips iC_throneNode iC_saidWorth iC_unit rC_kind fC_kind kC_kind rC_parts fC_parts kC_parts rC_partNodes fC_partNodes kC_partNodes rC_weights fC_weights kC_weights rC_weightSums fC_weightSums kC_weightSums rC_toldWorths rC_steps rC_below rC_above rC_unsureWords rC_unsureWorths oT rT_worths f_6447 kT_worths rT_order f_6451 kT_order rT_left b_iH_breaths b_iH_cutCount b_iC_nodes b_iC_unsures b_iC_throneNode a_fC_parts a_fC_partNodes a_f_6451) (cwV 2 hts (wd_V wd_714 wd_715 wd_716 wd_33 (wd_c wd_717)) rfl rfl rfl dv_yX2_breathsFreely_2 ⟨Nat.le_of_ble_eq_true rfl, Nat.le_of_ble_eq_true rfl⟩) ⟨Pw.fb, recvX2 hK hP (q0 := 7) rfl, fun U hU hW => Pw.to (hP.sub [7, 8, 9, 1, 2, 3, 4, 5, 6, 10, 11, 12] rfl) (hD.sub [7, 8, 9, 1, 2, 3, 4, 5, 6, 10, 11, 12] (by decide) rfl) (hK.sub [5, 6, 0, 1, 2, 3, 4, 7, 8] rfl) hE hS hFc hU hW⟩ rfl rfl hl.1 rfl (lv_room (Nat.le_of_ble_eq_true rfl)) dX6_drawn_57 ⟨Nat.le_of_ble_eq_true rfl, Nat.le_of_ble_eq_true rfl⟩) hS (fun q _ h => hFc q h) hFc (fun r u t H locs ht hvm hw hB hz1 hk1 hS => ?_)
          refine ex_5_2 hB (fun x_6454 x_6455 x_6456 f_6457 f_6458 b_x_6454 b_x_6456 hB => ?_)
          obtain ⟨hP, hD, hK⟩ := Bw.go (ws' := [(oc6 oK oR oC oS oT rK_images iK_imageCount oA oH oL x_6444 iK_latestFault iK_latestPlace), (oc5 oS rS_worths rS_order rS_left), (arI rS_worths kS_worths 18 fS_worths), (arI rS_order kS_order 72 fS_order), (oc2 oH x_6454 x_6455 x_6456 iH_halfBreaths iH_halfQuestions rH_heardWords rH_cutParts), (arI rH_heardWords kH_heardWords 512 f_6457), (arI rH_cutParts kH_cutParts 512 f_6458), (oc1 oC iC_nodes iC_words iC_chances iC_unsures iC_slips iC_throneNode iC_saidWorth iC_unit rC_kind rC_parts rC_partNodes rC_weights rC_weightSums rC_toldWorths rC_steps rC_below rC_above rC_unsureWords rC_unsureWorths), (arI rC_kind kC_kind 18 fC_kind), (arI rC_parts kC_parts 18 fC_parts), (arI rC_partNodes kC_partNodes 72 fC_partNodes), (arI rC_weights kC_weights 72 fC_weights), (arI rC_weightSums kC_weightSums 18 fC_weightSums), (oc5 oT rT_worths rT_order rT_left), (arI rT_worths kT_worths 18 f_6447), (arI rT_order kT_order 72 f_6451)]) (tys' := [(kS_worths, .int), (kS_order, .int), (kH_heardWords, .int), (kH_cutParts, .int), (kC_kind, .int), (kC_parts, .int), (kC_partNodes, .int), (kC_weights, .int), (kC_weightSums, .int), (kT_worths, .int), (kT_order, .int)]) hB rfl ht hvm hP hD hK [7, 8, 9, 1, 2, 3, 4, 5, 6, 10, 11, 12] [0, 13, 14, 15] rfl (by decide) (by decide) [9, 10] hk1 hFc rfl rfl rfl
          clear hz1 hk1 hvm ht hB
          have rg_x_6454 := fb_rng x_6454
          have rg_x_6455 := fb_rng x_6455
          have rg_x_6456 := fb_rng x_6456
          obtain ⟨x_6459, rfl⟩ : ∃ z, z = r := ⟨_, rfl⟩
          have rg_x_6459 := fb_rng x_6459
          exact wq_i hx hb hr 0 ⟨trivial, trivial⟩ (fun t ht hW => ⟨x_6444, f_6447, f_6451, x_6454, x_6455, x_6456, f_6457, f_6458, a_f_6451, b_x_6454, b_x_6456, Bw.to (hP.sub [0, 7, 8, 9, 10, 11, 12, 1, 2, 3, 13, 14, 15, 4, 5, 6] rfl) (hD.sub [0, 7, 8, 9, 10, 11, 12, 1, 2, 3, 13, 14, 15, 4, 5, 6] (by decide) rfl) (hK.sub [4, 5, 6, 7, 8, 0, 1, 9, 10, 2, 3] rfl) ht hW⟩) hS dX6_drawn_60 hlocks
        · skip
          have gc_6453 := ti_nle c_6453 rfl rfl
          refine lv_aload_n hx hb dX6_drawn_33 rfl (lv_at hl 2 rfl) ?_
          refine lv_iload_n hx hb dX6_drawn_34 rfl (lv_at hl 1 rfl) ?_
          have hFc := va_free (wc := [(oc6 oK oR oC oS oT rK_images iK_imageCount oA oH oL x_6444 iK_latestFault iK_latestPlace), (oc1 oC iC_nodes iC_words iC_chances iC_unsures iC_slips iC_throneNode iC_saidWorth iC_unit rC_kind rC_parts rC_partNodes rC_weights rC_weightSums rC_toldWorths rC_steps rC_below rC_above rC_unsureWords rC_unsureWorths), (arI rC_parts kC_parts 18 fC_parts), (oc5 oS rS_worths rS_order rS_left), (arI rS_order kS_order 72 fS_order), (oc5 oT rT_worths rT_order rT_left), (arI rT_order kT_order 72 f_6451)]) hD hS hA [0, 1, 3, 13, 15, 10, 12] rfl
          refine va_calli (va_runV (As := [.int z_6450]) (rest := []) ⟨hx, hb, hml, hown, hts⟩ (tX6_drawOrders l dC dI _ oK oR oC oS oT rK_images iK_imageCount oA oH oL x_6444 iK_latestFault iK_latestPlace iC_nodes iC_words iC_chances iC_unsures iC_slips iC_throneNode iC_saidWorth iC_unit rC_kind rC_parts fC_parts kC_parts rC_partNodes rC_weights rC_weightSums rC_toldWorths rC_steps rC_below rC_above rC_unsureWords rC_unsureWorths rS_worths rS_order fS_order kS_order rS_left rT_worths rT_order f_6451 kT_order rT_left z_6450 b_iK_imageCount b_iC_nodes b_iC_unsures b_iC_throneNode a_fC_parts a_fS_order a_f_6451 ⟨hi1_n_6452.1, hi1_n_6452.2⟩) (cwV 1 hts (wd_V wd_1333 wd_1334 wd_1335 wd_2 (wd_c wd_1336)) rfl rfl rfl dv_yX6_drawOrders_1 ⟨Nat.le_of_ble_eq_true rfl, Nat.le_of_ble_eq_true rfl⟩) ⟨Pw.fb, recvX6 hK hP (q0 := 0) rfl, fun U hU hW => Pw.to (hP.sub [0, 1, 3, 13, 15, 10, 12] rfl) (hD.sub [0, 1, 3, 13, 15, 10, 12] (by decide) rfl) (hK.sub [1, 10, 8] rfl) hE hS hFc hU hW⟩ rfl rfl hl.1 rfl (lv_room (Nat.le_of_ble_eq_true rfl)) dX6_drawn_35 ⟨Nat.le_of_ble_eq_true rfl, Nat.le_of_ble_eq_true rfl⟩) hS (fun q _ h => hFc q h) hFc (fun r u t H locs ht hvm hw hB hz1 hk1 hS => ?_)
          refine ex_1_1 hB (fun f_6460 a_f_6460 hB => ?_)
          obtain ⟨hP, hD, hK⟩ := Bw.go (ws' := [(arI rC_kind kC_kind 18 fC_kind), (arI rC_partNodes kC_partNodes 72 fC_partNodes), (arI rC_weights kC_weights 72 fC_weights), (arI rC_weightSums kC_weightSums 18 fC_weightSums), (oc2 oH iH_breaths iH_heardBits iH_cutCount iH_halfBreaths iH_halfQuestions rH_heardWords rH_cutParts), (arI rH_heardWords kH_heardWords 512 fH_heardWords), (arI rH_cutParts kH_cutParts 512 fH_cutParts), (arI rT_worths kT_worths 18 f_6447), (arI rS_worths kS_worths 18 fS_worths), (oc6 oK oR oC oS oT rK_images iK_imageCount oA oH oL x_6444 iK_latestFault iK_latestPlace), (oc1 oC iC_nodes iC_words iC_chances iC_unsures iC_slips iC_throneNode iC_saidWorth iC_unit rC_kind rC_parts rC_partNodes rC_weights rC_weightSums rC_toldWorths rC_steps rC_below rC_above rC_unsureWords rC_unsureWorths), (arI rC_parts kC_parts 18 fC_parts), (oc5 oS rS_worths rS_order rS_left), (arI rS_order kS_order 72 fS_order), (oc5 oT rT_worths rT_order rT_left), (arI rT_order kT_order 72 f_6460)]) (tys' := [(kC_kind, .int), (kC_partNodes, .int), (kC_weights, .int), (kC_weightSums, .int), (kH_heardWords, .int), (kH_cutParts, .int), (kT_worths, .int), (kS_worths, .int), (kC_parts, .int), (kS_order, .int), (kT_order, .int)]) hB rfl ht hvm hP hD hK [0, 1, 3, 13, 15, 10, 12] [2, 4, 5, 6, 7, 8, 9, 11, 14] rfl (by decide) (by decide) [0, 2, 3, 4, 5, 6, 7, 9] hk1 hFc rfl rfl rfl
          clear hz1 hk1 hvm ht hB
          obtain ⟨x_6461, rfl⟩ : ∃ z, z = r := ⟨_, rfl⟩
          have rg_x_6461 := fb_rng x_6461
          have ux_6461 := hw.2
          refine lv_istore_n (lv' := [(3, .int x_6461), (4, .int z_6449), (0, .ref oK), (1, .int p0), (2, .int p1)]) hx hb dX6_drawn_38 rfl hl (by decide) rfl (fun ls hl => ?_)
          obtain ⟨x_6462, ex_6462⟩ : ∃ z : Int32, z = z_6449 + Int32.ofInt 1 := ⟨_, rfl⟩
          have vx_6462 : x_6462.toInt = z_6449.toInt + 1 := ti_add (y := 1) ex_6462 rfl kc_1 (om_4e4fce7e hi0_n_6452.1) (om_219cd8d8 rg_p1.2 gc_6453)
          refine lv_iinc (v := x_6462) (lv' := [(4, .int x_6462), (3, .int x_6461), (0, .ref oK), (1, .int p0), (2, .int p1)]) hx hb dX6_drawn_39 hl (k := 1) rfl ex_6462.symm (by decide) rfl (fun ls hl => ?_)
          refine lv_goto (tgt := 27) hx hb dX6_drawn_42 (by decide) ?_
          exact ih_n_6452 x_6462 x_6461 f_6460 _ _ _ a_f_6460 ⟨(om_83b90de5 hi0_n_6452.1 vx_6462), (om_5c6bfac3 rg_p1.2 gc_6453 vx_6462)⟩ ⟨ux_6461.1, ux_6461.2⟩ (ms_lt hm_n_6452 (om_b9393183 vx_6462) (om_bc4d5040 rg_p1.2 gc_6453)) (hP.sub [9, 10, 0, 11, 1, 2, 3, 4, 5, 6, 14, 7, 15, 12, 8, 13] rfl) (hD.sub [9, 10, 0, 11, 1, 2, 3, 4, 5, 6, 14, 7, 15, 12, 8, 13] (by decide) rfl) hS (lv_sub hl [0, 1, 2, 3, 4] rfl)
    exact key_n_6452 (((2147483647 - (0 : Int32).toInt).toNat) + 1) 0 p0 f_6448 _ _ _ a_f_6448 ⟨(om_b1de7dbe kc_0), (om_daf17c64 kc_0)⟩ ⟨hc_6445.2.1, hc_6445.2.2⟩ (Nat.lt_add_one _) hP hD hS hl
  · skip
    refine lv_if_eq (tgt := 11) hx hb dX6_drawn_6 (by decide) (fun c => absurd c (by decide)) (fun _ => ?_)
    refine lv_iconst (v := (-1)) hx hb dX6_drawn_9 (by decide) ?_
    exact wq_i hx hb hr 0 ⟨trivial, trivial⟩ (fun t ht hW => ⟨x_6444, fT_worths, fT_order, iH_breaths, iH_heardBits, iH_cutCount, fH_heardWords, fH_cutParts, a_fT_order, b_iH_breaths, b_iH_cutCount, Bw.to hP hD hK ht hW⟩) hS dX6_drawn_10 hlocks
set_option maxHeartbeats 4000000 in
set_option maxRecDepth 100000 in
theorem tX6_drawnLeast (l : Launch) (dC : Nat → ClassId) (dI : Nat → Nat → Nat) (sz : Nat) (oK : Nat) (oR : Nat) (oC : Nat) (oS : Nat) (oT : Nat) (rK_images : Nat) (iK_imageCount : Int32) (oA : Nat) (oH : Nat) (oL : Nat) (iK_refusal : Int32) (iK_latestFault : Int32) (iK_latestPlace : Int32) (iC_nodes : Int32) (iC_words : Int32) (iC_chances : Int32) (iC_unsures : Int32) (iC_slips : Int32) (iC_throneNode : Int32) (iC_saidWorth : Int32) (iC_unit : Int32) (rC_kind : Nat) (fC_kind : Nat → Int32) (kC_kind : ClassId) (rC_parts : Nat) (fC_parts : Nat → Int32) (kC_parts : ClassId) (rC_partNodes : Nat) (fC_partNodes : Nat → Int32) (kC_partNodes : ClassId) (rC_weights : Nat) (fC_weights : Nat → Int32) (kC_weights : ClassId) (rC_weightSums : Nat) (fC_weightSums : Nat → Int32) (kC_weightSums : ClassId) (rC_toldWorths : Nat) (rC_steps : Nat) (rC_below : Nat) (rC_above : Nat) (rC_unsureWords : Nat) (rC_unsureWorths : Nat) (rS_worths : Nat) (fS_worths : Nat → Int32) (kS_worths : ClassId) (rS_order : Nat) (fS_order : Nat → Int32) (kS_order : ClassId) (rS_left : Nat) (rT_worths : Nat) (fT_worths : Nat → Int32) (kT_worths : ClassId) (rT_order : Nat) (fT_order : Nat → Int32) (kT_order : ClassId) (rT_left : Nat) (iH_breaths : Int32) (iH_heardBits : Int32) (iH_cutCount : Int32) (iH_halfBreaths : Int32) (iH_halfQuestions : Int32) (rH_heardWords : Nat) (fH_heardWords : Nat → Int32) (kH_heardWords : ClassId) (rH_cutParts : Nat) (fH_cutParts : Nat → Int32) (kH_cutParts : ClassId) (p0 : Int32) (p1 : Int32) (b_iK_imageCount : 0 ≤ iK_imageCount.toInt ∧ iK_imageCount.toInt ≤ 3) (b_iC_nodes : 0 ≤ iC_nodes.toInt ∧ iC_nodes.toInt ≤ 18) (b_iC_unsures : 0 ≤ iC_unsures.toInt ∧ iC_unsures.toInt ≤ 4) (b_iC_throneNode : (-1) ≤ iC_throneNode.toInt ∧ iC_throneNode.toInt ≤ 17) (a_fC_parts : ∀ j : Nat, j < 18 → 0 ≤ (fC_parts j).toInt ∧ (fC_parts j).toInt ≤ 4) (a_fC_partNodes : ∀ j : Nat, j < 72 → 0 ≤ (fC_partNodes j).toInt ∧ (fC_partNodes j).toInt ≤ 17) (a_fS_order : ∀ j : Nat, j < 72 → 0 ≤ (fS_order j).toInt ∧ (fS_order j).toInt ≤ 3) (a_fT_order : ∀ j : Nat, j < 72 → 0 ≤ (fT_order j).toInt ∧ (fT_order j).toInt ≤ 3) (b_iH_breaths : 0 ≤ iH_breaths.toInt ∧ iH_breaths.toInt ≤ 1000000000) (b_iH_cutCount : 0 ≤ iH_cutCount.toInt ∧ iH_cutCount.toInt ≤ 1000000000)  : Met l yX6_drawnLeast (Cond.code yX6_drawnLeast cX6_drawnLeast 7 (some .int) :: wG) ({ frames := 34, cells := 0, slots := 0, locals := 998 }) (va_Pc [.ref oK, .int p0, .int p1] (Pw dC dI sz [(oc6 oK oR oC oS oT rK_images iK_imageCount oA oH oL iK_refusal iK_latestFault iK_latestPlace), (oc1 oC iC_nodes iC_words iC_chances iC_unsures iC_slips iC_throneNode iC_saidWorth iC_unit rC_kind rC_parts rC_partNodes rC_weights rC_weightSums rC_toldWorths rC_steps rC_below rC_above rC_unsureWords rC_unsureWorths), (arI rC_kind kC_kind 18 fC_kind), (arI rC_parts kC_parts 18 fC_parts), (arI rC_partNodes kC_partNodes 72 fC_partNodes), (arI rC_weights kC_weights 72 fC_weights), (arI rC_weightSums kC_weightSums 18 fC_weightSums), (oc5 oS rS_worths rS_order rS_left), (arI rS_worths kS_worths 18 fS_worths), (arI rS_order kS_order 72 fS_order), (oc5 oT rT_worths rT_order rT_left), (arI rT_worths kT_worths 18 fT_worths), (arI rT_order kT_order 72 fT_order), (oc2 oH iH_breaths iH_heardBits iH_cutCount iH_halfBreaths iH_halfQuestions rH_heardWords rH_cutParts), (arI rH_heardWords kH_heardWords 512 fH_heardWords), (arI rH_cutParts kH_cutParts 512 fH_cutParts)] [(kC_kind, .int), (kC_parts, .int), (kC_partNodes, .int), (kC_weights, .int), (kC_weightSums, .int), (kS_worths, .int), (kS_order, .int), (kT_worths, .int), (kT_order, .int), (kH_heardWords, .int), (kH_cutParts, .int)])) (va_Qi (fun (r : Int32) (_ : Nat) => True ∧ True) (fun (_ : Nat) (t : State) => ∃ (niK_refusal : Int32) (nfT_worths : Nat → Int32) (nfT_order : Nat → Int32) (niH_breaths : Int32) (niH_heardBits : Int32) (niH_cutCount : Int32) (nfH_heardWords : Nat → Int32) (nfH_cutParts : Nat → Int32), (∀ j : Nat, j < 72 → 0 ≤ (nfT_order j).toInt ∧ (nfT_order j).toInt ≤ 3) ∧ (0 ≤ niH_breaths.toInt ∧ niH_breaths.toInt ≤ 1000000000) ∧ (0 ≤ niH_cutCount.toInt ∧ niH_cutCount.toInt ≤ 1000000000) ∧ Bw dC dI (va_A [(oc6 oK oR oC oS oT rK_images iK_imageCount oA oH oL iK_refusal iK_latestFault iK_latestPlace), (oc1 oC iC_nodes iC_words iC_chances iC_unsures iC_slips iC_throneNode iC_saidWorth iC_unit rC_kind rC_parts rC_partNodes rC_weights rC_weightSums rC_toldWorths rC_steps rC_below rC_above rC_unsureWords rC_unsureWorths), (arI rC_kind kC_kind 18 fC_kind), (arI rC_parts kC_parts 18 fC_parts), (arI rC_partNodes kC_partNodes 72 fC_partNodes), (arI rC_weights kC_weights 72 fC_weights), (arI rC_weightSums kC_weightSums 18 fC_weightSums), (oc5 oS rS_worths rS_order rS_left), (arI rS_worths kS_worths 18 fS_worths), (arI rS_order kS_order 72 fS_order), (oc5 oT rT_worths rT_order rT_left), (arI rT_worths kT_worths 18 fT_worths), (arI rT_order kT_order 72 fT_order), (oc2 oH iH_breaths iH_heardBits iH_cutCount iH_halfBreaths iH_halfQuestions rH_heardWords rH_cutParts), (arI rH_heardWords kH_heardWords 512 fH_heardWords), (arI rH_cutParts kH_cutParts 512 fH_cutParts)] sz) [(oc6 oK oR oC oS oT rK_images iK_imageCount oA oH oL niK_refusal iK_latestFault iK_latestPlace), (oc1 oC iC_nodes iC_words iC_chances iC_unsures iC_slips iC_throneNode iC_saidWorth iC_unit rC_kind rC_parts rC_partNodes rC_weights rC_weightSums rC_toldWorths rC_steps rC_below rC_above rC_unsureWords rC_unsureWorths), (arI rC_kind kC_kind 18 fC_kind), (arI rC_parts kC_parts 18 fC_parts), (arI rC_partNodes kC_partNodes 72 fC_partNodes), (arI rC_weights kC_weights 72 fC_weights), (arI rC_weightSums kC_weightSums 18 fC_weightSums), (oc5 oS rS_worths rS_order rS_left), (arI rS_worths kS_worths 18 fS_worths), (arI rS_order kS_order 72 fS_order), (oc5 oT rT_worths rT_order rT_left), (arI rT_worths kT_worths 18 nfT_worths), (arI rT_order kT_order 72 nfT_order), (oc2 oH niH_breaths niH_heardBits niH_cutCount iH_halfBreaths iH_halfQuestions rH_heardWords rH_cutParts), (arI rH_heardWords kH_heardWords 512 nfH_heardWords), (arI rH_cutParts kH_cutParts 512 nfH_cutParts)] [(kC_kind, .int), (kC_parts, .int), (kC_partNodes, .int), (kC_weights, .int), (kC_weightSums, .int), (kS_worths, .int), (kS_order, .int), (kT_worths, .int), (kT_order, .int), (kH_heardWords, .int), (kH_cutParts, .int)] t) (va_A [(oc6 oK oR oC oS oT rK_images iK_imageCount oA oH oL iK_refusal iK_latestFault iK_latestPlace), (oc1 oC iC_nodes iC_words iC_chances iC_unsures iC_slips iC_throneNode iC_saidWorth iC_unit rC_kind rC_parts rC_partNodes rC_weights rC_weightSums rC_toldWorths rC_steps rC_below rC_above rC_unsureWords rC_unsureWorths), (arI rC_kind kC_kind 18 fC_kind), (arI rC_parts kC_parts 18 fC_parts), (arI rC_partNodes kC_partNodes 72 fC_partNodes), (arI rC_weights kC_weights 72 fC_weights), (arI rC_weightSums kC_weightSums 18 fC_weightSums), (oc5 oS rS_worths rS_order rS_left), (arI rS_worths kS_worths 18 fS_worths), (arI rS_order kS_order 72 fS_order), (oc5 oT rT_worths rT_order rT_left), (arI rT_worths kT_worths 18 fT_worths), (arI rT_order kT_order 72 fT_order), (oc2 oH iH_breaths iH_heardBits iH_cutCount iH_halfBreaths iH_halfQuestions rH_heardWords rH_cutParts), (arI rH_heardWords kH_heardWords 512 fH_heardWords), (arI rH_cutParts kH_cutParts 512 fH_cutParts)] sz)) 0 0 (va_A [(oc6 oK oR oC oS oT rK_images iK_imageCount oA oH oL iK_refusal iK_latestFault iK_latestPlace), (oc1 oC iC_nodes iC_words iC_chances iC_unsures iC_slips iC_throneNode iC_saidWorth iC_unit rC_kind rC_parts rC_partNodes rC_weights rC_weightSums rC_toldWorths rC_steps rC_below rC_above rC_unsureWords rC_unsureWorths), (arI rC_kind kC_kind 18 fC_kind), (arI rC_parts kC_parts 18 fC_parts), (arI rC_partNodes kC_partNodes 72 fC_partNodes), (arI rC_weights kC_weights 72 fC_weights), (arI rC_weightSums kC_weightSums 18 fC_weightSums), (oc5 oS rS_worths rS_order rS_left), (arI rS_worths kS_worths 18 fS_worths), (arI rS_order kS_order 72 fS_order), (oc5 oT rT_worths rT_order rT_left), (arI rT_worths kT_worths 18 fT_worths), (arI rT_order kT_order 72 fT_order), (oc2 oH iH_breaths iH_heardBits iH_cutCount iH_halfBreaths iH_halfQuestions rH_heardWords rH_cutParts), (arI rH_heardWords kH_heardWords 512 fH_heardWords), (arI rH_cutParts kH_cutParts 512 fH_cutParts)] sz) := by
  refine Met.ofW (cc := cX6_drawnLeast) (maxL := 7) (ret := (some .int)) pnX6 rfl ?_
  intro p e s m args below meth c s₁ B hml hv
  obtain ⟨rfl, hsz, hP, hK, hD0, hE⟩ := hv
  have hx := B.exec
  have hb := B.bytes
  have hr := B.returns
  have hts : ∀ w ∈ wG, w.before ([.ref oK, .int p0, .int p1] : List Value).toArray s = true := fun w h => atoms_spec (ws := Cond.code yX6_drawnLeast cX6_drawnLeast 7 (some .int) :: wG) B.pre w (List.mem_cons_of_mem _ h)
  have hown : s.vm.findClass RX6 = some m.cls := own_of B.named rfl
  have hlocks := B.notSynchronized
  subst hsz
  have hD := hD0.self (sz := s.heap.size)
  generalize hAe : va_A [(oc6 oK oR oC oS oT rK_images iK_imageCount oA oH oL iK_refusal iK_latestFault iK_latestPlace), (oc1 oC iC_nodes iC_words iC_chances iC_unsures iC_slips iC_throneNode iC_saidWorth iC_unit rC_kind rC_parts rC_partNodes rC_weights rC_weightSums rC_toldWorths rC_steps rC_below rC_above rC_unsureWords rC_unsureWorths), (arI rC_kind kC_kind 18 fC_kind), (arI rC_parts kC_parts 18 fC_parts), (arI rC_partNodes kC_partNodes 72 fC_partNodes), (arI rC_weights kC_weights 72 fC_weights), (arI rC_weightSums kC_weightSums 18 fC_weightSums), (oc5 oS rS_worths rS_order rS_left), (arI rS_worths kS_worths 18 fS_worths), (arI rS_order kS_order 72 fS_order), (oc5 oT rT_worths rT_order rT_left), (arI rT_worths kT_worths 18 fT_worths), (arI rT_order kT_order 72 fT_order), (oc2 oH iH_breaths iH_heardBits iH_cutCount iH_halfBreaths iH_halfQuestions rH_heardWords rH_cutParts), (arI rH_heardWords kH_heardWords 512 fH_heardWords), (arI rH_cutParts kH_cutParts 512 fH_cutParts)] s.heap.size = A at hD hE ⊢
  have hA : ∀ q : Nat, s.heap.size ≤ q → A q := fun q h => by rw [← hAe]; exact Or.inr h
  have hS : va_S A s.heap s.heap [] := va_S.rf
  have hl := lv_entry ([.ref oK, .int p0, .int p1]) (n := 7) (Nat.le_of_ble_eq_true rfl)
  rw [lg_entry_eq]
  generalize (lg_sl ([.ref oK, .int p0, .int p1]) ++ List.replicate (7 - (lg_sl ([.ref oK, .int p0, .int p1])).length) Slot.unset).toArray = ls at hl ⊢
  have hl : lv_has ls 7 [(0, .ref oK), (1, .int p0), (2, .int p1)] := hl
  have rg_p0 := fb_rng p0
  have rg_p1 := fb_rng p1
  refine lv_aload_n hx hb dX6_drawnLeast_0 rfl (lv_at hl 0 rfl) ?_
  refine lv_iload_n hx hb dX6_drawnLeast_1 rfl (lv_at hl 1 rfl) ?_
  refine lv_iload_n hx hb dX6_drawnLeast_2 rfl (lv_at hl 2 rfl) ?_
  have hMs := ml_of hD [true, true, false, false, false, false, false, false, false, false, false, false, false, false, false, false] (wc := [(oc6 oK oR oC oS oT rK_images iK_imageCount oA oH oL iK_refusal iK_latestFault iK_latestPlace), (oc1 oC iC_nodes iC_words iC_chances iC_unsures iC_slips iC_throneNode iC_saidWorth iC_unit rC_kind rC_parts rC_partNodes rC_weights rC_weightSums rC_toldWorths rC_steps rC_below rC_above rC_unsureWords rC_unsureWorths)]) rfl
  have hFc := va_freeM hD hS hA _ hMs
  refine va_calli (va_runV (As := [.int p0, .int p1]) (rest := []) ⟨hx, hb, hml, hown, hts⟩ (tX6_lacksDraws l dC dI _ oK oR oC oS oT rK_images iK_imageCount oA oH oL iK_refusal iK_latestFault iK_latestPlace iC_nodes iC_words iC_chances iC_unsures iC_slips iC_throneNode iC_saidWorth iC_unit rC_kind rC_parts rC_partNodes rC_weights rC_weightSums rC_toldWorths rC_steps rC_below rC_above rC_unsureWords rC_unsureWorths p0 p1 b_iK_imageCount b_iC_nodes b_iC_unsures b_iC_throneNode) (cwV 2 hts (wd_V wd_1328 wd_1329 wd_1330 wd_2 (wd_c wd_1331)) rfl rfl rfl dv_yX6_lacksDraws_2 ⟨Nat.le_of_ble_eq_true rfl, Nat.le_of_ble_eq_true rfl⟩) ⟨Pw.fb, recvX6 hK hP (q0 := 0) rfl, fun U hU hW => Pw.to (hP.ms _ hMs) (hD.ms _ hMs) (hK.ms [false, false, false, false, false, false, false, false, false, false, false] rfl) hE hS hFc hU hW⟩ rfl rfl hl.1 rfl (lv_room (Nat.le_of_ble_eq_true rfl)) dX6_drawnLeast_3 ⟨Nat.le_of_ble_eq_true rfl, Nat.le_of_ble_eq_true rfl⟩) hS (fun q _ h => hFc q h) hFc (fun r u t H locs ht hvm hw hB hz1 hk1 hS => ?_)
  refine ex_1_0 hB (fun x_6513 hB => ?_)
  obtain ⟨hP, hD⟩ := Bw.goN (ws' := [(oc6 oK oR oC oS oT rK_images iK_imageCount oA oH oL x_6513 iK_latestFault iK_latestPlace), (oc1 oC iC_nodes iC_words iC_chances iC_unsures iC_slips iC_throneNode iC_saidWorth iC_unit rC_kind rC_parts rC_partNodes rC_weights rC_weightSums rC_toldWorths rC_steps rC_below rC_above rC_unsureWords rC_unsureWorths), (arI rC_kind kC_kind 18 fC_kind), (arI rC_parts kC_parts 18 fC_parts), (arI rC_partNodes kC_partNodes 72 fC_partNodes), (arI rC_weights kC_weights 72 fC_weights), (arI rC_weightSums kC_weightSums 18 fC_weightSums), (oc5 oS rS_worths rS_order rS_left), (arI rS_worths kS_worths 18 fS_worths), (arI rS_order kS_order 72 fS_order), (oc5 oT rT_worths rT_order rT_left), (arI rT_worths kT_worths 18 fT_worths), (arI rT_order kT_order 72 fT_order), (oc2 oH iH_breaths iH_heardBits iH_cutCount iH_halfBreaths iH_halfQuestions rH_heardWords rH_cutParts), (arI rH_heardWords kH_heardWords 512 fH_heardWords), (arI rH_cutParts kH_cutParts 512 fH_cutParts)]) hB rfl ht hP hD _ hMs hk1 hFc rfl
  clear hz1 hk1 hvm ht hB hMs
  have rg_x_6513 := fb_rng x_6513
  rcases hw.2 with ⟨rfl, hc_6514⟩ | ⟨rfl, hc_6514⟩
  · skip
    have rg_iC_nodes := fb_rng iC_nodes
    refine lv_if_eq (tgt := 11) hx hb dX6_drawnLeast_6 (by decide) (fun _ => ?_) (fun c => absurd c (by decide))
    refine lv_aload_n hx hb dX6_drawnLeast_11 rfl (lv_at hl 0 rfl) ?_
    refine va_get (D := (dC, dI)) (ci := 6) (v := .ref oT) (C := RX6) (T := TX6) (N := 12) hx hb hts inX6 hown hK hP 0 rfl rfl 3 (by decide) (hts _ wd_25) (fun _ h9 => h9) rfl dX6_drawnLeast_12 ?_
    refine lv_aload_n hx hb dX6_drawnLeast_15 rfl (lv_at hl 0 rfl) ?_
    refine va_get (D := (dC, dI)) (ci := 6) (v := .ref oS) (C := RX6) (T := TX6) (N := 12) hx hb hts inX6 hown hK hP 0 rfl rfl 2 (by decide) (hts _ wd_24) (fun _ h9 => h9) rfl dX6_drawnLeast_16 ?_
    have hFc := va_free (wc := [(oc5 oT rT_worths rT_order rT_left), (arI rT_worths kT_worths 18 fT_worths), (arI rT_order kT_order 72 fT_order), (oc5 oS rS_worths rS_order rS_left), (arI rS_worths kS_worths 18 fS_worths), (arI rS_order kS_order 72 fS_order)]) hD hS hA [10, 11, 12, 7, 8, 9] rfl
    refine va_callv (va_runV (As := [.ref oS]) (rest := []) ⟨hx, hb, hml, hown, hts⟩ (tX5_copyFrom l dC dI _ oT rT_worths fT_worths kT_worths rT_order fT_order kT_order rT_left oS rS_worths fS_worths kS_worths rS_order fS_order kS_order rS_left a_fT_order a_fS_order) (cwV 1 hts (wd_V wd_1011 wd_1012 wd_1013 wd_23 (wd_c wd_1014)) rfl rfl rfl dv_yX5_copyFrom_1 ⟨Nat.le_of_ble_eq_true rfl, Nat.le_of_ble_eq_true rfl⟩) ⟨Pw.fb, recvX5 hK hP (q0 := 10) rfl, fun U hU hW => Pw.to (hP.sub [10, 11, 12, 7, 8, 9] rfl) (hD.sub [10, 11, 12, 7, 8, 9] (by decide) rfl) (hK.sub [7, 8, 5, 6] rfl) hE hS hFc hU hW⟩ rfl rfl hl.1 rfl (lv_room (Nat.le_of_ble_eq_true rfl)) dX6_drawnLeast_19 ⟨Nat.le_of_ble_eq_true rfl, Nat.le_of_ble_eq_true rfl⟩) hS (fun q _ h => hFc q h) hFc (fun u t H locs ht hvm hw hB hz1 hk1 hS => ?_)
    refine ex_2_2 hB (fun f_6516 f_6517 a_f_6517 e_f_6516_0 hB => ?_)
    obtain ⟨hP, hD, hK⟩ := Bw.go (ws' := [(oc6 oK oR oC oS oT rK_images iK_imageCount oA oH oL x_6513 iK_latestFault iK_latestPlace), (oc1 oC iC_nodes iC_words iC_chances iC_unsures iC_slips iC_throneNode iC_saidWorth iC_unit rC_kind rC_parts rC_partNodes rC_weights rC_weightSums rC_toldWorths rC_steps rC_below rC_above rC_unsureWords rC_unsureWorths), (arI rC_kind kC_kind 18 fC_kind), (arI rC_parts kC_parts 18 fC_parts), (arI rC_partNodes kC_partNodes 72 fC_partNodes), (arI rC_weights kC_weights 72 fC_weights), (arI rC_weightSums kC_weightSums 18 fC_weightSums), (oc2 oH iH_breaths iH_heardBits iH_cutCount iH_halfBreaths iH_halfQuestions rH_heardWords rH_cutParts), (arI rH_heardWords kH_heardWords 512 fH_heardWords), (arI rH_cutParts kH_cutParts 512 fH_cutParts), (oc5 oT rT_worths rT_order rT_left), (arI rT_worths kT_worths 18 f_6516), (arI rT_order kT_order 72 f_6517), (oc5 oS rS_worths rS_order rS_left), (arI rS_worths kS_worths 18 fS_worths), (arI rS_order kS_order 72 fS_order)]) (tys' := [(kC_kind, .int), (kC_parts, .int), (kC_partNodes, .int), (kC_weights, .int), (kC_weightSums, .int), (kH_heardWords, .int), (kH_cutParts, .int), (kT_worths, .int), (kT_order, .int), (kS_worths, .int), (kS_order, .int)]) hB rfl ht hvm hP hD hK [10, 11, 12, 7, 8, 9] [0, 1, 2, 3, 4, 5, 6, 13, 14, 15] rfl (by decide) (by decide) [0, 1, 2, 3, 4, 9, 10] hk1 hFc rfl rfl rfl
    clear hz1 hk1 hvm ht hB
    refine lv_iload_n hx hb dX6_drawnLeast_22 rfl (lv_at hl 1 rfl) ?_
    refine lv_istore_n (lv' := [(3, .int p0), (0, .ref oK), (1, .int p0), (2, .int p1)]) hx hb dX6_drawnLeast_23 rfl hl (by decide) rfl (fun ls hl => ?_)
    refine lv_iconst (v := 0) hx hb dX6_drawnLeast_24 (by decide) ?_
    refine lv_istore (lv' := [(4, .int 0), (3, .int p0), (0, .ref oK), (1, .int p0), (2, .int p1)]) hx hb dX6_drawnLeast_25 hl (by decide) rfl (fun ls hl => ?_)
    refine lv_iconst (v := 0) hx hb dX6_drawnLeast_27 (by decide) ?_
    refine lv_istore (lv' := [(5, .int 0), (4, .int 0), (3, .int p0), (0, .ref oK), (1, .int p0), (2, .int p1)]) hx hb dX6_drawnLeast_28 hl (by decide) rfl (fun ls hl => ?_)
    have hl := lv_sub hl (l' := [(5, .int 0), (4, .int 0), (3, .int p0), (0, .ref oK), (1, .int p0), (2, .int p1)]) [0, 1, 2, 3, 4, 5] rfl
    have key_n_6527 : ∀ (n_6527 : Nat) (z_6518 : Int32) (z_6519 : Int32) (z_6520 : Int32) (z_6521 : Int32) (z_6522 : Int32) (z_6523 : Int32) (f_6524 : Nat → Int32) (f_6525 : Nat → Int32) (f_6526 : Nat → Int32) (H : Heap) (locs : List Loc) (ls : Array Slot), (0 ≤ z_6521.toInt ∧ z_6521.toInt ≤ 1000000000) → (0 ≤ z_6523.toInt ∧ z_6523.toInt ≤ 1000000000) → (∀ j : Nat, j < 72 → 0 ≤ (f_6526 j).toInt ∧ (f_6526 j).toInt ≤ 3) → (0 ≤ z_6518.toInt ∧ z_6518.toInt ≤ 2147483647) → (0 ≤ z_6519.toInt ∧ z_6519.toInt ≤ 65536) → (2147483647 - z_6518.toInt).toNat < n_6527 → va_P (dC, dI) vwCl [(oc6 oK oR oC oS oT rK_images iK_imageCount oA oH oL x_6513 iK_latestFault iK_latestPlace), (oc1 oC iC_nodes iC_words iC_chances iC_unsures iC_slips iC_throneNode iC_saidWorth iC_unit rC_kind rC_parts rC_partNodes rC_weights rC_weightSums rC_toldWorths rC_steps rC_below rC_above rC_unsureWords rC_unsureWorths), (arI rC_kind kC_kind 18 fC_kind), (arI rC_parts kC_parts 18 fC_parts), (arI rC_partNodes kC_partNodes 72 fC_partNodes), (arI rC_weights kC_weights 72 fC_weights), (arI rC_weightSums kC_weightSums 18 fC_weightSums), (oc2 oH z_6521 z_6522 z_6523 iH_halfBreaths iH_halfQuestions rH_heardWords rH_cutParts), (arI rH_heardWords kH_heardWords 512 f_6524), (arI rH_cutParts kH_cutParts 512 f_6525), (oc5 oT rT_worths rT_order rT_left), (arI rT_worths kT_worths 18 f_6516), (arI rT_order kT_order 72 f_6526), (oc5 oS rS_worths rS_order rS_left), (arI rS_worths kS_worths 18 fS_worths), (arI rS_order kS_order 72 fS_order)] H → va_D A [(oc6 oK oR oC oS oT rK_images iK_imageCount oA oH oL x_6513 iK_latestFault iK_latestPlace), (oc1 oC iC_nodes iC_words iC_chances iC_unsures iC_slips iC_throneNode iC_saidWorth iC_unit rC_kind rC_parts rC_partNodes rC_weights rC_weightSums rC_toldWorths rC_steps rC_below rC_above rC_unsureWords rC_unsureWorths), (arI rC_kind kC_kind 18 fC_kind), (arI rC_parts kC_parts 18 fC_parts), (arI rC_partNodes kC_partNodes 72 fC_partNodes), (arI rC_weights kC_weights 72 fC_weights), (arI rC_weightSums kC_weightSums 18 fC_weightSums), (oc2 oH z_6521 z_6522 z_6523 iH_halfBreaths iH_halfQuestions rH_heardWords rH_cutParts), (arI rH_heardWords kH_heardWords 512 f_6524), (arI rH_cutParts kH_cutParts 512 f_6525), (oc5 oT rT_worths rT_order rT_left), (arI rT_worths kT_worths 18 f_6516), (arI rT_order kT_order 72 f_6526), (oc5 oS rS_worths rS_order rS_left), (arI rS_worths kS_worths 18 fS_worths), (arI rS_order kS_order 72 fS_order)] → va_S A s.heap H locs → lv_has ls 7 [(5, .int z_6518), (4, .int z_6520), (3, .int z_6519), (0, .ref oK), (1, .int p0), (2, .int p1)] → W p l e (headSpec (Cond.code yX6_drawnLeast cX6_drawnLeast 7 (some .int) :: wG) ({ frames := 34, cells := 0, slots := 0, locals := 998 })).room s m ([.ref oK, .int p0, .int p1] : List Value).toArray below meth c H locs 0 0 (MQ below (va_Qi (fun (r : Int32) (_ : Nat) => True ∧ True) (fun (_ : Nat) (t : State) => ∃ (niK_refusal : Int32) (nfT_worths : Nat → Int32) (nfT_order : Nat → Int32) (niH_breaths : Int32) (niH_heardBits : Int32) (niH_cutCount : Int32) (nfH_heardWords : Nat → Int32) (nfH_cutParts : Nat → Int32), (∀ j : Nat, j < 72 → 0 ≤ (nfT_order j).toInt ∧ (nfT_order j).toInt ≤ 3) ∧ (0 ≤ niH_breaths.toInt ∧ niH_breaths.toInt ≤ 1000000000) ∧ (0 ≤ niH_cutCount.toInt ∧ niH_cutCount.toInt ≤ 1000000000) ∧ Bw dC dI A [(oc6 oK oR oC oS oT rK_images iK_imageCount oA oH oL niK_refusal iK_latestFault iK_latestPlace), (oc1 oC iC_nodes iC_words iC_chances iC_unsures iC_slips iC_throneNode iC_saidWorth iC_unit rC_kind rC_parts rC_partNodes rC_weights rC_weightSums rC_toldWorths rC_steps rC_below rC_above rC_unsureWords rC_unsureWorths), (arI rC_kind kC_kind 18 fC_kind), (arI rC_parts kC_parts 18 fC_parts), (arI rC_partNodes kC_partNodes 72 fC_partNodes), (arI rC_weights kC_weights 72 fC_weights), (arI rC_weightSums kC_weightSums 18 fC_weightSums), (oc5 oS rS_worths rS_order rS_left), (arI rS_worths kS_worths 18 fS_worths), (arI rS_order kS_order 72 fS_order), (oc5 oT rT_worths rT_order rT_left), (arI rT_worths kT_worths 18 nfT_worths), (arI rT_order kT_order 72 nfT_order), (oc2 oH niH_breaths niH_heardBits niH_cutCount iH_halfBreaths iH_halfQuestions rH_heardWords rH_cutParts), (arI rH_heardWords kH_heardWords 512 nfH_heardWords), (arI rH_cutParts kH_cutParts 512 nfH_cutParts)] [(kC_kind, .int), (kC_parts, .int), (kC_partNodes, .int), (kC_weights, .int), (kC_weightSums, .int), (kS_worths, .int), (kS_order, .int), (kT_worths, .int), (kT_order, .int), (kH_heardWords, .int), (kH_cutParts, .int)] t) A) ([.ref oK, .int p0, .int p1] : List Value).toArray s 0 0 A) (F0 m 30 ls []) := by
      intro n_6527
      induction n_6527 with
      | zero => intro z_6518 z_6519 z_6520 z_6521 z_6522 z_6523 f_6524 f_6525 f_6526 H locs ls b_z_6521 b_z_6523 a_f_6526 hi0_n_6527 hi1_n_6527 hm; exact absurd hm (Nat.not_lt_zero _)
      | succ n_6527 ih_n_6527 =>
        intro z_6518 z_6519 z_6520 z_6521 z_6522 z_6523 f_6524 f_6525 f_6526 H locs ls b_z_6521 b_z_6523 a_f_6526 hi0_n_6527 hi1_n_6527 hm_n_6527 hP hD hS hl
        have rg_z_6518 := fb_rng z_6518
        have rg_z_6519 := fb_rng z_6519
        have rg_z_6520 := fb_rng z_6520
        have rg_z_6521 := fb_rng z_6521
        have rg_z_6522 := fb_rng z_6522
        have rg_z_6523 := fb_rng z_6523
        refine lv_iload hx hb dX6_drawnLeast_30 (lv_at hl 0 rfl) ?_
        refine lv_iload_n hx hb dX6_drawnLeast_32 rfl (lv_at hl 5 rfl) ?_
        refine lv_icmp_ge (tgt := 81) hx hb dX6_drawnLeast_33 (by decide) (fun c_6528 => ?_) (fun c_6528 => ?_)
        · skip
          have gc_6528 := ti_le c_6528 rfl rfl
          refine lv_iload hx hb dX6_drawnLeast_81 (lv_at hl 1 rfl) ?_
          exact wq_i hx hb hr 0 ⟨trivial, trivial⟩ (fun t ht hW => ⟨x_6513, f_6516, f_6526, z_6521, z_6522, z_6523, f_6524, f_6525, a_f_6526, b_z_6521, b_z_6523, Bw.to (hP.sub [0, 1, 2, 3, 4, 5, 6, 13, 14, 15, 10, 11, 12, 7, 8, 9] rfl) (hD.sub [0, 1, 2, 3, 4, 5, 6, 13, 14, 15, 10, 11, 12, 7, 8, 9] (by decide) rfl) (hK.sub [0, 1, 2, 3, 4, 9, 10, 7, 8, 5, 6] rfl) ht hW⟩) hS dX6_drawnLeast_83 hlocks
        · skip
          have gc_6528 := ti_nle c_6528 rfl rfl
          refine lv_aload_n hx hb dX6_drawnLeast_36 rfl (lv_at hl 3 rfl) ?_
          refine lv_iload_n hx hb dX6_drawnLeast_37 rfl (lv_at hl 2 rfl) ?_
          have hFc := va_free (wc := [(oc6 oK oR oC oS oT rK_images iK_imageCount oA oH oL x_6513 iK_latestFault iK_latestPlace), (oc1 oC iC_nodes iC_words iC_chances iC_unsures iC_slips iC_throneNode iC_saidWorth iC_unit rC_kind rC_parts rC_partNodes rC_weights rC_weightSums rC_toldWorths rC_steps rC_below rC_above rC_unsureWords rC_unsureWorths), (arI rC_parts kC_parts 18 fC_parts), (oc5 oS rS_worths rS_order rS_left), (arI rS_order kS_order 72 fS_order), (oc5 oT rT_worths rT_order rT_left), (arI rT_order kT_order 72 f_6526)]) hD hS hA [0, 1, 3, 13, 15, 10, 12] rfl
          refine va_calli (va_runV (As := [.int z_6519]) (rest := []) ⟨hx, hb, hml, hown, hts⟩ (tX6_drawOrders l dC dI _ oK oR oC oS oT rK_images iK_imageCount oA oH oL x_6513 iK_latestFault iK_latestPlace iC_nodes iC_words iC_chances iC_unsures iC_slips iC_throneNode iC_saidWorth iC_unit rC_kind rC_parts fC_parts kC_parts rC_partNodes rC_weights rC_weightSums rC_toldWorths rC_steps rC_below rC_above rC_unsureWords rC_unsureWorths rS_worths rS_order fS_order kS_order rS_left rT_worths rT_order f_6526 kT_order rT_left z_6519 b_iK_imageCount b_iC_nodes b_iC_unsures b_iC_throneNode a_fC_parts a_fS_order a_f_6526 ⟨hi1_n_6527.1, hi1_n_6527.2⟩) (cwV 1 hts (wd_V wd_1333 wd_1334 wd_1335 wd_2 (wd_c wd_1336)) rfl rfl rfl dv_yX6_drawOrders_1 ⟨Nat.le_of_ble_eq_true rfl, Nat.le_of_ble_eq_true rfl⟩) ⟨Pw.fb, recvX6 hK hP (q0 := 0) rfl, fun U hU hW => Pw.to (hP.sub [0, 1, 3, 13, 15, 10, 12] rfl) (hD.sub [0, 1, 3, 13, 15, 10, 12] (by decide) rfl) (hK.sub [1, 10, 8] rfl) hE hS hFc hU hW⟩ rfl rfl hl.1 rfl (lv_room (Nat.le_of_ble_eq_true rfl)) dX6_drawnLeast_38 ⟨Nat.le_of_ble_eq_true rfl, Nat.le_of_ble_eq_true rfl⟩) hS (fun q _ h => hFc q h) hFc (fun r u t H locs ht hvm hw hB hz1 hk1 hS => ?_)
          refine ex_1_1 hB (fun f_6529 a_f_6529 hB => ?_)
          obtain ⟨hP, hD, hK⟩ := Bw.go (ws' := [(arI rC_kind kC_kind 18 fC_kind), (arI rC_partNodes kC_partNodes 72 fC_partNodes), (arI rC_weights kC_weights 72 fC_weights), (arI rC_weightSums kC_weightSums 18 fC_weightSums), (oc2 oH z_6521 z_6522 z_6523 iH_halfBreaths iH_halfQuestions rH_heardWords rH_cutParts), (arI rH_heardWords kH_heardWords 512 f_6524), (arI rH_cutParts kH_cutParts 512 f_6525), (arI rT_worths kT_worths 18 f_6516), (arI rS_worths kS_worths 18 fS_worths), (oc6 oK oR oC oS oT rK_images iK_imageCount oA oH oL x_6513 iK_latestFault iK_latestPlace), (oc1 oC iC_nodes iC_words iC_chances iC_unsures iC_slips iC_throneNode iC_saidWorth iC_unit rC_kind rC_parts rC_partNodes rC_weights rC_weightSums rC_toldWorths rC_steps rC_below rC_above rC_unsureWords rC_unsureWorths), (arI rC_parts kC_parts 18 fC_parts), (oc5 oS rS_worths rS_order rS_left), (arI rS_order kS_order 72 fS_order), (oc5 oT rT_worths rT_order rT_left), (arI rT_order kT_order 72 f_6529)]) (tys' := [(kC_kind, .int), (kC_partNodes, .int), (kC_weights, .int), (kC_weightSums, .int), (kH_heardWords, .int), (kH_cutParts, .int), (kT_worths, .int), (kS_worths, .int), (kC_parts, .int), (kS_order, .int), (kT_order, .int)]) hB rfl ht hvm hP hD hK [0, 1, 3, 13, 15, 10, 12] [2, 4, 5, 6, 7, 8, 9, 11, 14] rfl (by decide) (by decide) [0, 2, 3, 4, 5, 6, 7, 9] hk1 hFc rfl rfl rfl
          clear hz1 hk1 hvm ht hB
          obtain ⟨x_6530, rfl⟩ : ∃ z, z = r := ⟨_, rfl⟩
          have rg_x_6530 := fb_rng x_6530
          have ux_6530 := hw.2
          refine lv_istore_n (lv' := [(3, .int x_6530), (5, .int z_6518), (4, .int z_6520), (0, .ref oK), (1, .int p0), (2, .int p1)]) hx hb dX6_drawnLeast_41 rfl hl (by decide) rfl (fun ls hl => ?_)
          refine lv_aload_n hx hb dX6_drawnLeast_42 rfl (lv_at hl 3 rfl) ?_
          refine va_get (D := (dC, dI)) (ci := 6) (v := .ref oH) (C := RX6) (T := TX6) (N := 12) hx hb hts inX6 hown hK hP 9 rfl rfl 7 (by decide) (hts _ wd_34) (fun _ h9 => h9) rfl dX6_drawnLeast_43 ?_
          refine lv_aload_n hx hb dX6_drawnLeast_46 rfl (lv_at hl 3 rfl) ?_
          refine va_get (D := (dC, dI)) (ci := 6) (v := .ref oC) (C := RX6) (T := TX6) (N := 12) hx hb hts inX6 hown hK hP 9 rfl rfl 1 (by decide) (hts _ wd_20) (fun _ h9 => h9) rfl dX6_drawnLeast_47 ?_
          refine lv_aload_n hx hb dX6_drawnLeast_50 rfl (lv_at hl 3 rfl) ?_
          refine va_get (D := (dC, dI)) (ci := 6) (v := .ref oT) (C := RX6) (T := TX6) (N := 12) hx hb hts inX6 hown hK hP 9 rfl rfl 3 (by decide) (hts _ wd_25) (fun _ h9 => h9) rfl dX6_drawnLeast_51 ?_
          have hFc := va_free (wc := [(oc2 oH z_6521 z_6522 z_6523 iH_halfBreaths iH_halfQuestions rH_heardWords rH_cutParts), (arI rH_heardWords kH_heardWords 512 f_6524), (arI rH_cutParts kH_cutParts 512 f_6525), (oc1 oC iC_nodes iC_words iC_chances iC_unsures iC_slips iC_throneNode iC_saidWorth iC_unit rC_kind rC_parts rC_partNodes rC_weights rC_weightSums rC_toldWorths rC_steps rC_below rC_above rC_unsureWords rC_unsureWorths), (arI rC_kind kC_kind 18 fC_kind), (arI rC_parts kC_parts 18 fC_parts), (arI rC_partNodes kC_partNodes 72 fC_partNodes), (arI rC_weights kC_weights 72 fC_weights), (arI rC_weightSums kC_weightSums 18 fC_weightSums), (oc5 oT rT_worths rT_order rT_left), (arI rT_worths kT_worths 18 f_6516), (arI rT_order kT_order 72 f_6529)]) hD hS hA [4, 5, 6, 10, 0, 11, 1, 2, 3, 14, 7, 15] rfl
          refine va_calli (va_runV (As := [.ref oC, .ref oT]) (rest := []) ⟨hx, hb, hml, hown, hts⟩ (tX2_breathsFreely l dC dI _ oH z_6521 z_6522 z_6523 iH_halfBreaths iH_halfQuestions rH_heardWords f_6524 kH_heardWords rH_cutParts f_6525 kH_cutParts oC iC_nodes iC_words iC_chances iC_unsures iC_slips iC_throneNode iC_saidWorth iC_unit rC_kind fC_kind kC_kind rC_parts fC_parts kC_parts rC_partNodes fC_partNodes kC_partNodes rC_weights fC_weights kC_weights rC_weightSums fC_weightSums kC_weightSums rC_toldWorths rC_steps rC_below rC_above rC_unsureWords rC_unsureWorths oT rT_worths f_6516 kT_worths rT_order f_6529 kT_order rT_left b_z_6521 b_z_6523 b_iC_nodes b_iC_unsures b_iC_throneNode a_fC_parts a_fC_partNodes a_f_6529) (cwV 2 hts (wd_V wd_714 wd_715 wd_716 wd_33 (wd_c wd_717)) rfl rfl rfl dv_yX2_breathsFreely_2 ⟨Nat.le_of_ble_eq_true rfl, Nat.le_of_ble_eq_true rfl⟩) ⟨Pw.fb, recvX2 hK hP (q0 := 4) rfl, fun U hU hW => Pw.to (hP.sub [4, 5, 6, 10, 0, 11, 1, 2, 3, 14, 7, 15] rfl) (hD.sub [4, 5, 6, 10, 0, 11, 1, 2, 3, 14, 7, 15] (by decide) rfl) (hK.sub [4, 5, 0, 8, 1, 2, 3, 6, 10] rfl) hE hS hFc hU hW⟩ rfl rfl hl.1 rfl (lv_room (Nat.le_of_ble_eq_true rfl)) dX6_drawnLeast_54 ⟨Nat.le_of_ble_eq_true rfl, Nat.le_of_ble_eq_true rfl⟩) hS (fun q _ h => hFc q h) hFc (fun r u t H locs ht hvm hw hB hz1 hk1 hS => ?_)
          refine ex_5_2 hB (fun x_6531 x_6532 x_6533 f_6534 f_6535 b_x_6531 b_x_6533 hB => ?_)
          obtain ⟨hP, hD, hK⟩ := Bw.go (ws' := [(arI rS_worths kS_worths 18 fS_worths), (oc6 oK oR oC oS oT rK_images iK_imageCount oA oH oL x_6513 iK_latestFault iK_latestPlace), (oc5 oS rS_worths rS_order rS_left), (arI rS_order kS_order 72 fS_order), (oc2 oH x_6531 x_6532 x_6533 iH_halfBreaths iH_halfQuestions rH_heardWords rH_cutParts), (arI rH_heardWords kH_heardWords 512 f_6534), (arI rH_cutParts kH_cutParts 512 f_6535), (oc1 oC iC_nodes iC_words iC_chances iC_unsures iC_slips iC_throneNode iC_saidWorth iC_unit rC_kind rC_parts rC_partNodes rC_weights rC_weightSums rC_toldWorths rC_steps rC_below rC_above rC_unsureWords rC_unsureWorths), (arI rC_kind kC_kind 18 fC_kind), (arI rC_parts kC_parts 18 fC_parts), (arI rC_partNodes kC_partNodes 72 fC_partNodes), (arI rC_weights kC_weights 72 fC_weights), (arI rC_weightSums kC_weightSums 18 fC_weightSums), (oc5 oT rT_worths rT_order rT_left), (arI rT_worths kT_worths 18 f_6516), (arI rT_order kT_order 72 f_6529)]) (tys' := [(kS_worths, .int), (kS_order, .int), (kH_heardWords, .int), (kH_cutParts, .int), (kC_kind, .int), (kC_parts, .int), (kC_partNodes, .int), (kC_weights, .int), (kC_weightSums, .int), (kT_worths, .int), (kT_order, .int)]) hB rfl ht hvm hP hD hK [4, 5, 6, 10, 0, 11, 1, 2, 3, 14, 7, 15] [8, 9, 12, 13] rfl (by decide) (by decide) [7, 9] hk1 hFc rfl rfl rfl
          clear hz1 hk1 hvm ht hB
          have rg_x_6531 := fb_rng x_6531
          have rg_x_6532 := fb_rng x_6532
          have rg_x_6533 := fb_rng x_6533
          obtain ⟨x_6536, rfl⟩ : ∃ z, z = r := ⟨_, rfl⟩
          have rg_x_6536 := fb_rng x_6536
          refine lv_istore (lv' := [(6, .int x_6536), (3, .int x_6530), (5, .int z_6518), (4, .int z_6520), (0, .ref oK), (1, .int p0), (2, .int p1)]) hx hb dX6_drawnLeast_57 hl (by decide) rfl (fun ls hl => ?_)
          refine lv_iload hx hb dX6_drawnLeast_59 (lv_at hl 2 rfl) ?_
          refine lv_if_eq (tgt := 71) hx hb dX6_drawnLeast_61 (by decide) (fun c_6537 => ?_) (fun c_6537 => ?_)
          · skip
            have gc_6537 := ti_eq c_6537 rfl kc_0
            refine lv_iload hx hb dX6_drawnLeast_71 (lv_at hl 0 rfl) ?_
            refine lv_istore (lv' := [(4, .int x_6536), (6, .int x_6536), (3, .int x_6530), (5, .int z_6518), (0, .ref oK), (1, .int p0), (2, .int p1)]) hx hb dX6_drawnLeast_73 hl (by decide) rfl (fun ls hl => ?_)
            obtain ⟨x_6538, ex_6538⟩ : ∃ z : Int32, z = z_6518 + Int32.ofInt 1 := ⟨_, rfl⟩
            have vx_6538 : x_6538.toInt = z_6518.toInt + 1 := ti_add (y := 1) ex_6538 rfl kc_1 (om_4e4fce7e hi0_n_6527.1) (om_f4fb5b9a gc_6537)
            refine lv_iinc (v := x_6538) (lv' := [(5, .int x_6538), (4, .int x_6536), (6, .int x_6536), (3, .int x_6530), (0, .ref oK), (1, .int p0), (2, .int p1)]) hx hb dX6_drawnLeast_75 hl (k := 3) rfl ex_6538.symm (by decide) rfl (fun ls hl => ?_)
            refine lv_goto (tgt := 30) hx hb dX6_drawnLeast_78 (by decide) ?_
            exact ih_n_6527 x_6538 x_6530 x_6536 x_6531 x_6532 x_6533 f_6534 f_6535 f_6529 _ _ _ b_x_6531 b_x_6533 a_f_6529 ⟨(om_83b90de5 hi0_n_6527.1 vx_6538), (om_b8edbab1 gc_6537 vx_6538)⟩ ⟨ux_6530.1, ux_6530.2⟩ (ms_lt hm_n_6527 (om_b9393183 vx_6538) (om_ec9d7b39 gc_6537)) (hP.sub [1, 7, 8, 9, 10, 11, 12, 4, 5, 6, 13, 14, 15, 2, 0, 3] rfl) (hD.sub [1, 7, 8, 9, 10, 11, 12, 4, 5, 6, 13, 14, 15, 2, 0, 3] (by decide) rfl) hS (lv_sub hl [0, 1, 3, 4, 5, 6] rfl)
          · skip
            have gc_6537 := ti_ne c_6537 rfl kc_0
            refine lv_iload hx hb dX6_drawnLeast_64 (lv_at hl 0 rfl) ?_
            refine lv_iload hx hb dX6_drawnLeast_66 (lv_at hl 3 rfl) ?_
            refine lv_icmp_ge (tgt := 75) hx hb dX6_drawnLeast_68 (by decide) (fun c_6539 => ?_) (fun c_6539 => ?_)
            · skip
              have gc_6539 := ti_le c_6539 rfl rfl
              obtain ⟨x_6540, ex_6540⟩ : ∃ z : Int32, z = z_6518 + Int32.ofInt 1 := ⟨_, rfl⟩
              have vx_6540 : x_6540.toInt = z_6518.toInt + 1 := ti_add (y := 1) ex_6540 rfl kc_1 (om_4e4fce7e hi0_n_6527.1) (om_219cd8d8 rg_p1.2 gc_6528)
              refine lv_iinc (v := x_6540) (lv' := [(5, .int x_6540), (6, .int x_6536), (3, .int x_6530), (4, .int z_6520), (0, .ref oK), (1, .int p0), (2, .int p1)]) hx hb dX6_drawnLeast_75 hl (k := 2) rfl ex_6540.symm (by decide) rfl (fun ls hl => ?_)
              refine lv_goto (tgt := 30) hx hb dX6_drawnLeast_78 (by decide) ?_
              exact ih_n_6527 x_6540 x_6530 z_6520 x_6531 x_6532 x_6533 f_6534 f_6535 f_6529 _ _ _ b_x_6531 b_x_6533 a_f_6529 ⟨(om_83b90de5 hi0_n_6527.1 vx_6540), (om_5c6bfac3 rg_p1.2 gc_6528 vx_6540)⟩ ⟨ux_6530.1, ux_6530.2⟩ (ms_lt hm_n_6527 (om_b9393183 vx_6540) (om_bc4d5040 rg_p1.2 gc_6528)) (hP.sub [1, 7, 8, 9, 10, 11, 12, 4, 5, 6, 13, 14, 15, 2, 0, 3] rfl) (hD.sub [1, 7, 8, 9, 10, 11, 12, 4, 5, 6, 13, 14, 15, 2, 0, 3] (by decide) rfl) hS (lv_sub hl [0, 3, 2, 4, 5, 6] rfl)
            · skip
              have gc_6539 := ti_nle c_6539 rfl rfl
              refine lv_iload hx hb dX6_drawnLeast_71 (lv_at hl 0 rfl) ?_
              refine lv_istore (lv' := [(4, .int x_6536), (6, .int x_6536), (3, .int x_6530), (5, .int z_6518), (0, .ref oK), (1, .int p0), (2, .int p1)]) hx hb dX6_drawnLeast_73 hl (by decide) rfl (fun ls hl => ?_)
              obtain ⟨x_6541, ex_6541⟩ : ∃ z : Int32, z = z_6518 + Int32.ofInt 1 := ⟨_, rfl⟩
              have vx_6541 : x_6541.toInt = z_6518.toInt + 1 := ti_add (y := 1) ex_6541 rfl kc_1 (om_4e4fce7e hi0_n_6527.1) (om_219cd8d8 rg_p1.2 gc_6528)
              refine lv_iinc (v := x_6541) (lv' := [(5, .int x_6541), (4, .int x_6536), (6, .int x_6536), (3, .int x_6530), (0, .ref oK), (1, .int p0), (2, .int p1)]) hx hb dX6_drawnLeast_75 hl (k := 3) rfl ex_6541.symm (by decide) rfl (fun ls hl => ?_)
              refine lv_goto (tgt := 30) hx hb dX6_drawnLeast_78 (by decide) ?_
              exact ih_n_6527 x_6541 x_6530 x_6536 x_6531 x_6532 x_6533 f_6534 f_6535 f_6529 _ _ _ b_x_6531 b_x_6533 a_f_6529 ⟨(om_83b90de5 hi0_n_6527.1 vx_6541), (om_5c6bfac3 rg_p1.2 gc_6528 vx_6541)⟩ ⟨ux_6530.1, ux_6530.2⟩ (ms_lt hm_n_6527 (om_b9393183 vx_6541) (om_bc4d5040 rg_p1.2 gc_6528)) (hP.sub [1, 7, 8, 9, 10, 11, 12, 4, 5, 6, 13, 14, 15, 2, 0, 3] rfl) (hD.sub [1, 7, 8, 9, 10, 11, 12, 4, 5, 6, 13, 14, 15, 2, 0, 3] (by decide) rfl) hS (lv_sub hl [0, 1, 3, 4, 5, 6] rfl)
    exact key_n_6527 (((2147483647 - (0 : Int32).toInt).toNat) + 1) 0 p0 0 iH_breaths iH_heardBits iH_cutCount fH_heardWords fH_cutParts f_6517 _ _ _ b_iH_breaths b_iH_cutCount a_f_6517 ⟨(om_b1de7dbe kc_0), (om_daf17c64 kc_0)⟩ ⟨hc_6514.2.1, hc_6514.2.2⟩ (Nat.lt_add_one _) hP hD hS hl
  · skip
    refine lv_if_eq (tgt := 11) hx hb dX6_drawnLeast_6 (by decide) (fun c => absurd c (by decide)) (fun _ => ?_)
    refine lv_iconst (v := (-1)) hx hb dX6_drawnLeast_9 (by decide) ?_
    exact wq_i hx hb hr 0 ⟨trivial, trivial⟩ (fun t ht hW => ⟨x_6513, fT_worths, fT_order, iH_breaths, iH_heardBits, iH_cutCount, fH_heardWords, fH_cutParts, a_fT_order, b_iH_breaths, b_iH_cutCount, Bw.to hP hD hK ht hW⟩) hS dX6_drawnLeast_10 hlocks
set_option maxHeartbeats 4000000 in
set_option maxRecDepth 100000 in
theorem tX6_say (l : Launch) (dC : Nat → ClassId) (dI : Nat → Nat → Nat) (sz : Nat) (oK : Nat) (oR : Nat) (oC : Nat) (oS : Nat) (oT : Nat) (rK_images : Nat) (iK_imageCount : Int32) (oA : Nat) (oH : Nat) (oL : Nat) (iK_refusal : Int32) (iK_latestFault : Int32) (iK_latestPlace : Int32) (iC_nodes : Int32) (iC_words : Int32) (iC_chances : Int32) (iC_unsures : Int32) (iC_slips : Int32) (iC_throneNode : Int32) (iC_saidWorth : Int32) (iC_unit : Int32) (rC_kind : Nat) (fC_kind : Nat → Int32) (kC_kind : ClassId) (rC_parts : Nat) (rC_partNodes : Nat) (rC_weights : Nat) (rC_weightSums : Nat) (rC_toldWorths : Nat) (rC_steps : Nat) (rC_below : Nat) (rC_above : Nat) (rC_unsureWords : Nat) (rC_unsureWorths : Nat) (rS_worths : Nat) (fS_worths : Nat → Int32) (kS_worths : ClassId) (rS_order : Nat) (rS_left : Nat) (iA_count : Int32) (rA_nodes : Nat) (fA_nodes : Nat → Int32) (kA_nodes : ClassId) (rA_olds : Nat) (fA_olds : Nat → Int32) (kA_olds : ClassId) (rA_says : Nat) (fA_says : Nat → Int32) (kA_says : ClassId) (p0 : Int32) (p1 : Int32) (b_iK_imageCount : 0 ≤ iK_imageCount.toInt ∧ iK_imageCount.toInt ≤ 3) (b_iC_nodes : 0 ≤ iC_nodes.toInt ∧ iC_nodes.toInt ≤ 18) (b_iC_unsures : 0 ≤ iC_unsures.toInt ∧ iC_unsures.toInt ≤ 4) (b_iC_throneNode : (-1) ≤ iC_throneNode.toInt ∧ iC_throneNode.toInt ≤ 17) (b_iA_count : 0 ≤ iA_count.toInt ∧ iA_count.toInt ≤ 16) (a_fA_nodes : ∀ j : Nat, j < 16 → 0 ≤ (fA_nodes j).toInt ∧ (fA_nodes j).toInt ≤ 17) (a_fA_says : ∀ j : Nat, j < 16 → 0 ≤ (fA_says j).toInt ∧ (fA_says j).toInt ≤ 1) (r_A : ∀ j : Nat, j < 16 → fA_says j = 0 → 0 ≤ (fA_olds j).toInt ∧ (fA_olds j).toInt ≤ 3)  : Met l yX6_say (Cond.code yX6_say cX6_say 3 (some .boolean) :: wG) ({ frames := 3, cells := 0, slots := 0, locals := 63 }) (va_Pc [.ref oK, .int p0, .int p1] (Pw dC dI sz [(oc6 oK oR oC oS oT rK_images iK_imageCount oA oH oL iK_refusal iK_latestFault iK_latestPlace), (oc1 oC iC_nodes iC_words iC_chances iC_unsures iC_slips iC_throneNode iC_saidWorth iC_unit rC_kind rC_parts rC_partNodes rC_weights rC_weightSums rC_toldWorths rC_steps rC_below rC_above rC_unsureWords rC_unsureWorths), (arI rC_kind kC_kind 18 fC_kind), (oc5 oS rS_worths rS_order rS_left), (arI rS_worths kS_worths 18 fS_worths), (oc0 oA iA_count rA_nodes rA_olds rA_says), (arI rA_nodes kA_nodes 16 fA_nodes), (arI rA_olds kA_olds 16 fA_olds), (arI rA_says kA_says 16 fA_says)] [(kC_kind, .int), (kS_worths, .int), (kA_nodes, .int), (kA_olds, .int), (kA_says, .boolean)])) (va_Qi (fun (r : Int32) (u : Nat) => ((r = 0 ∨ r = 1) ∧ True) ∧ r = Int32.ofNat u) (fun (u : Nat) (t : State) => ∃ (niK_refusal : Int32) (nfS_worths : Nat → Int32) (niA_count : Int32) (nfA_nodes : Nat → Int32) (nfA_olds : Nat → Int32) (nfA_says : Nat → Int32), (0 ≤ niA_count.toInt ∧ niA_count.toInt ≤ 16) ∧ (∀ j : Nat, j < 16 → 0 ≤ (nfA_nodes j).toInt ∧ (nfA_nodes j).toInt ≤ 17) ∧ (∀ j : Nat, j < 16 → 0 ≤ (nfA_says j).toInt ∧ (nfA_says j).toInt ≤ 1) ∧ (PX6_say iC_nodes fC_kind fS_worths iA_count fA_nodes fA_olds fA_says p0 p1 = (Int32.ofNat u, niK_refusal, nfS_worths, niA_count, nfA_nodes, nfA_olds, nfA_says)) ∧ Bw dC dI (va_A [(oc6 oK oR oC oS oT rK_images iK_imageCount oA oH oL iK_refusal iK_latestFault iK_latestPlace), (oc1 oC iC_nodes iC_words iC_chances iC_unsures iC_slips iC_throneNode iC_saidWorth iC_unit rC_kind rC_parts rC_partNodes rC_weights rC_weightSums rC_toldWorths rC_steps rC_below rC_above rC_unsureWords rC_unsureWorths), (arI rC_kind kC_kind 18 fC_kind), (oc5 oS rS_worths rS_order rS_left), (arI rS_worths kS_worths 18 fS_worths), (oc0 oA iA_count rA_nodes rA_olds rA_says), (arI rA_nodes kA_nodes 16 fA_nodes), (arI rA_olds kA_olds 16 fA_olds), (arI rA_says kA_says 16 fA_says)] sz) [(oc6 oK oR oC oS oT rK_images iK_imageCount oA oH oL niK_refusal iK_latestFault iK_latestPlace), (oc1 oC iC_nodes iC_words iC_chances iC_unsures iC_slips iC_throneNode iC_saidWorth iC_unit rC_kind rC_parts rC_partNodes rC_weights rC_weightSums rC_toldWorths rC_steps rC_below rC_above rC_unsureWords rC_unsureWorths), (arI rC_kind kC_kind 18 fC_kind), (oc5 oS rS_worths rS_order rS_left), (arI rS_worths kS_worths 18 nfS_worths), (oc0 oA niA_count rA_nodes rA_olds rA_says), (arI rA_nodes kA_nodes 16 nfA_nodes), (arI rA_olds kA_olds 16 nfA_olds), (arI rA_says kA_says 16 nfA_says)] [(kC_kind, .int), (kS_worths, .int), (kA_nodes, .int), (kA_olds, .int), (kA_says, .boolean)] t) (va_A [(oc6 oK oR oC oS oT rK_images iK_imageCount oA oH oL iK_refusal iK_latestFault iK_latestPlace), (oc1 oC iC_nodes iC_words iC_chances iC_unsures iC_slips iC_throneNode iC_saidWorth iC_unit rC_kind rC_parts rC_partNodes rC_weights rC_weightSums rC_toldWorths rC_steps rC_below rC_above rC_unsureWords rC_unsureWorths), (arI rC_kind kC_kind 18 fC_kind), (oc5 oS rS_worths rS_order rS_left), (arI rS_worths kS_worths 18 fS_worths), (oc0 oA iA_count rA_nodes rA_olds rA_says), (arI rA_nodes kA_nodes 16 fA_nodes), (arI rA_olds kA_olds 16 fA_olds), (arI rA_says kA_says 16 fA_says)] sz)) 0 0 (va_A [(oc6 oK oR oC oS oT rK_images iK_imageCount oA oH oL iK_refusal iK_latestFault iK_latestPlace), (oc1 oC iC_nodes iC_words iC_chances iC_unsures iC_slips iC_throneNode iC_saidWorth iC_unit rC_kind rC_parts rC_partNodes rC_weights rC_weightSums rC_toldWorths rC_steps rC_below rC_above rC_unsureWords rC_unsureWorths), (arI rC_kind kC_kind 18 fC_kind), (oc5 oS rS_worths rS_order rS_left), (arI rS_worths kS_worths 18 fS_worths), (oc0 oA iA_count rA_nodes rA_olds rA_says), (arI rA_nodes kA_nodes 16 fA_nodes), (arI rA_olds kA_olds 16 fA_olds), (arI rA_says kA_says 16 fA_says)] sz) := by
  refine Met.ofW (cc := cX6_say) (maxL := 3) (ret := (some .boolean)) pnX6 rfl ?_
  intro p e s m args below meth c s₁ B hml hv
  obtain ⟨rfl, hsz, hP, hK, hD0, hE⟩ := hv
  have hx := B.exec
  have hb := B.bytes
  have hr := B.returns
  have hts : ∀ w ∈ wG, w.before ([.ref oK, .int p0, .int p1] : List Value).toArray s = true := fun w h => atoms_spec (ws := Cond.code yX6_say cX6_say 3 (some .boolean) :: wG) B.pre w (List.mem_cons_of_mem _ h)
  have hown : s.vm.findClass RX6 = some m.cls := own_of B.named rfl
  have hlocks := B.notSynchronized
  subst hsz
  have hD := hD0.self (sz := s.heap.size)
  generalize hAe : va_A [(oc6 oK oR oC oS oT rK_images iK_imageCount oA oH oL iK_refusal iK_latestFault iK_latestPlace), (oc1 oC iC_nodes iC_words iC_chances iC_unsures iC_slips iC_throneNode iC_saidWorth iC_unit rC_kind rC_parts rC_partNodes rC_weights rC_weightSums rC_toldWorths rC_steps rC_below rC_above rC_unsureWords rC_unsureWorths), (arI rC_kind kC_kind 18 fC_kind), (oc5 oS rS_worths rS_order rS_left), (arI rS_worths kS_worths 18 fS_worths), (oc0 oA iA_count rA_nodes rA_olds rA_says), (arI rA_nodes kA_nodes 16 fA_nodes), (arI rA_olds kA_olds 16 fA_olds), (arI rA_says kA_says 16 fA_says)] s.heap.size = A at hD hE ⊢
  have hA : ∀ q : Nat, s.heap.size ≤ q → A q := fun q h => by rw [← hAe]; exact Or.inr h
  have hS : va_S A s.heap s.heap [] := va_S.rf
  have hl := lv_entry ([.ref oK, .int p0, .int p1]) (n := 3) (Nat.le_of_ble_eq_true rfl)
  rw [lg_entry_eq]
  generalize (lg_sl ([.ref oK, .int p0, .int p1]) ++ List.replicate (3 - (lg_sl ([.ref oK, .int p0, .int p1])).length) Slot.unset).toArray = ls at hl ⊢
  have hl : lv_has ls 3 [(0, .ref oK), (1, .int p0), (2, .int p1)] := hl
  have hG := PX6_say_eq iC_nodes fC_kind fS_worths iA_count fA_nodes fA_olds fA_says p0 p1
  refine lv_aload_n hx hb dX6_say_0 rfl (lv_at hl 0 rfl) ?_
  refine lv_iload_n hx hb dX6_say_1 rfl (lv_at hl 1 rfl) ?_
  have hMs := ml_of hD [true, true, true, false, false, false, false, false, false] (wc := [(oc6 oK oR oC oS oT rK_images iK_imageCount oA oH oL iK_refusal iK_latestFault iK_latestPlace), (oc1 oC iC_nodes iC_words iC_chances iC_unsures iC_slips iC_throneNode iC_saidWorth iC_unit rC_kind rC_parts rC_partNodes rC_weights rC_weightSums rC_toldWorths rC_steps rC_below rC_above rC_unsureWords rC_unsureWorths), (arI rC_kind kC_kind 18 fC_kind)]) rfl
  have hFc := va_freeM hD hS hA _ hMs
  refine va_calli (va_runV (As := [.int p0]) (rest := []) ⟨hx, hb, hml, hown, hts⟩ (tX6_lacksWord l dC dI _ oK oR oC oS oT rK_images iK_imageCount oA oH oL iK_refusal iK_latestFault iK_latestPlace iC_nodes iC_words iC_chances iC_unsures iC_slips iC_throneNode iC_saidWorth iC_unit rC_kind fC_kind kC_kind rC_parts rC_partNodes rC_weights rC_weightSums rC_toldWorths rC_steps rC_below rC_above rC_unsureWords rC_unsureWorths p0 b_iK_imageCount b_iC_nodes b_iC_unsures b_iC_throneNode) (cwV 1 hts (wd_V wd_1116 wd_1117 wd_1118 wd_2 (wd_c wd_1119)) rfl rfl rfl dv_yX6_lacksWord_1 ⟨Nat.le_of_ble_eq_true rfl, Nat.le_of_ble_eq_true rfl⟩) ⟨Pw.fb, recvX6 hK hP (q0 := 0) rfl, fun U hU hW => Pw.to (hP.ms _ hMs) (hD.ms _ hMs) (hK.ms [true, false, false, false, false] rfl) hE hS hFc hU hW⟩ rfl rfl hl.1 rfl (lv_room (Nat.le_of_ble_eq_true rfl)) dX6_say_2 ⟨Nat.le_of_ble_eq_true rfl, Nat.le_of_ble_eq_true rfl⟩) hS (fun q _ h => hFc q h) hFc (fun r u t H locs ht hvm hw hB hz1 hk1 hS => ?_)
  have hru9 := hw.2
  have hw := hw.1
  refine ex_1_2 hB (fun x_6559 b_x_6559 e_x_6559_0 hB => ?_)
  obtain ⟨hP, hD⟩ := Bw.goN (ws' := [(oc6 oK oR oC oS oT rK_images iK_imageCount oA oH oL x_6559 iK_latestFault iK_latestPlace), (oc1 oC iC_nodes iC_words iC_chances iC_unsures iC_slips iC_throneNode iC_saidWorth iC_unit rC_kind rC_parts rC_partNodes rC_weights rC_weightSums rC_toldWorths rC_steps rC_below rC_above rC_unsureWords rC_unsureWorths), (arI rC_kind kC_kind 18 fC_kind), (oc5 oS rS_worths rS_order rS_left), (arI rS_worths kS_worths 18 fS_worths), (oc0 oA iA_count rA_nodes rA_olds rA_says), (arI rA_nodes kA_nodes 16 fA_nodes), (arI rA_olds kA_olds 16 fA_olds), (arI rA_says kA_says 16 fA_says)]) hB rfl ht hP hD _ hMs hk1 hFc rfl
  clear hz1 hk1 hvm ht hB hMs
  rw [← hru9] at e_x_6559_0
  rcases hw.2 with ⟨rfl, hc_6560⟩ | ⟨rfl, hc_6560⟩
  · skip
    have hG := hG.trans (un2_eq e_x_6559_0)
    have hG := hG.trans (if_pos rfl)
    refine lv_if_ne (tgt := 19) hx hb dX6_say_5 (by decide) (fun c => absurd c (by decide)) (fun _ => ?_)
    refine lv_aload_n hx hb dX6_say_8 rfl (lv_at hl 0 rfl) ?_
    refine lv_iload_n hx hb dX6_say_9 rfl (lv_at hl 2 rfl) ?_
    refine lv_iconst (v := 0) hx hb dX6_say_10 (by decide) ?_
    refine lv_bipush (v := 99) hx hb dX6_say_11 (by decide) ?_
    have hMs := ml_of hD [true, true, false, false, false, false, false, false, false] (wc := [(oc6 oK oR oC oS oT rK_images iK_imageCount oA oH oL x_6559 iK_latestFault iK_latestPlace), (oc1 oC iC_nodes iC_words iC_chances iC_unsures iC_slips iC_throneNode iC_saidWorth iC_unit rC_kind rC_parts rC_partNodes rC_weights rC_weightSums rC_toldWorths rC_steps rC_below rC_above rC_unsureWords rC_unsureWorths)]) rfl
    have hFc := va_freeM hD hS hA _ hMs
    refine va_calli (va_runV (As := [.int p1, .int 0, .int 99]) (rest := []) ⟨hx, hb, hml, hown, hts⟩ (tX6_lacksNumber l dC dI _ oK oR oC oS oT rK_images iK_imageCount oA oH oL x_6559 iK_latestFault iK_latestPlace iC_nodes iC_words iC_chances iC_unsures iC_slips iC_throneNode iC_saidWorth iC_unit rC_kind rC_parts rC_partNodes rC_weights rC_weightSums rC_toldWorths rC_steps rC_below rC_above rC_unsureWords rC_unsureWorths p1 0 99 b_iK_imageCount b_iC_nodes b_iC_unsures b_iC_throneNode) (cwV 3 hts (wd_V wd_866 wd_867 wd_868 wd_2 (wd_c wd_869)) rfl rfl rfl dv_yX6_lacksNumber_3 ⟨Nat.le_of_ble_eq_true rfl, Nat.le_of_ble_eq_true rfl⟩) ⟨Pw.fb, recvX6 hK hP (q0 := 0) rfl, fun U hU hW => Pw.to (hP.ms _ hMs) (hD.ms _ hMs) (hK.ms [false, false, false, false, false] rfl) hE hS hFc hU hW⟩ rfl rfl hl.1 rfl (lv_room (Nat.le_of_ble_eq_true rfl)) dX6_say_13 ⟨Nat.le_of_ble_eq_true rfl, Nat.le_of_ble_eq_true rfl⟩) hS (fun q _ h => hFc q h) hFc (fun r u t H locs ht hvm hw hB hz1 hk1 hS => ?_)
    have hru9 := hw.2
    have hw := hw.1
    refine ex_1_1 hB (fun x_6563 e_x_6563_0 hB => ?_)
    obtain ⟨hP, hD⟩ := Bw.goN (ws' := [(oc6 oK oR oC oS oT rK_images iK_imageCount oA oH oL x_6563 iK_latestFault iK_latestPlace), (oc1 oC iC_nodes iC_words iC_chances iC_unsures iC_slips iC_throneNode iC_saidWorth iC_unit rC_kind rC_parts rC_partNodes rC_weights rC_weightSums rC_toldWorths rC_steps rC_below rC_above rC_unsureWords rC_unsureWorths), (arI rC_kind kC_kind 18 fC_kind), (oc5 oS rS_worths rS_order rS_left), (arI rS_worths kS_worths 18 fS_worths), (oc0 oA iA_count rA_nodes rA_olds rA_says), (arI rA_nodes kA_nodes 16 fA_nodes), (arI rA_olds kA_olds 16 fA_olds), (arI rA_says kA_says 16 fA_says)]) hB rfl ht hP hD _ hMs hk1 hFc rfl
    clear hz1 hk1 hvm ht hB hMs
    rw [← hru9] at e_x_6563_0
    rcases hw.2 with ⟨rfl, hc_6564⟩ | ⟨rfl, hc_6564⟩
    · skip
      have hG := hG.trans (un2_eq e_x_6563_0)
      have hG := hG.trans (if_pos rfl)
      refine lv_if_eq (tgt := 21) hx hb dX6_say_16 (by decide) (fun _ => ?_) (fun c => absurd c (by decide))
      refine lv_aload_n hx hb dX6_say_21 rfl (lv_at hl 0 rfl) ?_
      refine va_get (D := (dC, dI)) (ci := 6) (v := .ref oS) (C := RX6) (T := TX6) (N := 12) hx hb hts inX6 hown hK hP 0 rfl rfl 2 (by decide) (hts _ wd_24) (fun _ h9 => h9) rfl dX6_say_22 ?_
      refine va_get (D := (dC, dI)) (ci := 5) (v := .ref rS_worths) (C := RX5) (T := TX5) (N := 3) hx hb hts inX5 hown hK hP 3 rfl rfl 0 (by decide) (hts _ wd_609) (fun _ h9 => h9) rfl dX6_say_25 ?_
      refine lv_iload_n hx hb dX6_say_28 rfl (lv_at hl 1 rfl) ?_
      refine va_iald hx hb hK hP 4 1 rfl rfl (ti_in rfl hc_6560.1 (om_97cd4a7c b_iC_nodes.2 hc_6560.2)) dX6_say_29 ?_
      refine lv_topi (fun x_6567 ex_6567 => ?_)
      have hG := hG.trans (lt_eq ex_6567)
      have kx_6567 : (fS_worths p0.toNatClampNeg).toInt = x_6567.toInt := by rw [ex_6567]
      refine lv_iload_n hx hb dX6_say_30 rfl (lv_at hl 2 rfl) ?_
      refine lv_icmp_ne (tgt := 41) hx hb dX6_say_31 (by decide) (fun c_6568 => ?_) (fun c_6568 => ?_)
      · skip
        have hG := hG.trans (if_neg c_6568)
        have gc_6568 := ti_ne c_6568 rfl rfl
        refine lv_aload_n hx hb dX6_say_41 rfl (lv_at hl 0 rfl) ?_
        refine va_get (D := (dC, dI)) (ci := 6) (v := .ref oA) (C := RX6) (T := TX6) (N := 12) hx hb hts inX6 hown hK hP 0 rfl rfl 6 (by decide) (hts _ wd_30) (fun _ h9 => h9) rfl dX6_say_42 ?_
        refine lv_iload_n hx hb dX6_say_45 rfl (lv_at hl 1 rfl) ?_
        refine lv_aload_n hx hb dX6_say_46 rfl (lv_at hl 0 rfl) ?_
        refine va_get (D := (dC, dI)) (ci := 6) (v := .ref oS) (C := RX6) (T := TX6) (N := 12) hx hb hts inX6 hown hK hP 0 rfl rfl 2 (by decide) (hts _ wd_24) (fun _ h9 => h9) rfl dX6_say_47 ?_
        refine va_get (D := (dC, dI)) (ci := 5) (v := .ref rS_worths) (C := RX5) (T := TX5) (N := 3) hx hb hts inX5 hown hK hP 3 rfl rfl 0 (by decide) (hts _ wd_609) (fun _ h9 => h9) rfl dX6_say_50 ?_
        refine lv_iload_n hx hb dX6_say_53 rfl (lv_at hl 1 rfl) ?_
        refine va_iald hx hb hK hP 4 1 rfl rfl (ti_in rfl hc_6560.1 (om_97cd4a7c b_iC_nodes.2 hc_6560.2)) dX6_say_54 ?_
        refine lv_topi (fun x_6569 ex_6569 => ?_)
        have hG := hG.trans (lt_eq ex_6569)
        have kx_6569 : (fS_worths p0.toNatClampNeg).toInt = x_6569.toInt := by rw [ex_6569]
        refine lv_iconst (v := 1) hx hb dX6_say_55 (by decide) ?_
        have hMs := ml_of hD [false, false, false, false, false, true, true, true, true] (wc := [(oc0 oA iA_count rA_nodes rA_olds rA_says), (arI rA_nodes kA_nodes 16 fA_nodes), (arI rA_olds kA_olds 16 fA_olds), (arI rA_says kA_says 16 fA_says)]) rfl
        have hFc := va_freeM hD hS hA _ hMs
        refine va_callv (va_runV (As := [.int p0, .int x_6569, .int 1]) (rest := []) ⟨hx, hb, hml, hown, hts⟩ (tX0_keep l dC dI _ oA iA_count rA_nodes fA_nodes kA_nodes rA_olds fA_olds kA_olds rA_says fA_says kA_says p0 x_6569 1 b_iA_count a_fA_nodes a_fA_says (by assumption) ⟨hc_6560.1, (om_525c5d3e b_iC_nodes.2 hc_6560.2)⟩ ⟨(om_1b364b1c kc_1), (om_02032f93 kc_1)⟩ (by first | assumption | (have q0 := kc_0; have q1 := kc_1; first | exact ⟨by omega, by omega⟩ | omega) | decide | (intro h; exact absurd h (by decide)))) (cwV 3 hts (wd_V wd_1365 wd_1366 wd_1367 wd_29 (wd_c wd_1368)) rfl rfl rfl dv_yX0_keep_3 ⟨Nat.le_of_ble_eq_true rfl, Nat.le_of_ble_eq_true rfl⟩) ⟨Pw.fb, recvX0 hK hP (q0 := 5) rfl, fun U hU hW => Pw.to (hP.ms _ hMs) (hD.ms _ hMs) (hK.ms [false, false, true, true, true] rfl) hE hS hFc hU hW⟩ rfl rfl hl.1 rfl (lv_room (Nat.le_of_ble_eq_true rfl)) dX6_say_56 ⟨Nat.le_of_ble_eq_true rfl, Nat.le_of_ble_eq_true rfl⟩) hS (fun q _ h => hFc q h) hFc (fun u t H locs ht hvm hw hB hz1 hk1 hS => ?_)
        refine ex_4_5 hB (fun x_6570 f_6571 f_6572 f_6573 b_x_6570 a_f_6571 a_f_6573 e_x_6570_0 e_x_6570_1 hB => ?_)
        obtain ⟨hP, hD⟩ := Bw.goN (ws' := [(oc6 oK oR oC oS oT rK_images iK_imageCount oA oH oL x_6563 iK_latestFault iK_latestPlace), (oc1 oC iC_nodes iC_words iC_chances iC_unsures iC_slips iC_throneNode iC_saidWorth iC_unit rC_kind rC_parts rC_partNodes rC_weights rC_weightSums rC_toldWorths rC_steps rC_below rC_above rC_unsureWords rC_unsureWorths), (arI rC_kind kC_kind 18 fC_kind), (oc5 oS rS_worths rS_order rS_left), (arI rS_worths kS_worths 18 fS_worths), (oc0 oA x_6570 rA_nodes rA_olds rA_says), (arI rA_nodes kA_nodes 16 f_6571), (arI rA_olds kA_olds 16 f_6572), (arI rA_says kA_says 16 f_6573)]) hB rfl ht hP hD _ hMs hk1 hFc rfl
        clear hz1 hk1 hvm ht hB hMs
        have hG := hG.trans (un4_eq e_x_6570_1)
        refine lv_aload_n hx hb dX6_say_59 rfl (lv_at hl 0 rfl) ?_
        refine va_get (D := (dC, dI)) (ci := 6) (v := .ref oS) (C := RX6) (T := TX6) (N := 12) hx hb hts inX6 hown hK hP 0 rfl rfl 2 (by decide) (hts _ wd_24) (fun _ h9 => h9) rfl dX6_say_60 ?_
        refine va_get (D := (dC, dI)) (ci := 5) (v := .ref rS_worths) (C := RX5) (T := TX5) (N := 3) hx hb hts inX5 hown hK hP 3 rfl rfl 0 (by decide) (hts _ wd_609) (fun _ h9 => h9) rfl dX6_say_63 ?_
        refine lv_iload_n hx hb dX6_say_66 rfl (lv_at hl 1 rfl) ?_
        refine lv_iload_n hx hb dX6_say_67 rfl (lv_at hl 2 rfl) ?_
        refine va_iast hx hb hK hP hD hS 4 1 rfl rfl (ti_in rfl hc_6560.1 (om_97cd4a7c b_iC_nodes.2 hc_6560.2)) dX6_say_68 (fun H locs hP hD hS => ?_)
        obtain ⟨f_6575, ef_6575⟩ : ∃ g : Nat → Int32, g = upd fS_worths p0.toNatClampNeg p1 := ⟨_, rfl⟩
        rw [← ef_6575] at hP hD
        have hG := hG.trans (lt_eq ef_6575)
        obtain ⟨hP, hD⟩ := wl2 (ws' := [(oc6 oK oR oC oS oT rK_images iK_imageCount oA oH oL x_6563 iK_latestFault iK_latestPlace), (oc1 oC iC_nodes iC_words iC_chances iC_unsures iC_slips iC_throneNode iC_saidWorth iC_unit rC_kind rC_parts rC_partNodes rC_weights rC_weightSums rC_toldWorths rC_steps rC_below rC_above rC_unsureWords rC_unsureWorths), (arI rC_kind kC_kind 18 fC_kind), (oc5 oS rS_worths rS_order rS_left), (arI rS_worths kS_worths 18 f_6575), (oc0 oA x_6570 rA_nodes rA_olds rA_says), (arI rA_nodes kA_nodes 16 f_6571), (arI rA_olds kA_olds 16 f_6572), (arI rA_says kA_says 16 f_6573)]) hP hD rfl
        refine lv_iconst (v := 1) hx hb dX6_say_69 (by decide) ?_
        exact wq_z (v := 1) hx hb hr rfl (cI 1) ⟨⟨Or.inr rfl, trivial⟩, (cI_of 1)⟩ (fun t ht hW => ⟨x_6563, f_6575, x_6570, f_6571, f_6572, f_6573, b_x_6570, a_f_6571, a_f_6573, (cI_tup hG), Bw.to hP hD hK ht hW⟩) hS dX6_say_70 hlocks
      · skip
        have hG := hG.trans (if_pos c_6568)
        have gc_6568 := ti_eq c_6568 rfl rfl
        refine lv_aload_n hx hb dX6_say_34 rfl (lv_at hl 0 rfl) ?_
        refine lv_iconst (v := 5) hx hb dX6_say_35 (by decide) ?_
        refine va_put (D := (dC, dI)) (ci := 6) (v := .int 5) (ty := .int) (C := RX6) (T := TX6) (N := 12) hx hb hts inX6 tyX6 tyX6_ok nmX6 hown hK hP hD hS 0 rfl rfl 9 (by decide) (hts _ wd_195) (fun _ h9 => h9) rfl (by decide +kernel) rfl rfl (Nat.le_of_ble_eq_true rfl) dX6_say_36 (fun H locs hP hD hS => ?_)
        obtain ⟨hP, hD⟩ := wl2 (ws' := [(oc6 oK oR oC oS oT rK_images iK_imageCount oA oH oL 5 iK_latestFault iK_latestPlace), (oc1 oC iC_nodes iC_words iC_chances iC_unsures iC_slips iC_throneNode iC_saidWorth iC_unit rC_kind rC_parts rC_partNodes rC_weights rC_weightSums rC_toldWorths rC_steps rC_below rC_above rC_unsureWords rC_unsureWorths), (arI rC_kind kC_kind 18 fC_kind), (oc5 oS rS_worths rS_order rS_left), (arI rS_worths kS_worths 18 fS_worths), (oc0 oA iA_count rA_nodes rA_olds rA_says), (arI rA_nodes kA_nodes 16 fA_nodes), (arI rA_olds kA_olds 16 fA_olds), (arI rA_says kA_says 16 fA_says)]) hP hD rfl
        refine lv_iconst (v := 0) hx hb dX6_say_39 (by decide) ?_
        exact wq_z (v := 0) hx hb hr rfl (cI 0) ⟨⟨Or.inl rfl, trivial⟩, (cI_of 0)⟩ (fun t ht hW => ⟨5, fS_worths, iA_count, fA_nodes, fA_olds, fA_says, b_iA_count, a_fA_nodes, a_fA_says, (cI_tup hG), Bw.to hP hD hK ht hW⟩) hS dX6_say_40 hlocks
    · skip
      have hG := hG.trans (un2_eq e_x_6563_0)
      have hG := hG.trans (if_neg (by decide))
      refine lv_if_eq (tgt := 21) hx hb dX6_say_16 (by decide) (fun c => absurd c (by decide)) (fun _ => ?_)
      refine lv_iconst (v := 0) hx hb dX6_say_19 (by decide) ?_
      exact wq_z (v := 0) hx hb hr rfl (cI 0) ⟨⟨Or.inl rfl, trivial⟩, (cI_of 0)⟩ (fun t ht hW => ⟨x_6563, fS_worths, iA_count, fA_nodes, fA_olds, fA_says, b_iA_count, a_fA_nodes, a_fA_says, (cI_tup hG), Bw.to hP hD hK ht hW⟩) hS dX6_say_20 hlocks
  · skip
    have hG := hG.trans (un2_eq e_x_6559_0)
    have hG := hG.trans (if_neg (by decide))
    refine lv_if_ne (tgt := 19) hx hb dX6_say_5 (by decide) (fun _ => ?_) (fun c => absurd c (by decide))
    refine lv_iconst (v := 0) hx hb dX6_say_19 (by decide) ?_
    exact wq_z (v := 0) hx hb hr rfl (cI 0) ⟨⟨Or.inl rfl, trivial⟩, (cI_of 0)⟩ (fun t ht hW => ⟨x_6559, fS_worths, iA_count, fA_nodes, fA_olds, fA_says, b_iA_count, a_fA_nodes, a_fA_says, (cI_tup hG), Bw.to hP hD hK ht hW⟩) hS dX6_say_20 hlocks
set_option maxHeartbeats 4000000 in
set_option maxRecDepth 100000 in
theorem tX6_front (l : Launch) (dC : Nat → ClassId) (dI : Nat → Nat → Nat) (sz : Nat) (oK : Nat) (oR : Nat) (oC : Nat) (oS : Nat) (oT : Nat) (rK_images : Nat) (iK_imageCount : Int32) (oA : Nat) (oH : Nat) (oL : Nat) (iK_refusal : Int32) (iK_latestFault : Int32) (iK_latestPlace : Int32) (iC_nodes : Int32) (iC_words : Int32) (iC_chances : Int32) (iC_unsures : Int32) (iC_slips : Int32) (iC_throneNode : Int32) (iC_saidWorth : Int32) (iC_unit : Int32) (rC_kind : Nat) (rC_parts : Nat) (fC_parts : Nat → Int32) (kC_parts : ClassId) (rC_partNodes : Nat) (fC_partNodes : Nat → Int32) (kC_partNodes : ClassId) (rC_weights : Nat) (rC_weightSums : Nat) (rC_toldWorths : Nat) (rC_steps : Nat) (rC_below : Nat) (rC_above : Nat) (rC_unsureWords : Nat) (rC_unsureWorths : Nat) (rS_worths : Nat) (rS_order : Nat) (fS_order : Nat → Int32) (kS_order : ClassId) (rS_left : Nat) (iA_count : Int32) (rA_nodes : Nat) (fA_nodes : Nat → Int32) (kA_nodes : ClassId) (rA_olds : Nat) (fA_olds : Nat → Int32) (kA_olds : ClassId) (rA_says : Nat) (fA_says : Nat → Int32) (kA_says : ClassId) (p0 : Int32) (p1 : Int32) (b_iK_imageCount : 0 ≤ iK_imageCount.toInt ∧ iK_imageCount.toInt ≤ 3) (b_iC_nodes : 0 ≤ iC_nodes.toInt ∧ iC_nodes.toInt ≤ 18) (b_iC_unsures : 0 ≤ iC_unsures.toInt ∧ iC_unsures.toInt ≤ 4) (b_iC_throneNode : (-1) ≤ iC_throneNode.toInt ∧ iC_throneNode.toInt ≤ 17) (a_fC_parts : ∀ j : Nat, j < 18 → 0 ≤ (fC_parts j).toInt ∧ (fC_parts j).toInt ≤ 4) (a_fC_partNodes : ∀ j : Nat, j < 72 → 0 ≤ (fC_partNodes j).toInt ∧ (fC_partNodes j).toInt ≤ 17) (a_fS_order : ∀ j : Nat, j < 72 → 0 ≤ (fS_order j).toInt ∧ (fS_order j).toInt ≤ 3) (b_iA_count : 0 ≤ iA_count.toInt ∧ iA_count.toInt ≤ 16) (a_fA_nodes : ∀ j : Nat, j < 16 → 0 ≤ (fA_nodes j).toInt ∧ (fA_nodes j).toInt ≤ 17) (a_fA_says : ∀ j : Nat, j < 16 → 0 ≤ (fA_says j).toInt ∧ (fA_says j).toInt ≤ 1) (r_A : ∀ j : Nat, j < 16 → fA_says j = 0 → 0 ≤ (fA_olds j).toInt ∧ (fA_olds j).toInt ≤ 3)  : Met l yX6_front (Cond.code yX6_front cX6_front 3 (some .int) :: wG) ({ frames := 2, cells := 0, slots := 0, locals := 44 }) (va_Pc [.ref oK, .int p0, .int p1] (Pw dC dI sz [(oc6 oK oR oC oS oT rK_images iK_imageCount oA oH oL iK_refusal iK_latestFault iK_latestPlace), (oc1 oC iC_nodes iC_words iC_chances iC_unsures iC_slips iC_throneNode iC_saidWorth iC_unit rC_kind rC_parts rC_partNodes rC_weights rC_weightSums rC_toldWorths rC_steps rC_below rC_above rC_unsureWords rC_unsureWorths), (arI rC_parts kC_parts 18 fC_parts), (arI rC_partNodes kC_partNodes 72 fC_partNodes), (oc5 oS rS_worths rS_order rS_left), (arI rS_order kS_order 72 fS_order), (oc0 oA iA_count rA_nodes rA_olds rA_says), (arI rA_nodes kA_nodes 16 fA_nodes), (arI rA_olds kA_olds 16 fA_olds), (arI rA_says kA_says 16 fA_says)] [(kC_parts, .int), (kC_partNodes, .int), (kS_order, .int), (kA_nodes, .int), (kA_olds, .int), (kA_says, .boolean)])) (va_Qi (fun (r : Int32) (u : Nat) => (True ∧ True) ∧ r = Int32.ofNat u) (fun (u : Nat) (t : State) => ∃ (niK_refusal : Int32) (nfS_order : Nat → Int32) (niA_count : Int32) (nfA_nodes : Nat → Int32) (nfA_olds : Nat → Int32) (nfA_says : Nat → Int32), (∀ j : Nat, j < 72 → 0 ≤ (nfS_order j).toInt ∧ (nfS_order j).toInt ≤ 3) ∧ (0 ≤ niA_count.toInt ∧ niA_count.toInt ≤ 16) ∧ (∀ j : Nat, j < 16 → 0 ≤ (nfA_nodes j).toInt ∧ (nfA_nodes j).toInt ≤ 17) ∧ (∀ j : Nat, j < 16 → 0 ≤ (nfA_says j).toInt ∧ (nfA_says j).toInt ≤ 1) ∧ (PX6_front iC_nodes fC_parts fC_partNodes fS_order iA_count fA_nodes fA_olds fA_says p0 p1 = (Int32.ofNat u, niK_refusal, nfS_order, niA_count, nfA_nodes, nfA_olds, nfA_says)) ∧ Bw dC dI (va_A [(oc6 oK oR oC oS oT rK_images iK_imageCount oA oH oL iK_refusal iK_latestFault iK_latestPlace), (oc1 oC iC_nodes iC_words iC_chances iC_unsures iC_slips iC_throneNode iC_saidWorth iC_unit rC_kind rC_parts rC_partNodes rC_weights rC_weightSums rC_toldWorths rC_steps rC_below rC_above rC_unsureWords rC_unsureWorths), (arI rC_parts kC_parts 18 fC_parts), (arI rC_partNodes kC_partNodes 72 fC_partNodes), (oc5 oS rS_worths rS_order rS_left), (arI rS_order kS_order 72 fS_order), (oc0 oA iA_count rA_nodes rA_olds rA_says), (arI rA_nodes kA_nodes 16 fA_nodes), (arI rA_olds kA_olds 16 fA_olds), (arI rA_says kA_says 16 fA_says)] sz) [(oc6 oK oR oC oS oT rK_images iK_imageCount oA oH oL niK_refusal iK_latestFault iK_latestPlace), (oc1 oC iC_nodes iC_words iC_chances iC_unsures iC_slips iC_throneNode iC_saidWorth iC_unit rC_kind rC_parts rC_partNodes rC_weights rC_weightSums rC_toldWorths rC_steps rC_below rC_above rC_unsureWords rC_unsureWorths), (arI rC_parts kC_parts 18 fC_parts), (arI rC_partNodes kC_partNodes 72 fC_partNodes), (oc5 oS rS_worths rS_order rS_left), (arI rS_order kS_order 72 nfS_order), (oc0 oA niA_count rA_nodes rA_olds rA_says), (arI rA_nodes kA_nodes 16 nfA_nodes), (arI rA_olds kA_olds 16 nfA_olds), (arI rA_says kA_says 16 nfA_says)] [(kC_parts, .int), (kC_partNodes, .int), (kS_order, .int), (kA_nodes, .int), (kA_olds, .int), (kA_says, .boolean)] t) (va_A [(oc6 oK oR oC oS oT rK_images iK_imageCount oA oH oL iK_refusal iK_latestFault iK_latestPlace), (oc1 oC iC_nodes iC_words iC_chances iC_unsures iC_slips iC_throneNode iC_saidWorth iC_unit rC_kind rC_parts rC_partNodes rC_weights rC_weightSums rC_toldWorths rC_steps rC_below rC_above rC_unsureWords rC_unsureWorths), (arI rC_parts kC_parts 18 fC_parts), (arI rC_partNodes kC_partNodes 72 fC_partNodes), (oc5 oS rS_worths rS_order rS_left), (arI rS_order kS_order 72 fS_order), (oc0 oA iA_count rA_nodes rA_olds rA_says), (arI rA_nodes kA_nodes 16 fA_nodes), (arI rA_olds kA_olds 16 fA_olds), (arI rA_says kA_says 16 fA_says)] sz)) 0 0 (va_A [(oc6 oK oR oC oS oT rK_images iK_imageCount oA oH oL iK_refusal iK_latestFault iK_latestPlace), (oc1 oC iC_nodes iC_words iC_chances iC_unsures iC_slips iC_throneNode iC_saidWorth iC_unit rC_kind rC_parts rC_partNodes rC_weights rC_weightSums rC_toldWorths rC_steps rC_below rC_above rC_unsureWords rC_unsureWorths), (arI rC_parts kC_parts 18 fC_parts), (arI rC_partNodes kC_partNodes 72 fC_partNodes), (oc5 oS rS_worths rS_order rS_left), (arI rS_order kS_order 72 fS_order), (oc0 oA iA_count rA_nodes rA_olds rA_says), (arI rA_nodes kA_nodes 16 fA_nodes), (arI rA_olds kA_olds 16 fA_olds), (arI rA_says kA_says 16 fA_says)] sz) := by
  refine Met.ofW (cc := cX6_front) (maxL := 3) (ret := (some .int)) pnX6 rfl ?_
  intro p e s m args below meth c s₁ B hml hv
  obtain ⟨rfl, hsz, hP, hK, hD0, hE⟩ := hv
  have hx := B.exec
  have hb := B.bytes
  have hr := B.returns
  have hts : ∀ w ∈ wG, w.before ([.ref oK, .int p0, .int p1] : List Value).toArray s = true := fun w h => atoms_spec (ws := Cond.code yX6_front cX6_front 3 (some .int) :: wG) B.pre w (List.mem_cons_of_mem _ h)
  have hown : s.vm.findClass RX6 = some m.cls := own_of B.named rfl
  have hlocks := B.notSynchronized
  subst hsz
  have hD := hD0.self (sz := s.heap.size)
  generalize hAe : va_A [(oc6 oK oR oC oS oT rK_images iK_imageCount oA oH oL iK_refusal iK_latestFault iK_latestPlace), (oc1 oC iC_nodes iC_words iC_chances iC_unsures iC_slips iC_throneNode iC_saidWorth iC_unit rC_kind rC_parts rC_partNodes rC_weights rC_weightSums rC_toldWorths rC_steps rC_below rC_above rC_unsureWords rC_unsureWorths), (arI rC_parts kC_parts 18 fC_parts), (arI rC_partNodes kC_partNodes 72 fC_partNodes), (oc5 oS rS_worths rS_order rS_left), (arI rS_order kS_order 72 fS_order), (oc0 oA iA_count rA_nodes rA_olds rA_says), (arI rA_nodes kA_nodes 16 fA_nodes), (arI rA_olds kA_olds 16 fA_olds), (arI rA_says kA_says 16 fA_says)] s.heap.size = A at hD hE ⊢
  have hA : ∀ q : Nat, s.heap.size ≤ q → A q := fun q h => by rw [← hAe]; exact Or.inr h
  have hS : va_S A s.heap s.heap [] := va_S.rf
  have hl := lv_entry ([.ref oK, .int p0, .int p1]) (n := 3) (Nat.le_of_ble_eq_true rfl)
  rw [lg_entry_eq]
  generalize (lg_sl ([.ref oK, .int p0, .int p1]) ++ List.replicate (3 - (lg_sl ([.ref oK, .int p0, .int p1])).length) Slot.unset).toArray = ls at hl ⊢
  have hl : lv_has ls 3 [(0, .ref oK), (1, .int p0), (2, .int p1)] := hl
  have hG := PX6_front_eq iC_nodes fC_parts fC_partNodes fS_order iA_count fA_nodes fA_olds fA_says p0 p1
  refine lv_aload_n hx hb dX6_front_0 rfl (lv_at hl 0 rfl) ?_
  refine lv_iload_n hx hb dX6_front_1 rfl (lv_at hl 1 rfl) ?_
  refine lv_iload_n hx hb dX6_front_2 rfl (lv_at hl 2 rfl) ?_
  have hMs := ml_of hD [true, true, true, false, false, false, false, false, false, false] (wc := [(oc6 oK oR oC oS oT rK_images iK_imageCount oA oH oL iK_refusal iK_latestFault iK_latestPlace), (oc1 oC iC_nodes iC_words iC_chances iC_unsures iC_slips iC_throneNode iC_saidWorth iC_unit rC_kind rC_parts rC_partNodes rC_weights rC_weightSums rC_toldWorths rC_steps rC_below rC_above rC_unsureWords rC_unsureWorths), (arI rC_parts kC_parts 18 fC_parts)]) rfl
  have hFc := va_freeM hD hS hA _ hMs
  refine va_calli (va_runV (As := [.int p0, .int p1]) (rest := []) ⟨hx, hb, hml, hown, hts⟩ (tX6_lacksPart l dC dI _ oK oR oC oS oT rK_images iK_imageCount oA oH oL iK_refusal iK_latestFault iK_latestPlace iC_nodes iC_words iC_chances iC_unsures iC_slips iC_throneNode iC_saidWorth iC_unit rC_kind rC_parts fC_parts kC_parts rC_partNodes rC_weights rC_weightSums rC_toldWorths rC_steps rC_below rC_above rC_unsureWords rC_unsureWorths p0 p1 b_iK_imageCount b_iC_nodes b_iC_unsures b_iC_throneNode a_fC_parts) (cwV 2 hts (wd_V wd_564 wd_565 wd_566 wd_2 (wd_c wd_567)) rfl rfl rfl dv_yX6_lacksPart_2 ⟨Nat.le_of_ble_eq_true rfl, Nat.le_of_ble_eq_true rfl⟩) ⟨Pw.fb, recvX6 hK hP (q0 := 0) rfl, fun U hU hW => Pw.to (hP.ms _ hMs) (hD.ms _ hMs) (hK.ms [true, false, false, false, false, false] rfl) hE hS hFc hU hW⟩ rfl rfl hl.1 rfl (lv_room (Nat.le_of_ble_eq_true rfl)) dX6_front_3 ⟨Nat.le_of_ble_eq_true rfl, Nat.le_of_ble_eq_true rfl⟩) hS (fun q _ h => hFc q h) hFc (fun r u t H locs ht hvm hw hB hz1 hk1 hS => ?_)
  have hru9 := hw.2
  have hw := hw.1
  refine ex_1_2 hB (fun x_6591 b_x_6591 e_x_6591_0 hB => ?_)
  obtain ⟨hP, hD⟩ := Bw.goN (ws' := [(oc6 oK oR oC oS oT rK_images iK_imageCount oA oH oL x_6591 iK_latestFault iK_latestPlace), (oc1 oC iC_nodes iC_words iC_chances iC_unsures iC_slips iC_throneNode iC_saidWorth iC_unit rC_kind rC_parts rC_partNodes rC_weights rC_weightSums rC_toldWorths rC_steps rC_below rC_above rC_unsureWords rC_unsureWorths), (arI rC_parts kC_parts 18 fC_parts), (arI rC_partNodes kC_partNodes 72 fC_partNodes), (oc5 oS rS_worths rS_order rS_left), (arI rS_order kS_order 72 fS_order), (oc0 oA iA_count rA_nodes rA_olds rA_says), (arI rA_nodes kA_nodes 16 fA_nodes), (arI rA_olds kA_olds 16 fA_olds), (arI rA_says kA_says 16 fA_says)]) hB rfl ht hP hD _ hMs hk1 hFc rfl
  clear hz1 hk1 hvm ht hB hMs
  rw [← hru9] at e_x_6591_0
  rcases hw.2 with ⟨rfl, hc_6592⟩ | ⟨rfl, hc_6592⟩
  · skip
    have hG := hG.trans (un2_eq e_x_6591_0)
    have hG := hG.trans (if_pos rfl)
    refine lv_if_eq (tgt := 11) hx hb dX6_front_6 (by decide) (fun _ => ?_) (fun c => absurd c (by decide))
    refine lv_iload_n hx hb dX6_front_11 rfl (lv_at hl 2 rfl) ?_
    refine lv_if_ne (tgt := 21) hx hb dX6_front_12 (by decide) (fun c_6595 => ?_) (fun c_6595 => ?_)
    · skip
      have hG := hG.trans (if_neg c_6595)
      have gc_6595 := ti_ne c_6595 rfl kc_0
      refine lv_aload_n hx hb dX6_front_21 rfl (lv_at hl 0 rfl) ?_
      refine va_get (D := (dC, dI)) (ci := 6) (v := .ref oA) (C := RX6) (T := TX6) (N := 12) hx hb hts inX6 hown hK hP 0 rfl rfl 6 (by decide) (hts _ wd_30) (fun _ h9 => h9) rfl dX6_front_22 ?_
      refine lv_iload_n hx hb dX6_front_25 rfl (lv_at hl 1 rfl) ?_
      refine lv_iload_n hx hb dX6_front_26 rfl (lv_at hl 2 rfl) ?_
      refine lv_iconst (v := 0) hx hb dX6_front_27 (by decide) ?_
      have hMs := ml_of hD [false, false, false, false, false, false, true, true, true, true] (wc := [(oc0 oA iA_count rA_nodes rA_olds rA_says), (arI rA_nodes kA_nodes 16 fA_nodes), (arI rA_olds kA_olds 16 fA_olds), (arI rA_says kA_says 16 fA_says)]) rfl
      have hFc := va_freeM hD hS hA _ hMs
      refine va_callv (va_runV (As := [.int p0, .int p1, .int 0]) (rest := []) ⟨hx, hb, hml, hown, hts⟩ (tX0_keep l dC dI _ oA iA_count rA_nodes fA_nodes kA_nodes rA_olds fA_olds kA_olds rA_says fA_says kA_says p0 p1 0 b_iA_count a_fA_nodes a_fA_says (by assumption) ⟨hc_6592.1, (om_525c5d3e b_iC_nodes.2 hc_6592.2.1)⟩ ⟨(om_b1de7dbe kc_0), (om_270f4ea0 kc_0)⟩ (by first | assumption | (have q0 := kc_0; have q1 := kc_1; first | exact ⟨by omega, by omega⟩ | omega) | decide | (intro h; exact absurd h (by decide)))) (cwV 3 hts (wd_V wd_1365 wd_1366 wd_1367 wd_29 (wd_c wd_1368)) rfl rfl rfl dv_yX0_keep_3 ⟨Nat.le_of_ble_eq_true rfl, Nat.le_of_ble_eq_true rfl⟩) ⟨Pw.fb, recvX0 hK hP (q0 := 6) rfl, fun U hU hW => Pw.to (hP.ms _ hMs) (hD.ms _ hMs) (hK.ms [false, false, false, true, true, true] rfl) hE hS hFc hU hW⟩ rfl rfl hl.1 rfl (lv_room (Nat.le_of_ble_eq_true rfl)) dX6_front_28 ⟨Nat.le_of_ble_eq_true rfl, Nat.le_of_ble_eq_true rfl⟩) hS (fun q _ h => hFc q h) hFc (fun u t H locs ht hvm hw hB hz1 hk1 hS => ?_)
      refine ex_4_5 hB (fun x_6596 f_6597 f_6598 f_6599 b_x_6596 a_f_6597 a_f_6599 e_x_6596_0 e_x_6596_1 hB => ?_)
      obtain ⟨hP, hD⟩ := Bw.goN (ws' := [(oc6 oK oR oC oS oT rK_images iK_imageCount oA oH oL x_6591 iK_latestFault iK_latestPlace), (oc1 oC iC_nodes iC_words iC_chances iC_unsures iC_slips iC_throneNode iC_saidWorth iC_unit rC_kind rC_parts rC_partNodes rC_weights rC_weightSums rC_toldWorths rC_steps rC_below rC_above rC_unsureWords rC_unsureWorths), (arI rC_parts kC_parts 18 fC_parts), (arI rC_partNodes kC_partNodes 72 fC_partNodes), (oc5 oS rS_worths rS_order rS_left), (arI rS_order kS_order 72 fS_order), (oc0 oA x_6596 rA_nodes rA_olds rA_says), (arI rA_nodes kA_nodes 16 f_6597), (arI rA_olds kA_olds 16 f_6598), (arI rA_says kA_says 16 f_6599)]) hB rfl ht hP hD _ hMs hk1 hFc rfl
      clear hz1 hk1 hvm ht hB hMs
      have hG := hG.trans (un4_eq e_x_6596_1)
      refine lv_aload_n hx hb dX6_front_31 rfl (lv_at hl 0 rfl) ?_
      refine va_get (D := (dC, dI)) (ci := 6) (v := .ref oS) (C := RX6) (T := TX6) (N := 12) hx hb hts inX6 hown hK hP 0 rfl rfl 2 (by decide) (hts _ wd_24) (fun _ h9 => h9) rfl dX6_front_32 ?_
      refine lv_iload_n hx hb dX6_front_35 rfl (lv_at hl 1 rfl) ?_
      refine lv_iload_n hx hb dX6_front_36 rfl (lv_at hl 2 rfl) ?_
      have hMs := ml_of hD [false, false, false, false, true, true, false, false, false, false] (wc := [(oc5 oS rS_worths rS_order rS_left), (arI rS_order kS_order 72 fS_order)]) rfl
      have hFc := va_freeM hD hS hA _ hMs
      refine va_callv (va_runV (As := [.int p0, .int p1]) (rest := []) ⟨hx, hb, hml, hown, hts⟩ (tX5_bringFirst l dC dI _ oS rS_worths rS_order fS_order kS_order rS_left p0 p1 a_fS_order ⟨hc_6592.1, (om_525c5d3e b_iC_nodes.2 hc_6592.2.1)⟩ ⟨hc_6592.2.2.1, hc_6592.2.2.2.2⟩) (cwV 2 hts (wd_V wd_1019 wd_1020 wd_1021 wd_23 (wd_c wd_1022)) rfl rfl rfl dv_yX5_bringFirst_2 ⟨Nat.le_of_ble_eq_true rfl, Nat.le_of_ble_eq_true rfl⟩) ⟨Pw.fb, recvX5 hK hP (q0 := 4) rfl, fun U hU hW => Pw.to (hP.ms _ hMs) (hD.ms _ hMs) (hK.ms [false, false, true, false, false, false] rfl) hE hS hFc hU hW⟩ rfl rfl hl.1 rfl (lv_room (Nat.le_of_ble_eq_true rfl)) dX6_front_37 ⟨Nat.le_of_ble_eq_true rfl, Nat.le_of_ble_eq_true rfl⟩) hS (fun q _ h => hFc q h) hFc (fun u t H locs ht hvm hw hB hz1 hk1 hS => ?_)
      refine ex_1_2 hB (fun f_6600 a_f_6600 e_f_6600_0 hB => ?_)
      obtain ⟨hP, hD⟩ := Bw.goN (ws' := [(oc6 oK oR oC oS oT rK_images iK_imageCount oA oH oL x_6591 iK_latestFault iK_latestPlace), (oc1 oC iC_nodes iC_words iC_chances iC_unsures iC_slips iC_throneNode iC_saidWorth iC_unit rC_kind rC_parts rC_partNodes rC_weights rC_weightSums rC_toldWorths rC_steps rC_below rC_above rC_unsureWords rC_unsureWorths), (arI rC_parts kC_parts 18 fC_parts), (arI rC_partNodes kC_partNodes 72 fC_partNodes), (oc5 oS rS_worths rS_order rS_left), (arI rS_order kS_order 72 f_6600), (oc0 oA x_6596 rA_nodes rA_olds rA_says), (arI rA_nodes kA_nodes 16 f_6597), (arI rA_olds kA_olds 16 f_6598), (arI rA_says kA_says 16 f_6599)]) hB rfl ht hP hD _ hMs hk1 hFc rfl
      clear hz1 hk1 hvm ht hB hMs
      have hG := hG.trans (lt_eq e_f_6600_0.symm)
      refine lv_aload_n hx hb dX6_front_40 rfl (lv_at hl 0 rfl) ?_
      refine va_get (D := (dC, dI)) (ci := 6) (v := .ref oS) (C := RX6) (T := TX6) (N := 12) hx hb hts inX6 hown hK hP 0 rfl rfl 2 (by decide) (hts _ wd_24) (fun _ h9 => h9) rfl dX6_front_41 ?_
      refine lv_aload_n hx hb dX6_front_44 rfl (lv_at hl 0 rfl) ?_
      refine va_get (D := (dC, dI)) (ci := 6) (v := .ref oC) (C := RX6) (T := TX6) (N := 12) hx hb hts inX6 hown hK hP 0 rfl rfl 1 (by decide) (hts _ wd_20) (fun _ h9 => h9) rfl dX6_front_45 ?_
      refine lv_iload_n hx hb dX6_front_48 rfl (lv_at hl 1 rfl) ?_
      refine lv_iconst (v := 0) hx hb dX6_front_49 (by decide) ?_
      have hFc := va_free (wc := [(oc5 oS rS_worths rS_order rS_left), (arI rS_order kS_order 72 f_6600), (oc1 oC iC_nodes iC_words iC_chances iC_unsures iC_slips iC_throneNode iC_saidWorth iC_unit rC_kind rC_parts rC_partNodes rC_weights rC_weightSums rC_toldWorths rC_steps rC_below rC_above rC_unsureWords rC_unsureWorths), (arI rC_partNodes kC_partNodes 72 fC_partNodes)]) hD hS hA [4, 5, 1, 3] rfl
      refine va_calli (va_runV (As := [.ref oC, .int p0, .int 0]) (rest := []) ⟨hx, hb, hml, hown, hts⟩ (tX5_partAt l dC dI _ oS rS_worths rS_order f_6600 kS_order rS_left oC iC_nodes iC_words iC_chances iC_unsures iC_slips iC_throneNode iC_saidWorth iC_unit rC_kind rC_parts rC_partNodes fC_partNodes kC_partNodes rC_weights rC_weightSums rC_toldWorths rC_steps rC_below rC_above rC_unsureWords rC_unsureWorths p0 0 a_f_6600 b_iC_nodes b_iC_unsures b_iC_throneNode a_fC_partNodes ⟨hc_6592.1, (om_525c5d3e b_iC_nodes.2 hc_6592.2.1)⟩ ⟨(om_b1de7dbe kc_0), (om_9747a55e kc_0)⟩) (cwV 3 hts (wd_V wd_568 wd_569 wd_570 wd_23 (wd_c wd_571)) rfl rfl rfl dv_yX5_partAt_3 ⟨Nat.le_of_ble_eq_true rfl, Nat.le_of_ble_eq_true rfl⟩) ⟨Pw.fb, recvX5 hK hP (q0 := 4) rfl, fun U hU hW => Pw.to (hP.sub [4, 5, 1, 3] rfl) (hD.sub [4, 5, 1, 3] (by decide) rfl) (hK.sub [2, 1] rfl) hE hS hFc hU hW⟩ rfl rfl hl.1 rfl (lv_room (Nat.le_of_ble_eq_true rfl)) dX6_front_50 ⟨Nat.le_of_ble_eq_true rfl, Nat.le_of_ble_eq_true rfl⟩) hS (fun q _ h => hFc q h) hFc (fun r u t H locs ht hvm hw hB hz1 hk1 hS => ?_)
      have hru9 := hw.2
      have hw := hw.1
      obtain ⟨hP, hD, hK⟩ := Bw.go (ws' := [(oc6 oK oR oC oS oT rK_images iK_imageCount oA oH oL x_6591 iK_latestFault iK_latestPlace), (arI rC_parts kC_parts 18 fC_parts), (oc0 oA x_6596 rA_nodes rA_olds rA_says), (arI rA_nodes kA_nodes 16 f_6597), (arI rA_olds kA_olds 16 f_6598), (arI rA_says kA_says 16 f_6599), (oc5 oS rS_worths rS_order rS_left), (arI rS_order kS_order 72 f_6600), (oc1 oC iC_nodes iC_words iC_chances iC_unsures iC_slips iC_throneNode iC_saidWorth iC_unit rC_kind rC_parts rC_partNodes rC_weights rC_weightSums rC_toldWorths rC_steps rC_below rC_above rC_unsureWords rC_unsureWorths), (arI rC_partNodes kC_partNodes 72 fC_partNodes)]) (tys' := [(kC_parts, .int), (kA_nodes, .int), (kA_olds, .int), (kA_says, .boolean), (kS_order, .int), (kC_partNodes, .int)]) hB rfl ht hvm hP hD hK [4, 5, 1, 3] [0, 2, 6, 7, 8, 9] rfl (by decide) (by decide) [0, 3, 4, 5] hk1 hFc rfl rfl rfl
      clear hz1 hk1 hvm ht hB
      obtain ⟨x_6601, rfl⟩ : ∃ z, z = r := ⟨_, rfl⟩
      have hG := hG.trans (lt_eq hru9.symm)
      have ux_6601 := hw.2
      exact wq_i hx hb hr (cI x_6601) ⟨⟨trivial, trivial⟩, (cI_of x_6601)⟩ (fun t ht hW => ⟨x_6591, f_6600, x_6596, f_6597, f_6598, f_6599, a_f_6600, b_x_6596, a_f_6597, a_f_6599, (cI_tup hG), Bw.to (hP.sub [0, 8, 1, 9, 6, 7, 2, 3, 4, 5] rfl) (hD.sub [0, 8, 1, 9, 6, 7, 2, 3, 4, 5] (by decide) rfl) (hK.sub [0, 5, 4, 1, 2, 3] rfl) ht hW⟩) hS dX6_front_53 hlocks
    · skip
      have hG := hG.trans (if_pos c_6595)
      have gc_6595 := ti_eq c_6595 rfl kc_0
      refine lv_aload_n hx hb dX6_front_15 rfl (lv_at hl 0 rfl) ?_
      refine lv_iconst (v := 5) hx hb dX6_front_16 (by decide) ?_
      have hMs := ml_of hD [true, false, false, false, false, false, false, false, false, false] (wc := [(oc6 oK oR oC oS oT rK_images iK_imageCount oA oH oL x_6591 iK_latestFault iK_latestPlace)]) rfl
      have hFc := va_freeM hD hS hA _ hMs
      refine va_calli (va_runV (As := [.int 5]) (rest := []) ⟨hx, hb, hml, hown, hts⟩ (tX6_refuse l dC dI _ oK oR oC oS oT rK_images iK_imageCount oA oH oL x_6591 iK_latestFault iK_latestPlace 5 b_iK_imageCount) (cwV 1 hts (wd_V wd_197 wd_198 wd_199 wd_2 (wd_c wd_200)) rfl rfl rfl dv_yX6_refuse_1 ⟨Nat.le_of_ble_eq_true rfl, Nat.le_of_ble_eq_true rfl⟩) ⟨Pw.fb, recvX6 hK hP (q0 := 0) rfl, fun U hU hW => Pw.to (hP.ms _ hMs) (hD.ms _ hMs) (hK.ms [false, false, false, false, false, false] rfl) hE hS hFc hU hW⟩ rfl rfl hl.1 rfl (lv_room (Nat.le_of_ble_eq_true rfl)) dX6_front_17 ⟨Nat.le_of_ble_eq_true rfl, Nat.le_of_ble_eq_true rfl⟩) hS (fun q _ h => hFc q h) hFc (fun r u t H locs ht hvm hw hB hz1 hk1 hS => ?_)
      have hru9 := hw.2
      have hw := hw.1
      refine ex_1_1 hB (fun x_6602 e_x_6602_0 hB => ?_)
      obtain ⟨hP, hD⟩ := Bw.goN (ws' := [(oc6 oK oR oC oS oT rK_images iK_imageCount oA oH oL x_6602 iK_latestFault iK_latestPlace), (oc1 oC iC_nodes iC_words iC_chances iC_unsures iC_slips iC_throneNode iC_saidWorth iC_unit rC_kind rC_parts rC_partNodes rC_weights rC_weightSums rC_toldWorths rC_steps rC_below rC_above rC_unsureWords rC_unsureWorths), (arI rC_parts kC_parts 18 fC_parts), (arI rC_partNodes kC_partNodes 72 fC_partNodes), (oc5 oS rS_worths rS_order rS_left), (arI rS_order kS_order 72 fS_order), (oc0 oA iA_count rA_nodes rA_olds rA_says), (arI rA_nodes kA_nodes 16 fA_nodes), (arI rA_olds kA_olds 16 fA_olds), (arI rA_says kA_says 16 fA_says)]) hB rfl ht hP hD _ hMs hk1 hFc rfl
      clear hz1 hk1 hvm ht hB hMs
      rw [← hru9] at e_x_6602_0
      obtain ⟨x_6603, rfl⟩ : ∃ z, z = r := ⟨_, rfl⟩
      have hG := hG.trans (un2_eq e_x_6602_0)
      have ux_6603 := hw.2
      exact wq_i hx hb hr (cI x_6603) ⟨⟨trivial, trivial⟩, (cI_of x_6603)⟩ (fun t ht hW => ⟨x_6602, fS_order, iA_count, fA_nodes, fA_olds, fA_says, a_fS_order, b_iA_count, a_fA_nodes, a_fA_says, (cI_tup hG), Bw.to hP hD hK ht hW⟩) hS dX6_front_20 hlocks
  · skip
    have hG := hG.trans (un2_eq e_x_6591_0)
    have hG := hG.trans (if_neg (by decide))
    refine lv_if_eq (tgt := 11) hx hb dX6_front_6 (by decide) (fun c => absurd c (by decide)) (fun _ => ?_)
    refine lv_iconst (v := (-1)) hx hb dX6_front_9 (by decide) ?_
    exact wq_i hx hb hr (cI (-1)) ⟨⟨trivial, trivial⟩, (cI_of (-1))⟩ (fun t ht hW => ⟨x_6591, fS_order, iA_count, fA_nodes, fA_olds, fA_says, a_fS_order, b_iA_count, a_fA_nodes, a_fA_says, (cI_tup hG), Bw.to hP hD hK ht hW⟩) hS dX6_front_10 hlocks
set_option maxHeartbeats 4000000 in
set_option maxRecDepth 100000 in
theorem tX6_undo (l : Launch) (dC : Nat → ClassId) (dI : Nat → Nat → Nat) (sz : Nat) (oK : Nat) (oR : Nat) (oC : Nat) (oS : Nat) (oT : Nat) (rK_images : Nat) (iK_imageCount : Int32) (oA : Nat) (oH : Nat) (oL : Nat) (iK_refusal : Int32) (iK_latestFault : Int32) (iK_latestPlace : Int32) (rS_worths : Nat) (fS_worths : Nat → Int32) (kS_worths : ClassId) (rS_order : Nat) (fS_order : Nat → Int32) (kS_order : ClassId) (rS_left : Nat) (iA_count : Int32) (rA_nodes : Nat) (fA_nodes : Nat → Int32) (kA_nodes : ClassId) (rA_olds : Nat) (fA_olds : Nat → Int32) (kA_olds : ClassId) (rA_says : Nat) (fA_says : Nat → Int32) (kA_says : ClassId) (b_iK_imageCount : 0 ≤ iK_imageCount.toInt ∧ iK_imageCount.toInt ≤ 3) (a_fS_order : ∀ j : Nat, j < 72 → 0 ≤ (fS_order j).toInt ∧ (fS_order j).toInt ≤ 3) (b_iA_count : 0 ≤ iA_count.toInt ∧ iA_count.toInt ≤ 16) (a_fA_nodes : ∀ j : Nat, j < 16 → 0 ≤ (fA_nodes j).toInt ∧ (fA_nodes j).toInt ≤ 17) (a_fA_says : ∀ j : Nat, j < 16 → 0 ≤ (fA_says j).toInt ∧ (fA_says j).toInt ≤ 1) (r_A : ∀ j : Nat, j < 16 → fA_says j = 0 → 0 ≤ (fA_olds j).toInt ∧ (fA_olds j).toInt ≤ 3)  : Met l yX6_undo (Cond.code yX6_undo cX6_undo 1 (some .boolean) :: wG) ({ frames := 2, cells := 0, slots := 0, locals := 46 }) (va_Pc [.ref oK] (Pw dC dI sz [(oc6 oK oR oC oS oT rK_images iK_imageCount oA oH oL iK_refusal iK_latestFault iK_latestPlace), (oc5 oS rS_worths rS_order rS_left), (arI rS_worths kS_worths 18 fS_worths), (arI rS_order kS_order 72 fS_order), (oc0 oA iA_count rA_nodes rA_olds rA_says), (arI rA_nodes kA_nodes 16 fA_nodes), (arI rA_olds kA_olds 16 fA_olds), (arI rA_says kA_says 16 fA_says)] [(kS_worths, .int), (kS_order, .int), (kA_nodes, .int), (kA_olds, .int), (kA_says, .boolean)])) (va_Qi (fun (r : Int32) (u : Nat) => ((r = 0 ∨ r = 1) ∧ True) ∧ r = Int32.ofNat u) (fun (u : Nat) (t : State) => ∃ (niK_refusal : Int32) (nfS_worths : Nat → Int32) (nfS_order : Nat → Int32) (niA_count : Int32), (0 ≤ niK_refusal.toInt ∧ niK_refusal.toInt ≤ 6) ∧ (∀ j : Nat, j < 72 → 0 ≤ (nfS_order j).toInt ∧ (nfS_order j).toInt ≤ 3) ∧ (0 ≤ niA_count.toInt ∧ niA_count.toInt ≤ 16) ∧ (PX6_undo fS_worths fS_order iA_count fA_nodes fA_olds fA_says = (Int32.ofNat u, niK_refusal, nfS_worths, nfS_order, niA_count)) ∧ Bw dC dI (va_A [(oc6 oK oR oC oS oT rK_images iK_imageCount oA oH oL iK_refusal iK_latestFault iK_latestPlace), (oc5 oS rS_worths rS_order rS_left), (arI rS_worths kS_worths 18 fS_worths), (arI rS_order kS_order 72 fS_order), (oc0 oA iA_count rA_nodes rA_olds rA_says), (arI rA_nodes kA_nodes 16 fA_nodes), (arI rA_olds kA_olds 16 fA_olds), (arI rA_says kA_says 16 fA_says)] sz) [(oc6 oK oR oC oS oT rK_images iK_imageCount oA oH oL niK_refusal iK_latestFault iK_latestPlace), (oc5 oS rS_worths rS_order rS_left), (arI rS_worths kS_worths 18 nfS_worths), (arI rS_order kS_order 72 nfS_order), (oc0 oA niA_count rA_nodes rA_olds rA_says), (arI rA_nodes kA_nodes 16 fA_nodes), (arI rA_olds kA_olds 16 fA_olds), (arI rA_says kA_says 16 fA_says)] [(kS_worths, .int), (kS_order, .int), (kA_nodes, .int), (kA_olds, .int), (kA_says, .boolean)] t) (va_A [(oc6 oK oR oC oS oT rK_images iK_imageCount oA oH oL iK_refusal iK_latestFault iK_latestPlace), (oc5 oS rS_worths rS_order rS_left), (arI rS_worths kS_worths 18 fS_worths), (arI rS_order kS_order 72 fS_order), (oc0 oA iA_count rA_nodes rA_olds rA_says), (arI rA_nodes kA_nodes 16 fA_nodes), (arI rA_olds kA_olds 16 fA_olds), (arI rA_says kA_says 16 fA_says)] sz)) 0 0 (va_A [(oc6 oK oR oC oS oT rK_images iK_imageCount oA oH oL iK_refusal iK_latestFault iK_latestPlace), (oc5 oS rS_worths rS_order rS_left), (arI rS_worths kS_worths 18 fS_worths), (arI rS_order kS_order 72 fS_order), (oc0 oA iA_count rA_nodes rA_olds rA_says), (arI rA_nodes kA_nodes 16 fA_nodes), (arI rA_olds kA_olds 16 fA_olds), (arI rA_says kA_says 16 fA_says)] sz) := by
  refine Met.ofW (cc := cX6_undo) (maxL := 1) (ret := (some .boolean)) pnX6 rfl ?_
  intro p e s m args below meth c s₁ B hml hv
  obtain ⟨rfl, hsz, hP, hK, hD0, hE⟩ := hv
  have hx := B.exec
  have hb := B.bytes
  have hr := B.returns
  have hts : ∀ w ∈ wG, w.before ([.ref oK] : List Value).toArray s = true := fun w h => atoms_spec (ws := Cond.code yX6_undo cX6_undo 1 (some .boolean) :: wG) B.pre w (List.mem_cons_of_mem _ h)
  have hown : s.vm.findClass RX6 = some m.cls := own_of B.named rfl
  have hlocks := B.notSynchronized
  subst hsz
  have hD := hD0.self (sz := s.heap.size)
  generalize hAe : va_A [(oc6 oK oR oC oS oT rK_images iK_imageCount oA oH oL iK_refusal iK_latestFault iK_latestPlace), (oc5 oS rS_worths rS_order rS_left), (arI rS_worths kS_worths 18 fS_worths), (arI rS_order kS_order 72 fS_order), (oc0 oA iA_count rA_nodes rA_olds rA_says), (arI rA_nodes kA_nodes 16 fA_nodes), (arI rA_olds kA_olds 16 fA_olds), (arI rA_says kA_says 16 fA_says)] s.heap.size = A at hD hE ⊢
  have hA : ∀ q : Nat, s.heap.size ≤ q → A q := fun q h => by rw [← hAe]; exact Or.inr h
  have hS : va_S A s.heap s.heap [] := va_S.rf
  have hl := lv_entry ([.ref oK]) (n := 1) (Nat.le_of_ble_eq_true rfl)
  rw [lg_entry_eq]
  generalize (lg_sl ([.ref oK]) ++ List.replicate (1 - (lg_sl ([.ref oK])).length) Slot.unset).toArray = ls at hl ⊢
  have hl : lv_has ls 1 [(0, .ref oK)] := hl
  have hG := PX6_undo_eq fS_worths fS_order iA_count fA_nodes fA_olds fA_says
  refine lv_aload_n hx hb dX6_undo_0 rfl (lv_at hl 0 rfl) ?_
  refine lv_aload_n hx hb dX6_undo_1 rfl (lv_at hl 0 rfl) ?_
  refine va_get (D := (dC, dI)) (ci := 6) (v := .ref oA) (C := RX6) (T := TX6) (N := 12) hx hb hts inX6 hown hK hP 0 rfl rfl 6 (by decide) (hts _ wd_30) (fun _ h9 => h9) rfl dX6_undo_2 ?_
  refine va_get (D := (dC, dI)) (ci := 0) (v := .int iA_count) (C := RX0) (T := TX0) (N := 4) hx hb hts inX0 hown hK hP 4 rfl rfl 0 (by decide) (hts _ wd_1397) (fun _ h9 => h9) rfl dX6_undo_5 ?_
  refine lv_if_le (tgt := 15) hx hb dX6_undo_8 (by decide) (fun c_6613 => ?_) (fun c_6613 => ?_)
  · skip
    have hG := hG.trans (if_pos c_6613)
    have gc_6613 := ti_le c_6613 rfl kc_0
    refine lv_bipush (v := 6) hx hb dX6_undo_15 (by decide) ?_
    refine va_put (D := (dC, dI)) (ci := 6) (v := .int 6) (ty := .int) (C := RX6) (T := TX6) (N := 12) hx hb hts inX6 tyX6 tyX6_ok nmX6 hown hK hP hD hS 0 rfl rfl 9 (by decide) (hts _ wd_195) (fun _ h9 => h9) rfl (by decide +kernel) rfl rfl (Nat.le_of_ble_eq_true rfl) dX6_undo_17 (fun H locs hP hD hS => ?_)
    obtain ⟨hP, hD⟩ := wl2 (ws' := [(oc6 oK oR oC oS oT rK_images iK_imageCount oA oH oL 6 iK_latestFault iK_latestPlace), (oc5 oS rS_worths rS_order rS_left), (arI rS_worths kS_worths 18 fS_worths), (arI rS_order kS_order 72 fS_order), (oc0 oA iA_count rA_nodes rA_olds rA_says), (arI rA_nodes kA_nodes 16 fA_nodes), (arI rA_olds kA_olds 16 fA_olds), (arI rA_says kA_says 16 fA_says)]) hP hD rfl
    refine lv_aload_n hx hb dX6_undo_20 rfl (lv_at hl 0 rfl) ?_
    refine va_get (D := (dC, dI)) (ci := 6) (v := .int 6) (C := RX6) (T := TX6) (N := 12) hx hb hts inX6 hown hK hP 0 rfl rfl 9 (by decide) (hts _ wd_195) (fun _ h9 => h9) rfl dX6_undo_21 ?_
    refine lv_if_ne (tgt := 45) hx hb dX6_undo_24 (by decide) (fun _ => ?_) (fun c => absurd c (by decide))
    refine lv_iconst (v := 0) hx hb dX6_undo_45 (by decide) ?_
    exact wq_z (v := 0) hx hb hr rfl (cI 0) ⟨⟨Or.inl rfl, trivial⟩, (cI_of 0)⟩ (fun t ht hW => ⟨6, fS_worths, fS_order, iA_count, (by decide), a_fS_order, b_iA_count, (cI_tup hG), Bw.to hP hD hK ht hW⟩) hS dX6_undo_46 hlocks
  · skip
    have hG := hG.trans (if_neg c_6613)
    have gc_6613 := ti_nle c_6613 rfl kc_0
    refine lv_iconst (v := 0) hx hb dX6_undo_11 (by decide) ?_
    refine lv_goto (tgt := 17) hx hb dX6_undo_12 (by decide) ?_
    refine va_put (D := (dC, dI)) (ci := 6) (v := .int 0) (ty := .int) (C := RX6) (T := TX6) (N := 12) hx hb hts inX6 tyX6 tyX6_ok nmX6 hown hK hP hD hS 0 rfl rfl 9 (by decide) (hts _ wd_195) (fun _ h9 => h9) rfl (by decide +kernel) rfl rfl (Nat.le_of_ble_eq_true rfl) dX6_undo_17 (fun H locs hP hD hS => ?_)
    obtain ⟨hP, hD⟩ := wl2 (ws' := [(oc6 oK oR oC oS oT rK_images iK_imageCount oA oH oL 0 iK_latestFault iK_latestPlace), (oc5 oS rS_worths rS_order rS_left), (arI rS_worths kS_worths 18 fS_worths), (arI rS_order kS_order 72 fS_order), (oc0 oA iA_count rA_nodes rA_olds rA_says), (arI rA_nodes kA_nodes 16 fA_nodes), (arI rA_olds kA_olds 16 fA_olds), (arI rA_says kA_says 16 fA_says)]) hP hD rfl
    refine lv_aload_n hx hb dX6_undo_20 rfl (lv_at hl 0 rfl) ?_
    refine va_get (D := (dC, dI)) (ci := 6) (v := .int 0) (C := RX6) (T := TX6) (N := 12) hx hb hts inX6 hown hK hP 0 rfl rfl 9 (by decide) (hts _ wd_195) (fun _ h9 => h9) rfl dX6_undo_21 ?_
    refine lv_if_ne (tgt := 45) hx hb dX6_undo_24 (by decide) (fun c => absurd c (by decide)) (fun _ => ?_)
    refine lv_aload_n hx hb dX6_undo_27 rfl (lv_at hl 0 rfl) ?_
    refine va_get (D := (dC, dI)) (ci := 6) (v := .ref oA) (C := RX6) (T := TX6) (N := 12) hx hb hts inX6 hown hK hP 0 rfl rfl 6 (by decide) (hts _ wd_30) (fun _ h9 => h9) rfl dX6_undo_28 ?_
    refine lv_aload_n hx hb dX6_undo_31 rfl (lv_at hl 0 rfl) ?_
    refine va_get (D := (dC, dI)) (ci := 6) (v := .ref oS) (C := RX6) (T := TX6) (N := 12) hx hb hts inX6 hown hK hP 0 rfl rfl 2 (by decide) (hts _ wd_24) (fun _ h9 => h9) rfl dX6_undo_32 ?_
    have hFc := va_free (wc := [(oc0 oA iA_count rA_nodes rA_olds rA_says), (arI rA_nodes kA_nodes 16 fA_nodes), (arI rA_olds kA_olds 16 fA_olds), (arI rA_says kA_says 16 fA_says), (oc5 oS rS_worths rS_order rS_left), (arI rS_worths kS_worths 18 fS_worths), (arI rS_order kS_order 72 fS_order)]) hD hS hA [4, 5, 6, 7, 1, 2, 3] rfl
    refine va_calli (va_runV (As := [.ref oS]) (rest := []) ⟨hx, hb, hml, hown, hts⟩ (tX0_takeBack l dC dI _ oA iA_count rA_nodes fA_nodes kA_nodes rA_olds fA_olds kA_olds rA_says fA_says kA_says oS rS_worths fS_worths kS_worths rS_order fS_order kS_order rS_left b_iA_count a_fA_nodes a_fA_says a_fS_order (by assumption)) (cwV 1 hts (wd_V wd_1398 wd_1399 wd_1400 wd_29 (wd_c wd_1401)) rfl rfl rfl dv_yX0_takeBack_1 ⟨Nat.le_of_ble_eq_true rfl, Nat.le_of_ble_eq_true rfl⟩) ⟨Pw.fb, recvX0 hK hP (q0 := 4) rfl, fun U hU hW => Pw.to (hP.sub [4, 5, 6, 7, 1, 2, 3] rfl) (hD.sub [4, 5, 6, 7, 1, 2, 3] (by decide) rfl) (hK.sub [2, 3, 4, 0, 1] rfl) hE hS hFc hU hW⟩ rfl rfl hl.1 rfl (lv_room (Nat.le_of_ble_eq_true rfl)) dX6_undo_35 ⟨Nat.le_of_ble_eq_true rfl, Nat.le_of_ble_eq_true rfl⟩) hS (fun q _ h => hFc q h) hFc (fun r u t H locs ht hvm hw hB hz1 hk1 hS => ?_)
    have hru9 := hw.2
    have hw := hw.1
    refine ex_3_3 hB (fun x_6616 f_6617 f_6618 b_x_6616 a_f_6618 e_x_6616_0 hB => ?_)
    obtain ⟨hP, hD, hK⟩ := Bw.go (ws' := [(oc6 oK oR oC oS oT rK_images iK_imageCount oA oH oL 0 iK_latestFault iK_latestPlace), (oc0 oA x_6616 rA_nodes rA_olds rA_says), (arI rA_nodes kA_nodes 16 fA_nodes), (arI rA_olds kA_olds 16 fA_olds), (arI rA_says kA_says 16 fA_says), (oc5 oS rS_worths rS_order rS_left), (arI rS_worths kS_worths 18 f_6617), (arI rS_order kS_order 72 f_6618)]) (tys' := [(kA_nodes, .int), (kA_olds, .int), (kA_says, .boolean), (kS_worths, .int), (kS_order, .int)]) hB rfl ht hvm hP hD hK [4, 5, 6, 7, 1, 2, 3] [0] rfl (by decide) (by decide) [] hk1 hFc rfl rfl rfl
    clear hz1 hk1 hvm ht hB
    rw [← hru9] at e_x_6616_0
    obtain ⟨x_6619, rfl⟩ : ∃ z, z = r := ⟨_, rfl⟩
    have hG := hG.trans (un4_eq e_x_6616_0)
    have bx_6619 := hw.1
    have dx_6619 := bz_tb bx_6619
    refine lv_if_eq (tgt := 45) hx hb dX6_undo_38 (by decide) (fun c_6620 => ?_) (fun c_6620 => ?_)
    · skip
      have hG := hG.trans (if_pos c_6620)
      have gc_6620 := ti_eq c_6620 rfl kc_0
      refine lv_iconst (v := 0) hx hb dX6_undo_45 (by decide) ?_
      exact wq_z (v := 0) hx hb hr rfl (cI 0) ⟨⟨Or.inl rfl, trivial⟩, (cI_of 0)⟩ (fun t ht hW => ⟨0, f_6617, f_6618, x_6616, (by decide), a_f_6618, b_x_6616, (cI_tup hG), Bw.to (hP.sub [0, 5, 6, 7, 1, 2, 3, 4] rfl) (hD.sub [0, 5, 6, 7, 1, 2, 3, 4] (by decide) rfl) (hK.sub [3, 4, 0, 1, 2] rfl) ht hW⟩) hS dX6_undo_46 hlocks
    · skip
      have hG := hG.trans (if_neg c_6620)
      have gc_6620 := ti_ne c_6620 rfl kc_0
      refine lv_iconst (v := 1) hx hb dX6_undo_41 (by decide) ?_
      refine lv_goto (tgt := 46) hx hb dX6_undo_42 (by decide) ?_
      exact wq_z (v := 1) hx hb hr rfl (cI 1) ⟨⟨Or.inr rfl, trivial⟩, (cI_of 1)⟩ (fun t ht hW => ⟨0, f_6617, f_6618, x_6616, (by decide), a_f_6618, b_x_6616, (cI_tup hG), Bw.to (hP.sub [0, 5, 6, 7, 1, 2, 3, 4] rfl) (hD.sub [0, 5, 6, 7, 1, 2, 3, 4] (by decide) rfl) (hK.sub [3, 4, 0, 1, 2] rfl) ht hW⟩) hS dX6_undo_46 hlocks
set_option maxHeartbeats 4000000 in
set_option maxRecDepth 100000 in
theorem tX6_size (l : Launch) (dC : Nat → ClassId) (dI : Nat → Nat → Nat) (sz : Nat) (oK : Nat) (oR : Nat) (oC : Nat) (oS : Nat) (oT : Nat) (rK_images : Nat) (iK_imageCount : Int32) (oA : Nat) (oH : Nat) (oL : Nat) (iK_refusal : Int32) (iK_latestFault : Int32) (iK_latestPlace : Int32) (iC_nodes : Int32) (iC_words : Int32) (iC_chances : Int32) (iC_unsures : Int32) (iC_slips : Int32) (iC_throneNode : Int32) (iC_saidWorth : Int32) (iC_unit : Int32) (rC_kind : Nat) (rC_parts : Nat) (rC_partNodes : Nat) (rC_weights : Nat) (rC_weightSums : Nat) (rC_toldWorths : Nat) (rC_steps : Nat) (rC_below : Nat) (rC_above : Nat) (rC_unsureWords : Nat) (rC_unsureWorths : Nat) (iA_count : Int32) (rA_nodes : Nat) (rA_olds : Nat) (rA_says : Nat) (iR_faultNumber : Int32) (iR_faultPlace : Int32) (iR_tapeSize : Int32) (rR_tape : Nat) (iR_end : Int32) (iR_tokenKind : Int32) (iR_tokenFrom : Int32) (iR_tokenTo : Int32) (iR_tokenName : Int64) (iR_tokenKey : Int32) (iR_tokenWhole : Int32) (oD : Nat) (iR_courtTold : Int32) (rR_names : Nat) (rR_keys : Nat) (p0 : Int32) (b_iK_imageCount : 0 ≤ iK_imageCount.toInt ∧ iK_imageCount.toInt ≤ 3) (b_iC_nodes : 0 ≤ iC_nodes.toInt ∧ iC_nodes.toInt ≤ 18) (b_iC_unsures : 0 ≤ iC_unsures.toInt ∧ iC_unsures.toInt ≤ 4) (b_iC_throneNode : (-1) ≤ iC_throneNode.toInt ∧ iC_throneNode.toInt ≤ 17) (b_iA_count : 0 ≤ iA_count.toInt ∧ iA_count.toInt ≤ 16) (b_iR_tapeSize : 0 ≤ iR_tapeSize.toInt ∧ iR_tapeSize.toInt ≤ 900) (b_iR_courtTold : 0 ≤ iR_courtTold.toInt ∧ iR_courtTold.toInt ≤ 1)  : Met l yX6_size (Cond.code yX6_size cX6_size 2 (some .int) :: wG) ({ frames := 0, cells := 0, slots := 0, locals := 0 }) (va_Pc [.ref oK, .int p0] (Pw dC dI sz [(oc6 oK oR oC oS oT rK_images iK_imageCount oA oH oL iK_refusal iK_latestFault iK_latestPlace), (oc1 oC iC_nodes iC_words iC_chances iC_unsures iC_slips iC_throneNode iC_saidWorth iC_unit rC_kind rC_parts rC_partNodes rC_weights rC_weightSums rC_toldWorths rC_steps rC_below rC_above rC_unsureWords rC_unsureWorths), (oc0 oA iA_count rA_nodes rA_olds rA_says), (oc3 oR iR_faultNumber iR_faultPlace iR_tapeSize rR_tape iR_end iR_tokenKind iR_tokenFrom iR_tokenTo iR_tokenName iR_tokenKey iR_tokenWhole oD iR_courtTold rR_names rR_keys)] [])) (va_Qi (fun (r : Int32) (_ : Nat) => (True ∧ True) ∧ PX6_size iK_imageCount iC_nodes iC_words iC_unsures iC_slips iC_saidWorth iA_count iR_tapeSize p0 = r) (fun (_ : Nat) (t : State) => Bw dC dI (va_A [(oc6 oK oR oC oS oT rK_images iK_imageCount oA oH oL iK_refusal iK_latestFault iK_latestPlace), (oc1 oC iC_nodes iC_words iC_chances iC_unsures iC_slips iC_throneNode iC_saidWorth iC_unit rC_kind rC_parts rC_partNodes rC_weights rC_weightSums rC_toldWorths rC_steps rC_below rC_above rC_unsureWords rC_unsureWorths), (oc0 oA iA_count rA_nodes rA_olds rA_says), (oc3 oR iR_faultNumber iR_faultPlace iR_tapeSize rR_tape iR_end iR_tokenKind iR_tokenFrom iR_tokenTo iR_tokenName iR_tokenKey iR_tokenWhole oD iR_courtTold rR_names rR_keys)] sz) [(oc6 oK oR oC oS oT rK_images iK_imageCount oA oH oL iK_refusal iK_latestFault iK_latestPlace), (oc1 oC iC_nodes iC_words iC_chances iC_unsures iC_slips iC_throneNode iC_saidWorth iC_unit rC_kind rC_parts rC_partNodes rC_weights rC_weightSums rC_toldWorths rC_steps rC_below rC_above rC_unsureWords rC_unsureWorths), (oc0 oA iA_count rA_nodes rA_olds rA_says), (oc3 oR iR_faultNumber iR_faultPlace iR_tapeSize rR_tape iR_end iR_tokenKind iR_tokenFrom iR_tokenTo iR_tokenName iR_tokenKey iR_tokenWhole oD iR_courtTold rR_names rR_keys)] [] t) (va_A [(oc6 oK oR oC oS oT rK_images iK_imageCount oA oH oL iK_refusal iK_latestFault iK_latestPlace), (oc1 oC iC_nodes iC_words iC_chances iC_unsures iC_slips iC_throneNode iC_saidWorth iC_unit rC_kind rC_parts rC_partNodes rC_weights rC_weightSums rC_toldWorths rC_steps rC_below rC_above rC_unsureWords rC_unsureWorths), (oc0 oA iA_count rA_nodes rA_olds rA_says), (oc3 oR iR_faultNumber iR_faultPlace iR_tapeSize rR_tape iR_end iR_tokenKind iR_tokenFrom iR_tokenTo iR_tokenName iR_tokenKey iR_tokenWhole oD iR_courtTold rR_names rR_keys)] sz)) 0 0 (va_A [(oc6 oK oR oC oS oT rK_images iK_imageCount oA oH oL iK_refusal iK_latestFault iK_latestPlace), (oc1 oC iC_nodes iC_words iC_chances iC_unsures iC_slips iC_throneNode iC_saidWorth iC_unit rC_kind rC_parts rC_partNodes rC_weights rC_weightSums rC_toldWorths rC_steps rC_below rC_above rC_unsureWords rC_unsureWorths), (oc0 oA iA_count rA_nodes rA_olds rA_says), (oc3 oR iR_faultNumber iR_faultPlace iR_tapeSize rR_tape iR_end iR_tokenKind iR_tokenFrom iR_tokenTo iR_tokenName iR_tokenKey iR_tokenWhole oD iR_courtTold rR_names rR_keys)] sz) := by
  refine Met.ofW (cc := cX6_size) (maxL := 2) (ret := (some .int)) pnX6 rfl ?_
  intro p e s m args below meth c s₁ B hml hv
  obtain ⟨rfl, hsz, hP, hK, hD0, hE⟩ := hv
  have hx := B.exec
  have hb := B.bytes
  have hr := B.returns
  have hts : ∀ w ∈ wG, w.before ([.ref oK, .int p0] : List Value).toArray s = true := fun w h => atoms_spec (ws := Cond.code yX6_size cX6_size 2 (some .int) :: wG) B.pre w (List.mem_cons_of_mem _ h)
  have hown : s.vm.findClass RX6 = some m.cls := own_of B.named rfl
  have hlocks := B.notSynchronized
  subst hsz
  have hD := hD0.self (sz := s.heap.size)
  generalize hAe : va_A [(oc6 oK oR oC oS oT rK_images iK_imageCount oA oH oL iK_refusal iK_latestFault iK_latestPlace), (oc1 oC iC_nodes iC_words iC_chances iC_unsures iC_slips iC_throneNode iC_saidWorth iC_unit rC_kind rC_parts rC_partNodes rC_weights rC_weightSums rC_toldWorths rC_steps rC_below rC_above rC_unsureWords rC_unsureWorths), (oc0 oA iA_count rA_nodes rA_olds rA_says), (oc3 oR iR_faultNumber iR_faultPlace iR_tapeSize rR_tape iR_end iR_tokenKind iR_tokenFrom iR_tokenTo iR_tokenName iR_tokenKey iR_tokenWhole oD iR_courtTold rR_names rR_keys)] s.heap.size = A at hD hE ⊢
  have hA : ∀ q : Nat, s.heap.size ≤ q → A q := fun q h => by rw [← hAe]; exact Or.inr h
  have hS : va_S A s.heap s.heap [] := va_S.rf
  have hl := lv_entry ([.ref oK, .int p0]) (n := 2) (Nat.le_of_ble_eq_true rfl)
  rw [lg_entry_eq]
  generalize (lg_sl ([.ref oK, .int p0]) ++ List.replicate (2 - (lg_sl ([.ref oK, .int p0])).length) Slot.unset).toArray = ls at hl ⊢
  have hl : lv_has ls 2 [(0, .ref oK), (1, .int p0)] := hl
  have hG := PX6_size_eq iK_imageCount iC_nodes iC_words iC_unsures iC_slips iC_saidWorth iA_count iR_tapeSize p0
  refine lv_iload_n hx hb dX6_size_0 rfl (lv_at hl 1 rfl) ?_
  rcases (show p0.toInt < 0 ∨ 7 < p0.toInt ∨ p0.toInt = 0 ∨ p0.toInt = 1 ∨ p0.toInt = 2 ∨ p0.toInt = 3 ∨ p0.toInt = 4 ∨ p0.toInt = 5 ∨ p0.toInt = 6 ∨ p0.toInt = 7 by omega) with h_s | h_s | h_s | h_s | h_s | h_s | h_s | h_s | h_s | h_s
  · skip
    have hG := hG.trans (sw_out (by first | exact Or.inl h_s | exact Or.inr (by show ((0 : Int) + (8 : Nat) ≤ _); omega)))
    refine lv_tableOut (tgt := 117) hx hb dX6_size_1 (Or.inl h_s) (by decide) ?_
    refine lv_iconst (v := (-1)) hx hb dX6_size_117 (by decide) ?_
    exact wq_i hx hb hr 0 ⟨⟨trivial, trivial⟩, hG⟩ (fun t ht hW => Bw.to hP hD hK ht hW) hS dX6_size_118 hlocks
  · skip
    have hG := hG.trans (sw_out (by first | exact Or.inl h_s | exact Or.inr (by show ((0 : Int) + (8 : Nat) ≤ _); omega)))
    refine lv_tableOut (tgt := 117) hx hb dX6_size_1 (Or.inr h_s) (by decide) ?_
    refine lv_iconst (v := (-1)) hx hb dX6_size_117 (by decide) ?_
    exact wq_i hx hb hr 0 ⟨⟨trivial, trivial⟩, hG⟩ (fun t ht hW => Bw.to hP hD hK ht hW) hS dX6_size_118 hlocks
  · skip
    have hG := hG.trans (sw_in (j := 0) (h_s.trans (by decide)) rfl)
    refine lv_tableIn (off := 47) (tgt := 48) hx hb dX6_size_1 (by rw [h_s]; decide) (by rw [h_s]; decide) (by rw [h_s]; rfl) (by decide) ?_
    refine lv_aload_n hx hb dX6_size_48 rfl (lv_at hl 0 rfl) ?_
    refine va_get (D := (dC, dI)) (ci := 6) (v := .ref oC) (C := RX6) (T := TX6) (N := 12) hx hb hts inX6 hown hK hP 0 rfl rfl 1 (by decide) (hts _ wd_20) (fun _ h9 => h9) rfl dX6_size_49 ?_
    refine va_get (D := (dC, dI)) (ci := 1) (v := .int iC_slips) (C := RX1) (T := TX1) (N := 19) hx hb hts inX1 hown hK hP 1 rfl rfl 4 (by decide) (hts _ wd_1450) (fun _ h9 => h9) rfl dX6_size_52 ?_
    exact wq_i hx hb hr 0 ⟨⟨trivial, trivial⟩, hG⟩ (fun t ht hW => Bw.to hP hD hK ht hW) hS dX6_size_55 hlocks
  · skip
    have hG := hG.trans (sw_in (j := 1) (h_s.trans (by decide)) rfl)
    refine lv_tableIn (off := 55) (tgt := 56) hx hb dX6_size_1 (by rw [h_s]; decide) (by rw [h_s]; decide) (by rw [h_s]; rfl) (by decide) ?_
    refine lv_aload_n hx hb dX6_size_56 rfl (lv_at hl 0 rfl) ?_
    refine va_get (D := (dC, dI)) (ci := 6) (v := .ref oC) (C := RX6) (T := TX6) (N := 12) hx hb hts inX6 hown hK hP 0 rfl rfl 1 (by decide) (hts _ wd_20) (fun _ h9 => h9) rfl dX6_size_57 ?_
    refine va_get (D := (dC, dI)) (ci := 1) (v := .int iC_nodes) (C := RX1) (T := TX1) (N := 19) hx hb hts inX1 hown hK hP 1 rfl rfl 0 (by decide) (hts _ wd_196) (fun _ h9 => h9) rfl dX6_size_60 ?_
    exact wq_i hx hb hr 0 ⟨⟨trivial, trivial⟩, hG⟩ (fun t ht hW => Bw.to hP hD hK ht hW) hS dX6_size_63 hlocks
  · skip
    have hG := hG.trans (sw_in (j := 2) (h_s.trans (by decide)) rfl)
    refine lv_tableIn (off := 63) (tgt := 64) hx hb dX6_size_1 (by rw [h_s]; decide) (by rw [h_s]; decide) (by rw [h_s]; rfl) (by decide) ?_
    refine lv_aload_n hx hb dX6_size_64 rfl (lv_at hl 0 rfl) ?_
    refine va_get (D := (dC, dI)) (ci := 6) (v := .ref oC) (C := RX6) (T := TX6) (N := 12) hx hb hts inX6 hown hK hP 0 rfl rfl 1 (by decide) (hts _ wd_20) (fun _ h9 => h9) rfl dX6_size_65 ?_
    refine va_get (D := (dC, dI)) (ci := 1) (v := .int iC_words) (C := RX1) (T := TX1) (N := 19) hx hb hts inX1 hown hK hP 1 rfl rfl 1 (by decide) (hts _ wd_1451) (fun _ h9 => h9) rfl dX6_size_68 ?_
    exact wq_i hx hb hr 0 ⟨⟨trivial, trivial⟩, hG⟩ (fun t ht hW => Bw.to hP hD hK ht hW) hS dX6_size_71 hlocks
  · skip
    have hG := hG.trans (sw_in (j := 3) (h_s.trans (by decide)) rfl)
    refine lv_tableIn (off := 71) (tgt := 72) hx hb dX6_size_1 (by rw [h_s]; decide) (by rw [h_s]; decide) (by rw [h_s]; rfl) (by decide) ?_
    refine lv_aload_n hx hb dX6_size_72 rfl (lv_at hl 0 rfl) ?_
    refine va_get (D := (dC, dI)) (ci := 6) (v := .ref oC) (C := RX6) (T := TX6) (N := 12) hx hb hts inX6 hown hK hP 0 rfl rfl 1 (by decide) (hts _ wd_20) (fun _ h9 => h9) rfl dX6_size_73 ?_
    refine va_get (D := (dC, dI)) (ci := 1) (v := .int iC_unsures) (C := RX1) (T := TX1) (N := 19) hx hb hts inX1 hown hK hP 1 rfl rfl 3 (by decide) (hts _ wd_1229) (fun _ h9 => h9) rfl dX6_size_76 ?_
    exact wq_i hx hb hr 0 ⟨⟨trivial, trivial⟩, hG⟩ (fun t ht hW => Bw.to hP hD hK ht hW) hS dX6_size_79 hlocks
  · skip
    have hG := hG.trans (sw_in (j := 4) (h_s.trans (by decide)) rfl)
    refine lv_tableIn (off := 79) (tgt := 80) hx hb dX6_size_1 (by rw [h_s]; decide) (by rw [h_s]; decide) (by rw [h_s]; rfl) (by decide) ?_
    refine lv_aload_n hx hb dX6_size_80 rfl (lv_at hl 0 rfl) ?_
    refine va_get (D := (dC, dI)) (ci := 6) (v := .ref oC) (C := RX6) (T := TX6) (N := 12) hx hb hts inX6 hown hK hP 0 rfl rfl 1 (by decide) (hts _ wd_20) (fun _ h9 => h9) rfl dX6_size_81 ?_
    refine va_get (D := (dC, dI)) (ci := 1) (v := .int iC_saidWorth) (C := RX1) (T := TX1) (N := 19) hx hb hts inX1 hown hK hP 1 rfl rfl 6 (by decide) (hts _ wd_1164) (fun _ h9 => h9) rfl dX6_size_84 ?_
    refine lv_if_lt (tgt := 94) hx hb dX6_size_87 (by decide) (fun c_6622 => ?_) (fun c_6622 => ?_)
    · skip
      have hG := hG.trans (if_pos c_6622)
      have gc_6622 := ti_lt c_6622 rfl kc_0
      refine lv_iconst (v := 0) hx hb dX6_size_94 (by decide) ?_
      exact wq_i hx hb hr 0 ⟨⟨trivial, trivial⟩, hG⟩ (fun t ht hW => Bw.to hP hD hK ht hW) hS dX6_size_95 hlocks
    · skip
      have hG := hG.trans (if_neg c_6622)
      have gc_6622 := ti_nlt c_6622 rfl kc_0
      refine lv_iconst (v := 1) hx hb dX6_size_90 (by decide) ?_
      refine lv_goto (tgt := 95) hx hb dX6_size_91 (by decide) ?_
      exact wq_i hx hb hr 0 ⟨⟨trivial, trivial⟩, hG⟩ (fun t ht hW => Bw.to hP hD hK ht hW) hS dX6_size_95 hlocks
  · skip
    have hG := hG.trans (sw_in (j := 5) (h_s.trans (by decide)) rfl)
    refine lv_tableIn (off := 95) (tgt := 96) hx hb dX6_size_1 (by rw [h_s]; decide) (by rw [h_s]; decide) (by rw [h_s]; rfl) (by decide) ?_
    refine lv_aload_n hx hb dX6_size_96 rfl (lv_at hl 0 rfl) ?_
    refine va_get (D := (dC, dI)) (ci := 6) (v := .ref oA) (C := RX6) (T := TX6) (N := 12) hx hb hts inX6 hown hK hP 0 rfl rfl 6 (by decide) (hts _ wd_30) (fun _ h9 => h9) rfl dX6_size_97 ?_
    refine va_get (D := (dC, dI)) (ci := 0) (v := .int iA_count) (C := RX0) (T := TX0) (N := 4) hx hb hts inX0 hown hK hP 2 rfl rfl 0 (by decide) (hts _ wd_1397) (fun _ h9 => h9) rfl dX6_size_100 ?_
    exact wq_i hx hb hr 0 ⟨⟨trivial, trivial⟩, hG⟩ (fun t ht hW => Bw.to hP hD hK ht hW) hS dX6_size_103 hlocks
  · skip
    have hG := hG.trans (sw_in (j := 6) (h_s.trans (by decide)) rfl)
    refine lv_tableIn (off := 103) (tgt := 104) hx hb dX6_size_1 (by rw [h_s]; decide) (by rw [h_s]; decide) (by rw [h_s]; rfl) (by decide) ?_
    refine lv_aload_n hx hb dX6_size_104 rfl (lv_at hl 0 rfl) ?_
    refine va_get (D := (dC, dI)) (ci := 6) (v := .int iK_imageCount) (C := RX6) (T := TX6) (N := 12) hx hb hts inX6 hown hK hP 0 rfl rfl 5 (by decide) (hts _ wd_194) (fun _ h9 => h9) rfl dX6_size_105 ?_
    exact wq_i hx hb hr 0 ⟨⟨trivial, trivial⟩, hG⟩ (fun t ht hW => Bw.to hP hD hK ht hW) hS dX6_size_108 hlocks
  · skip
    have hG := hG.trans (sw_in (j := 7) (h_s.trans (by decide)) rfl)
    refine lv_tableIn (off := 108) (tgt := 109) hx hb dX6_size_1 (by rw [h_s]; decide) (by rw [h_s]; decide) (by rw [h_s]; rfl) (by decide) ?_
    refine lv_aload_n hx hb dX6_size_109 rfl (lv_at hl 0 rfl) ?_
    refine va_get (D := (dC, dI)) (ci := 6) (v := .ref oR) (C := RX6) (T := TX6) (N := 12) hx hb hts inX6 hown hK hP 0 rfl rfl 0 (by decide) (hts _ wd_16) (fun _ h9 => h9) rfl dX6_size_110 ?_
    refine va_get (D := (dC, dI)) (ci := 3) (v := .int iR_tapeSize) (C := RX3) (T := TX3) (N := 15) hx hb hts inX3 hown hK hP 3 rfl rfl 2 (by decide) (hts _ wd_174) (fun _ h9 => h9) rfl dX6_size_113 ?_
    exact wq_i hx hb hr 0 ⟨⟨trivial, trivial⟩, hG⟩ (fun t ht hW => Bw.to hP hD hK ht hW) hS dX6_size_116 hlocks
set_option maxHeartbeats 4000000 in
set_option maxRecDepth 100000 in
theorem tX6_unheardWord (l : Launch) (dC : Nat → ClassId) (dI : Nat → Nat → Nat) (sz : Nat) (oK : Nat) (oR : Nat) (oC : Nat) (oS : Nat) (oT : Nat) (rK_images : Nat) (iK_imageCount : Int32) (oA : Nat) (oH : Nat) (oL : Nat) (iK_refusal : Int32) (iK_latestFault : Int32) (iK_latestPlace : Int32) (iC_nodes : Int32) (iC_words : Int32) (iC_chances : Int32) (iC_unsures : Int32) (iC_slips : Int32) (iC_throneNode : Int32) (iC_saidWorth : Int32) (iC_unit : Int32) (rC_kind : Nat) (fC_kind : Nat → Int32) (kC_kind : ClassId) (rC_parts : Nat) (fC_parts : Nat → Int32) (kC_parts : ClassId) (rC_partNodes : Nat) (fC_partNodes : Nat → Int32) (kC_partNodes : ClassId) (rC_weights : Nat) (fC_weights : Nat → Int32) (kC_weights : ClassId) (rC_weightSums : Nat) (fC_weightSums : Nat → Int32) (kC_weightSums : ClassId) (rC_toldWorths : Nat) (rC_steps : Nat) (rC_below : Nat) (rC_above : Nat) (rC_unsureWords : Nat) (rC_unsureWorths : Nat) (rS_worths : Nat) (fS_worths : Nat → Int32) (kS_worths : ClassId) (rS_order : Nat) (fS_order : Nat → Int32) (kS_order : ClassId) (rS_left : Nat) (iH_breaths : Int32) (iH_heardBits : Int32) (iH_cutCount : Int32) (iH_halfBreaths : Int32) (iH_halfQuestions : Int32) (rH_heardWords : Nat) (fH_heardWords : Nat → Int32) (kH_heardWords : ClassId) (rH_cutParts : Nat) (fH_cutParts : Nat → Int32) (kH_cutParts : ClassId) (p0 : Int32) (b_iK_imageCount : 0 ≤ iK_imageCount.toInt ∧ iK_imageCount.toInt ≤ 3) (b_iC_nodes : 0 ≤ iC_nodes.toInt ∧ iC_nodes.toInt ≤ 18) (b_iC_unsures : 0 ≤ iC_unsures.toInt ∧ iC_unsures.toInt ≤ 4) (b_iC_throneNode : (-1) ≤ iC_throneNode.toInt ∧ iC_throneNode.toInt ≤ 17) (a_fC_parts : ∀ j : Nat, j < 18 → 0 ≤ (fC_parts j).toInt ∧ (fC_parts j).toInt ≤ 4) (a_fC_partNodes : ∀ j : Nat, j < 72 → 0 ≤ (fC_partNodes j).toInt ∧ (fC_partNodes j).toInt ≤ 17) (a_fS_order : ∀ j : Nat, j < 72 → 0 ≤ (fS_order j).toInt ∧ (fS_order j).toInt ≤ 3) (b_iH_breaths : 0 ≤ iH_breaths.toInt ∧ iH_breaths.toInt ≤ 1000000000) (b_iH_cutCount : 0 ≤ iH_cutCount.toInt ∧ iH_cutCount.toInt ≤ 1000000000)  : Met l yX6_unheardWord (Cond.code yX6_unheardWord cX6_unheardWord 4 (some .int) :: wG) ({ frames := 34, cells := 0, slots := 0, locals := 998 }) (va_Pc [.ref oK, .int p0] (Pw dC dI sz [(oc6 oK oR oC oS oT rK_images iK_imageCount oA oH oL iK_refusal iK_latestFault iK_latestPlace), (oc1 oC iC_nodes iC_words iC_chances iC_unsures iC_slips iC_throneNode iC_saidWorth iC_unit rC_kind rC_parts rC_partNodes rC_weights rC_weightSums rC_toldWorths rC_steps rC_below rC_above rC_unsureWords rC_unsureWorths), (arI rC_kind kC_kind 18 fC_kind), (arI rC_parts kC_parts 18 fC_parts), (arI rC_partNodes kC_partNodes 72 fC_partNodes), (arI rC_weights kC_weights 72 fC_weights), (arI rC_weightSums kC_weightSums 18 fC_weightSums), (oc5 oS rS_worths rS_order rS_left), (arI rS_worths kS_worths 18 fS_worths), (arI rS_order kS_order 72 fS_order), (oc2 oH iH_breaths iH_heardBits iH_cutCount iH_halfBreaths iH_halfQuestions rH_heardWords rH_cutParts), (arI rH_heardWords kH_heardWords 512 fH_heardWords), (arI rH_cutParts kH_cutParts 512 fH_cutParts)] [(kC_kind, .int), (kC_parts, .int), (kC_partNodes, .int), (kC_weights, .int), (kC_weightSums, .int), (kS_worths, .int), (kS_order, .int), (kH_heardWords, .int), (kH_cutParts, .int)])) (va_Qi (fun (r : Int32) (_ : Nat) => True ∧ True) (fun (_ : Nat) (t : State) => ∃ (niH_breaths : Int32) (niH_heardBits : Int32) (niH_cutCount : Int32) (nfH_heardWords : Nat → Int32) (nfH_cutParts : Nat → Int32), (0 ≤ niH_breaths.toInt ∧ niH_breaths.toInt ≤ 1000000000) ∧ (0 ≤ niH_cutCount.toInt ∧ niH_cutCount.toInt ≤ 1000000000) ∧ Bw dC dI (va_A [(oc6 oK oR oC oS oT rK_images iK_imageCount oA oH oL iK_refusal iK_latestFault iK_latestPlace), (oc1 oC iC_nodes iC_words iC_chances iC_unsures iC_slips iC_throneNode iC_saidWorth iC_unit rC_kind rC_parts rC_partNodes rC_weights rC_weightSums rC_toldWorths rC_steps rC_below rC_above rC_unsureWords rC_unsureWorths), (arI rC_kind kC_kind 18 fC_kind), (arI rC_parts kC_parts 18 fC_parts), (arI rC_partNodes kC_partNodes 72 fC_partNodes), (arI rC_weights kC_weights 72 fC_weights), (arI rC_weightSums kC_weightSums 18 fC_weightSums), (oc5 oS rS_worths rS_order rS_left), (arI rS_worths kS_worths 18 fS_worths), (arI rS_order kS_order 72 fS_order), (oc2 oH iH_breaths iH_heardBits iH_cutCount iH_halfBreaths iH_halfQuestions rH_heardWords rH_cutParts), (arI rH_heardWords kH_heardWords 512 fH_heardWords), (arI rH_cutParts kH_cutParts 512 fH_cutParts)] sz) [(oc6 oK oR oC oS oT rK_images iK_imageCount oA oH oL iK_refusal iK_latestFault iK_latestPlace), (oc1 oC iC_nodes iC_words iC_chances iC_unsures iC_slips iC_throneNode iC_saidWorth iC_unit rC_kind rC_parts rC_partNodes rC_weights rC_weightSums rC_toldWorths rC_steps rC_below rC_above rC_unsureWords rC_unsureWorths), (arI rC_kind kC_kind 18 fC_kind), (arI rC_parts kC_parts 18 fC_parts), (arI rC_partNodes kC_partNodes 72 fC_partNodes), (arI rC_weights kC_weights 72 fC_weights), (arI rC_weightSums kC_weightSums 18 fC_weightSums), (oc5 oS rS_worths rS_order rS_left), (arI rS_worths kS_worths 18 fS_worths), (arI rS_order kS_order 72 fS_order), (oc2 oH niH_breaths niH_heardBits niH_cutCount iH_halfBreaths iH_halfQuestions rH_heardWords rH_cutParts), (arI rH_heardWords kH_heardWords 512 nfH_heardWords), (arI rH_cutParts kH_cutParts 512 nfH_cutParts)] [(kC_kind, .int), (kC_parts, .int), (kC_partNodes, .int), (kC_weights, .int), (kC_weightSums, .int), (kS_worths, .int), (kS_order, .int), (kH_heardWords, .int), (kH_cutParts, .int)] t) (va_A [(oc6 oK oR oC oS oT rK_images iK_imageCount oA oH oL iK_refusal iK_latestFault iK_latestPlace), (oc1 oC iC_nodes iC_words iC_chances iC_unsures iC_slips iC_throneNode iC_saidWorth iC_unit rC_kind rC_parts rC_partNodes rC_weights rC_weightSums rC_toldWorths rC_steps rC_below rC_above rC_unsureWords rC_unsureWorths), (arI rC_kind kC_kind 18 fC_kind), (arI rC_parts kC_parts 18 fC_parts), (arI rC_partNodes kC_partNodes 72 fC_partNodes), (arI rC_weights kC_weights 72 fC_weights), (arI rC_weightSums kC_weightSums 18 fC_weightSums), (oc5 oS rS_worths rS_order rS_left), (arI rS_worths kS_worths 18 fS_worths), (arI rS_order kS_order 72 fS_order), (oc2 oH iH_breaths iH_heardBits iH_cutCount iH_halfBreaths iH_halfQuestions rH_heardWords rH_cutParts), (arI rH_heardWords kH_heardWords 512 fH_heardWords), (arI rH_cutParts kH_cutParts 512 fH_cutParts)] sz)) 0 0 (va_A [(oc6 oK oR oC oS oT rK_images iK_imageCount oA oH oL iK_refusal iK_latestFault iK_latestPlace), (oc1 oC iC_nodes iC_words iC_chances iC_unsures iC_slips iC_throneNode iC_saidWorth iC_unit rC_kind rC_parts rC_partNodes rC_weights rC_weightSums rC_toldWorths rC_steps rC_below rC_above rC_unsureWords rC_unsureWorths), (arI rC_kind kC_kind 18 fC_kind), (arI rC_parts kC_parts 18 fC_parts), (arI rC_partNodes kC_partNodes 72 fC_partNodes), (arI rC_weights kC_weights 72 fC_weights), (arI rC_weightSums kC_weightSums 18 fC_weightSums), (oc5 oS rS_worths rS_order rS_left), (arI rS_worths kS_worths 18 fS_worths), (arI rS_order kS_order 72 fS_order), (oc2 oH iH_breaths iH_heardBits iH_cutCount iH_halfBreaths iH_halfQuestions rH_heardWords rH_cutParts), (arI rH_heardWords kH_heardWords 512 fH_heardWords), (arI rH_cutParts kH_cutParts 512 fH_cutParts)] sz) := by
  refine Met.ofW (cc := cX6_unheardWord) (maxL := 4) (ret := (some .int)) pnX6 rfl ?_
  intro p e s m args below meth c s₁ B hml hv
  obtain ⟨rfl, hsz, hP, hK, hD0, hE⟩ := hv
  have hx := B.exec
  have hb := B.bytes
  have hr := B.returns
  have hts : ∀ w ∈ wG, w.before ([.ref oK, .int p0] : List Value).toArray s = true := fun w h => atoms_spec (ws := Cond.code yX6_unheardWord cX6_unheardWord 4 (some .int) :: wG) B.pre w (List.mem_cons_of_mem _ h)
  have hown : s.vm.findClass RX6 = some m.cls := own_of B.named rfl
  have hlocks := B.notSynchronized
  subst hsz
  have hD := hD0.self (sz := s.heap.size)
  generalize hAe : va_A [(oc6 oK oR oC oS oT rK_images iK_imageCount oA oH oL iK_refusal iK_latestFault iK_latestPlace), (oc1 oC iC_nodes iC_words iC_chances iC_unsures iC_slips iC_throneNode iC_saidWorth iC_unit rC_kind rC_parts rC_partNodes rC_weights rC_weightSums rC_toldWorths rC_steps rC_below rC_above rC_unsureWords rC_unsureWorths), (arI rC_kind kC_kind 18 fC_kind), (arI rC_parts kC_parts 18 fC_parts), (arI rC_partNodes kC_partNodes 72 fC_partNodes), (arI rC_weights kC_weights 72 fC_weights), (arI rC_weightSums kC_weightSums 18 fC_weightSums), (oc5 oS rS_worths rS_order rS_left), (arI rS_worths kS_worths 18 fS_worths), (arI rS_order kS_order 72 fS_order), (oc2 oH iH_breaths iH_heardBits iH_cutCount iH_halfBreaths iH_halfQuestions rH_heardWords rH_cutParts), (arI rH_heardWords kH_heardWords 512 fH_heardWords), (arI rH_cutParts kH_cutParts 512 fH_cutParts)] s.heap.size = A at hD hE ⊢
  have hA : ∀ q : Nat, s.heap.size ≤ q → A q := fun q h => by rw [← hAe]; exact Or.inr h
  have hS : va_S A s.heap s.heap [] := va_S.rf
  have hl := lv_entry ([.ref oK, .int p0]) (n := 4) (Nat.le_of_ble_eq_true rfl)
  rw [lg_entry_eq]
  generalize (lg_sl ([.ref oK, .int p0]) ++ List.replicate (4 - (lg_sl ([.ref oK, .int p0])).length) Slot.unset).toArray = ls at hl ⊢
  have hl : lv_has ls 4 [(0, .ref oK), (1, .int p0)] := hl
  have rg_p0 := fb_rng p0
  refine lv_aload_n hx hb dX6_unheardWord_0 rfl (lv_at hl 0 rfl) ?_
  refine va_get (D := (dC, dI)) (ci := 6) (v := .ref oH) (C := RX6) (T := TX6) (N := 12) hx hb hts inX6 hown hK hP 0 rfl rfl 7 (by decide) (hts _ wd_34) (fun _ h9 => h9) rfl dX6_unheardWord_1 ?_
  refine lv_aload_n hx hb dX6_unheardWord_4 rfl (lv_at hl 0 rfl) ?_
  refine va_get (D := (dC, dI)) (ci := 6) (v := .ref oC) (C := RX6) (T := TX6) (N := 12) hx hb hts inX6 hown hK hP 0 rfl rfl 1 (by decide) (hts _ wd_20) (fun _ h9 => h9) rfl dX6_unheardWord_5 ?_
  refine lv_aload_n hx hb dX6_unheardWord_8 rfl (lv_at hl 0 rfl) ?_
  refine va_get (D := (dC, dI)) (ci := 6) (v := .ref oS) (C := RX6) (T := TX6) (N := 12) hx hb hts inX6 hown hK hP 0 rfl rfl 2 (by decide) (hts _ wd_24) (fun _ h9 => h9) rfl dX6_unheardWord_9 ?_
  have hFc := va_free (wc := [(oc2 oH iH_breaths iH_heardBits iH_cutCount iH_halfBreaths iH_halfQuestions rH_heardWords rH_cutParts), (arI rH_heardWords kH_heardWords 512 fH_heardWords), (arI rH_cutParts kH_cutParts 512 fH_cutParts), (oc1 oC iC_nodes iC_words iC_chances iC_unsures iC_slips iC_throneNode iC_saidWorth iC_unit rC_kind rC_parts rC_partNodes rC_weights rC_weightSums rC_toldWorths rC_steps rC_below rC_above rC_unsureWords rC_unsureWorths), (arI rC_kind kC_kind 18 fC_kind), (arI rC_parts kC_parts 18 fC_parts), (arI rC_partNodes kC_partNodes 72 fC_partNodes), (arI rC_weights kC_weights 72 fC_weights), (arI rC_weightSums kC_weightSums 18 fC_weightSums), (oc5 oS rS_worths rS_order rS_left), (arI rS_worths kS_worths 18 fS_worths), (arI rS_order kS_order 72 fS_order)]) hD hS hA [10, 11, 12, 1, 2, 3, 4, 5, 6, 7, 8, 9] rfl
  refine va_calli (va_runV (As := [.ref oC, .ref oS]) (rest := []) ⟨hx, hb, hml, hown, hts⟩ (tX2_breathsFreely l dC dI _ oH iH_breaths iH_heardBits iH_cutCount iH_halfBreaths iH_halfQuestions rH_heardWords fH_heardWords kH_heardWords rH_cutParts fH_cutParts kH_cutParts oC iC_nodes iC_words iC_chances iC_unsures iC_slips iC_throneNode iC_saidWorth iC_unit rC_kind fC_kind kC_kind rC_parts fC_parts kC_parts rC_partNodes fC_partNodes kC_partNodes rC_weights fC_weights kC_weights rC_weightSums fC_weightSums kC_weightSums rC_toldWorths rC_steps rC_below rC_above rC_unsureWords rC_unsureWorths oS rS_worths fS_worths kS_worths rS_order fS_order kS_order rS_left b_iH_breaths b_iH_cutCount b_iC_nodes b_iC_unsures b_iC_throneNode a_fC_parts a_fC_partNodes a_fS_order) (cwV 2 hts (wd_V wd_714 wd_715 wd_716 wd_33 (wd_c wd_717)) rfl rfl rfl dv_yX2_breathsFreely_2 ⟨Nat.le_of_ble_eq_true rfl, Nat.le_of_ble_eq_true rfl⟩) ⟨Pw.fb, recvX2 hK hP (q0 := 10) rfl, fun U hU hW => Pw.to (hP.sub [10, 11, 12, 1, 2, 3, 4, 5, 6, 7, 8, 9] rfl) (hD.sub [10, 11, 12, 1, 2, 3, 4, 5, 6, 7, 8, 9] (by decide) rfl) (hK.sub [7, 8, 0, 1, 2, 3, 4, 5, 6] rfl) hE hS hFc hU hW⟩ rfl rfl hl.1 rfl (lv_room (Nat.le_of_ble_eq_true rfl)) dX6_unheardWord_12 ⟨Nat.le_of_ble_eq_true rfl, Nat.le_of_ble_eq_true rfl⟩) hS (fun q _ h => hFc q h) hFc (fun r u t H locs ht hvm hw hB hz1 hk1 hS => ?_)
  refine ex_5_2 hB (fun x_6662 x_6663 x_6664 f_6665 f_6666 b_x_6662 b_x_6664 hB => ?_)
  obtain ⟨hP, hD, hK⟩ := Bw.go (ws' := [(oc6 oK oR oC oS oT rK_images iK_imageCount oA oH oL iK_refusal iK_latestFault iK_latestPlace), (oc2 oH x_6662 x_6663 x_6664 iH_halfBreaths iH_halfQuestions rH_heardWords rH_cutParts), (arI rH_heardWords kH_heardWords 512 f_6665), (arI rH_cutParts kH_cutParts 512 f_6666), (oc1 oC iC_nodes iC_words iC_chances iC_unsures iC_slips iC_throneNode iC_saidWorth iC_unit rC_kind rC_parts rC_partNodes rC_weights rC_weightSums rC_toldWorths rC_steps rC_below rC_above rC_unsureWords rC_unsureWorths), (arI rC_kind kC_kind 18 fC_kind), (arI rC_parts kC_parts 18 fC_parts), (arI rC_partNodes kC_partNodes 72 fC_partNodes), (arI rC_weights kC_weights 72 fC_weights), (arI rC_weightSums kC_weightSums 18 fC_weightSums), (oc5 oS rS_worths rS_order rS_left), (arI rS_worths kS_worths 18 fS_worths), (arI rS_order kS_order 72 fS_order)]) (tys' := [(kH_heardWords, .int), (kH_cutParts, .int), (kC_kind, .int), (kC_parts, .int), (kC_partNodes, .int), (kC_weights, .int), (kC_weightSums, .int), (kS_worths, .int), (kS_order, .int)]) hB rfl ht hvm hP hD hK [10, 11, 12, 1, 2, 3, 4, 5, 6, 7, 8, 9] [0] rfl (by decide) (by decide) [] hk1 hFc rfl rfl rfl
  clear hz1 hk1 hvm ht hB
  have rg_x_6662 := fb_rng x_6662
  have rg_x_6663 := fb_rng x_6663
  have rg_x_6664 := fb_rng x_6664
  obtain ⟨x_6667, rfl⟩ : ∃ z, z = r := ⟨_, rfl⟩
  have rg_x_6667 := fb_rng x_6667
  refine lv_pop hx hb dX6_unheardWord_15 rfl ?_
  refine lv_iconst (v := 0) hx hb dX6_unheardWord_16 (by decide) ?_
  refine lv_istore_n (lv' := [(2, .int 0), (0, .ref oK), (1, .int p0)]) hx hb dX6_unheardWord_17 rfl hl (by decide) rfl (fun ls hl => ?_)
  refine lv_iconst (v := 0) hx hb dX6_unheardWord_18 (by decide) ?_
  refine lv_istore_n (lv' := [(3, .int 0), (2, .int 0), (0, .ref oK), (1, .int p0)]) hx hb dX6_unheardWord_19 rfl hl (by decide) rfl (fun ls hl => ?_)
  have hl := lv_sub hl (l' := [(3, .int 0), (2, .int 0), (0, .ref oK), (1, .int p0)]) [0, 1, 2, 3] rfl
  have key_n_6670 : ∀ (n_6670 : Nat) (z_6668 : Int32) (z_6669 : Int32) (H : Heap) (locs : List Loc) (ls : Array Slot), (0 ≤ z_6668.toInt ∧ z_6668.toInt ≤ 2147483647) → (2147483647 - z_6668.toInt).toNat < n_6670 → va_P (dC, dI) vwCl [(oc6 oK oR oC oS oT rK_images iK_imageCount oA oH oL iK_refusal iK_latestFault iK_latestPlace), (oc2 oH x_6662 x_6663 x_6664 iH_halfBreaths iH_halfQuestions rH_heardWords rH_cutParts), (arI rH_heardWords kH_heardWords 512 f_6665), (arI rH_cutParts kH_cutParts 512 f_6666), (oc1 oC iC_nodes iC_words iC_chances iC_unsures iC_slips iC_throneNode iC_saidWorth iC_unit rC_kind rC_parts rC_partNodes rC_weights rC_weightSums rC_toldWorths rC_steps rC_below rC_above rC_unsureWords rC_unsureWorths), (arI rC_kind kC_kind 18 fC_kind), (arI rC_parts kC_parts 18 fC_parts), (arI rC_partNodes kC_partNodes 72 fC_partNodes), (arI rC_weights kC_weights 72 fC_weights), (arI rC_weightSums kC_weightSums 18 fC_weightSums), (oc5 oS rS_worths rS_order rS_left), (arI rS_worths kS_worths 18 fS_worths), (arI rS_order kS_order 72 fS_order)] H → va_D A [(oc6 oK oR oC oS oT rK_images iK_imageCount oA oH oL iK_refusal iK_latestFault iK_latestPlace), (oc2 oH x_6662 x_6663 x_6664 iH_halfBreaths iH_halfQuestions rH_heardWords rH_cutParts), (arI rH_heardWords kH_heardWords 512 f_6665), (arI rH_cutParts kH_cutParts 512 f_6666), (oc1 oC iC_nodes iC_words iC_chances iC_unsures iC_slips iC_throneNode iC_saidWorth iC_unit rC_kind rC_parts rC_partNodes rC_weights rC_weightSums rC_toldWorths rC_steps rC_below rC_above rC_unsureWords rC_unsureWorths), (arI rC_kind kC_kind 18 fC_kind), (arI rC_parts kC_parts 18 fC_parts), (arI rC_partNodes kC_partNodes 72 fC_partNodes), (arI rC_weights kC_weights 72 fC_weights), (arI rC_weightSums kC_weightSums 18 fC_weightSums), (oc5 oS rS_worths rS_order rS_left), (arI rS_worths kS_worths 18 fS_worths), (arI rS_order kS_order 72 fS_order)] → va_S A s.heap H locs → lv_has ls 4 [(3, .int z_6668), (2, .int z_6669), (0, .ref oK), (1, .int p0)] → W p l e (headSpec (Cond.code yX6_unheardWord cX6_unheardWord 4 (some .int) :: wG) ({ frames := 34, cells := 0, slots := 0, locals := 998 })).room s m ([.ref oK, .int p0] : List Value).toArray below meth c H locs 0 0 (MQ below (va_Qi (fun (r : Int32) (_ : Nat) => True ∧ True) (fun (_ : Nat) (t : State) => ∃ (niH_breaths : Int32) (niH_heardBits : Int32) (niH_cutCount : Int32) (nfH_heardWords : Nat → Int32) (nfH_cutParts : Nat → Int32), (0 ≤ niH_breaths.toInt ∧ niH_breaths.toInt ≤ 1000000000) ∧ (0 ≤ niH_cutCount.toInt ∧ niH_cutCount.toInt ≤ 1000000000) ∧ Bw dC dI A [(oc6 oK oR oC oS oT rK_images iK_imageCount oA oH oL iK_refusal iK_latestFault iK_latestPlace), (oc1 oC iC_nodes iC_words iC_chances iC_unsures iC_slips iC_throneNode iC_saidWorth iC_unit rC_kind rC_parts rC_partNodes rC_weights rC_weightSums rC_toldWorths rC_steps rC_below rC_above rC_unsureWords rC_unsureWorths), (arI rC_kind kC_kind 18 fC_kind), (arI rC_parts kC_parts 18 fC_parts), (arI rC_partNodes kC_partNodes 72 fC_partNodes), (arI rC_weights kC_weights 72 fC_weights), (arI rC_weightSums kC_weightSums 18 fC_weightSums), (oc5 oS rS_worths rS_order rS_left), (arI rS_worths kS_worths 18 fS_worths), (arI rS_order kS_order 72 fS_order), (oc2 oH niH_breaths niH_heardBits niH_cutCount iH_halfBreaths iH_halfQuestions rH_heardWords rH_cutParts), (arI rH_heardWords kH_heardWords 512 nfH_heardWords), (arI rH_cutParts kH_cutParts 512 nfH_cutParts)] [(kC_kind, .int), (kC_parts, .int), (kC_partNodes, .int), (kC_weights, .int), (kC_weightSums, .int), (kS_worths, .int), (kS_order, .int), (kH_heardWords, .int), (kH_cutParts, .int)] t) A) ([.ref oK, .int p0] : List Value).toArray s 0 0 A) (F0 m 20 ls []) := by
    intro n_6670
    induction n_6670 with
    | zero => intro z_6668 z_6669 H locs ls hi0_n_6670 hm; exact absurd hm (Nat.not_lt_zero _)
    | succ n_6670 ih_n_6670 =>
      intro z_6668 z_6669 H locs ls hi0_n_6670 hm_n_6670 hP hD hS hl
      have rg_z_6668 := fb_rng z_6668
      have rg_z_6669 := fb_rng z_6669
      refine lv_iload_n hx hb dX6_unheardWord_20 rfl (lv_at hl 0 rfl) ?_
      refine lv_aload_n hx hb dX6_unheardWord_21 rfl (lv_at hl 2 rfl) ?_
      refine va_get (D := (dC, dI)) (ci := 6) (v := .ref oC) (C := RX6) (T := TX6) (N := 12) hx hb hts inX6 hown hK hP 0 rfl rfl 1 (by decide) (hts _ wd_20) (fun _ h9 => h9) rfl dX6_unheardWord_22 ?_
      refine va_get (D := (dC, dI)) (ci := 1) (v := .int iC_nodes) (C := RX1) (T := TX1) (N := 19) hx hb hts inX1 hown hK hP 4 rfl rfl 0 (by decide) (hts _ wd_196) (fun _ h9 => h9) rfl dX6_unheardWord_25 ?_
      have rg_iC_nodes := fb_rng iC_nodes
      refine lv_icmp_ge (tgt := 73) hx hb dX6_unheardWord_28 (by decide) (fun c_6671 => ?_) (fun c_6671 => ?_)
      · skip
        have gc_6671 := ti_le c_6671 rfl rfl
        refine lv_iconst (v := (-1)) hx hb dX6_unheardWord_73 (by decide) ?_
        exact wq_i hx hb hr 0 ⟨trivial, trivial⟩ (fun t ht hW => ⟨x_6662, x_6663, x_6664, f_6665, f_6666, b_x_6662, b_x_6664, Bw.to (hP.sub [0, 4, 5, 6, 7, 8, 9, 10, 11, 12, 1, 2, 3] rfl) (hD.sub [0, 4, 5, 6, 7, 8, 9, 10, 11, 12, 1, 2, 3] (by decide) rfl) (hK.sub [2, 3, 4, 5, 6, 7, 8, 0, 1] rfl) ht hW⟩) hS dX6_unheardWord_74 hlocks
      · skip
        have gc_6671 := ti_nle c_6671 rfl rfl
        refine lv_aload_n hx hb dX6_unheardWord_31 rfl (lv_at hl 2 rfl) ?_
        refine va_get (D := (dC, dI)) (ci := 6) (v := .ref oC) (C := RX6) (T := TX6) (N := 12) hx hb hts inX6 hown hK hP 0 rfl rfl 1 (by decide) (hts _ wd_20) (fun _ h9 => h9) rfl dX6_unheardWord_32 ?_
        refine va_get (D := (dC, dI)) (ci := 1) (v := .ref rC_kind) (C := RX1) (T := TX1) (N := 19) hx hb hts inX1 hown hK hP 4 rfl rfl 8 (by decide) (hts _ wd_530) (fun _ h9 => h9) rfl dX6_unheardWord_35 ?_
        refine lv_iload_n hx hb dX6_unheardWord_38 rfl (lv_at hl 0 rfl) ?_
        refine va_iald hx hb hK hP 5 2 rfl rfl (ti_in rfl hi0_n_6670.1 (om_97cd4a7c b_iC_nodes.2 gc_6671)) dX6_unheardWord_39 ?_
        refine lv_topi (fun x_6672 ex_6672 => ?_)
        have rg_x_6672 := fb_rng x_6672
        have kx_6672 : (fC_kind z_6668.toNatClampNeg).toInt = x_6672.toInt := by rw [ex_6672]
        refine lv_if_ne (tgt := 67) hx hb dX6_unheardWord_40 (by decide) (fun c_6673 => ?_) (fun c_6673 => ?_)
        · skip
          have gc_6673 := ti_ne c_6673 rfl kc_0
          obtain ⟨x_6674, ex_6674⟩ : ∃ z : Int32, z = z_6668 + Int32.ofInt 1 := ⟨_, rfl⟩
          have vx_6674 : x_6674.toInt = z_6668.toInt + 1 := ti_add (y := 1) ex_6674 rfl kc_1 (om_4e4fce7e hi0_n_6670.1) (om_a32d6481 b_iC_nodes.2 gc_6671)
          refine lv_iinc (v := x_6674) (lv' := [(3, .int x_6674), (2, .int z_6669), (0, .ref oK), (1, .int p0)]) hx hb dX6_unheardWord_67 hl (k := 0) rfl ex_6674.symm (by decide) rfl (fun ls hl => ?_)
          refine lv_goto (tgt := 20) hx hb dX6_unheardWord_70 (by decide) ?_
          exact ih_n_6670 x_6674 z_6669 _ _ _  ⟨(om_83b90de5 hi0_n_6670.1 vx_6674), (om_ed8867da b_iC_nodes.2 gc_6671 vx_6674)⟩ (ms_lt hm_n_6670 (om_b9393183 vx_6674) (om_1d9fa7fb b_iC_nodes.2 gc_6671)) hP hD hS (lv_sub hl [0, 1, 2, 3] rfl)
        · skip
          have gc_6673 := ti_eq c_6673 rfl kc_0
          refine lv_aload_n hx hb dX6_unheardWord_43 rfl (lv_at hl 2 rfl) ?_
          refine va_get (D := (dC, dI)) (ci := 6) (v := .ref oH) (C := RX6) (T := TX6) (N := 12) hx hb hts inX6 hown hK hP 0 rfl rfl 7 (by decide) (hts _ wd_34) (fun _ h9 => h9) rfl dX6_unheardWord_44 ?_
          refine va_get (D := (dC, dI)) (ci := 2) (v := .int x_6663) (C := RX2) (T := TX2) (N := 7) hx hb hts inX2 hown hK hP 1 rfl rfl 1 (by decide) (hts _ wd_803) (fun _ h9 => h9) rfl dX6_unheardWord_47 ?_
          refine lv_iload_n hx hb dX6_unheardWord_50 rfl (lv_at hl 0 rfl) ?_
          refine lv_ishr hx hb dX6_unheardWord_51 ?_
          refine lv_topi (fun x_6675 ex_6675 => ?_)
          have rg_x_6675 := fb_rng x_6675
          refine lv_iconst (v := 1) hx hb dX6_unheardWord_52 (by decide) ?_
          refine lv_iand hx hb dX6_unheardWord_53 ?_
          refine lv_topi (fun x_6676 ex_6676 => ?_)
          have rg_x_6676 := fb_rng x_6676
          refine lv_if_ne (tgt := 67) hx hb dX6_unheardWord_54 (by decide) (fun c_6677 => ?_) (fun c_6677 => ?_)
          · skip
            have gc_6677 := ti_ne c_6677 rfl kc_0
            obtain ⟨x_6678, ex_6678⟩ : ∃ z : Int32, z = z_6668 + Int32.ofInt 1 := ⟨_, rfl⟩
            have vx_6678 : x_6678.toInt = z_6668.toInt + 1 := ti_add (y := 1) ex_6678 rfl kc_1 (om_4e4fce7e hi0_n_6670.1) (om_a32d6481 b_iC_nodes.2 gc_6671)
            refine lv_iinc (v := x_6678) (lv' := [(3, .int x_6678), (2, .int z_6669), (0, .ref oK), (1, .int p0)]) hx hb dX6_unheardWord_67 hl (k := 0) rfl ex_6678.symm (by decide) rfl (fun ls hl => ?_)
            refine lv_goto (tgt := 20) hx hb dX6_unheardWord_70 (by decide) ?_
            exact ih_n_6670 x_6678 z_6669 _ _ _  ⟨(om_83b90de5 hi0_n_6670.1 vx_6678), (om_ed8867da b_iC_nodes.2 gc_6671 vx_6678)⟩ (ms_lt hm_n_6670 (om_b9393183 vx_6678) (om_1d9fa7fb b_iC_nodes.2 gc_6671)) hP hD hS (lv_sub hl [0, 1, 2, 3] rfl)
          · skip
            have gc_6677 := ti_eq c_6677 rfl kc_0
            refine lv_iload_n hx hb dX6_unheardWord_57 rfl (lv_at hl 1 rfl) ?_
            refine lv_iload_n hx hb dX6_unheardWord_58 rfl (lv_at hl 3 rfl) ?_
            refine lv_icmp_ne (tgt := 64) hx hb dX6_unheardWord_59 (by decide) (fun c_6679 => ?_) (fun c_6679 => ?_)
            · skip
              have gc_6679 := ti_ne c_6679 rfl rfl
              obtain ⟨x_6680, ex_6680⟩ : ∃ z : Int32, z = z_6669 + Int32.ofInt 1 := ⟨_, rfl⟩
              have rg_x_6680 := fb_rng x_6680
              refine lv_iinc (v := x_6680) (lv' := [(2, .int x_6680), (3, .int z_6668), (0, .ref oK), (1, .int p0)]) hx hb dX6_unheardWord_64 hl (k := 1) rfl ex_6680.symm (by decide) rfl (fun ls hl => ?_)
              obtain ⟨x_6681, ex_6681⟩ : ∃ z : Int32, z = z_6668 + Int32.ofInt 1 := ⟨_, rfl⟩
              have vx_6681 : x_6681.toInt = z_6668.toInt + 1 := ti_add (y := 1) ex_6681 rfl kc_1 (om_4e4fce7e hi0_n_6670.1) (om_a32d6481 b_iC_nodes.2 gc_6671)
              refine lv_iinc (v := x_6681) (lv' := [(3, .int x_6681), (2, .int x_6680), (0, .ref oK), (1, .int p0)]) hx hb dX6_unheardWord_67 hl (k := 1) rfl ex_6681.symm (by decide) rfl (fun ls hl => ?_)
              refine lv_goto (tgt := 20) hx hb dX6_unheardWord_70 (by decide) ?_
              exact ih_n_6670 x_6681 x_6680 _ _ _  ⟨(om_83b90de5 hi0_n_6670.1 vx_6681), (om_ed8867da b_iC_nodes.2 gc_6671 vx_6681)⟩ (ms_lt hm_n_6670 (om_b9393183 vx_6681) (om_1d9fa7fb b_iC_nodes.2 gc_6671)) hP hD hS (lv_sub hl [0, 1, 2, 3] rfl)
            · skip
              have gc_6679 := ti_eq c_6679 rfl rfl
              refine lv_iload_n hx hb dX6_unheardWord_62 rfl (lv_at hl 0 rfl) ?_
              exact wq_i hx hb hr 0 ⟨trivial, trivial⟩ (fun t ht hW => ⟨x_6662, x_6663, x_6664, f_6665, f_6666, b_x_6662, b_x_6664, Bw.to (hP.sub [0, 4, 5, 6, 7, 8, 9, 10, 11, 12, 1, 2, 3] rfl) (hD.sub [0, 4, 5, 6, 7, 8, 9, 10, 11, 12, 1, 2, 3] (by decide) rfl) (hK.sub [2, 3, 4, 5, 6, 7, 8, 0, 1] rfl) ht hW⟩) hS dX6_unheardWord_63 hlocks
  exact key_n_6670 (((2147483647 - (0 : Int32).toInt).toNat) + 1) 0 0 _ _ _  ⟨(om_b1de7dbe kc_0), (om_daf17c64 kc_0)⟩ (Nat.lt_add_one _) hP hD hS hl
set_option maxHeartbeats 4000000 in
set_option maxRecDepth 100000 in
theorem tX6_feed (l : Launch) (dC : Nat → ClassId) (dI : Nat → Nat → Nat) (sz : Nat) (oK : Nat) (oR : Nat) (oC : Nat) (oS : Nat) (oT : Nat) (rK_images : Nat) (iK_imageCount : Int32) (oA : Nat) (oH : Nat) (oL : Nat) (iK_refusal : Int32) (iK_latestFault : Int32) (iK_latestPlace : Int32) (iR_faultNumber : Int32) (iR_faultPlace : Int32) (iR_tapeSize : Int32) (rR_tape : Nat) (fR_tape : Nat → Int32) (kR_tape : ClassId) (iR_end : Int32) (iR_tokenKind : Int32) (iR_tokenFrom : Int32) (iR_tokenTo : Int32) (iR_tokenName : Int64) (iR_tokenKey : Int32) (iR_tokenWhole : Int32) (oD : Nat) (iR_courtTold : Int32) (rR_names : Nat) (rR_keys : Nat) (p0 : Int32) (p1 : Int32) (p2 : Int32) (p3 : Int32) (p4 : Int32) (b_iK_imageCount : 0 ≤ iK_imageCount.toInt ∧ iK_imageCount.toInt ≤ 3) (b_iR_tapeSize : 0 ≤ iR_tapeSize.toInt ∧ iR_tapeSize.toInt ≤ 900) (b_iR_courtTold : 0 ≤ iR_courtTold.toInt ∧ iR_courtTold.toInt ≤ 1)  : Met l yX6_feed (Cond.code yX6_feed cX6_feed 6 (some .int) :: wG) ({ frames := 1, cells := 0, slots := 0, locals := 22 }) (va_Pc [.ref oK, .int p0, .int p1, .int p2, .int p3, .int p4] (Pw dC dI sz [(oc6 oK oR oC oS oT rK_images iK_imageCount oA oH oL iK_refusal iK_latestFault iK_latestPlace), (oc3 oR iR_faultNumber iR_faultPlace iR_tapeSize rR_tape iR_end iR_tokenKind iR_tokenFrom iR_tokenTo iR_tokenName iR_tokenKey iR_tokenWhole oD iR_courtTold rR_names rR_keys), (arI rR_tape kR_tape 900 fR_tape)] [(kR_tape, .byte)])) (va_Qi (fun (r : Int32) (u : Nat) => (True ∧ ((880 < iR_tapeSize.toInt ∧ r.toInt = -1) ∨ (iR_tapeSize.toInt ≤ 880 ∧ r.toInt = iR_tapeSize.toInt + 20))) ∧ r = Int32.ofNat u) (fun (u : Nat) (t : State) => ∃ (niR_tapeSize : Int32) (nfR_tape : Nat → Int32), (0 ≤ niR_tapeSize.toInt ∧ niR_tapeSize.toInt ≤ 900) ∧ ((880 < iR_tapeSize.toInt ∧ niR_tapeSize.toInt = iR_tapeSize.toInt) ∨ (iR_tapeSize.toInt ≤ 880 ∧ niR_tapeSize.toInt = iR_tapeSize.toInt + 20)) ∧ (PX6_feed iR_tapeSize fR_tape p0 p1 p2 p3 p4 = (Int32.ofNat u, niR_tapeSize, nfR_tape)) ∧ Bw dC dI (va_A [(oc6 oK oR oC oS oT rK_images iK_imageCount oA oH oL iK_refusal iK_latestFault iK_latestPlace), (oc3 oR iR_faultNumber iR_faultPlace iR_tapeSize rR_tape iR_end iR_tokenKind iR_tokenFrom iR_tokenTo iR_tokenName iR_tokenKey iR_tokenWhole oD iR_courtTold rR_names rR_keys), (arI rR_tape kR_tape 900 fR_tape)] sz) [(oc6 oK oR oC oS oT rK_images iK_imageCount oA oH oL iK_refusal iK_latestFault iK_latestPlace), (oc3 oR iR_faultNumber iR_faultPlace niR_tapeSize rR_tape iR_end iR_tokenKind iR_tokenFrom iR_tokenTo iR_tokenName iR_tokenKey iR_tokenWhole oD iR_courtTold rR_names rR_keys), (arI rR_tape kR_tape 900 nfR_tape)] [(kR_tape, .byte)] t) (va_A [(oc6 oK oR oC oS oT rK_images iK_imageCount oA oH oL iK_refusal iK_latestFault iK_latestPlace), (oc3 oR iR_faultNumber iR_faultPlace iR_tapeSize rR_tape iR_end iR_tokenKind iR_tokenFrom iR_tokenTo iR_tokenName iR_tokenKey iR_tokenWhole oD iR_courtTold rR_names rR_keys), (arI rR_tape kR_tape 900 fR_tape)] sz)) 0 0 (va_A [(oc6 oK oR oC oS oT rK_images iK_imageCount oA oH oL iK_refusal iK_latestFault iK_latestPlace), (oc3 oR iR_faultNumber iR_faultPlace iR_tapeSize rR_tape iR_end iR_tokenKind iR_tokenFrom iR_tokenTo iR_tokenName iR_tokenKey iR_tokenWhole oD iR_courtTold rR_names rR_keys), (arI rR_tape kR_tape 900 fR_tape)] sz) := by
  refine Met.ofW (cc := cX6_feed) (maxL := 6) (ret := (some .int)) pnX6 rfl ?_
  intro p e s m args below meth c s₁ B hml hv
  obtain ⟨rfl, hsz, hP, hK, hD0, hE⟩ := hv
  have hx := B.exec
  have hb := B.bytes
  have hr := B.returns
  have hts : ∀ w ∈ wG, w.before ([.ref oK, .int p0, .int p1, .int p2, .int p3, .int p4] : List Value).toArray s = true := fun w h => atoms_spec (ws := Cond.code yX6_feed cX6_feed 6 (some .int) :: wG) B.pre w (List.mem_cons_of_mem _ h)
  have hown : s.vm.findClass RX6 = some m.cls := own_of B.named rfl
  have hlocks := B.notSynchronized
  subst hsz
  have hD := hD0.self (sz := s.heap.size)
  generalize hAe : va_A [(oc6 oK oR oC oS oT rK_images iK_imageCount oA oH oL iK_refusal iK_latestFault iK_latestPlace), (oc3 oR iR_faultNumber iR_faultPlace iR_tapeSize rR_tape iR_end iR_tokenKind iR_tokenFrom iR_tokenTo iR_tokenName iR_tokenKey iR_tokenWhole oD iR_courtTold rR_names rR_keys), (arI rR_tape kR_tape 900 fR_tape)] s.heap.size = A at hD hE ⊢
  have hA : ∀ q : Nat, s.heap.size ≤ q → A q := fun q h => by rw [← hAe]; exact Or.inr h
  have hS : va_S A s.heap s.heap [] := va_S.rf
  have hl := lv_entry ([.ref oK, .int p0, .int p1, .int p2, .int p3, .int p4]) (n := 6) (Nat.le_of_ble_eq_true rfl)
  rw [lg_entry_eq]
  generalize (lg_sl ([.ref oK, .int p0, .int p1, .int p2, .int p3, .int p4]) ++ List.replicate (6 - (lg_sl ([.ref oK, .int p0, .int p1, .int p2, .int p3, .int p4])).length) Slot.unset).toArray = ls at hl ⊢
  have hl : lv_has ls 6 [(0, .ref oK), (1, .int p0), (2, .int p1), (3, .int p2), (4, .int p3), (5, .int p4)] := hl
  have hG := PX6_feed_eq iR_tapeSize fR_tape p0 p1 p2 p3 p4
  refine lv_aload_n hx hb dX6_feed_0 rfl (lv_at hl 0 rfl) ?_
  refine va_get (D := (dC, dI)) (ci := 6) (v := .ref oR) (C := RX6) (T := TX6) (N := 12) hx hb hts inX6 hown hK hP 0 rfl rfl 0 (by decide) (hts _ wd_16) (fun _ h9 => h9) rfl dX6_feed_1 ?_
  refine va_get (D := (dC, dI)) (ci := 3) (v := .int iR_tapeSize) (C := RX3) (T := TX3) (N := 15) hx hb hts inX3 hown hK hP 1 rfl rfl 2 (by decide) (hts _ wd_174) (fun _ h9 => h9) rfl dX6_feed_4 ?_
  refine lv_sipush (v := 880) hx hb dX6_feed_7 (by decide) ?_
  refine lv_icmp_le (tgt := 15) hx hb dX6_feed_10 (by decide) (fun c_6693 => ?_) (fun c_6693 => ?_)
  · skip
    have hG := hG.trans (if_pos c_6693)
    have gc_6693 := ti_le c_6693 rfl kc_880
    refine lv_aload_n hx hb dX6_feed_15 rfl (lv_at hl 0 rfl) ?_
    refine va_get (D := (dC, dI)) (ci := 6) (v := .ref oR) (C := RX6) (T := TX6) (N := 12) hx hb hts inX6 hown hK hP 0 rfl rfl 0 (by decide) (hts _ wd_16) (fun _ h9 => h9) rfl dX6_feed_16 ?_
    refine lv_iload_n hx hb dX6_feed_19 rfl (lv_at hl 1 rfl) ?_
    have hMs := ml_of hD [false, true, true] (wc := [(oc3 oR iR_faultNumber iR_faultPlace iR_tapeSize rR_tape iR_end iR_tokenKind iR_tokenFrom iR_tokenTo iR_tokenName iR_tokenKey iR_tokenWhole oD iR_courtTold rR_names rR_keys), (arI rR_tape kR_tape 900 fR_tape)]) rfl
    have hFc := va_freeM hD hS hA _ hMs
    refine va_callv (va_runV (As := [.int p0]) (rest := []) ⟨hx, hb, hml, hown, hts⟩ (tX3_putBytes l dC dI _ oR iR_faultNumber iR_faultPlace iR_tapeSize rR_tape fR_tape kR_tape iR_end iR_tokenKind iR_tokenFrom iR_tokenTo iR_tokenName iR_tokenKey iR_tokenWhole oD iR_courtTold rR_names rR_keys p0 b_iR_tapeSize b_iR_courtTold (om_26e0d5d2 gc_6693)) (cwV 1 hts (wd_V wd_175 wd_176 wd_177 wd_15 (wd_c wd_178)) rfl rfl rfl dv_yX3_putBytes_1 ⟨Nat.le_of_ble_eq_true rfl, Nat.le_of_ble_eq_true rfl⟩) ⟨Pw.fb, recvX3 hK hP (q0 := 1) rfl, fun U hU hW => Pw.to (hP.ms _ hMs) (hD.ms _ hMs) hK hE hS hFc hU hW⟩ rfl rfl hl.1 rfl (lv_room (Nat.le_of_ble_eq_true rfl)) dX6_feed_20 ⟨Nat.le_of_ble_eq_true rfl, Nat.le_of_ble_eq_true rfl⟩) hS (fun q _ h => hFc q h) hFc (fun u t H locs ht hvm hw hB hz1 hk1 hS => ?_)
    refine ex_2_3 hB (fun x_6694 f_6695 b_x_6694 e_x_6694_0 e_x_6694_1 hB => ?_)
    obtain ⟨hP, hD⟩ := Bw.goN (ws' := [(oc6 oK oR oC oS oT rK_images iK_imageCount oA oH oL iK_refusal iK_latestFault iK_latestPlace), (oc3 oR iR_faultNumber iR_faultPlace x_6694 rR_tape iR_end iR_tokenKind iR_tokenFrom iR_tokenTo iR_tokenName iR_tokenKey iR_tokenWhole oD iR_courtTold rR_names rR_keys), (arI rR_tape kR_tape 900 f_6695)]) hB rfl ht hP hD _ hMs hk1 hFc rfl
    clear hz1 hk1 hvm ht hB hMs
    have hG := hG.trans (un2_eq e_x_6694_1)
    refine lv_aload_n hx hb dX6_feed_23 rfl (lv_at hl 0 rfl) ?_
    refine va_get (D := (dC, dI)) (ci := 6) (v := .ref oR) (C := RX6) (T := TX6) (N := 12) hx hb hts inX6 hown hK hP 0 rfl rfl 0 (by decide) (hts _ wd_16) (fun _ h9 => h9) rfl dX6_feed_24 ?_
    refine lv_iload_n hx hb dX6_feed_27 rfl (lv_at hl 2 rfl) ?_
    have hMs := ml_of hD [false, true, true] (wc := [(oc3 oR iR_faultNumber iR_faultPlace x_6694 rR_tape iR_end iR_tokenKind iR_tokenFrom iR_tokenTo iR_tokenName iR_tokenKey iR_tokenWhole oD iR_courtTold rR_names rR_keys), (arI rR_tape kR_tape 900 f_6695)]) rfl
    have hFc := va_freeM hD hS hA _ hMs
    refine va_callv (va_runV (As := [.int p1]) (rest := []) ⟨hx, hb, hml, hown, hts⟩ (tX3_putBytes l dC dI _ oR iR_faultNumber iR_faultPlace x_6694 rR_tape f_6695 kR_tape iR_end iR_tokenKind iR_tokenFrom iR_tokenTo iR_tokenName iR_tokenKey iR_tokenWhole oD iR_courtTold rR_names rR_keys p1 b_x_6694 b_iR_courtTold (om_58a75ecc gc_6693 e_x_6694_0)) (cwV 1 hts (wd_V wd_175 wd_176 wd_177 wd_15 (wd_c wd_178)) rfl rfl rfl dv_yX3_putBytes_1 ⟨Nat.le_of_ble_eq_true rfl, Nat.le_of_ble_eq_true rfl⟩) ⟨Pw.fb, recvX3 hK hP (q0 := 1) rfl, fun U hU hW => Pw.to (hP.ms _ hMs) (hD.ms _ hMs) hK hE hS hFc hU hW⟩ rfl rfl hl.1 rfl (lv_room (Nat.le_of_ble_eq_true rfl)) dX6_feed_28 ⟨Nat.le_of_ble_eq_true rfl, Nat.le_of_ble_eq_true rfl⟩) hS (fun q _ h => hFc q h) hFc (fun u t H locs ht hvm hw hB hz1 hk1 hS => ?_)
    refine ex_2_3 hB (fun x_6696 f_6697 b_x_6696 e_x_6696_0 e_x_6696_1 hB => ?_)
    obtain ⟨hP, hD⟩ := Bw.goN (ws' := [(oc6 oK oR oC oS oT rK_images iK_imageCount oA oH oL iK_refusal iK_latestFault iK_latestPlace), (oc3 oR iR_faultNumber iR_faultPlace x_6696 rR_tape iR_end iR_tokenKind iR_tokenFrom iR_tokenTo iR_tokenName iR_tokenKey iR_tokenWhole oD iR_courtTold rR_names rR_keys), (arI rR_tape kR_tape 900 f_6697)]) hB rfl ht hP hD _ hMs hk1 hFc rfl
    clear hz1 hk1 hvm ht hB hMs
    have hG := hG.trans (un2_eq e_x_6696_1)
    refine lv_aload_n hx hb dX6_feed_31 rfl (lv_at hl 0 rfl) ?_
    refine va_get (D := (dC, dI)) (ci := 6) (v := .ref oR) (C := RX6) (T := TX6) (N := 12) hx hb hts inX6 hown hK hP 0 rfl rfl 0 (by decide) (hts _ wd_16) (fun _ h9 => h9) rfl dX6_feed_32 ?_
    refine lv_iload_n hx hb dX6_feed_35 rfl (lv_at hl 3 rfl) ?_
    have hMs := ml_of hD [false, true, true] (wc := [(oc3 oR iR_faultNumber iR_faultPlace x_6696 rR_tape iR_end iR_tokenKind iR_tokenFrom iR_tokenTo iR_tokenName iR_tokenKey iR_tokenWhole oD iR_courtTold rR_names rR_keys), (arI rR_tape kR_tape 900 f_6697)]) rfl
    have hFc := va_freeM hD hS hA _ hMs
    refine va_callv (va_runV (As := [.int p2]) (rest := []) ⟨hx, hb, hml, hown, hts⟩ (tX3_putBytes l dC dI _ oR iR_faultNumber iR_faultPlace x_6696 rR_tape f_6697 kR_tape iR_end iR_tokenKind iR_tokenFrom iR_tokenTo iR_tokenName iR_tokenKey iR_tokenWhole oD iR_courtTold rR_names rR_keys p2 b_x_6696 b_iR_courtTold (om_2e3bc2c7 gc_6693 e_x_6694_0 e_x_6696_0)) (cwV 1 hts (wd_V wd_175 wd_176 wd_177 wd_15 (wd_c wd_178)) rfl rfl rfl dv_yX3_putBytes_1 ⟨Nat.le_of_ble_eq_true rfl, Nat.le_of_ble_eq_true rfl⟩) ⟨Pw.fb, recvX3 hK hP (q0 := 1) rfl, fun U hU hW => Pw.to (hP.ms _ hMs) (hD.ms _ hMs) hK hE hS hFc hU hW⟩ rfl rfl hl.1 rfl (lv_room (Nat.le_of_ble_eq_true rfl)) dX6_feed_36 ⟨Nat.le_of_ble_eq_true rfl, Nat.le_of_ble_eq_true rfl⟩) hS (fun q _ h => hFc q h) hFc (fun u t H locs ht hvm hw hB hz1 hk1 hS => ?_)
    refine ex_2_3 hB (fun x_6698 f_6699 b_x_6698 e_x_6698_0 e_x_6698_1 hB => ?_)
    obtain ⟨hP, hD⟩ := Bw.goN (ws' := [(oc6 oK oR oC oS oT rK_images iK_imageCount oA oH oL iK_refusal iK_latestFault iK_latestPlace), (oc3 oR iR_faultNumber iR_faultPlace x_6698 rR_tape iR_end iR_tokenKind iR_tokenFrom iR_tokenTo iR_tokenName iR_tokenKey iR_tokenWhole oD iR_courtTold rR_names rR_keys), (arI rR_tape kR_tape 900 f_6699)]) hB rfl ht hP hD _ hMs hk1 hFc rfl
    clear hz1 hk1 hvm ht hB hMs
    have hG := hG.trans (un2_eq e_x_6698_1)
    refine lv_aload_n hx hb dX6_feed_39 rfl (lv_at hl 0 rfl) ?_
    refine va_get (D := (dC, dI)) (ci := 6) (v := .ref oR) (C := RX6) (T := TX6) (N := 12) hx hb hts inX6 hown hK hP 0 rfl rfl 0 (by decide) (hts _ wd_16) (fun _ h9 => h9) rfl dX6_feed_40 ?_
    refine lv_iload hx hb dX6_feed_43 (lv_at hl 4 rfl) ?_
    have hMs := ml_of hD [false, true, true] (wc := [(oc3 oR iR_faultNumber iR_faultPlace x_6698 rR_tape iR_end iR_tokenKind iR_tokenFrom iR_tokenTo iR_tokenName iR_tokenKey iR_tokenWhole oD iR_courtTold rR_names rR_keys), (arI rR_tape kR_tape 900 f_6699)]) rfl
    have hFc := va_freeM hD hS hA _ hMs
    refine va_callv (va_runV (As := [.int p3]) (rest := []) ⟨hx, hb, hml, hown, hts⟩ (tX3_putBytes l dC dI _ oR iR_faultNumber iR_faultPlace x_6698 rR_tape f_6699 kR_tape iR_end iR_tokenKind iR_tokenFrom iR_tokenTo iR_tokenName iR_tokenKey iR_tokenWhole oD iR_courtTold rR_names rR_keys p3 b_x_6698 b_iR_courtTold (om_017f17f3 gc_6693 e_x_6694_0 e_x_6696_0 e_x_6698_0)) (cwV 1 hts (wd_V wd_175 wd_176 wd_177 wd_15 (wd_c wd_178)) rfl rfl rfl dv_yX3_putBytes_1 ⟨Nat.le_of_ble_eq_true rfl, Nat.le_of_ble_eq_true rfl⟩) ⟨Pw.fb, recvX3 hK hP (q0 := 1) rfl, fun U hU hW => Pw.to (hP.ms _ hMs) (hD.ms _ hMs) hK hE hS hFc hU hW⟩ rfl rfl hl.1 rfl (lv_room (Nat.le_of_ble_eq_true rfl)) dX6_feed_45 ⟨Nat.le_of_ble_eq_true rfl, Nat.le_of_ble_eq_true rfl⟩) hS (fun q _ h => hFc q h) hFc (fun u t H locs ht hvm hw hB hz1 hk1 hS => ?_)
    refine ex_2_3 hB (fun x_6700 f_6701 b_x_6700 e_x_6700_0 e_x_6700_1 hB => ?_)
    obtain ⟨hP, hD⟩ := Bw.goN (ws' := [(oc6 oK oR oC oS oT rK_images iK_imageCount oA oH oL iK_refusal iK_latestFault iK_latestPlace), (oc3 oR iR_faultNumber iR_faultPlace x_6700 rR_tape iR_end iR_tokenKind iR_tokenFrom iR_tokenTo iR_tokenName iR_tokenKey iR_tokenWhole oD iR_courtTold rR_names rR_keys), (arI rR_tape kR_tape 900 f_6701)]) hB rfl ht hP hD _ hMs hk1 hFc rfl
    clear hz1 hk1 hvm ht hB hMs
    have hG := hG.trans (un2_eq e_x_6700_1)
    refine lv_aload_n hx hb dX6_feed_48 rfl (lv_at hl 0 rfl) ?_
    refine va_get (D := (dC, dI)) (ci := 6) (v := .ref oR) (C := RX6) (T := TX6) (N := 12) hx hb hts inX6 hown hK hP 0 rfl rfl 0 (by decide) (hts _ wd_16) (fun _ h9 => h9) rfl dX6_feed_49 ?_
    refine lv_iload hx hb dX6_feed_52 (lv_at hl 5 rfl) ?_
    have hMs := ml_of hD [false, true, true] (wc := [(oc3 oR iR_faultNumber iR_faultPlace x_6700 rR_tape iR_end iR_tokenKind iR_tokenFrom iR_tokenTo iR_tokenName iR_tokenKey iR_tokenWhole oD iR_courtTold rR_names rR_keys), (arI rR_tape kR_tape 900 f_6701)]) rfl
    have hFc := va_freeM hD hS hA _ hMs
    refine va_callv (va_runV (As := [.int p4]) (rest := []) ⟨hx, hb, hml, hown, hts⟩ (tX3_putBytes l dC dI _ oR iR_faultNumber iR_faultPlace x_6700 rR_tape f_6701 kR_tape iR_end iR_tokenKind iR_tokenFrom iR_tokenTo iR_tokenName iR_tokenKey iR_tokenWhole oD iR_courtTold rR_names rR_keys p4 b_x_6700 b_iR_courtTold (om_91e3ab43 gc_6693 e_x_6694_0 e_x_6696_0 e_x_6698_0 e_x_6700_0)) (cwV 1 hts (wd_V wd_175 wd_176 wd_177 wd_15 (wd_c wd_178)) rfl rfl rfl dv_yX3_putBytes_1 ⟨Nat.le_of_ble_eq_true rfl, Nat.le_of_ble_eq_true rfl⟩) ⟨Pw.fb, recvX3 hK hP (q0 := 1) rfl, fun U hU hW => Pw.to (hP.ms _ hMs) (hD.ms _ hMs) hK hE hS hFc hU hW⟩ rfl rfl hl.1 rfl (lv_room (Nat.le_of_ble_eq_true rfl)) dX6_feed_54 ⟨Nat.le_of_ble_eq_true rfl, Nat.le_of_ble_eq_true rfl⟩) hS (fun q _ h => hFc q h) hFc (fun u t H locs ht hvm hw hB hz1 hk1 hS => ?_)
    refine ex_2_3 hB (fun x_6702 f_6703 b_x_6702 e_x_6702_0 e_x_6702_1 hB => ?_)
    obtain ⟨hP, hD⟩ := Bw.goN (ws' := [(oc6 oK oR oC oS oT rK_images iK_imageCount oA oH oL iK_refusal iK_latestFault iK_latestPlace), (oc3 oR iR_faultNumber iR_faultPlace x_6702 rR_tape iR_end iR_tokenKind iR_tokenFrom iR_tokenTo iR_tokenName iR_tokenKey iR_tokenWhole oD iR_courtTold rR_names rR_keys), (arI rR_tape kR_tape 900 f_6703)]) hB rfl ht hP hD _ hMs hk1 hFc rfl
    clear hz1 hk1 hvm ht hB hMs
    have hG := hG.trans (un2_eq e_x_6702_1)
    refine lv_aload_n hx hb dX6_feed_57 rfl (lv_at hl 0 rfl) ?_
    refine va_get (D := (dC, dI)) (ci := 6) (v := .ref oR) (C := RX6) (T := TX6) (N := 12) hx hb hts inX6 hown hK hP 0 rfl rfl 0 (by decide) (hts _ wd_16) (fun _ h9 => h9) rfl dX6_feed_58 ?_
    refine va_get (D := (dC, dI)) (ci := 3) (v := .int x_6702) (C := RX3) (T := TX3) (N := 15) hx hb hts inX3 hown hK hP 1 rfl rfl 2 (by decide) (hts _ wd_174) (fun _ h9 => h9) rfl dX6_feed_61 ?_
    exact wq_i hx hb hr (cI x_6702) ⟨⟨trivial, (by first | omega | assumption)⟩, (cI_of x_6702)⟩ (fun t ht hW => ⟨x_6702, f_6703, b_x_6702, (by first | omega | decide | assumption), (cI_tup hG), Bw.to hP hD hK ht hW⟩) hS dX6_feed_64 hlocks
  · skip
    have hG := hG.trans (if_neg c_6693)
    have gc_6693 := ti_nle c_6693 rfl kc_880
    refine lv_iconst (v := (-1)) hx hb dX6_feed_13 (by decide) ?_
    exact wq_i hx hb hr (cI (-1)) ⟨⟨trivial, (by have q := kc_m1; first | omega | assumption)⟩, (cI_of (-1))⟩ (fun t ht hW => ⟨iR_tapeSize, fR_tape, b_iR_tapeSize, (by first | omega | decide | assumption), (cI_tup hG), Bw.to hP hD hK ht hW⟩) hS dX6_feed_14 hlocks
set_option maxHeartbeats 4000000 in
set_option maxRecDepth 100000 in
theorem tX6_image (l : Launch) (dC : Nat → ClassId) (dI : Nat → Nat → Nat) (sz : Nat) (oK : Nat) (oR : Nat) (oC : Nat) (oS : Nat) (oT : Nat) (rK_images : Nat) (iK_imageCount : Int32) (oA : Nat) (oH : Nat) (oL : Nat) (iK_refusal : Int32) (iK_latestFault : Int32) (iK_latestPlace : Int32) (iC_nodes : Int32) (iC_words : Int32) (iC_chances : Int32) (iC_unsures : Int32) (iC_slips : Int32) (iC_throneNode : Int32) (iC_saidWorth : Int32) (iC_unit : Int32) (rC_kind : Nat) (rC_parts : Nat) (rC_partNodes : Nat) (rC_weights : Nat) (rC_weightSums : Nat) (rC_toldWorths : Nat) (rC_steps : Nat) (rC_below : Nat) (rC_above : Nat) (rC_unsureWords : Nat) (rC_unsureWorths : Nat) (rS_worths : Nat) (fS_worths : Nat → Int32) (kS_worths : ClassId) (rS_order : Nat) (fS_order : Nat → Int32) (kS_order : ClassId) (rS_left : Nat) (oI0 : Nat) (rI0_worths : Nat) (fI0_worths : Nat → Int32) (kI0_worths : ClassId) (rI0_order : Nat) (fI0_order : Nat → Int32) (kI0_order : ClassId) (rI0_left : Nat) (oI1 : Nat) (rI1_worths : Nat) (fI1_worths : Nat → Int32) (kI1_worths : ClassId) (rI1_order : Nat) (fI1_order : Nat → Int32) (kI1_order : ClassId) (rI1_left : Nat) (oI2 : Nat) (rI2_worths : Nat) (fI2_worths : Nat → Int32) (kI2_worths : ClassId) (rI2_order : Nat) (fI2_order : Nat → Int32) (kI2_order : ClassId) (rI2_left : Nat) (kK_images : ClassId) (fK_images : Nat → Option Nat) (b_iK_imageCount : 0 ≤ iK_imageCount.toInt ∧ iK_imageCount.toInt ≤ 3) (b_iC_nodes : 0 ≤ iC_nodes.toInt ∧ iC_nodes.toInt ≤ 18) (b_iC_unsures : 0 ≤ iC_unsures.toInt ∧ iC_unsures.toInt ≤ 4) (b_iC_throneNode : (-1) ≤ iC_throneNode.toInt ∧ iC_throneNode.toInt ≤ 17) (a_fS_order : ∀ j : Nat, j < 72 → 0 ≤ (fS_order j).toInt ∧ (fS_order j).toInt ≤ 3) (a_fI0_order : ∀ j : Nat, j < 72 → 0 ≤ (fI0_order j).toInt ∧ (fI0_order j).toInt ≤ 3) (a_fI1_order : ∀ j : Nat, j < 72 → 0 ≤ (fI1_order j).toInt ∧ (fI1_order j).toInt ≤ 3) (a_fI2_order : ∀ j : Nat, j < 72 → 0 ≤ (fI2_order j).toInt ∧ (fI2_order j).toInt ≤ 3) (r_I0 : fK_images 0 = some oI0) (r_I1 : fK_images 1 = some oI1) (r_I2 : fK_images 2 = some oI2)  : Met l yX6_image (Cond.code yX6_image cX6_image 1 (some .int) :: wG) ({ frames := 2, cells := 0, slots := 0, locals := 85 }) (va_Pc [.ref oK] (Pw dC dI sz [(oc6 oK oR oC oS oT rK_images iK_imageCount oA oH oL iK_refusal iK_latestFault iK_latestPlace), (oc1 oC iC_nodes iC_words iC_chances iC_unsures iC_slips iC_throneNode iC_saidWorth iC_unit rC_kind rC_parts rC_partNodes rC_weights rC_weightSums rC_toldWorths rC_steps rC_below rC_above rC_unsureWords rC_unsureWorths), (oc5 oS rS_worths rS_order rS_left), (arI rS_worths kS_worths 18 fS_worths), (arI rS_order kS_order 72 fS_order), (oc5 oI0 rI0_worths rI0_order rI0_left), (arI rI0_worths kI0_worths 18 fI0_worths), (arI rI0_order kI0_order 72 fI0_order), (oc5 oI1 rI1_worths rI1_order rI1_left), (arI rI1_worths kI1_worths 18 fI1_worths), (arI rI1_order kI1_order 72 fI1_order), (oc5 oI2 rI2_worths rI2_order rI2_left), (arI rI2_worths kI2_worths 18 fI2_worths), (arI rI2_order kI2_order 72 fI2_order), (rK_images, .inl (kK_images, 3, .inr (.inr (.inr (.inr fK_images)))))] [(kS_worths, .int), (kS_order, .int), (kI0_worths, .int), (kI0_order, .int), (kI1_worths, .int), (kI1_order, .int), (kI2_worths, .int), (kI2_order, .int), (kK_images, .object "KingHears$Stand")])) (va_Qi (fun (r : Int32) (u : Nat) => (True ∧ True) ∧ r = Int32.ofNat u) (fun (u : Nat) (t : State) => ∃ (niK_imageCount : Int32) (niK_refusal : Int32) (nfI0_worths : Nat → Int32) (nfI0_order : Nat → Int32) (nfI1_worths : Nat → Int32) (nfI1_order : Nat → Int32) (nfI2_worths : Nat → Int32) (nfI2_order : Nat → Int32), (0 ≤ niK_imageCount.toInt ∧ niK_imageCount.toInt ≤ 3) ∧ (∀ j : Nat, j < 72 → 0 ≤ (nfI0_order j).toInt ∧ (nfI0_order j).toInt ≤ 3) ∧ (∀ j : Nat, j < 72 → 0 ≤ (nfI1_order j).toInt ∧ (nfI1_order j).toInt ≤ 3) ∧ (∀ j : Nat, j < 72 → 0 ≤ (nfI2_order j).toInt ∧ (nfI2_order j).toInt ≤ 3) ∧ (PX6_image iK_imageCount iC_nodes fS_worths fS_order fI0_worths fI0_order fI1_worths fI1_order fI2_worths fI2_order = (Int32.ofNat u, niK_imageCount, niK_refusal, nfI0_worths, nfI0_order, nfI1_worths, nfI1_order, nfI2_worths, nfI2_order)) ∧ Bw dC dI (va_A [(oc6 oK oR oC oS oT rK_images iK_imageCount oA oH oL iK_refusal iK_latestFault iK_latestPlace), (oc1 oC iC_nodes iC_words iC_chances iC_unsures iC_slips iC_throneNode iC_saidWorth iC_unit rC_kind rC_parts rC_partNodes rC_weights rC_weightSums rC_toldWorths rC_steps rC_below rC_above rC_unsureWords rC_unsureWorths), (oc5 oS rS_worths rS_order rS_left), (arI rS_worths kS_worths 18 fS_worths), (arI rS_order kS_order 72 fS_order), (oc5 oI0 rI0_worths rI0_order rI0_left), (arI rI0_worths kI0_worths 18 fI0_worths), (arI rI0_order kI0_order 72 fI0_order), (oc5 oI1 rI1_worths rI1_order rI1_left), (arI rI1_worths kI1_worths 18 fI1_worths), (arI rI1_order kI1_order 72 fI1_order), (oc5 oI2 rI2_worths rI2_order rI2_left), (arI rI2_worths kI2_worths 18 fI2_worths), (arI rI2_order kI2_order 72 fI2_order), (rK_images, .inl (kK_images, 3, .inr (.inr (.inr (.inr fK_images)))))] sz) [(oc6 oK oR oC oS oT rK_images niK_imageCount oA oH oL niK_refusal iK_latestFault iK_latestPlace), (oc1 oC iC_nodes iC_words iC_chances iC_unsures iC_slips iC_throneNode iC_saidWorth iC_unit rC_kind rC_parts rC_partNodes rC_weights rC_weightSums rC_toldWorths rC_steps rC_below rC_above rC_unsureWords rC_unsureWorths), (oc5 oS rS_worths rS_order rS_left), (arI rS_worths kS_worths 18 fS_worths), (arI rS_order kS_order 72 fS_order), (oc5 oI0 rI0_worths rI0_order rI0_left), (arI rI0_worths kI0_worths 18 nfI0_worths), (arI rI0_order kI0_order 72 nfI0_order), (oc5 oI1 rI1_worths rI1_order rI1_left), (arI rI1_worths kI1_worths 18 nfI1_worths), (arI rI1_order kI1_order 72 nfI1_order), (oc5 oI2 rI2_worths rI2_order rI2_left), (arI rI2_worths kI2_worths 18 nfI2_worths), (arI rI2_order kI2_order 72 nfI2_order), (rK_images, .inl (kK_images, 3, .inr (.inr (.inr (.inr fK_images)))))] [(kS_worths, .int), (kS_order, .int), (kI0_worths, .int), (kI0_order, .int), (kI1_worths, .int), (kI1_order, .int), (kI2_worths, .int), (kI2_order, .int), (kK_images, .object "KingHears$Stand")] t) (va_A [(oc6 oK oR oC oS oT rK_images iK_imageCount oA oH oL iK_refusal iK_latestFault iK_latestPlace), (oc1 oC iC_nodes iC_words iC_chances iC_unsures iC_slips iC_throneNode iC_saidWorth iC_unit rC_kind rC_parts rC_partNodes rC_weights rC_weightSums rC_toldWorths rC_steps rC_below rC_above rC_unsureWords rC_unsureWorths), (oc5 oS rS_worths rS_order rS_left), (arI rS_worths kS_worths 18 fS_worths), (arI rS_order kS_order 72 fS_order), (oc5 oI0 rI0_worths rI0_order rI0_left), (arI rI0_worths kI0_worths 18 fI0_worths), (arI rI0_order kI0_order 72 fI0_order), (oc5 oI1 rI1_worths rI1_order rI1_left), (arI rI1_worths kI1_worths 18 fI1_worths), (arI rI1_order kI1_order 72 fI1_order), (oc5 oI2 rI2_worths rI2_order rI2_left), (arI rI2_worths kI2_worths 18 fI2_worths), (arI rI2_order kI2_order 72 fI2_order), (rK_images, .inl (kK_images, 3, .inr (.inr (.inr (.inr fK_images)))))] sz)) 0 0 (va_A [(oc6 oK oR oC oS oT rK_images iK_imageCount oA oH oL iK_refusal iK_latestFault iK_latestPlace), (oc1 oC iC_nodes iC_words iC_chances iC_unsures iC_slips iC_throneNode iC_saidWorth iC_unit rC_kind rC_parts rC_partNodes rC_weights rC_weightSums rC_toldWorths rC_steps rC_below rC_above rC_unsureWords rC_unsureWorths), (oc5 oS rS_worths rS_order rS_left), (arI rS_worths kS_worths 18 fS_worths), (arI rS_order kS_order 72 fS_order), (oc5 oI0 rI0_worths rI0_order rI0_left), (arI rI0_worths kI0_worths 18 fI0_worths), (arI rI0_order kI0_order 72 fI0_order), (oc5 oI1 rI1_worths rI1_order rI1_left), (arI rI1_worths kI1_worths 18 fI1_worths), (arI rI1_order kI1_order 72 fI1_order), (oc5 oI2 rI2_worths rI2_order rI2_left), (arI rI2_worths kI2_worths 18 fI2_worths), (arI rI2_order kI2_order 72 fI2_order), (rK_images, .inl (kK_images, 3, .inr (.inr (.inr (.inr fK_images)))))] sz) := by
  refine Met.ofW (cc := cX6_image) (maxL := 1) (ret := (some .int)) pnX6 rfl ?_
  intro p e s m args below meth c s₁ B hml hv
  obtain ⟨rfl, hsz, hP, hK, hD0, hE⟩ := hv
  have hx := B.exec
  have hb := B.bytes
  have hr := B.returns
  have hts : ∀ w ∈ wG, w.before ([.ref oK] : List Value).toArray s = true := fun w h => atoms_spec (ws := Cond.code yX6_image cX6_image 1 (some .int) :: wG) B.pre w (List.mem_cons_of_mem _ h)
  have hown : s.vm.findClass RX6 = some m.cls := own_of B.named rfl
  have hlocks := B.notSynchronized
  subst hsz
  have hD := hD0.self (sz := s.heap.size)
  generalize hAe : va_A [(oc6 oK oR oC oS oT rK_images iK_imageCount oA oH oL iK_refusal iK_latestFault iK_latestPlace), (oc1 oC iC_nodes iC_words iC_chances iC_unsures iC_slips iC_throneNode iC_saidWorth iC_unit rC_kind rC_parts rC_partNodes rC_weights rC_weightSums rC_toldWorths rC_steps rC_below rC_above rC_unsureWords rC_unsureWorths), (oc5 oS rS_worths rS_order rS_left), (arI rS_worths kS_worths 18 fS_worths), (arI rS_order kS_order 72 fS_order), (oc5 oI0 rI0_worths rI0_order rI0_left), (arI rI0_worths kI0_worths 18 fI0_worths), (arI rI0_order kI0_order 72 fI0_order), (oc5 oI1 rI1_worths rI1_order rI1_left), (arI rI1_worths kI1_worths 18 fI1_worths), (arI rI1_order kI1_order 72 fI1_order), (oc5 oI2 rI2_worths rI2_order rI2_left), (arI rI2_worths kI2_worths 18 fI2_worths), (arI rI2_order kI2_order 72 fI2_order), (rK_images, .inl (kK_images, 3, .inr (.inr (.inr (.inr fK_images)))))] s.heap.size = A at hD hE ⊢
  have hA : ∀ q : Nat, s.heap.size ≤ q → A q := fun q h => by rw [← hAe]; exact Or.inr h
  have hS : va_S A s.heap s.heap [] := va_S.rf
  have hl := lv_entry ([.ref oK]) (n := 1) (Nat.le_of_ble_eq_true rfl)
  rw [lg_entry_eq]
  generalize (lg_sl ([.ref oK]) ++ List.replicate (1 - (lg_sl ([.ref oK])).length) Slot.unset).toArray = ls at hl ⊢
  have hl : lv_has ls 1 [(0, .ref oK)] := hl
  have hG := PX6_image_eq iK_imageCount iC_nodes fS_worths fS_order fI0_worths fI0_order fI1_worths fI1_order fI2_worths fI2_order
  refine lv_aload_n hx hb dX6_image_0 rfl (lv_at hl 0 rfl) ?_
  have hMs := ml_of hD [true, true, false, false, false, false, false, false, false, false, false, false, false, false, false] (wc := [(oc6 oK oR oC oS oT rK_images iK_imageCount oA oH oL iK_refusal iK_latestFault iK_latestPlace), (oc1 oC iC_nodes iC_words iC_chances iC_unsures iC_slips iC_throneNode iC_saidWorth iC_unit rC_kind rC_parts rC_partNodes rC_weights rC_weightSums rC_toldWorths rC_steps rC_below rC_above rC_unsureWords rC_unsureWorths)]) rfl
  have hFc := va_freeM hD hS hA _ hMs
  refine va_calli (va_runV (As := []) (rest := []) ⟨hx, hb, hml, hown, hts⟩ (tX6_lacksCourt l dC dI _ oK oR oC oS oT rK_images iK_imageCount oA oH oL iK_refusal iK_latestFault iK_latestPlace iC_nodes iC_words iC_chances iC_unsures iC_slips iC_throneNode iC_saidWorth iC_unit rC_kind rC_parts rC_partNodes rC_weights rC_weightSums rC_toldWorths rC_steps rC_below rC_above rC_unsureWords rC_unsureWorths b_iK_imageCount b_iC_nodes b_iC_unsures b_iC_throneNode) (cwV 0 hts (wd_V wd_596 wd_597 wd_598 wd_2 (wd_c wd_599)) rfl rfl rfl dv_yX6_lacksCourt_0 ⟨Nat.le_of_ble_eq_true rfl, Nat.le_of_ble_eq_true rfl⟩) ⟨Pw.fb, recvX6 hK hP (q0 := 0) rfl, fun U hU hW => Pw.to (hP.ms _ hMs) (hD.ms _ hMs) (hK.ms [false, false, false, false, false, false, false, false, false] rfl) hE hS hFc hU hW⟩ rfl rfl hl.1 rfl (lv_room (Nat.le_of_ble_eq_true rfl)) dX6_image_1 ⟨Nat.le_of_ble_eq_true rfl, Nat.le_of_ble_eq_true rfl⟩) hS (fun q _ h => hFc q h) hFc (fun r u t H locs ht hvm hw hB hz1 hk1 hS => ?_)
  have hru9 := hw.2
  have hw := hw.1
  refine ex_1_2 hB (fun x_6723 b_x_6723 e_x_6723_0 hB => ?_)
  obtain ⟨hP, hD⟩ := Bw.goN (ws' := [(oc6 oK oR oC oS oT rK_images iK_imageCount oA oH oL x_6723 iK_latestFault iK_latestPlace), (oc1 oC iC_nodes iC_words iC_chances iC_unsures iC_slips iC_throneNode iC_saidWorth iC_unit rC_kind rC_parts rC_partNodes rC_weights rC_weightSums rC_toldWorths rC_steps rC_below rC_above rC_unsureWords rC_unsureWorths), (oc5 oS rS_worths rS_order rS_left), (arI rS_worths kS_worths 18 fS_worths), (arI rS_order kS_order 72 fS_order), (oc5 oI0 rI0_worths rI0_order rI0_left), (arI rI0_worths kI0_worths 18 fI0_worths), (arI rI0_order kI0_order 72 fI0_order), (oc5 oI1 rI1_worths rI1_order rI1_left), (arI rI1_worths kI1_worths 18 fI1_worths), (arI rI1_order kI1_order 72 fI1_order), (oc5 oI2 rI2_worths rI2_order rI2_left), (arI rI2_worths kI2_worths 18 fI2_worths), (arI rI2_order kI2_order 72 fI2_order), (rK_images, .inl (kK_images, 3, .inr (.inr (.inr (.inr fK_images)))))]) hB rfl ht hP hD _ hMs hk1 hFc rfl
  clear hz1 hk1 hvm ht hB hMs
  rw [← hru9] at e_x_6723_0
  rcases hw.2 with ⟨rfl, hc_6724⟩ | ⟨rfl, hc_6724⟩
  · skip
    have hG := hG.trans (un2_eq e_x_6723_0)
    have hG := hG.trans (if_pos rfl)
    refine lv_if_eq (tgt := 9) hx hb dX6_image_4 (by decide) (fun _ => ?_) (fun c => absurd c (by decide))
    refine lv_aload_n hx hb dX6_image_9 rfl (lv_at hl 0 rfl) ?_
    refine va_get (D := (dC, dI)) (ci := 6) (v := .int iK_imageCount) (C := RX6) (T := TX6) (N := 12) hx hb hts inX6 hown hK hP 0 rfl rfl 5 (by decide) (hts _ wd_194) (fun _ h9 => h9) rfl dX6_image_10 ?_
    refine lv_iconst (v := 3) hx hb dX6_image_13 (by decide) ?_
    refine lv_icmp_lt (tgt := 23) hx hb dX6_image_14 (by decide) (fun c_6727 => ?_) (fun c_6727 => ?_)
    · skip
      have hG := hG.trans (if_pos c_6727)
      have gc_6727 := ti_lt c_6727 rfl kc_3
      refine lv_aload_n hx hb dX6_image_23 rfl (lv_at hl 0 rfl) ?_
      refine va_get (D := (dC, dI)) (ci := 6) (v := .ref rK_images) (C := RX6) (T := TX6) (N := 12) hx hb hts inX6 hown hK hP 0 rfl rfl 4 (by decide) (hts _ wd_26) (fun _ h9 => h9) rfl dX6_image_24 ?_
      refine lv_aload_n hx hb dX6_image_27 rfl (lv_at hl 0 rfl) ?_
      refine va_get (D := (dC, dI)) (ci := 6) (v := .int iK_imageCount) (C := RX6) (T := TX6) (N := 12) hx hb hts inX6 hown hK hP 0 rfl rfl 5 (by decide) (hts _ wd_194) (fun _ h9 => h9) rfl dX6_image_28 ?_
      refine va_aldq (C := "KingHears$Stand") hx hb hK hP 14 8 rfl rfl (ti_in rfl b_iK_imageCount.1 (om_495fbfcb gc_6727)) dX6_image_31 ?_
      rcases (show iK_imageCount.toInt = 0 ∨ iK_imageCount.toInt = 1 ∨ iK_imageCount.toInt = 2 by omega) with h_s | h_s | h_s
      · skip
        have hG := hG.trans (if_pos (show iK_imageCount = (0 : Int32) by rw [fz_eq, kc_0]; omega))
        rw [show fK_images iK_imageCount.toNatClampNeg = some oI0 from (show iK_imageCount.toNatClampNeg = 0 from by have q := ti_cl (x := iK_imageCount) rfl (by omega); omega) ▸ r_I0]
        refine W.eq (g2 := F0 m 32 ls [.ref oI0]) rfl ?_
        refine lv_aload_n hx hb dX6_image_32 rfl (lv_at hl 0 rfl) ?_
        refine va_get (D := (dC, dI)) (ci := 6) (v := .ref oS) (C := RX6) (T := TX6) (N := 12) hx hb hts inX6 hown hK hP 0 rfl rfl 2 (by decide) (hts _ wd_24) (fun _ h9 => h9) rfl dX6_image_33 ?_
        have hFc := va_free (wc := [(oc5 oI0 rI0_worths rI0_order rI0_left), (arI rI0_worths kI0_worths 18 fI0_worths), (arI rI0_order kI0_order 72 fI0_order), (oc5 oS rS_worths rS_order rS_left), (arI rS_worths kS_worths 18 fS_worths), (arI rS_order kS_order 72 fS_order)]) hD hS hA [5, 6, 7, 2, 3, 4] rfl
        refine va_callv (va_runV (As := [.ref oS]) (rest := []) ⟨hx, hb, hml, hown, hts⟩ (tX5_copyFrom l dC dI _ oI0 rI0_worths fI0_worths kI0_worths rI0_order fI0_order kI0_order rI0_left oS rS_worths fS_worths kS_worths rS_order fS_order kS_order rS_left a_fI0_order a_fS_order) (cwV 1 hts (wd_V wd_1011 wd_1012 wd_1013 wd_23 (wd_c wd_1014)) rfl rfl rfl dv_yX5_copyFrom_1 ⟨Nat.le_of_ble_eq_true rfl, Nat.le_of_ble_eq_true rfl⟩) ⟨Pw.fb, recvX5 hK hP (q0 := 5) rfl, fun U hU hW => Pw.to (hP.sub [5, 6, 7, 2, 3, 4] rfl) (hD.sub [5, 6, 7, 2, 3, 4] (by decide) rfl) (hK.sub [2, 3, 0, 1] rfl) hE hS hFc hU hW⟩ rfl rfl hl.1 rfl (lv_room (Nat.le_of_ble_eq_true rfl)) dX6_image_36 ⟨Nat.le_of_ble_eq_true rfl, Nat.le_of_ble_eq_true rfl⟩) hS (fun q _ h => hFc q h) hFc (fun u t H locs ht hvm hw hB hz1 hk1 hS => ?_)
        refine ex_2_2 hB (fun f_6728 f_6729 a_f_6729 e_f_6728_0 hB => ?_)
        obtain ⟨hP, hD, hK⟩ := Bw.go (ws' := [(oc6 oK oR oC oS oT rK_images iK_imageCount oA oH oL x_6723 iK_latestFault iK_latestPlace), (oc1 oC iC_nodes iC_words iC_chances iC_unsures iC_slips iC_throneNode iC_saidWorth iC_unit rC_kind rC_parts rC_partNodes rC_weights rC_weightSums rC_toldWorths rC_steps rC_below rC_above rC_unsureWords rC_unsureWorths), (oc5 oI1 rI1_worths rI1_order rI1_left), (arI rI1_worths kI1_worths 18 fI1_worths), (arI rI1_order kI1_order 72 fI1_order), (oc5 oI2 rI2_worths rI2_order rI2_left), (arI rI2_worths kI2_worths 18 fI2_worths), (arI rI2_order kI2_order 72 fI2_order), (rK_images, .inl (kK_images, 3, .inr (.inr (.inr (.inr fK_images))))), (oc5 oI0 rI0_worths rI0_order rI0_left), (arI rI0_worths kI0_worths 18 f_6728), (arI rI0_order kI0_order 72 f_6729), (oc5 oS rS_worths rS_order rS_left), (arI rS_worths kS_worths 18 fS_worths), (arI rS_order kS_order 72 fS_order)]) (tys' := [(kI1_worths, .int), (kI1_order, .int), (kI2_worths, .int), (kI2_order, .int), (kK_images, .object "KingHears$Stand"), (kI0_worths, .int), (kI0_order, .int), (kS_worths, .int), (kS_order, .int)]) hB rfl ht hvm hP hD hK [5, 6, 7, 2, 3, 4] [0, 1, 8, 9, 10, 11, 12, 13, 14] rfl (by decide) (by decide) [4, 5, 6, 7, 8] hk1 hFc rfl rfl rfl
        clear hz1 hk1 hvm ht hB
        have hG := hG.trans (un2_eq e_f_6728_0)
        refine lv_aload_n hx hb dX6_image_39 rfl (lv_at hl 0 rfl) ?_
        refine lv_dup hx hb dX6_image_40 rfl ?_
        refine va_get (D := (dC, dI)) (ci := 6) (v := .int iK_imageCount) (C := RX6) (T := TX6) (N := 12) hx hb hts inX6 hown hK hP 0 rfl rfl 5 (by decide) (hts _ wd_194) (fun _ h9 => h9) rfl dX6_image_41 ?_
        refine lv_iconst (v := 1) hx hb dX6_image_44 (by decide) ?_
        refine lv_iadd hx hb dX6_image_45 ?_
        refine lv_topi (fun x_6730 ex_6730 => ?_)
        have hG := hG.trans (lt_eq ex_6730)
        have vx_6730 : x_6730.toInt = iK_imageCount.toInt + 1 := ti_add ex_6730 rfl kc_1 (om_4e4fce7e b_iK_imageCount.1) (om_bf06ae8a b_iK_imageCount.2)
        refine va_put (D := (dC, dI)) (ci := 6) (v := .int x_6730) (ty := .int) (C := RX6) (T := TX6) (N := 12) hx hb hts inX6 tyX6 tyX6_ok nmX6 hown hK hP hD hS 0 rfl rfl 5 (by decide) (hts _ wd_194) (fun _ h9 => h9) rfl (by decide +kernel) rfl rfl (Nat.le_of_ble_eq_true rfl) dX6_image_46 (fun H locs hP hD hS => ?_)
        obtain ⟨hP, hD⟩ := wl2 (ws' := [(oc6 oK oR oC oS oT rK_images x_6730 oA oH oL x_6723 iK_latestFault iK_latestPlace), (oc1 oC iC_nodes iC_words iC_chances iC_unsures iC_slips iC_throneNode iC_saidWorth iC_unit rC_kind rC_parts rC_partNodes rC_weights rC_weightSums rC_toldWorths rC_steps rC_below rC_above rC_unsureWords rC_unsureWorths), (oc5 oI1 rI1_worths rI1_order rI1_left), (arI rI1_worths kI1_worths 18 fI1_worths), (arI rI1_order kI1_order 72 fI1_order), (oc5 oI2 rI2_worths rI2_order rI2_left), (arI rI2_worths kI2_worths 18 fI2_worths), (arI rI2_order kI2_order 72 fI2_order), (rK_images, .inl (kK_images, 3, .inr (.inr (.inr (.inr fK_images))))), (oc5 oI0 rI0_worths rI0_order rI0_left), (arI rI0_worths kI0_worths 18 f_6728), (arI rI0_order kI0_order 72 f_6729), (oc5 oS rS_worths rS_order rS_left), (arI rS_worths kS_worths 18 fS_worths), (arI rS_order kS_order 72 fS_order)]) hP hD rfl
        refine lv_aload_n hx hb dX6_image_49 rfl (lv_at hl 0 rfl) ?_
        refine va_get (D := (dC, dI)) (ci := 6) (v := .int x_6730) (C := RX6) (T := TX6) (N := 12) hx hb hts inX6 hown hK hP 0 rfl rfl 5 (by decide) (hts _ wd_194) (fun _ h9 => h9) rfl dX6_image_50 ?_
        refine lv_iconst (v := 1) hx hb dX6_image_53 (by decide) ?_
        refine lv_isub hx hb dX6_image_54 ?_
        refine lv_topi (fun x_6731 ex_6731 => ?_)
        have hG := hG.trans (lt_eq ex_6731)
        have vx_6731 : x_6731.toInt = iK_imageCount.toInt := om_b1b8516a (ti_sub ex_6731 vx_6730 kc_1 (om_df8c7ace b_iK_imageCount.1) (om_b632e1fc b_iK_imageCount.2))
        exact wq_i hx hb hr (cI x_6731) ⟨⟨trivial, trivial⟩, (cI_of x_6731)⟩ (fun t ht hW => ⟨x_6730, x_6723, f_6728, f_6729, fI1_worths, fI1_order, fI2_worths, fI2_order, ⟨(om_83b90de5 b_iK_imageCount.1 vx_6730), (om_441f7b60 gc_6727 vx_6730)⟩, a_f_6729, a_fI1_order, a_fI2_order, (cI_tup hG), Bw.to (hP.sub [0, 1, 12, 13, 14, 9, 10, 11, 2, 3, 4, 5, 6, 7, 8] rfl) (hD.sub [0, 1, 12, 13, 14, 9, 10, 11, 2, 3, 4, 5, 6, 7, 8] (by decide) rfl) (hK.sub [7, 8, 5, 6, 0, 1, 2, 3, 4] rfl) ht hW⟩) hS dX6_image_55 hlocks
      · skip
        have hG := hG.trans (if_neg (show ¬ iK_imageCount = (0 : Int32) by rw [fz_eq, kc_0]; omega))
        have hG := hG.trans (if_pos (show iK_imageCount = (1 : Int32) by rw [fz_eq, kc_1]; omega))
        rw [show fK_images iK_imageCount.toNatClampNeg = some oI1 from (show iK_imageCount.toNatClampNeg = 1 from by have q := ti_cl (x := iK_imageCount) rfl (by omega); omega) ▸ r_I1]
        refine W.eq (g2 := F0 m 32 ls [.ref oI1]) rfl ?_
        refine lv_aload_n hx hb dX6_image_32 rfl (lv_at hl 0 rfl) ?_
        refine va_get (D := (dC, dI)) (ci := 6) (v := .ref oS) (C := RX6) (T := TX6) (N := 12) hx hb hts inX6 hown hK hP 0 rfl rfl 2 (by decide) (hts _ wd_24) (fun _ h9 => h9) rfl dX6_image_33 ?_
        have hFc := va_free (wc := [(oc5 oI1 rI1_worths rI1_order rI1_left), (arI rI1_worths kI1_worths 18 fI1_worths), (arI rI1_order kI1_order 72 fI1_order), (oc5 oS rS_worths rS_order rS_left), (arI rS_worths kS_worths 18 fS_worths), (arI rS_order kS_order 72 fS_order)]) hD hS hA [8, 9, 10, 2, 3, 4] rfl
        refine va_callv (va_runV (As := [.ref oS]) (rest := []) ⟨hx, hb, hml, hown, hts⟩ (tX5_copyFrom l dC dI _ oI1 rI1_worths fI1_worths kI1_worths rI1_order fI1_order kI1_order rI1_left oS rS_worths fS_worths kS_worths rS_order fS_order kS_order rS_left a_fI1_order a_fS_order) (cwV 1 hts (wd_V wd_1011 wd_1012 wd_1013 wd_23 (wd_c wd_1014)) rfl rfl rfl dv_yX5_copyFrom_1 ⟨Nat.le_of_ble_eq_true rfl, Nat.le_of_ble_eq_true rfl⟩) ⟨Pw.fb, recvX5 hK hP (q0 := 8) rfl, fun U hU hW => Pw.to (hP.sub [8, 9, 10, 2, 3, 4] rfl) (hD.sub [8, 9, 10, 2, 3, 4] (by decide) rfl) (hK.sub [4, 5, 0, 1] rfl) hE hS hFc hU hW⟩ rfl rfl hl.1 rfl (lv_room (Nat.le_of_ble_eq_true rfl)) dX6_image_36 ⟨Nat.le_of_ble_eq_true rfl, Nat.le_of_ble_eq_true rfl⟩) hS (fun q _ h => hFc q h) hFc (fun u t H locs ht hvm hw hB hz1 hk1 hS => ?_)
        refine ex_2_2 hB (fun f_6732 f_6733 a_f_6733 e_f_6732_0 hB => ?_)
        obtain ⟨hP, hD, hK⟩ := Bw.go (ws' := [(oc6 oK oR oC oS oT rK_images iK_imageCount oA oH oL x_6723 iK_latestFault iK_latestPlace), (oc1 oC iC_nodes iC_words iC_chances iC_unsures iC_slips iC_throneNode iC_saidWorth iC_unit rC_kind rC_parts rC_partNodes rC_weights rC_weightSums rC_toldWorths rC_steps rC_below rC_above rC_unsureWords rC_unsureWorths), (oc5 oI0 rI0_worths rI0_order rI0_left), (arI rI0_worths kI0_worths 18 fI0_worths), (arI rI0_order kI0_order 72 fI0_order), (oc5 oI2 rI2_worths rI2_order rI2_left), (arI rI2_worths kI2_worths 18 fI2_worths), (arI rI2_order kI2_order 72 fI2_order), (rK_images, .inl (kK_images, 3, .inr (.inr (.inr (.inr fK_images))))), (oc5 oI1 rI1_worths rI1_order rI1_left), (arI rI1_worths kI1_worths 18 f_6732), (arI rI1_order kI1_order 72 f_6733), (oc5 oS rS_worths rS_order rS_left), (arI rS_worths kS_worths 18 fS_worths), (arI rS_order kS_order 72 fS_order)]) (tys' := [(kI0_worths, .int), (kI0_order, .int), (kI2_worths, .int), (kI2_order, .int), (kK_images, .object "KingHears$Stand"), (kI1_worths, .int), (kI1_order, .int), (kS_worths, .int), (kS_order, .int)]) hB rfl ht hvm hP hD hK [8, 9, 10, 2, 3, 4] [0, 1, 5, 6, 7, 11, 12, 13, 14] rfl (by decide) (by decide) [2, 3, 6, 7, 8] hk1 hFc rfl rfl rfl
        clear hz1 hk1 hvm ht hB
        have hG := hG.trans (un2_eq e_f_6732_0)
        refine lv_aload_n hx hb dX6_image_39 rfl (lv_at hl 0 rfl) ?_
        refine lv_dup hx hb dX6_image_40 rfl ?_
        refine va_get (D := (dC, dI)) (ci := 6) (v := .int iK_imageCount) (C := RX6) (T := TX6) (N := 12) hx hb hts inX6 hown hK hP 0 rfl rfl 5 (by decide) (hts _ wd_194) (fun _ h9 => h9) rfl dX6_image_41 ?_
        refine lv_iconst (v := 1) hx hb dX6_image_44 (by decide) ?_
        refine lv_iadd hx hb dX6_image_45 ?_
        refine lv_topi (fun x_6734 ex_6734 => ?_)
        have hG := hG.trans (lt_eq ex_6734)
        have vx_6734 : x_6734.toInt = iK_imageCount.toInt + 1 := ti_add ex_6734 rfl kc_1 (om_4e4fce7e b_iK_imageCount.1) (om_bf06ae8a b_iK_imageCount.2)
        refine va_put (D := (dC, dI)) (ci := 6) (v := .int x_6734) (ty := .int) (C := RX6) (T := TX6) (N := 12) hx hb hts inX6 tyX6 tyX6_ok nmX6 hown hK hP hD hS 0 rfl rfl 5 (by decide) (hts _ wd_194) (fun _ h9 => h9) rfl (by decide +kernel) rfl rfl (Nat.le_of_ble_eq_true rfl) dX6_image_46 (fun H locs hP hD hS => ?_)
        obtain ⟨hP, hD⟩ := wl2 (ws' := [(oc6 oK oR oC oS oT rK_images x_6734 oA oH oL x_6723 iK_latestFault iK_latestPlace), (oc1 oC iC_nodes iC_words iC_chances iC_unsures iC_slips iC_throneNode iC_saidWorth iC_unit rC_kind rC_parts rC_partNodes rC_weights rC_weightSums rC_toldWorths rC_steps rC_below rC_above rC_unsureWords rC_unsureWorths), (oc5 oI0 rI0_worths rI0_order rI0_left), (arI rI0_worths kI0_worths 18 fI0_worths), (arI rI0_order kI0_order 72 fI0_order), (oc5 oI2 rI2_worths rI2_order rI2_left), (arI rI2_worths kI2_worths 18 fI2_worths), (arI rI2_order kI2_order 72 fI2_order), (rK_images, .inl (kK_images, 3, .inr (.inr (.inr (.inr fK_images))))), (oc5 oI1 rI1_worths rI1_order rI1_left), (arI rI1_worths kI1_worths 18 f_6732), (arI rI1_order kI1_order 72 f_6733), (oc5 oS rS_worths rS_order rS_left), (arI rS_worths kS_worths 18 fS_worths), (arI rS_order kS_order 72 fS_order)]) hP hD rfl
        refine lv_aload_n hx hb dX6_image_49 rfl (lv_at hl 0 rfl) ?_
        refine va_get (D := (dC, dI)) (ci := 6) (v := .int x_6734) (C := RX6) (T := TX6) (N := 12) hx hb hts inX6 hown hK hP 0 rfl rfl 5 (by decide) (hts _ wd_194) (fun _ h9 => h9) rfl dX6_image_50 ?_
        refine lv_iconst (v := 1) hx hb dX6_image_53 (by decide) ?_
        refine lv_isub hx hb dX6_image_54 ?_
        refine lv_topi (fun x_6735 ex_6735 => ?_)
        have hG := hG.trans (lt_eq ex_6735)
        have vx_6735 : x_6735.toInt = iK_imageCount.toInt := om_b1b8516a (ti_sub ex_6735 vx_6734 kc_1 (om_df8c7ace b_iK_imageCount.1) (om_b632e1fc b_iK_imageCount.2))
        exact wq_i hx hb hr (cI x_6735) ⟨⟨trivial, trivial⟩, (cI_of x_6735)⟩ (fun t ht hW => ⟨x_6734, x_6723, fI0_worths, fI0_order, f_6732, f_6733, fI2_worths, fI2_order, ⟨(om_83b90de5 b_iK_imageCount.1 vx_6734), (om_441f7b60 gc_6727 vx_6734)⟩, a_fI0_order, a_f_6733, a_fI2_order, (cI_tup hG), Bw.to (hP.sub [0, 1, 12, 13, 14, 2, 3, 4, 9, 10, 11, 5, 6, 7, 8] rfl) (hD.sub [0, 1, 12, 13, 14, 2, 3, 4, 9, 10, 11, 5, 6, 7, 8] (by decide) rfl) (hK.sub [7, 8, 0, 1, 5, 6, 2, 3, 4] rfl) ht hW⟩) hS dX6_image_55 hlocks
      · skip
        have hG := hG.trans (if_neg (show ¬ iK_imageCount = (0 : Int32) by rw [fz_eq, kc_0]; omega))
        have hG := hG.trans (if_neg (show ¬ iK_imageCount = (1 : Int32) by rw [fz_eq, kc_1]; omega))
        rw [show fK_images iK_imageCount.toNatClampNeg = some oI2 from (show iK_imageCount.toNatClampNeg = 2 from by have q := ti_cl (x := iK_imageCount) rfl (by omega); omega) ▸ r_I2]
        refine W.eq (g2 := F0 m 32 ls [.ref oI2]) rfl ?_
        refine lv_aload_n hx hb dX6_image_32 rfl (lv_at hl 0 rfl) ?_
        refine va_get (D := (dC, dI)) (ci := 6) (v := .ref oS) (C := RX6) (T := TX6) (N := 12) hx hb hts inX6 hown hK hP 0 rfl rfl 2 (by decide) (hts _ wd_24) (fun _ h9 => h9) rfl dX6_image_33 ?_
        have hFc := va_free (wc := [(oc5 oI2 rI2_worths rI2_order rI2_left), (arI rI2_worths kI2_worths 18 fI2_worths), (arI rI2_order kI2_order 72 fI2_order), (oc5 oS rS_worths rS_order rS_left), (arI rS_worths kS_worths 18 fS_worths), (arI rS_order kS_order 72 fS_order)]) hD hS hA [11, 12, 13, 2, 3, 4] rfl
        refine va_callv (va_runV (As := [.ref oS]) (rest := []) ⟨hx, hb, hml, hown, hts⟩ (tX5_copyFrom l dC dI _ oI2 rI2_worths fI2_worths kI2_worths rI2_order fI2_order kI2_order rI2_left oS rS_worths fS_worths kS_worths rS_order fS_order kS_order rS_left a_fI2_order a_fS_order) (cwV 1 hts (wd_V wd_1011 wd_1012 wd_1013 wd_23 (wd_c wd_1014)) rfl rfl rfl dv_yX5_copyFrom_1 ⟨Nat.le_of_ble_eq_true rfl, Nat.le_of_ble_eq_true rfl⟩) ⟨Pw.fb, recvX5 hK hP (q0 := 11) rfl, fun U hU hW => Pw.to (hP.sub [11, 12, 13, 2, 3, 4] rfl) (hD.sub [11, 12, 13, 2, 3, 4] (by decide) rfl) (hK.sub [6, 7, 0, 1] rfl) hE hS hFc hU hW⟩ rfl rfl hl.1 rfl (lv_room (Nat.le_of_ble_eq_true rfl)) dX6_image_36 ⟨Nat.le_of_ble_eq_true rfl, Nat.le_of_ble_eq_true rfl⟩) hS (fun q _ h => hFc q h) hFc (fun u t H locs ht hvm hw hB hz1 hk1 hS => ?_)
        refine ex_2_2 hB (fun f_6736 f_6737 a_f_6737 e_f_6736_0 hB => ?_)
        obtain ⟨hP, hD, hK⟩ := Bw.go (ws' := [(oc6 oK oR oC oS oT rK_images iK_imageCount oA oH oL x_6723 iK_latestFault iK_latestPlace), (oc1 oC iC_nodes iC_words iC_chances iC_unsures iC_slips iC_throneNode iC_saidWorth iC_unit rC_kind rC_parts rC_partNodes rC_weights rC_weightSums rC_toldWorths rC_steps rC_below rC_above rC_unsureWords rC_unsureWorths), (oc5 oI0 rI0_worths rI0_order rI0_left), (arI rI0_worths kI0_worths 18 fI0_worths), (arI rI0_order kI0_order 72 fI0_order), (oc5 oI1 rI1_worths rI1_order rI1_left), (arI rI1_worths kI1_worths 18 fI1_worths), (arI rI1_order kI1_order 72 fI1_order), (rK_images, .inl (kK_images, 3, .inr (.inr (.inr (.inr fK_images))))), (oc5 oI2 rI2_worths rI2_order rI2_left), (arI rI2_worths kI2_worths 18 f_6736), (arI rI2_order kI2_order 72 f_6737), (oc5 oS rS_worths rS_order rS_left), (arI rS_worths kS_worths 18 fS_worths), (arI rS_order kS_order 72 fS_order)]) (tys' := [(kI0_worths, .int), (kI0_order, .int), (kI1_worths, .int), (kI1_order, .int), (kK_images, .object "KingHears$Stand"), (kI2_worths, .int), (kI2_order, .int), (kS_worths, .int), (kS_order, .int)]) hB rfl ht hvm hP hD hK [11, 12, 13, 2, 3, 4] [0, 1, 5, 6, 7, 8, 9, 10, 14] rfl (by decide) (by decide) [2, 3, 4, 5, 8] hk1 hFc rfl rfl rfl
        clear hz1 hk1 hvm ht hB
        have hG := hG.trans (un2_eq e_f_6736_0)
        refine lv_aload_n hx hb dX6_image_39 rfl (lv_at hl 0 rfl) ?_
        refine lv_dup hx hb dX6_image_40 rfl ?_
        refine va_get (D := (dC, dI)) (ci := 6) (v := .int iK_imageCount) (C := RX6) (T := TX6) (N := 12) hx hb hts inX6 hown hK hP 0 rfl rfl 5 (by decide) (hts _ wd_194) (fun _ h9 => h9) rfl dX6_image_41 ?_
        refine lv_iconst (v := 1) hx hb dX6_image_44 (by decide) ?_
        refine lv_iadd hx hb dX6_image_45 ?_
        refine lv_topi (fun x_6738 ex_6738 => ?_)
        have hG := hG.trans (lt_eq ex_6738)
        have vx_6738 : x_6738.toInt = iK_imageCount.toInt + 1 := ti_add ex_6738 rfl kc_1 (om_4e4fce7e b_iK_imageCount.1) (om_bf06ae8a b_iK_imageCount.2)
        refine va_put (D := (dC, dI)) (ci := 6) (v := .int x_6738) (ty := .int) (C := RX6) (T := TX6) (N := 12) hx hb hts inX6 tyX6 tyX6_ok nmX6 hown hK hP hD hS 0 rfl rfl 5 (by decide) (hts _ wd_194) (fun _ h9 => h9) rfl (by decide +kernel) rfl rfl (Nat.le_of_ble_eq_true rfl) dX6_image_46 (fun H locs hP hD hS => ?_)
        obtain ⟨hP, hD⟩ := wl2 (ws' := [(oc6 oK oR oC oS oT rK_images x_6738 oA oH oL x_6723 iK_latestFault iK_latestPlace), (oc1 oC iC_nodes iC_words iC_chances iC_unsures iC_slips iC_throneNode iC_saidWorth iC_unit rC_kind rC_parts rC_partNodes rC_weights rC_weightSums rC_toldWorths rC_steps rC_below rC_above rC_unsureWords rC_unsureWorths), (oc5 oI0 rI0_worths rI0_order rI0_left), (arI rI0_worths kI0_worths 18 fI0_worths), (arI rI0_order kI0_order 72 fI0_order), (oc5 oI1 rI1_worths rI1_order rI1_left), (arI rI1_worths kI1_worths 18 fI1_worths), (arI rI1_order kI1_order 72 fI1_order), (rK_images, .inl (kK_images, 3, .inr (.inr (.inr (.inr fK_images))))), (oc5 oI2 rI2_worths rI2_order rI2_left), (arI rI2_worths kI2_worths 18 f_6736), (arI rI2_order kI2_order 72 f_6737), (oc5 oS rS_worths rS_order rS_left), (arI rS_worths kS_worths 18 fS_worths), (arI rS_order kS_order 72 fS_order)]) hP hD rfl
        refine lv_aload_n hx hb dX6_image_49 rfl (lv_at hl 0 rfl) ?_
        refine va_get (D := (dC, dI)) (ci := 6) (v := .int x_6738) (C := RX6) (T := TX6) (N := 12) hx hb hts inX6 hown hK hP 0 rfl rfl 5 (by decide) (hts _ wd_194) (fun _ h9 => h9) rfl dX6_image_50 ?_
        refine lv_iconst (v := 1) hx hb dX6_image_53 (by decide) ?_
        refine lv_isub hx hb dX6_image_54 ?_
        refine lv_topi (fun x_6739 ex_6739 => ?_)
        have hG := hG.trans (lt_eq ex_6739)
        have vx_6739 : x_6739.toInt = iK_imageCount.toInt := om_b1b8516a (ti_sub ex_6739 vx_6738 kc_1 (om_df8c7ace b_iK_imageCount.1) (om_b632e1fc b_iK_imageCount.2))
        exact wq_i hx hb hr (cI x_6739) ⟨⟨trivial, trivial⟩, (cI_of x_6739)⟩ (fun t ht hW => ⟨x_6738, x_6723, fI0_worths, fI0_order, fI1_worths, fI1_order, f_6736, f_6737, ⟨(om_83b90de5 b_iK_imageCount.1 vx_6738), (om_441f7b60 gc_6727 vx_6738)⟩, a_fI0_order, a_fI1_order, a_f_6737, (cI_tup hG), Bw.to (hP.sub [0, 1, 12, 13, 14, 2, 3, 4, 5, 6, 7, 9, 10, 11, 8] rfl) (hD.sub [0, 1, 12, 13, 14, 2, 3, 4, 5, 6, 7, 9, 10, 11, 8] (by decide) rfl) (hK.sub [7, 8, 0, 1, 2, 3, 5, 6, 4] rfl) ht hW⟩) hS dX6_image_55 hlocks
    · skip
      have hG := hG.trans (if_neg c_6727)
      have gc_6727 := ti_nlt c_6727 rfl kc_3
      refine lv_aload_n hx hb dX6_image_17 rfl (lv_at hl 0 rfl) ?_
      refine lv_iconst (v := 3) hx hb dX6_image_18 (by decide) ?_
      have hMs := ml_of hD [true, false, false, false, false, false, false, false, false, false, false, false, false, false, false] (wc := [(oc6 oK oR oC oS oT rK_images iK_imageCount oA oH oL x_6723 iK_latestFault iK_latestPlace)]) rfl
      have hFc := va_freeM hD hS hA _ hMs
      refine va_calli (va_runV (As := [.int 3]) (rest := []) ⟨hx, hb, hml, hown, hts⟩ (tX6_refuse l dC dI _ oK oR oC oS oT rK_images iK_imageCount oA oH oL x_6723 iK_latestFault iK_latestPlace 3 b_iK_imageCount) (cwV 1 hts (wd_V wd_197 wd_198 wd_199 wd_2 (wd_c wd_200)) rfl rfl rfl dv_yX6_refuse_1 ⟨Nat.le_of_ble_eq_true rfl, Nat.le_of_ble_eq_true rfl⟩) ⟨Pw.fb, recvX6 hK hP (q0 := 0) rfl, fun U hU hW => Pw.to (hP.ms _ hMs) (hD.ms _ hMs) (hK.ms [false, false, false, false, false, false, false, false, false] rfl) hE hS hFc hU hW⟩ rfl rfl hl.1 rfl (lv_room (Nat.le_of_ble_eq_true rfl)) dX6_image_19 ⟨Nat.le_of_ble_eq_true rfl, Nat.le_of_ble_eq_true rfl⟩) hS (fun q _ h => hFc q h) hFc (fun r u t H locs ht hvm hw hB hz1 hk1 hS => ?_)
      have hru9 := hw.2
      have hw := hw.1
      refine ex_1_1 hB (fun x_6740 e_x_6740_0 hB => ?_)
      obtain ⟨hP, hD⟩ := Bw.goN (ws' := [(oc6 oK oR oC oS oT rK_images iK_imageCount oA oH oL x_6740 iK_latestFault iK_latestPlace), (oc1 oC iC_nodes iC_words iC_chances iC_unsures iC_slips iC_throneNode iC_saidWorth iC_unit rC_kind rC_parts rC_partNodes rC_weights rC_weightSums rC_toldWorths rC_steps rC_below rC_above rC_unsureWords rC_unsureWorths), (oc5 oS rS_worths rS_order rS_left), (arI rS_worths kS_worths 18 fS_worths), (arI rS_order kS_order 72 fS_order), (oc5 oI0 rI0_worths rI0_order rI0_left), (arI rI0_worths kI0_worths 18 fI0_worths), (arI rI0_order kI0_order 72 fI0_order), (oc5 oI1 rI1_worths rI1_order rI1_left), (arI rI1_worths kI1_worths 18 fI1_worths), (arI rI1_order kI1_order 72 fI1_order), (oc5 oI2 rI2_worths rI2_order rI2_left), (arI rI2_worths kI2_worths 18 fI2_worths), (arI rI2_order kI2_order 72 fI2_order), (rK_images, .inl (kK_images, 3, .inr (.inr (.inr (.inr fK_images)))))]) hB rfl ht hP hD _ hMs hk1 hFc rfl
      clear hz1 hk1 hvm ht hB hMs
      rw [← hru9] at e_x_6740_0
      obtain ⟨x_6741, rfl⟩ : ∃ z, z = r := ⟨_, rfl⟩
      have hG := hG.trans (un2_eq e_x_6740_0)
      have ux_6741 := hw.2
      exact wq_i hx hb hr (cI x_6741) ⟨⟨trivial, trivial⟩, (cI_of x_6741)⟩ (fun t ht hW => ⟨iK_imageCount, x_6740, fI0_worths, fI0_order, fI1_worths, fI1_order, fI2_worths, fI2_order, b_iK_imageCount, a_fI0_order, a_fI1_order, a_fI2_order, (cI_tup hG), Bw.to hP hD hK ht hW⟩) hS dX6_image_22 hlocks
  · skip
    have hG := hG.trans (un2_eq e_x_6723_0)
    have hG := hG.trans (if_neg (by decide))
    refine lv_if_eq (tgt := 9) hx hb dX6_image_4 (by decide) (fun c => absurd c (by decide)) (fun _ => ?_)
    refine lv_iconst (v := (-1)) hx hb dX6_image_7 (by decide) ?_
    exact wq_i hx hb hr (cI (-1)) ⟨⟨trivial, trivial⟩, (cI_of (-1))⟩ (fun t ht hW => ⟨iK_imageCount, x_6723, fI0_worths, fI0_order, fI1_worths, fI1_order, fI2_worths, fI2_order, b_iK_imageCount, a_fI0_order, a_fI1_order, a_fI2_order, (cI_tup hG), Bw.to hP hD hK ht hW⟩) hS dX6_image_8 hlocks
set_option maxHeartbeats 4000000 in
set_option maxRecDepth 100000 in
theorem tX6_back (l : Launch) (dC : Nat → ClassId) (dI : Nat → Nat → Nat) (sz : Nat) (oK : Nat) (oR : Nat) (oC : Nat) (oS : Nat) (oT : Nat) (rK_images : Nat) (iK_imageCount : Int32) (oA : Nat) (oH : Nat) (oL : Nat) (iK_refusal : Int32) (iK_latestFault : Int32) (iK_latestPlace : Int32) (rS_worths : Nat) (fS_worths : Nat → Int32) (kS_worths : ClassId) (rS_order : Nat) (fS_order : Nat → Int32) (kS_order : ClassId) (rS_left : Nat) (iA_count : Int32) (rA_nodes : Nat) (rA_olds : Nat) (rA_says : Nat) (oI0 : Nat) (rI0_worths : Nat) (fI0_worths : Nat → Int32) (kI0_worths : ClassId) (rI0_order : Nat) (fI0_order : Nat → Int32) (kI0_order : ClassId) (rI0_left : Nat) (oI1 : Nat) (rI1_worths : Nat) (fI1_worths : Nat → Int32) (kI1_worths : ClassId) (rI1_order : Nat) (fI1_order : Nat → Int32) (kI1_order : ClassId) (rI1_left : Nat) (oI2 : Nat) (rI2_worths : Nat) (fI2_worths : Nat → Int32) (kI2_worths : ClassId) (rI2_order : Nat) (fI2_order : Nat → Int32) (kI2_order : ClassId) (rI2_left : Nat) (kK_images : ClassId) (fK_images : Nat → Option Nat) (p0 : Int32) (b_iK_imageCount : 0 ≤ iK_imageCount.toInt ∧ iK_imageCount.toInt ≤ 3) (a_fS_order : ∀ j : Nat, j < 72 → 0 ≤ (fS_order j).toInt ∧ (fS_order j).toInt ≤ 3) (b_iA_count : 0 ≤ iA_count.toInt ∧ iA_count.toInt ≤ 16) (a_fI0_order : ∀ j : Nat, j < 72 → 0 ≤ (fI0_order j).toInt ∧ (fI0_order j).toInt ≤ 3) (a_fI1_order : ∀ j : Nat, j < 72 → 0 ≤ (fI1_order j).toInt ∧ (fI1_order j).toInt ≤ 3) (a_fI2_order : ∀ j : Nat, j < 72 → 0 ≤ (fI2_order j).toInt ∧ (fI2_order j).toInt ≤ 3) (r_I0 : fK_images 0 = some oI0) (r_I1 : fK_images 1 = some oI1) (r_I2 : fK_images 2 = some oI2)  : Met l yX6_back (Cond.code yX6_back cX6_back 2 (some .boolean) :: wG) ({ frames := 2, cells := 0, slots := 0, locals := 85 }) (va_Pc [.ref oK, .int p0] (Pw dC dI sz [(oc6 oK oR oC oS oT rK_images iK_imageCount oA oH oL iK_refusal iK_latestFault iK_latestPlace), (oc5 oS rS_worths rS_order rS_left), (arI rS_worths kS_worths 18 fS_worths), (arI rS_order kS_order 72 fS_order), (oc0 oA iA_count rA_nodes rA_olds rA_says), (oc5 oI0 rI0_worths rI0_order rI0_left), (arI rI0_worths kI0_worths 18 fI0_worths), (arI rI0_order kI0_order 72 fI0_order), (oc5 oI1 rI1_worths rI1_order rI1_left), (arI rI1_worths kI1_worths 18 fI1_worths), (arI rI1_order kI1_order 72 fI1_order), (oc5 oI2 rI2_worths rI2_order rI2_left), (arI rI2_worths kI2_worths 18 fI2_worths), (arI rI2_order kI2_order 72 fI2_order), (rK_images, .inl (kK_images, 3, .inr (.inr (.inr (.inr fK_images)))))] [(kS_worths, .int), (kS_order, .int), (kI0_worths, .int), (kI0_order, .int), (kI1_worths, .int), (kI1_order, .int), (kI2_worths, .int), (kI2_order, .int), (kK_images, .object "KingHears$Stand")])) (va_Qi (fun (r : Int32) (u : Nat) => ((r = 0 ∨ r = 1) ∧ True) ∧ r = Int32.ofNat u) (fun (u : Nat) (t : State) => ∃ (niK_refusal : Int32) (nfS_worths : Nat → Int32) (nfS_order : Nat → Int32) (niA_count : Int32), (0 ≤ niK_refusal.toInt ∧ niK_refusal.toInt ≤ 1) ∧ (∀ j : Nat, j < 72 → 0 ≤ (nfS_order j).toInt ∧ (nfS_order j).toInt ≤ 3) ∧ (0 ≤ niA_count.toInt ∧ niA_count.toInt ≤ 16) ∧ (PX6_back iK_imageCount fS_worths fS_order iA_count fI0_worths fI0_order fI1_worths fI1_order fI2_worths fI2_order p0 = (Int32.ofNat u, niK_refusal, nfS_worths, nfS_order, niA_count)) ∧ Bw dC dI (va_A [(oc6 oK oR oC oS oT rK_images iK_imageCount oA oH oL iK_refusal iK_latestFault iK_latestPlace), (oc5 oS rS_worths rS_order rS_left), (arI rS_worths kS_worths 18 fS_worths), (arI rS_order kS_order 72 fS_order), (oc0 oA iA_count rA_nodes rA_olds rA_says), (oc5 oI0 rI0_worths rI0_order rI0_left), (arI rI0_worths kI0_worths 18 fI0_worths), (arI rI0_order kI0_order 72 fI0_order), (oc5 oI1 rI1_worths rI1_order rI1_left), (arI rI1_worths kI1_worths 18 fI1_worths), (arI rI1_order kI1_order 72 fI1_order), (oc5 oI2 rI2_worths rI2_order rI2_left), (arI rI2_worths kI2_worths 18 fI2_worths), (arI rI2_order kI2_order 72 fI2_order), (rK_images, .inl (kK_images, 3, .inr (.inr (.inr (.inr fK_images)))))] sz) [(oc6 oK oR oC oS oT rK_images iK_imageCount oA oH oL niK_refusal iK_latestFault iK_latestPlace), (oc5 oS rS_worths rS_order rS_left), (arI rS_worths kS_worths 18 nfS_worths), (arI rS_order kS_order 72 nfS_order), (oc0 oA niA_count rA_nodes rA_olds rA_says), (oc5 oI0 rI0_worths rI0_order rI0_left), (arI rI0_worths kI0_worths 18 fI0_worths), (arI rI0_order kI0_order 72 fI0_order), (oc5 oI1 rI1_worths rI1_order rI1_left), (arI rI1_worths kI1_worths 18 fI1_worths), (arI rI1_order kI1_order 72 fI1_order), (oc5 oI2 rI2_worths rI2_order rI2_left), (arI rI2_worths kI2_worths 18 fI2_worths), (arI rI2_order kI2_order 72 fI2_order), (rK_images, .inl (kK_images, 3, .inr (.inr (.inr (.inr fK_images)))))] [(kS_worths, .int), (kS_order, .int), (kI0_worths, .int), (kI0_order, .int), (kI1_worths, .int), (kI1_order, .int), (kI2_worths, .int), (kI2_order, .int), (kK_images, .object "KingHears$Stand")] t) (va_A [(oc6 oK oR oC oS oT rK_images iK_imageCount oA oH oL iK_refusal iK_latestFault iK_latestPlace), (oc5 oS rS_worths rS_order rS_left), (arI rS_worths kS_worths 18 fS_worths), (arI rS_order kS_order 72 fS_order), (oc0 oA iA_count rA_nodes rA_olds rA_says), (oc5 oI0 rI0_worths rI0_order rI0_left), (arI rI0_worths kI0_worths 18 fI0_worths), (arI rI0_order kI0_order 72 fI0_order), (oc5 oI1 rI1_worths rI1_order rI1_left), (arI rI1_worths kI1_worths 18 fI1_worths), (arI rI1_order kI1_order 72 fI1_order), (oc5 oI2 rI2_worths rI2_order rI2_left), (arI rI2_worths kI2_worths 18 fI2_worths), (arI rI2_order kI2_order 72 fI2_order), (rK_images, .inl (kK_images, 3, .inr (.inr (.inr (.inr fK_images)))))] sz)) 0 0 (va_A [(oc6 oK oR oC oS oT rK_images iK_imageCount oA oH oL iK_refusal iK_latestFault iK_latestPlace), (oc5 oS rS_worths rS_order rS_left), (arI rS_worths kS_worths 18 fS_worths), (arI rS_order kS_order 72 fS_order), (oc0 oA iA_count rA_nodes rA_olds rA_says), (oc5 oI0 rI0_worths rI0_order rI0_left), (arI rI0_worths kI0_worths 18 fI0_worths), (arI rI0_order kI0_order 72 fI0_order), (oc5 oI1 rI1_worths rI1_order rI1_left), (arI rI1_worths kI1_worths 18 fI1_worths), (arI rI1_order kI1_order 72 fI1_order), (oc5 oI2 rI2_worths rI2_order rI2_left), (arI rI2_worths kI2_worths 18 fI2_worths), (arI rI2_order kI2_order 72 fI2_order), (rK_images, .inl (kK_images, 3, .inr (.inr (.inr (.inr fK_images)))))] sz) := by
  refine Met.ofW (cc := cX6_back) (maxL := 2) (ret := (some .boolean)) pnX6 rfl ?_
  intro p e s m args below meth c s₁ B hml hv
  obtain ⟨rfl, hsz, hP, hK, hD0, hE⟩ := hv
  have hx := B.exec
  have hb := B.bytes
  have hr := B.returns
  have hts : ∀ w ∈ wG, w.before ([.ref oK, .int p0] : List Value).toArray s = true := fun w h => atoms_spec (ws := Cond.code yX6_back cX6_back 2 (some .boolean) :: wG) B.pre w (List.mem_cons_of_mem _ h)
  have hown : s.vm.findClass RX6 = some m.cls := own_of B.named rfl
  have hlocks := B.notSynchronized
  subst hsz
  have hD := hD0.self (sz := s.heap.size)
  generalize hAe : va_A [(oc6 oK oR oC oS oT rK_images iK_imageCount oA oH oL iK_refusal iK_latestFault iK_latestPlace), (oc5 oS rS_worths rS_order rS_left), (arI rS_worths kS_worths 18 fS_worths), (arI rS_order kS_order 72 fS_order), (oc0 oA iA_count rA_nodes rA_olds rA_says), (oc5 oI0 rI0_worths rI0_order rI0_left), (arI rI0_worths kI0_worths 18 fI0_worths), (arI rI0_order kI0_order 72 fI0_order), (oc5 oI1 rI1_worths rI1_order rI1_left), (arI rI1_worths kI1_worths 18 fI1_worths), (arI rI1_order kI1_order 72 fI1_order), (oc5 oI2 rI2_worths rI2_order rI2_left), (arI rI2_worths kI2_worths 18 fI2_worths), (arI rI2_order kI2_order 72 fI2_order), (rK_images, .inl (kK_images, 3, .inr (.inr (.inr (.inr fK_images)))))] s.heap.size = A at hD hE ⊢
  have hA : ∀ q : Nat, s.heap.size ≤ q → A q := fun q h => by rw [← hAe]; exact Or.inr h
  have hS : va_S A s.heap s.heap [] := va_S.rf
  have hl := lv_entry ([.ref oK, .int p0]) (n := 2) (Nat.le_of_ble_eq_true rfl)
  rw [lg_entry_eq]
  generalize (lg_sl ([.ref oK, .int p0]) ++ List.replicate (2 - (lg_sl ([.ref oK, .int p0])).length) Slot.unset).toArray = ls at hl ⊢
  have hl : lv_has ls 2 [(0, .ref oK), (1, .int p0)] := hl
  have hG := PX6_back_eq iK_imageCount fS_worths fS_order iA_count fI0_worths fI0_order fI1_worths fI1_order fI2_worths fI2_order p0
  refine lv_iload_n hx hb dX6_back_0 rfl (lv_at hl 1 rfl) ?_
  refine lv_if_lt (tgt := 12) hx hb dX6_back_1 (by decide) (fun c_6754 => ?_) (fun c_6754 => ?_)
  · skip
    have hG := hG.trans (if_pos c_6754)
    have gc_6754 := ti_lt c_6754 rfl kc_0
    refine lv_aload_n hx hb dX6_back_12 rfl (lv_at hl 0 rfl) ?_
    refine lv_iconst (v := 1) hx hb dX6_back_13 (by decide) ?_
    refine va_put (D := (dC, dI)) (ci := 6) (v := .int 1) (ty := .int) (C := RX6) (T := TX6) (N := 12) hx hb hts inX6 tyX6 tyX6_ok nmX6 hown hK hP hD hS 0 rfl rfl 9 (by decide) (hts _ wd_195) (fun _ h9 => h9) rfl (by decide +kernel) rfl rfl (Nat.le_of_ble_eq_true rfl) dX6_back_14 (fun H locs hP hD hS => ?_)
    obtain ⟨hP, hD⟩ := wl2 (ws' := [(oc6 oK oR oC oS oT rK_images iK_imageCount oA oH oL 1 iK_latestFault iK_latestPlace), (oc5 oS rS_worths rS_order rS_left), (arI rS_worths kS_worths 18 fS_worths), (arI rS_order kS_order 72 fS_order), (oc0 oA iA_count rA_nodes rA_olds rA_says), (oc5 oI0 rI0_worths rI0_order rI0_left), (arI rI0_worths kI0_worths 18 fI0_worths), (arI rI0_order kI0_order 72 fI0_order), (oc5 oI1 rI1_worths rI1_order rI1_left), (arI rI1_worths kI1_worths 18 fI1_worths), (arI rI1_order kI1_order 72 fI1_order), (oc5 oI2 rI2_worths rI2_order rI2_left), (arI rI2_worths kI2_worths 18 fI2_worths), (arI rI2_order kI2_order 72 fI2_order), (rK_images, .inl (kK_images, 3, .inr (.inr (.inr (.inr fK_images)))))]) hP hD rfl
    refine lv_iconst (v := 0) hx hb dX6_back_17 (by decide) ?_
    exact wq_z (v := 0) hx hb hr rfl (cI 0) ⟨⟨Or.inl rfl, trivial⟩, (cI_of 0)⟩ (fun t ht hW => ⟨1, fS_worths, fS_order, iA_count, (by decide), a_fS_order, b_iA_count, (cI_tup hG), Bw.to hP hD hK ht hW⟩) hS dX6_back_18 hlocks
  · skip
    have hG := hG.trans (if_neg c_6754)
    have gc_6754 := ti_nlt c_6754 rfl kc_0
    refine lv_iload_n hx hb dX6_back_4 rfl (lv_at hl 1 rfl) ?_
    refine lv_aload_n hx hb dX6_back_5 rfl (lv_at hl 0 rfl) ?_
    refine va_get (D := (dC, dI)) (ci := 6) (v := .int iK_imageCount) (C := RX6) (T := TX6) (N := 12) hx hb hts inX6 hown hK hP 0 rfl rfl 5 (by decide) (hts _ wd_194) (fun _ h9 => h9) rfl dX6_back_6 ?_
    refine lv_icmp_lt (tgt := 19) hx hb dX6_back_9 (by decide) (fun c_6755 => ?_) (fun c_6755 => ?_)
    · skip
      have hG := hG.trans (if_pos c_6755)
      have gc_6755 := ti_lt c_6755 rfl rfl
      refine lv_aload_n hx hb dX6_back_19 rfl (lv_at hl 0 rfl) ?_
      refine va_get (D := (dC, dI)) (ci := 6) (v := .ref oS) (C := RX6) (T := TX6) (N := 12) hx hb hts inX6 hown hK hP 0 rfl rfl 2 (by decide) (hts _ wd_24) (fun _ h9 => h9) rfl dX6_back_20 ?_
      refine lv_aload_n hx hb dX6_back_23 rfl (lv_at hl 0 rfl) ?_
      refine va_get (D := (dC, dI)) (ci := 6) (v := .ref rK_images) (C := RX6) (T := TX6) (N := 12) hx hb hts inX6 hown hK hP 0 rfl rfl 4 (by decide) (hts _ wd_26) (fun _ h9 => h9) rfl dX6_back_24 ?_
      refine lv_iload_n hx hb dX6_back_27 rfl (lv_at hl 1 rfl) ?_
      refine va_aldq (C := "KingHears$Stand") hx hb hK hP 14 8 rfl rfl (ti_in rfl gc_6754 (om_543fbe6f b_iK_imageCount.2 gc_6755)) dX6_back_28 ?_
      rcases (show p0.toInt = 0 ∨ p0.toInt = 1 ∨ p0.toInt = 2 by omega) with h_s | h_s | h_s
      · skip
        have hG := hG.trans (if_pos (show p0 = (0 : Int32) by rw [fz_eq, kc_0]; omega))
        rw [show fK_images p0.toNatClampNeg = some oI0 from (show p0.toNatClampNeg = 0 from by have q := ti_cl (x := p0) rfl (by omega); omega) ▸ r_I0]
        refine W.eq (g2 := F0 m 29 ls [.ref oI0, .ref oS]) rfl ?_
        have hMs := ml_of hD [false, true, true, true, false, true, true, true, false, false, false, false, false, false, false] (wc := [(oc5 oS rS_worths rS_order rS_left), (arI rS_worths kS_worths 18 fS_worths), (arI rS_order kS_order 72 fS_order), (oc5 oI0 rI0_worths rI0_order rI0_left), (arI rI0_worths kI0_worths 18 fI0_worths), (arI rI0_order kI0_order 72 fI0_order)]) rfl
        have hFc := va_freeM hD hS hA _ hMs
        refine va_callv (va_runV (As := [.ref oI0]) (rest := []) ⟨hx, hb, hml, hown, hts⟩ (tX5_copyFrom l dC dI _ oS rS_worths fS_worths kS_worths rS_order fS_order kS_order rS_left oI0 rI0_worths fI0_worths kI0_worths rI0_order fI0_order kI0_order rI0_left a_fS_order a_fI0_order) (cwV 1 hts (wd_V wd_1011 wd_1012 wd_1013 wd_23 (wd_c wd_1014)) rfl rfl rfl dv_yX5_copyFrom_1 ⟨Nat.le_of_ble_eq_true rfl, Nat.le_of_ble_eq_true rfl⟩) ⟨Pw.fb, recvX5 hK hP (q0 := 1) rfl, fun U hU hW => Pw.to (hP.ms _ hMs) (hD.ms _ hMs) (hK.ms [true, true, true, true, false, false, false, false, false] rfl) hE hS hFc hU hW⟩ rfl rfl hl.1 rfl (lv_room (Nat.le_of_ble_eq_true rfl)) dX6_back_29 ⟨Nat.le_of_ble_eq_true rfl, Nat.le_of_ble_eq_true rfl⟩) hS (fun q _ h => hFc q h) hFc (fun u t H locs ht hvm hw hB hz1 hk1 hS => ?_)
        refine ex_2_2 hB (fun f_6756 f_6757 a_f_6757 e_f_6756_0 hB => ?_)
        obtain ⟨hP, hD⟩ := Bw.goN (ws' := [(oc6 oK oR oC oS oT rK_images iK_imageCount oA oH oL iK_refusal iK_latestFault iK_latestPlace), (oc5 oS rS_worths rS_order rS_left), (arI rS_worths kS_worths 18 f_6756), (arI rS_order kS_order 72 f_6757), (oc0 oA iA_count rA_nodes rA_olds rA_says), (oc5 oI0 rI0_worths rI0_order rI0_left), (arI rI0_worths kI0_worths 18 fI0_worths), (arI rI0_order kI0_order 72 fI0_order), (oc5 oI1 rI1_worths rI1_order rI1_left), (arI rI1_worths kI1_worths 18 fI1_worths), (arI rI1_order kI1_order 72 fI1_order), (oc5 oI2 rI2_worths rI2_order rI2_left), (arI rI2_worths kI2_worths 18 fI2_worths), (arI rI2_order kI2_order 72 fI2_order), (rK_images, .inl (kK_images, 3, .inr (.inr (.inr (.inr fK_images)))))]) hB rfl ht hP hD _ hMs hk1 hFc rfl
        clear hz1 hk1 hvm ht hB hMs
        have hG := hG.trans (un2_eq e_f_6756_0)
        refine lv_aload_n hx hb dX6_back_32 rfl (lv_at hl 0 rfl) ?_
        refine va_get (D := (dC, dI)) (ci := 6) (v := .ref oA) (C := RX6) (T := TX6) (N := 12) hx hb hts inX6 hown hK hP 0 rfl rfl 6 (by decide) (hts _ wd_30) (fun _ h9 => h9) rfl dX6_back_33 ?_
        have hMs := ml_of hD [false, false, false, false, true, false, false, false, false, false, false, false, false, false, false] (wc := [(oc0 oA iA_count rA_nodes rA_olds rA_says)]) rfl
        have hFc := va_freeM hD hS hA _ hMs
        refine va_callv (va_runV (As := []) (rest := []) ⟨hx, hb, hml, hown, hts⟩ (tX0_forget l dC dI _ oA iA_count rA_nodes rA_olds rA_says b_iA_count) (cwV 0 hts (wd_V wd_370 wd_371 wd_372 wd_29 (wd_c wd_373)) rfl rfl rfl dv_yX0_forget_0 ⟨Nat.le_of_ble_eq_true rfl, Nat.le_of_ble_eq_true rfl⟩) ⟨Pw.fb, recvX0 hK hP (q0 := 4) rfl, fun U hU hW => Pw.to (hP.ms _ hMs) (hD.ms _ hMs) (hK.ms [false, false, false, false, false, false, false, false, false] rfl) hE hS hFc hU hW⟩ rfl rfl hl.1 rfl (lv_room (Nat.le_of_ble_eq_true rfl)) dX6_back_36 ⟨Nat.le_of_ble_eq_true rfl, Nat.le_of_ble_eq_true rfl⟩) hS (fun q _ h => hFc q h) hFc (fun u t H locs ht hvm hw hB hz1 hk1 hS => ?_)
        refine ex_1_2 hB (fun x_6758 b_x_6758 e_x_6758_0 hB => ?_)
        obtain ⟨hP, hD⟩ := Bw.goN (ws' := [(oc6 oK oR oC oS oT rK_images iK_imageCount oA oH oL iK_refusal iK_latestFault iK_latestPlace), (oc5 oS rS_worths rS_order rS_left), (arI rS_worths kS_worths 18 f_6756), (arI rS_order kS_order 72 f_6757), (oc0 oA x_6758 rA_nodes rA_olds rA_says), (oc5 oI0 rI0_worths rI0_order rI0_left), (arI rI0_worths kI0_worths 18 fI0_worths), (arI rI0_order kI0_order 72 fI0_order), (oc5 oI1 rI1_worths rI1_order rI1_left), (arI rI1_worths kI1_worths 18 fI1_worths), (arI rI1_order kI1_order 72 fI1_order), (oc5 oI2 rI2_worths rI2_order rI2_left), (arI rI2_worths kI2_worths 18 fI2_worths), (arI rI2_order kI2_order 72 fI2_order), (rK_images, .inl (kK_images, 3, .inr (.inr (.inr (.inr fK_images)))))]) hB rfl ht hP hD _ hMs hk1 hFc rfl
        clear hz1 hk1 hvm ht hB hMs
        have hG := hG.trans (lt_eq e_x_6758_0.symm)
        refine lv_aload_n hx hb dX6_back_39 rfl (lv_at hl 0 rfl) ?_
        refine lv_iconst (v := 0) hx hb dX6_back_40 (by decide) ?_
        refine va_put (D := (dC, dI)) (ci := 6) (v := .int 0) (ty := .int) (C := RX6) (T := TX6) (N := 12) hx hb hts inX6 tyX6 tyX6_ok nmX6 hown hK hP hD hS 0 rfl rfl 9 (by decide) (hts _ wd_195) (fun _ h9 => h9) rfl (by decide +kernel) rfl rfl (Nat.le_of_ble_eq_true rfl) dX6_back_41 (fun H locs hP hD hS => ?_)
        obtain ⟨hP, hD⟩ := wl2 (ws' := [(oc6 oK oR oC oS oT rK_images iK_imageCount oA oH oL 0 iK_latestFault iK_latestPlace), (oc5 oS rS_worths rS_order rS_left), (arI rS_worths kS_worths 18 f_6756), (arI rS_order kS_order 72 f_6757), (oc0 oA x_6758 rA_nodes rA_olds rA_says), (oc5 oI0 rI0_worths rI0_order rI0_left), (arI rI0_worths kI0_worths 18 fI0_worths), (arI rI0_order kI0_order 72 fI0_order), (oc5 oI1 rI1_worths rI1_order rI1_left), (arI rI1_worths kI1_worths 18 fI1_worths), (arI rI1_order kI1_order 72 fI1_order), (oc5 oI2 rI2_worths rI2_order rI2_left), (arI rI2_worths kI2_worths 18 fI2_worths), (arI rI2_order kI2_order 72 fI2_order), (rK_images, .inl (kK_images, 3, .inr (.inr (.inr (.inr fK_images)))))]) hP hD rfl
        refine lv_iconst (v := 1) hx hb dX6_back_44 (by decide) ?_
        exact wq_z (v := 1) hx hb hr rfl (cI 1) ⟨⟨Or.inr rfl, trivial⟩, (cI_of 1)⟩ (fun t ht hW => ⟨0, f_6756, f_6757, x_6758, (by decide), a_f_6757, ⟨b_x_6758.1, (om_b868baad b_x_6758.2)⟩, (cI_tup hG), Bw.to hP hD hK ht hW⟩) hS dX6_back_45 hlocks
      · skip
        have hG := hG.trans (if_neg (show ¬ p0 = (0 : Int32) by rw [fz_eq, kc_0]; omega))
        have hG := hG.trans (if_pos (show p0 = (1 : Int32) by rw [fz_eq, kc_1]; omega))
        rw [show fK_images p0.toNatClampNeg = some oI1 from (show p0.toNatClampNeg = 1 from by have q := ti_cl (x := p0) rfl (by omega); omega) ▸ r_I1]
        refine W.eq (g2 := F0 m 29 ls [.ref oI1, .ref oS]) rfl ?_
        have hMs := ml_of hD [false, true, true, true, false, false, false, false, true, true, true, false, false, false, false] (wc := [(oc5 oS rS_worths rS_order rS_left), (arI rS_worths kS_worths 18 fS_worths), (arI rS_order kS_order 72 fS_order), (oc5 oI1 rI1_worths rI1_order rI1_left), (arI rI1_worths kI1_worths 18 fI1_worths), (arI rI1_order kI1_order 72 fI1_order)]) rfl
        have hFc := va_freeM hD hS hA _ hMs
        refine va_callv (va_runV (As := [.ref oI1]) (rest := []) ⟨hx, hb, hml, hown, hts⟩ (tX5_copyFrom l dC dI _ oS rS_worths fS_worths kS_worths rS_order fS_order kS_order rS_left oI1 rI1_worths fI1_worths kI1_worths rI1_order fI1_order kI1_order rI1_left a_fS_order a_fI1_order) (cwV 1 hts (wd_V wd_1011 wd_1012 wd_1013 wd_23 (wd_c wd_1014)) rfl rfl rfl dv_yX5_copyFrom_1 ⟨Nat.le_of_ble_eq_true rfl, Nat.le_of_ble_eq_true rfl⟩) ⟨Pw.fb, recvX5 hK hP (q0 := 1) rfl, fun U hU hW => Pw.to (hP.ms _ hMs) (hD.ms _ hMs) (hK.ms [true, true, false, false, true, true, false, false, false] rfl) hE hS hFc hU hW⟩ rfl rfl hl.1 rfl (lv_room (Nat.le_of_ble_eq_true rfl)) dX6_back_29 ⟨Nat.le_of_ble_eq_true rfl, Nat.le_of_ble_eq_true rfl⟩) hS (fun q _ h => hFc q h) hFc (fun u t H locs ht hvm hw hB hz1 hk1 hS => ?_)
        refine ex_2_2 hB (fun f_6759 f_6760 a_f_6760 e_f_6759_0 hB => ?_)
        obtain ⟨hP, hD⟩ := Bw.goN (ws' := [(oc6 oK oR oC oS oT rK_images iK_imageCount oA oH oL iK_refusal iK_latestFault iK_latestPlace), (oc5 oS rS_worths rS_order rS_left), (arI rS_worths kS_worths 18 f_6759), (arI rS_order kS_order 72 f_6760), (oc0 oA iA_count rA_nodes rA_olds rA_says), (oc5 oI0 rI0_worths rI0_order rI0_left), (arI rI0_worths kI0_worths 18 fI0_worths), (arI rI0_order kI0_order 72 fI0_order), (oc5 oI1 rI1_worths rI1_order rI1_left), (arI rI1_worths kI1_worths 18 fI1_worths), (arI rI1_order kI1_order 72 fI1_order), (oc5 oI2 rI2_worths rI2_order rI2_left), (arI rI2_worths kI2_worths 18 fI2_worths), (arI rI2_order kI2_order 72 fI2_order), (rK_images, .inl (kK_images, 3, .inr (.inr (.inr (.inr fK_images)))))]) hB rfl ht hP hD _ hMs hk1 hFc rfl
        clear hz1 hk1 hvm ht hB hMs
        have hG := hG.trans (un2_eq e_f_6759_0)
        refine lv_aload_n hx hb dX6_back_32 rfl (lv_at hl 0 rfl) ?_
        refine va_get (D := (dC, dI)) (ci := 6) (v := .ref oA) (C := RX6) (T := TX6) (N := 12) hx hb hts inX6 hown hK hP 0 rfl rfl 6 (by decide) (hts _ wd_30) (fun _ h9 => h9) rfl dX6_back_33 ?_
        have hMs := ml_of hD [false, false, false, false, true, false, false, false, false, false, false, false, false, false, false] (wc := [(oc0 oA iA_count rA_nodes rA_olds rA_says)]) rfl
        have hFc := va_freeM hD hS hA _ hMs
        refine va_callv (va_runV (As := []) (rest := []) ⟨hx, hb, hml, hown, hts⟩ (tX0_forget l dC dI _ oA iA_count rA_nodes rA_olds rA_says b_iA_count) (cwV 0 hts (wd_V wd_370 wd_371 wd_372 wd_29 (wd_c wd_373)) rfl rfl rfl dv_yX0_forget_0 ⟨Nat.le_of_ble_eq_true rfl, Nat.le_of_ble_eq_true rfl⟩) ⟨Pw.fb, recvX0 hK hP (q0 := 4) rfl, fun U hU hW => Pw.to (hP.ms _ hMs) (hD.ms _ hMs) (hK.ms [false, false, false, false, false, false, false, false, false] rfl) hE hS hFc hU hW⟩ rfl rfl hl.1 rfl (lv_room (Nat.le_of_ble_eq_true rfl)) dX6_back_36 ⟨Nat.le_of_ble_eq_true rfl, Nat.le_of_ble_eq_true rfl⟩) hS (fun q _ h => hFc q h) hFc (fun u t H locs ht hvm hw hB hz1 hk1 hS => ?_)
        refine ex_1_2 hB (fun x_6761 b_x_6761 e_x_6761_0 hB => ?_)
        obtain ⟨hP, hD⟩ := Bw.goN (ws' := [(oc6 oK oR oC oS oT rK_images iK_imageCount oA oH oL iK_refusal iK_latestFault iK_latestPlace), (oc5 oS rS_worths rS_order rS_left), (arI rS_worths kS_worths 18 f_6759), (arI rS_order kS_order 72 f_6760), (oc0 oA x_6761 rA_nodes rA_olds rA_says), (oc5 oI0 rI0_worths rI0_order rI0_left), (arI rI0_worths kI0_worths 18 fI0_worths), (arI rI0_order kI0_order 72 fI0_order), (oc5 oI1 rI1_worths rI1_order rI1_left), (arI rI1_worths kI1_worths 18 fI1_worths), (arI rI1_order kI1_order 72 fI1_order), (oc5 oI2 rI2_worths rI2_order rI2_left), (arI rI2_worths kI2_worths 18 fI2_worths), (arI rI2_order kI2_order 72 fI2_order), (rK_images, .inl (kK_images, 3, .inr (.inr (.inr (.inr fK_images)))))]) hB rfl ht hP hD _ hMs hk1 hFc rfl
        clear hz1 hk1 hvm ht hB hMs
        have hG := hG.trans (lt_eq e_x_6761_0.symm)
        refine lv_aload_n hx hb dX6_back_39 rfl (lv_at hl 0 rfl) ?_
        refine lv_iconst (v := 0) hx hb dX6_back_40 (by decide) ?_
        refine va_put (D := (dC, dI)) (ci := 6) (v := .int 0) (ty := .int) (C := RX6) (T := TX6) (N := 12) hx hb hts inX6 tyX6 tyX6_ok nmX6 hown hK hP hD hS 0 rfl rfl 9 (by decide) (hts _ wd_195) (fun _ h9 => h9) rfl (by decide +kernel) rfl rfl (Nat.le_of_ble_eq_true rfl) dX6_back_41 (fun H locs hP hD hS => ?_)
        obtain ⟨hP, hD⟩ := wl2 (ws' := [(oc6 oK oR oC oS oT rK_images iK_imageCount oA oH oL 0 iK_latestFault iK_latestPlace), (oc5 oS rS_worths rS_order rS_left), (arI rS_worths kS_worths 18 f_6759), (arI rS_order kS_order 72 f_6760), (oc0 oA x_6761 rA_nodes rA_olds rA_says), (oc5 oI0 rI0_worths rI0_order rI0_left), (arI rI0_worths kI0_worths 18 fI0_worths), (arI rI0_order kI0_order 72 fI0_order), (oc5 oI1 rI1_worths rI1_order rI1_left), (arI rI1_worths kI1_worths 18 fI1_worths), (arI rI1_order kI1_order 72 fI1_order), (oc5 oI2 rI2_worths rI2_order rI2_left), (arI rI2_worths kI2_worths 18 fI2_worths), (arI rI2_order kI2_order 72 fI2_order), (rK_images, .inl (kK_images, 3, .inr (.inr (.inr (.inr fK_images)))))]) hP hD rfl
        refine lv_iconst (v := 1) hx hb dX6_back_44 (by decide) ?_
        exact wq_z (v := 1) hx hb hr rfl (cI 1) ⟨⟨Or.inr rfl, trivial⟩, (cI_of 1)⟩ (fun t ht hW => ⟨0, f_6759, f_6760, x_6761, (by decide), a_f_6760, ⟨b_x_6761.1, (om_b868baad b_x_6761.2)⟩, (cI_tup hG), Bw.to hP hD hK ht hW⟩) hS dX6_back_45 hlocks
      · skip
        have hG := hG.trans (if_neg (show ¬ p0 = (0 : Int32) by rw [fz_eq, kc_0]; omega))
        have hG := hG.trans (if_neg (show ¬ p0 = (1 : Int32) by rw [fz_eq, kc_1]; omega))
        rw [show fK_images p0.toNatClampNeg = some oI2 from (show p0.toNatClampNeg = 2 from by have q := ti_cl (x := p0) rfl (by omega); omega) ▸ r_I2]
        refine W.eq (g2 := F0 m 29 ls [.ref oI2, .ref oS]) rfl ?_
        have hMs := ml_of hD [false, true, true, true, false, false, false, false, false, false, false, true, true, true, false] (wc := [(oc5 oS rS_worths rS_order rS_left), (arI rS_worths kS_worths 18 fS_worths), (arI rS_order kS_order 72 fS_order), (oc5 oI2 rI2_worths rI2_order rI2_left), (arI rI2_worths kI2_worths 18 fI2_worths), (arI rI2_order kI2_order 72 fI2_order)]) rfl
        have hFc := va_freeM hD hS hA _ hMs
        refine va_callv (va_runV (As := [.ref oI2]) (rest := []) ⟨hx, hb, hml, hown, hts⟩ (tX5_copyFrom l dC dI _ oS rS_worths fS_worths kS_worths rS_order fS_order kS_order rS_left oI2 rI2_worths fI2_worths kI2_worths rI2_order fI2_order kI2_order rI2_left a_fS_order a_fI2_order) (cwV 1 hts (wd_V wd_1011 wd_1012 wd_1013 wd_23 (wd_c wd_1014)) rfl rfl rfl dv_yX5_copyFrom_1 ⟨Nat.le_of_ble_eq_true rfl, Nat.le_of_ble_eq_true rfl⟩) ⟨Pw.fb, recvX5 hK hP (q0 := 1) rfl, fun U hU hW => Pw.to (hP.ms _ hMs) (hD.ms _ hMs) (hK.ms [true, true, false, false, false, false, true, true, false] rfl) hE hS hFc hU hW⟩ rfl rfl hl.1 rfl (lv_room (Nat.le_of_ble_eq_true rfl)) dX6_back_29 ⟨Nat.le_of_ble_eq_true rfl, Nat.le_of_ble_eq_true rfl⟩) hS (fun q _ h => hFc q h) hFc (fun u t H locs ht hvm hw hB hz1 hk1 hS => ?_)
        refine ex_2_2 hB (fun f_6762 f_6763 a_f_6763 e_f_6762_0 hB => ?_)
        obtain ⟨hP, hD⟩ := Bw.goN (ws' := [(oc6 oK oR oC oS oT rK_images iK_imageCount oA oH oL iK_refusal iK_latestFault iK_latestPlace), (oc5 oS rS_worths rS_order rS_left), (arI rS_worths kS_worths 18 f_6762), (arI rS_order kS_order 72 f_6763), (oc0 oA iA_count rA_nodes rA_olds rA_says), (oc5 oI0 rI0_worths rI0_order rI0_left), (arI rI0_worths kI0_worths 18 fI0_worths), (arI rI0_order kI0_order 72 fI0_order), (oc5 oI1 rI1_worths rI1_order rI1_left), (arI rI1_worths kI1_worths 18 fI1_worths), (arI rI1_order kI1_order 72 fI1_order), (oc5 oI2 rI2_worths rI2_order rI2_left), (arI rI2_worths kI2_worths 18 fI2_worths), (arI rI2_order kI2_order 72 fI2_order), (rK_images, .inl (kK_images, 3, .inr (.inr (.inr (.inr fK_images)))))]) hB rfl ht hP hD _ hMs hk1 hFc rfl
        clear hz1 hk1 hvm ht hB hMs
        have hG := hG.trans (un2_eq e_f_6762_0)
        refine lv_aload_n hx hb dX6_back_32 rfl (lv_at hl 0 rfl) ?_
        refine va_get (D := (dC, dI)) (ci := 6) (v := .ref oA) (C := RX6) (T := TX6) (N := 12) hx hb hts inX6 hown hK hP 0 rfl rfl 6 (by decide) (hts _ wd_30) (fun _ h9 => h9) rfl dX6_back_33 ?_
        have hMs := ml_of hD [false, false, false, false, true, false, false, false, false, false, false, false, false, false, false] (wc := [(oc0 oA iA_count rA_nodes rA_olds rA_says)]) rfl
        have hFc := va_freeM hD hS hA _ hMs
        refine va_callv (va_runV (As := []) (rest := []) ⟨hx, hb, hml, hown, hts⟩ (tX0_forget l dC dI _ oA iA_count rA_nodes rA_olds rA_says b_iA_count) (cwV 0 hts (wd_V wd_370 wd_371 wd_372 wd_29 (wd_c wd_373)) rfl rfl rfl dv_yX0_forget_0 ⟨Nat.le_of_ble_eq_true rfl, Nat.le_of_ble_eq_true rfl⟩) ⟨Pw.fb, recvX0 hK hP (q0 := 4) rfl, fun U hU hW => Pw.to (hP.ms _ hMs) (hD.ms _ hMs) (hK.ms [false, false, false, false, false, false, false, false, false] rfl) hE hS hFc hU hW⟩ rfl rfl hl.1 rfl (lv_room (Nat.le_of_ble_eq_true rfl)) dX6_back_36 ⟨Nat.le_of_ble_eq_true rfl, Nat.le_of_ble_eq_true rfl⟩) hS (fun q _ h => hFc q h) hFc (fun u t H locs ht hvm hw hB hz1 hk1 hS => ?_)
        refine ex_1_2 hB (fun x_6764 b_x_6764 e_x_6764_0 hB => ?_)
        obtain ⟨hP, hD⟩ := Bw.goN (ws' := [(oc6 oK oR oC oS oT rK_images iK_imageCount oA oH oL iK_refusal iK_latestFault iK_latestPlace), (oc5 oS rS_worths rS_order rS_left), (arI rS_worths kS_worths 18 f_6762), (arI rS_order kS_order 72 f_6763), (oc0 oA x_6764 rA_nodes rA_olds rA_says), (oc5 oI0 rI0_worths rI0_order rI0_left), (arI rI0_worths kI0_worths 18 fI0_worths), (arI rI0_order kI0_order 72 fI0_order), (oc5 oI1 rI1_worths rI1_order rI1_left), (arI rI1_worths kI1_worths 18 fI1_worths), (arI rI1_order kI1_order 72 fI1_order), (oc5 oI2 rI2_worths rI2_order rI2_left), (arI rI2_worths kI2_worths 18 fI2_worths), (arI rI2_order kI2_order 72 fI2_order), (rK_images, .inl (kK_images, 3, .inr (.inr (.inr (.inr fK_images)))))]) hB rfl ht hP hD _ hMs hk1 hFc rfl
        clear hz1 hk1 hvm ht hB hMs
        have hG := hG.trans (lt_eq e_x_6764_0.symm)
        refine lv_aload_n hx hb dX6_back_39 rfl (lv_at hl 0 rfl) ?_
        refine lv_iconst (v := 0) hx hb dX6_back_40 (by decide) ?_
        refine va_put (D := (dC, dI)) (ci := 6) (v := .int 0) (ty := .int) (C := RX6) (T := TX6) (N := 12) hx hb hts inX6 tyX6 tyX6_ok nmX6 hown hK hP hD hS 0 rfl rfl 9 (by decide) (hts _ wd_195) (fun _ h9 => h9) rfl (by decide +kernel) rfl rfl (Nat.le_of_ble_eq_true rfl) dX6_back_41 (fun H locs hP hD hS => ?_)
        obtain ⟨hP, hD⟩ := wl2 (ws' := [(oc6 oK oR oC oS oT rK_images iK_imageCount oA oH oL 0 iK_latestFault iK_latestPlace), (oc5 oS rS_worths rS_order rS_left), (arI rS_worths kS_worths 18 f_6762), (arI rS_order kS_order 72 f_6763), (oc0 oA x_6764 rA_nodes rA_olds rA_says), (oc5 oI0 rI0_worths rI0_order rI0_left), (arI rI0_worths kI0_worths 18 fI0_worths), (arI rI0_order kI0_order 72 fI0_order), (oc5 oI1 rI1_worths rI1_order rI1_left), (arI rI1_worths kI1_worths 18 fI1_worths), (arI rI1_order kI1_order 72 fI1_order), (oc5 oI2 rI2_worths rI2_order rI2_left), (arI rI2_worths kI2_worths 18 fI2_worths), (arI rI2_order kI2_order 72 fI2_order), (rK_images, .inl (kK_images, 3, .inr (.inr (.inr (.inr fK_images)))))]) hP hD rfl
        refine lv_iconst (v := 1) hx hb dX6_back_44 (by decide) ?_
        exact wq_z (v := 1) hx hb hr rfl (cI 1) ⟨⟨Or.inr rfl, trivial⟩, (cI_of 1)⟩ (fun t ht hW => ⟨0, f_6762, f_6763, x_6764, (by decide), a_f_6763, ⟨b_x_6764.1, (om_b868baad b_x_6764.2)⟩, (cI_tup hG), Bw.to hP hD hK ht hW⟩) hS dX6_back_45 hlocks
    · skip
      have hG := hG.trans (if_neg c_6755)
      have gc_6755 := ti_nlt c_6755 rfl rfl
      refine lv_aload_n hx hb dX6_back_12 rfl (lv_at hl 0 rfl) ?_
      refine lv_iconst (v := 1) hx hb dX6_back_13 (by decide) ?_
      refine va_put (D := (dC, dI)) (ci := 6) (v := .int 1) (ty := .int) (C := RX6) (T := TX6) (N := 12) hx hb hts inX6 tyX6 tyX6_ok nmX6 hown hK hP hD hS 0 rfl rfl 9 (by decide) (hts _ wd_195) (fun _ h9 => h9) rfl (by decide +kernel) rfl rfl (Nat.le_of_ble_eq_true rfl) dX6_back_14 (fun H locs hP hD hS => ?_)
      obtain ⟨hP, hD⟩ := wl2 (ws' := [(oc6 oK oR oC oS oT rK_images iK_imageCount oA oH oL 1 iK_latestFault iK_latestPlace), (oc5 oS rS_worths rS_order rS_left), (arI rS_worths kS_worths 18 fS_worths), (arI rS_order kS_order 72 fS_order), (oc0 oA iA_count rA_nodes rA_olds rA_says), (oc5 oI0 rI0_worths rI0_order rI0_left), (arI rI0_worths kI0_worths 18 fI0_worths), (arI rI0_order kI0_order 72 fI0_order), (oc5 oI1 rI1_worths rI1_order rI1_left), (arI rI1_worths kI1_worths 18 fI1_worths), (arI rI1_order kI1_order 72 fI1_order), (oc5 oI2 rI2_worths rI2_order rI2_left), (arI rI2_worths kI2_worths 18 fI2_worths), (arI rI2_order kI2_order 72 fI2_order), (rK_images, .inl (kK_images, 3, .inr (.inr (.inr (.inr fK_images)))))]) hP hD rfl
      refine lv_iconst (v := 0) hx hb dX6_back_17 (by decide) ?_
      exact wq_z (v := 0) hx hb hr rfl (cI 0) ⟨⟨Or.inl rfl, trivial⟩, (cI_of 0)⟩ (fun t ht hW => ⟨1, fS_worths, fS_order, iA_count, (by decide), a_fS_order, b_iA_count, (cI_tup hG), Bw.to hP hD hK ht hW⟩) hS dX6_back_18 hlocks
set_option maxHeartbeats 4000000 in
set_option maxRecDepth 100000 in
theorem tX6_court (l : Launch) (dC : Nat → ClassId) (dI : Nat → Nat → Nat) (sz : Nat) (oK : Nat) (oR : Nat) (oC : Nat) (oS : Nat) (oT : Nat) (rK_images : Nat) (iK_imageCount : Int32) (oA : Nat) (oH : Nat) (oL : Nat) (iK_refusal : Int32) (iK_latestFault : Int32) (iK_latestPlace : Int32) (rS_worths : Nat) (fS_worths : Nat → Int32) (kS_worths : ClassId) (rS_order : Nat) (fS_order : Nat → Int32) (kS_order : ClassId) (rS_left : Nat) (iA_count : Int32) (rA_nodes : Nat) (rA_olds : Nat) (rA_says : Nat) (iR_faultNumber : Int32) (iR_faultPlace : Int32) (iR_tapeSize : Int32) (rR_tape : Nat) (fR_tape : Nat → Int32) (kR_tape : ClassId) (iR_end : Int32) (iR_tokenKind : Int32) (iR_tokenFrom : Int32) (iR_tokenTo : Int32) (iR_tokenName : Int64) (iR_tokenKey : Int32) (iR_tokenWhole : Int32) (oD : Nat) (iR_courtTold : Int32) (rR_names : Nat) (fR_names : Nat → Int64) (kR_names : ClassId) (rR_keys : Nat) (fR_keys : Nat → Int64) (kR_keys : ClassId) (iD_nodes : Int32) (iD_words : Int32) (iD_chances : Int32) (iD_unsures : Int32) (iD_slips : Int32) (iD_throneNode : Int32) (iD_saidWorth : Int32) (iD_unit : Int32) (rD_kind : Nat) (fD_kind : Nat → Int32) (kD_kind : ClassId) (rD_parts : Nat) (fD_parts : Nat → Int32) (kD_parts : ClassId) (rD_partNodes : Nat) (fD_partNodes : Nat → Int32) (kD_partNodes : ClassId) (rD_weights : Nat) (fD_weights : Nat → Int32) (kD_weights : ClassId) (rD_weightSums : Nat) (fD_weightSums : Nat → Int32) (kD_weightSums : ClassId) (rD_toldWorths : Nat) (fD_toldWorths : Nat → Int32) (kD_toldWorths : ClassId) (rD_steps : Nat) (fD_steps : Nat → Int32) (kD_steps : ClassId) (rD_below : Nat) (fD_below : Nat → Int32) (kD_below : ClassId) (rD_above : Nat) (fD_above : Nat → Int32) (kD_above : ClassId) (rD_unsureWords : Nat) (fD_unsureWords : Nat → Int32) (kD_unsureWords : ClassId) (rD_unsureWorths : Nat) (fD_unsureWorths : Nat → Int32) (kD_unsureWorths : ClassId) (p0 : Int32) (b_iK_imageCount : 0 ≤ iK_imageCount.toInt ∧ iK_imageCount.toInt ≤ 3) (a_fS_order : ∀ j : Nat, j < 72 → 0 ≤ (fS_order j).toInt ∧ (fS_order j).toInt ≤ 3) (b_iA_count : 0 ≤ iA_count.toInt ∧ iA_count.toInt ≤ 16) (b_iR_tapeSize : 0 ≤ iR_tapeSize.toInt ∧ iR_tapeSize.toInt ≤ 900) (b_iR_courtTold : 0 ≤ iR_courtTold.toInt ∧ iR_courtTold.toInt ≤ 1) (b_iD_nodes : 0 ≤ iD_nodes.toInt ∧ iD_nodes.toInt ≤ 18) (b_iD_unsures : 0 ≤ iD_unsures.toInt ∧ iD_unsures.toInt ≤ 4) (b_iD_throneNode : (-1) ≤ iD_throneNode.toInt ∧ iD_throneNode.toInt ≤ 17) (a_fD_parts : ∀ j : Nat, j < 18 → 0 ≤ (fD_parts j).toInt ∧ (fD_parts j).toInt ≤ 4) (a_fD_partNodes : ∀ j : Nat, j < 72 → 0 ≤ (fD_partNodes j).toInt ∧ (fD_partNodes j).toInt ≤ 17) (a_fD_unsureWords : ∀ j : Nat, j < 4 → 0 ≤ (fD_unsureWords j).toInt ∧ (fD_unsureWords j).toInt ≤ 17)  : Met l yX6_court (Cond.code yX6_court cX6_court 3 (some .int) :: wG) ({ frames := 7, cells := 0, slots := 0, locals := 157 }) (va_Pc [.ref oK, .int p0] (Pw dC dI sz [(oc6 oK oR oC oS oT rK_images iK_imageCount oA oH oL iK_refusal iK_latestFault iK_latestPlace), (oc5 oS rS_worths rS_order rS_left), (arI rS_worths kS_worths 18 fS_worths), (arI rS_order kS_order 72 fS_order), (oc0 oA iA_count rA_nodes rA_olds rA_says), (oc3 oR iR_faultNumber iR_faultPlace iR_tapeSize rR_tape iR_end iR_tokenKind iR_tokenFrom iR_tokenTo iR_tokenName iR_tokenKey iR_tokenWhole oD iR_courtTold rR_names rR_keys), (arI rR_tape kR_tape 900 fR_tape), (arL rR_names kR_names 18 fR_names), (arL rR_keys kR_keys 10 fR_keys), (oc1 oD iD_nodes iD_words iD_chances iD_unsures iD_slips iD_throneNode iD_saidWorth iD_unit rD_kind rD_parts rD_partNodes rD_weights rD_weightSums rD_toldWorths rD_steps rD_below rD_above rD_unsureWords rD_unsureWorths), (arI rD_kind kD_kind 18 fD_kind), (arI rD_parts kD_parts 18 fD_parts), (arI rD_partNodes kD_partNodes 72 fD_partNodes), (arI rD_weights kD_weights 72 fD_weights), (arI rD_weightSums kD_weightSums 18 fD_weightSums), (arI rD_toldWorths kD_toldWorths 18 fD_toldWorths), (arI rD_steps kD_steps 18 fD_steps), (arI rD_below kD_below 18 fD_below), (arI rD_above kD_above 18 fD_above), (arI rD_unsureWords kD_unsureWords 4 fD_unsureWords), (arI rD_unsureWorths kD_unsureWorths 4 fD_unsureWorths)] [(kS_worths, .int), (kS_order, .int), (kR_tape, .byte), (kR_names, .long), (kR_keys, .long), (kD_kind, .int), (kD_parts, .int), (kD_partNodes, .int), (kD_weights, .int), (kD_weightSums, .int), (kD_toldWorths, .int), (kD_steps, .int), (kD_below, .int), (kD_above, .int), (kD_unsureWords, .int), (kD_unsureWorths, .int)])) (va_Qi (fun (r : Int32) (u : Nat) => (True ∧ True) ∧ r = Int32.ofNat u) (fun (u : Nat) (t : State) => ∃ (niK_imageCount : Int32) (niK_refusal : Int32) (niK_latestFault : Int32) (niK_latestPlace : Int32) (nfS_worths : Nat → Int32) (nfS_order : Nat → Int32) (niA_count : Int32) (niR_faultNumber : Int32) (niR_faultPlace : Int32) (niR_tapeSize : Int32) (niR_end : Int32) (niR_tokenKind : Int32) (niR_tokenFrom : Int32) (niR_tokenTo : Int32) (niR_tokenName : Int64) (niR_tokenKey : Int32) (niR_tokenWhole : Int32) (niR_courtTold : Int32) (nfR_names : Nat → Int64) (niD_nodes : Int32) (niD_words : Int32) (niD_chances : Int32) (niD_unsures : Int32) (niD_slips : Int32) (niD_throneNode : Int32) (niD_saidWorth : Int32) (niD_unit : Int32) (nfD_kind : Nat → Int32) (nfD_parts : Nat → Int32) (nfD_partNodes : Nat → Int32) (nfD_weights : Nat → Int32) (nfD_weightSums : Nat → Int32) (nfD_toldWorths : Nat → Int32) (nfD_steps : Nat → Int32) (nfD_below : Nat → Int32) (nfD_above : Nat → Int32) (nfD_unsureWords : Nat → Int32) (nfD_unsureWorths : Nat → Int32), (0 ≤ niK_imageCount.toInt ∧ niK_imageCount.toInt ≤ 3) ∧ (∀ j : Nat, j < 72 → 0 ≤ (nfS_order j).toInt ∧ (nfS_order j).toInt ≤ 3) ∧ (0 ≤ niA_count.toInt ∧ niA_count.toInt ≤ 16) ∧ (0 ≤ niR_tapeSize.toInt ∧ niR_tapeSize.toInt ≤ 900) ∧ (0 ≤ niR_courtTold.toInt ∧ niR_courtTold.toInt ≤ 1) ∧ (0 ≤ niD_nodes.toInt ∧ niD_nodes.toInt ≤ 18) ∧ (0 ≤ niD_unsures.toInt ∧ niD_unsures.toInt ≤ 4) ∧ ((-1) ≤ niD_throneNode.toInt ∧ niD_throneNode.toInt ≤ 17) ∧ (∀ j : Nat, j < 18 → 0 ≤ (nfD_parts j).toInt ∧ (nfD_parts j).toInt ≤ 4) ∧ (∀ j : Nat, j < 72 → 0 ≤ (nfD_partNodes j).toInt ∧ (nfD_partNodes j).toInt ≤ 17) ∧ (∀ j : Nat, j < 4 → 0 ≤ (nfD_unsureWords j).toInt ∧ (nfD_unsureWords j).toInt ≤ 17) ∧ ((0 ≤ p0.toInt ∧ p0.toInt ≤ iR_tapeSize.toInt ∧ niR_tapeSize.toInt = 0) ∨ ((p0.toInt < 0 ∨ iR_tapeSize.toInt < p0.toInt) ∧ niR_tapeSize.toInt = iR_tapeSize.toInt)) ∧ (PX6_court iK_imageCount iK_latestFault iK_latestPlace fS_worths fS_order iA_count iR_faultNumber iR_faultPlace iR_tapeSize fR_tape iR_end iR_tokenKind iR_tokenFrom iR_tokenTo iR_tokenName iR_tokenKey iR_tokenWhole iR_courtTold fR_names fR_keys iD_nodes iD_words iD_chances iD_unsures iD_slips iD_throneNode iD_saidWorth iD_unit fD_kind fD_parts fD_partNodes fD_weights fD_weightSums fD_toldWorths fD_steps fD_below fD_above fD_unsureWords fD_unsureWorths p0 = (Int32.ofNat u, niK_imageCount, niK_refusal, niK_latestFault, niK_latestPlace, nfS_worths, nfS_order, niA_count, niR_faultNumber, niR_faultPlace, niR_tapeSize, niR_end, niR_tokenKind, niR_tokenFrom, niR_tokenTo, niR_tokenName, niR_tokenKey, niR_tokenWhole, niR_courtTold, nfR_names, niD_nodes, niD_words, niD_chances, niD_unsures, niD_slips, niD_throneNode, niD_saidWorth, niD_unit, nfD_kind, nfD_parts, nfD_partNodes, nfD_weights, nfD_weightSums, nfD_toldWorths, nfD_steps, nfD_below, nfD_above, nfD_unsureWords, nfD_unsureWorths)) ∧ ((((Int32.ofNat u).toInt = -1) ∧ Bw dC dI (va_A [(oc6 oK oR oC oS oT rK_images iK_imageCount oA oH oL iK_refusal iK_latestFault iK_latestPlace), (oc5 oS rS_worths rS_order rS_left), (arI rS_worths kS_worths 18 fS_worths), (arI rS_order kS_order 72 fS_order), (oc0 oA iA_count rA_nodes rA_olds rA_says), (oc3 oR iR_faultNumber iR_faultPlace iR_tapeSize rR_tape iR_end iR_tokenKind iR_tokenFrom iR_tokenTo iR_tokenName iR_tokenKey iR_tokenWhole oD iR_courtTold rR_names rR_keys), (arI rR_tape kR_tape 900 fR_tape), (arL rR_names kR_names 18 fR_names), (arL rR_keys kR_keys 10 fR_keys), (oc1 oD iD_nodes iD_words iD_chances iD_unsures iD_slips iD_throneNode iD_saidWorth iD_unit rD_kind rD_parts rD_partNodes rD_weights rD_weightSums rD_toldWorths rD_steps rD_below rD_above rD_unsureWords rD_unsureWorths), (arI rD_kind kD_kind 18 fD_kind), (arI rD_parts kD_parts 18 fD_parts), (arI rD_partNodes kD_partNodes 72 fD_partNodes), (arI rD_weights kD_weights 72 fD_weights), (arI rD_weightSums kD_weightSums 18 fD_weightSums), (arI rD_toldWorths kD_toldWorths 18 fD_toldWorths), (arI rD_steps kD_steps 18 fD_steps), (arI rD_below kD_below 18 fD_below), (arI rD_above kD_above 18 fD_above), (arI rD_unsureWords kD_unsureWords 4 fD_unsureWords), (arI rD_unsureWorths kD_unsureWorths 4 fD_unsureWorths)] sz) [(oc6 oK oR oC oS oT rK_images niK_imageCount oA oH oL niK_refusal niK_latestFault niK_latestPlace), (oc5 oS rS_worths rS_order rS_left), (arI rS_worths kS_worths 18 nfS_worths), (arI rS_order kS_order 72 nfS_order), (oc0 oA niA_count rA_nodes rA_olds rA_says), (oc3 oR niR_faultNumber niR_faultPlace niR_tapeSize rR_tape niR_end niR_tokenKind niR_tokenFrom niR_tokenTo niR_tokenName niR_tokenKey niR_tokenWhole oD niR_courtTold rR_names rR_keys), (arI rR_tape kR_tape 900 fR_tape), (arL rR_names kR_names 18 nfR_names), (arL rR_keys kR_keys 10 fR_keys), (oc1 oD niD_nodes niD_words niD_chances niD_unsures niD_slips niD_throneNode niD_saidWorth niD_unit rD_kind rD_parts rD_partNodes rD_weights rD_weightSums rD_toldWorths rD_steps rD_below rD_above rD_unsureWords rD_unsureWorths), (arI rD_kind kD_kind 18 nfD_kind), (arI rD_parts kD_parts 18 nfD_parts), (arI rD_partNodes kD_partNodes 72 nfD_partNodes), (arI rD_weights kD_weights 72 nfD_weights), (arI rD_weightSums kD_weightSums 18 nfD_weightSums), (arI rD_toldWorths kD_toldWorths 18 nfD_toldWorths), (arI rD_steps kD_steps 18 nfD_steps), (arI rD_below kD_below 18 nfD_below), (arI rD_above kD_above 18 nfD_above), (arI rD_unsureWords kD_unsureWords 4 nfD_unsureWords), (arI rD_unsureWorths kD_unsureWorths 4 nfD_unsureWorths)] [(kS_worths, .int), (kS_order, .int), (kR_tape, .byte), (kR_names, .long), (kR_keys, .long), (kD_kind, .int), (kD_parts, .int), (kD_partNodes, .int), (kD_weights, .int), (kD_weightSums, .int), (kD_toldWorths, .int), (kD_steps, .int), (kD_below, .int), (kD_above, .int), (kD_unsureWords, .int), (kD_unsureWorths, .int)] t) ∨ ((0 ≤ (Int32.ofNat u).toInt ∧ (niD_nodes.toInt ≤ 0 ∨ 0 ≤ niD_throneNode.toInt)) ∧ Bw dC dI (va_A [(oc6 oK oR oC oS oT rK_images iK_imageCount oA oH oL iK_refusal iK_latestFault iK_latestPlace), (oc5 oS rS_worths rS_order rS_left), (arI rS_worths kS_worths 18 fS_worths), (arI rS_order kS_order 72 fS_order), (oc0 oA iA_count rA_nodes rA_olds rA_says), (oc3 oR iR_faultNumber iR_faultPlace iR_tapeSize rR_tape iR_end iR_tokenKind iR_tokenFrom iR_tokenTo iR_tokenName iR_tokenKey iR_tokenWhole oD iR_courtTold rR_names rR_keys), (arI rR_tape kR_tape 900 fR_tape), (arL rR_names kR_names 18 fR_names), (arL rR_keys kR_keys 10 fR_keys), (oc1 oD iD_nodes iD_words iD_chances iD_unsures iD_slips iD_throneNode iD_saidWorth iD_unit rD_kind rD_parts rD_partNodes rD_weights rD_weightSums rD_toldWorths rD_steps rD_below rD_above rD_unsureWords rD_unsureWorths), (arI rD_kind kD_kind 18 fD_kind), (arI rD_parts kD_parts 18 fD_parts), (arI rD_partNodes kD_partNodes 72 fD_partNodes), (arI rD_weights kD_weights 72 fD_weights), (arI rD_weightSums kD_weightSums 18 fD_weightSums), (arI rD_toldWorths kD_toldWorths 18 fD_toldWorths), (arI rD_steps kD_steps 18 fD_steps), (arI rD_below kD_below 18 fD_below), (arI rD_above kD_above 18 fD_above), (arI rD_unsureWords kD_unsureWords 4 fD_unsureWords), (arI rD_unsureWorths kD_unsureWorths 4 fD_unsureWorths)] sz) [(oc6 oK oR oD oS oT rK_images niK_imageCount oA oH oL niK_refusal niK_latestFault niK_latestPlace), (oc5 oS rS_worths rS_order rS_left), (arI rS_worths kS_worths 18 nfS_worths), (arI rS_order kS_order 72 nfS_order), (oc0 oA niA_count rA_nodes rA_olds rA_says), (oc3 oR niR_faultNumber niR_faultPlace niR_tapeSize rR_tape niR_end niR_tokenKind niR_tokenFrom niR_tokenTo niR_tokenName niR_tokenKey niR_tokenWhole oC niR_courtTold rR_names rR_keys), (arI rR_tape kR_tape 900 fR_tape), (arL rR_names kR_names 18 nfR_names), (arL rR_keys kR_keys 10 fR_keys), (oc1 oD niD_nodes niD_words niD_chances niD_unsures niD_slips niD_throneNode niD_saidWorth niD_unit rD_kind rD_parts rD_partNodes rD_weights rD_weightSums rD_toldWorths rD_steps rD_below rD_above rD_unsureWords rD_unsureWorths), (arI rD_kind kD_kind 18 nfD_kind), (arI rD_parts kD_parts 18 nfD_parts), (arI rD_partNodes kD_partNodes 72 nfD_partNodes), (arI rD_weights kD_weights 72 nfD_weights), (arI rD_weightSums kD_weightSums 18 nfD_weightSums), (arI rD_toldWorths kD_toldWorths 18 nfD_toldWorths), (arI rD_steps kD_steps 18 nfD_steps), (arI rD_below kD_below 18 nfD_below), (arI rD_above kD_above 18 nfD_above), (arI rD_unsureWords kD_unsureWords 4 nfD_unsureWords), (arI rD_unsureWorths kD_unsureWorths 4 nfD_unsureWorths)] [(kS_worths, .int), (kS_order, .int), (kR_tape, .byte), (kR_names, .long), (kR_keys, .long), (kD_kind, .int), (kD_parts, .int), (kD_partNodes, .int), (kD_weights, .int), (kD_weightSums, .int), (kD_toldWorths, .int), (kD_steps, .int), (kD_below, .int), (kD_above, .int), (kD_unsureWords, .int), (kD_unsureWorths, .int)] t))) (va_A [(oc6 oK oR oC oS oT rK_images iK_imageCount oA oH oL iK_refusal iK_latestFault iK_latestPlace), (oc5 oS rS_worths rS_order rS_left), (arI rS_worths kS_worths 18 fS_worths), (arI rS_order kS_order 72 fS_order), (oc0 oA iA_count rA_nodes rA_olds rA_says), (oc3 oR iR_faultNumber iR_faultPlace iR_tapeSize rR_tape iR_end iR_tokenKind iR_tokenFrom iR_tokenTo iR_tokenName iR_tokenKey iR_tokenWhole oD iR_courtTold rR_names rR_keys), (arI rR_tape kR_tape 900 fR_tape), (arL rR_names kR_names 18 fR_names), (arL rR_keys kR_keys 10 fR_keys), (oc1 oD iD_nodes iD_words iD_chances iD_unsures iD_slips iD_throneNode iD_saidWorth iD_unit rD_kind rD_parts rD_partNodes rD_weights rD_weightSums rD_toldWorths rD_steps rD_below rD_above rD_unsureWords rD_unsureWorths), (arI rD_kind kD_kind 18 fD_kind), (arI rD_parts kD_parts 18 fD_parts), (arI rD_partNodes kD_partNodes 72 fD_partNodes), (arI rD_weights kD_weights 72 fD_weights), (arI rD_weightSums kD_weightSums 18 fD_weightSums), (arI rD_toldWorths kD_toldWorths 18 fD_toldWorths), (arI rD_steps kD_steps 18 fD_steps), (arI rD_below kD_below 18 fD_below), (arI rD_above kD_above 18 fD_above), (arI rD_unsureWords kD_unsureWords 4 fD_unsureWords), (arI rD_unsureWorths kD_unsureWorths 4 fD_unsureWorths)] sz)) 0 0 (va_A [(oc6 oK oR oC oS oT rK_images iK_imageCount oA oH oL iK_refusal iK_latestFault iK_latestPlace), (oc5 oS rS_worths rS_order rS_left), (arI rS_worths kS_worths 18 fS_worths), (arI rS_order kS_order 72 fS_order), (oc0 oA iA_count rA_nodes rA_olds rA_says), (oc3 oR iR_faultNumber iR_faultPlace iR_tapeSize rR_tape iR_end iR_tokenKind iR_tokenFrom iR_tokenTo iR_tokenName iR_tokenKey iR_tokenWhole oD iR_courtTold rR_names rR_keys), (arI rR_tape kR_tape 900 fR_tape), (arL rR_names kR_names 18 fR_names), (arL rR_keys kR_keys 10 fR_keys), (oc1 oD iD_nodes iD_words iD_chances iD_unsures iD_slips iD_throneNode iD_saidWorth iD_unit rD_kind rD_parts rD_partNodes rD_weights rD_weightSums rD_toldWorths rD_steps rD_below rD_above rD_unsureWords rD_unsureWorths), (arI rD_kind kD_kind 18 fD_kind), (arI rD_parts kD_parts 18 fD_parts), (arI rD_partNodes kD_partNodes 72 fD_partNodes), (arI rD_weights kD_weights 72 fD_weights), (arI rD_weightSums kD_weightSums 18 fD_weightSums), (arI rD_toldWorths kD_toldWorths 18 fD_toldWorths), (arI rD_steps kD_steps 18 fD_steps), (arI rD_below kD_below 18 fD_below), (arI rD_above kD_above 18 fD_above), (arI rD_unsureWords kD_unsureWords 4 fD_unsureWords), (arI rD_unsureWorths kD_unsureWorths 4 fD_unsureWorths)] sz) := by
  refine Met.ofW (cc := cX6_court) (maxL := 3) (ret := (some .int)) pnX6 rfl ?_
  intro p e s m args below meth c s₁ B hml hv
  obtain ⟨rfl, hsz, hP, hK, hD0, hE⟩ := hv
  have hx := B.exec
  have hb := B.bytes
  have hr := B.returns
  have hts : ∀ w ∈ wG, w.before ([.ref oK, .int p0] : List Value).toArray s = true := fun w h => atoms_spec (ws := Cond.code yX6_court cX6_court 3 (some .int) :: wG) B.pre w (List.mem_cons_of_mem _ h)
  have hown : s.vm.findClass RX6 = some m.cls := own_of B.named rfl
  have hlocks := B.notSynchronized
  subst hsz
  have hD := hD0.self (sz := s.heap.size)
  generalize hAe : va_A [(oc6 oK oR oC oS oT rK_images iK_imageCount oA oH oL iK_refusal iK_latestFault iK_latestPlace), (oc5 oS rS_worths rS_order rS_left), (arI rS_worths kS_worths 18 fS_worths), (arI rS_order kS_order 72 fS_order), (oc0 oA iA_count rA_nodes rA_olds rA_says), (oc3 oR iR_faultNumber iR_faultPlace iR_tapeSize rR_tape iR_end iR_tokenKind iR_tokenFrom iR_tokenTo iR_tokenName iR_tokenKey iR_tokenWhole oD iR_courtTold rR_names rR_keys), (arI rR_tape kR_tape 900 fR_tape), (arL rR_names kR_names 18 fR_names), (arL rR_keys kR_keys 10 fR_keys), (oc1 oD iD_nodes iD_words iD_chances iD_unsures iD_slips iD_throneNode iD_saidWorth iD_unit rD_kind rD_parts rD_partNodes rD_weights rD_weightSums rD_toldWorths rD_steps rD_below rD_above rD_unsureWords rD_unsureWorths), (arI rD_kind kD_kind 18 fD_kind), (arI rD_parts kD_parts 18 fD_parts), (arI rD_partNodes kD_partNodes 72 fD_partNodes), (arI rD_weights kD_weights 72 fD_weights), (arI rD_weightSums kD_weightSums 18 fD_weightSums), (arI rD_toldWorths kD_toldWorths 18 fD_toldWorths), (arI rD_steps kD_steps 18 fD_steps), (arI rD_below kD_below 18 fD_below), (arI rD_above kD_above 18 fD_above), (arI rD_unsureWords kD_unsureWords 4 fD_unsureWords), (arI rD_unsureWorths kD_unsureWorths 4 fD_unsureWorths)] s.heap.size = A at hD hE ⊢
  have hA : ∀ q : Nat, s.heap.size ≤ q → A q := fun q h => by rw [← hAe]; exact Or.inr h
  have hS : va_S A s.heap s.heap [] := va_S.rf
  have hl := lv_entry ([.ref oK, .int p0]) (n := 3) (Nat.le_of_ble_eq_true rfl)
  rw [lg_entry_eq]
  generalize (lg_sl ([.ref oK, .int p0]) ++ List.replicate (3 - (lg_sl ([.ref oK, .int p0])).length) Slot.unset).toArray = ls at hl ⊢
  have hl : lv_has ls 3 [(0, .ref oK), (1, .int p0)] := hl
  have hG := PX6_court_eq iK_imageCount iK_latestFault iK_latestPlace fS_worths fS_order iA_count iR_faultNumber iR_faultPlace iR_tapeSize fR_tape iR_end iR_tokenKind iR_tokenFrom iR_tokenTo iR_tokenName iR_tokenKey iR_tokenWhole iR_courtTold fR_names fR_keys iD_nodes iD_words iD_chances iD_unsures iD_slips iD_throneNode iD_saidWorth iD_unit fD_kind fD_parts fD_partNodes fD_weights fD_weightSums fD_toldWorths fD_steps fD_below fD_above fD_unsureWords fD_unsureWorths p0
  refine lv_iload_n hx hb dX6_court_0 rfl (lv_at hl 1 rfl) ?_
  refine lv_if_lt (tgt := 15) hx hb dX6_court_1 (by decide) (fun c_6809 => ?_) (fun c_6809 => ?_)
  · skip
    have hG := hG.trans (if_pos c_6809)
    have gc_6809 := ti_lt c_6809 rfl kc_0
    refine lv_aload_n hx hb dX6_court_15 rfl (lv_at hl 0 rfl) ?_
    refine lv_iconst (v := 2) hx hb dX6_court_16 (by decide) ?_
    have hMs := ml_of hD [true, false, false, false, false, false, false, false, false, false, false, false, false, false, false, false, false, false, false, false, false] (wc := [(oc6 oK oR oC oS oT rK_images iK_imageCount oA oH oL iK_refusal iK_latestFault iK_latestPlace)]) rfl
    have hFc := va_freeM hD hS hA _ hMs
    refine va_calli (va_runV (As := [.int 2]) (rest := []) ⟨hx, hb, hml, hown, hts⟩ (tX6_refuse l dC dI _ oK oR oC oS oT rK_images iK_imageCount oA oH oL iK_refusal iK_latestFault iK_latestPlace 2 b_iK_imageCount) (cwV 1 hts (wd_V wd_197 wd_198 wd_199 wd_2 (wd_c wd_200)) rfl rfl rfl dv_yX6_refuse_1 ⟨Nat.le_of_ble_eq_true rfl, Nat.le_of_ble_eq_true rfl⟩) ⟨Pw.fb, recvX6 hK hP (q0 := 0) rfl, fun U hU hW => Pw.to (hP.ms _ hMs) (hD.ms _ hMs) (hK.ms [false, false, false, false, false, false, false, false, false, false, false, false, false, false, false, false] rfl) hE hS hFc hU hW⟩ rfl rfl hl.1 rfl (lv_room (Nat.le_of_ble_eq_true rfl)) dX6_court_17 ⟨Nat.le_of_ble_eq_true rfl, Nat.le_of_ble_eq_true rfl⟩) hS (fun q _ h => hFc q h) hFc (fun r u t H locs ht hvm hw hB hz1 hk1 hS => ?_)
    have hru9 := hw.2
    have hw := hw.1
    refine ex_1_1 hB (fun x_6810 e_x_6810_0 hB => ?_)
    obtain ⟨hP, hD⟩ := Bw.goN (ws' := [(oc6 oK oR oC oS oT rK_images iK_imageCount oA oH oL x_6810 iK_latestFault iK_latestPlace), (oc5 oS rS_worths rS_order rS_left), (arI rS_worths kS_worths 18 fS_worths), (arI rS_order kS_order 72 fS_order), (oc0 oA iA_count rA_nodes rA_olds rA_says), (oc3 oR iR_faultNumber iR_faultPlace iR_tapeSize rR_tape iR_end iR_tokenKind iR_tokenFrom iR_tokenTo iR_tokenName iR_tokenKey iR_tokenWhole oD iR_courtTold rR_names rR_keys), (arI rR_tape kR_tape 900 fR_tape), (arL rR_names kR_names 18 fR_names), (arL rR_keys kR_keys 10 fR_keys), (oc1 oD iD_nodes iD_words iD_chances iD_unsures iD_slips iD_throneNode iD_saidWorth iD_unit rD_kind rD_parts rD_partNodes rD_weights rD_weightSums rD_toldWorths rD_steps rD_below rD_above rD_unsureWords rD_unsureWorths), (arI rD_kind kD_kind 18 fD_kind), (arI rD_parts kD_parts 18 fD_parts), (arI rD_partNodes kD_partNodes 72 fD_partNodes), (arI rD_weights kD_weights 72 fD_weights), (arI rD_weightSums kD_weightSums 18 fD_weightSums), (arI rD_toldWorths kD_toldWorths 18 fD_toldWorths), (arI rD_steps kD_steps 18 fD_steps), (arI rD_below kD_below 18 fD_below), (arI rD_above kD_above 18 fD_above), (arI rD_unsureWords kD_unsureWords 4 fD_unsureWords), (arI rD_unsureWorths kD_unsureWorths 4 fD_unsureWorths)]) hB rfl ht hP hD _ hMs hk1 hFc rfl
    clear hz1 hk1 hvm ht hB hMs
    rw [← hru9] at e_x_6810_0
    obtain ⟨x_6811, rfl⟩ : ∃ z, z = r := ⟨_, rfl⟩
    have hG := hG.trans (un2_eq e_x_6810_0)
    have ux_6811 := hw.2
    exact wq_i hx hb hr (cI x_6811) ⟨⟨trivial, trivial⟩, (cI_of x_6811)⟩ (fun t ht hW => ⟨iK_imageCount, x_6810, iK_latestFault, iK_latestPlace, fS_worths, fS_order, iA_count, iR_faultNumber, iR_faultPlace, iR_tapeSize, iR_end, iR_tokenKind, iR_tokenFrom, iR_tokenTo, iR_tokenName, iR_tokenKey, iR_tokenWhole, iR_courtTold, fR_names, iD_nodes, iD_words, iD_chances, iD_unsures, iD_slips, iD_throneNode, iD_saidWorth, iD_unit, fD_kind, fD_parts, fD_partNodes, fD_weights, fD_weightSums, fD_toldWorths, fD_steps, fD_below, fD_above, fD_unsureWords, fD_unsureWorths, b_iK_imageCount, a_fS_order, b_iA_count, b_iR_tapeSize, b_iR_courtTold, b_iD_nodes, b_iD_unsures, b_iD_throneNode, a_fD_parts, a_fD_partNodes, a_fD_unsureWords, (by first | omega | decide | assumption), (cI_tup hG), (Or.inl (⟨(by rw [← cI_of]; omega), Bw.to hP hD hK ht hW⟩))⟩) hS dX6_court_20 hlocks
  · skip
    have hG := hG.trans (if_neg c_6809)
    have gc_6809 := ti_nlt c_6809 rfl kc_0
    refine lv_iload_n hx hb dX6_court_4 rfl (lv_at hl 1 rfl) ?_
    refine lv_aload_n hx hb dX6_court_5 rfl (lv_at hl 0 rfl) ?_
    refine va_get (D := (dC, dI)) (ci := 6) (v := .ref oR) (C := RX6) (T := TX6) (N := 12) hx hb hts inX6 hown hK hP 0 rfl rfl 0 (by decide) (hts _ wd_16) (fun _ h9 => h9) rfl dX6_court_6 ?_
    refine va_get (D := (dC, dI)) (ci := 3) (v := .int iR_tapeSize) (C := RX3) (T := TX3) (N := 15) hx hb hts inX3 hown hK hP 5 rfl rfl 2 (by decide) (hts _ wd_174) (fun _ h9 => h9) rfl dX6_court_9 ?_
    refine lv_icmp_le (tgt := 21) hx hb dX6_court_12 (by decide) (fun c_6812 => ?_) (fun c_6812 => ?_)
    · skip
      have hG := hG.trans (if_pos c_6812)
      have gc_6812 := ti_le c_6812 rfl rfl
      refine lv_aload_n hx hb dX6_court_21 rfl (lv_at hl 0 rfl) ?_
      refine va_get (D := (dC, dI)) (ci := 6) (v := .ref oR) (C := RX6) (T := TX6) (N := 12) hx hb hts inX6 hown hK hP 0 rfl rfl 0 (by decide) (hts _ wd_16) (fun _ h9 => h9) rfl dX6_court_22 ?_
      refine lv_iload_n hx hb dX6_court_25 rfl (lv_at hl 1 rfl) ?_
      have hMs := ml_of hD [false, false, false, false, false, true, true, true, true, true, true, true, true, true, true, true, true, true, true, true, true] (wc := [(oc3 oR iR_faultNumber iR_faultPlace iR_tapeSize rR_tape iR_end iR_tokenKind iR_tokenFrom iR_tokenTo iR_tokenName iR_tokenKey iR_tokenWhole oD iR_courtTold rR_names rR_keys), (arI rR_tape kR_tape 900 fR_tape), (arL rR_names kR_names 18 fR_names), (arL rR_keys kR_keys 10 fR_keys), (oc1 oD iD_nodes iD_words iD_chances iD_unsures iD_slips iD_throneNode iD_saidWorth iD_unit rD_kind rD_parts rD_partNodes rD_weights rD_weightSums rD_toldWorths rD_steps rD_below rD_above rD_unsureWords rD_unsureWorths), (arI rD_kind kD_kind 18 fD_kind), (arI rD_parts kD_parts 18 fD_parts), (arI rD_partNodes kD_partNodes 72 fD_partNodes), (arI rD_weights kD_weights 72 fD_weights), (arI rD_weightSums kD_weightSums 18 fD_weightSums), (arI rD_toldWorths kD_toldWorths 18 fD_toldWorths), (arI rD_steps kD_steps 18 fD_steps), (arI rD_below kD_below 18 fD_below), (arI rD_above kD_above 18 fD_above), (arI rD_unsureWords kD_unsureWords 4 fD_unsureWords), (arI rD_unsureWorths kD_unsureWorths 4 fD_unsureWorths)]) rfl
      have hFc := va_freeM hD hS hA _ hMs
      refine va_calli (va_runV (As := [.int p0]) (rest := []) ⟨hx, hb, hml, hown, hts⟩ (tX3_reads l dC dI _ oR iR_faultNumber iR_faultPlace iR_tapeSize rR_tape fR_tape kR_tape iR_end iR_tokenKind iR_tokenFrom iR_tokenTo iR_tokenName iR_tokenKey iR_tokenWhole oD iR_courtTold rR_names fR_names kR_names rR_keys fR_keys kR_keys iD_nodes iD_words iD_chances iD_unsures iD_slips iD_throneNode iD_saidWorth iD_unit rD_kind fD_kind kD_kind rD_parts fD_parts kD_parts rD_partNodes fD_partNodes kD_partNodes rD_weights fD_weights kD_weights rD_weightSums fD_weightSums kD_weightSums rD_toldWorths fD_toldWorths kD_toldWorths rD_steps fD_steps kD_steps rD_below fD_below kD_below rD_above fD_above kD_above rD_unsureWords fD_unsureWords kD_unsureWords rD_unsureWorths fD_unsureWorths kD_unsureWorths p0 b_iR_tapeSize b_iR_courtTold b_iD_nodes b_iD_unsures b_iD_throneNode a_fD_parts a_fD_partNodes a_fD_unsureWords) (cwV 1 hts (wd_V wd_201 wd_202 wd_203 wd_15 (wd_c wd_204)) rfl rfl rfl dv_yX3_reads_1 ⟨Nat.le_of_ble_eq_true rfl, Nat.le_of_ble_eq_true rfl⟩) ⟨Pw.fb, recvX3 hK hP (q0 := 5) rfl, fun U hU hW => Pw.to (hP.ms _ hMs) (hD.ms _ hMs) (hK.ms [false, false, true, true, true, true, true, true, true, true, true, true, true, true, true, true] rfl) hE hS hFc hU hW⟩ rfl rfl hl.1 rfl (lv_room (Nat.le_of_ble_eq_true rfl)) dX6_court_26 ⟨Nat.le_of_ble_eq_true rfl, Nat.le_of_ble_eq_true rfl⟩) hS (fun q _ h => hFc q h) hFc (fun r u t H locs ht hvm hw hB hz1 hk1 hS => ?_)
      have hru9 := hw.2
      have hw := hw.1
      refine ex_31_10 hB (fun x_6813 x_6814 x_6815 x_6816 x_6817 x_6818 x_6819 y_6820 x_6821 x_6822 x_6823 f_6824 x_6825 x_6826 x_6827 x_6828 x_6829 x_6830 x_6831 x_6832 f_6833 f_6834 f_6835 f_6836 f_6837 f_6838 f_6839 f_6840 f_6841 f_6842 f_6843 b_x_6815 b_x_6823 b_x_6825 b_x_6828 b_x_6830 a_f_6834 a_f_6835 a_f_6842 e_x_6813_0 e_x_6813_1 hB => ?_)
      obtain ⟨hP, hD⟩ := Bw.goN (ws' := [(oc6 oK oR oC oS oT rK_images iK_imageCount oA oH oL iK_refusal iK_latestFault iK_latestPlace), (oc5 oS rS_worths rS_order rS_left), (arI rS_worths kS_worths 18 fS_worths), (arI rS_order kS_order 72 fS_order), (oc0 oA iA_count rA_nodes rA_olds rA_says), (oc3 oR x_6813 x_6814 x_6815 rR_tape x_6816 x_6817 x_6818 x_6819 y_6820 x_6821 x_6822 oD x_6823 rR_names rR_keys), (arI rR_tape kR_tape 900 fR_tape), (arL rR_names kR_names 18 f_6824), (arL rR_keys kR_keys 10 fR_keys), (oc1 oD x_6825 x_6826 x_6827 x_6828 x_6829 x_6830 x_6831 x_6832 rD_kind rD_parts rD_partNodes rD_weights rD_weightSums rD_toldWorths rD_steps rD_below rD_above rD_unsureWords rD_unsureWorths), (arI rD_kind kD_kind 18 f_6833), (arI rD_parts kD_parts 18 f_6834), (arI rD_partNodes kD_partNodes 72 f_6835), (arI rD_weights kD_weights 72 f_6836), (arI rD_weightSums kD_weightSums 18 f_6837), (arI rD_toldWorths kD_toldWorths 18 f_6838), (arI rD_steps kD_steps 18 f_6839), (arI rD_below kD_below 18 f_6840), (arI rD_above kD_above 18 f_6841), (arI rD_unsureWords kD_unsureWords 4 f_6842), (arI rD_unsureWorths kD_unsureWorths 4 f_6843)]) hB rfl ht hP hD _ hMs hk1 hFc rfl
      clear hz1 hk1 hvm ht hB hMs
      rw [← hru9] at e_x_6813_1
      obtain ⟨x_6844, rfl⟩ : ∃ z, z = r := ⟨_, rfl⟩
      have hG := hG.trans (un32_eq e_x_6813_1)
      have bx_6844 := hw.1
      have dx_6844 := bz_tb bx_6844
      have lx_6844 := hw.2
      refine lv_istore_n (lv' := [(2, .int x_6844), (0, .ref oK), (1, .int p0)]) hx hb dX6_court_29 rfl hl (by decide) rfl (fun ls hl => ?_)
      refine lv_aload_n hx hb dX6_court_30 rfl (lv_at hl 1 rfl) ?_
      refine lv_aload_n hx hb dX6_court_31 rfl (lv_at hl 1 rfl) ?_
      refine va_get (D := (dC, dI)) (ci := 6) (v := .ref oR) (C := RX6) (T := TX6) (N := 12) hx hb hts inX6 hown hK hP 0 rfl rfl 0 (by decide) (hts _ wd_16) (fun _ h9 => h9) rfl dX6_court_32 ?_
      refine va_get (D := (dC, dI)) (ci := 3) (v := .int x_6813) (C := RX3) (T := TX3) (N := 15) hx hb hts inX3 hown hK hP 5 rfl rfl 0 (by decide) (hts _ wd_190) (fun _ h9 => h9) rfl dX6_court_35 ?_
      refine va_put (D := (dC, dI)) (ci := 6) (v := .int x_6813) (ty := .int) (C := RX6) (T := TX6) (N := 12) hx hb hts inX6 tyX6 tyX6_ok nmX6 hown hK hP hD hS 0 rfl rfl 10 (by decide) (hts _ wd_191) (fun _ h9 => h9) rfl (by decide +kernel) rfl rfl (Nat.le_of_ble_eq_true rfl) dX6_court_38 (fun H locs hP hD hS => ?_)
      obtain ⟨hP, hD⟩ := wl2 (ws' := [(oc6 oK oR oC oS oT rK_images iK_imageCount oA oH oL iK_refusal x_6813 iK_latestPlace), (oc5 oS rS_worths rS_order rS_left), (arI rS_worths kS_worths 18 fS_worths), (arI rS_order kS_order 72 fS_order), (oc0 oA iA_count rA_nodes rA_olds rA_says), (oc3 oR x_6813 x_6814 x_6815 rR_tape x_6816 x_6817 x_6818 x_6819 y_6820 x_6821 x_6822 oD x_6823 rR_names rR_keys), (arI rR_tape kR_tape 900 fR_tape), (arL rR_names kR_names 18 f_6824), (arL rR_keys kR_keys 10 fR_keys), (oc1 oD x_6825 x_6826 x_6827 x_6828 x_6829 x_6830 x_6831 x_6832 rD_kind rD_parts rD_partNodes rD_weights rD_weightSums rD_toldWorths rD_steps rD_below rD_above rD_unsureWords rD_unsureWorths), (arI rD_kind kD_kind 18 f_6833), (arI rD_parts kD_parts 18 f_6834), (arI rD_partNodes kD_partNodes 72 f_6835), (arI rD_weights kD_weights 72 f_6836), (arI rD_weightSums kD_weightSums 18 f_6837), (arI rD_toldWorths kD_toldWorths 18 f_6838), (arI rD_steps kD_steps 18 f_6839), (arI rD_below kD_below 18 f_6840), (arI rD_above kD_above 18 f_6841), (arI rD_unsureWords kD_unsureWords 4 f_6842), (arI rD_unsureWorths kD_unsureWorths 4 f_6843)]) hP hD rfl
      refine lv_aload_n hx hb dX6_court_41 rfl (lv_at hl 1 rfl) ?_
      refine lv_aload_n hx hb dX6_court_42 rfl (lv_at hl 1 rfl) ?_
      refine va_get (D := (dC, dI)) (ci := 6) (v := .ref oR) (C := RX6) (T := TX6) (N := 12) hx hb hts inX6 hown hK hP 0 rfl rfl 0 (by decide) (hts _ wd_16) (fun _ h9 => h9) rfl dX6_court_43 ?_
      refine va_get (D := (dC, dI)) (ci := 3) (v := .int x_6814) (C := RX3) (T := TX3) (N := 15) hx hb hts inX3 hown hK hP 5 rfl rfl 1 (by decide) (hts _ wd_192) (fun _ h9 => h9) rfl dX6_court_46 ?_
      refine va_put (D := (dC, dI)) (ci := 6) (v := .int x_6814) (ty := .int) (C := RX6) (T := TX6) (N := 12) hx hb hts inX6 tyX6 tyX6_ok nmX6 hown hK hP hD hS 0 rfl rfl 11 (by decide) (hts _ wd_193) (fun _ h9 => h9) rfl (by decide +kernel) rfl rfl (Nat.le_of_ble_eq_true rfl) dX6_court_49 (fun H locs hP hD hS => ?_)
      obtain ⟨hP, hD⟩ := wl2 (ws' := [(oc6 oK oR oC oS oT rK_images iK_imageCount oA oH oL iK_refusal x_6813 x_6814), (oc5 oS rS_worths rS_order rS_left), (arI rS_worths kS_worths 18 fS_worths), (arI rS_order kS_order 72 fS_order), (oc0 oA iA_count rA_nodes rA_olds rA_says), (oc3 oR x_6813 x_6814 x_6815 rR_tape x_6816 x_6817 x_6818 x_6819 y_6820 x_6821 x_6822 oD x_6823 rR_names rR_keys), (arI rR_tape kR_tape 900 fR_tape), (arL rR_names kR_names 18 f_6824), (arL rR_keys kR_keys 10 fR_keys), (oc1 oD x_6825 x_6826 x_6827 x_6828 x_6829 x_6830 x_6831 x_6832 rD_kind rD_parts rD_partNodes rD_weights rD_weightSums rD_toldWorths rD_steps rD_below rD_above rD_unsureWords rD_unsureWorths), (arI rD_kind kD_kind 18 f_6833), (arI rD_parts kD_parts 18 f_6834), (arI rD_partNodes kD_partNodes 72 f_6835), (arI rD_weights kD_weights 72 f_6836), (arI rD_weightSums kD_weightSums 18 f_6837), (arI rD_toldWorths kD_toldWorths 18 f_6838), (arI rD_steps kD_steps 18 f_6839), (arI rD_below kD_below 18 f_6840), (arI rD_above kD_above 18 f_6841), (arI rD_unsureWords kD_unsureWords 4 f_6842), (arI rD_unsureWorths kD_unsureWorths 4 f_6843)]) hP hD rfl
      refine lv_iload_n hx hb dX6_court_52 rfl (lv_at hl 0 rfl) ?_
      refine lv_if_ne (tgt := 62) hx hb dX6_court_53 (by decide) (fun c_6845 => ?_) (fun c_6845 => ?_)
      · skip
        have hG := hG.trans (if_neg c_6845)
        have gc_6845 := ti_ne c_6845 rfl kc_0
        refine lv_aload_n hx hb dX6_court_62 rfl (lv_at hl 1 rfl) ?_
        refine lv_aload_n hx hb dX6_court_63 rfl (lv_at hl 1 rfl) ?_
        refine va_get (D := (dC, dI)) (ci := 6) (v := .ref oR) (C := RX6) (T := TX6) (N := 12) hx hb hts inX6 hown hK hP 0 rfl rfl 0 (by decide) (hts _ wd_16) (fun _ h9 => h9) rfl dX6_court_64 ?_
        refine lv_aload_n hx hb dX6_court_67 rfl (lv_at hl 1 rfl) ?_
        refine va_get (D := (dC, dI)) (ci := 6) (v := .ref oC) (C := RX6) (T := TX6) (N := 12) hx hb hts inX6 hown hK hP 0 rfl rfl 1 (by decide) (hts _ wd_20) (fun _ h9 => h9) rfl dX6_court_68 ?_
        have hMs := ml_of hD [false, false, false, false, false, true, false, false, false, false, false, false, false, false, false, false, false, false, false, false, false] (wc := [(oc3 oR x_6813 x_6814 x_6815 rR_tape x_6816 x_6817 x_6818 x_6819 y_6820 x_6821 x_6822 oD x_6823 rR_names rR_keys)]) rfl
        have hFc := va_freeM hD hS hA _ hMs
        refine va_callr (va_runV (As := [.ref oC]) (rest := [.ref oK]) ⟨hx, hb, hml, hown, hts⟩ (tX3_exchanged l dC dI _ oR x_6813 x_6814 x_6815 rR_tape x_6816 x_6817 x_6818 x_6819 y_6820 x_6821 x_6822 oD x_6823 rR_names rR_keys oC (by first | exact b_x_6815 | omega | decide) b_x_6823) (cwV 1 hts (wd_V wd_361 wd_362 wd_363 wd_15 (wd_c wd_364)) rfl rfl rfl dv_yX3_exchanged_1 ⟨Nat.le_of_ble_eq_true rfl, Nat.le_of_ble_eq_true rfl⟩) ⟨Pw.fb, recvX3 hK hP (q0 := 5) rfl, fun U hU hW => Pw.to (hP.ms _ hMs) (hD.ms _ hMs) (hK.ms [false, false, false, false, false, false, false, false, false, false, false, false, false, false, false, false] rfl) hE hS hFc hU hW⟩ rfl rfl hl.1 rfl (lv_room (Nat.le_of_ble_eq_true rfl)) dX6_court_71 ⟨Nat.le_of_ble_eq_true rfl, Nat.le_of_ble_eq_true rfl⟩) hS (fun q _ h => hFc q h) hFc (fun u ra t H locs ht hvm hw hB hz1 hk1 hS => ?_)
        obtain ⟨era, hB⟩ := hB
        subst era
        obtain ⟨hP, hD⟩ := Bw.goN (ws' := [(oc6 oK oR oC oS oT rK_images iK_imageCount oA oH oL iK_refusal x_6813 x_6814), (oc5 oS rS_worths rS_order rS_left), (arI rS_worths kS_worths 18 fS_worths), (arI rS_order kS_order 72 fS_order), (oc0 oA iA_count rA_nodes rA_olds rA_says), (oc3 oR x_6813 x_6814 x_6815 rR_tape x_6816 x_6817 x_6818 x_6819 y_6820 x_6821 x_6822 oC x_6823 rR_names rR_keys), (arI rR_tape kR_tape 900 fR_tape), (arL rR_names kR_names 18 f_6824), (arL rR_keys kR_keys 10 fR_keys), (oc1 oD x_6825 x_6826 x_6827 x_6828 x_6829 x_6830 x_6831 x_6832 rD_kind rD_parts rD_partNodes rD_weights rD_weightSums rD_toldWorths rD_steps rD_below rD_above rD_unsureWords rD_unsureWorths), (arI rD_kind kD_kind 18 f_6833), (arI rD_parts kD_parts 18 f_6834), (arI rD_partNodes kD_partNodes 72 f_6835), (arI rD_weights kD_weights 72 f_6836), (arI rD_weightSums kD_weightSums 18 f_6837), (arI rD_toldWorths kD_toldWorths 18 f_6838), (arI rD_steps kD_steps 18 f_6839), (arI rD_below kD_below 18 f_6840), (arI rD_above kD_above 18 f_6841), (arI rD_unsureWords kD_unsureWords 4 f_6842), (arI rD_unsureWorths kD_unsureWorths 4 f_6843)]) hB rfl ht hP hD _ hMs hk1 hFc rfl
        clear hz1 hk1 hvm ht hB hMs
        refine va_put (D := (dC, dI)) (ci := 6) (v := .ref oD) (ty := .object "KingHears$Court") (C := RX6) (T := TX6) (N := 12) hx hb hts inX6 tyX6 tyX6_ok nmX6 hown hK hP hD hS 0 rfl rfl 1 (by decide) (hts _ wd_20) (fun _ h9 => h9) rfl (by decide +kernel) rfl rfl (Nat.le_of_ble_eq_true rfl) dX6_court_74 (fun H locs hP hD hS => ?_)
        obtain ⟨hP, hD⟩ := wl2 (ws' := [(oc6 oK oR oD oS oT rK_images iK_imageCount oA oH oL iK_refusal x_6813 x_6814), (oc5 oS rS_worths rS_order rS_left), (arI rS_worths kS_worths 18 fS_worths), (arI rS_order kS_order 72 fS_order), (oc0 oA iA_count rA_nodes rA_olds rA_says), (oc3 oR x_6813 x_6814 x_6815 rR_tape x_6816 x_6817 x_6818 x_6819 y_6820 x_6821 x_6822 oC x_6823 rR_names rR_keys), (arI rR_tape kR_tape 900 fR_tape), (arL rR_names kR_names 18 f_6824), (arL rR_keys kR_keys 10 fR_keys), (oc1 oD x_6825 x_6826 x_6827 x_6828 x_6829 x_6830 x_6831 x_6832 rD_kind rD_parts rD_partNodes rD_weights rD_weightSums rD_toldWorths rD_steps rD_below rD_above rD_unsureWords rD_unsureWorths), (arI rD_kind kD_kind 18 f_6833), (arI rD_parts kD_parts 18 f_6834), (arI rD_partNodes kD_partNodes 72 f_6835), (arI rD_weights kD_weights 72 f_6836), (arI rD_weightSums kD_weightSums 18 f_6837), (arI rD_toldWorths kD_toldWorths 18 f_6838), (arI rD_steps kD_steps 18 f_6839), (arI rD_below kD_below 18 f_6840), (arI rD_above kD_above 18 f_6841), (arI rD_unsureWords kD_unsureWords 4 f_6842), (arI rD_unsureWorths kD_unsureWorths 4 f_6843)]) hP hD rfl
        refine lv_aload_n hx hb dX6_court_77 rfl (lv_at hl 1 rfl) ?_
        refine va_get (D := (dC, dI)) (ci := 6) (v := .ref oS) (C := RX6) (T := TX6) (N := 12) hx hb hts inX6 hown hK hP 0 rfl rfl 2 (by decide) (hts _ wd_24) (fun _ h9 => h9) rfl dX6_court_78 ?_
        refine lv_aload_n hx hb dX6_court_81 rfl (lv_at hl 1 rfl) ?_
        refine va_get (D := (dC, dI)) (ci := 6) (v := .ref oD) (C := RX6) (T := TX6) (N := 12) hx hb hts inX6 hown hK hP 0 rfl rfl 1 (by decide) (hts _ wd_20) (fun _ h9 => h9) rfl dX6_court_82 ?_
        have hMs := ml_of hD [false, true, true, true, false, false, false, false, false, true, false, false, false, false, false, true, false, false, false, false, false] (wc := [(oc5 oS rS_worths rS_order rS_left), (arI rS_worths kS_worths 18 fS_worths), (arI rS_order kS_order 72 fS_order), (oc1 oD x_6825 x_6826 x_6827 x_6828 x_6829 x_6830 x_6831 x_6832 rD_kind rD_parts rD_partNodes rD_weights rD_weightSums rD_toldWorths rD_steps rD_below rD_above rD_unsureWords rD_unsureWorths), (arI rD_toldWorths kD_toldWorths 18 f_6838)]) rfl
        have hFc := va_freeM hD hS hA _ hMs
        refine va_callv (va_runV (As := [.ref oD]) (rest := []) ⟨hx, hb, hml, hown, hts⟩ (tX5_standAsTold l dC dI _ oS rS_worths fS_worths kS_worths rS_order fS_order kS_order rS_left oD x_6825 x_6826 x_6827 x_6828 x_6829 x_6830 x_6831 x_6832 rD_kind rD_parts rD_partNodes rD_weights rD_weightSums rD_toldWorths f_6838 kD_toldWorths rD_steps rD_below rD_above rD_unsureWords rD_unsureWorths a_fS_order b_x_6825 b_x_6828 b_x_6830) (cwV 1 hts (wd_V wd_365 wd_366 wd_367 wd_23 (wd_c wd_368)) rfl rfl rfl dv_yX5_standAsTold_1 ⟨Nat.le_of_ble_eq_true rfl, Nat.le_of_ble_eq_true rfl⟩) ⟨Pw.fb, recvX5 hK hP (q0 := 1) rfl, fun U hU hW => Pw.to (hP.ms _ hMs) (hD.ms _ hMs) (hK.ms [true, true, false, false, false, false, false, false, false, false, true, false, false, false, false, false] rfl) hE hS hFc hU hW⟩ rfl rfl hl.1 rfl (lv_room (Nat.le_of_ble_eq_true rfl)) dX6_court_85 ⟨Nat.le_of_ble_eq_true rfl, Nat.le_of_ble_eq_true rfl⟩) hS (fun q _ h => hFc q h) hFc (fun u t H locs ht hvm hw hB hz1 hk1 hS => ?_)
        refine ex_2_2 hB (fun f_6846 f_6847 a_f_6847 e_f_6846_0 hB => ?_)
        obtain ⟨hP, hD⟩ := Bw.goN (ws' := [(oc6 oK oR oD oS oT rK_images iK_imageCount oA oH oL iK_refusal x_6813 x_6814), (oc5 oS rS_worths rS_order rS_left), (arI rS_worths kS_worths 18 f_6846), (arI rS_order kS_order 72 f_6847), (oc0 oA iA_count rA_nodes rA_olds rA_says), (oc3 oR x_6813 x_6814 x_6815 rR_tape x_6816 x_6817 x_6818 x_6819 y_6820 x_6821 x_6822 oC x_6823 rR_names rR_keys), (arI rR_tape kR_tape 900 fR_tape), (arL rR_names kR_names 18 f_6824), (arL rR_keys kR_keys 10 fR_keys), (oc1 oD x_6825 x_6826 x_6827 x_6828 x_6829 x_6830 x_6831 x_6832 rD_kind rD_parts rD_partNodes rD_weights rD_weightSums rD_toldWorths rD_steps rD_below rD_above rD_unsureWords rD_unsureWorths), (arI rD_kind kD_kind 18 f_6833), (arI rD_parts kD_parts 18 f_6834), (arI rD_partNodes kD_partNodes 72 f_6835), (arI rD_weights kD_weights 72 f_6836), (arI rD_weightSums kD_weightSums 18 f_6837), (arI rD_toldWorths kD_toldWorths 18 f_6838), (arI rD_steps kD_steps 18 f_6839), (arI rD_below kD_below 18 f_6840), (arI rD_above kD_above 18 f_6841), (arI rD_unsureWords kD_unsureWords 4 f_6842), (arI rD_unsureWorths kD_unsureWorths 4 f_6843)]) hB rfl ht hP hD _ hMs hk1 hFc rfl
        clear hz1 hk1 hvm ht hB hMs
        have hG := hG.trans (un2_eq e_f_6846_0)
        refine lv_aload_n hx hb dX6_court_88 rfl (lv_at hl 1 rfl) ?_
        refine va_get (D := (dC, dI)) (ci := 6) (v := .ref oA) (C := RX6) (T := TX6) (N := 12) hx hb hts inX6 hown hK hP 0 rfl rfl 6 (by decide) (hts _ wd_30) (fun _ h9 => h9) rfl dX6_court_89 ?_
        have hMs := ml_of hD [false, false, false, false, true, false, false, false, false, false, false, false, false, false, false, false, false, false, false, false, false] (wc := [(oc0 oA iA_count rA_nodes rA_olds rA_says)]) rfl
        have hFc := va_freeM hD hS hA _ hMs
        refine va_callv (va_runV (As := []) (rest := []) ⟨hx, hb, hml, hown, hts⟩ (tX0_forget l dC dI _ oA iA_count rA_nodes rA_olds rA_says b_iA_count) (cwV 0 hts (wd_V wd_370 wd_371 wd_372 wd_29 (wd_c wd_373)) rfl rfl rfl dv_yX0_forget_0 ⟨Nat.le_of_ble_eq_true rfl, Nat.le_of_ble_eq_true rfl⟩) ⟨Pw.fb, recvX0 hK hP (q0 := 4) rfl, fun U hU hW => Pw.to (hP.ms _ hMs) (hD.ms _ hMs) (hK.ms [false, false, false, false, false, false, false, false, false, false, false, false, false, false, false, false] rfl) hE hS hFc hU hW⟩ rfl rfl hl.1 rfl (lv_room (Nat.le_of_ble_eq_true rfl)) dX6_court_92 ⟨Nat.le_of_ble_eq_true rfl, Nat.le_of_ble_eq_true rfl⟩) hS (fun q _ h => hFc q h) hFc (fun u t H locs ht hvm hw hB hz1 hk1 hS => ?_)
        refine ex_1_2 hB (fun x_6848 b_x_6848 e_x_6848_0 hB => ?_)
        obtain ⟨hP, hD⟩ := Bw.goN (ws' := [(oc6 oK oR oD oS oT rK_images iK_imageCount oA oH oL iK_refusal x_6813 x_6814), (oc5 oS rS_worths rS_order rS_left), (arI rS_worths kS_worths 18 f_6846), (arI rS_order kS_order 72 f_6847), (oc0 oA x_6848 rA_nodes rA_olds rA_says), (oc3 oR x_6813 x_6814 x_6815 rR_tape x_6816 x_6817 x_6818 x_6819 y_6820 x_6821 x_6822 oC x_6823 rR_names rR_keys), (arI rR_tape kR_tape 900 fR_tape), (arL rR_names kR_names 18 f_6824), (arL rR_keys kR_keys 10 fR_keys), (oc1 oD x_6825 x_6826 x_6827 x_6828 x_6829 x_6830 x_6831 x_6832 rD_kind rD_parts rD_partNodes rD_weights rD_weightSums rD_toldWorths rD_steps rD_below rD_above rD_unsureWords rD_unsureWorths), (arI rD_kind kD_kind 18 f_6833), (arI rD_parts kD_parts 18 f_6834), (arI rD_partNodes kD_partNodes 72 f_6835), (arI rD_weights kD_weights 72 f_6836), (arI rD_weightSums kD_weightSums 18 f_6837), (arI rD_toldWorths kD_toldWorths 18 f_6838), (arI rD_steps kD_steps 18 f_6839), (arI rD_below kD_below 18 f_6840), (arI rD_above kD_above 18 f_6841), (arI rD_unsureWords kD_unsureWords 4 f_6842), (arI rD_unsureWorths kD_unsureWorths 4 f_6843)]) hB rfl ht hP hD _ hMs hk1 hFc rfl
        clear hz1 hk1 hvm ht hB hMs
        have hG := hG.trans (lt_eq e_x_6848_0.symm)
        refine lv_aload_n hx hb dX6_court_95 rfl (lv_at hl 1 rfl) ?_
        refine lv_iconst (v := 0) hx hb dX6_court_96 (by decide) ?_
        refine va_put (D := (dC, dI)) (ci := 6) (v := .int 0) (ty := .int) (C := RX6) (T := TX6) (N := 12) hx hb hts inX6 tyX6 tyX6_ok nmX6 hown hK hP hD hS 0 rfl rfl 5 (by decide) (hts _ wd_194) (fun _ h9 => h9) rfl (by decide +kernel) rfl rfl (Nat.le_of_ble_eq_true rfl) dX6_court_97 (fun H locs hP hD hS => ?_)
        obtain ⟨hP, hD⟩ := wl2 (ws' := [(oc6 oK oR oD oS oT rK_images 0 oA oH oL iK_refusal x_6813 x_6814), (oc5 oS rS_worths rS_order rS_left), (arI rS_worths kS_worths 18 f_6846), (arI rS_order kS_order 72 f_6847), (oc0 oA x_6848 rA_nodes rA_olds rA_says), (oc3 oR x_6813 x_6814 x_6815 rR_tape x_6816 x_6817 x_6818 x_6819 y_6820 x_6821 x_6822 oC x_6823 rR_names rR_keys), (arI rR_tape kR_tape 900 fR_tape), (arL rR_names kR_names 18 f_6824), (arL rR_keys kR_keys 10 fR_keys), (oc1 oD x_6825 x_6826 x_6827 x_6828 x_6829 x_6830 x_6831 x_6832 rD_kind rD_parts rD_partNodes rD_weights rD_weightSums rD_toldWorths rD_steps rD_below rD_above rD_unsureWords rD_unsureWorths), (arI rD_kind kD_kind 18 f_6833), (arI rD_parts kD_parts 18 f_6834), (arI rD_partNodes kD_partNodes 72 f_6835), (arI rD_weights kD_weights 72 f_6836), (arI rD_weightSums kD_weightSums 18 f_6837), (arI rD_toldWorths kD_toldWorths 18 f_6838), (arI rD_steps kD_steps 18 f_6839), (arI rD_below kD_below 18 f_6840), (arI rD_above kD_above 18 f_6841), (arI rD_unsureWords kD_unsureWords 4 f_6842), (arI rD_unsureWorths kD_unsureWorths 4 f_6843)]) hP hD rfl
        refine lv_aload_n hx hb dX6_court_100 rfl (lv_at hl 1 rfl) ?_
        refine lv_iconst (v := 0) hx hb dX6_court_101 (by decide) ?_
        refine va_put (D := (dC, dI)) (ci := 6) (v := .int 0) (ty := .int) (C := RX6) (T := TX6) (N := 12) hx hb hts inX6 tyX6 tyX6_ok nmX6 hown hK hP hD hS 0 rfl rfl 9 (by decide) (hts _ wd_195) (fun _ h9 => h9) rfl (by decide +kernel) rfl rfl (Nat.le_of_ble_eq_true rfl) dX6_court_102 (fun H locs hP hD hS => ?_)
        obtain ⟨hP, hD⟩ := wl2 (ws' := [(oc6 oK oR oD oS oT rK_images 0 oA oH oL 0 x_6813 x_6814), (oc5 oS rS_worths rS_order rS_left), (arI rS_worths kS_worths 18 f_6846), (arI rS_order kS_order 72 f_6847), (oc0 oA x_6848 rA_nodes rA_olds rA_says), (oc3 oR x_6813 x_6814 x_6815 rR_tape x_6816 x_6817 x_6818 x_6819 y_6820 x_6821 x_6822 oC x_6823 rR_names rR_keys), (arI rR_tape kR_tape 900 fR_tape), (arL rR_names kR_names 18 f_6824), (arL rR_keys kR_keys 10 fR_keys), (oc1 oD x_6825 x_6826 x_6827 x_6828 x_6829 x_6830 x_6831 x_6832 rD_kind rD_parts rD_partNodes rD_weights rD_weightSums rD_toldWorths rD_steps rD_below rD_above rD_unsureWords rD_unsureWorths), (arI rD_kind kD_kind 18 f_6833), (arI rD_parts kD_parts 18 f_6834), (arI rD_partNodes kD_partNodes 72 f_6835), (arI rD_weights kD_weights 72 f_6836), (arI rD_weightSums kD_weightSums 18 f_6837), (arI rD_toldWorths kD_toldWorths 18 f_6838), (arI rD_steps kD_steps 18 f_6839), (arI rD_below kD_below 18 f_6840), (arI rD_above kD_above 18 f_6841), (arI rD_unsureWords kD_unsureWords 4 f_6842), (arI rD_unsureWorths kD_unsureWorths 4 f_6843)]) hP hD rfl
        refine lv_aload_n hx hb dX6_court_105 rfl (lv_at hl 1 rfl) ?_
        refine va_get (D := (dC, dI)) (ci := 6) (v := .ref oD) (C := RX6) (T := TX6) (N := 12) hx hb hts inX6 hown hK hP 0 rfl rfl 1 (by decide) (hts _ wd_20) (fun _ h9 => h9) rfl dX6_court_106 ?_
        refine va_get (D := (dC, dI)) (ci := 1) (v := .int x_6825) (C := RX1) (T := TX1) (N := 19) hx hb hts inX1 hown hK hP 9 rfl rfl 0 (by decide) (hts _ wd_196) (fun _ h9 => h9) rfl dX6_court_109 ?_
        exact wq_i hx hb hr (cI x_6825) ⟨⟨trivial, trivial⟩, (cI_of x_6825)⟩ (fun t ht hW => ⟨0, 0, x_6813, x_6814, f_6846, f_6847, x_6848, x_6813, x_6814, x_6815, x_6816, x_6817, x_6818, x_6819, y_6820, x_6821, x_6822, x_6823, f_6824, x_6825, x_6826, x_6827, x_6828, x_6829, x_6830, x_6831, x_6832, f_6833, f_6834, f_6835, f_6836, f_6837, f_6838, f_6839, f_6840, f_6841, f_6842, f_6843, (by decide), a_f_6847, ⟨b_x_6848.1, (om_b868baad b_x_6848.2)⟩, ⟨b_x_6815.1, (om_899216b5 b_x_6815.2)⟩, b_x_6823, b_x_6825, b_x_6828, b_x_6830, a_f_6834, a_f_6835, a_f_6842, (by first | omega | decide | assumption), (cI_tup hG), (Or.inr (⟨⟨by rw [← cI_of]; omega, by omega⟩, Bw.to hP hD hK ht hW⟩))⟩) hS dX6_court_112 hlocks
      · skip
        have hG := hG.trans (if_pos c_6845)
        have gc_6845 := ti_eq c_6845 rfl kc_0
        refine lv_aload_n hx hb dX6_court_56 rfl (lv_at hl 1 rfl) ?_
        refine lv_iconst (v := 4) hx hb dX6_court_57 (by decide) ?_
        have hMs := ml_of hD [true, false, false, false, false, false, false, false, false, false, false, false, false, false, false, false, false, false, false, false, false] (wc := [(oc6 oK oR oC oS oT rK_images iK_imageCount oA oH oL iK_refusal x_6813 x_6814)]) rfl
        have hFc := va_freeM hD hS hA _ hMs
        refine va_calli (va_runV (As := [.int 4]) (rest := []) ⟨hx, hb, hml, hown, hts⟩ (tX6_refuse l dC dI _ oK oR oC oS oT rK_images iK_imageCount oA oH oL iK_refusal x_6813 x_6814 4 b_iK_imageCount) (cwV 1 hts (wd_V wd_197 wd_198 wd_199 wd_2 (wd_c wd_200)) rfl rfl rfl dv_yX6_refuse_1 ⟨Nat.le_of_ble_eq_true rfl, Nat.le_of_ble_eq_true rfl⟩) ⟨Pw.fb, recvX6 hK hP (q0 := 0) rfl, fun U hU hW => Pw.to (hP.ms _ hMs) (hD.ms _ hMs) (hK.ms [false, false, false, false, false, false, false, false, false, false, false, false, false, false, false, false] rfl) hE hS hFc hU hW⟩ rfl rfl hl.1 rfl (lv_room (Nat.le_of_ble_eq_true rfl)) dX6_court_58 ⟨Nat.le_of_ble_eq_true rfl, Nat.le_of_ble_eq_true rfl⟩) hS (fun q _ h => hFc q h) hFc (fun r u t H locs ht hvm hw hB hz1 hk1 hS => ?_)
        have hru9 := hw.2
        have hw := hw.1
        refine ex_1_1 hB (fun x_6849 e_x_6849_0 hB => ?_)
        obtain ⟨hP, hD⟩ := Bw.goN (ws' := [(oc6 oK oR oC oS oT rK_images iK_imageCount oA oH oL x_6849 x_6813 x_6814), (oc5 oS rS_worths rS_order rS_left), (arI rS_worths kS_worths 18 fS_worths), (arI rS_order kS_order 72 fS_order), (oc0 oA iA_count rA_nodes rA_olds rA_says), (oc3 oR x_6813 x_6814 x_6815 rR_tape x_6816 x_6817 x_6818 x_6819 y_6820 x_6821 x_6822 oD x_6823 rR_names rR_keys), (arI rR_tape kR_tape 900 fR_tape), (arL rR_names kR_names 18 f_6824), (arL rR_keys kR_keys 10 fR_keys), (oc1 oD x_6825 x_6826 x_6827 x_6828 x_6829 x_6830 x_6831 x_6832 rD_kind rD_parts rD_partNodes rD_weights rD_weightSums rD_toldWorths rD_steps rD_below rD_above rD_unsureWords rD_unsureWorths), (arI rD_kind kD_kind 18 f_6833), (arI rD_parts kD_parts 18 f_6834), (arI rD_partNodes kD_partNodes 72 f_6835), (arI rD_weights kD_weights 72 f_6836), (arI rD_weightSums kD_weightSums 18 f_6837), (arI rD_toldWorths kD_toldWorths 18 f_6838), (arI rD_steps kD_steps 18 f_6839), (arI rD_below kD_below 18 f_6840), (arI rD_above kD_above 18 f_6841), (arI rD_unsureWords kD_unsureWords 4 f_6842), (arI rD_unsureWorths kD_unsureWorths 4 f_6843)]) hB rfl ht hP hD _ hMs hk1 hFc rfl
        clear hz1 hk1 hvm ht hB hMs
        rw [← hru9] at e_x_6849_0
        obtain ⟨x_6850, rfl⟩ : ∃ z, z = r := ⟨_, rfl⟩
        have hG := hG.trans (un2_eq e_x_6849_0)
        have ux_6850 := hw.2
        exact wq_i hx hb hr (cI x_6850) ⟨⟨trivial, trivial⟩, (cI_of x_6850)⟩ (fun t ht hW => ⟨iK_imageCount, x_6849, x_6813, x_6814, fS_worths, fS_order, iA_count, x_6813, x_6814, x_6815, x_6816, x_6817, x_6818, x_6819, y_6820, x_6821, x_6822, x_6823, f_6824, x_6825, x_6826, x_6827, x_6828, x_6829, x_6830, x_6831, x_6832, f_6833, f_6834, f_6835, f_6836, f_6837, f_6838, f_6839, f_6840, f_6841, f_6842, f_6843, b_iK_imageCount, a_fS_order, b_iA_count, ⟨b_x_6815.1, (om_899216b5 b_x_6815.2)⟩, b_x_6823, b_x_6825, b_x_6828, b_x_6830, a_f_6834, a_f_6835, a_f_6842, (by first | omega | decide | assumption), (cI_tup hG), (Or.inl (⟨(by rw [← cI_of]; omega), Bw.to hP hD hK ht hW⟩))⟩) hS dX6_court_61 hlocks
    · skip
      have hG := hG.trans (if_neg c_6812)
      have gc_6812 := ti_nle c_6812 rfl rfl
      refine lv_aload_n hx hb dX6_court_15 rfl (lv_at hl 0 rfl) ?_
      refine lv_iconst (v := 2) hx hb dX6_court_16 (by decide) ?_
      have hMs := ml_of hD [true, false, false, false, false, false, false, false, false, false, false, false, false, false, false, false, false, false, false, false, false] (wc := [(oc6 oK oR oC oS oT rK_images iK_imageCount oA oH oL iK_refusal iK_latestFault iK_latestPlace)]) rfl
      have hFc := va_freeM hD hS hA _ hMs
      refine va_calli (va_runV (As := [.int 2]) (rest := []) ⟨hx, hb, hml, hown, hts⟩ (tX6_refuse l dC dI _ oK oR oC oS oT rK_images iK_imageCount oA oH oL iK_refusal iK_latestFault iK_latestPlace 2 b_iK_imageCount) (cwV 1 hts (wd_V wd_197 wd_198 wd_199 wd_2 (wd_c wd_200)) rfl rfl rfl dv_yX6_refuse_1 ⟨Nat.le_of_ble_eq_true rfl, Nat.le_of_ble_eq_true rfl⟩) ⟨Pw.fb, recvX6 hK hP (q0 := 0) rfl, fun U hU hW => Pw.to (hP.ms _ hMs) (hD.ms _ hMs) (hK.ms [false, false, false, false, false, false, false, false, false, false, false, false, false, false, false, false] rfl) hE hS hFc hU hW⟩ rfl rfl hl.1 rfl (lv_room (Nat.le_of_ble_eq_true rfl)) dX6_court_17 ⟨Nat.le_of_ble_eq_true rfl, Nat.le_of_ble_eq_true rfl⟩) hS (fun q _ h => hFc q h) hFc (fun r u t H locs ht hvm hw hB hz1 hk1 hS => ?_)
      have hru9 := hw.2
      have hw := hw.1
      refine ex_1_1 hB (fun x_6851 e_x_6851_0 hB => ?_)
      obtain ⟨hP, hD⟩ := Bw.goN (ws' := [(oc6 oK oR oC oS oT rK_images iK_imageCount oA oH oL x_6851 iK_latestFault iK_latestPlace), (oc5 oS rS_worths rS_order rS_left), (arI rS_worths kS_worths 18 fS_worths), (arI rS_order kS_order 72 fS_order), (oc0 oA iA_count rA_nodes rA_olds rA_says), (oc3 oR iR_faultNumber iR_faultPlace iR_tapeSize rR_tape iR_end iR_tokenKind iR_tokenFrom iR_tokenTo iR_tokenName iR_tokenKey iR_tokenWhole oD iR_courtTold rR_names rR_keys), (arI rR_tape kR_tape 900 fR_tape), (arL rR_names kR_names 18 fR_names), (arL rR_keys kR_keys 10 fR_keys), (oc1 oD iD_nodes iD_words iD_chances iD_unsures iD_slips iD_throneNode iD_saidWorth iD_unit rD_kind rD_parts rD_partNodes rD_weights rD_weightSums rD_toldWorths rD_steps rD_below rD_above rD_unsureWords rD_unsureWorths), (arI rD_kind kD_kind 18 fD_kind), (arI rD_parts kD_parts 18 fD_parts), (arI rD_partNodes kD_partNodes 72 fD_partNodes), (arI rD_weights kD_weights 72 fD_weights), (arI rD_weightSums kD_weightSums 18 fD_weightSums), (arI rD_toldWorths kD_toldWorths 18 fD_toldWorths), (arI rD_steps kD_steps 18 fD_steps), (arI rD_below kD_below 18 fD_below), (arI rD_above kD_above 18 fD_above), (arI rD_unsureWords kD_unsureWords 4 fD_unsureWords), (arI rD_unsureWorths kD_unsureWorths 4 fD_unsureWorths)]) hB rfl ht hP hD _ hMs hk1 hFc rfl
      clear hz1 hk1 hvm ht hB hMs
      rw [← hru9] at e_x_6851_0
      obtain ⟨x_6852, rfl⟩ : ∃ z, z = r := ⟨_, rfl⟩
      have hG := hG.trans (un2_eq e_x_6851_0)
      have ux_6852 := hw.2
      exact wq_i hx hb hr (cI x_6852) ⟨⟨trivial, trivial⟩, (cI_of x_6852)⟩ (fun t ht hW => ⟨iK_imageCount, x_6851, iK_latestFault, iK_latestPlace, fS_worths, fS_order, iA_count, iR_faultNumber, iR_faultPlace, iR_tapeSize, iR_end, iR_tokenKind, iR_tokenFrom, iR_tokenTo, iR_tokenName, iR_tokenKey, iR_tokenWhole, iR_courtTold, fR_names, iD_nodes, iD_words, iD_chances, iD_unsures, iD_slips, iD_throneNode, iD_saidWorth, iD_unit, fD_kind, fD_parts, fD_partNodes, fD_weights, fD_weightSums, fD_toldWorths, fD_steps, fD_below, fD_above, fD_unsureWords, fD_unsureWorths, b_iK_imageCount, a_fS_order, b_iA_count, b_iR_tapeSize, b_iR_courtTold, b_iD_nodes, b_iD_unsures, b_iD_throneNode, a_fD_parts, a_fD_partNodes, a_fD_unsureWords, (by first | omega | decide | assumption), (cI_tup hG), (Or.inl (⟨(by rw [← cI_of]; omega), Bw.to hP hD hK ht hW⟩))⟩) hS dX6_court_20 hlocks
