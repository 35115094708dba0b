set_option maxHeartbeats 4000000 in
set_option maxRecDepth 100000 in
theorem tX5_standAsTold (l : Launch) (dC : Nat → ClassId) (dI : Nat → Nat → Nat) (sz : Nat) (oS : Nat) (rS_worths : Nat) (fS_worths : Nat → Int32) (kS_worths : ClassId) (rS_order : Nat) (fS_order : Nat → Int32) (kS_order : ClassId) (rS_left : Nat) (oC : Nat) (iC_nodes : Int32) (iC_words : Int32) (iC_chances : Int32) (iC_unsures : Int32) (iC_slips : Int32) (iC_throneNode : Int32) (iC_saidWorth : Int32) (iC_unit : Int32) (rC_kind : Nat) (rC_parts : Nat) (rC_partNodes : Nat) (rC_weights : Nat) (rC_weightSums : Nat) (rC_toldWorths : Nat) (fC_toldWorths : Nat → Int32) (kC_toldWorths : ClassId) (rC_steps : Nat) (rC_below : Nat) (rC_above : Nat) (rC_unsureWords : Nat) (rC_unsureWorths : Nat) (a_fS_order : ∀ j : Nat, j < 72 → 0 ≤ (fS_order j).toInt ∧ (fS_order j).toInt ≤ 3) (b_iC_nodes : 0 ≤ iC_nodes.toInt ∧ iC_nodes.toInt ≤ 18) (b_iC_unsures : 0 ≤ iC_unsures.toInt ∧ iC_unsures.toInt ≤ 4) (b_iC_throneNode : (-1) ≤ iC_throneNode.toInt ∧ iC_throneNode.toInt ≤ 17)  : Met l yX5_standAsTold (Cond.code yX5_standAsTold cX5_standAsTold 4 none :: wG) ({ frames := 0, cells := 0, slots := 0, locals := 0 }) (va_Pc [.ref oS, .ref oC] (Pw dC dI sz [(oc5 oS rS_worths rS_order rS_left), (arI rS_worths kS_worths 18 fS_worths), (arI rS_order kS_order 72 fS_order), (oc1 oC iC_nodes iC_words iC_chances iC_unsures iC_slips iC_throneNode iC_saidWorth iC_unit rC_kind rC_parts rC_partNodes rC_weights rC_weightSums rC_toldWorths rC_steps rC_below rC_above rC_unsureWords rC_unsureWorths), (arI rC_toldWorths kC_toldWorths 18 fC_toldWorths)] [(kS_worths, .int), (kS_order, .int), (kC_toldWorths, .int)])) (va_Qv (fun (_ : Nat) => True) (fun (_ : Nat) (t : State) => ∃ (nfS_worths : Nat → Int32) (nfS_order : Nat → Int32), (∀ j : Nat, j < 72 → 0 ≤ (nfS_order j).toInt ∧ (nfS_order j).toInt ≤ 3) ∧ (PX5_standAsTold fS_worths fS_order fC_toldWorths = (nfS_worths, nfS_order)) ∧ Bw dC dI (va_A [(oc5 oS rS_worths rS_order rS_left), (arI rS_worths kS_worths 18 fS_worths), (arI rS_order kS_order 72 fS_order), (oc1 oC iC_nodes iC_words iC_chances iC_unsures iC_slips iC_throneNode iC_saidWorth iC_unit rC_kind rC_parts rC_partNodes rC_weights rC_weightSums rC_toldWorths rC_steps rC_below rC_above rC_unsureWords rC_unsureWorths), (arI rC_toldWorths kC_toldWorths 18 fC_toldWorths)] sz) [(oc5 oS rS_worths rS_order rS_left), (arI rS_worths kS_worths 18 nfS_worths), (arI rS_order kS_order 72 nfS_order), (oc1 oC iC_nodes iC_words iC_chances iC_unsures iC_slips iC_throneNode iC_saidWorth iC_unit rC_kind rC_parts rC_partNodes rC_weights rC_weightSums rC_toldWorths rC_steps rC_below rC_above rC_unsureWords rC_unsureWorths), (arI rC_toldWorths kC_toldWorths 18 fC_toldWorths)] [(kS_worths, .int), (kS_order, .int), (kC_toldWorths, .int)] t) (va_A [(oc5 oS rS_worths rS_order rS_left), (arI rS_worths kS_worths 18 fS_worths), (arI rS_order kS_order 72 fS_order), (oc1 oC iC_nodes iC_words iC_chances iC_unsures iC_slips iC_throneNode iC_saidWorth iC_unit rC_kind rC_parts rC_partNodes rC_weights rC_weightSums rC_toldWorths rC_steps rC_below rC_above rC_unsureWords rC_unsureWorths), (arI rC_toldWorths kC_toldWorths 18 fC_toldWorths)] sz)) 0 0 (va_A [(oc5 oS rS_worths rS_order rS_left), (arI rS_worths kS_worths 18 fS_worths), (arI rS_order kS_order 72 fS_order), (oc1 oC iC_nodes iC_words iC_chances iC_unsures iC_slips iC_throneNode iC_saidWorth iC_unit rC_kind rC_parts rC_partNodes rC_weights rC_weightSums rC_toldWorths rC_steps rC_below rC_above rC_unsureWords rC_unsureWorths), (arI rC_toldWorths kC_toldWorths 18 fC_toldWorths)] sz) := by
  refine Met.ofW (cc := cX5_standAsTold) (maxL := 4) (ret := none) pnX5 rfl ?_
  intro p e s m args below meth c s₁ B hml hv
  obtain ⟨rfl, hsz, hP, hK, hD0, hE⟩ := hv
  have hx := B.exec
  have hb := B.bytes
  have hr := B.returns
  have hts : ∀ w ∈ wG, w.before ([.ref oS, .ref oC] : List Value).toArray s = true := fun w h => atoms_spec (ws := Cond.code yX5_standAsTold cX5_standAsTold 4 none :: wG) B.pre w (List.mem_cons_of_mem _ h)
  have hown : s.vm.findClass RX5 = some m.cls := own_of B.named rfl
  have hlocks := B.notSynchronized
  subst hsz
  have hD := hD0.self (sz := s.heap.size)
  generalize hAe : va_A [(oc5 oS rS_worths rS_order rS_left), (arI rS_worths kS_worths 18 fS_worths), (arI rS_order kS_order 72 fS_order), (oc1 oC iC_nodes iC_words iC_chances iC_unsures iC_slips iC_throneNode iC_saidWorth iC_unit rC_kind rC_parts rC_partNodes rC_weights rC_weightSums rC_toldWorths rC_steps rC_below rC_above rC_unsureWords rC_unsureWorths), (arI rC_toldWorths kC_toldWorths 18 fC_toldWorths)] s.heap.size = A at hD hE ⊢
  have hA : ∀ q : Nat, s.heap.size ≤ q → A q := fun q h => by rw [← hAe]; exact Or.inr h
  have hS : va_S A s.heap s.heap [] := va_S.rf
  have hl := lv_entry ([.ref oS, .ref oC]) (n := 4) (Nat.le_of_ble_eq_true rfl)
  rw [lg_entry_eq]
  generalize (lg_sl ([.ref oS, .ref oC]) ++ List.replicate (4 - (lg_sl ([.ref oS, .ref oC])).length) Slot.unset).toArray = ls at hl ⊢
  have hl : lv_has ls 4 [(0, .ref oS), (1, .ref oC)] := hl
  have hG := PX5_standAsTold_eq fS_worths fS_order fC_toldWorths
  refine lv_iconst (v := 0) hx hb dX5_standAsTold_0 (by decide) ?_
  refine lv_istore_n (lv' := [(2, .int 0), (0, .ref oS), (1, .ref oC)]) hx hb dX5_standAsTold_1 rfl hl (by decide) rfl (fun ls hl => ?_)
  have hl := lv_sub hl (l' := [(2, .int 0), (0, .ref oS), (1, .ref oC)]) [0, 1, 2] rfl
  have key_n_418 : ∀ (n_418 : Nat) (z_415 : Int32) (f_416 : Nat → Int32) (f_417 : Nat → Int32) (H : Heap) (locs : List Loc) (ls : Array Slot), (∀ j : Nat, j < 72 → 0 ≤ (f_417 j).toInt ∧ (f_417 j).toInt ≤ 3) → (0 ≤ z_415.toInt ∧ z_415.toInt ≤ 2147483647) → (2147483647 - z_415.toInt).toNat < n_418 → (PX5_standAsTold fS_worths fS_order fC_toldWorths = HX5_standAsTold_0 fC_toldWorths n_418 z_415 f_416 f_417) → va_P (dC, dI) vwCl [(oc5 oS rS_worths rS_order rS_left), (arI rS_worths kS_worths 18 f_416), (arI rS_order kS_order 72 f_417), (oc1 oC iC_nodes iC_words iC_chances iC_unsures iC_slips iC_throneNode iC_saidWorth iC_unit rC_kind rC_parts rC_partNodes rC_weights rC_weightSums rC_toldWorths rC_steps rC_below rC_above rC_unsureWords rC_unsureWorths), (arI rC_toldWorths kC_toldWorths 18 fC_toldWorths)] H → va_D A [(oc5 oS rS_worths rS_order rS_left), (arI rS_worths kS_worths 18 f_416), (arI rS_order kS_order 72 f_417), (oc1 oC iC_nodes iC_words iC_chances iC_unsures iC_slips iC_throneNode iC_saidWorth iC_unit rC_kind rC_parts rC_partNodes rC_weights rC_weightSums rC_toldWorths rC_steps rC_below rC_above rC_unsureWords rC_unsureWorths), (arI rC_toldWorths kC_toldWorths 18 fC_toldWorths)] → va_S A s.heap H locs → lv_has ls 4 [(2, .int z_415), (0, .ref oS), (1, .ref oC)] → W p l e (headSpec (Cond.code yX5_standAsTold cX5_standAsTold 4 none :: wG) ({ frames := 0, cells := 0, slots := 0, locals := 0 })).room s m ([.ref oS, .ref oC] : List Value).toArray below meth c H locs 0 0 (MQ below (va_Qv (fun (_ : Nat) => True) (fun (_ : Nat) (t : State) => ∃ (nfS_worths : Nat → Int32) (nfS_order : Nat → Int32), (∀ j : Nat, j < 72 → 0 ≤ (nfS_order j).toInt ∧ (nfS_order j).toInt ≤ 3) ∧ (PX5_standAsTold fS_worths fS_order fC_toldWorths = (nfS_worths, nfS_order)) ∧ Bw dC dI A [(oc5 oS rS_worths rS_order rS_left), (arI rS_worths kS_worths 18 nfS_worths), (arI rS_order kS_order 72 nfS_order), (oc1 oC iC_nodes iC_words iC_chances iC_unsures iC_slips iC_throneNode iC_saidWorth iC_unit rC_kind rC_parts rC_partNodes rC_weights rC_weightSums rC_toldWorths rC_steps rC_below rC_above rC_unsureWords rC_unsureWorths), (arI rC_toldWorths kC_toldWorths 18 fC_toldWorths)] [(kS_worths, .int), (kS_order, .int), (kC_toldWorths, .int)] t) A) ([.ref oS, .ref oC] : List Value).toArray s 0 0 A) (F0 m 2 ls []) := by
    intro n_418
    induction n_418 with
    | zero => intro z_415 f_416 f_417 H locs ls a_f_417 hi0_n_418 hm; exact absurd hm (Nat.not_lt_zero _)
    | succ n_418 ih_n_418 =>
      intro z_415 f_416 f_417 H locs ls a_f_417 hi0_n_418 hm_n_418 hG hP hD hS hl
      have hG := hG.trans (HX5_standAsTold_0_eq _ _ _ _ _)
      have rg_z_415 := fb_rng z_415
      refine lv_iload_n hx hb dX5_standAsTold_2 rfl (lv_at hl 0 rfl) ?_
      refine lv_bipush (v := 18) hx hb dX5_standAsTold_3 (by decide) ?_
      refine lv_icmp_ge (tgt := 50) hx hb dX5_standAsTold_5 (by decide) (fun c_419 => ?_) (fun c_419 => ?_)
      · skip
        have hG := hG.trans (if_pos c_419)
        have gc_419 := ti_le c_419 kc_18 rfl
        exact wq_v hx hb hr 0 trivial (fun t ht hW => ⟨f_416, f_417, a_f_417, hG, Bw.to hP hD hK ht hW⟩) hS dX5_standAsTold_50 hlocks
      · skip
        have hG := hG.trans (if_neg c_419)
        have gc_419 := ti_nle c_419 kc_18 rfl
        refine lv_aload_n hx hb dX5_standAsTold_8 rfl (lv_at hl 1 rfl) ?_
        refine va_get (D := (dC, dI)) (ci := 5) (v := .ref rS_worths) (C := RX5) (T := TX5) (N := 3) hx hb hts inX5 hown hK hP 0 rfl rfl 0 (by decide) (hts _ wd_128) (fun _ h9 => h9) rfl dX5_standAsTold_9 ?_
        refine lv_iload_n hx hb dX5_standAsTold_12 rfl (lv_at hl 0 rfl) ?_
        refine lv_aload_n hx hb dX5_standAsTold_13 rfl (lv_at hl 2 rfl) ?_
        refine va_get (D := (dC, dI)) (ci := 1) (v := .ref rC_toldWorths) (C := RX1) (T := TX1) (N := 19) hx hb hts inX1 hown hK hP 3 rfl rfl 13 (by decide) (hts _ wd_369) (fun _ h9 => h9) rfl dX5_standAsTold_14 ?_
        refine lv_iload_n hx hb dX5_standAsTold_17 rfl (lv_at hl 0 rfl) ?_
        refine va_iald hx hb hK hP 4 2 rfl rfl (ti_in rfl hi0_n_418.1 (om_c3e6050f gc_419)) dX5_standAsTold_18 ?_
        refine lv_topi (fun x_420 ex_420 => ?_)
        have hG := hG.trans (lt_eq ex_420)
        have rg_x_420 := fb_rng x_420
        have kx_420 : (fC_toldWorths z_415.toNatClampNeg).toInt = x_420.toInt := by rw [ex_420]
        refine va_iast hx hb hK hP hD hS 1 0 rfl rfl (ti_in rfl hi0_n_418.1 (om_c3e6050f gc_419)) dX5_standAsTold_19 (fun H locs hP hD hS => ?_)
        obtain ⟨f_422, ef_422⟩ : ∃ g : Nat → Int32, g = upd f_416 z_415.toNatClampNeg x_420 := ⟨_, rfl⟩
        rw [← ef_422] at hP hD
        have hG := hG.trans (lt_eq ef_422)
        obtain ⟨hP, hD⟩ := wl2 (ws' := [(oc5 oS rS_worths rS_order rS_left), (arI rS_worths kS_worths 18 f_422), (arI rS_order kS_order 72 f_417), (oc1 oC iC_nodes iC_words iC_chances iC_unsures iC_slips iC_throneNode iC_saidWorth iC_unit rC_kind rC_parts rC_partNodes rC_weights rC_weightSums rC_toldWorths rC_steps rC_below rC_above rC_unsureWords rC_unsureWorths), (arI rC_toldWorths kC_toldWorths 18 fC_toldWorths)]) hP hD rfl
        refine lv_iconst (v := 0) hx hb dX5_standAsTold_20 (by decide) ?_
        refine lv_istore_n (lv' := [(3, .int 0), (2, .int z_415), (0, .ref oS), (1, .ref oC)]) hx hb dX5_standAsTold_21 rfl hl (by decide) rfl (fun ls hl => ?_)
        have hl := lv_sub hl (l' := [(3, .int 0), (2, .int z_415), (0, .ref oS), (1, .ref oC)]) [0, 1, 2, 3] rfl
        have key_n_425 : ∀ (n_425 : Nat) (z_423 : Int32) (f_424 : Nat → Int32) (H : Heap) (locs : List Loc) (ls : Array Slot), (∀ j : Nat, j < 72 → 0 ≤ (f_424 j).toInt ∧ (f_424 j).toInt ≤ 3) → (0 ≤ z_423.toInt ∧ z_423.toInt ≤ 2147483647) → (2147483647 - z_423.toInt).toNat < n_425 → (PX5_standAsTold fS_worths fS_order fC_toldWorths = HX5_standAsTold_1 z_415 f_422 (fun (z_415 : Int32) (f_416 : Nat → Int32) (f_417 : Nat → Int32) => HX5_standAsTold_0 fC_toldWorths n_418 z_415 f_416 f_417) n_425 z_423 f_424) → va_P (dC, dI) vwCl [(oc5 oS rS_worths rS_order rS_left), (arI rS_worths kS_worths 18 f_422), (arI rS_order kS_order 72 f_424), (oc1 oC iC_nodes iC_words iC_chances iC_unsures iC_slips iC_throneNode iC_saidWorth iC_unit rC_kind rC_parts rC_partNodes rC_weights rC_weightSums rC_toldWorths rC_steps rC_below rC_above rC_unsureWords rC_unsureWorths), (arI rC_toldWorths kC_toldWorths 18 fC_toldWorths)] H → va_D A [(oc5 oS rS_worths rS_order rS_left), (arI rS_worths kS_worths 18 f_422), (arI rS_order kS_order 72 f_424), (oc1 oC iC_nodes iC_words iC_chances iC_unsures iC_slips iC_throneNode iC_saidWorth iC_unit rC_kind rC_parts rC_partNodes rC_weights rC_weightSums rC_toldWorths rC_steps rC_below rC_above rC_unsureWords rC_unsureWorths), (arI rC_toldWorths kC_toldWorths 18 fC_toldWorths)] → va_S A s.heap H locs → lv_has ls 4 [(3, .int z_423), (2, .int z_415), (0, .ref oS), (1, .ref oC)] → W p l e (headSpec (Cond.code yX5_standAsTold cX5_standAsTold 4 none :: wG) ({ frames := 0, cells := 0, slots := 0, locals := 0 })).room s m ([.ref oS, .ref oC] : List Value).toArray below meth c H locs 0 0 (MQ below (va_Qv (fun (_ : Nat) => True) (fun (_ : Nat) (t : State) => ∃ (nfS_worths : Nat → Int32) (nfS_order : Nat → Int32), (∀ j : Nat, j < 72 → 0 ≤ (nfS_order j).toInt ∧ (nfS_order j).toInt ≤ 3) ∧ (PX5_standAsTold fS_worths fS_order fC_toldWorths = (nfS_worths, nfS_order)) ∧ Bw dC dI A [(oc5 oS rS_worths rS_order rS_left), (arI rS_worths kS_worths 18 nfS_worths), (arI rS_order kS_order 72 nfS_order), (oc1 oC iC_nodes iC_words iC_chances iC_unsures iC_slips iC_throneNode iC_saidWorth iC_unit rC_kind rC_parts rC_partNodes rC_weights rC_weightSums rC_toldWorths rC_steps rC_below rC_above rC_unsureWords rC_unsureWorths), (arI rC_toldWorths kC_toldWorths 18 fC_toldWorths)] [(kS_worths, .int), (kS_order, .int), (kC_toldWorths, .int)] t) A) ([.ref oS, .ref oC] : List Value).toArray s 0 0 A) (F0 m 22 ls []) := by
          intro n_425
          induction n_425 with
          | zero => intro z_423 f_424 H locs ls a_f_424 hi0_n_425 hm; exact absurd hm (Nat.not_lt_zero _)
          | succ n_425 ih_n_425 =>
            intro z_423 f_424 H locs ls a_f_424 hi0_n_425 hm_n_425 hG hP hD hS hl
            have hG := hG.trans (HX5_standAsTold_1_eq _ _ _ _ _ _)
            have rg_z_423 := fb_rng z_423
            refine lv_iload_n hx hb dX5_standAsTold_22 rfl (lv_at hl 0 rfl) ?_
            refine lv_iconst (v := 4) hx hb dX5_standAsTold_23 (by decide) ?_
            refine lv_icmp_ge (tgt := 44) hx hb dX5_standAsTold_24 (by decide) (fun c_426 => ?_) (fun c_426 => ?_)
            · skip
              have hG := hG.trans (if_pos c_426)
              have gc_426 := ti_le c_426 kc_4 rfl
              obtain ⟨x_427, ex_427⟩ : ∃ z : Int32, z = z_415 + Int32.ofInt 1 := ⟨_, rfl⟩
              have hG := hG.trans (lt_eq ex_427)
              have vx_427 : x_427.toInt = z_415.toInt + 1 := ti_add (y := 1) ex_427 rfl kc_1 (om_4e4fce7e hi0_n_418.1) (om_a6833ec3 gc_419)
              refine lv_iinc (v := x_427) (lv' := [(2, .int x_427), (3, .int z_423), (0, .ref oS), (1, .ref oC)]) hx hb dX5_standAsTold_44 hl (k := 1) rfl ex_427.symm (by decide) rfl (fun ls hl => ?_)
              refine lv_goto (tgt := 2) hx hb dX5_standAsTold_47 (by decide) ?_
              exact ih_n_418 x_427 f_422 f_424 _ _ _ a_f_424 ⟨(om_83b90de5 hi0_n_418.1 vx_427), (om_a13a942c gc_419 vx_427)⟩ (ms_lt hm_n_418 (om_b9393183 vx_427) (om_b5a33b7d gc_419)) hG hP hD hS (lv_sub hl [0, 2, 3] rfl)
            · skip
              have hG := hG.trans (if_neg c_426)
              have gc_426 := ti_nle c_426 kc_4 rfl
              refine lv_aload_n hx hb dX5_standAsTold_27 rfl (lv_at hl 2 rfl) ?_
              refine va_get (D := (dC, dI)) (ci := 5) (v := .ref rS_order) (C := RX5) (T := TX5) (N := 3) hx hb hts inX5 hown hK hP 0 rfl rfl 1 (by decide) (hts _ wd_129) (fun _ h9 => h9) rfl dX5_standAsTold_28 ?_
              refine lv_iload_n hx hb dX5_standAsTold_31 rfl (lv_at hl 1 rfl) ?_
              refine lv_iconst (v := 4) hx hb dX5_standAsTold_32 (by decide) ?_
              refine lv_imul hx hb dX5_standAsTold_33 ?_
              refine lv_topi (fun x_428 ex_428 => ?_)
              have hG := hG.trans (lt_eq ex_428)
              have vx_428 : x_428.toInt = 4 * z_415.toInt := by have q := ti_mul ex_428 rfl kc_4 (by omega) (by omega); omega
              refine lv_iload_n hx hb dX5_standAsTold_34 rfl (lv_at hl 0 rfl) ?_
              refine lv_iadd hx hb dX5_standAsTold_35 ?_
              refine lv_topi (fun x_429 ex_429 => ?_)
              have hG := hG.trans (lt_eq ex_429)
              have vx_429 : x_429.toInt = 4 * z_415.toInt + z_423.toInt := om_5d0caf0f (ti_add ex_429 vx_428 rfl (om_056a216f hi0_n_418.1 hi0_n_425.1) (om_6d29852c gc_419 gc_426))
              refine lv_iload_n hx hb dX5_standAsTold_36 rfl (lv_at hl 0 rfl) ?_
              refine va_iast hx hb hK hP hD hS 2 1 rfl rfl (ti_in vx_429 (om_fc2812d4 hi0_n_418.1 hi0_n_425.1) (om_da32013a gc_419 gc_426)) dX5_standAsTold_37 (fun H locs hP hD hS => ?_)
              obtain ⟨f_431, ef_431⟩ : ∃ g : Nat → Int32, g = upd f_424 x_429.toNatClampNeg z_423 := ⟨_, rfl⟩
              rw [← ef_431] at hP hD
              have hG := hG.trans (lt_eq ef_431)
              obtain ⟨hP, hD⟩ := wl2 (ws' := [(oc5 oS rS_worths rS_order rS_left), (arI rS_worths kS_worths 18 f_422), (arI rS_order kS_order 72 f_431), (oc1 oC iC_nodes iC_words iC_chances iC_unsures iC_slips iC_throneNode iC_saidWorth iC_unit rC_kind rC_parts rC_partNodes rC_weights rC_weightSums rC_toldWorths rC_steps rC_below rC_above rC_unsureWords rC_unsureWorths), (arI rC_toldWorths kC_toldWorths 18 fC_toldWorths)]) hP hD rfl
              have a_f_431 : ∀ j : Nat, j < 72 → 0 ≤ (f_431 j).toInt ∧ (f_431 j).toInt ≤ 3 := by rw [ef_431]; exact upd_in a_f_424 ⟨hi0_n_425.1, (om_8189dedf gc_426)⟩
              obtain ⟨x_432, ex_432⟩ : ∃ z : Int32, z = z_423 + Int32.ofInt 1 := ⟨_, rfl⟩
              have hG := hG.trans (lt_eq ex_432)
              have vx_432 : x_432.toInt = z_423.toInt + 1 := ti_add (y := 1) ex_432 rfl kc_1 (om_4e4fce7e hi0_n_425.1) (om_71ed274a gc_426)
              refine lv_iinc (v := x_432) (lv' := [(3, .int x_432), (2, .int z_415), (0, .ref oS), (1, .ref oC)]) hx hb dX5_standAsTold_38 hl (k := 0) rfl ex_432.symm (by decide) rfl (fun ls hl => ?_)
              refine lv_goto (tgt := 22) hx hb dX5_standAsTold_41 (by decide) ?_
              exact ih_n_425 x_432 f_431 _ _ _ a_f_431 ⟨(om_83b90de5 hi0_n_425.1 vx_432), (om_d99ff3f9 gc_426 vx_432)⟩ (ms_lt hm_n_425 (om_b9393183 vx_432) (om_50af1673 gc_426)) hG hP hD hS (lv_sub hl [0, 1, 2, 3] rfl)
        exact key_n_425 (((2147483647 - (0 : Int32).toInt).toNat) + 1) 0 f_417 _ _ _ a_f_417 ⟨(om_b1de7dbe kc_0), (om_daf17c64 kc_0)⟩ (Nat.lt_add_one _) hG hP hD hS hl
  exact key_n_418 (((2147483647 - (0 : Int32).toInt).toNat) + 1) 0 fS_worths fS_order _ _ _ a_fS_order ⟨(om_b1de7dbe kc_0), (om_daf17c64 kc_0)⟩ (Nat.lt_add_one _) hG hP hD hS hl
set_option maxHeartbeats 4000000 in
set_option maxRecDepth 100000 in
theorem tX5_copyFrom (l : Launch) (dC : Nat → ClassId) (dI : Nat → Nat → Nat) (sz : Nat) (oS : Nat) (rS_worths : Nat) (fS_worths : Nat → Int32) (kS_worths : ClassId) (rS_order : Nat) (fS_order : Nat → Int32) (kS_order : ClassId) (rS_left : Nat) (oT : Nat) (rT_worths : Nat) (fT_worths : Nat → Int32) (kT_worths : ClassId) (rT_order : Nat) (fT_order : Nat → Int32) (kT_order : ClassId) (rT_left : Nat) (a_fS_order : ∀ j : Nat, j < 72 → 0 ≤ (fS_order j).toInt ∧ (fS_order j).toInt ≤ 3) (a_fT_order : ∀ j : Nat, j < 72 → 0 ≤ (fT_order j).toInt ∧ (fT_order j).toInt ≤ 3)  : Met l yX5_copyFrom (Cond.code yX5_copyFrom cX5_copyFrom 2 none :: wG) ({ frames := 1, cells := 0, slots := 0, locals := 64 }) (va_Pc [.ref oS, .ref oT] (Pw dC dI sz [(oc5 oS rS_worths rS_order rS_left), (arI rS_worths kS_worths 18 fS_worths), (arI rS_order kS_order 72 fS_order), (oc5 oT rT_worths rT_order rT_left), (arI rT_worths kT_worths 18 fT_worths), (arI rT_order kT_order 72 fT_order)] [(kS_worths, .int), (kS_order, .int), (kT_worths, .int), (kT_order, .int)])) (va_Qv (fun (_ : Nat) => True) (fun (_ : Nat) (t : State) => ∃ (nfS_worths : Nat → Int32) (nfS_order : Nat → Int32), (∀ j : Nat, j < 72 → 0 ≤ (nfS_order j).toInt ∧ (nfS_order j).toInt ≤ 3) ∧ (PX5_copyFrom fS_worths fS_order fT_worths fT_order = (nfS_worths, nfS_order)) ∧ Bw dC dI (va_A [(oc5 oS rS_worths rS_order rS_left), (arI rS_worths kS_worths 18 fS_worths), (arI rS_order kS_order 72 fS_order), (oc5 oT rT_worths rT_order rT_left), (arI rT_worths kT_worths 18 fT_worths), (arI rT_order kT_order 72 fT_order)] sz) [(oc5 oS rS_worths rS_order rS_left), (arI rS_worths kS_worths 18 nfS_worths), (arI rS_order kS_order 72 nfS_order), (oc5 oT rT_worths rT_order rT_left), (arI rT_worths kT_worths 18 fT_worths), (arI rT_order kT_order 72 fT_order)] [(kS_worths, .int), (kS_order, .int), (kT_worths, .int), (kT_order, .int)] t) (va_A [(oc5 oS rS_worths rS_order rS_left), (arI rS_worths kS_worths 18 fS_worths), (arI rS_order kS_order 72 fS_order), (oc5 oT rT_worths rT_order rT_left), (arI rT_worths kT_worths 18 fT_worths), (arI rT_order kT_order 72 fT_order)] sz)) 0 0 (va_A [(oc5 oS rS_worths rS_order rS_left), (arI rS_worths kS_worths 18 fS_worths), (arI rS_order kS_order 72 fS_order), (oc5 oT rT_worths rT_order rT_left), (arI rT_worths kT_worths 18 fT_worths), (arI rT_order kT_order 72 fT_order)] sz) := by
  refine Met.ofW (cc := cX5_copyFrom) (maxL := 2) (ret := none) pnX5 rfl ?_
  intro p e s m args below meth c s₁ B hml hv
  obtain ⟨rfl, hsz, hP, hK, hD0, hE⟩ := hv
  have hx := B.exec
  have hb := B.bytes
  have hr := B.returns
  have hts : ∀ w ∈ wG, w.before ([.ref oS, .ref oT] : List Value).toArray s = true := fun w h => atoms_spec (ws := Cond.code yX5_copyFrom cX5_copyFrom 2 none :: wG) B.pre w (List.mem_cons_of_mem _ h)
  have hown : s.vm.findClass RX5 = some m.cls := own_of B.named rfl
  have hlocks := B.notSynchronized
  subst hsz
  have hD := hD0.self (sz := s.heap.size)
  generalize hAe : va_A [(oc5 oS rS_worths rS_order rS_left), (arI rS_worths kS_worths 18 fS_worths), (arI rS_order kS_order 72 fS_order), (oc5 oT rT_worths rT_order rT_left), (arI rT_worths kT_worths 18 fT_worths), (arI rT_order kT_order 72 fT_order)] s.heap.size = A at hD hE ⊢
  have hA : ∀ q : Nat, s.heap.size ≤ q → A q := fun q h => by rw [← hAe]; exact Or.inr h
  have hS : va_S A s.heap s.heap [] := va_S.rf
  have hl := lv_entry ([.ref oS, .ref oT]) (n := 2) (Nat.le_of_ble_eq_true rfl)
  rw [lg_entry_eq]
  generalize (lg_sl ([.ref oS, .ref oT]) ++ List.replicate (2 - (lg_sl ([.ref oS, .ref oT])).length) Slot.unset).toArray = ls at hl ⊢
  have hl : lv_has ls 2 [(0, .ref oS), (1, .ref oT)] := hl
  have hG := PX5_copyFrom_eq fS_worths fS_order fT_worths fT_order
  refine lv_aload_n hx hb dX5_copyFrom_0 rfl (lv_at hl 1 rfl) ?_
  refine va_get (D := (dC, dI)) (ci := 5) (v := .ref rT_worths) (C := RX5) (T := TX5) (N := 3) hx hb hts inX5 hown hK hP 3 rfl rfl 0 (by decide) (hts _ wd_128) (fun _ h9 => h9) rfl dX5_copyFrom_1 ?_
  refine lv_iconst (v := 0) hx hb dX5_copyFrom_4 (by decide) ?_
  refine lv_aload_n hx hb dX5_copyFrom_5 rfl (lv_at hl 0 rfl) ?_
  refine va_get (D := (dC, dI)) (ci := 5) (v := .ref rS_worths) (C := RX5) (T := TX5) (N := 3) hx hb hts inX5 hown hK hP 0 rfl rfl 0 (by decide) (hts _ wd_128) (fun _ h9 => h9) rfl dX5_copyFrom_6 ?_
  refine lv_iconst (v := 0) hx hb dX5_copyFrom_9 (by decide) ?_
  refine lv_bipush (v := 18) hx hb dX5_copyFrom_10 (by decide) ?_
  refine vz_copyE hx hb (hml.trans hl.1.symm) hown (hts _ wd_1015) (hts _ wd_1016) (hts _ wd_1017) (hts _ wd_1018) hK hP hD hS 4 1 2 0 rfl rfl rfl rfl (k := 18) (by decide) (by decide) (Nat.le_of_ble_eq_true rfl) (Nat.le_of_ble_eq_true (by decide +kernel)) dX5_copyFrom_12 (fun H locs f_435 ef_435 c_f_435 hP hD hS => ?_)
  have hG := hG.trans (lt_eq ef_435)
  obtain ⟨hP, hD⟩ := wl2 (ws' := [(oc5 oS rS_worths rS_order rS_left), (arI rS_worths kS_worths 18 f_435), (arI rS_order kS_order 72 fS_order), (oc5 oT rT_worths rT_order rT_left), (arI rT_worths kT_worths 18 fT_worths), (arI rT_order kT_order 72 fT_order)]) hP hD rfl
  refine lv_aload_n hx hb dX5_copyFrom_15 rfl (lv_at hl 1 rfl) ?_
  refine va_get (D := (dC, dI)) (ci := 5) (v := .ref rT_order) (C := RX5) (T := TX5) (N := 3) hx hb hts inX5 hown hK hP 3 rfl rfl 1 (by decide) (hts _ wd_129) (fun _ h9 => h9) rfl dX5_copyFrom_16 ?_
  refine lv_iconst (v := 0) hx hb dX5_copyFrom_19 (by decide) ?_
  refine lv_aload_n hx hb dX5_copyFrom_20 rfl (lv_at hl 0 rfl) ?_
  refine va_get (D := (dC, dI)) (ci := 5) (v := .ref rS_order) (C := RX5) (T := TX5) (N := 3) hx hb hts inX5 hown hK hP 0 rfl rfl 1 (by decide) (hts _ wd_129) (fun _ h9 => h9) rfl dX5_copyFrom_21 ?_
  refine lv_iconst (v := 0) hx hb dX5_copyFrom_24 (by decide) ?_
  refine lv_bipush (v := 72) hx hb dX5_copyFrom_25 (by decide) ?_
  refine vz_copyE hx hb (hml.trans hl.1.symm) hown (hts _ wd_1015) (hts _ wd_1016) (hts _ wd_1017) (hts _ wd_1018) hK hP hD hS 5 2 3 1 rfl rfl rfl rfl (k := 72) (by decide) (by decide) (Nat.le_of_ble_eq_true rfl) (Nat.le_of_ble_eq_true (by decide +kernel)) dX5_copyFrom_27 (fun H locs f_436 ef_436 c_f_436 hP hD hS => ?_)
  have hG := hG.trans (lt_eq ef_436)
  have a_f_436 := c_f_436 0 3 a_fT_order a_fS_order
  obtain ⟨hP, hD⟩ := wl2 (ws' := [(oc5 oS rS_worths rS_order rS_left), (arI rS_worths kS_worths 18 f_435), (arI rS_order kS_order 72 f_436), (oc5 oT rT_worths rT_order rT_left), (arI rT_worths kT_worths 18 fT_worths), (arI rT_order kT_order 72 fT_order)]) hP hD rfl
  exact wq_v hx hb hr 0 trivial (fun t ht hW => ⟨f_435, f_436, a_f_436, hG, Bw.to hP hD hK ht hW⟩) hS dX5_copyFrom_30 hlocks
set_option maxHeartbeats 4000000 in
set_option maxRecDepth 100000 in
theorem tX5_partAt (l : Launch) (dC : Nat → ClassId) (dI : Nat → Nat → Nat) (sz : Nat) (oS : Nat) (rS_worths : Nat) (rS_order : Nat) (fS_order : Nat → Int32) (kS_order : ClassId) (rS_left : Nat) (oC : Nat) (iC_nodes : Int32) (iC_words : Int32) (iC_chances : Int32) (iC_unsures : Int32) (iC_slips : Int32) (iC_throneNode : Int32) (iC_saidWorth : Int32) (iC_unit : Int32) (rC_kind : Nat) (rC_parts : Nat) (rC_partNodes : Nat) (fC_partNodes : Nat → Int32) (kC_partNodes : ClassId) (rC_weights : Nat) (rC_weightSums : Nat) (rC_toldWorths : Nat) (rC_steps : Nat) (rC_below : Nat) (rC_above : Nat) (rC_unsureWords : Nat) (rC_unsureWorths : Nat) (p0 : Int32) (p1 : Int32) (a_fS_order : ∀ j : Nat, j < 72 → 0 ≤ (fS_order j).toInt ∧ (fS_order j).toInt ≤ 3) (b_iC_nodes : 0 ≤ iC_nodes.toInt ∧ iC_nodes.toInt ≤ 18) (b_iC_unsures : 0 ≤ iC_unsures.toInt ∧ iC_unsures.toInt ≤ 4) (b_iC_throneNode : (-1) ≤ iC_throneNode.toInt ∧ iC_throneNode.toInt ≤ 17) (a_fC_partNodes : ∀ j : Nat, j < 72 → 0 ≤ (fC_partNodes j).toInt ∧ (fC_partNodes j).toInt ≤ 17) (hp0 : 0 ≤ p0.toInt ∧ p0.toInt ≤ 17) (hp1 : 0 ≤ p1.toInt ∧ p1.toInt ≤ 3) : Met l yX5_partAt (Cond.code yX5_partAt cX5_partAt 4 (some .int) :: wG) ({ frames := 0, cells := 0, slots := 0, locals := 0 }) (va_Pc [.ref oS, .ref oC, .int p0, .int p1] (Pw dC dI sz [(oc5 oS rS_worths rS_order rS_left), (arI rS_order kS_order 72 fS_order), (oc1 oC iC_nodes iC_words iC_chances iC_unsures iC_slips iC_throneNode iC_saidWorth iC_unit rC_kind rC_parts rC_partNodes rC_weights rC_weightSums rC_toldWorths rC_steps rC_below rC_above rC_unsureWords rC_unsureWorths), (arI rC_partNodes kC_partNodes 72 fC_partNodes)] [(kS_order, .int), (kC_partNodes, .int)])) (va_Qi (fun (r : Int32) (_ : Nat) => (True ∧ (0 ≤ r.toInt ∧ r.toInt ≤ 17)) ∧ PX5_partAt fS_order fC_partNodes p0 p1 = r) (fun (_ : Nat) (t : State) => Bw dC dI (va_A [(oc5 oS rS_worths rS_order rS_left), (arI rS_order kS_order 72 fS_order), (oc1 oC iC_nodes iC_words iC_chances iC_unsures iC_slips iC_throneNode iC_saidWorth iC_unit rC_kind rC_parts rC_partNodes rC_weights rC_weightSums rC_toldWorths rC_steps rC_below rC_above rC_unsureWords rC_unsureWorths), (arI rC_partNodes kC_partNodes 72 fC_partNodes)] sz) [(oc5 oS rS_worths rS_order rS_left), (arI rS_order kS_order 72 fS_order), (oc1 oC iC_nodes iC_words iC_chances iC_unsures iC_slips iC_throneNode iC_saidWorth iC_unit rC_kind rC_parts rC_partNodes rC_weights rC_weightSums rC_toldWorths rC_steps rC_below rC_above rC_unsureWords rC_unsureWorths), (arI rC_partNodes kC_partNodes 72 fC_partNodes)] [(kS_order, .int), (kC_partNodes, .int)] t) (va_A [(oc5 oS rS_worths rS_order rS_left), (arI rS_order kS_order 72 fS_order), (oc1 oC iC_nodes iC_words iC_chances iC_unsures iC_slips iC_throneNode iC_saidWorth iC_unit rC_kind rC_parts rC_partNodes rC_weights rC_weightSums rC_toldWorths rC_steps rC_below rC_above rC_unsureWords rC_unsureWorths), (arI rC_partNodes kC_partNodes 72 fC_partNodes)] sz)) 0 0 (va_A [(oc5 oS rS_worths rS_order rS_left), (arI rS_order kS_order 72 fS_order), (oc1 oC iC_nodes iC_words iC_chances iC_unsures iC_slips iC_throneNode iC_saidWorth iC_unit rC_kind rC_parts rC_partNodes rC_weights rC_weightSums rC_toldWorths rC_steps rC_below rC_above rC_unsureWords rC_unsureWorths), (arI rC_partNodes kC_partNodes 72 fC_partNodes)] sz) := by
  refine Met.ofW (cc := cX5_partAt) (maxL := 4) (ret := (some .int)) pnX5 rfl ?_
  intro p e s m args below meth c s₁ B hml hv
  obtain ⟨rfl, hsz, hP, hK, hD0, hE⟩ := hv
  have hx := B.exec
  have hb := B.bytes
  have hr := B.returns
  have hts : ∀ w ∈ wG, w.before ([.ref oS, .ref oC, .int p0, .int p1] : List Value).toArray s = true := fun w h => atoms_spec (ws := Cond.code yX5_partAt cX5_partAt 4 (some .int) :: wG) B.pre w (List.mem_cons_of_mem _ h)
  have hown : s.vm.findClass RX5 = some m.cls := own_of B.named rfl
  have hlocks := B.notSynchronized
  subst hsz
  have hD := hD0.self (sz := s.heap.size)
  generalize hAe : va_A [(oc5 oS rS_worths rS_order rS_left), (arI rS_order kS_order 72 fS_order), (oc1 oC iC_nodes iC_words iC_chances iC_unsures iC_slips iC_throneNode iC_saidWorth iC_unit rC_kind rC_parts rC_partNodes rC_weights rC_weightSums rC_toldWorths rC_steps rC_below rC_above rC_unsureWords rC_unsureWorths), (arI rC_partNodes kC_partNodes 72 fC_partNodes)] s.heap.size = A at hD hE ⊢
  have hA : ∀ q : Nat, s.heap.size ≤ q → A q := fun q h => by rw [← hAe]; exact Or.inr h
  have hS : va_S A s.heap s.heap [] := va_S.rf
  have hl := lv_entry ([.ref oS, .ref oC, .int p0, .int p1]) (n := 4) (Nat.le_of_ble_eq_true rfl)
  rw [lg_entry_eq]
  generalize (lg_sl ([.ref oS, .ref oC, .int p0, .int p1]) ++ List.replicate (4 - (lg_sl ([.ref oS, .ref oC, .int p0, .int p1])).length) Slot.unset).toArray = ls at hl ⊢
  have hl : lv_has ls 4 [(0, .ref oS), (1, .ref oC), (2, .int p0), (3, .int p1)] := hl
  have hG := PX5_partAt_eq fS_order fC_partNodes p0 p1
  refine lv_aload_n hx hb dX5_partAt_0 rfl (lv_at hl 1 rfl) ?_
  refine va_get (D := (dC, dI)) (ci := 1) (v := .ref rC_partNodes) (C := RX1) (T := TX1) (N := 19) hx hb hts inX1 hown hK hP 2 rfl rfl 10 (by decide) (hts _ wd_572) (fun _ h9 => h9) rfl dX5_partAt_1 ?_
  refine lv_iload_n hx hb dX5_partAt_4 rfl (lv_at hl 2 rfl) ?_
  refine lv_iconst (v := 4) hx hb dX5_partAt_5 (by decide) ?_
  refine lv_imul hx hb dX5_partAt_6 ?_
  refine lv_topi (fun x_443 ex_443 => ?_)
  have hG := hG.trans (lt_eq ex_443)
  have vx_443 : x_443.toInt = 4 * p0.toInt := by have q := ti_mul ex_443 rfl kc_4 (by omega) (by omega); omega
  refine lv_aload_n hx hb dX5_partAt_7 rfl (lv_at hl 0 rfl) ?_
  refine va_get (D := (dC, dI)) (ci := 5) (v := .ref rS_order) (C := RX5) (T := TX5) (N := 3) hx hb hts inX5 hown hK hP 0 rfl rfl 1 (by decide) (hts _ wd_129) (fun _ h9 => h9) rfl dX5_partAt_8 ?_
  refine lv_iload_n hx hb dX5_partAt_11 rfl (lv_at hl 2 rfl) ?_
  refine lv_iconst (v := 4) hx hb dX5_partAt_12 (by decide) ?_
  refine lv_imul hx hb dX5_partAt_13 ?_
  refine lv_topi (fun x_444 ex_444 => ?_)
  have hG := hG.trans (lt_eq ex_444)
  have vx_444 : x_444.toInt = 4 * p0.toInt := by have q := ti_mul ex_444 rfl kc_4 (by omega) (by omega); omega
  refine lv_iload_n hx hb dX5_partAt_14 rfl (lv_at hl 3 rfl) ?_
  refine lv_iadd hx hb dX5_partAt_15 ?_
  refine lv_topi (fun x_445 ex_445 => ?_)
  have hG := hG.trans (lt_eq ex_445)
  have vx_445 : x_445.toInt = 4 * p0.toInt + p1.toInt := om_5d0caf0f (ti_add ex_445 vx_444 rfl (om_056a216f hp0.1 hp1.1) (om_7cf60521 hp0.2 hp1.2))
  refine va_iald hx hb hK hP 1 0 rfl rfl (ti_in vx_445 (om_fc2812d4 hp0.1 hp1.1) (om_66174240 hp0.2 hp1.2)) dX5_partAt_16 ?_
  refine lv_topi (fun x_446 ex_446 => ?_)
  have hG := hG.trans (lt_eq ex_446)
  have kx_446 : (fS_order x_445.toNatClampNeg).toInt = x_446.toInt := by rw [ex_446]
  have ux_446 := a_fS_order x_445.toNatClampNeg (cl_lt vx_445 (om_fc2812d4 hp0.1 hp1.1) (om_66174240 hp0.2 hp1.2))
  rw [show fS_order x_445.toNatClampNeg = x_446 from ex_446.symm] at ux_446
  refine lv_iadd hx hb dX5_partAt_17 ?_
  refine lv_topi (fun x_447 ex_447 => ?_)
  have hG := hG.trans (lt_eq ex_447)
  have vx_447 : x_447.toInt = 4 * p0.toInt + x_446.toInt := om_5d0caf0f (ti_add ex_447 vx_443 rfl (om_056a216f hp0.1 ux_446.1) (om_7cf60521 hp0.2 ux_446.2))
  refine va_iald hx hb hK hP 3 1 rfl rfl (ti_in vx_447 (om_fc2812d4 hp0.1 ux_446.1) (om_66174240 hp0.2 ux_446.2)) dX5_partAt_18 ?_
  refine lv_topi (fun x_448 ex_448 => ?_)
  have hG := hG.trans (lt_eq ex_448)
  have kx_448 : (fC_partNodes x_447.toNatClampNeg).toInt = x_448.toInt := by rw [ex_448]
  have ux_448 := a_fC_partNodes x_447.toNatClampNeg (cl_lt vx_447 (om_fc2812d4 hp0.1 ux_446.1) (om_66174240 hp0.2 ux_446.2))
  rw [show fC_partNodes x_447.toNatClampNeg = x_448 from ex_448.symm] at ux_448
  exact wq_i hx hb hr 0 ⟨⟨trivial, ux_448⟩, hG⟩ (fun t ht hW => Bw.to hP hD hK ht hW) hS dX5_partAt_19 hlocks
set_option maxHeartbeats 4000000 in
set_option maxRecDepth 100000 in
theorem tX5_weightAt (l : Launch) (dC : Nat → ClassId) (dI : Nat → Nat → Nat) (sz : Nat) (oS : Nat) (rS_worths : Nat) (rS_order : Nat) (fS_order : Nat → Int32) (kS_order : ClassId) (rS_left : Nat) (oC : Nat) (iC_nodes : Int32) (iC_words : Int32) (iC_chances : Int32) (iC_unsures : Int32) (iC_slips : Int32) (iC_throneNode : Int32) (iC_saidWorth : Int32) (iC_unit : Int32) (rC_kind : Nat) (rC_parts : Nat) (rC_partNodes : Nat) (rC_weights : Nat) (fC_weights : Nat → Int32) (kC_weights : ClassId) (rC_weightSums : Nat) (rC_toldWorths : Nat) (rC_steps : Nat) (rC_below : Nat) (rC_above : Nat) (rC_unsureWords : Nat) (rC_unsureWorths : Nat) (p0 : Int32) (p1 : Int32) (a_fS_order : ∀ j : Nat, j < 72 → 0 ≤ (fS_order j).toInt ∧ (fS_order j).toInt ≤ 3) (b_iC_nodes : 0 ≤ iC_nodes.toInt ∧ iC_nodes.toInt ≤ 18) (b_iC_unsures : 0 ≤ iC_unsures.toInt ∧ iC_unsures.toInt ≤ 4) (b_iC_throneNode : (-1) ≤ iC_throneNode.toInt ∧ iC_throneNode.toInt ≤ 17) (hp0 : 0 ≤ p0.toInt ∧ p0.toInt ≤ 17) (hp1 : 0 ≤ p1.toInt ∧ p1.toInt ≤ 3) : Met l yX5_weightAt (Cond.code yX5_weightAt cX5_weightAt 4 (some .int) :: wG) ({ frames := 0, cells := 0, slots := 0, locals := 0 }) (va_Pc [.ref oS, .ref oC, .int p0, .int p1] (Pw dC dI sz [(oc5 oS rS_worths rS_order rS_left), (arI rS_order kS_order 72 fS_order), (oc1 oC iC_nodes iC_words iC_chances iC_unsures iC_slips iC_throneNode iC_saidWorth iC_unit rC_kind rC_parts rC_partNodes rC_weights rC_weightSums rC_toldWorths rC_steps rC_below rC_above rC_unsureWords rC_unsureWorths), (arI rC_weights kC_weights 72 fC_weights)] [(kS_order, .int), (kC_weights, .int)])) (va_Qi (fun (r : Int32) (_ : Nat) => (True ∧ True) ∧ PX5_weightAt fS_order fC_weights p0 p1 = r) (fun (_ : Nat) (t : State) => Bw dC dI (va_A [(oc5 oS rS_worths rS_order rS_left), (arI rS_order kS_order 72 fS_order), (oc1 oC iC_nodes iC_words iC_chances iC_unsures iC_slips iC_throneNode iC_saidWorth iC_unit rC_kind rC_parts rC_partNodes rC_weights rC_weightSums rC_toldWorths rC_steps rC_below rC_above rC_unsureWords rC_unsureWorths), (arI rC_weights kC_weights 72 fC_weights)] sz) [(oc5 oS rS_worths rS_order rS_left), (arI rS_order kS_order 72 fS_order), (oc1 oC iC_nodes iC_words iC_chances iC_unsures iC_slips iC_throneNode iC_saidWorth iC_unit rC_kind rC_parts rC_partNodes rC_weights rC_weightSums rC_toldWorths rC_steps rC_below rC_above rC_unsureWords rC_unsureWorths), (arI rC_weights kC_weights 72 fC_weights)] [(kS_order, .int), (kC_weights, .int)] t) (va_A [(oc5 oS rS_worths rS_order rS_left), (arI rS_order kS_order 72 fS_order), (oc1 oC iC_nodes iC_words iC_chances iC_unsures iC_slips iC_throneNode iC_saidWorth iC_unit rC_kind rC_parts rC_partNodes rC_weights rC_weightSums rC_toldWorths rC_steps rC_below rC_above rC_unsureWords rC_unsureWorths), (arI rC_weights kC_weights 72 fC_weights)] sz)) 0 0 (va_A [(oc5 oS rS_worths rS_order rS_left), (arI rS_order kS_order 72 fS_order), (oc1 oC iC_nodes iC_words iC_chances iC_unsures iC_slips iC_throneNode iC_saidWorth iC_unit rC_kind rC_parts rC_partNodes rC_weights rC_weightSums rC_toldWorths rC_steps rC_below rC_above rC_unsureWords rC_unsureWorths), (arI rC_weights kC_weights 72 fC_weights)] sz) := by
  refine Met.ofW (cc := cX5_weightAt) (maxL := 4) (ret := (some .int)) pnX5 rfl ?_
  intro p e s m args below meth c s₁ B hml hv
  obtain ⟨rfl, hsz, hP, hK, hD0, hE⟩ := hv
  have hx := B.exec
  have hb := B.bytes
  have hr := B.returns
  have hts : ∀ w ∈ wG, w.before ([.ref oS, .ref oC, .int p0, .int p1] : List Value).toArray s = true := fun w h => atoms_spec (ws := Cond.code yX5_weightAt cX5_weightAt 4 (some .int) :: wG) B.pre w (List.mem_cons_of_mem _ h)
  have hown : s.vm.findClass RX5 = some m.cls := own_of B.named rfl
  have hlocks := B.notSynchronized
  subst hsz
  have hD := hD0.self (sz := s.heap.size)
  generalize hAe : va_A [(oc5 oS rS_worths rS_order rS_left), (arI rS_order kS_order 72 fS_order), (oc1 oC iC_nodes iC_words iC_chances iC_unsures iC_slips iC_throneNode iC_saidWorth iC_unit rC_kind rC_parts rC_partNodes rC_weights rC_weightSums rC_toldWorths rC_steps rC_below rC_above rC_unsureWords rC_unsureWorths), (arI rC_weights kC_weights 72 fC_weights)] s.heap.size = A at hD hE ⊢
  have hA : ∀ q : Nat, s.heap.size ≤ q → A q := fun q h => by rw [← hAe]; exact Or.inr h
  have hS : va_S A s.heap s.heap [] := va_S.rf
  have hl := lv_entry ([.ref oS, .ref oC, .int p0, .int p1]) (n := 4) (Nat.le_of_ble_eq_true rfl)
  rw [lg_entry_eq]
  generalize (lg_sl ([.ref oS, .ref oC, .int p0, .int p1]) ++ List.replicate (4 - (lg_sl ([.ref oS, .ref oC, .int p0, .int p1])).length) Slot.unset).toArray = ls at hl ⊢
  have hl : lv_has ls 4 [(0, .ref oS), (1, .ref oC), (2, .int p0), (3, .int p1)] := hl
  have hG := PX5_weightAt_eq fS_order fC_weights p0 p1
  refine lv_aload_n hx hb dX5_weightAt_0 rfl (lv_at hl 1 rfl) ?_
  refine va_get (D := (dC, dI)) (ci := 1) (v := .ref rC_weights) (C := RX1) (T := TX1) (N := 19) hx hb hts inX1 hown hK hP 2 rfl rfl 11 (by decide) (hts _ wd_755) (fun _ h9 => h9) rfl dX5_weightAt_1 ?_
  refine lv_iload_n hx hb dX5_weightAt_4 rfl (lv_at hl 2 rfl) ?_
  refine lv_iconst (v := 4) hx hb dX5_weightAt_5 (by decide) ?_
  refine lv_imul hx hb dX5_weightAt_6 ?_
  refine lv_topi (fun x_455 ex_455 => ?_)
  have hG := hG.trans (lt_eq ex_455)
  have vx_455 : x_455.toInt = 4 * p0.toInt := by have q := ti_mul ex_455 rfl kc_4 (by omega) (by omega); omega
  refine lv_aload_n hx hb dX5_weightAt_7 rfl (lv_at hl 0 rfl) ?_
  refine va_get (D := (dC, dI)) (ci := 5) (v := .ref rS_order) (C := RX5) (T := TX5) (N := 3) hx hb hts inX5 hown hK hP 0 rfl rfl 1 (by decide) (hts _ wd_129) (fun _ h9 => h9) rfl dX5_weightAt_8 ?_
  refine lv_iload_n hx hb dX5_weightAt_11 rfl (lv_at hl 2 rfl) ?_
  refine lv_iconst (v := 4) hx hb dX5_weightAt_12 (by decide) ?_
  refine lv_imul hx hb dX5_weightAt_13 ?_
  refine lv_topi (fun x_456 ex_456 => ?_)
  have hG := hG.trans (lt_eq ex_456)
  have vx_456 : x_456.toInt = 4 * p0.toInt := by have q := ti_mul ex_456 rfl kc_4 (by omega) (by omega); omega
  refine lv_iload_n hx hb dX5_weightAt_14 rfl (lv_at hl 3 rfl) ?_
  refine lv_iadd hx hb dX5_weightAt_15 ?_
  refine lv_topi (fun x_457 ex_457 => ?_)
  have hG := hG.trans (lt_eq ex_457)
  have vx_457 : x_457.toInt = 4 * p0.toInt + p1.toInt := om_5d0caf0f (ti_add ex_457 vx_456 rfl (om_056a216f hp0.1 hp1.1) (om_7cf60521 hp0.2 hp1.2))
  refine va_iald hx hb hK hP 1 0 rfl rfl (ti_in vx_457 (om_fc2812d4 hp0.1 hp1.1) (om_66174240 hp0.2 hp1.2)) dX5_weightAt_16 ?_
  refine lv_topi (fun x_458 ex_458 => ?_)
  have hG := hG.trans (lt_eq ex_458)
  have kx_458 : (fS_order x_457.toNatClampNeg).toInt = x_458.toInt := by rw [ex_458]
  have ux_458 := a_fS_order x_457.toNatClampNeg (cl_lt vx_457 (om_fc2812d4 hp0.1 hp1.1) (om_66174240 hp0.2 hp1.2))
  rw [show fS_order x_457.toNatClampNeg = x_458 from ex_458.symm] at ux_458
  refine lv_iadd hx hb dX5_weightAt_17 ?_
  refine lv_topi (fun x_459 ex_459 => ?_)
  have hG := hG.trans (lt_eq ex_459)
  have vx_459 : x_459.toInt = 4 * p0.toInt + x_458.toInt := om_5d0caf0f (ti_add ex_459 vx_455 rfl (om_056a216f hp0.1 ux_458.1) (om_7cf60521 hp0.2 ux_458.2))
  refine va_iald hx hb hK hP 3 1 rfl rfl (ti_in vx_459 (om_fc2812d4 hp0.1 ux_458.1) (om_66174240 hp0.2 ux_458.2)) dX5_weightAt_18 ?_
  refine lv_topi (fun x_460 ex_460 => ?_)
  have hG := hG.trans (lt_eq ex_460)
  have kx_460 : (fC_weights x_459.toNatClampNeg).toInt = x_460.toInt := by rw [ex_460]
  exact wq_i hx hb hr 0 ⟨⟨trivial, trivial⟩, hG⟩ (fun t ht hW => Bw.to hP hD hK ht hW) hS dX5_weightAt_19 hlocks
set_option maxHeartbeats 4000000 in
set_option maxRecDepth 100000 in
theorem tX5_bringFirst (l : Launch) (dC : Nat → ClassId) (dI : Nat → Nat → Nat) (sz : Nat) (oS : Nat) (rS_worths : Nat) (rS_order : Nat) (fS_order : Nat → Int32) (kS_order : ClassId) (rS_left : Nat) (p0 : Int32) (p1 : Int32) (a_fS_order : ∀ j : Nat, j < 72 → 0 ≤ (fS_order j).toInt ∧ (fS_order j).toInt ≤ 3) (hp0 : 0 ≤ p0.toInt ∧ p0.toInt ≤ 17) (hp1 : 0 ≤ p1.toInt ∧ p1.toInt ≤ 3) : Met l yX5_bringFirst (Cond.code yX5_bringFirst cX5_bringFirst 6 none :: wG) ({ frames := 0, cells := 0, slots := 0, locals := 0 }) (va_Pc [.ref oS, .int p0, .int p1] (Pw dC dI sz [(oc5 oS rS_worths rS_order rS_left), (arI rS_order kS_order 72 fS_order)] [(kS_order, .int)])) (va_Qv (fun (_ : Nat) => True) (fun (_ : Nat) (t : State) => ∃ (nfS_order : Nat → Int32), (∀ j : Nat, j < 72 → 0 ≤ (nfS_order j).toInt ∧ (nfS_order j).toInt ≤ 3) ∧ (PX5_bringFirst fS_order p0 p1 = nfS_order) ∧ Bw dC dI (va_A [(oc5 oS rS_worths rS_order rS_left), (arI rS_order kS_order 72 fS_order)] sz) [(oc5 oS rS_worths rS_order rS_left), (arI rS_order kS_order 72 nfS_order)] [(kS_order, .int)] t) (va_A [(oc5 oS rS_worths rS_order rS_left), (arI rS_order kS_order 72 fS_order)] sz)) 0 0 (va_A [(oc5 oS rS_worths rS_order rS_left), (arI rS_order kS_order 72 fS_order)] sz) := by
  refine Met.ofW (cc := cX5_bringFirst) (maxL := 6) (ret := none) pnX5 rfl ?_
  intro p e s m args below meth c s₁ B hml hv
  obtain ⟨rfl, hsz, hP, hK, hD0, hE⟩ := hv
  have hx := B.exec
  have hb := B.bytes
  have hr := B.returns
  have hts : ∀ w ∈ wG, w.before ([.ref oS, .int p0, .int p1] : List Value).toArray s = true := fun w h => atoms_spec (ws := Cond.code yX5_bringFirst cX5_bringFirst 6 none :: wG) B.pre w (List.mem_cons_of_mem _ h)
  have hown : s.vm.findClass RX5 = some m.cls := own_of B.named rfl
  have hlocks := B.notSynchronized
  subst hsz
  have hD := hD0.self (sz := s.heap.size)
  generalize hAe : va_A [(oc5 oS rS_worths rS_order rS_left), (arI rS_order kS_order 72 fS_order)] s.heap.size = A at hD hE ⊢
  have hA : ∀ q : Nat, s.heap.size ≤ q → A q := fun q h => by rw [← hAe]; exact Or.inr h
  have hS : va_S A s.heap s.heap [] := va_S.rf
  have hl := lv_entry ([.ref oS, .int p0, .int p1]) (n := 6) (Nat.le_of_ble_eq_true rfl)
  rw [lg_entry_eq]
  generalize (lg_sl ([.ref oS, .int p0, .int p1]) ++ List.replicate (6 - (lg_sl ([.ref oS, .int p0, .int p1])).length) Slot.unset).toArray = ls at hl ⊢
  have hl : lv_has ls 6 [(0, .ref oS), (1, .int p0), (2, .int p1)] := hl
  have hG := PX5_bringFirst_eq fS_order p0 p1
  refine lv_iload_n hx hb dX5_bringFirst_0 rfl (lv_at hl 1 rfl) ?_
  refine lv_iconst (v := 4) hx hb dX5_bringFirst_1 (by decide) ?_
  refine lv_imul hx hb dX5_bringFirst_2 ?_
  refine lv_topi (fun x_488 ex_488 => ?_)
  have hG := hG.trans (lt_eq ex_488)
  have vx_488 : x_488.toInt = 4 * p0.toInt := by have q := ti_mul ex_488 rfl kc_4 (by omega) (by omega); omega
  refine lv_istore_n (lv' := [(3, .int x_488), (0, .ref oS), (1, .int p0), (2, .int p1)]) hx hb dX5_bringFirst_3 rfl hl (by decide) rfl (fun ls hl => ?_)
  refine lv_aload_n hx hb dX5_bringFirst_4 rfl (lv_at hl 1 rfl) ?_
  refine va_get (D := (dC, dI)) (ci := 5) (v := .ref rS_order) (C := RX5) (T := TX5) (N := 3) hx hb hts inX5 hown hK hP 0 rfl rfl 1 (by decide) (hts _ wd_129) (fun _ h9 => h9) rfl dX5_bringFirst_5 ?_
  refine lv_iload_n hx hb dX5_bringFirst_8 rfl (lv_at hl 0 rfl) ?_
  refine lv_iload_n hx hb dX5_bringFirst_9 rfl (lv_at hl 3 rfl) ?_
  refine lv_iadd hx hb dX5_bringFirst_10 ?_
  refine lv_topi (fun x_489 ex_489 => ?_)
  have hG := hG.trans (lt_eq ex_489)
  have vx_489 : x_489.toInt = 4 * p0.toInt + p1.toInt := om_5d0caf0f (ti_add ex_489 vx_488 rfl (om_056a216f hp0.1 hp1.1) (om_7cf60521 hp0.2 hp1.2))
  refine va_iald hx hb hK hP 1 0 rfl rfl (ti_in vx_489 (om_fc2812d4 hp0.1 hp1.1) (om_66174240 hp0.2 hp1.2)) dX5_bringFirst_11 ?_
  refine lv_topi (fun x_490 ex_490 => ?_)
  have hG := hG.trans (lt_eq ex_490)
  have kx_490 : (fS_order x_489.toNatClampNeg).toInt = x_490.toInt := by rw [ex_490]
  have ux_490 := a_fS_order x_489.toNatClampNeg (cl_lt vx_489 (om_fc2812d4 hp0.1 hp1.1) (om_66174240 hp0.2 hp1.2))
  rw [show fS_order x_489.toNatClampNeg = x_490 from ex_490.symm] at ux_490
  refine lv_istore (lv' := [(4, .int x_490), (3, .int x_488), (0, .ref oS), (1, .int p0), (2, .int p1)]) hx hb dX5_bringFirst_12 hl (by decide) rfl (fun ls hl => ?_)
  refine lv_iload_n hx hb dX5_bringFirst_14 rfl (lv_at hl 4 rfl) ?_
  refine lv_istore (lv' := [(5, .int p1), (4, .int x_490), (3, .int x_488), (0, .ref oS), (1, .int p0), (2, .int p1)]) hx hb dX5_bringFirst_15 hl (by decide) rfl (fun ls hl => ?_)
  have hl := lv_sub hl (l' := [(5, .int p1), (4, .int x_490), (3, .int x_488), (0, .ref oS), (1, .int p0), (2, .int p1)]) [0, 1, 2, 3, 4, 5] rfl
  have key_n_493 : ∀ (n_493 : Nat) (z_491 : Int32) (f_492 : Nat → Int32) (H : Heap) (locs : List Loc) (ls : Array Slot), (∀ j : Nat, j < 72 → 0 ≤ (f_492 j).toInt ∧ (f_492 j).toInt ≤ 3) → (0 ≤ z_491.toInt ∧ z_491.toInt ≤ 3) → (z_491.toInt - 0).toNat < n_493 → (PX5_bringFirst fS_order p0 p1 = HX5_bringFirst_0 x_488 x_490 n_493 z_491 f_492) → va_P (dC, dI) vwCl [(oc5 oS rS_worths rS_order rS_left), (arI rS_order kS_order 72 f_492)] H → va_D A [(oc5 oS rS_worths rS_order rS_left), (arI rS_order kS_order 72 f_492)] → va_S A s.heap H locs → lv_has ls 6 [(5, .int z_491), (4, .int x_490), (3, .int x_488), (0, .ref oS), (1, .int p0), (2, .int p1)] → W p l e (headSpec (Cond.code yX5_bringFirst cX5_bringFirst 6 none :: wG) ({ frames := 0, cells := 0, slots := 0, locals := 0 })).room s m ([.ref oS, .int p0, .int p1] : List Value).toArray below meth c H locs 0 0 (MQ below (va_Qv (fun (_ : Nat) => True) (fun (_ : Nat) (t : State) => ∃ (nfS_order : Nat → Int32), (∀ j : Nat, j < 72 → 0 ≤ (nfS_order j).toInt ∧ (nfS_order j).toInt ≤ 3) ∧ (PX5_bringFirst fS_order p0 p1 = nfS_order) ∧ Bw dC dI A [(oc5 oS rS_worths rS_order rS_left), (arI rS_order kS_order 72 nfS_order)] [(kS_order, .int)] t) A) ([.ref oS, .int p0, .int p1] : List Value).toArray s 0 0 A) (F0 m 17 ls []) := by
    intro n_493
    induction n_493 with
    | zero => intro z_491 f_492 H locs ls a_f_492 hi0_n_493 hm; exact absurd hm (Nat.not_lt_zero _)
    | succ n_493 ih_n_493 =>
      intro z_491 f_492 H locs ls a_f_492 hi0_n_493 hm_n_493 hG hP hD hS hl
      have hG := hG.trans (HX5_bringFirst_0_eq _ _ _ _ _)
      refine lv_iload hx hb dX5_bringFirst_17 (lv_at hl 0 rfl) ?_
      refine lv_if_le (tgt := 48) hx hb dX5_bringFirst_19 (by decide) (fun c_494 => ?_) (fun c_494 => ?_)
      · skip
        have hG := hG.trans (if_pos c_494)
        have gc_494 := ti_le c_494 rfl kc_0
        refine lv_aload_n hx hb dX5_bringFirst_48 rfl (lv_at hl 3 rfl) ?_
        refine va_get (D := (dC, dI)) (ci := 5) (v := .ref rS_order) (C := RX5) (T := TX5) (N := 3) hx hb hts inX5 hown hK hP 0 rfl rfl 1 (by decide) (hts _ wd_129) (fun _ h9 => h9) rfl dX5_bringFirst_49 ?_
        refine lv_iload_n hx hb dX5_bringFirst_52 rfl (lv_at hl 2 rfl) ?_
        refine lv_iload hx hb dX5_bringFirst_53 (lv_at hl 1 rfl) ?_
        refine va_iast hx hb hK hP hD hS 1 0 rfl rfl (ti_in vx_488 (om_707cdfc8 hp0.1) (om_31ee0816 hp0.2)) dX5_bringFirst_55 (fun H locs hP hD hS => ?_)
        obtain ⟨f_496, ef_496⟩ : ∃ g : Nat → Int32, g = upd f_492 x_488.toNatClampNeg x_490 := ⟨_, rfl⟩
        rw [← ef_496] at hP hD
        have hG := hG.trans (lt_eq ef_496)
        obtain ⟨hP, hD⟩ := wl2 (ws' := [(oc5 oS rS_worths rS_order rS_left), (arI rS_order kS_order 72 f_496)]) hP hD rfl
        have a_f_496 : ∀ j : Nat, j < 72 → 0 ≤ (f_496 j).toInt ∧ (f_496 j).toInt ≤ 3 := by rw [ef_496]; exact upd_in a_f_492 ux_490
        exact wq_v hx hb hr 0 trivial (fun t ht hW => ⟨f_496, a_f_496, hG, Bw.to hP hD hK ht hW⟩) hS dX5_bringFirst_56 hlocks
      · skip
        have hG := hG.trans (if_neg c_494)
        have gc_494 := ti_nle c_494 rfl kc_0
        refine lv_aload_n hx hb dX5_bringFirst_22 rfl (lv_at hl 3 rfl) ?_
        refine va_get (D := (dC, dI)) (ci := 5) (v := .ref rS_order) (C := RX5) (T := TX5) (N := 3) hx hb hts inX5 hown hK hP 0 rfl rfl 1 (by decide) (hts _ wd_129) (fun _ h9 => h9) rfl dX5_bringFirst_23 ?_
        refine lv_iload_n hx hb dX5_bringFirst_26 rfl (lv_at hl 2 rfl) ?_
        refine lv_iload hx hb dX5_bringFirst_27 (lv_at hl 0 rfl) ?_
        refine lv_iadd hx hb dX5_bringFirst_29 ?_
        refine lv_topi (fun x_497 ex_497 => ?_)
        have hG := hG.trans (lt_eq ex_497)
        have vx_497 : x_497.toInt = 4 * p0.toInt + z_491.toInt := om_5d0caf0f (ti_add ex_497 vx_488 rfl (om_056a216f hp0.1 hi0_n_493.1) (om_7cf60521 hp0.2 hi0_n_493.2))
        refine lv_aload_n hx hb dX5_bringFirst_30 rfl (lv_at hl 3 rfl) ?_
        refine va_get (D := (dC, dI)) (ci := 5) (v := .ref rS_order) (C := RX5) (T := TX5) (N := 3) hx hb hts inX5 hown hK hP 0 rfl rfl 1 (by decide) (hts _ wd_129) (fun _ h9 => h9) rfl dX5_bringFirst_31 ?_
        refine lv_iload_n hx hb dX5_bringFirst_34 rfl (lv_at hl 2 rfl) ?_
        refine lv_iload hx hb dX5_bringFirst_35 (lv_at hl 0 rfl) ?_
        refine lv_iadd hx hb dX5_bringFirst_37 ?_
        refine lv_topi (fun x_498 ex_498 => ?_)
        have hG := hG.trans (lt_eq ex_498)
        have vx_498 : x_498.toInt = 4 * p0.toInt + z_491.toInt := om_5d0caf0f (ti_add ex_498 vx_488 rfl (om_056a216f hp0.1 hi0_n_493.1) (om_7cf60521 hp0.2 hi0_n_493.2))
        refine lv_iconst (v := 1) hx hb dX5_bringFirst_38 (by decide) ?_
        refine lv_isub hx hb dX5_bringFirst_39 ?_
        refine lv_topi (fun x_499 ex_499 => ?_)
        have hG := hG.trans (lt_eq ex_499)
        have vx_499 : x_499.toInt = 4 * p0.toInt + z_491.toInt + (-1) := om_75706c8a (ti_sub ex_499 vx_498 kc_1 (om_9f91692d hp0.1 hi0_n_493.1) (om_d623e051 hp0.2 hi0_n_493.2))
        refine va_iald hx hb hK hP 1 0 rfl rfl (ti_in vx_499 (om_cc8db027 hp0.1 gc_494) (om_7b00f9bb hp0.2 hi0_n_493.2)) dX5_bringFirst_40 ?_
        refine lv_topi (fun x_500 ex_500 => ?_)
        have hG := hG.trans (lt_eq ex_500)
        have kx_500 : (f_492 x_499.toNatClampNeg).toInt = x_500.toInt := by rw [ex_500]
        have ux_500 := a_f_492 x_499.toNatClampNeg (cl_lt vx_499 (om_cc8db027 hp0.1 gc_494) (om_7b00f9bb hp0.2 hi0_n_493.2))
        rw [show f_492 x_499.toNatClampNeg = x_500 from ex_500.symm] at ux_500
        refine va_iast hx hb hK hP hD hS 1 0 rfl rfl (ti_in vx_497 (om_fc2812d4 hp0.1 hi0_n_493.1) (om_66174240 hp0.2 hi0_n_493.2)) dX5_bringFirst_41 (fun H locs hP hD hS => ?_)
        obtain ⟨f_502, ef_502⟩ : ∃ g : Nat → Int32, g = upd f_492 x_497.toNatClampNeg x_500 := ⟨_, rfl⟩
        rw [← ef_502] at hP hD
        have hG := hG.trans (lt_eq ef_502)
        obtain ⟨hP, hD⟩ := wl2 (ws' := [(oc5 oS rS_worths rS_order rS_left), (arI rS_order kS_order 72 f_502)]) hP hD rfl
        have a_f_502 : ∀ j : Nat, j < 72 → 0 ≤ (f_502 j).toInt ∧ (f_502 j).toInt ≤ 3 := by rw [ef_502]; exact upd_in a_f_492 ux_500
        obtain ⟨x_503, ex_503⟩ : ∃ z : Int32, z = z_491 + Int32.ofInt (-1) := ⟨_, rfl⟩
        have hG := hG.trans (lt_eq ex_503)
        have vx_503 : x_503.toInt = z_491.toInt + (-1) := ti_add (y := (-1)) ex_503 rfl kc_m1 (om_dd968ed2 hi0_n_493.1) (om_0b966d5d hi0_n_493.2)
        refine lv_iinc (v := x_503) (lv' := [(5, .int x_503), (4, .int x_490), (3, .int x_488), (0, .ref oS), (1, .int p0), (2, .int p1)]) hx hb dX5_bringFirst_42 hl (k := 0) rfl ex_503.symm (by decide) rfl (fun ls hl => ?_)
        refine lv_goto (tgt := 17) hx hb dX5_bringFirst_45 (by decide) ?_
        exact ih_n_493 x_503 f_502 _ _ _ a_f_502 ⟨(om_7080e04c gc_494 vx_503), (om_b26234d9 hi0_n_493.2 vx_503)⟩ (ms_lt hm_n_493 (om_e42db974 vx_503) (om_85d4bc73 gc_494)) hG hP hD hS (lv_sub hl [0, 1, 2, 3, 4, 5] rfl)
  exact key_n_493 (((p1.toInt - 0).toNat) + 1) p1 fS_order _ _ _ a_fS_order ⟨hp1.1, hp1.2⟩ (Nat.lt_add_one _) hG hP hD hS hl
set_option maxHeartbeats 4000000 in
set_option maxRecDepth 100000 in
theorem tX5_sendBack (l : Launch) (dC : Nat → ClassId) (dI : Nat → Nat → Nat) (sz : Nat) (oS : Nat) (rS_worths : Nat) (rS_order : Nat) (fS_order : Nat → Int32) (kS_order : ClassId) (rS_left : Nat) (p0 : Int32) (p1 : Int32) (a_fS_order : ∀ j : Nat, j < 72 → 0 ≤ (fS_order j).toInt ∧ (fS_order j).toInt ≤ 3) (hp0 : 0 ≤ p0.toInt ∧ p0.toInt ≤ 17) (hp1 : 0 ≤ p1.toInt ∧ p1.toInt ≤ 3) : Met l yX5_sendBack (Cond.code yX5_sendBack cX5_sendBack 6 none :: wG) ({ frames := 0, cells := 0, slots := 0, locals := 0 }) (va_Pc [.ref oS, .int p0, .int p1] (Pw dC dI sz [(oc5 oS rS_worths rS_order rS_left), (arI rS_order kS_order 72 fS_order)] [(kS_order, .int)])) (va_Qv (fun (_ : Nat) => True) (fun (_ : Nat) (t : State) => ∃ (nfS_order : Nat → Int32), (∀ j : Nat, j < 72 → 0 ≤ (nfS_order j).toInt ∧ (nfS_order j).toInt ≤ 3) ∧ (PX5_sendBack fS_order p0 p1 = nfS_order) ∧ Bw dC dI (va_A [(oc5 oS rS_worths rS_order rS_left), (arI rS_order kS_order 72 fS_order)] sz) [(oc5 oS rS_worths rS_order rS_left), (arI rS_order kS_order 72 nfS_order)] [(kS_order, .int)] t) (va_A [(oc5 oS rS_worths rS_order rS_left), (arI rS_order kS_order 72 fS_order)] sz)) 0 0 (va_A [(oc5 oS rS_worths rS_order rS_left), (arI rS_order kS_order 72 fS_order)] sz) := by
  refine Met.ofW (cc := cX5_sendBack) (maxL := 6) (ret := none) pnX5 rfl ?_
  intro p e s m args below meth c s₁ B hml hv
  obtain ⟨rfl, hsz, hP, hK, hD0, hE⟩ := hv
  have hx := B.exec
  have hb := B.bytes
  have hr := B.returns
  have hts : ∀ w ∈ wG, w.before ([.ref oS, .int p0, .int p1] : List Value).toArray s = true := fun w h => atoms_spec (ws := Cond.code yX5_sendBack cX5_sendBack 6 none :: wG) B.pre w (List.mem_cons_of_mem _ h)
  have hown : s.vm.findClass RX5 = some m.cls := own_of B.named rfl
  have hlocks := B.notSynchronized
  subst hsz
  have hD := hD0.self (sz := s.heap.size)
  generalize hAe : va_A [(oc5 oS rS_worths rS_order rS_left), (arI rS_order kS_order 72 fS_order)] s.heap.size = A at hD hE ⊢
  have hA : ∀ q : Nat, s.heap.size ≤ q → A q := fun q h => by rw [← hAe]; exact Or.inr h
  have hS : va_S A s.heap s.heap [] := va_S.rf
  have hl := lv_entry ([.ref oS, .int p0, .int p1]) (n := 6) (Nat.le_of_ble_eq_true rfl)
  rw [lg_entry_eq]
  generalize (lg_sl ([.ref oS, .int p0, .int p1]) ++ List.replicate (6 - (lg_sl ([.ref oS, .int p0, .int p1])).length) Slot.unset).toArray = ls at hl ⊢
  have hl : lv_has ls 6 [(0, .ref oS), (1, .int p0), (2, .int p1)] := hl
  have hG := PX5_sendBack_eq fS_order p0 p1
  have rg_p0 := fb_rng p0
  have rg_p1 := fb_rng p1
  refine lv_iload_n hx hb dX5_sendBack_0 rfl (lv_at hl 1 rfl) ?_
  refine lv_iconst (v := 4) hx hb dX5_sendBack_1 (by decide) ?_
  refine lv_imul hx hb dX5_sendBack_2 ?_
  refine lv_topi (fun x_531 ex_531 => ?_)
  have hG := hG.trans (lt_eq ex_531)
  have vx_531 : x_531.toInt = 4 * p0.toInt := by have q := ti_mul ex_531 rfl kc_4 (by omega) (by omega); omega
  refine lv_istore_n (lv' := [(3, .int x_531), (0, .ref oS), (1, .int p0), (2, .int p1)]) hx hb dX5_sendBack_3 rfl hl (by decide) rfl (fun ls hl => ?_)
  refine lv_aload_n hx hb dX5_sendBack_4 rfl (lv_at hl 1 rfl) ?_
  refine va_get (D := (dC, dI)) (ci := 5) (v := .ref rS_order) (C := RX5) (T := TX5) (N := 3) hx hb hts inX5 hown hK hP 0 rfl rfl 1 (by decide) (hts _ wd_129) (fun _ h9 => h9) rfl dX5_sendBack_5 ?_
  refine lv_iload_n hx hb dX5_sendBack_8 rfl (lv_at hl 0 rfl) ?_
  refine va_iald hx hb hK hP 1 0 rfl rfl (ti_in vx_531 (om_707cdfc8 hp0.1) (om_31ee0816 hp0.2)) dX5_sendBack_9 ?_
  refine lv_topi (fun x_532 ex_532 => ?_)
  have hG := hG.trans (lt_eq ex_532)
  have rg_x_532 := fb_rng x_532
  have kx_532 : (fS_order x_531.toNatClampNeg).toInt = x_532.toInt := by rw [ex_532]
  have ux_532 := a_fS_order x_531.toNatClampNeg (cl_lt vx_531 (om_707cdfc8 hp0.1) (om_31ee0816 hp0.2))
  rw [show fS_order x_531.toNatClampNeg = x_532 from ex_532.symm] at ux_532
  refine lv_istore (lv' := [(4, .int x_532), (3, .int x_531), (0, .ref oS), (1, .int p0), (2, .int p1)]) hx hb dX5_sendBack_10 hl (by decide) rfl (fun ls hl => ?_)
  refine lv_iconst (v := 0) hx hb dX5_sendBack_12 (by decide) ?_
  refine lv_istore (lv' := [(5, .int 0), (4, .int x_532), (3, .int x_531), (0, .ref oS), (1, .int p0), (2, .int p1)]) hx hb dX5_sendBack_13 hl (by decide) rfl (fun ls hl => ?_)
  have hl := lv_sub hl (l' := [(5, .int 0), (4, .int x_532), (3, .int x_531), (0, .ref oS), (1, .int p0), (2, .int p1)]) [0, 1, 2, 3, 4, 5] rfl
  have key_n_535 : ∀ (n_535 : Nat) (z_533 : Int32) (f_534 : Nat → Int32) (H : Heap) (locs : List Loc) (ls : Array Slot), (∀ j : Nat, j < 72 → 0 ≤ (f_534 j).toInt ∧ (f_534 j).toInt ≤ 3) → (0 ≤ z_533.toInt ∧ z_533.toInt ≤ 2147483647) → (2147483647 - z_533.toInt).toNat < n_535 → (PX5_sendBack fS_order p0 p1 = HX5_sendBack_0 p1 x_531 x_532 n_535 z_533 f_534) → va_P (dC, dI) vwCl [(oc5 oS rS_worths rS_order rS_left), (arI rS_order kS_order 72 f_534)] H → va_D A [(oc5 oS rS_worths rS_order rS_left), (arI rS_order kS_order 72 f_534)] → va_S A s.heap H locs → lv_has ls 6 [(5, .int z_533), (4, .int x_532), (3, .int x_531), (0, .ref oS), (1, .int p0), (2, .int p1)] → W p l e (headSpec (Cond.code yX5_sendBack cX5_sendBack 6 none :: wG) ({ frames := 0, cells := 0, slots := 0, locals := 0 })).room s m ([.ref oS, .int p0, .int p1] : List Value).toArray below meth c H locs 0 0 (MQ below (va_Qv (fun (_ : Nat) => True) (fun (_ : Nat) (t : State) => ∃ (nfS_order : Nat → Int32), (∀ j : Nat, j < 72 → 0 ≤ (nfS_order j).toInt ∧ (nfS_order j).toInt ≤ 3) ∧ (PX5_sendBack fS_order p0 p1 = nfS_order) ∧ Bw dC dI A [(oc5 oS rS_worths rS_order rS_left), (arI rS_order kS_order 72 nfS_order)] [(kS_order, .int)] t) A) ([.ref oS, .int p0, .int p1] : List Value).toArray s 0 0 A) (F0 m 15 ls []) := by
    intro n_535
    induction n_535 with
    | zero => intro z_533 f_534 H locs ls a_f_534 hi0_n_535 hm; exact absurd hm (Nat.not_lt_zero _)
    | succ n_535 ih_n_535 =>
      intro z_533 f_534 H locs ls a_f_534 hi0_n_535 hm_n_535 hG hP hD hS hl
      have hG := hG.trans (HX5_sendBack_0_eq _ _ _ _ _ _)
      have rg_z_533 := fb_rng z_533
      refine lv_iload hx hb dX5_sendBack_15 (lv_at hl 0 rfl) ?_
      refine lv_iload_n hx hb dX5_sendBack_17 rfl (lv_at hl 5 rfl) ?_
      refine lv_icmp_ge (tgt := 47) hx hb dX5_sendBack_18 (by decide) (fun c_536 => ?_) (fun c_536 => ?_)
      · skip
        have hG := hG.trans (if_pos c_536)
        have gc_536 := ti_le c_536 rfl rfl
        refine lv_aload_n hx hb dX5_sendBack_47 rfl (lv_at hl 3 rfl) ?_
        refine va_get (D := (dC, dI)) (ci := 5) (v := .ref rS_order) (C := RX5) (T := TX5) (N := 3) hx hb hts inX5 hown hK hP 0 rfl rfl 1 (by decide) (hts _ wd_129) (fun _ h9 => h9) rfl dX5_sendBack_48 ?_
        refine lv_iload_n hx hb dX5_sendBack_51 rfl (lv_at hl 2 rfl) ?_
        refine lv_iload_n hx hb dX5_sendBack_52 rfl (lv_at hl 5 rfl) ?_
        refine lv_iadd hx hb dX5_sendBack_53 ?_
        refine lv_topi (fun x_537 ex_537 => ?_)
        have hG := hG.trans (lt_eq ex_537)
        have vx_537 : x_537.toInt = 4 * p0.toInt + p1.toInt := om_5d0caf0f (ti_add ex_537 vx_531 rfl (om_056a216f hp0.1 hp1.1) (om_7cf60521 hp0.2 hp1.2))
        refine lv_iload hx hb dX5_sendBack_54 (lv_at hl 1 rfl) ?_
        refine va_iast hx hb hK hP hD hS 1 0 rfl rfl (ti_in vx_537 (om_fc2812d4 hp0.1 hp1.1) (om_66174240 hp0.2 hp1.2)) dX5_sendBack_56 (fun H locs hP hD hS => ?_)
        obtain ⟨f_539, ef_539⟩ : ∃ g : Nat → Int32, g = upd f_534 x_537.toNatClampNeg x_532 := ⟨_, rfl⟩
        rw [← ef_539] at hP hD
        have hG := hG.trans (lt_eq ef_539)
        obtain ⟨hP, hD⟩ := wl2 (ws' := [(oc5 oS rS_worths rS_order rS_left), (arI rS_order kS_order 72 f_539)]) hP hD rfl
        have a_f_539 : ∀ j : Nat, j < 72 → 0 ≤ (f_539 j).toInt ∧ (f_539 j).toInt ≤ 3 := by rw [ef_539]; exact upd_in a_f_534 ux_532
        exact wq_v hx hb hr 0 trivial (fun t ht hW => ⟨f_539, a_f_539, hG, Bw.to hP hD hK ht hW⟩) hS dX5_sendBack_57 hlocks
      · skip
        have hG := hG.trans (if_neg c_536)
        have gc_536 := ti_nle c_536 rfl rfl
        refine lv_aload_n hx hb dX5_sendBack_21 rfl (lv_at hl 3 rfl) ?_
        refine va_get (D := (dC, dI)) (ci := 5) (v := .ref rS_order) (C := RX5) (T := TX5) (N := 3) hx hb hts inX5 hown hK hP 0 rfl rfl 1 (by decide) (hts _ wd_129) (fun _ h9 => h9) rfl dX5_sendBack_22 ?_
        refine lv_iload_n hx hb dX5_sendBack_25 rfl (lv_at hl 2 rfl) ?_
        refine lv_iload hx hb dX5_sendBack_26 (lv_at hl 0 rfl) ?_
        refine lv_iadd hx hb dX5_sendBack_28 ?_
        refine lv_topi (fun x_540 ex_540 => ?_)
        have hG := hG.trans (lt_eq ex_540)
        have vx_540 : x_540.toInt = 4 * p0.toInt + z_533.toInt := om_5d0caf0f (ti_add ex_540 vx_531 rfl (om_056a216f hp0.1 hi0_n_535.1) (om_c919b873 hp0.2 hp1.2 gc_536))
        refine lv_aload_n hx hb dX5_sendBack_29 rfl (lv_at hl 3 rfl) ?_
        refine va_get (D := (dC, dI)) (ci := 5) (v := .ref rS_order) (C := RX5) (T := TX5) (N := 3) hx hb hts inX5 hown hK hP 0 rfl rfl 1 (by decide) (hts _ wd_129) (fun _ h9 => h9) rfl dX5_sendBack_30 ?_
        refine lv_iload_n hx hb dX5_sendBack_33 rfl (lv_at hl 2 rfl) ?_
        refine lv_iload hx hb dX5_sendBack_34 (lv_at hl 0 rfl) ?_
        refine lv_iadd hx hb dX5_sendBack_36 ?_
        refine lv_topi (fun x_541 ex_541 => ?_)
        have hG := hG.trans (lt_eq ex_541)
        have vx_541 : x_541.toInt = 4 * p0.toInt + z_533.toInt := om_5d0caf0f (ti_add ex_541 vx_531 rfl (om_056a216f hp0.1 hi0_n_535.1) (om_c919b873 hp0.2 hp1.2 gc_536))
        refine lv_iconst (v := 1) hx hb dX5_sendBack_37 (by decide) ?_
        refine lv_iadd hx hb dX5_sendBack_38 ?_
        refine lv_topi (fun x_542 ex_542 => ?_)
        have hG := hG.trans (lt_eq ex_542)
        have vx_542 : x_542.toInt = 4 * p0.toInt + z_533.toInt + 1 := om_04b77946 (ti_add ex_542 vx_541 kc_1 (om_c47aa3f6 hp0.1 hi0_n_535.1) (om_c2023721 hp0.2 hp1.2 gc_536))
        refine va_iald hx hb hK hP 1 0 rfl rfl (ti_in vx_542 (om_b15653e6 hp0.1 hi0_n_535.1) (om_1c83fd7f hp0.2 hp1.2 gc_536)) dX5_sendBack_39 ?_
        refine lv_topi (fun x_543 ex_543 => ?_)
        have hG := hG.trans (lt_eq ex_543)
        have rg_x_543 := fb_rng x_543
        have kx_543 : (f_534 x_542.toNatClampNeg).toInt = x_543.toInt := by rw [ex_543]
        have ux_543 := a_f_534 x_542.toNatClampNeg (cl_lt vx_542 (om_b15653e6 hp0.1 hi0_n_535.1) (om_1c83fd7f hp0.2 hp1.2 gc_536))
        rw [show f_534 x_542.toNatClampNeg = x_543 from ex_543.symm] at ux_543
        refine va_iast hx hb hK hP hD hS 1 0 rfl rfl (ti_in vx_540 (om_fc2812d4 hp0.1 hi0_n_535.1) (om_5a8b34c8 hp0.2 hp1.2 gc_536)) dX5_sendBack_40 (fun H locs hP hD hS => ?_)
        obtain ⟨f_545, ef_545⟩ : ∃ g : Nat → Int32, g = upd f_534 x_540.toNatClampNeg x_543 := ⟨_, rfl⟩
        rw [← ef_545] at hP hD
        have hG := hG.trans (lt_eq ef_545)
        obtain ⟨hP, hD⟩ := wl2 (ws' := [(oc5 oS rS_worths rS_order rS_left), (arI rS_order kS_order 72 f_545)]) hP hD rfl
        have a_f_545 : ∀ j : Nat, j < 72 → 0 ≤ (f_545 j).toInt ∧ (f_545 j).toInt ≤ 3 := by rw [ef_545]; exact upd_in a_f_534 ux_543
        obtain ⟨x_546, ex_546⟩ : ∃ z : Int32, z = z_533 + Int32.ofInt 1 := ⟨_, rfl⟩
        have hG := hG.trans (lt_eq ex_546)
        have vx_546 : x_546.toInt = z_533.toInt + 1 := ti_add (y := 1) ex_546 rfl kc_1 (om_4e4fce7e hi0_n_535.1) (om_2e86adf1 hp1.2 gc_536)
        refine lv_iinc (v := x_546) (lv' := [(5, .int x_546), (4, .int x_532), (3, .int x_531), (0, .ref oS), (1, .int p0), (2, .int p1)]) hx hb dX5_sendBack_41 hl (k := 0) rfl ex_546.symm (by decide) rfl (fun ls hl => ?_)
        refine lv_goto (tgt := 15) hx hb dX5_sendBack_44 (by decide) ?_
        exact ih_n_535 x_546 f_545 _ _ _ a_f_545 ⟨(om_83b90de5 hi0_n_535.1 vx_546), (om_a16f1d62 hp1.2 gc_536 vx_546)⟩ (ms_lt hm_n_535 (om_b9393183 vx_546) (om_7f21f0b3 hp1.2 gc_536)) hG hP hD hS (lv_sub hl [0, 1, 2, 3, 4, 5] rfl)
  exact key_n_535 (((2147483647 - (0 : Int32).toInt).toNat) + 1) 0 fS_order _ _ _ a_fS_order ⟨(om_b1de7dbe kc_0), (om_daf17c64 kc_0)⟩ (Nat.lt_add_one _) hG hP hD hS hl
set_option maxHeartbeats 4000000 in
set_option maxRecDepth 100000 in
theorem tX5_putInOrder (l : Launch) (dC : Nat → ClassId) (dI : Nat → Nat → Nat) (sz : Nat) (oS : Nat) (rS_worths : Nat) (rS_order : Nat) (fS_order : Nat → Int32) (kS_order : ClassId) (rS_left : Nat) (fS_left : Nat → Int32) (kS_left : ClassId) (p0 : Int32) (p1 : Int32) (p2 : Int32) (a_fS_order : ∀ j : Nat, j < 72 → 0 ≤ (fS_order j).toInt ∧ (fS_order j).toInt ≤ 3) (a_fS_left : ∀ j : Nat, j < 4 → 0 ≤ (fS_left j).toInt ∧ (fS_left j).toInt ≤ 3) (hp0 : 0 ≤ p0.toInt ∧ p0.toInt ≤ 17) (hp1 : 0 ≤ p1.toInt ∧ p1.toInt ≤ 4) (hp2 : 0 ≤ p2.toInt ∧ p2.toInt ≤ 2147483647) : Met l yX5_putInOrder (Cond.code yX5_putInOrder cX5_putInOrder 9 none :: wG) ({ frames := 0, cells := 0, slots := 0, locals := 0 }) (va_Pc [.ref oS, .int p0, .int p1, .int p2] (Pw dC dI sz [(oc5 oS rS_worths rS_order rS_left), (arI rS_order kS_order 72 fS_order), (arI rS_left kS_left 4 fS_left)] [(kS_order, .int), (kS_left, .int)])) (va_Qv (fun (_ : Nat) => True) (fun (_ : Nat) (t : State) => ∃ (nfS_order : Nat → Int32) (nfS_left : Nat → Int32), (∀ j : Nat, j < 72 → 0 ≤ (nfS_order j).toInt ∧ (nfS_order j).toInt ≤ 3) ∧ (∀ j : Nat, j < 4 → 0 ≤ (nfS_left j).toInt ∧ (nfS_left j).toInt ≤ 3) ∧ (PX5_putInOrder fS_order fS_left p0 p1 p2 = (nfS_order, nfS_left)) ∧ Bw dC dI (va_A [(oc5 oS rS_worths rS_order rS_left), (arI rS_order kS_order 72 fS_order), (arI rS_left kS_left 4 fS_left)] sz) [(oc5 oS rS_worths rS_order rS_left), (arI rS_order kS_order 72 nfS_order), (arI rS_left kS_left 4 nfS_left)] [(kS_order, .int), (kS_left, .int)] t) (va_A [(oc5 oS rS_worths rS_order rS_left), (arI rS_order kS_order 72 fS_order), (arI rS_left kS_left 4 fS_left)] sz)) 0 0 (va_A [(oc5 oS rS_worths rS_order rS_left), (arI rS_order kS_order 72 fS_order), (arI rS_left kS_left 4 fS_left)] sz) := by
  refine Met.ofW (cc := cX5_putInOrder) (maxL := 9) (ret := none) pnX5 rfl ?_
  intro p e s m args below meth c s₁ B hml hv
  obtain ⟨rfl, hsz, hP, hK, hD0, hE⟩ := hv
  have hx := B.exec
  have hb := B.bytes
  have hr := B.returns
  have hts : ∀ w ∈ wG, w.before ([.ref oS, .int p0, .int p1, .int p2] : List Value).toArray s = true := fun w h => atoms_spec (ws := Cond.code yX5_putInOrder cX5_putInOrder 9 none :: wG) B.pre w (List.mem_cons_of_mem _ h)
  have hown : s.vm.findClass RX5 = some m.cls := own_of B.named rfl
  have hlocks := B.notSynchronized
  subst hsz
  have hD := hD0.self (sz := s.heap.size)
  generalize hAe : va_A [(oc5 oS rS_worths rS_order rS_left), (arI rS_order kS_order 72 fS_order), (arI rS_left kS_left 4 fS_left)] s.heap.size = A at hD hE ⊢
  have hA : ∀ q : Nat, s.heap.size ≤ q → A q := fun q h => by rw [← hAe]; exact Or.inr h
  have hS : va_S A s.heap s.heap [] := va_S.rf
  have hl := lv_entry ([.ref oS, .int p0, .int p1, .int p2]) (n := 9) (Nat.le_of_ble_eq_true rfl)
  rw [lg_entry_eq]
  generalize (lg_sl ([.ref oS, .int p0, .int p1, .int p2]) ++ List.replicate (9 - (lg_sl ([.ref oS, .int p0, .int p1, .int p2])).length) Slot.unset).toArray = ls at hl ⊢
  have hl : lv_has ls 9 [(0, .ref oS), (1, .int p0), (2, .int p1), (3, .int p2)] := hl
  have hG := PX5_putInOrder_eq fS_order fS_left p0 p1 p2
  have rg_p0 := fb_rng p0
  have rg_p1 := fb_rng p1
  have rg_p2 := fb_rng p2
  refine lv_iload_n hx hb dX5_putInOrder_0 rfl (lv_at hl 1 rfl) ?_
  refine lv_iconst (v := 4) hx hb dX5_putInOrder_1 (by decide) ?_
  refine lv_imul hx hb dX5_putInOrder_2 ?_
  refine lv_topi (fun x_672 ex_672 => ?_)
  have hG := hG.trans (lt_eq ex_672)
  have vx_672 : x_672.toInt = 4 * p0.toInt := by have q := ti_mul ex_672 rfl kc_4 (by omega) (by omega); omega
  refine lv_istore (lv' := [(4, .int x_672), (0, .ref oS), (1, .int p0), (2, .int p1), (3, .int p2)]) hx hb dX5_putInOrder_3 hl (by decide) rfl (fun ls hl => ?_)
  refine lv_iconst (v := 0) hx hb dX5_putInOrder_5 (by decide) ?_
  refine lv_istore (lv' := [(5, .int 0), (4, .int x_672), (0, .ref oS), (1, .int p0), (2, .int p1), (3, .int p2)]) hx hb dX5_putInOrder_6 hl (by decide) rfl (fun ls hl => ?_)
  have hl := lv_sub hl (l' := [(5, .int 0), (4, .int x_672), (0, .ref oS), (1, .int p0), (2, .int p1), (3, .int p2)]) [0, 1, 2, 3, 4, 5] rfl
  have key_n_675 : ∀ (n_675 : Nat) (z_673 : Int32) (f_674 : Nat → Int32) (H : Heap) (locs : List Loc) (ls : Array Slot), (∀ j : Nat, j < 4 → 0 ≤ (f_674 j).toInt ∧ (f_674 j).toInt ≤ 3) → (0 ≤ z_673.toInt ∧ z_673.toInt ≤ 2147483647) → (2147483647 - z_673.toInt).toNat < n_675 → (PX5_putInOrder fS_order fS_left p0 p1 p2 = HX5_putInOrder_0 fS_order p1 p2 x_672 n_675 z_673 f_674) → va_P (dC, dI) vwCl [(oc5 oS rS_worths rS_order rS_left), (arI rS_order kS_order 72 fS_order), (arI rS_left kS_left 4 f_674)] H → va_D A [(oc5 oS rS_worths rS_order rS_left), (arI rS_order kS_order 72 fS_order), (arI rS_left kS_left 4 f_674)] → va_S A s.heap H locs → lv_has ls 9 [(5, .int z_673), (4, .int x_672), (0, .ref oS), (1, .int p0), (2, .int p1), (3, .int p2)] → W p l e (headSpec (Cond.code yX5_putInOrder cX5_putInOrder 9 none :: wG) ({ frames := 0, cells := 0, slots := 0, locals := 0 })).room s m ([.ref oS, .int p0, .int p1, .int p2] : List Value).toArray below meth c H locs 0 0 (MQ below (va_Qv (fun (_ : Nat) => True) (fun (_ : Nat) (t : State) => ∃ (nfS_order : Nat → Int32) (nfS_left : Nat → Int32), (∀ j : Nat, j < 72 → 0 ≤ (nfS_order j).toInt ∧ (nfS_order j).toInt ≤ 3) ∧ (∀ j : Nat, j < 4 → 0 ≤ (nfS_left j).toInt ∧ (nfS_left j).toInt ≤ 3) ∧ (PX5_putInOrder fS_order fS_left p0 p1 p2 = (nfS_order, nfS_left)) ∧ Bw dC dI A [(oc5 oS rS_worths rS_order rS_left), (arI rS_order kS_order 72 nfS_order), (arI rS_left kS_left 4 nfS_left)] [(kS_order, .int), (kS_left, .int)] t) A) ([.ref oS, .int p0, .int p1, .int p2] : List Value).toArray s 0 0 A) (F0 m 8 ls []) := by
    intro n_675
    induction n_675 with
    | zero => intro z_673 f_674 H locs ls a_f_674 hi0_n_675 hm; exact absurd hm (Nat.not_lt_zero _)
    | succ n_675 ih_n_675 =>
      intro z_673 f_674 H locs ls a_f_674 hi0_n_675 hm_n_675 hG hP hD hS hl
      have hG := hG.trans (HX5_putInOrder_0_eq _ _ _ _ _ _ _)
      have rg_z_673 := fb_rng z_673
      refine lv_iload hx hb dX5_putInOrder_8 (lv_at hl 0 rfl) ?_
      refine lv_iload_n hx hb dX5_putInOrder_10 rfl (lv_at hl 4 rfl) ?_
      refine lv_icmp_ge (tgt := 37) hx hb dX5_putInOrder_11 (by decide) (fun c_676 => ?_) (fun c_676 => ?_)
      · skip
        have hG := hG.trans (if_pos c_676)
        have gc_676 := ti_le c_676 rfl rfl
        refine lv_iload_n hx hb dX5_putInOrder_37 rfl (lv_at hl 5 rfl) ?_
        refine lv_istore (lv' := [(5, .int p2), (4, .int x_672), (0, .ref oS), (1, .int p0), (2, .int p1), (3, .int p2)]) hx hb dX5_putInOrder_38 hl (by decide) rfl (fun ls hl => ?_)
        refine lv_iload_n hx hb dX5_putInOrder_40 rfl (lv_at hl 4 rfl) ?_
        refine lv_istore (lv' := [(6, .int p1), (5, .int p2), (4, .int x_672), (0, .ref oS), (1, .int p0), (2, .int p1), (3, .int p2)]) hx hb dX5_putInOrder_41 hl (by decide) rfl (fun ls hl => ?_)
        have hl := lv_sub hl (l' := [(6, .int p1), (5, .int p2), (4, .int x_672), (0, .ref oS), (1, .int p0), (2, .int p1), (3, .int p2)]) [0, 1, 2, 3, 4, 5, 6] rfl
        have key_n_681 : ∀ (n_681 : Nat) (z_677 : Int32) (z_678 : Int32) (f_679 : Nat → Int32) (f_680 : Nat → Int32) (H : Heap) (locs : List Loc) (ls : Array Slot), (∀ j : Nat, j < 72 → 0 ≤ (f_679 j).toInt ∧ (f_679 j).toInt ≤ 3) → (∀ j : Nat, j < 4 → 0 ≤ (f_680 j).toInt ∧ (f_680 j).toInt ≤ 3) → (0 ≤ z_677.toInt ∧ z_677.toInt ≤ p1.toInt) → (0 ≤ z_678.toInt) → z_677.toInt.toNat < n_681 → (PX5_putInOrder fS_order fS_left p0 p1 p2 = HX5_putInOrder_1 p1 x_672 n_681 z_677 z_678 f_679 f_680) → va_P (dC, dI) vwCl [(oc5 oS rS_worths rS_order rS_left), (arI rS_order kS_order 72 f_679), (arI rS_left kS_left 4 f_680)] H → va_D A [(oc5 oS rS_worths rS_order rS_left), (arI rS_order kS_order 72 f_679), (arI rS_left kS_left 4 f_680)] → va_S A s.heap H locs → lv_has ls 9 [(6, .int z_677), (5, .int z_678), (4, .int x_672), (0, .ref oS), (1, .int p0), (2, .int p1), (3, .int p2)] → W p l e (headSpec (Cond.code yX5_putInOrder cX5_putInOrder 9 none :: wG) ({ frames := 0, cells := 0, slots := 0, locals := 0 })).room s m ([.ref oS, .int p0, .int p1, .int p2] : List Value).toArray below meth c H locs 0 0 (MQ below (va_Qv (fun (_ : Nat) => True) (fun (_ : Nat) (t : State) => ∃ (nfS_order : Nat → Int32) (nfS_left : Nat → Int32), (∀ j : Nat, j < 72 → 0 ≤ (nfS_order j).toInt ∧ (nfS_order j).toInt ≤ 3) ∧ (∀ j : Nat, j < 4 → 0 ≤ (nfS_left j).toInt ∧ (nfS_left j).toInt ≤ 3) ∧ (PX5_putInOrder fS_order fS_left p0 p1 p2 = (nfS_order, nfS_left)) ∧ Bw dC dI A [(oc5 oS rS_worths rS_order rS_left), (arI rS_order kS_order 72 nfS_order), (arI rS_left kS_left 4 nfS_left)] [(kS_order, .int), (kS_left, .int)] t) A) ([.ref oS, .int p0, .int p1, .int p2] : List Value).toArray s 0 0 A) (F0 m 43 ls []) := by
          intro n_681
          induction n_681 with
          | zero => intro z_677 z_678 f_679 f_680 H locs ls a_f_679 a_f_680 hi0_n_681 hi1_n_681 hm; exact absurd hm (Nat.not_lt_zero _)
          | succ n_681 ih_n_681 =>
            intro z_677 z_678 f_679 f_680 H locs ls a_f_679 a_f_680 hi0_n_681 hi1_n_681 hm_n_681 hG hP hD hS hl
            have hG := hG.trans (HX5_putInOrder_1_eq _ _ _ _ _ _ _)
            have rg_z_677 := fb_rng z_677
            have rg_z_678 := fb_rng z_678
            refine lv_iload hx hb dX5_putInOrder_43 (lv_at hl 0 rfl) ?_
            refine lv_if_le (tgt := 122) hx hb dX5_putInOrder_45 (by decide) (fun c_682 => ?_) (fun c_682 => ?_)
            · skip
              have hG := hG.trans (if_pos c_682)
              have gc_682 := ti_le c_682 rfl kc_0
              exact wq_v hx hb hr 0 trivial (fun t ht hW => ⟨f_679, f_680, a_f_679, a_f_680, hG, Bw.to hP hD hK ht hW⟩) hS dX5_putInOrder_122 hlocks
            · skip
              have hG := hG.trans (if_neg c_682)
              have gc_682 := ti_nle c_682 rfl kc_0
              refine lv_iload hx hb dX5_putInOrder_48 (lv_at hl 1 rfl) ?_
              refine lv_iload hx hb dX5_putInOrder_50 (lv_at hl 0 rfl) ?_
              refine lv_irem hx hb dX5_putInOrder_52 (ti_n0 rfl (by omega)) ?_
              refine lv_topi (fun x_683 ex_683 => ?_)
              have hG := hG.trans (lt_eq ex_683)
              have rg_x_683 := fb_rng x_683
              have qx_683 := ti_rem ex_683 rfl rfl hi1_n_681 gc_682
              refine lv_istore (lv' := [(7, .int x_683), (6, .int z_677), (5, .int z_678), (4, .int x_672), (0, .ref oS), (1, .int p0), (2, .int p1), (3, .int p2)]) hx hb dX5_putInOrder_53 hl (by decide) rfl (fun ls hl => ?_)
              refine lv_iload hx hb dX5_putInOrder_55 (lv_at hl 2 rfl) ?_
              refine lv_iload hx hb dX5_putInOrder_57 (lv_at hl 1 rfl) ?_
              refine lv_idiv hx hb dX5_putInOrder_59 (ti_n0 rfl (by omega)) ?_
              refine lv_topi (fun x_684 ex_684 => ?_)
              have hG := hG.trans (lt_eq ex_684)
              have rg_x_684 := fb_rng x_684
              have qx_684 := ti_div ex_684 rfl rfl hi1_n_681 gc_682
              refine lv_istore (lv' := [(5, .int x_684), (7, .int x_683), (6, .int z_677), (4, .int x_672), (0, .ref oS), (1, .int p0), (2, .int p1), (3, .int p2)]) hx hb dX5_putInOrder_60 hl (by decide) rfl (fun ls hl => ?_)
              refine lv_aload_n hx hb dX5_putInOrder_62 rfl (lv_at hl 4 rfl) ?_
              refine va_get (D := (dC, dI)) (ci := 5) (v := .ref rS_order) (C := RX5) (T := TX5) (N := 3) hx hb hts inX5 hown hK hP 0 rfl rfl 1 (by decide) (hts _ wd_129) (fun _ h9 => h9) rfl dX5_putInOrder_63 ?_
              refine lv_iload hx hb dX5_putInOrder_66 (lv_at hl 3 rfl) ?_
              refine lv_iload_n hx hb dX5_putInOrder_68 rfl (lv_at hl 6 rfl) ?_
              refine lv_iadd hx hb dX5_putInOrder_69 ?_
              refine lv_topi (fun x_685 ex_685 => ?_)
              have hG := hG.trans (lt_eq ex_685)
              have vx_685 : x_685.toInt = 4 * p0.toInt + p1.toInt := om_5d0caf0f (ti_add ex_685 vx_672 rfl (om_056a216f hp0.1 hp1.1) (om_c7c314e6 hp0.2 hp1.2))
              refine lv_iload hx hb dX5_putInOrder_70 (lv_at hl 2 rfl) ?_
              refine lv_isub hx hb dX5_putInOrder_72 ?_
              refine lv_topi (fun x_686 ex_686 => ?_)
              have hG := hG.trans (lt_eq ex_686)
              have vx_686 : x_686.toInt = 4 * p0.toInt + p1.toInt + (-1) * z_677.toInt := om_00968808 (ti_sub ex_686 vx_685 rfl (om_573b7ec0 hp0.1 hi0_n_681.2) (om_f4cefd80 hp0.2 hp1.2 hi0_n_681.1))
              refine lv_aload_n hx hb dX5_putInOrder_73 rfl (lv_at hl 4 rfl) ?_
              refine va_get (D := (dC, dI)) (ci := 5) (v := .ref rS_left) (C := RX5) (T := TX5) (N := 3) hx hb hts inX5 hown hK hP 0 rfl rfl 2 (by decide) (hts _ wd_130) (fun _ h9 => h9) rfl dX5_putInOrder_74 ?_
              refine lv_iload hx hb dX5_putInOrder_77 (lv_at hl 1 rfl) ?_
              refine va_iald hx hb hK hP 2 1 rfl rfl (ti_in rfl qx_683.1 (om_bce59bf7 hp1.2 hi0_n_681.2 qx_683.2.1)) dX5_putInOrder_79 ?_
              refine lv_topi (fun x_687 ex_687 => ?_)
              have hG := hG.trans (lt_eq ex_687)
              have rg_x_687 := fb_rng x_687
              have kx_687 : (f_680 x_683.toNatClampNeg).toInt = x_687.toInt := by rw [ex_687]
              have ux_687 := a_f_680 x_683.toNatClampNeg (cl_lt rfl qx_683.1 (om_bce59bf7 hp1.2 hi0_n_681.2 qx_683.2.1))
              rw [show f_680 x_683.toNatClampNeg = x_687 from ex_687.symm] at ux_687
              refine va_iast hx hb hK hP hD hS 1 0 rfl rfl (ti_in vx_686 (om_d9be8836 hp0.1 hi0_n_681.2) (om_d314cc90 hp0.2 hp1.2 gc_682)) dX5_putInOrder_80 (fun H locs hP hD hS => ?_)
              obtain ⟨f_689, ef_689⟩ : ∃ g : Nat → Int32, g = upd f_679 x_686.toNatClampNeg x_687 := ⟨_, rfl⟩
              rw [← ef_689] at hP hD
              have hG := hG.trans (lt_eq ef_689)
              obtain ⟨hP, hD⟩ := wl2 (ws' := [(oc5 oS rS_worths rS_order rS_left), (arI rS_order kS_order 72 f_689), (arI rS_left kS_left 4 f_680)]) hP hD rfl
              have a_f_689 : ∀ j : Nat, j < 72 → 0 ≤ (f_689 j).toInt ∧ (f_689 j).toInt ≤ 3 := by rw [ef_689]; exact upd_in a_f_679 ux_687
              refine lv_iload hx hb dX5_putInOrder_81 (lv_at hl 1 rfl) ?_
              refine lv_istore (lv' := [(8, .int x_683), (5, .int x_684), (7, .int x_683), (6, .int z_677), (4, .int x_672), (0, .ref oS), (1, .int p0), (2, .int p1), (3, .int p2)]) hx hb dX5_putInOrder_83 hl (by decide) rfl (fun ls hl => ?_)
              have hl := lv_sub hl (l' := [(8, .int x_683), (5, .int x_684), (7, .int x_683), (6, .int z_677), (4, .int x_672), (0, .ref oS), (1, .int p0), (2, .int p1), (3, .int p2)]) [0, 1, 2, 3, 4, 5, 6, 7, 8] rfl
              have key_n_692 : ∀ (n_692 : Nat) (z_690 : Int32) (f_691 : Nat → Int32) (H : Heap) (locs : List Loc) (ls : Array Slot), (∀ j : Nat, j < 4 → 0 ≤ (f_691 j).toInt ∧ (f_691 j).toInt ≤ 3) → (0 ≤ z_690.toInt ∧ z_690.toInt ≤ 2147483647) → (2147483647 - z_690.toInt).toNat < n_692 → (PX5_putInOrder fS_order fS_left p0 p1 p2 = HX5_putInOrder_2 z_677 x_684 f_689 (fun (z_677 : Int32) (z_678 : Int32) (f_679 : Nat → Int32) (f_680 : Nat → Int32) => HX5_putInOrder_1 p1 x_672 n_681 z_677 z_678 f_679 f_680) n_692 z_690 f_691) → va_P (dC, dI) vwCl [(oc5 oS rS_worths rS_order rS_left), (arI rS_order kS_order 72 f_689), (arI rS_left kS_left 4 f_691)] H → va_D A [(oc5 oS rS_worths rS_order rS_left), (arI rS_order kS_order 72 f_689), (arI rS_left kS_left 4 f_691)] → va_S A s.heap H locs → lv_has ls 9 [(8, .int z_690), (5, .int x_684), (7, .int x_683), (6, .int z_677), (4, .int x_672), (0, .ref oS), (1, .int p0), (2, .int p1), (3, .int p2)] → W p l e (headSpec (Cond.code yX5_putInOrder cX5_putInOrder 9 none :: wG) ({ frames := 0, cells := 0, slots := 0, locals := 0 })).room s m ([.ref oS, .int p0, .int p1, .int p2] : List Value).toArray below meth c H locs 0 0 (MQ below (va_Qv (fun (_ : Nat) => True) (fun (_ : Nat) (t : State) => ∃ (nfS_order : Nat → Int32) (nfS_left : Nat → Int32), (∀ j : Nat, j < 72 → 0 ≤ (nfS_order j).toInt ∧ (nfS_order j).toInt ≤ 3) ∧ (∀ j : Nat, j < 4 → 0 ≤ (nfS_left j).toInt ∧ (nfS_left j).toInt ≤ 3) ∧ (PX5_putInOrder fS_order fS_left p0 p1 p2 = (nfS_order, nfS_left)) ∧ Bw dC dI A [(oc5 oS rS_worths rS_order rS_left), (arI rS_order kS_order 72 nfS_order), (arI rS_left kS_left 4 nfS_left)] [(kS_order, .int), (kS_left, .int)] t) A) ([.ref oS, .int p0, .int p1, .int p2] : List Value).toArray s 0 0 A) (F0 m 85 ls []) := by
                intro n_692
                induction n_692 with
                | zero => intro z_690 f_691 H locs ls a_f_691 hi0_n_692 hm; exact absurd hm (Nat.not_lt_zero _)
                | succ n_692 ih_n_692 =>
                  intro z_690 f_691 H locs ls a_f_691 hi0_n_692 hm_n_692 hG hP hD hS hl
                  have hG := hG.trans (HX5_putInOrder_2_eq _ _ _ _ _ _ _)
                  have rg_z_690 := fb_rng z_690
                  refine lv_iload hx hb dX5_putInOrder_85 (lv_at hl 0 rfl) ?_
                  refine lv_iload hx hb dX5_putInOrder_87 (lv_at hl 3 rfl) ?_
                  refine lv_iconst (v := 1) hx hb dX5_putInOrder_89 (by decide) ?_
                  refine lv_isub hx hb dX5_putInOrder_90 ?_
                  refine lv_topi (fun x_693 ex_693 => ?_)
                  have hG := hG.trans (lt_eq ex_693)
                  have vx_693 : x_693.toInt = z_677.toInt + (-1) := om_89646172 (ti_sub ex_693 rfl kc_1 (om_e65a73c2 hi0_n_681.1) (om_2f78c106 hp1.2 hi0_n_681.2))
                  refine lv_icmp_ge (tgt := 116) hx hb dX5_putInOrder_91 (by decide) (fun c_694 => ?_) (fun c_694 => ?_)
                  · skip
                    have hG := hG.trans (if_pos c_694)
                    have gc_694 := ti_le c_694 vx_693 rfl
                    obtain ⟨x_695, ex_695⟩ : ∃ z : Int32, z = z_677 + Int32.ofInt (-1) := ⟨_, rfl⟩
                    have hG := hG.trans (lt_eq ex_695)
                    have vx_695 : x_695.toInt = z_677.toInt + (-1) := ti_add (y := (-1)) ex_695 rfl kc_m1 (om_dd968ed2 hi0_n_681.1) (om_d805ac5b hp1.2 hi0_n_681.2)
                    refine lv_iinc (v := x_695) (lv' := [(6, .int x_695), (8, .int z_690), (5, .int x_684), (7, .int x_683), (4, .int x_672), (0, .ref oS), (1, .int p0), (2, .int p1), (3, .int p2)]) hx hb dX5_putInOrder_116 hl (k := 3) rfl ex_695.symm (by decide) rfl (fun ls hl => ?_)
                    refine lv_goto (tgt := 43) hx hb dX5_putInOrder_119 (by decide) ?_
                    exact ih_n_681 x_695 x_684 f_689 f_691 _ _ _ a_f_689 a_f_691 ⟨(om_7080e04c gc_682 vx_695), (om_f11f82a1 hi0_n_681.2 vx_695)⟩ qx_684.1 (ms_lt hm_n_681 (om_76844f4e vx_695) gc_682) hG hP hD hS (lv_sub hl [0, 2, 4, 5, 6, 7, 8] rfl)
                  · skip
                    have hG := hG.trans (if_neg c_694)
                    have gc_694 := ti_nle c_694 vx_693 rfl
                    refine lv_aload_n hx hb dX5_putInOrder_94 rfl (lv_at hl 5 rfl) ?_
                    refine va_get (D := (dC, dI)) (ci := 5) (v := .ref rS_left) (C := RX5) (T := TX5) (N := 3) hx hb hts inX5 hown hK hP 0 rfl rfl 2 (by decide) (hts _ wd_130) (fun _ h9 => h9) rfl dX5_putInOrder_95 ?_
                    refine lv_iload hx hb dX5_putInOrder_98 (lv_at hl 0 rfl) ?_
                    refine lv_aload_n hx hb dX5_putInOrder_100 rfl (lv_at hl 5 rfl) ?_
                    refine va_get (D := (dC, dI)) (ci := 5) (v := .ref rS_left) (C := RX5) (T := TX5) (N := 3) hx hb hts inX5 hown hK hP 0 rfl rfl 2 (by decide) (hts _ wd_130) (fun _ h9 => h9) rfl dX5_putInOrder_101 ?_
                    refine lv_iload hx hb dX5_putInOrder_104 (lv_at hl 0 rfl) ?_
                    refine lv_iconst (v := 1) hx hb dX5_putInOrder_106 (by decide) ?_
                    refine lv_iadd hx hb dX5_putInOrder_107 ?_
                    refine lv_topi (fun x_696 ex_696 => ?_)
                    have hG := hG.trans (lt_eq ex_696)
                    have vx_696 : x_696.toInt = z_690.toInt + 1 := ti_add ex_696 rfl kc_1 (om_4e4fce7e hi0_n_692.1) (om_e40ce882 hp1.2 hi0_n_681.2 gc_694)
                    refine va_iald hx hb hK hP 2 1 rfl rfl (ti_in vx_696 (om_9548a8fd hi0_n_692.1) (om_772fd673 hp1.2 hi0_n_681.2 gc_694)) dX5_putInOrder_108 ?_
                    refine lv_topi (fun x_697 ex_697 => ?_)
                    have hG := hG.trans (lt_eq ex_697)
                    have rg_x_697 := fb_rng x_697
                    have kx_697 : (f_691 x_696.toNatClampNeg).toInt = x_697.toInt := by rw [ex_697]
                    have ux_697 := a_f_691 x_696.toNatClampNeg (cl_lt vx_696 (om_9548a8fd hi0_n_692.1) (om_772fd673 hp1.2 hi0_n_681.2 gc_694))
                    rw [show f_691 x_696.toNatClampNeg = x_697 from ex_697.symm] at ux_697
                    refine va_iast hx hb hK hP hD hS 2 1 rfl rfl (ti_in rfl hi0_n_692.1 (om_4961d762 hp1.2 hi0_n_681.2 gc_694)) dX5_putInOrder_109 (fun H locs hP hD hS => ?_)
                    obtain ⟨f_699, ef_699⟩ : ∃ g : Nat → Int32, g = upd f_691 z_690.toNatClampNeg x_697 := ⟨_, rfl⟩
                    rw [← ef_699] at hP hD
                    have hG := hG.trans (lt_eq ef_699)
                    obtain ⟨hP, hD⟩ := wl2 (ws' := [(oc5 oS rS_worths rS_order rS_left), (arI rS_order kS_order 72 f_689), (arI rS_left kS_left 4 f_699)]) hP hD rfl
                    have a_f_699 : ∀ j : Nat, j < 4 → 0 ≤ (f_699 j).toInt ∧ (f_699 j).toInt ≤ 3 := by rw [ef_699]; exact upd_in a_f_691 ux_697
                    obtain ⟨x_700, ex_700⟩ : ∃ z : Int32, z = z_690 + Int32.ofInt 1 := ⟨_, rfl⟩
                    have hG := hG.trans (lt_eq ex_700)
                    have vx_700 : x_700.toInt = z_690.toInt + 1 := ti_add (y := 1) ex_700 rfl kc_1 (om_4e4fce7e hi0_n_692.1) (om_e40ce882 hp1.2 hi0_n_681.2 gc_694)
                    refine lv_iinc (v := x_700) (lv' := [(8, .int x_700), (5, .int x_684), (7, .int x_683), (6, .int z_677), (4, .int x_672), (0, .ref oS), (1, .int p0), (2, .int p1), (3, .int p2)]) hx hb dX5_putInOrder_110 hl (k := 0) rfl ex_700.symm (by decide) rfl (fun ls hl => ?_)
                    refine lv_goto (tgt := 85) hx hb dX5_putInOrder_113 (by decide) ?_
                    exact ih_n_692 x_700 f_699 _ _ _ a_f_699 ⟨(om_83b90de5 hi0_n_692.1 vx_700), (om_f89e079b hp1.2 hi0_n_681.2 gc_694 vx_700)⟩ (ms_lt hm_n_692 (om_b9393183 vx_700) (om_f00a3f09 hp1.2 hi0_n_681.2 gc_694)) hG hP hD hS (lv_sub hl [0, 1, 2, 3, 4, 5, 6, 7, 8] rfl)
              exact key_n_692 (((2147483647 - x_683.toInt).toNat) + 1) x_683 f_680 _ _ _ a_f_680 ⟨qx_683.1, (om_b0741cbc hp1.2 hi0_n_681.2 qx_683.2.1)⟩ (Nat.lt_add_one _) hG hP hD hS hl
        exact key_n_681 ((p1.toInt.toNat) + 1) p1 p2 fS_order f_674 _ _ _ a_fS_order a_f_674 ⟨hp1.1, om_1cb5f934⟩ hp2.1 (Nat.lt_add_one _) hG hP hD hS hl
      · skip
        have hG := hG.trans (if_neg c_676)
        have gc_676 := ti_nle c_676 rfl rfl
        refine lv_aload_n hx hb dX5_putInOrder_14 rfl (lv_at hl 2 rfl) ?_
        refine va_get (D := (dC, dI)) (ci := 5) (v := .ref rS_left) (C := RX5) (T := TX5) (N := 3) hx hb hts inX5 hown hK hP 0 rfl rfl 2 (by decide) (hts _ wd_130) (fun _ h9 => h9) rfl dX5_putInOrder_15 ?_
        refine lv_iload hx hb dX5_putInOrder_18 (lv_at hl 0 rfl) ?_
        refine lv_aload_n hx hb dX5_putInOrder_20 rfl (lv_at hl 2 rfl) ?_
        refine va_get (D := (dC, dI)) (ci := 5) (v := .ref rS_order) (C := RX5) (T := TX5) (N := 3) hx hb hts inX5 hown hK hP 0 rfl rfl 1 (by decide) (hts _ wd_129) (fun _ h9 => h9) rfl dX5_putInOrder_21 ?_
        refine lv_iload hx hb dX5_putInOrder_24 (lv_at hl 1 rfl) ?_
        refine lv_iload hx hb dX5_putInOrder_26 (lv_at hl 0 rfl) ?_
        refine lv_iadd hx hb dX5_putInOrder_28 ?_
        refine lv_topi (fun x_701 ex_701 => ?_)
        have hG := hG.trans (lt_eq ex_701)
        have vx_701 : x_701.toInt = 4 * p0.toInt + z_673.toInt := om_5d0caf0f (ti_add ex_701 vx_672 rfl (om_056a216f hp0.1 hi0_n_675.1) (om_be3e613d hp0.2 hp1.2 gc_676))
        refine va_iald hx hb hK hP 1 0 rfl rfl (ti_in vx_701 (om_fc2812d4 hp0.1 hi0_n_675.1) (om_b7e30450 hp0.2 hp1.2 gc_676)) dX5_putInOrder_29 ?_
        refine lv_topi (fun x_702 ex_702 => ?_)
        have hG := hG.trans (lt_eq ex_702)
        have rg_x_702 := fb_rng x_702
        have kx_702 : (fS_order x_701.toNatClampNeg).toInt = x_702.toInt := by rw [ex_702]
        have ux_702 := a_fS_order x_701.toNatClampNeg (cl_lt vx_701 (om_fc2812d4 hp0.1 hi0_n_675.1) (om_b7e30450 hp0.2 hp1.2 gc_676))
        rw [show fS_order x_701.toNatClampNeg = x_702 from ex_702.symm] at ux_702
        refine va_iast hx hb hK hP hD hS 2 1 rfl rfl (ti_in rfl hi0_n_675.1 (om_2470ff38 hp1.2 gc_676)) dX5_putInOrder_30 (fun H locs hP hD hS => ?_)
        obtain ⟨f_704, ef_704⟩ : ∃ g : Nat → Int32, g = upd f_674 z_673.toNatClampNeg x_702 := ⟨_, rfl⟩
        rw [← ef_704] at hP hD
        have hG := hG.trans (lt_eq ef_704)
        obtain ⟨hP, hD⟩ := wl2 (ws' := [(oc5 oS rS_worths rS_order rS_left), (arI rS_order kS_order 72 fS_order), (arI rS_left kS_left 4 f_704)]) hP hD rfl
        have a_f_704 : ∀ j : Nat, j < 4 → 0 ≤ (f_704 j).toInt ∧ (f_704 j).toInt ≤ 3 := by rw [ef_704]; exact upd_in a_f_674 ux_702
        obtain ⟨x_705, ex_705⟩ : ∃ z : Int32, z = z_673 + Int32.ofInt 1 := ⟨_, rfl⟩
        have hG := hG.trans (lt_eq ex_705)
        have vx_705 : x_705.toInt = z_673.toInt + 1 := ti_add (y := 1) ex_705 rfl kc_1 (om_4e4fce7e hi0_n_675.1) (om_0ca29412 hp1.2 gc_676)
        refine lv_iinc (v := x_705) (lv' := [(5, .int x_705), (4, .int x_672), (0, .ref oS), (1, .int p0), (2, .int p1), (3, .int p2)]) hx hb dX5_putInOrder_31 hl (k := 0) rfl ex_705.symm (by decide) rfl (fun ls hl => ?_)
        refine lv_goto (tgt := 8) hx hb dX5_putInOrder_34 (by decide) ?_
        exact ih_n_675 x_705 f_704 _ _ _ a_f_704 ⟨(om_83b90de5 hi0_n_675.1 vx_705), (om_008057e4 hp1.2 gc_676 vx_705)⟩ (ms_lt hm_n_675 (om_b9393183 vx_705) (om_349eab4e hp1.2 gc_676)) hG hP hD hS (lv_sub hl [0, 1, 2, 3, 4, 5] rfl)
  exact key_n_675 (((2147483647 - (0 : Int32).toInt).toNat) + 1) 0 fS_left _ _ _ a_fS_left ⟨(om_b1de7dbe kc_0), (om_daf17c64 kc_0)⟩ (Nat.lt_add_one _) hG hP hD hS hl
set_option maxHeartbeats 4000000 in
set_option maxRecDepth 100000 in
theorem tX5_turnRound (l : Launch) (dC : Nat → ClassId) (dI : Nat → Nat → Nat) (sz : Nat) (oS : Nat) (rS_worths : Nat) (rS_order : Nat) (fS_order : Nat → Int32) (kS_order : ClassId) (rS_left : Nat) (oT : Nat) (rT_worths : Nat) (rT_order : Nat) (fT_order : Nat → Int32) (kT_order : ClassId) (rT_left : Nat) (p0 : Int32) (p1 : Int32) (p2 : Int32) (a_fS_order : ∀ j : Nat, j < 72 → 0 ≤ (fS_order j).toInt ∧ (fS_order j).toInt ≤ 3) (a_fT_order : ∀ j : Nat, j < 72 → 0 ≤ (fT_order j).toInt ∧ (fT_order j).toInt ≤ 3) (hp0 : 0 ≤ p0.toInt ∧ p0.toInt ≤ 17) (hp1 : 0 ≤ p1.toInt ∧ p1.toInt ≤ 4) (hp2 : 0 ≤ p2.toInt ∧ p2.toInt < p1.toInt) : Met l yX5_turnRound (Cond.code yX5_turnRound cX5_turnRound 8 none :: wG) ({ frames := 0, cells := 0, slots := 0, locals := 0 }) (va_Pc [.ref oS, .ref oT, .int p0, .int p1, .int p2] (Pw dC dI sz [(oc5 oS rS_worths rS_order rS_left), (arI rS_order kS_order 72 fS_order), (oc5 oT rT_worths rT_order rT_left), (arI rT_order kT_order 72 fT_order)] [(kS_order, .int), (kT_order, .int)])) (va_Qv (fun (_ : Nat) => True) (fun (_ : Nat) (t : State) => ∃ (nfS_order : Nat → Int32), (∀ j : Nat, j < 72 → 0 ≤ (nfS_order j).toInt ∧ (nfS_order j).toInt ≤ 3) ∧ (PX5_turnRound fS_order fT_order p0 p1 p2 = nfS_order) ∧ Bw dC dI (va_A [(oc5 oS rS_worths rS_order rS_left), (arI rS_order kS_order 72 fS_order), (oc5 oT rT_worths rT_order rT_left), (arI rT_order kT_order 72 fT_order)] sz) [(oc5 oS rS_worths rS_order rS_left), (arI rS_order kS_order 72 nfS_order), (oc5 oT rT_worths rT_order rT_left), (arI rT_order kT_order 72 fT_order)] [(kS_order, .int), (kT_order, .int)] t) (va_A [(oc5 oS rS_worths rS_order rS_left), (arI rS_order kS_order 72 fS_order), (oc5 oT rT_worths rT_order rT_left), (arI rT_order kT_order 72 fT_order)] sz)) 0 0 (va_A [(oc5 oS rS_worths rS_order rS_left), (arI rS_order kS_order 72 fS_order), (oc5 oT rT_worths rT_order rT_left), (arI rT_order kT_order 72 fT_order)] sz) := by
  refine Met.ofW (cc := cX5_turnRound) (maxL := 8) (ret := none) pnX5 rfl ?_
  intro p e s m args below meth c s₁ B hml hv
  obtain ⟨rfl, hsz, hP, hK, hD0, hE⟩ := hv
  have hx := B.exec
  have hb := B.bytes
  have hr := B.returns
  have hts : ∀ w ∈ wG, w.before ([.ref oS, .ref oT, .int p0, .int p1, .int p2] : List Value).toArray s = true := fun w h => atoms_spec (ws := Cond.code yX5_turnRound cX5_turnRound 8 none :: wG) B.pre w (List.mem_cons_of_mem _ h)
  have hown : s.vm.findClass RX5 = some m.cls := own_of B.named rfl
  have hlocks := B.notSynchronized
  subst hsz
  have hD := hD0.self (sz := s.heap.size)
  generalize hAe : va_A [(oc5 oS rS_worths rS_order rS_left), (arI rS_order kS_order 72 fS_order), (oc5 oT rT_worths rT_order rT_left), (arI rT_order kT_order 72 fT_order)] s.heap.size = A at hD hE ⊢
  have hA : ∀ q : Nat, s.heap.size ≤ q → A q := fun q h => by rw [← hAe]; exact Or.inr h
  have hS : va_S A s.heap s.heap [] := va_S.rf
  have hl := lv_entry ([.ref oS, .ref oT, .int p0, .int p1, .int p2]) (n := 8) (Nat.le_of_ble_eq_true rfl)
  rw [lg_entry_eq]
  generalize (lg_sl ([.ref oS, .ref oT, .int p0, .int p1, .int p2]) ++ List.replicate (8 - (lg_sl ([.ref oS, .ref oT, .int p0, .int p1, .int p2])).length) Slot.unset).toArray = ls at hl ⊢
  have hl : lv_has ls 8 [(0, .ref oS), (1, .ref oT), (2, .int p0), (3, .int p1), (4, .int p2)] := hl
  have hG := PX5_turnRound_eq fS_order fT_order p0 p1 p2
  have rg_p0 := fb_rng p0
  have rg_p1 := fb_rng p1
  have rg_p2 := fb_rng p2
  refine lv_iload_n hx hb dX5_turnRound_0 rfl (lv_at hl 2 rfl) ?_
  refine lv_iconst (v := 4) hx hb dX5_turnRound_1 (by decide) ?_
  refine lv_imul hx hb dX5_turnRound_2 ?_
  refine lv_topi (fun x_735 ex_735 => ?_)
  have hG := hG.trans (lt_eq ex_735)
  have vx_735 : x_735.toInt = 4 * p0.toInt := by have q := ti_mul ex_735 rfl kc_4 (by omega) (by omega); omega
  refine lv_istore (lv' := [(5, .int x_735), (0, .ref oS), (1, .ref oT), (2, .int p0), (3, .int p1), (4, .int p2)]) hx hb dX5_turnRound_3 hl (by decide) rfl (fun ls hl => ?_)
  refine lv_iconst (v := 0) hx hb dX5_turnRound_5 (by decide) ?_
  refine lv_istore (lv' := [(6, .int 0), (5, .int x_735), (0, .ref oS), (1, .ref oT), (2, .int p0), (3, .int p1), (4, .int p2)]) hx hb dX5_turnRound_6 hl (by decide) rfl (fun ls hl => ?_)
  have hl := lv_sub hl (l' := [(6, .int 0), (5, .int x_735), (0, .ref oS), (1, .ref oT), (2, .int p0), (3, .int p1), (4, .int p2)]) [0, 1, 2, 3, 4, 5, 6] rfl
  have key_n_738 : ∀ (n_738 : Nat) (z_736 : Int32) (f_737 : Nat → Int32) (H : Heap) (locs : List Loc) (ls : Array Slot), (∀ j : Nat, j < 72 → 0 ≤ (f_737 j).toInt ∧ (f_737 j).toInt ≤ 3) → (0 ≤ z_736.toInt ∧ z_736.toInt ≤ 2147483647) → (2147483647 - z_736.toInt).toNat < n_738 → (PX5_turnRound fS_order fT_order p0 p1 p2 = HX5_turnRound_0 fT_order p1 p2 x_735 n_738 z_736 f_737) → va_P (dC, dI) vwCl [(oc5 oS rS_worths rS_order rS_left), (arI rS_order kS_order 72 f_737), (oc5 oT rT_worths rT_order rT_left), (arI rT_order kT_order 72 fT_order)] H → va_D A [(oc5 oS rS_worths rS_order rS_left), (arI rS_order kS_order 72 f_737), (oc5 oT rT_worths rT_order rT_left), (arI rT_order kT_order 72 fT_order)] → va_S A s.heap H locs → lv_has ls 8 [(6, .int z_736), (5, .int x_735), (0, .ref oS), (1, .ref oT), (2, .int p0), (3, .int p1), (4, .int p2)] → W p l e (headSpec (Cond.code yX5_turnRound cX5_turnRound 8 none :: wG) ({ frames := 0, cells := 0, slots := 0, locals := 0 })).room s m ([.ref oS, .ref oT, .int p0, .int p1, .int p2] : List Value).toArray below meth c H locs 0 0 (MQ below (va_Qv (fun (_ : Nat) => True) (fun (_ : Nat) (t : State) => ∃ (nfS_order : Nat → Int32), (∀ j : Nat, j < 72 → 0 ≤ (nfS_order j).toInt ∧ (nfS_order j).toInt ≤ 3) ∧ (PX5_turnRound fS_order fT_order p0 p1 p2 = nfS_order) ∧ Bw dC dI A [(oc5 oS rS_worths rS_order rS_left), (arI rS_order kS_order 72 nfS_order), (oc5 oT rT_worths rT_order rT_left), (arI rT_order kT_order 72 fT_order)] [(kS_order, .int), (kT_order, .int)] t) A) ([.ref oS, .ref oT, .int p0, .int p1, .int p2] : List Value).toArray s 0 0 A) (F0 m 8 ls []) := by
    intro n_738
    induction n_738 with
    | zero => intro z_736 f_737 H locs ls a_f_737 hi0_n_738 hm; exact absurd hm (Nat.not_lt_zero _)
    | succ n_738 ih_n_738 =>
      intro z_736 f_737 H locs ls a_f_737 hi0_n_738 hm_n_738 hG hP hD hS hl
      have hG := hG.trans (HX5_turnRound_0_eq _ _ _ _ _ _ _)
      have rg_z_736 := fb_rng z_736
      refine lv_iload hx hb dX5_turnRound_8 (lv_at hl 0 rfl) ?_
      refine lv_iload_n hx hb dX5_turnRound_10 rfl (lv_at hl 5 rfl) ?_
      refine lv_icmp_ge (tgt := 60) hx hb dX5_turnRound_11 (by decide) (fun c_739 => ?_) (fun c_739 => ?_)
      · skip
        have hG := hG.trans (if_pos c_739)
        have gc_739 := ti_le c_739 rfl rfl
        exact wq_v hx hb hr 0 trivial (fun t ht hW => ⟨f_737, a_f_737, hG, Bw.to hP hD hK ht hW⟩) hS dX5_turnRound_60 hlocks
      · skip
        have hG := hG.trans (if_neg c_739)
        have gc_739 := ti_nle c_739 rfl rfl
        refine lv_iload hx hb dX5_turnRound_14 (lv_at hl 0 rfl) ?_
        refine lv_iload hx hb dX5_turnRound_16 (lv_at hl 6 rfl) ?_
        refine lv_iadd hx hb dX5_turnRound_18 ?_
        refine lv_topi (fun x_740 ex_740 => ?_)
        have hG := hG.trans (lt_eq ex_740)
        have vx_740 : x_740.toInt = p2.toInt + z_736.toInt := om_73fe24c2 (ti_add ex_740 rfl rfl (om_01a37b96 hp2.1 hi0_n_738.1) (om_d0e465f9 hp1.2 hp2.2 gc_739))
        refine lv_istore (lv' := [(7, .int x_740), (6, .int z_736), (5, .int x_735), (0, .ref oS), (1, .ref oT), (2, .int p0), (3, .int p1), (4, .int p2)]) hx hb dX5_turnRound_19 hl (by decide) rfl (fun ls hl => ?_)
        refine lv_aload_n hx hb dX5_turnRound_21 rfl (lv_at hl 3 rfl) ?_
        refine va_get (D := (dC, dI)) (ci := 5) (v := .ref rS_order) (C := RX5) (T := TX5) (N := 3) hx hb hts inX5 hown hK hP 0 rfl rfl 1 (by decide) (hts _ wd_129) (fun _ h9 => h9) rfl dX5_turnRound_22 ?_
        refine lv_iload hx hb dX5_turnRound_25 (lv_at hl 2 rfl) ?_
        refine lv_iload hx hb dX5_turnRound_27 (lv_at hl 1 rfl) ?_
        refine lv_iadd hx hb dX5_turnRound_29 ?_
        refine lv_topi (fun x_741 ex_741 => ?_)
        have hG := hG.trans (lt_eq ex_741)
        have vx_741 : x_741.toInt = 4 * p0.toInt + z_736.toInt := om_5d0caf0f (ti_add ex_741 vx_735 rfl (om_056a216f hp0.1 hi0_n_738.1) (om_be3e613d hp0.2 hp1.2 gc_739))
        refine lv_aload_n hx hb dX5_turnRound_30 rfl (lv_at hl 4 rfl) ?_
        refine va_get (D := (dC, dI)) (ci := 5) (v := .ref rT_order) (C := RX5) (T := TX5) (N := 3) hx hb hts inX5 hown hK hP 2 rfl rfl 1 (by decide) (hts _ wd_129) (fun _ h9 => h9) rfl dX5_turnRound_31 ?_
        refine lv_iload hx hb dX5_turnRound_34 (lv_at hl 2 rfl) ?_
        refine lv_iload hx hb dX5_turnRound_36 (lv_at hl 0 rfl) ?_
        refine lv_iload_n hx hb dX5_turnRound_38 rfl (lv_at hl 6 rfl) ?_
        refine lv_icmp_ge (tgt := 47) hx hb dX5_turnRound_39 (by decide) (fun c_742 => ?_) (fun c_742 => ?_)
        · skip
          have hG := hG.trans (if_pos c_742)
          have gc_742 := ti_le c_742 rfl vx_740
          refine lv_iload hx hb dX5_turnRound_47 (lv_at hl 0 rfl) ?_
          refine lv_iload_n hx hb dX5_turnRound_49 rfl (lv_at hl 6 rfl) ?_
          refine lv_isub hx hb dX5_turnRound_50 ?_
          refine lv_topi (fun x_743 ex_743 => ?_)
          have hG := hG.trans (lt_eq ex_743)
          have vx_743 : x_743.toInt = (-1) * p1.toInt + p2.toInt + z_736.toInt := om_6980acd7 (ti_sub ex_743 vx_740 rfl (om_0536e2b4 hp1.2 hp2.1 hi0_n_738.1) (om_e273fdea hp2.2 hi0_n_738.2))
          refine lv_iadd hx hb dX5_turnRound_51 ?_
          refine lv_topi (fun x_744 ex_744 => ?_)
          have hG := hG.trans (lt_eq ex_744)
          have vx_744 : x_744.toInt = 4 * p0.toInt + (-1) * p1.toInt + p2.toInt + z_736.toInt := om_6fef8941 (ti_add ex_744 vx_735 vx_743 (om_cc45240b hp0.1 hp1.2 hp2.1 hi0_n_738.1) (om_265a067d hp0.2 hp1.2 hp2.2 gc_739))
          refine va_iald hx hb hK hP 3 1 rfl rfl (ti_in vx_744 (om_a32040d0 hp0.1 gc_742) (om_611acbdf hp0.2 hp1.2 hp2.2 gc_739)) dX5_turnRound_52 ?_
          refine lv_topi (fun x_745 ex_745 => ?_)
          have hG := hG.trans (lt_eq ex_745)
          have rg_x_745 := fb_rng x_745
          have kx_745 : (fT_order x_744.toNatClampNeg).toInt = x_745.toInt := by rw [ex_745]
          have ux_745 := a_fT_order x_744.toNatClampNeg (cl_lt vx_744 (om_a32040d0 hp0.1 gc_742) (om_611acbdf hp0.2 hp1.2 hp2.2 gc_739))
          rw [show fT_order x_744.toNatClampNeg = x_745 from ex_745.symm] at ux_745
          refine va_iast hx hb hK hP hD hS 1 0 rfl rfl (ti_in vx_741 (om_fc2812d4 hp0.1 hi0_n_738.1) (om_b7e30450 hp0.2 hp1.2 gc_739)) dX5_turnRound_53 (fun H locs hP hD hS => ?_)
          obtain ⟨f_747, ef_747⟩ : ∃ g : Nat → Int32, g = upd f_737 x_741.toNatClampNeg x_745 := ⟨_, rfl⟩
          rw [← ef_747] at hP hD
          have hG := hG.trans (lt_eq ef_747)
          obtain ⟨hP, hD⟩ := wl2 (ws' := [(oc5 oS rS_worths rS_order rS_left), (arI rS_order kS_order 72 f_747), (oc5 oT rT_worths rT_order rT_left), (arI rT_order kT_order 72 fT_order)]) hP hD rfl
          have a_f_747 : ∀ j : Nat, j < 72 → 0 ≤ (f_747 j).toInt ∧ (f_747 j).toInt ≤ 3 := by rw [ef_747]; exact upd_in a_f_737 ux_745
          obtain ⟨x_748, ex_748⟩ : ∃ z : Int32, z = z_736 + Int32.ofInt 1 := ⟨_, rfl⟩
          have hG := hG.trans (lt_eq ex_748)
          have vx_748 : x_748.toInt = z_736.toInt + 1 := ti_add (y := 1) ex_748 rfl kc_1 (om_4e4fce7e hi0_n_738.1) (om_0ca29412 hp1.2 gc_739)
          refine lv_iinc (v := x_748) (lv' := [(6, .int x_748), (7, .int x_740), (5, .int x_735), (0, .ref oS), (1, .ref oT), (2, .int p0), (3, .int p1), (4, .int p2)]) hx hb dX5_turnRound_54 hl (k := 1) rfl ex_748.symm (by decide) rfl (fun ls hl => ?_)
          refine lv_goto (tgt := 8) hx hb dX5_turnRound_57 (by decide) ?_
          exact ih_n_738 x_748 f_747 _ _ _ a_f_747 ⟨(om_83b90de5 hi0_n_738.1 vx_748), (om_008057e4 hp1.2 gc_739 vx_748)⟩ (ms_lt hm_n_738 (om_b9393183 vx_748) (om_349eab4e hp1.2 gc_739)) hG hP hD hS (lv_sub hl [0, 2, 3, 4, 5, 6, 7] rfl)
        · skip
          have hG := hG.trans (if_neg c_742)
          have gc_742 := ti_nle c_742 rfl vx_740
          refine lv_iload hx hb dX5_turnRound_42 (lv_at hl 0 rfl) ?_
          refine lv_goto (tgt := 51) hx hb dX5_turnRound_44 (by decide) ?_
          refine lv_iadd hx hb dX5_turnRound_51 ?_
          refine lv_topi (fun x_749 ex_749 => ?_)
          have hG := hG.trans (lt_eq ex_749)
          have vx_749 : x_749.toInt = 4 * p0.toInt + p2.toInt + z_736.toInt := om_825fa3dd (ti_add ex_749 vx_735 vx_740 (om_ad48e43d hp0.1 hp2.1 hi0_n_738.1) (om_df9fe5f8 hp0.2 hp1.2 hp2.2 gc_739))
          refine va_iald hx hb hK hP 3 1 rfl rfl (ti_in vx_749 (om_4d5eb4d7 hp0.1 hp2.1 hi0_n_738.1) (om_66bb8bce hp0.2 hp1.2 gc_742)) dX5_turnRound_52 ?_
          refine lv_topi (fun x_750 ex_750 => ?_)
          have hG := hG.trans (lt_eq ex_750)
          have rg_x_750 := fb_rng x_750
          have kx_750 : (fT_order x_749.toNatClampNeg).toInt = x_750.toInt := by rw [ex_750]
          have ux_750 := a_fT_order x_749.toNatClampNeg (cl_lt vx_749 (om_4d5eb4d7 hp0.1 hp2.1 hi0_n_738.1) (om_66bb8bce hp0.2 hp1.2 gc_742))
          rw [show fT_order x_749.toNatClampNeg = x_750 from ex_750.symm] at ux_750
          refine va_iast hx hb hK hP hD hS 1 0 rfl rfl (ti_in vx_741 (om_fc2812d4 hp0.1 hi0_n_738.1) (om_b7e30450 hp0.2 hp1.2 gc_739)) dX5_turnRound_53 (fun H locs hP hD hS => ?_)
          obtain ⟨f_752, ef_752⟩ : ∃ g : Nat → Int32, g = upd f_737 x_741.toNatClampNeg x_750 := ⟨_, rfl⟩
          rw [← ef_752] at hP hD
          have hG := hG.trans (lt_eq ef_752)
          obtain ⟨hP, hD⟩ := wl2 (ws' := [(oc5 oS rS_worths rS_order rS_left), (arI rS_order kS_order 72 f_752), (oc5 oT rT_worths rT_order rT_left), (arI rT_order kT_order 72 fT_order)]) hP hD rfl
          have a_f_752 : ∀ j : Nat, j < 72 → 0 ≤ (f_752 j).toInt ∧ (f_752 j).toInt ≤ 3 := by rw [ef_752]; exact upd_in a_f_737 ux_750
          obtain ⟨x_753, ex_753⟩ : ∃ z : Int32, z = z_736 + Int32.ofInt 1 := ⟨_, rfl⟩
          have hG := hG.trans (lt_eq ex_753)
          have vx_753 : x_753.toInt = z_736.toInt + 1 := ti_add (y := 1) ex_753 rfl kc_1 (om_4e4fce7e hi0_n_738.1) (om_0ca29412 hp1.2 gc_739)
          refine lv_iinc (v := x_753) (lv' := [(6, .int x_753), (7, .int x_740), (5, .int x_735), (0, .ref oS), (1, .ref oT), (2, .int p0), (3, .int p1), (4, .int p2)]) hx hb dX5_turnRound_54 hl (k := 1) rfl ex_753.symm (by decide) rfl (fun ls hl => ?_)
          refine lv_goto (tgt := 8) hx hb dX5_turnRound_57 (by decide) ?_
          exact ih_n_738 x_753 f_752 _ _ _ a_f_752 ⟨(om_83b90de5 hi0_n_738.1 vx_753), (om_008057e4 hp1.2 gc_739 vx_753)⟩ (ms_lt hm_n_738 (om_b9393183 vx_753) (om_349eab4e hp1.2 gc_739)) hG hP hD hS (lv_sub hl [0, 2, 3, 4, 5, 6, 7] rfl)
  exact key_n_738 (((2147483647 - (0 : Int32).toInt).toNat) + 1) 0 fS_order _ _ _ a_fS_order ⟨(om_b1de7dbe kc_0), (om_daf17c64 kc_0)⟩ (Nat.lt_add_one _) hG hP hD hS hl
