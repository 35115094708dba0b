set_option maxHeartbeats 4000000 in
set_option maxRecDepth 100000 in
theorem tX7_copy_90_90 (l : Launch) (dC : Nat → ClassId) (dI : Nat → Nat → Nat) (sz : Nat) (rF : Nat) (fF : Nat → Int32) (kF : ClassId) (rT : Nat) (fT : Nat → Int32) (kT : ClassId) (p0 : Int32) (p1 : Int32) (p2 : Int32)  (hc0 : 0 ≤ p0.toInt ∧ 0 ≤ p1.toInt ∧ 0 ≤ p2.toInt) (hc1 : p0.toInt + p2.toInt ≤ 90) (hc2 : p1.toInt + p2.toInt ≤ 90) : Met l yX7_copy (Cond.code yX7_copy cX7_copy 6 none :: wG) ({ frames := 0, cells := 0, slots := 0, locals := 0 }) (va_Pc [.ref rF, .int p0, .ref rT, .int p1, .int p2] (Pw dC dI sz [(arI rF kF 90 fF), (arI rT kT 90 fT)] [(kF, .int), (kT, .int)])) (va_Qv (fun (_ : Nat) => True) (fun (_ : Nat) (t : State) => ∃ (nfT : Nat → Int32), (CopyOk fF fT p0.toNatClampNeg p1.toNatClampNeg p2.toNatClampNeg nfT) ∧ Bw dC dI (va_A [(arI rF kF 90 fF), (arI rT kT 90 fT)] sz) [(arI rF kF 90 fF), (arI rT kT 90 nfT)] [(kF, .int), (kT, .int)] t) (va_A [(arI rF kF 90 fF), (arI rT kT 90 fT)] sz)) 0 0 (va_A [(arI rF kF 90 fF), (arI rT kT 90 fT)] sz) := by
  refine Met.ofW (cc := cX7_copy) (maxL := 6) (ret := none) pnX7 rfl ?_
  intro p e s m args below meth c s₁ B hml hv
  obtain ⟨rfl, hsz, hP, hK, hD0, hE⟩ := hv
  have hx := B.exec
  have hb := B.bytes
  have hr := B.returns
  have hts : ∀ w ∈ wG, w.before ([.ref rF, .int p0, .ref rT, .int p1, .int p2] : List Value).toArray s = true := fun w h => atoms_spec (ws := Cond.code yX7_copy cX7_copy 6 none :: wG) B.pre w (List.mem_cons_of_mem _ h)
  have hown : s.vm.findClass RX7 = some m.cls := own_of B.named rfl
  have hlocks := B.notSynchronized
  subst hsz
  have hD := hD0.self (sz := s.heap.size)
  generalize hAe : va_A [(arI rF kF 90 fF), (arI rT kT 90 fT)] s.heap.size = A at hD hE ⊢
  have hA : ∀ q : Nat, s.heap.size ≤ q → A q := fun q h => by rw [← hAe]; exact Or.inr h
  have hS : va_S A s.heap s.heap [] := va_S.rf
  have hl := lv_entry ([.ref rF, .int p0, .ref rT, .int p1, .int p2]) (n := 6) (Nat.le_of_ble_eq_true rfl)
  rw [lg_entry_eq]
  generalize (lg_sl ([.ref rF, .int p0, .ref rT, .int p1, .int p2]) ++ List.replicate (6 - (lg_sl ([.ref rF, .int p0, .ref rT, .int p1, .int p2])).length) Slot.unset).toArray = ls at hl ⊢
  have hl : lv_has ls 6 [(0, .ref rF), (1, .int p0), (2, .ref rT), (3, .int p1), (4, .int p2)] := hl
  refine lv_iconst (v := 0) hx hb dX7_copy_0 (by decide) ?_
  refine lv_istore (lv' := [(5, .int 0), (0, .ref rF), (1, .int p0), (2, .ref rT), (3, .int p1), (4, .int p2)]) hx hb dX7_copy_1 hl (by decide) rfl (fun ls hl => ?_)
  have hl := lv_sub hl (l' := [(5, .int 0), (0, .ref rF), (1, .int p0), (2, .ref rT), (3, .int p1), (4, .int p2)]) [0, 1, 2, 3, 4, 5] rfl
  have key_n_1473 : ∀ (n_1473 : Nat) (z_1471 : Int32) (f_1472 : Nat → Int32) (H : Heap) (locs : List Loc) (ls : Array Slot), (0 ≤ z_1471.toInt ∧ z_1471.toInt ≤ p2.toInt) → (CopyOk fF fT p0.toNatClampNeg p1.toNatClampNeg z_1471.toNatClampNeg f_1472) → (p2.toInt - z_1471.toInt).toNat < n_1473 → va_P (dC, dI) vwCl [(arI rF kF 90 fF), (arI rT kT 90 f_1472)] H → va_D A [(arI rF kF 90 fF), (arI rT kT 90 f_1472)] → va_S A s.heap H locs → lv_has ls 6 [(5, .int z_1471), (0, .ref rF), (1, .int p0), (2, .ref rT), (3, .int p1), (4, .int p2)] → W p l e (headSpec (Cond.code yX7_copy cX7_copy 6 none :: wG) ({ frames := 0, cells := 0, slots := 0, locals := 0 })).room s m ([.ref rF, .int p0, .ref rT, .int p1, .int p2] : List Value).toArray below meth c H locs 0 0 (MQ below (va_Qv (fun (_ : Nat) => True) (fun (_ : Nat) (t : State) => ∃ (nfT : Nat → Int32), (CopyOk fF fT p0.toNatClampNeg p1.toNatClampNeg p2.toNatClampNeg nfT) ∧ Bw dC dI A [(arI rF kF 90 fF), (arI rT kT 90 nfT)] [(kF, .int), (kT, .int)] t) A) ([.ref rF, .int p0, .ref rT, .int p1, .int p2] : List Value).toArray s 0 0 A) (F0 m 3 ls []) := by
    intro n_1473
    induction n_1473 with
    | zero => intro z_1471 f_1472 H locs ls hi0_n_1473 hi1_n_1473 hm; exact absurd hm (Nat.not_lt_zero _)
    | succ n_1473 ih_n_1473 =>
      intro z_1471 f_1472 H locs ls hi0_n_1473 hi1_n_1473 hm_n_1473 hP hD hS hl
      refine lv_iload hx hb dX7_copy_3 (lv_at hl 0 rfl) ?_
      refine lv_iload hx hb dX7_copy_5 (lv_at hl 5 rfl) ?_
      refine lv_icmp_ge (tgt := 28) hx hb dX7_copy_7 (by decide) (fun c_1474 => ?_) (fun c_1474 => ?_)
      · skip
        have gc_1474 := ti_le c_1474 rfl rfl
        exact wq_v hx hb hr 0 trivial (fun t ht hW => ⟨f_1472, (by rw [show p2.toNatClampNeg = z_1471.toNatClampNeg from by have q1 := ti_cl (x := z_1471) rfl (by omega); have q2 := ti_cl (x := p2) rfl (by omega); omega]; assumption), Bw.to hP hD hK ht hW⟩) hS dX7_copy_28 hlocks
      · skip
        have gc_1474 := ti_nle c_1474 rfl rfl
        refine lv_aload_n hx hb dX7_copy_10 rfl (lv_at hl 3 rfl) ?_
        refine lv_iload_n hx hb dX7_copy_11 rfl (lv_at hl 4 rfl) ?_
        refine lv_iload hx hb dX7_copy_12 (lv_at hl 0 rfl) ?_
        refine lv_iadd hx hb dX7_copy_14 ?_
        refine lv_topi (fun x_1475 ex_1475 => ?_)
        have vx_1475 : x_1475.toInt = p1.toInt + z_1471.toInt := ti_add ex_1475 rfl rfl (om_0d98f29e hc0.2.1 hi0_n_1473.1) (om_8bd45658 hc2 hi0_n_1473.2)
        refine lv_aload_n hx hb dX7_copy_15 rfl (lv_at hl 1 rfl) ?_
        refine lv_iload_n hx hb dX7_copy_16 rfl (lv_at hl 2 rfl) ?_
        refine lv_iload hx hb dX7_copy_17 (lv_at hl 0 rfl) ?_
        refine lv_iadd hx hb dX7_copy_19 ?_
        refine lv_topi (fun x_1476 ex_1476 => ?_)
        have vx_1476 : x_1476.toInt = p0.toInt + z_1471.toInt := ti_add ex_1476 rfl rfl (om_0d98f29e hc0.1 hi0_n_1473.1) (om_8bd45658 hc1 hi0_n_1473.2)
        refine va_iald hx hb hK hP 0 0 rfl rfl (ti_in vx_1476 (om_da9595ee hc0.1 hi0_n_1473.1) (om_ad124daf hc1 gc_1474)) dX7_copy_20 ?_
        refine lv_topi (fun x_1477 ex_1477 => ?_)
        have kx_1477 : (fF x_1476.toNatClampNeg).toInt = x_1477.toInt := by rw [ex_1477]
        have cx_1477 : (fF (p0.toNatClampNeg + z_1471.toNatClampNeg)).toInt = x_1477.toInt := by rw [show p0.toNatClampNeg + z_1471.toNatClampNeg = x_1476.toNatClampNeg from (om_08ccee3a (ti_cl (x := p0) rfl hc0.1) (ti_cl (x := z_1471) rfl hi0_n_1473.1) (ti_cl (x := x_1476) vx_1476 (om_da9595ee hc0.1 hi0_n_1473.1)))]; exact kx_1477
        refine va_iast hx hb hK hP hD hS 1 1 rfl rfl (ti_in vx_1475 (om_da9595ee hc0.2.1 hi0_n_1473.1) (om_ad124daf hc2 gc_1474)) dX7_copy_21 (fun H locs hP hD hS => ?_)
        obtain ⟨f_1478, ef_1478⟩ : ∃ g : Nat → Int32, g = upd f_1472 x_1475.toNatClampNeg x_1477 := ⟨_, rfl⟩
        rw [← ef_1478] at hP hD
        obtain ⟨hP, hD⟩ := wl2 (ws' := [(arI rF kF 90 fF), (arI rT kT 90 f_1478)]) hP hD rfl
        obtain ⟨x_1479, ex_1479⟩ : ∃ z : Int32, z = z_1471 + Int32.ofInt 1 := ⟨_, rfl⟩
        have vx_1479 : x_1479.toInt = z_1471.toInt + 1 := ti_add (y := 1) ex_1479 rfl kc_1 (om_4e4fce7e hi0_n_1473.1) (om_e7f5d8f5 hc0.1 hc1 hi0_n_1473.2)
        refine lv_iinc (v := x_1479) (lv' := [(5, .int x_1479), (0, .ref rF), (1, .int p0), (2, .ref rT), (3, .int p1), (4, .int p2)]) hx hb dX7_copy_22 hl (k := 0) rfl ex_1479.symm (by decide) rfl (fun ls hl => ?_)
        refine lv_goto (tgt := 3) hx hb dX7_copy_25 (by decide) ?_
        exact ih_n_1473 x_1479 f_1478 _ _ _  ⟨(om_83b90de5 hi0_n_1473.1 vx_1479), (om_afcf07ef gc_1474 vx_1479)⟩ (copy_step hi1_n_1473 ef_1478 (by have q1 := ti_cl (x := x_1475) vx_1475 (om_da9595ee hc0.2.1 hi0_n_1473.1); have q2 := ti_cl (x := p1) rfl hc0.2.1; have q3 := ti_cl (x := z_1471) rfl hi0_n_1473.1; omega) (by have q := cx_1477; omega) (by have q1 := ti_cl (x := x_1479) vx_1479 (om_9548a8fd hi0_n_1473.1); have q3 := ti_cl (x := z_1471) rfl hi0_n_1473.1; omega)) (ms_lt hm_n_1473 (om_dd4ae0bc vx_1479) (om_d5382009 gc_1474)) hP hD hS (lv_sub hl [0, 1, 2, 3, 4, 5] rfl)
  exact key_n_1473 (((p2.toInt - (0 : Int32).toInt).toNat) + 1) 0 fT _ _ _  ⟨(om_b1de7dbe kc_0), (om_2dfe280d hc0.2.2 kc_0)⟩ (by first | assumption | omega | decide | exact copy_zero) (Nat.lt_add_one _) hP hD hS hl
set_option maxHeartbeats 4000000 in
set_option maxRecDepth 100000 in
theorem tX7_copy_8_8 (l : Launch) (dC : Nat → ClassId) (dI : Nat → Nat → Nat) (sz : Nat) (rF : Nat) (fF : Nat → Int32) (kF : ClassId) (rT : Nat) (fT : Nat → Int32) (kT : ClassId) (p0 : Int32) (p1 : Int32) (p2 : Int32)  (hc0 : 0 ≤ p0.toInt ∧ 0 ≤ p1.toInt ∧ 0 ≤ p2.toInt) (hc1 : p0.toInt + p2.toInt ≤ 8) (hc2 : p1.toInt + p2.toInt ≤ 8) : Met l yX7_copy (Cond.code yX7_copy cX7_copy 6 none :: wG) ({ frames := 0, cells := 0, slots := 0, locals := 0 }) (va_Pc [.ref rF, .int p0, .ref rT, .int p1, .int p2] (Pw dC dI sz [(arI rF kF 8 fF), (arI rT kT 8 fT)] [(kF, .int), (kT, .int)])) (va_Qv (fun (_ : Nat) => True) (fun (_ : Nat) (t : State) => ∃ (nfT : Nat → Int32), (CopyOk fF fT p0.toNatClampNeg p1.toNatClampNeg p2.toNatClampNeg nfT) ∧ Bw dC dI (va_A [(arI rF kF 8 fF), (arI rT kT 8 fT)] sz) [(arI rF kF 8 fF), (arI rT kT 8 nfT)] [(kF, .int), (kT, .int)] t) (va_A [(arI rF kF 8 fF), (arI rT kT 8 fT)] sz)) 0 0 (va_A [(arI rF kF 8 fF), (arI rT kT 8 fT)] sz) := by
  refine Met.ofW (cc := cX7_copy) (maxL := 6) (ret := none) pnX7 rfl ?_
  intro p e s m args below meth c s₁ B hml hv
  obtain ⟨rfl, hsz, hP, hK, hD0, hE⟩ := hv
  have hx := B.exec
  have hb := B.bytes
  have hr := B.returns
  have hts : ∀ w ∈ wG, w.before ([.ref rF, .int p0, .ref rT, .int p1, .int p2] : List Value).toArray s = true := fun w h => atoms_spec (ws := Cond.code yX7_copy cX7_copy 6 none :: wG) B.pre w (List.mem_cons_of_mem _ h)
  have hown : s.vm.findClass RX7 = some m.cls := own_of B.named rfl
  have hlocks := B.notSynchronized
  subst hsz
  have hD := hD0.self (sz := s.heap.size)
  generalize hAe : va_A [(arI rF kF 8 fF), (arI rT kT 8 fT)] s.heap.size = A at hD hE ⊢
  have hA : ∀ q : Nat, s.heap.size ≤ q → A q := fun q h => by rw [← hAe]; exact Or.inr h
  have hS : va_S A s.heap s.heap [] := va_S.rf
  have hl := lv_entry ([.ref rF, .int p0, .ref rT, .int p1, .int p2]) (n := 6) (Nat.le_of_ble_eq_true rfl)
  rw [lg_entry_eq]
  generalize (lg_sl ([.ref rF, .int p0, .ref rT, .int p1, .int p2]) ++ List.replicate (6 - (lg_sl ([.ref rF, .int p0, .ref rT, .int p1, .int p2])).length) Slot.unset).toArray = ls at hl ⊢
  have hl : lv_has ls 6 [(0, .ref rF), (1, .int p0), (2, .ref rT), (3, .int p1), (4, .int p2)] := hl
  refine lv_iconst (v := 0) hx hb dX7_copy_0 (by decide) ?_
  refine lv_istore (lv' := [(5, .int 0), (0, .ref rF), (1, .int p0), (2, .ref rT), (3, .int p1), (4, .int p2)]) hx hb dX7_copy_1 hl (by decide) rfl (fun ls hl => ?_)
  have hl := lv_sub hl (l' := [(5, .int 0), (0, .ref rF), (1, .int p0), (2, .ref rT), (3, .int p1), (4, .int p2)]) [0, 1, 2, 3, 4, 5] rfl
  have key_n_1491 : ∀ (n_1491 : Nat) (z_1489 : Int32) (f_1490 : Nat → Int32) (H : Heap) (locs : List Loc) (ls : Array Slot), (0 ≤ z_1489.toInt ∧ z_1489.toInt ≤ p2.toInt) → (CopyOk fF fT p0.toNatClampNeg p1.toNatClampNeg z_1489.toNatClampNeg f_1490) → (p2.toInt - z_1489.toInt).toNat < n_1491 → va_P (dC, dI) vwCl [(arI rF kF 8 fF), (arI rT kT 8 f_1490)] H → va_D A [(arI rF kF 8 fF), (arI rT kT 8 f_1490)] → va_S A s.heap H locs → lv_has ls 6 [(5, .int z_1489), (0, .ref rF), (1, .int p0), (2, .ref rT), (3, .int p1), (4, .int p2)] → W p l e (headSpec (Cond.code yX7_copy cX7_copy 6 none :: wG) ({ frames := 0, cells := 0, slots := 0, locals := 0 })).room s m ([.ref rF, .int p0, .ref rT, .int p1, .int p2] : List Value).toArray below meth c H locs 0 0 (MQ below (va_Qv (fun (_ : Nat) => True) (fun (_ : Nat) (t : State) => ∃ (nfT : Nat → Int32), (CopyOk fF fT p0.toNatClampNeg p1.toNatClampNeg p2.toNatClampNeg nfT) ∧ Bw dC dI A [(arI rF kF 8 fF), (arI rT kT 8 nfT)] [(kF, .int), (kT, .int)] t) A) ([.ref rF, .int p0, .ref rT, .int p1, .int p2] : List Value).toArray s 0 0 A) (F0 m 3 ls []) := by
    intro n_1491
    induction n_1491 with
    | zero => intro z_1489 f_1490 H locs ls hi0_n_1491 hi1_n_1491 hm; exact absurd hm (Nat.not_lt_zero _)
    | succ n_1491 ih_n_1491 =>
      intro z_1489 f_1490 H locs ls hi0_n_1491 hi1_n_1491 hm_n_1491 hP hD hS hl
      refine lv_iload hx hb dX7_copy_3 (lv_at hl 0 rfl) ?_
      refine lv_iload hx hb dX7_copy_5 (lv_at hl 5 rfl) ?_
      refine lv_icmp_ge (tgt := 28) hx hb dX7_copy_7 (by decide) (fun c_1492 => ?_) (fun c_1492 => ?_)
      · skip
        have gc_1492 := ti_le c_1492 rfl rfl
        exact wq_v hx hb hr 0 trivial (fun t ht hW => ⟨f_1490, (by rw [show p2.toNatClampNeg = z_1489.toNatClampNeg from by have q1 := ti_cl (x := z_1489) rfl (by omega); have q2 := ti_cl (x := p2) rfl (by omega); omega]; assumption), Bw.to hP hD hK ht hW⟩) hS dX7_copy_28 hlocks
      · skip
        have gc_1492 := ti_nle c_1492 rfl rfl
        refine lv_aload_n hx hb dX7_copy_10 rfl (lv_at hl 3 rfl) ?_
        refine lv_iload_n hx hb dX7_copy_11 rfl (lv_at hl 4 rfl) ?_
        refine lv_iload hx hb dX7_copy_12 (lv_at hl 0 rfl) ?_
        refine lv_iadd hx hb dX7_copy_14 ?_
        refine lv_topi (fun x_1493 ex_1493 => ?_)
        have vx_1493 : x_1493.toInt = p1.toInt + z_1489.toInt := ti_add ex_1493 rfl rfl (om_0d98f29e hc0.2.1 hi0_n_1491.1) (om_2dfe3766 hc2 hi0_n_1491.2)
        refine lv_aload_n hx hb dX7_copy_15 rfl (lv_at hl 1 rfl) ?_
        refine lv_iload_n hx hb dX7_copy_16 rfl (lv_at hl 2 rfl) ?_
        refine lv_iload hx hb dX7_copy_17 (lv_at hl 0 rfl) ?_
        refine lv_iadd hx hb dX7_copy_19 ?_
        refine lv_topi (fun x_1494 ex_1494 => ?_)
        have vx_1494 : x_1494.toInt = p0.toInt + z_1489.toInt := ti_add ex_1494 rfl rfl (om_0d98f29e hc0.1 hi0_n_1491.1) (om_2dfe3766 hc1 hi0_n_1491.2)
        refine va_iald hx hb hK hP 0 0 rfl rfl (ti_in vx_1494 (om_da9595ee hc0.1 hi0_n_1491.1) (om_6005669c hc1 gc_1492)) dX7_copy_20 ?_
        refine lv_topi (fun x_1495 ex_1495 => ?_)
        have kx_1495 : (fF x_1494.toNatClampNeg).toInt = x_1495.toInt := by rw [ex_1495]
        have cx_1495 : (fF (p0.toNatClampNeg + z_1489.toNatClampNeg)).toInt = x_1495.toInt := by rw [show p0.toNatClampNeg + z_1489.toNatClampNeg = x_1494.toNatClampNeg from (om_08ccee3a (ti_cl (x := p0) rfl hc0.1) (ti_cl (x := z_1489) rfl hi0_n_1491.1) (ti_cl (x := x_1494) vx_1494 (om_da9595ee hc0.1 hi0_n_1491.1)))]; exact kx_1495
        refine va_iast hx hb hK hP hD hS 1 1 rfl rfl (ti_in vx_1493 (om_da9595ee hc0.2.1 hi0_n_1491.1) (om_6005669c hc2 gc_1492)) dX7_copy_21 (fun H locs hP hD hS => ?_)
        obtain ⟨f_1496, ef_1496⟩ : ∃ g : Nat → Int32, g = upd f_1490 x_1493.toNatClampNeg x_1495 := ⟨_, rfl⟩
        rw [← ef_1496] at hP hD
        obtain ⟨hP, hD⟩ := wl2 (ws' := [(arI rF kF 8 fF), (arI rT kT 8 f_1496)]) hP hD rfl
        obtain ⟨x_1497, ex_1497⟩ : ∃ z : Int32, z = z_1489 + Int32.ofInt 1 := ⟨_, rfl⟩
        have vx_1497 : x_1497.toInt = z_1489.toInt + 1 := ti_add (y := 1) ex_1497 rfl kc_1 (om_4e4fce7e hi0_n_1491.1) (om_da77bcef hc0.1 hc1 hi0_n_1491.2)
        refine lv_iinc (v := x_1497) (lv' := [(5, .int x_1497), (0, .ref rF), (1, .int p0), (2, .ref rT), (3, .int p1), (4, .int p2)]) hx hb dX7_copy_22 hl (k := 0) rfl ex_1497.symm (by decide) rfl (fun ls hl => ?_)
        refine lv_goto (tgt := 3) hx hb dX7_copy_25 (by decide) ?_
        exact ih_n_1491 x_1497 f_1496 _ _ _  ⟨(om_83b90de5 hi0_n_1491.1 vx_1497), (om_afcf07ef gc_1492 vx_1497)⟩ (copy_step hi1_n_1491 ef_1496 (by have q1 := ti_cl (x := x_1493) vx_1493 (om_da9595ee hc0.2.1 hi0_n_1491.1); have q2 := ti_cl (x := p1) rfl hc0.2.1; have q3 := ti_cl (x := z_1489) rfl hi0_n_1491.1; omega) (by have q := cx_1495; omega) (by have q1 := ti_cl (x := x_1497) vx_1497 (om_9548a8fd hi0_n_1491.1); have q3 := ti_cl (x := z_1489) rfl hi0_n_1491.1; omega)) (ms_lt hm_n_1491 (om_dd4ae0bc vx_1497) (om_d5382009 gc_1492)) hP hD hS (lv_sub hl [0, 1, 2, 3, 4, 5] rfl)
  exact key_n_1491 (((p2.toInt - (0 : Int32).toInt).toNat) + 1) 0 fT _ _ _  ⟨(om_b1de7dbe kc_0), (om_2dfe280d hc0.2.2 kc_0)⟩ (by first | assumption | omega | decide | exact copy_zero) (Nat.lt_add_one _) hP hD hS hl
set_option maxHeartbeats 4000000 in
set_option maxRecDepth 100000 in
theorem tX7_copy_8_287 (l : Launch) (dC : Nat → ClassId) (dI : Nat → Nat → Nat) (sz : Nat) (rF : Nat) (fF : Nat → Int32) (kF : ClassId) (rT : Nat) (fT : Nat → Int32) (kT : ClassId) (p0 : Int32) (p1 : Int32) (p2 : Int32)  (hc0 : 0 ≤ p0.toInt ∧ 0 ≤ p1.toInt ∧ 0 ≤ p2.toInt) (hc1 : p0.toInt + p2.toInt ≤ 8) (hc2 : p1.toInt + p2.toInt ≤ 287) : Met l yX7_copy (Cond.code yX7_copy cX7_copy 6 none :: wG) ({ frames := 0, cells := 0, slots := 0, locals := 0 }) (va_Pc [.ref rF, .int p0, .ref rT, .int p1, .int p2] (Pw dC dI sz [(arI rF kF 8 fF), (arI rT kT 287 fT)] [(kF, .int), (kT, .int)])) (va_Qv (fun (_ : Nat) => True) (fun (_ : Nat) (t : State) => ∃ (nfT : Nat → Int32), (CopyOk fF fT p0.toNatClampNeg p1.toNatClampNeg p2.toNatClampNeg nfT) ∧ Bw dC dI (va_A [(arI rF kF 8 fF), (arI rT kT 287 fT)] sz) [(arI rF kF 8 fF), (arI rT kT 287 nfT)] [(kF, .int), (kT, .int)] t) (va_A [(arI rF kF 8 fF), (arI rT kT 287 fT)] sz)) 0 0 (va_A [(arI rF kF 8 fF), (arI rT kT 287 fT)] sz) := by
  refine Met.ofW (cc := cX7_copy) (maxL := 6) (ret := none) pnX7 rfl ?_
  intro p e s m args below meth c s₁ B hml hv
  obtain ⟨rfl, hsz, hP, hK, hD0, hE⟩ := hv
  have hx := B.exec
  have hb := B.bytes
  have hr := B.returns
  have hts : ∀ w ∈ wG, w.before ([.ref rF, .int p0, .ref rT, .int p1, .int p2] : List Value).toArray s = true := fun w h => atoms_spec (ws := Cond.code yX7_copy cX7_copy 6 none :: wG) B.pre w (List.mem_cons_of_mem _ h)
  have hown : s.vm.findClass RX7 = some m.cls := own_of B.named rfl
  have hlocks := B.notSynchronized
  subst hsz
  have hD := hD0.self (sz := s.heap.size)
  generalize hAe : va_A [(arI rF kF 8 fF), (arI rT kT 287 fT)] s.heap.size = A at hD hE ⊢
  have hA : ∀ q : Nat, s.heap.size ≤ q → A q := fun q h => by rw [← hAe]; exact Or.inr h
  have hS : va_S A s.heap s.heap [] := va_S.rf
  have hl := lv_entry ([.ref rF, .int p0, .ref rT, .int p1, .int p2]) (n := 6) (Nat.le_of_ble_eq_true rfl)
  rw [lg_entry_eq]
  generalize (lg_sl ([.ref rF, .int p0, .ref rT, .int p1, .int p2]) ++ List.replicate (6 - (lg_sl ([.ref rF, .int p0, .ref rT, .int p1, .int p2])).length) Slot.unset).toArray = ls at hl ⊢
  have hl : lv_has ls 6 [(0, .ref rF), (1, .int p0), (2, .ref rT), (3, .int p1), (4, .int p2)] := hl
  refine lv_iconst (v := 0) hx hb dX7_copy_0 (by decide) ?_
  refine lv_istore (lv' := [(5, .int 0), (0, .ref rF), (1, .int p0), (2, .ref rT), (3, .int p1), (4, .int p2)]) hx hb dX7_copy_1 hl (by decide) rfl (fun ls hl => ?_)
  have hl := lv_sub hl (l' := [(5, .int 0), (0, .ref rF), (1, .int p0), (2, .ref rT), (3, .int p1), (4, .int p2)]) [0, 1, 2, 3, 4, 5] rfl
  have key_n_1509 : ∀ (n_1509 : Nat) (z_1507 : Int32) (f_1508 : Nat → Int32) (H : Heap) (locs : List Loc) (ls : Array Slot), (0 ≤ z_1507.toInt ∧ z_1507.toInt ≤ p2.toInt) → (CopyOk fF fT p0.toNatClampNeg p1.toNatClampNeg z_1507.toNatClampNeg f_1508) → (p2.toInt - z_1507.toInt).toNat < n_1509 → va_P (dC, dI) vwCl [(arI rF kF 8 fF), (arI rT kT 287 f_1508)] H → va_D A [(arI rF kF 8 fF), (arI rT kT 287 f_1508)] → va_S A s.heap H locs → lv_has ls 6 [(5, .int z_1507), (0, .ref rF), (1, .int p0), (2, .ref rT), (3, .int p1), (4, .int p2)] → W p l e (headSpec (Cond.code yX7_copy cX7_copy 6 none :: wG) ({ frames := 0, cells := 0, slots := 0, locals := 0 })).room s m ([.ref rF, .int p0, .ref rT, .int p1, .int p2] : List Value).toArray below meth c H locs 0 0 (MQ below (va_Qv (fun (_ : Nat) => True) (fun (_ : Nat) (t : State) => ∃ (nfT : Nat → Int32), (CopyOk fF fT p0.toNatClampNeg p1.toNatClampNeg p2.toNatClampNeg nfT) ∧ Bw dC dI A [(arI rF kF 8 fF), (arI rT kT 287 nfT)] [(kF, .int), (kT, .int)] t) A) ([.ref rF, .int p0, .ref rT, .int p1, .int p2] : List Value).toArray s 0 0 A) (F0 m 3 ls []) := by
    intro n_1509
    induction n_1509 with
    | zero => intro z_1507 f_1508 H locs ls hi0_n_1509 hi1_n_1509 hm; exact absurd hm (Nat.not_lt_zero _)
    | succ n_1509 ih_n_1509 =>
      intro z_1507 f_1508 H locs ls hi0_n_1509 hi1_n_1509 hm_n_1509 hP hD hS hl
      refine lv_iload hx hb dX7_copy_3 (lv_at hl 0 rfl) ?_
      refine lv_iload hx hb dX7_copy_5 (lv_at hl 5 rfl) ?_
      refine lv_icmp_ge (tgt := 28) hx hb dX7_copy_7 (by decide) (fun c_1510 => ?_) (fun c_1510 => ?_)
      · skip
        have gc_1510 := ti_le c_1510 rfl rfl
        exact wq_v hx hb hr 0 trivial (fun t ht hW => ⟨f_1508, (by rw [show p2.toNatClampNeg = z_1507.toNatClampNeg from by have q1 := ti_cl (x := z_1507) rfl (by omega); have q2 := ti_cl (x := p2) rfl (by omega); omega]; assumption), Bw.to hP hD hK ht hW⟩) hS dX7_copy_28 hlocks
      · skip
        have gc_1510 := ti_nle c_1510 rfl rfl
        refine lv_aload_n hx hb dX7_copy_10 rfl (lv_at hl 3 rfl) ?_
        refine lv_iload_n hx hb dX7_copy_11 rfl (lv_at hl 4 rfl) ?_
        refine lv_iload hx hb dX7_copy_12 (lv_at hl 0 rfl) ?_
        refine lv_iadd hx hb dX7_copy_14 ?_
        refine lv_topi (fun x_1511 ex_1511 => ?_)
        have vx_1511 : x_1511.toInt = p1.toInt + z_1507.toInt := ti_add ex_1511 rfl rfl (om_0d98f29e hc0.2.1 hi0_n_1509.1) (om_7545b6f2 hc2 hi0_n_1509.2)
        refine lv_aload_n hx hb dX7_copy_15 rfl (lv_at hl 1 rfl) ?_
        refine lv_iload_n hx hb dX7_copy_16 rfl (lv_at hl 2 rfl) ?_
        refine lv_iload hx hb dX7_copy_17 (lv_at hl 0 rfl) ?_
        refine lv_iadd hx hb dX7_copy_19 ?_
        refine lv_topi (fun x_1512 ex_1512 => ?_)
        have vx_1512 : x_1512.toInt = p0.toInt + z_1507.toInt := ti_add ex_1512 rfl rfl (om_0d98f29e hc0.1 hi0_n_1509.1) (om_2dfe3766 hc1 hi0_n_1509.2)
        refine va_iald hx hb hK hP 0 0 rfl rfl (ti_in vx_1512 (om_da9595ee hc0.1 hi0_n_1509.1) (om_6005669c hc1 gc_1510)) dX7_copy_20 ?_
        refine lv_topi (fun x_1513 ex_1513 => ?_)
        have kx_1513 : (fF x_1512.toNatClampNeg).toInt = x_1513.toInt := by rw [ex_1513]
        have cx_1513 : (fF (p0.toNatClampNeg + z_1507.toNatClampNeg)).toInt = x_1513.toInt := by rw [show p0.toNatClampNeg + z_1507.toNatClampNeg = x_1512.toNatClampNeg from (om_08ccee3a (ti_cl (x := p0) rfl hc0.1) (ti_cl (x := z_1507) rfl hi0_n_1509.1) (ti_cl (x := x_1512) vx_1512 (om_da9595ee hc0.1 hi0_n_1509.1)))]; exact kx_1513
        refine va_iast hx hb hK hP hD hS 1 1 rfl rfl (ti_in vx_1511 (om_da9595ee hc0.2.1 hi0_n_1509.1) (om_01420f9f hc2 gc_1510)) dX7_copy_21 (fun H locs hP hD hS => ?_)
        obtain ⟨f_1514, ef_1514⟩ : ∃ g : Nat → Int32, g = upd f_1508 x_1511.toNatClampNeg x_1513 := ⟨_, rfl⟩
        rw [← ef_1514] at hP hD
        obtain ⟨hP, hD⟩ := wl2 (ws' := [(arI rF kF 8 fF), (arI rT kT 287 f_1514)]) hP hD rfl
        obtain ⟨x_1515, ex_1515⟩ : ∃ z : Int32, z = z_1507 + Int32.ofInt 1 := ⟨_, rfl⟩
        have vx_1515 : x_1515.toInt = z_1507.toInt + 1 := ti_add (y := 1) ex_1515 rfl kc_1 (om_4e4fce7e hi0_n_1509.1) (om_da77bcef hc0.1 hc1 hi0_n_1509.2)
        refine lv_iinc (v := x_1515) (lv' := [(5, .int x_1515), (0, .ref rF), (1, .int p0), (2, .ref rT), (3, .int p1), (4, .int p2)]) hx hb dX7_copy_22 hl (k := 0) rfl ex_1515.symm (by decide) rfl (fun ls hl => ?_)
        refine lv_goto (tgt := 3) hx hb dX7_copy_25 (by decide) ?_
        exact ih_n_1509 x_1515 f_1514 _ _ _  ⟨(om_83b90de5 hi0_n_1509.1 vx_1515), (om_afcf07ef gc_1510 vx_1515)⟩ (copy_step hi1_n_1509 ef_1514 (by have q1 := ti_cl (x := x_1511) vx_1511 (om_da9595ee hc0.2.1 hi0_n_1509.1); have q2 := ti_cl (x := p1) rfl hc0.2.1; have q3 := ti_cl (x := z_1507) rfl hi0_n_1509.1; omega) (by have q := cx_1513; omega) (by have q1 := ti_cl (x := x_1515) vx_1515 (om_9548a8fd hi0_n_1509.1); have q3 := ti_cl (x := z_1507) rfl hi0_n_1509.1; omega)) (ms_lt hm_n_1509 (om_dd4ae0bc vx_1515) (om_d5382009 gc_1510)) hP hD hS (lv_sub hl [0, 1, 2, 3, 4, 5] rfl)
  exact key_n_1509 (((p2.toInt - (0 : Int32).toInt).toNat) + 1) 0 fT _ _ _  ⟨(om_b1de7dbe kc_0), (om_2dfe280d hc0.2.2 kc_0)⟩ (by first | assumption | omega | decide | exact copy_zero) (Nat.lt_add_one _) hP hD hS hl
set_option maxHeartbeats 4000000 in
set_option maxRecDepth 100000 in
theorem tX7_copy_287_287 (l : Launch) (dC : Nat → ClassId) (dI : Nat → Nat → Nat) (sz : Nat) (rF : Nat) (fF : Nat → Int32) (kF : ClassId) (rT : Nat) (fT : Nat → Int32) (kT : ClassId) (p0 : Int32) (p1 : Int32) (p2 : Int32)  (hc0 : 0 ≤ p0.toInt ∧ 0 ≤ p1.toInt ∧ 0 ≤ p2.toInt) (hc1 : p0.toInt + p2.toInt ≤ 287) (hc2 : p1.toInt + p2.toInt ≤ 287) : Met l yX7_copy (Cond.code yX7_copy cX7_copy 6 none :: wG) ({ frames := 0, cells := 0, slots := 0, locals := 0 }) (va_Pc [.ref rF, .int p0, .ref rT, .int p1, .int p2] (Pw dC dI sz [(arI rF kF 287 fF), (arI rT kT 287 fT)] [(kF, .int), (kT, .int)])) (va_Qv (fun (_ : Nat) => True) (fun (_ : Nat) (t : State) => ∃ (nfT : Nat → Int32), (CopyOk fF fT p0.toNatClampNeg p1.toNatClampNeg p2.toNatClampNeg nfT) ∧ Bw dC dI (va_A [(arI rF kF 287 fF), (arI rT kT 287 fT)] sz) [(arI rF kF 287 fF), (arI rT kT 287 nfT)] [(kF, .int), (kT, .int)] t) (va_A [(arI rF kF 287 fF), (arI rT kT 287 fT)] sz)) 0 0 (va_A [(arI rF kF 287 fF), (arI rT kT 287 fT)] sz) := by
  refine Met.ofW (cc := cX7_copy) (maxL := 6) (ret := none) pnX7 rfl ?_
  intro p e s m args below meth c s₁ B hml hv
  obtain ⟨rfl, hsz, hP, hK, hD0, hE⟩ := hv
  have hx := B.exec
  have hb := B.bytes
  have hr := B.returns
  have hts : ∀ w ∈ wG, w.before ([.ref rF, .int p0, .ref rT, .int p1, .int p2] : List Value).toArray s = true := fun w h => atoms_spec (ws := Cond.code yX7_copy cX7_copy 6 none :: wG) B.pre w (List.mem_cons_of_mem _ h)
  have hown : s.vm.findClass RX7 = some m.cls := own_of B.named rfl
  have hlocks := B.notSynchronized
  subst hsz
  have hD := hD0.self (sz := s.heap.size)
  generalize hAe : va_A [(arI rF kF 287 fF), (arI rT kT 287 fT)] s.heap.size = A at hD hE ⊢
  have hA : ∀ q : Nat, s.heap.size ≤ q → A q := fun q h => by rw [← hAe]; exact Or.inr h
  have hS : va_S A s.heap s.heap [] := va_S.rf
  have hl := lv_entry ([.ref rF, .int p0, .ref rT, .int p1, .int p2]) (n := 6) (Nat.le_of_ble_eq_true rfl)
  rw [lg_entry_eq]
  generalize (lg_sl ([.ref rF, .int p0, .ref rT, .int p1, .int p2]) ++ List.replicate (6 - (lg_sl ([.ref rF, .int p0, .ref rT, .int p1, .int p2])).length) Slot.unset).toArray = ls at hl ⊢
  have hl : lv_has ls 6 [(0, .ref rF), (1, .int p0), (2, .ref rT), (3, .int p1), (4, .int p2)] := hl
  refine lv_iconst (v := 0) hx hb dX7_copy_0 (by decide) ?_
  refine lv_istore (lv' := [(5, .int 0), (0, .ref rF), (1, .int p0), (2, .ref rT), (3, .int p1), (4, .int p2)]) hx hb dX7_copy_1 hl (by decide) rfl (fun ls hl => ?_)
  have hl := lv_sub hl (l' := [(5, .int 0), (0, .ref rF), (1, .int p0), (2, .ref rT), (3, .int p1), (4, .int p2)]) [0, 1, 2, 3, 4, 5] rfl
  have key_n_1527 : ∀ (n_1527 : Nat) (z_1525 : Int32) (f_1526 : Nat → Int32) (H : Heap) (locs : List Loc) (ls : Array Slot), (0 ≤ z_1525.toInt ∧ z_1525.toInt ≤ p2.toInt) → (CopyOk fF fT p0.toNatClampNeg p1.toNatClampNeg z_1525.toNatClampNeg f_1526) → (p2.toInt - z_1525.toInt).toNat < n_1527 → va_P (dC, dI) vwCl [(arI rF kF 287 fF), (arI rT kT 287 f_1526)] H → va_D A [(arI rF kF 287 fF), (arI rT kT 287 f_1526)] → va_S A s.heap H locs → lv_has ls 6 [(5, .int z_1525), (0, .ref rF), (1, .int p0), (2, .ref rT), (3, .int p1), (4, .int p2)] → W p l e (headSpec (Cond.code yX7_copy cX7_copy 6 none :: wG) ({ frames := 0, cells := 0, slots := 0, locals := 0 })).room s m ([.ref rF, .int p0, .ref rT, .int p1, .int p2] : List Value).toArray below meth c H locs 0 0 (MQ below (va_Qv (fun (_ : Nat) => True) (fun (_ : Nat) (t : State) => ∃ (nfT : Nat → Int32), (CopyOk fF fT p0.toNatClampNeg p1.toNatClampNeg p2.toNatClampNeg nfT) ∧ Bw dC dI A [(arI rF kF 287 fF), (arI rT kT 287 nfT)] [(kF, .int), (kT, .int)] t) A) ([.ref rF, .int p0, .ref rT, .int p1, .int p2] : List Value).toArray s 0 0 A) (F0 m 3 ls []) := by
    intro n_1527
    induction n_1527 with
    | zero => intro z_1525 f_1526 H locs ls hi0_n_1527 hi1_n_1527 hm; exact absurd hm (Nat.not_lt_zero _)
    | succ n_1527 ih_n_1527 =>
      intro z_1525 f_1526 H locs ls hi0_n_1527 hi1_n_1527 hm_n_1527 hP hD hS hl
      refine lv_iload hx hb dX7_copy_3 (lv_at hl 0 rfl) ?_
      refine lv_iload hx hb dX7_copy_5 (lv_at hl 5 rfl) ?_
      refine lv_icmp_ge (tgt := 28) hx hb dX7_copy_7 (by decide) (fun c_1528 => ?_) (fun c_1528 => ?_)
      · skip
        have gc_1528 := ti_le c_1528 rfl rfl
        exact wq_v hx hb hr 0 trivial (fun t ht hW => ⟨f_1526, (by rw [show p2.toNatClampNeg = z_1525.toNatClampNeg from by have q1 := ti_cl (x := z_1525) rfl (by omega); have q2 := ti_cl (x := p2) rfl (by omega); omega]; assumption), Bw.to hP hD hK ht hW⟩) hS dX7_copy_28 hlocks
      · skip
        have gc_1528 := ti_nle c_1528 rfl rfl
        refine lv_aload_n hx hb dX7_copy_10 rfl (lv_at hl 3 rfl) ?_
        refine lv_iload_n hx hb dX7_copy_11 rfl (lv_at hl 4 rfl) ?_
        refine lv_iload hx hb dX7_copy_12 (lv_at hl 0 rfl) ?_
        refine lv_iadd hx hb dX7_copy_14 ?_
        refine lv_topi (fun x_1529 ex_1529 => ?_)
        have vx_1529 : x_1529.toInt = p1.toInt + z_1525.toInt := ti_add ex_1529 rfl rfl (om_0d98f29e hc0.2.1 hi0_n_1527.1) (om_7545b6f2 hc2 hi0_n_1527.2)
        refine lv_aload_n hx hb dX7_copy_15 rfl (lv_at hl 1 rfl) ?_
        refine lv_iload_n hx hb dX7_copy_16 rfl (lv_at hl 2 rfl) ?_
        refine lv_iload hx hb dX7_copy_17 (lv_at hl 0 rfl) ?_
        refine lv_iadd hx hb dX7_copy_19 ?_
        refine lv_topi (fun x_1530 ex_1530 => ?_)
        have vx_1530 : x_1530.toInt = p0.toInt + z_1525.toInt := ti_add ex_1530 rfl rfl (om_0d98f29e hc0.1 hi0_n_1527.1) (om_7545b6f2 hc1 hi0_n_1527.2)
        refine va_iald hx hb hK hP 0 0 rfl rfl (ti_in vx_1530 (om_da9595ee hc0.1 hi0_n_1527.1) (om_01420f9f hc1 gc_1528)) dX7_copy_20 ?_
        refine lv_topi (fun x_1531 ex_1531 => ?_)
        have kx_1531 : (fF x_1530.toNatClampNeg).toInt = x_1531.toInt := by rw [ex_1531]
        have cx_1531 : (fF (p0.toNatClampNeg + z_1525.toNatClampNeg)).toInt = x_1531.toInt := by rw [show p0.toNatClampNeg + z_1525.toNatClampNeg = x_1530.toNatClampNeg from (om_08ccee3a (ti_cl (x := p0) rfl hc0.1) (ti_cl (x := z_1525) rfl hi0_n_1527.1) (ti_cl (x := x_1530) vx_1530 (om_da9595ee hc0.1 hi0_n_1527.1)))]; exact kx_1531
        refine va_iast hx hb hK hP hD hS 1 1 rfl rfl (ti_in vx_1529 (om_da9595ee hc0.2.1 hi0_n_1527.1) (om_01420f9f hc2 gc_1528)) dX7_copy_21 (fun H locs hP hD hS => ?_)
        obtain ⟨f_1532, ef_1532⟩ : ∃ g : Nat → Int32, g = upd f_1526 x_1529.toNatClampNeg x_1531 := ⟨_, rfl⟩
        rw [← ef_1532] at hP hD
        obtain ⟨hP, hD⟩ := wl2 (ws' := [(arI rF kF 287 fF), (arI rT kT 287 f_1532)]) hP hD rfl
        obtain ⟨x_1533, ex_1533⟩ : ∃ z : Int32, z = z_1525 + Int32.ofInt 1 := ⟨_, rfl⟩
        have vx_1533 : x_1533.toInt = z_1525.toInt + 1 := ti_add (y := 1) ex_1533 rfl kc_1 (om_4e4fce7e hi0_n_1527.1) (om_04ff637e hc0.1 hc1 hi0_n_1527.2)
        refine lv_iinc (v := x_1533) (lv' := [(5, .int x_1533), (0, .ref rF), (1, .int p0), (2, .ref rT), (3, .int p1), (4, .int p2)]) hx hb dX7_copy_22 hl (k := 0) rfl ex_1533.symm (by decide) rfl (fun ls hl => ?_)
        refine lv_goto (tgt := 3) hx hb dX7_copy_25 (by decide) ?_
        exact ih_n_1527 x_1533 f_1532 _ _ _  ⟨(om_83b90de5 hi0_n_1527.1 vx_1533), (om_afcf07ef gc_1528 vx_1533)⟩ (copy_step hi1_n_1527 ef_1532 (by have q1 := ti_cl (x := x_1529) vx_1529 (om_da9595ee hc0.2.1 hi0_n_1527.1); have q2 := ti_cl (x := p1) rfl hc0.2.1; have q3 := ti_cl (x := z_1525) rfl hi0_n_1527.1; omega) (by have q := cx_1531; omega) (by have q1 := ti_cl (x := x_1533) vx_1533 (om_9548a8fd hi0_n_1527.1); have q3 := ti_cl (x := z_1525) rfl hi0_n_1527.1; omega)) (ms_lt hm_n_1527 (om_dd4ae0bc vx_1533) (om_d5382009 gc_1528)) hP hD hS (lv_sub hl [0, 1, 2, 3, 4, 5] rfl)
  exact key_n_1527 (((p2.toInt - (0 : Int32).toInt).toNat) + 1) 0 fT _ _ _  ⟨(om_b1de7dbe kc_0), (om_2dfe280d hc0.2.2 kc_0)⟩ (by first | assumption | omega | decide | exact copy_zero) (Nat.lt_add_one _) hP hD hS hl
set_option maxHeartbeats 4000000 in
set_option maxRecDepth 100000 in
theorem tX7_copy_90_1440 (l : Launch) (dC : Nat → ClassId) (dI : Nat → Nat → Nat) (sz : Nat) (rF : Nat) (fF : Nat → Int32) (kF : ClassId) (rT : Nat) (fT : Nat → Int32) (kT : ClassId) (p0 : Int32) (p1 : Int32) (p2 : Int32)  (hc0 : 0 ≤ p0.toInt ∧ 0 ≤ p1.toInt ∧ 0 ≤ p2.toInt) (hc1 : p0.toInt + p2.toInt ≤ 90) (hc2 : p1.toInt + p2.toInt ≤ 1440) : Met l yX7_copy (Cond.code yX7_copy cX7_copy 6 none :: wG) ({ frames := 0, cells := 0, slots := 0, locals := 0 }) (va_Pc [.ref rF, .int p0, .ref rT, .int p1, .int p2] (Pw dC dI sz [(arI rF kF 90 fF), (arI rT kT 1440 fT)] [(kF, .int), (kT, .int)])) (va_Qv (fun (_ : Nat) => True) (fun (_ : Nat) (t : State) => ∃ (nfT : Nat → Int32), (CopyOk fF fT p0.toNatClampNeg p1.toNatClampNeg p2.toNatClampNeg nfT) ∧ Bw dC dI (va_A [(arI rF kF 90 fF), (arI rT kT 1440 fT)] sz) [(arI rF kF 90 fF), (arI rT kT 1440 nfT)] [(kF, .int), (kT, .int)] t) (va_A [(arI rF kF 90 fF), (arI rT kT 1440 fT)] sz)) 0 0 (va_A [(arI rF kF 90 fF), (arI rT kT 1440 fT)] sz) := by
  refine Met.ofW (cc := cX7_copy) (maxL := 6) (ret := none) pnX7 rfl ?_
  intro p e s m args below meth c s₁ B hml hv
  obtain ⟨rfl, hsz, hP, hK, hD0, hE⟩ := hv
  have hx := B.exec
  have hb := B.bytes
  have hr := B.returns
  have hts : ∀ w ∈ wG, w.before ([.ref rF, .int p0, .ref rT, .int p1, .int p2] : List Value).toArray s = true := fun w h => atoms_spec (ws := Cond.code yX7_copy cX7_copy 6 none :: wG) B.pre w (List.mem_cons_of_mem _ h)
  have hown : s.vm.findClass RX7 = some m.cls := own_of B.named rfl
  have hlocks := B.notSynchronized
  subst hsz
  have hD := hD0.self (sz := s.heap.size)
  generalize hAe : va_A [(arI rF kF 90 fF), (arI rT kT 1440 fT)] s.heap.size = A at hD hE ⊢
  have hA : ∀ q : Nat, s.heap.size ≤ q → A q := fun q h => by rw [← hAe]; exact Or.inr h
  have hS : va_S A s.heap s.heap [] := va_S.rf
  have hl := lv_entry ([.ref rF, .int p0, .ref rT, .int p1, .int p2]) (n := 6) (Nat.le_of_ble_eq_true rfl)
  rw [lg_entry_eq]
  generalize (lg_sl ([.ref rF, .int p0, .ref rT, .int p1, .int p2]) ++ List.replicate (6 - (lg_sl ([.ref rF, .int p0, .ref rT, .int p1, .int p2])).length) Slot.unset).toArray = ls at hl ⊢
  have hl : lv_has ls 6 [(0, .ref rF), (1, .int p0), (2, .ref rT), (3, .int p1), (4, .int p2)] := hl
  refine lv_iconst (v := 0) hx hb dX7_copy_0 (by decide) ?_
  refine lv_istore (lv' := [(5, .int 0), (0, .ref rF), (1, .int p0), (2, .ref rT), (3, .int p1), (4, .int p2)]) hx hb dX7_copy_1 hl (by decide) rfl (fun ls hl => ?_)
  have hl := lv_sub hl (l' := [(5, .int 0), (0, .ref rF), (1, .int p0), (2, .ref rT), (3, .int p1), (4, .int p2)]) [0, 1, 2, 3, 4, 5] rfl
  have key_n_1545 : ∀ (n_1545 : Nat) (z_1543 : Int32) (f_1544 : Nat → Int32) (H : Heap) (locs : List Loc) (ls : Array Slot), (0 ≤ z_1543.toInt ∧ z_1543.toInt ≤ p2.toInt) → (CopyOk fF fT p0.toNatClampNeg p1.toNatClampNeg z_1543.toNatClampNeg f_1544) → (p2.toInt - z_1543.toInt).toNat < n_1545 → va_P (dC, dI) vwCl [(arI rF kF 90 fF), (arI rT kT 1440 f_1544)] H → va_D A [(arI rF kF 90 fF), (arI rT kT 1440 f_1544)] → va_S A s.heap H locs → lv_has ls 6 [(5, .int z_1543), (0, .ref rF), (1, .int p0), (2, .ref rT), (3, .int p1), (4, .int p2)] → W p l e (headSpec (Cond.code yX7_copy cX7_copy 6 none :: wG) ({ frames := 0, cells := 0, slots := 0, locals := 0 })).room s m ([.ref rF, .int p0, .ref rT, .int p1, .int p2] : List Value).toArray below meth c H locs 0 0 (MQ below (va_Qv (fun (_ : Nat) => True) (fun (_ : Nat) (t : State) => ∃ (nfT : Nat → Int32), (CopyOk fF fT p0.toNatClampNeg p1.toNatClampNeg p2.toNatClampNeg nfT) ∧ Bw dC dI A [(arI rF kF 90 fF), (arI rT kT 1440 nfT)] [(kF, .int), (kT, .int)] t) A) ([.ref rF, .int p0, .ref rT, .int p1, .int p2] : List Value).toArray s 0 0 A) (F0 m 3 ls []) := by
    intro n_1545
    induction n_1545 with
    | zero => intro z_1543 f_1544 H locs ls hi0_n_1545 hi1_n_1545 hm; exact absurd hm (Nat.not_lt_zero _)
    | succ n_1545 ih_n_1545 =>
      intro z_1543 f_1544 H locs ls hi0_n_1545 hi1_n_1545 hm_n_1545 hP hD hS hl
      refine lv_iload hx hb dX7_copy_3 (lv_at hl 0 rfl) ?_
      refine lv_iload hx hb dX7_copy_5 (lv_at hl 5 rfl) ?_
      refine lv_icmp_ge (tgt := 28) hx hb dX7_copy_7 (by decide) (fun c_1546 => ?_) (fun c_1546 => ?_)
      · skip
        have gc_1546 := ti_le c_1546 rfl rfl
        exact wq_v hx hb hr 0 trivial (fun t ht hW => ⟨f_1544, (by rw [show p2.toNatClampNeg = z_1543.toNatClampNeg from by have q1 := ti_cl (x := z_1543) rfl (by omega); have q2 := ti_cl (x := p2) rfl (by omega); omega]; assumption), Bw.to hP hD hK ht hW⟩) hS dX7_copy_28 hlocks
      · skip
        have gc_1546 := ti_nle c_1546 rfl rfl
        refine lv_aload_n hx hb dX7_copy_10 rfl (lv_at hl 3 rfl) ?_
        refine lv_iload_n hx hb dX7_copy_11 rfl (lv_at hl 4 rfl) ?_
        refine lv_iload hx hb dX7_copy_12 (lv_at hl 0 rfl) ?_
        refine lv_iadd hx hb dX7_copy_14 ?_
        refine lv_topi (fun x_1547 ex_1547 => ?_)
        have vx_1547 : x_1547.toInt = p1.toInt + z_1543.toInt := ti_add ex_1547 rfl rfl (om_0d98f29e hc0.2.1 hi0_n_1545.1) (om_b649409c hc2 hi0_n_1545.2)
        refine lv_aload_n hx hb dX7_copy_15 rfl (lv_at hl 1 rfl) ?_
        refine lv_iload_n hx hb dX7_copy_16 rfl (lv_at hl 2 rfl) ?_
        refine lv_iload hx hb dX7_copy_17 (lv_at hl 0 rfl) ?_
        refine lv_iadd hx hb dX7_copy_19 ?_
        refine lv_topi (fun x_1548 ex_1548 => ?_)
        have vx_1548 : x_1548.toInt = p0.toInt + z_1543.toInt := ti_add ex_1548 rfl rfl (om_0d98f29e hc0.1 hi0_n_1545.1) (om_8bd45658 hc1 hi0_n_1545.2)
        refine va_iald hx hb hK hP 0 0 rfl rfl (ti_in vx_1548 (om_da9595ee hc0.1 hi0_n_1545.1) (om_ad124daf hc1 gc_1546)) dX7_copy_20 ?_
        refine lv_topi (fun x_1549 ex_1549 => ?_)
        have kx_1549 : (fF x_1548.toNatClampNeg).toInt = x_1549.toInt := by rw [ex_1549]
        have cx_1549 : (fF (p0.toNatClampNeg + z_1543.toNatClampNeg)).toInt = x_1549.toInt := by rw [show p0.toNatClampNeg + z_1543.toNatClampNeg = x_1548.toNatClampNeg from (om_08ccee3a (ti_cl (x := p0) rfl hc0.1) (ti_cl (x := z_1543) rfl hi0_n_1545.1) (ti_cl (x := x_1548) vx_1548 (om_da9595ee hc0.1 hi0_n_1545.1)))]; exact kx_1549
        refine va_iast hx hb hK hP hD hS 1 1 rfl rfl (ti_in vx_1547 (om_da9595ee hc0.2.1 hi0_n_1545.1) (om_e1605147 hc2 gc_1546)) dX7_copy_21 (fun H locs hP hD hS => ?_)
        obtain ⟨f_1550, ef_1550⟩ : ∃ g : Nat → Int32, g = upd f_1544 x_1547.toNatClampNeg x_1549 := ⟨_, rfl⟩
        rw [← ef_1550] at hP hD
        obtain ⟨hP, hD⟩ := wl2 (ws' := [(arI rF kF 90 fF), (arI rT kT 1440 f_1550)]) hP hD rfl
        obtain ⟨x_1551, ex_1551⟩ : ∃ z : Int32, z = z_1543 + Int32.ofInt 1 := ⟨_, rfl⟩
        have vx_1551 : x_1551.toInt = z_1543.toInt + 1 := ti_add (y := 1) ex_1551 rfl kc_1 (om_4e4fce7e hi0_n_1545.1) (om_e7f5d8f5 hc0.1 hc1 hi0_n_1545.2)
        refine lv_iinc (v := x_1551) (lv' := [(5, .int x_1551), (0, .ref rF), (1, .int p0), (2, .ref rT), (3, .int p1), (4, .int p2)]) hx hb dX7_copy_22 hl (k := 0) rfl ex_1551.symm (by decide) rfl (fun ls hl => ?_)
        refine lv_goto (tgt := 3) hx hb dX7_copy_25 (by decide) ?_
        exact ih_n_1545 x_1551 f_1550 _ _ _  ⟨(om_83b90de5 hi0_n_1545.1 vx_1551), (om_afcf07ef gc_1546 vx_1551)⟩ (copy_step hi1_n_1545 ef_1550 (by have q1 := ti_cl (x := x_1547) vx_1547 (om_da9595ee hc0.2.1 hi0_n_1545.1); have q2 := ti_cl (x := p1) rfl hc0.2.1; have q3 := ti_cl (x := z_1543) rfl hi0_n_1545.1; omega) (by have q := cx_1549; omega) (by have q1 := ti_cl (x := x_1551) vx_1551 (om_9548a8fd hi0_n_1545.1); have q3 := ti_cl (x := z_1543) rfl hi0_n_1545.1; omega)) (ms_lt hm_n_1545 (om_dd4ae0bc vx_1551) (om_d5382009 gc_1546)) hP hD hS (lv_sub hl [0, 1, 2, 3, 4, 5] rfl)
  exact key_n_1545 (((p2.toInt - (0 : Int32).toInt).toNat) + 1) 0 fT _ _ _  ⟨(om_b1de7dbe kc_0), (om_2dfe280d hc0.2.2 kc_0)⟩ (by first | assumption | omega | decide | exact copy_zero) (Nat.lt_add_one _) hP hD hS hl
set_option maxHeartbeats 4000000 in
set_option maxRecDepth 100000 in
theorem tX7_copy_1440_90 (l : Launch) (dC : Nat → ClassId) (dI : Nat → Nat → Nat) (sz : Nat) (rF : Nat) (fF : Nat → Int32) (kF : ClassId) (rT : Nat) (fT : Nat → Int32) (kT : ClassId) (p0 : Int32) (p1 : Int32) (p2 : Int32)  (hc0 : 0 ≤ p0.toInt ∧ 0 ≤ p1.toInt ∧ 0 ≤ p2.toInt) (hc1 : p0.toInt + p2.toInt ≤ 1440) (hc2 : p1.toInt + p2.toInt ≤ 90) : Met l yX7_copy (Cond.code yX7_copy cX7_copy 6 none :: wG) ({ frames := 0, cells := 0, slots := 0, locals := 0 }) (va_Pc [.ref rF, .int p0, .ref rT, .int p1, .int p2] (Pw dC dI sz [(arI rF kF 1440 fF), (arI rT kT 90 fT)] [(kF, .int), (kT, .int)])) (va_Qv (fun (_ : Nat) => True) (fun (_ : Nat) (t : State) => ∃ (nfT : Nat → Int32), (CopyOk fF fT p0.toNatClampNeg p1.toNatClampNeg p2.toNatClampNeg nfT) ∧ Bw dC dI (va_A [(arI rF kF 1440 fF), (arI rT kT 90 fT)] sz) [(arI rF kF 1440 fF), (arI rT kT 90 nfT)] [(kF, .int), (kT, .int)] t) (va_A [(arI rF kF 1440 fF), (arI rT kT 90 fT)] sz)) 0 0 (va_A [(arI rF kF 1440 fF), (arI rT kT 90 fT)] sz) := by
  refine Met.ofW (cc := cX7_copy) (maxL := 6) (ret := none) pnX7 rfl ?_
  intro p e s m args below meth c s₁ B hml hv
  obtain ⟨rfl, hsz, hP, hK, hD0, hE⟩ := hv
  have hx := B.exec
  have hb := B.bytes
  have hr := B.returns
  have hts : ∀ w ∈ wG, w.before ([.ref rF, .int p0, .ref rT, .int p1, .int p2] : List Value).toArray s = true := fun w h => atoms_spec (ws := Cond.code yX7_copy cX7_copy 6 none :: wG) B.pre w (List.mem_cons_of_mem _ h)
  have hown : s.vm.findClass RX7 = some m.cls := own_of B.named rfl
  have hlocks := B.notSynchronized
  subst hsz
  have hD := hD0.self (sz := s.heap.size)
  generalize hAe : va_A [(arI rF kF 1440 fF), (arI rT kT 90 fT)] s.heap.size = A at hD hE ⊢
  have hA : ∀ q : Nat, s.heap.size ≤ q → A q := fun q h => by rw [← hAe]; exact Or.inr h
  have hS : va_S A s.heap s.heap [] := va_S.rf
  have hl := lv_entry ([.ref rF, .int p0, .ref rT, .int p1, .int p2]) (n := 6) (Nat.le_of_ble_eq_true rfl)
  rw [lg_entry_eq]
  generalize (lg_sl ([.ref rF, .int p0, .ref rT, .int p1, .int p2]) ++ List.replicate (6 - (lg_sl ([.ref rF, .int p0, .ref rT, .int p1, .int p2])).length) Slot.unset).toArray = ls at hl ⊢
  have hl : lv_has ls 6 [(0, .ref rF), (1, .int p0), (2, .ref rT), (3, .int p1), (4, .int p2)] := hl
  refine lv_iconst (v := 0) hx hb dX7_copy_0 (by decide) ?_
  refine lv_istore (lv' := [(5, .int 0), (0, .ref rF), (1, .int p0), (2, .ref rT), (3, .int p1), (4, .int p2)]) hx hb dX7_copy_1 hl (by decide) rfl (fun ls hl => ?_)
  have hl := lv_sub hl (l' := [(5, .int 0), (0, .ref rF), (1, .int p0), (2, .ref rT), (3, .int p1), (4, .int p2)]) [0, 1, 2, 3, 4, 5] rfl
  have key_n_1563 : ∀ (n_1563 : Nat) (z_1561 : Int32) (f_1562 : Nat → Int32) (H : Heap) (locs : List Loc) (ls : Array Slot), (0 ≤ z_1561.toInt ∧ z_1561.toInt ≤ p2.toInt) → (CopyOk fF fT p0.toNatClampNeg p1.toNatClampNeg z_1561.toNatClampNeg f_1562) → (p2.toInt - z_1561.toInt).toNat < n_1563 → va_P (dC, dI) vwCl [(arI rF kF 1440 fF), (arI rT kT 90 f_1562)] H → va_D A [(arI rF kF 1440 fF), (arI rT kT 90 f_1562)] → va_S A s.heap H locs → lv_has ls 6 [(5, .int z_1561), (0, .ref rF), (1, .int p0), (2, .ref rT), (3, .int p1), (4, .int p2)] → W p l e (headSpec (Cond.code yX7_copy cX7_copy 6 none :: wG) ({ frames := 0, cells := 0, slots := 0, locals := 0 })).room s m ([.ref rF, .int p0, .ref rT, .int p1, .int p2] : List Value).toArray below meth c H locs 0 0 (MQ below (va_Qv (fun (_ : Nat) => True) (fun (_ : Nat) (t : State) => ∃ (nfT : Nat → Int32), (CopyOk fF fT p0.toNatClampNeg p1.toNatClampNeg p2.toNatClampNeg nfT) ∧ Bw dC dI A [(arI rF kF 1440 fF), (arI rT kT 90 nfT)] [(kF, .int), (kT, .int)] t) A) ([.ref rF, .int p0, .ref rT, .int p1, .int p2] : List Value).toArray s 0 0 A) (F0 m 3 ls []) := by
    intro n_1563
    induction n_1563 with
    | zero => intro z_1561 f_1562 H locs ls hi0_n_1563 hi1_n_1563 hm; exact absurd hm (Nat.not_lt_zero _)
    | succ n_1563 ih_n_1563 =>
      intro z_1561 f_1562 H locs ls hi0_n_1563 hi1_n_1563 hm_n_1563 hP hD hS hl
      refine lv_iload hx hb dX7_copy_3 (lv_at hl 0 rfl) ?_
      refine lv_iload hx hb dX7_copy_5 (lv_at hl 5 rfl) ?_
      refine lv_icmp_ge (tgt := 28) hx hb dX7_copy_7 (by decide) (fun c_1564 => ?_) (fun c_1564 => ?_)
      · skip
        have gc_1564 := ti_le c_1564 rfl rfl
        exact wq_v hx hb hr 0 trivial (fun t ht hW => ⟨f_1562, (by rw [show p2.toNatClampNeg = z_1561.toNatClampNeg from by have q1 := ti_cl (x := z_1561) rfl (by omega); have q2 := ti_cl (x := p2) rfl (by omega); omega]; assumption), Bw.to hP hD hK ht hW⟩) hS dX7_copy_28 hlocks
      · skip
        have gc_1564 := ti_nle c_1564 rfl rfl
        refine lv_aload_n hx hb dX7_copy_10 rfl (lv_at hl 3 rfl) ?_
        refine lv_iload_n hx hb dX7_copy_11 rfl (lv_at hl 4 rfl) ?_
        refine lv_iload hx hb dX7_copy_12 (lv_at hl 0 rfl) ?_
        refine lv_iadd hx hb dX7_copy_14 ?_
        refine lv_topi (fun x_1565 ex_1565 => ?_)
        have vx_1565 : x_1565.toInt = p1.toInt + z_1561.toInt := ti_add ex_1565 rfl rfl (om_0d98f29e hc0.2.1 hi0_n_1563.1) (om_8bd45658 hc2 hi0_n_1563.2)
        refine lv_aload_n hx hb dX7_copy_15 rfl (lv_at hl 1 rfl) ?_
        refine lv_iload_n hx hb dX7_copy_16 rfl (lv_at hl 2 rfl) ?_
        refine lv_iload hx hb dX7_copy_17 (lv_at hl 0 rfl) ?_
        refine lv_iadd hx hb dX7_copy_19 ?_
        refine lv_topi (fun x_1566 ex_1566 => ?_)
        have vx_1566 : x_1566.toInt = p0.toInt + z_1561.toInt := ti_add ex_1566 rfl rfl (om_0d98f29e hc0.1 hi0_n_1563.1) (om_b649409c hc1 hi0_n_1563.2)
        refine va_iald hx hb hK hP 0 0 rfl rfl (ti_in vx_1566 (om_da9595ee hc0.1 hi0_n_1563.1) (om_e1605147 hc1 gc_1564)) dX7_copy_20 ?_
        refine lv_topi (fun x_1567 ex_1567 => ?_)
        have kx_1567 : (fF x_1566.toNatClampNeg).toInt = x_1567.toInt := by rw [ex_1567]
        have cx_1567 : (fF (p0.toNatClampNeg + z_1561.toNatClampNeg)).toInt = x_1567.toInt := by rw [show p0.toNatClampNeg + z_1561.toNatClampNeg = x_1566.toNatClampNeg from (om_08ccee3a (ti_cl (x := p0) rfl hc0.1) (ti_cl (x := z_1561) rfl hi0_n_1563.1) (ti_cl (x := x_1566) vx_1566 (om_da9595ee hc0.1 hi0_n_1563.1)))]; exact kx_1567
        refine va_iast hx hb hK hP hD hS 1 1 rfl rfl (ti_in vx_1565 (om_da9595ee hc0.2.1 hi0_n_1563.1) (om_ad124daf hc2 gc_1564)) dX7_copy_21 (fun H locs hP hD hS => ?_)
        obtain ⟨f_1568, ef_1568⟩ : ∃ g : Nat → Int32, g = upd f_1562 x_1565.toNatClampNeg x_1567 := ⟨_, rfl⟩
        rw [← ef_1568] at hP hD
        obtain ⟨hP, hD⟩ := wl2 (ws' := [(arI rF kF 1440 fF), (arI rT kT 90 f_1568)]) hP hD rfl
        obtain ⟨x_1569, ex_1569⟩ : ∃ z : Int32, z = z_1561 + Int32.ofInt 1 := ⟨_, rfl⟩
        have vx_1569 : x_1569.toInt = z_1561.toInt + 1 := ti_add (y := 1) ex_1569 rfl kc_1 (om_4e4fce7e hi0_n_1563.1) (om_7b558ed0 hc0.1 hc1 hi0_n_1563.2)
        refine lv_iinc (v := x_1569) (lv' := [(5, .int x_1569), (0, .ref rF), (1, .int p0), (2, .ref rT), (3, .int p1), (4, .int p2)]) hx hb dX7_copy_22 hl (k := 0) rfl ex_1569.symm (by decide) rfl (fun ls hl => ?_)
        refine lv_goto (tgt := 3) hx hb dX7_copy_25 (by decide) ?_
        exact ih_n_1563 x_1569 f_1568 _ _ _  ⟨(om_83b90de5 hi0_n_1563.1 vx_1569), (om_afcf07ef gc_1564 vx_1569)⟩ (copy_step hi1_n_1563 ef_1568 (by have q1 := ti_cl (x := x_1565) vx_1565 (om_da9595ee hc0.2.1 hi0_n_1563.1); have q2 := ti_cl (x := p1) rfl hc0.2.1; have q3 := ti_cl (x := z_1561) rfl hi0_n_1563.1; omega) (by have q := cx_1567; omega) (by have q1 := ti_cl (x := x_1569) vx_1569 (om_9548a8fd hi0_n_1563.1); have q3 := ti_cl (x := z_1561) rfl hi0_n_1563.1; omega)) (ms_lt hm_n_1563 (om_dd4ae0bc vx_1569) (om_d5382009 gc_1564)) hP hD hS (lv_sub hl [0, 1, 2, 3, 4, 5] rfl)
  exact key_n_1563 (((p2.toInt - (0 : Int32).toInt).toNat) + 1) 0 fT _ _ _  ⟨(om_b1de7dbe kc_0), (om_2dfe280d hc0.2.2 kc_0)⟩ (by first | assumption | omega | decide | exact copy_zero) (Nat.lt_add_one _) hP hD hS hl
set_option maxHeartbeats 4000000 in
set_option maxRecDepth 100000 in
theorem tX7_copy_90_270 (l : Launch) (dC : Nat → ClassId) (dI : Nat → Nat → Nat) (sz : Nat) (rF : Nat) (fF : Nat → Int32) (kF : ClassId) (rT : Nat) (fT : Nat → Int32) (kT : ClassId) (p0 : Int32) (p1 : Int32) (p2 : Int32)  (hc0 : 0 ≤ p0.toInt ∧ 0 ≤ p1.toInt ∧ 0 ≤ p2.toInt) (hc1 : p0.toInt + p2.toInt ≤ 90) (hc2 : p1.toInt + p2.toInt ≤ 270) : Met l yX7_copy (Cond.code yX7_copy cX7_copy 6 none :: wG) ({ frames := 0, cells := 0, slots := 0, locals := 0 }) (va_Pc [.ref rF, .int p0, .ref rT, .int p1, .int p2] (Pw dC dI sz [(arI rF kF 90 fF), (arI rT kT 270 fT)] [(kF, .int), (kT, .int)])) (va_Qv (fun (_ : Nat) => True) (fun (_ : Nat) (t : State) => ∃ (nfT : Nat → Int32), (CopyOk fF fT p0.toNatClampNeg p1.toNatClampNeg p2.toNatClampNeg nfT) ∧ Bw dC dI (va_A [(arI rF kF 90 fF), (arI rT kT 270 fT)] sz) [(arI rF kF 90 fF), (arI rT kT 270 nfT)] [(kF, .int), (kT, .int)] t) (va_A [(arI rF kF 90 fF), (arI rT kT 270 fT)] sz)) 0 0 (va_A [(arI rF kF 90 fF), (arI rT kT 270 fT)] sz) := by
  refine Met.ofW (cc := cX7_copy) (maxL := 6) (ret := none) pnX7 rfl ?_
  intro p e s m args below meth c s₁ B hml hv
  obtain ⟨rfl, hsz, hP, hK, hD0, hE⟩ := hv
  have hx := B.exec
  have hb := B.bytes
  have hr := B.returns
  have hts : ∀ w ∈ wG, w.before ([.ref rF, .int p0, .ref rT, .int p1, .int p2] : List Value).toArray s = true := fun w h => atoms_spec (ws := Cond.code yX7_copy cX7_copy 6 none :: wG) B.pre w (List.mem_cons_of_mem _ h)
  have hown : s.vm.findClass RX7 = some m.cls := own_of B.named rfl
  have hlocks := B.notSynchronized
  subst hsz
  have hD := hD0.self (sz := s.heap.size)
  generalize hAe : va_A [(arI rF kF 90 fF), (arI rT kT 270 fT)] s.heap.size = A at hD hE ⊢
  have hA : ∀ q : Nat, s.heap.size ≤ q → A q := fun q h => by rw [← hAe]; exact Or.inr h
  have hS : va_S A s.heap s.heap [] := va_S.rf
  have hl := lv_entry ([.ref rF, .int p0, .ref rT, .int p1, .int p2]) (n := 6) (Nat.le_of_ble_eq_true rfl)
  rw [lg_entry_eq]
  generalize (lg_sl ([.ref rF, .int p0, .ref rT, .int p1, .int p2]) ++ List.replicate (6 - (lg_sl ([.ref rF, .int p0, .ref rT, .int p1, .int p2])).length) Slot.unset).toArray = ls at hl ⊢
  have hl : lv_has ls 6 [(0, .ref rF), (1, .int p0), (2, .ref rT), (3, .int p1), (4, .int p2)] := hl
  refine lv_iconst (v := 0) hx hb dX7_copy_0 (by decide) ?_
  refine lv_istore (lv' := [(5, .int 0), (0, .ref rF), (1, .int p0), (2, .ref rT), (3, .int p1), (4, .int p2)]) hx hb dX7_copy_1 hl (by decide) rfl (fun ls hl => ?_)
  have hl := lv_sub hl (l' := [(5, .int 0), (0, .ref rF), (1, .int p0), (2, .ref rT), (3, .int p1), (4, .int p2)]) [0, 1, 2, 3, 4, 5] rfl
  have key_n_1581 : ∀ (n_1581 : Nat) (z_1579 : Int32) (f_1580 : Nat → Int32) (H : Heap) (locs : List Loc) (ls : Array Slot), (0 ≤ z_1579.toInt ∧ z_1579.toInt ≤ p2.toInt) → (CopyOk fF fT p0.toNatClampNeg p1.toNatClampNeg z_1579.toNatClampNeg f_1580) → (p2.toInt - z_1579.toInt).toNat < n_1581 → va_P (dC, dI) vwCl [(arI rF kF 90 fF), (arI rT kT 270 f_1580)] H → va_D A [(arI rF kF 90 fF), (arI rT kT 270 f_1580)] → va_S A s.heap H locs → lv_has ls 6 [(5, .int z_1579), (0, .ref rF), (1, .int p0), (2, .ref rT), (3, .int p1), (4, .int p2)] → W p l e (headSpec (Cond.code yX7_copy cX7_copy 6 none :: wG) ({ frames := 0, cells := 0, slots := 0, locals := 0 })).room s m ([.ref rF, .int p0, .ref rT, .int p1, .int p2] : List Value).toArray below meth c H locs 0 0 (MQ below (va_Qv (fun (_ : Nat) => True) (fun (_ : Nat) (t : State) => ∃ (nfT : Nat → Int32), (CopyOk fF fT p0.toNatClampNeg p1.toNatClampNeg p2.toNatClampNeg nfT) ∧ Bw dC dI A [(arI rF kF 90 fF), (arI rT kT 270 nfT)] [(kF, .int), (kT, .int)] t) A) ([.ref rF, .int p0, .ref rT, .int p1, .int p2] : List Value).toArray s 0 0 A) (F0 m 3 ls []) := by
    intro n_1581
    induction n_1581 with
    | zero => intro z_1579 f_1580 H locs ls hi0_n_1581 hi1_n_1581 hm; exact absurd hm (Nat.not_lt_zero _)
    | succ n_1581 ih_n_1581 =>
      intro z_1579 f_1580 H locs ls hi0_n_1581 hi1_n_1581 hm_n_1581 hP hD hS hl
      refine lv_iload hx hb dX7_copy_3 (lv_at hl 0 rfl) ?_
      refine lv_iload hx hb dX7_copy_5 (lv_at hl 5 rfl) ?_
      refine lv_icmp_ge (tgt := 28) hx hb dX7_copy_7 (by decide) (fun c_1582 => ?_) (fun c_1582 => ?_)
      · skip
        have gc_1582 := ti_le c_1582 rfl rfl
        exact wq_v hx hb hr 0 trivial (fun t ht hW => ⟨f_1580, (by rw [show p2.toNatClampNeg = z_1579.toNatClampNeg from by have q1 := ti_cl (x := z_1579) rfl (by omega); have q2 := ti_cl (x := p2) rfl (by omega); omega]; assumption), Bw.to hP hD hK ht hW⟩) hS dX7_copy_28 hlocks
      · skip
        have gc_1582 := ti_nle c_1582 rfl rfl
        refine lv_aload_n hx hb dX7_copy_10 rfl (lv_at hl 3 rfl) ?_
        refine lv_iload_n hx hb dX7_copy_11 rfl (lv_at hl 4 rfl) ?_
        refine lv_iload hx hb dX7_copy_12 (lv_at hl 0 rfl) ?_
        refine lv_iadd hx hb dX7_copy_14 ?_
        refine lv_topi (fun x_1583 ex_1583 => ?_)
        have vx_1583 : x_1583.toInt = p1.toInt + z_1579.toInt := ti_add ex_1583 rfl rfl (om_0d98f29e hc0.2.1 hi0_n_1581.1) (om_29a9bce9 hc2 hi0_n_1581.2)
        refine lv_aload_n hx hb dX7_copy_15 rfl (lv_at hl 1 rfl) ?_
        refine lv_iload_n hx hb dX7_copy_16 rfl (lv_at hl 2 rfl) ?_
        refine lv_iload hx hb dX7_copy_17 (lv_at hl 0 rfl) ?_
        refine lv_iadd hx hb dX7_copy_19 ?_
        refine lv_topi (fun x_1584 ex_1584 => ?_)
        have vx_1584 : x_1584.toInt = p0.toInt + z_1579.toInt := ti_add ex_1584 rfl rfl (om_0d98f29e hc0.1 hi0_n_1581.1) (om_8bd45658 hc1 hi0_n_1581.2)
        refine va_iald hx hb hK hP 0 0 rfl rfl (ti_in vx_1584 (om_da9595ee hc0.1 hi0_n_1581.1) (om_ad124daf hc1 gc_1582)) dX7_copy_20 ?_
        refine lv_topi (fun x_1585 ex_1585 => ?_)
        have kx_1585 : (fF x_1584.toNatClampNeg).toInt = x_1585.toInt := by rw [ex_1585]
        have cx_1585 : (fF (p0.toNatClampNeg + z_1579.toNatClampNeg)).toInt = x_1585.toInt := by rw [show p0.toNatClampNeg + z_1579.toNatClampNeg = x_1584.toNatClampNeg from (om_08ccee3a (ti_cl (x := p0) rfl hc0.1) (ti_cl (x := z_1579) rfl hi0_n_1581.1) (ti_cl (x := x_1584) vx_1584 (om_da9595ee hc0.1 hi0_n_1581.1)))]; exact kx_1585
        refine va_iast hx hb hK hP hD hS 1 1 rfl rfl (ti_in vx_1583 (om_da9595ee hc0.2.1 hi0_n_1581.1) (om_08b9ba93 hc2 gc_1582)) dX7_copy_21 (fun H locs hP hD hS => ?_)
        obtain ⟨f_1586, ef_1586⟩ : ∃ g : Nat → Int32, g = upd f_1580 x_1583.toNatClampNeg x_1585 := ⟨_, rfl⟩
        rw [← ef_1586] at hP hD
        obtain ⟨hP, hD⟩ := wl2 (ws' := [(arI rF kF 90 fF), (arI rT kT 270 f_1586)]) hP hD rfl
        obtain ⟨x_1587, ex_1587⟩ : ∃ z : Int32, z = z_1579 + Int32.ofInt 1 := ⟨_, rfl⟩
        have vx_1587 : x_1587.toInt = z_1579.toInt + 1 := ti_add (y := 1) ex_1587 rfl kc_1 (om_4e4fce7e hi0_n_1581.1) (om_e7f5d8f5 hc0.1 hc1 hi0_n_1581.2)
        refine lv_iinc (v := x_1587) (lv' := [(5, .int x_1587), (0, .ref rF), (1, .int p0), (2, .ref rT), (3, .int p1), (4, .int p2)]) hx hb dX7_copy_22 hl (k := 0) rfl ex_1587.symm (by decide) rfl (fun ls hl => ?_)
        refine lv_goto (tgt := 3) hx hb dX7_copy_25 (by decide) ?_
        exact ih_n_1581 x_1587 f_1586 _ _ _  ⟨(om_83b90de5 hi0_n_1581.1 vx_1587), (om_afcf07ef gc_1582 vx_1587)⟩ (copy_step hi1_n_1581 ef_1586 (by have q1 := ti_cl (x := x_1583) vx_1583 (om_da9595ee hc0.2.1 hi0_n_1581.1); have q2 := ti_cl (x := p1) rfl hc0.2.1; have q3 := ti_cl (x := z_1579) rfl hi0_n_1581.1; omega) (by have q := cx_1585; omega) (by have q1 := ti_cl (x := x_1587) vx_1587 (om_9548a8fd hi0_n_1581.1); have q3 := ti_cl (x := z_1579) rfl hi0_n_1581.1; omega)) (ms_lt hm_n_1581 (om_dd4ae0bc vx_1587) (om_d5382009 gc_1582)) hP hD hS (lv_sub hl [0, 1, 2, 3, 4, 5] rfl)
  exact key_n_1581 (((p2.toInt - (0 : Int32).toInt).toNat) + 1) 0 fT _ _ _  ⟨(om_b1de7dbe kc_0), (om_2dfe280d hc0.2.2 kc_0)⟩ (by first | assumption | omega | decide | exact copy_zero) (Nat.lt_add_one _) hP hD hS hl
set_option maxHeartbeats 4000000 in
set_option maxRecDepth 100000 in
theorem tX7_copy_270_90 (l : Launch) (dC : Nat → ClassId) (dI : Nat → Nat → Nat) (sz : Nat) (rF : Nat) (fF : Nat → Int32) (kF : ClassId) (rT : Nat) (fT : Nat → Int32) (kT : ClassId) (p0 : Int32) (p1 : Int32) (p2 : Int32)  (hc0 : 0 ≤ p0.toInt ∧ 0 ≤ p1.toInt ∧ 0 ≤ p2.toInt) (hc1 : p0.toInt + p2.toInt ≤ 270) (hc2 : p1.toInt + p2.toInt ≤ 90) : Met l yX7_copy (Cond.code yX7_copy cX7_copy 6 none :: wG) ({ frames := 0, cells := 0, slots := 0, locals := 0 }) (va_Pc [.ref rF, .int p0, .ref rT, .int p1, .int p2] (Pw dC dI sz [(arI rF kF 270 fF), (arI rT kT 90 fT)] [(kF, .int), (kT, .int)])) (va_Qv (fun (_ : Nat) => True) (fun (_ : Nat) (t : State) => ∃ (nfT : Nat → Int32), (CopyOk fF fT p0.toNatClampNeg p1.toNatClampNeg p2.toNatClampNeg nfT) ∧ Bw dC dI (va_A [(arI rF kF 270 fF), (arI rT kT 90 fT)] sz) [(arI rF kF 270 fF), (arI rT kT 90 nfT)] [(kF, .int), (kT, .int)] t) (va_A [(arI rF kF 270 fF), (arI rT kT 90 fT)] sz)) 0 0 (va_A [(arI rF kF 270 fF), (arI rT kT 90 fT)] sz) := by
  refine Met.ofW (cc := cX7_copy) (maxL := 6) (ret := none) pnX7 rfl ?_
  intro p e s m args below meth c s₁ B hml hv
  obtain ⟨rfl, hsz, hP, hK, hD0, hE⟩ := hv
  have hx := B.exec
  have hb := B.bytes
  have hr := B.returns
  have hts : ∀ w ∈ wG, w.before ([.ref rF, .int p0, .ref rT, .int p1, .int p2] : List Value).toArray s = true := fun w h => atoms_spec (ws := Cond.code yX7_copy cX7_copy 6 none :: wG) B.pre w (List.mem_cons_of_mem _ h)
  have hown : s.vm.findClass RX7 = some m.cls := own_of B.named rfl
  have hlocks := B.notSynchronized
  subst hsz
  have hD := hD0.self (sz := s.heap.size)
  generalize hAe : va_A [(arI rF kF 270 fF), (arI rT kT 90 fT)] s.heap.size = A at hD hE ⊢
  have hA : ∀ q : Nat, s.heap.size ≤ q → A q := fun q h => by rw [← hAe]; exact Or.inr h
  have hS : va_S A s.heap s.heap [] := va_S.rf
  have hl := lv_entry ([.ref rF, .int p0, .ref rT, .int p1, .int p2]) (n := 6) (Nat.le_of_ble_eq_true rfl)
  rw [lg_entry_eq]
  generalize (lg_sl ([.ref rF, .int p0, .ref rT, .int p1, .int p2]) ++ List.replicate (6 - (lg_sl ([.ref rF, .int p0, .ref rT, .int p1, .int p2])).length) Slot.unset).toArray = ls at hl ⊢
  have hl : lv_has ls 6 [(0, .ref rF), (1, .int p0), (2, .ref rT), (3, .int p1), (4, .int p2)] := hl
  refine lv_iconst (v := 0) hx hb dX7_copy_0 (by decide) ?_
  refine lv_istore (lv' := [(5, .int 0), (0, .ref rF), (1, .int p0), (2, .ref rT), (3, .int p1), (4, .int p2)]) hx hb dX7_copy_1 hl (by decide) rfl (fun ls hl => ?_)
  have hl := lv_sub hl (l' := [(5, .int 0), (0, .ref rF), (1, .int p0), (2, .ref rT), (3, .int p1), (4, .int p2)]) [0, 1, 2, 3, 4, 5] rfl
  have key_n_1599 : ∀ (n_1599 : Nat) (z_1597 : Int32) (f_1598 : Nat → Int32) (H : Heap) (locs : List Loc) (ls : Array Slot), (0 ≤ z_1597.toInt ∧ z_1597.toInt ≤ p2.toInt) → (CopyOk fF fT p0.toNatClampNeg p1.toNatClampNeg z_1597.toNatClampNeg f_1598) → (p2.toInt - z_1597.toInt).toNat < n_1599 → va_P (dC, dI) vwCl [(arI rF kF 270 fF), (arI rT kT 90 f_1598)] H → va_D A [(arI rF kF 270 fF), (arI rT kT 90 f_1598)] → va_S A s.heap H locs → lv_has ls 6 [(5, .int z_1597), (0, .ref rF), (1, .int p0), (2, .ref rT), (3, .int p1), (4, .int p2)] → W p l e (headSpec (Cond.code yX7_copy cX7_copy 6 none :: wG) ({ frames := 0, cells := 0, slots := 0, locals := 0 })).room s m ([.ref rF, .int p0, .ref rT, .int p1, .int p2] : List Value).toArray below meth c H locs 0 0 (MQ below (va_Qv (fun (_ : Nat) => True) (fun (_ : Nat) (t : State) => ∃ (nfT : Nat → Int32), (CopyOk fF fT p0.toNatClampNeg p1.toNatClampNeg p2.toNatClampNeg nfT) ∧ Bw dC dI A [(arI rF kF 270 fF), (arI rT kT 90 nfT)] [(kF, .int), (kT, .int)] t) A) ([.ref rF, .int p0, .ref rT, .int p1, .int p2] : List Value).toArray s 0 0 A) (F0 m 3 ls []) := by
    intro n_1599
    induction n_1599 with
    | zero => intro z_1597 f_1598 H locs ls hi0_n_1599 hi1_n_1599 hm; exact absurd hm (Nat.not_lt_zero _)
    | succ n_1599 ih_n_1599 =>
      intro z_1597 f_1598 H locs ls hi0_n_1599 hi1_n_1599 hm_n_1599 hP hD hS hl
      refine lv_iload hx hb dX7_copy_3 (lv_at hl 0 rfl) ?_
      refine lv_iload hx hb dX7_copy_5 (lv_at hl 5 rfl) ?_
      refine lv_icmp_ge (tgt := 28) hx hb dX7_copy_7 (by decide) (fun c_1600 => ?_) (fun c_1600 => ?_)
      · skip
        have gc_1600 := ti_le c_1600 rfl rfl
        exact wq_v hx hb hr 0 trivial (fun t ht hW => ⟨f_1598, (by rw [show p2.toNatClampNeg = z_1597.toNatClampNeg from by have q1 := ti_cl (x := z_1597) rfl (by omega); have q2 := ti_cl (x := p2) rfl (by omega); omega]; assumption), Bw.to hP hD hK ht hW⟩) hS dX7_copy_28 hlocks
      · skip
        have gc_1600 := ti_nle c_1600 rfl rfl
        refine lv_aload_n hx hb dX7_copy_10 rfl (lv_at hl 3 rfl) ?_
        refine lv_iload_n hx hb dX7_copy_11 rfl (lv_at hl 4 rfl) ?_
        refine lv_iload hx hb dX7_copy_12 (lv_at hl 0 rfl) ?_
        refine lv_iadd hx hb dX7_copy_14 ?_
        refine lv_topi (fun x_1601 ex_1601 => ?_)
        have vx_1601 : x_1601.toInt = p1.toInt + z_1597.toInt := ti_add ex_1601 rfl rfl (om_0d98f29e hc0.2.1 hi0_n_1599.1) (om_8bd45658 hc2 hi0_n_1599.2)
        refine lv_aload_n hx hb dX7_copy_15 rfl (lv_at hl 1 rfl) ?_
        refine lv_iload_n hx hb dX7_copy_16 rfl (lv_at hl 2 rfl) ?_
        refine lv_iload hx hb dX7_copy_17 (lv_at hl 0 rfl) ?_
        refine lv_iadd hx hb dX7_copy_19 ?_
        refine lv_topi (fun x_1602 ex_1602 => ?_)
        have vx_1602 : x_1602.toInt = p0.toInt + z_1597.toInt := ti_add ex_1602 rfl rfl (om_0d98f29e hc0.1 hi0_n_1599.1) (om_29a9bce9 hc1 hi0_n_1599.2)
        refine va_iald hx hb hK hP 0 0 rfl rfl (ti_in vx_1602 (om_da9595ee hc0.1 hi0_n_1599.1) (om_08b9ba93 hc1 gc_1600)) dX7_copy_20 ?_
        refine lv_topi (fun x_1603 ex_1603 => ?_)
        have kx_1603 : (fF x_1602.toNatClampNeg).toInt = x_1603.toInt := by rw [ex_1603]
        have cx_1603 : (fF (p0.toNatClampNeg + z_1597.toNatClampNeg)).toInt = x_1603.toInt := by rw [show p0.toNatClampNeg + z_1597.toNatClampNeg = x_1602.toNatClampNeg from (om_08ccee3a (ti_cl (x := p0) rfl hc0.1) (ti_cl (x := z_1597) rfl hi0_n_1599.1) (ti_cl (x := x_1602) vx_1602 (om_da9595ee hc0.1 hi0_n_1599.1)))]; exact kx_1603
        refine va_iast hx hb hK hP hD hS 1 1 rfl rfl (ti_in vx_1601 (om_da9595ee hc0.2.1 hi0_n_1599.1) (om_ad124daf hc2 gc_1600)) dX7_copy_21 (fun H locs hP hD hS => ?_)
        obtain ⟨f_1604, ef_1604⟩ : ∃ g : Nat → Int32, g = upd f_1598 x_1601.toNatClampNeg x_1603 := ⟨_, rfl⟩
        rw [← ef_1604] at hP hD
        obtain ⟨hP, hD⟩ := wl2 (ws' := [(arI rF kF 270 fF), (arI rT kT 90 f_1604)]) hP hD rfl
        obtain ⟨x_1605, ex_1605⟩ : ∃ z : Int32, z = z_1597 + Int32.ofInt 1 := ⟨_, rfl⟩
        have vx_1605 : x_1605.toInt = z_1597.toInt + 1 := ti_add (y := 1) ex_1605 rfl kc_1 (om_4e4fce7e hi0_n_1599.1) (om_acdbfea5 hc0.1 hc1 hi0_n_1599.2)
        refine lv_iinc (v := x_1605) (lv' := [(5, .int x_1605), (0, .ref rF), (1, .int p0), (2, .ref rT), (3, .int p1), (4, .int p2)]) hx hb dX7_copy_22 hl (k := 0) rfl ex_1605.symm (by decide) rfl (fun ls hl => ?_)
        refine lv_goto (tgt := 3) hx hb dX7_copy_25 (by decide) ?_
        exact ih_n_1599 x_1605 f_1604 _ _ _  ⟨(om_83b90de5 hi0_n_1599.1 vx_1605), (om_afcf07ef gc_1600 vx_1605)⟩ (copy_step hi1_n_1599 ef_1604 (by have q1 := ti_cl (x := x_1601) vx_1601 (om_da9595ee hc0.2.1 hi0_n_1599.1); have q2 := ti_cl (x := p1) rfl hc0.2.1; have q3 := ti_cl (x := z_1597) rfl hi0_n_1599.1; omega) (by have q := cx_1603; omega) (by have q1 := ti_cl (x := x_1605) vx_1605 (om_9548a8fd hi0_n_1599.1); have q3 := ti_cl (x := z_1597) rfl hi0_n_1599.1; omega)) (ms_lt hm_n_1599 (om_dd4ae0bc vx_1605) (om_d5382009 gc_1600)) hP hD hS (lv_sub hl [0, 1, 2, 3, 4, 5] rfl)
  exact key_n_1599 (((p2.toInt - (0 : Int32).toInt).toNat) + 1) 0 fT _ _ _  ⟨(om_b1de7dbe kc_0), (om_2dfe280d hc0.2.2 kc_0)⟩ (by first | assumption | omega | decide | exact copy_zero) (Nat.lt_add_one _) hP hD hS hl
