set_option maxHeartbeats 4000000 in
set_option maxRecDepth 100000 in
theorem tX7_copy_90_90 (l : Launch) (dC : Nat → ClassId) (dI : Nat → Nat → Nat) (sz : Nat) (rF : Nat) (fF : Nat → Int32) (kF : ClassId) (rT : Nat) (fT : Nat → Int32) (kT : ClassId) (p0 : Int32) (p1 : Int32) (p2 : Int32)  (hc0 : 0 ≤ p0.toInt ∧ 0 ≤ p1.toInt ∧ 0 ≤ p2.toInt) (hc1 : p0.toInt + p2.toInt ≤ 90) (hc2 : p1.toInt + p2.toInt ≤ 90) : Met l yX7_copy (Cond.code yX7_copy cX7_copy 6 none :: wG) ({ frames := 0, cells := 0, slots := 0, locals := 0 }) (va_Pc [.ref rF, .int p0, .ref rT, .int p1, .int p2] (Pw dC dI sz [(arI rF kF 90 fF), (arI rT kT 90 fT)] [(kF, .int), (kT, .int)])) (va_Qv (fun (_ : Nat) => True) (fun (_ : Nat) (t : State) => ∃ (nfT : Nat → Int32), (CopyOk fF fT p0.toNatClampNeg p1.toNatClampNeg p2.toNatClampNeg nfT) ∧ Bw dC dI (va_A [(arI rF kF 90 fF), (arI rT kT 90 fT)] sz) [(arI rF kF 90 fF), (arI rT kT 90 nfT)] [(kF, .int), (kT, .int)] t) (va_A [(arI rF kF 90 fF), (arI rT kT 90 fT)] sz)) 0 0 (va_A [(arI rF kF 90 fF), (arI rT kT 90 fT)] sz) := by
  refine Met.ofW (cc := cX7_copy) (maxL := 6) (ret := none) pnX7 rfl ?_
  intro p e s m args below meth c s₁ B hml hv
  obtain ⟨rfl, hsz, hP, hK, hD0, hE⟩ := hv
  have hx := B.exec
  have hb := B.bytes
  have hr := B.returns
  have hts : ∀ w ∈ wG, w.before ([.ref rF, .int p0, .ref rT, .int p1, .int p2] : List Value).toArray s = true := fun w h => atoms_spec (ws := Cond.code yX7_copy cX7_copy 6 none :: wG) B.pre w (List.mem_cons_of_mem _ h)
  have hown : s.vm.findClass RX7 = some m.cls := own_of B.named rfl
  have hlocks := B.notSynchronized
  subst hsz
  have hD := hD0.self (sz := s.heap.size)
  generalize hAe : va_A [(arI rF kF 90 fF), (arI rT kT 90 fT)] s.heap.size = A at hD hE ⊢
  have hA : ∀ q : Nat, s.heap.size ≤ q → A q := fun q h => by rw [← hAe]; exact Or.inr h
  have hS : va_S A s.heap s.heap [] := va_S.rf
  have hl := lv_entry ([.ref rF, .int p0, .ref rT, .int p1, .int p2]) (n := 6) (Nat.le_of_ble_eq_true rfl)
  rw [lg_entry_eq]
  generalize (lg_sl ([.ref rF, .int p0, .ref rT, .int p1, .int p2]) ++ List.replicate (6 - (lg_sl ([.ref rF, .int p0, .ref rT, .int p1, .int p2])).length) Slot.unset).toArray = ls at hl ⊢
  have hl : lv_has ls 6 [(0, .ref rF), (1, .int p0), (2, .ref rT), (3, .int p1), (4, .int p2)] := hl
  refine lv_iconst (v := 0) hx hb dX7_copy_0 (by decide) ?_
  refine lv_istore (lv' := [(5, .int 0), (0, .ref rF), (1, .int p0), (2, .ref rT), (3, .int p1), (4, .int p2)]) hx hb dX7_copy_1 hl (by decide) rfl (fun ls hl => ?_)
  have hl := lv_sub hl (l' := [(5, .int 0), (0, .ref rF), (1, .int p0), (2, .ref rT), (3, .int p1), (4, .int p2)]) [0, 1, 2, 3, 4, 5] rfl
  have key_n_1474 : ∀ (n_1474 : Nat) (z_1472 : Int32) (f_1473 : Nat → Int32) (H : Heap) (locs : List Loc) (ls : Array Slot), (0 ≤ z_1472.toInt ∧ z_1472.toInt ≤ p2.toInt) → (CopyOk fF fT p0.toNatClampNeg p1.toNatClampNeg z_1472.toNatClampNeg f_1473) → (p2.toInt - z_1472.toInt).toNat < n_1474 → va_P (dC, dI) vwCl [(arI rF kF 90 fF), (arI rT kT 90 f_1473)] H → va_D A [(arI rF kF 90 fF), (arI rT kT 90 f_1473)] → va_S A s.heap H locs → lv_has ls 6 [(5, .int z_1472), (0, .ref rF), (1, .int p0), (2, .ref rT), (3, .int p1), (4, .int p2)] → W p l e (headSpec (Cond.code yX7_copy cX7_copy 6 none :: wG) ({ frames := 0, cells := 0, slots := 0, locals := 0 })).room s m ([.ref rF, .int p0, .ref rT, .int p1, .int p2] : List Value).toArray below meth c H locs 0 0 (MQ below (va_Qv (fun (_ : Nat) => True) (fun (_ : Nat) (t : State) => ∃ (nfT : Nat → Int32), (CopyOk fF fT p0.toNatClampNeg p1.toNatClampNeg p2.toNatClampNeg nfT) ∧ Bw dC dI A [(arI rF kF 90 fF), (arI rT kT 90 nfT)] [(kF, .int), (kT, .int)] t) A) ([.ref rF, .int p0, .ref rT, .int p1, .int p2] : List Value).toArray s 0 0 A) (F0 m 3 ls []) := by
    intro n_1474
    induction n_1474 with
    | zero => intro z_1472 f_1473 H locs ls hi0_n_1474 hi1_n_1474 hm; exact absurd hm (Nat.not_lt_zero _)
    | succ n_1474 ih_n_1474 =>
      intro z_1472 f_1473 H locs ls hi0_n_1474 hi1_n_1474 hm_n_1474 hP hD hS hl
      refine lv_iload hx hb dX7_copy_3 (lv_at hl 0 rfl) ?_
      refine lv_iload hx hb dX7_copy_5 (lv_at hl 5 rfl) ?_
      refine lv_icmp_ge (tgt := 28) hx hb dX7_copy_7 (by decide) (fun c_1475 => ?_) (fun c_1475 => ?_)
      · skip
        have gc_1475 := ti_le c_1475 rfl rfl
        exact wq_v hx hb hr 0 trivial (fun t ht hW => ⟨f_1473, (by rw [show p2.toNatClampNeg = z_1472.toNatClampNeg from by have q1 := ti_cl (x := z_1472) rfl (by omega); have q2 := ti_cl (x := p2) rfl (by omega); omega]; assumption), Bw.to hP hD hK ht hW⟩) hS dX7_copy_28 hlocks
      · skip
        have gc_1475 := ti_nle c_1475 rfl rfl
        refine lv_aload_n hx hb dX7_copy_10 rfl (lv_at hl 3 rfl) ?_
        refine lv_iload_n hx hb dX7_copy_11 rfl (lv_at hl 4 rfl) ?_
        refine lv_iload hx hb dX7_copy_12 (lv_at hl 0 rfl) ?_
        refine lv_iadd hx hb dX7_copy_14 ?_
        refine lv_topi (fun x_1476 ex_1476 => ?_)
        have vx_1476 : x_1476.toInt = p1.toInt + z_1472.toInt := ti_add ex_1476 rfl rfl (om_0d98f29e hc0.2.1 hi0_n_1474.1) (om_3f6af94d hc2 gc_1475)
        refine lv_aload_n hx hb dX7_copy_15 rfl (lv_at hl 1 rfl) ?_
        refine lv_iload_n hx hb dX7_copy_16 rfl (lv_at hl 2 rfl) ?_
        refine lv_iload hx hb dX7_copy_17 (lv_at hl 0 rfl) ?_
        refine lv_iadd hx hb dX7_copy_19 ?_
        refine lv_topi (fun x_1477 ex_1477 => ?_)
        have vx_1477 : x_1477.toInt = p0.toInt + z_1472.toInt := ti_add ex_1477 rfl rfl (om_0d98f29e hc0.1 hi0_n_1474.1) (om_3f6af94d hc1 gc_1475)
        refine va_iald hx hb hK hP 0 0 rfl rfl (ti_in vx_1477 (om_da9595ee hc0.1 hi0_n_1474.1) (om_ad124daf hc1 gc_1475)) dX7_copy_20 ?_
        refine lv_topi (fun x_1478 ex_1478 => ?_)
        have kx_1478 : (fF x_1477.toNatClampNeg).toInt = x_1478.toInt := by rw [ex_1478]
        have cx_1478 : (fF (p0.toNatClampNeg + z_1472.toNatClampNeg)).toInt = x_1478.toInt := by rw [show p0.toNatClampNeg + z_1472.toNatClampNeg = x_1477.toNatClampNeg from by have q9 := ti_cl (x := x_1477) vx_1477 (om_da9595ee hc0.1 hi0_n_1474.1); have q_p0 := ti_cl (x := p0) rfl (om_83bd56b0 hc0.1); have q_z_1472 := ti_cl (x := z_1472) rfl (om_83bd56b0 hi0_n_1474.1); omega]; exact kx_1478
        refine va_iast hx hb hK hP hD hS 1 1 rfl rfl (ti_in vx_1476 (om_da9595ee hc0.2.1 hi0_n_1474.1) (om_ad124daf hc2 gc_1475)) dX7_copy_21 (fun H locs hP hD hS => ?_)
        obtain ⟨f_1479, ef_1479⟩ : ∃ g : Nat → Int32, g = upd f_1473 x_1476.toNatClampNeg x_1478 := ⟨_, rfl⟩
        rw [← ef_1479] at hP hD
        obtain ⟨hP, hD⟩ := wl2 (ws' := [(arI rF kF 90 fF), (arI rT kT 90 f_1479)]) hP hD rfl
        obtain ⟨x_1480, ex_1480⟩ : ∃ z : Int32, z = z_1472 + Int32.ofInt 1 := ⟨_, rfl⟩
        have vx_1480 : x_1480.toInt = z_1472.toInt + 1 := ti_add (y := 1) ex_1480 rfl kc_1 (om_4e4fce7e hi0_n_1474.1) (om_a75df1e7 hc0.2.1 hc2 gc_1475)
        refine lv_iinc (v := x_1480) (lv' := [(5, .int x_1480), (0, .ref rF), (1, .int p0), (2, .ref rT), (3, .int p1), (4, .int p2)]) hx hb dX7_copy_22 hl (k := 0) rfl ex_1480.symm (by decide) rfl (fun ls hl => ?_)
        refine lv_goto (tgt := 3) hx hb dX7_copy_25 (by decide) ?_
        exact ih_n_1474 x_1480 f_1479 _ _ _  ⟨(om_83b90de5 hi0_n_1474.1 vx_1480), (om_afcf07ef gc_1475 vx_1480)⟩ (copy_step hi1_n_1474 ef_1479 (by have q1 := ti_cl (x := x_1476) vx_1476 (om_da9595ee hc0.2.1 hi0_n_1474.1); have q2 := ti_cl (x := p1) rfl (om_83bd56b0 hc0.2.1); have q3 := ti_cl (x := z_1472) rfl (om_83bd56b0 hi0_n_1474.1); omega) (by have q := cx_1478; omega) (by have q1 := ti_cl (x := x_1480) vx_1480 (om_9548a8fd hi0_n_1474.1); have q3 := ti_cl (x := z_1472) rfl (om_83bd56b0 hi0_n_1474.1); omega)) (ms_lt hm_n_1474 (om_dd4ae0bc vx_1480) (om_d5382009 gc_1475)) hP hD hS (lv_sub hl [0, 1, 2, 3, 4, 5] rfl)
  exact key_n_1474 (((p2.toInt - (0 : Int32).toInt).toNat) + 1) 0 fT _ _ _  ⟨(om_b1de7dbe kc_0), (om_2dfe280d hc0.2.2 kc_0)⟩ (by first | assumption | omega | decide | exact copy_zero) (Nat.lt_add_one _) hP hD hS hl
set_option maxHeartbeats 4000000 in
set_option maxRecDepth 100000 in
theorem tX7_copy_8_8 (l : Launch) (dC : Nat → ClassId) (dI : Nat → Nat → Nat) (sz : Nat) (rF : Nat) (fF : Nat → Int32) (kF : ClassId) (rT : Nat) (fT : Nat → Int32) (kT : ClassId) (p0 : Int32) (p1 : Int32) (p2 : Int32)  (hc0 : 0 ≤ p0.toInt ∧ 0 ≤ p1.toInt ∧ 0 ≤ p2.toInt) (hc1 : p0.toInt + p2.toInt ≤ 8) (hc2 : p1.toInt + p2.toInt ≤ 8) : Met l yX7_copy (Cond.code yX7_copy cX7_copy 6 none :: wG) ({ frames := 0, cells := 0, slots := 0, locals := 0 }) (va_Pc [.ref rF, .int p0, .ref rT, .int p1, .int p2] (Pw dC dI sz [(arI rF kF 8 fF), (arI rT kT 8 fT)] [(kF, .int), (kT, .int)])) (va_Qv (fun (_ : Nat) => True) (fun (_ : Nat) (t : State) => ∃ (nfT : Nat → Int32), (CopyOk fF fT p0.toNatClampNeg p1.toNatClampNeg p2.toNatClampNeg nfT) ∧ Bw dC dI (va_A [(arI rF kF 8 fF), (arI rT kT 8 fT)] sz) [(arI rF kF 8 fF), (arI rT kT 8 nfT)] [(kF, .int), (kT, .int)] t) (va_A [(arI rF kF 8 fF), (arI rT kT 8 fT)] sz)) 0 0 (va_A [(arI rF kF 8 fF), (arI rT kT 8 fT)] sz) := by
  refine Met.ofW (cc := cX7_copy) (maxL := 6) (ret := none) pnX7 rfl ?_
  intro p e s m args below meth c s₁ B hml hv
  obtain ⟨rfl, hsz, hP, hK, hD0, hE⟩ := hv
  have hx := B.exec
  have hb := B.bytes
  have hr := B.returns
  have hts : ∀ w ∈ wG, w.before ([.ref rF, .int p0, .ref rT, .int p1, .int p2] : List Value).toArray s = true := fun w h => atoms_spec (ws := Cond.code yX7_copy cX7_copy 6 none :: wG) B.pre w (List.mem_cons_of_mem _ h)
  have hown : s.vm.findClass RX7 = some m.cls := own_of B.named rfl
  have hlocks := B.notSynchronized
  subst hsz
  have hD := hD0.self (sz := s.heap.size)
  generalize hAe : va_A [(arI rF kF 8 fF), (arI rT kT 8 fT)] s.heap.size = A at hD hE ⊢
  have hA : ∀ q : Nat, s.heap.size ≤ q → A q := fun q h => by rw [← hAe]; exact Or.inr h
  have hS : va_S A s.heap s.heap [] := va_S.rf
  have hl := lv_entry ([.ref rF, .int p0, .ref rT, .int p1, .int p2]) (n := 6) (Nat.le_of_ble_eq_true rfl)
  rw [lg_entry_eq]
  generalize (lg_sl ([.ref rF, .int p0, .ref rT, .int p1, .int p2]) ++ List.replicate (6 - (lg_sl ([.ref rF, .int p0, .ref rT, .int p1, .int p2])).length) Slot.unset).toArray = ls at hl ⊢
  have hl : lv_has ls 6 [(0, .ref rF), (1, .int p0), (2, .ref rT), (3, .int p1), (4, .int p2)] := hl
  refine lv_iconst (v := 0) hx hb dX7_copy_0 (by decide) ?_
  refine lv_istore (lv' := [(5, .int 0), (0, .ref rF), (1, .int p0), (2, .ref rT), (3, .int p1), (4, .int p2)]) hx hb dX7_copy_1 hl (by decide) rfl (fun ls hl => ?_)
  have hl := lv_sub hl (l' := [(5, .int 0), (0, .ref rF), (1, .int p0), (2, .ref rT), (3, .int p1), (4, .int p2)]) [0, 1, 2, 3, 4, 5] rfl
  have key_n_1492 : ∀ (n_1492 : Nat) (z_1490 : Int32) (f_1491 : Nat → Int32) (H : Heap) (locs : List Loc) (ls : Array Slot), (0 ≤ z_1490.toInt ∧ z_1490.toInt ≤ p2.toInt) → (CopyOk fF fT p0.toNatClampNeg p1.toNatClampNeg z_1490.toNatClampNeg f_1491) → (p2.toInt - z_1490.toInt).toNat < n_1492 → va_P (dC, dI) vwCl [(arI rF kF 8 fF), (arI rT kT 8 f_1491)] H → va_D A [(arI rF kF 8 fF), (arI rT kT 8 f_1491)] → va_S A s.heap H locs → lv_has ls 6 [(5, .int z_1490), (0, .ref rF), (1, .int p0), (2, .ref rT), (3, .int p1), (4, .int p2)] → W p l e (headSpec (Cond.code yX7_copy cX7_copy 6 none :: wG) ({ frames := 0, cells := 0, slots := 0, locals := 0 })).room s m ([.ref rF, .int p0, .ref rT, .int p1, .int p2] : List Value).toArray below meth c H locs 0 0 (MQ below (va_Qv (fun (_ : Nat) => True) (fun (_ : Nat) (t : State) => ∃ (nfT : Nat → Int32), (CopyOk fF fT p0.toNatClampNeg p1.toNatClampNeg p2.toNatClampNeg nfT) ∧ Bw dC dI A [(arI rF kF 8 fF), (arI rT kT 8 nfT)] [(kF, .int), (kT, .int)] t) A) ([.ref rF, .int p0, .ref rT, .int p1, .int p2] : List Value).toArray s 0 0 A) (F0 m 3 ls []) := by
    intro n_1492
    induction n_1492 with
    | zero => intro z_1490 f_1491 H locs ls hi0_n_1492 hi1_n_1492 hm; exact absurd hm (Nat.not_lt_zero _)
    | succ n_1492 ih_n_1492 =>
      intro z_1490 f_1491 H locs ls hi0_n_1492 hi1_n_1492 hm_n_1492 hP hD hS hl
      refine lv_iload hx hb dX7_copy_3 (lv_at hl 0 rfl) ?_
      refine lv_iload hx hb dX7_copy_5 (lv_at hl 5 rfl) ?_
      refine lv_icmp_ge (tgt := 28) hx hb dX7_copy_7 (by decide) (fun c_1493 => ?_) (fun c_1493 => ?_)
      · skip
        have gc_1493 := ti_le c_1493 rfl rfl
        exact wq_v hx hb hr 0 trivial (fun t ht hW => ⟨f_1491, (by rw [show p2.toNatClampNeg = z_1490.toNatClampNeg from by have q1 := ti_cl (x := z_1490) rfl (by omega); have q2 := ti_cl (x := p2) rfl (by omega); omega]; assumption), Bw.to hP hD hK ht hW⟩) hS dX7_copy_28 hlocks
      · skip
        have gc_1493 := ti_nle c_1493 rfl rfl
        refine lv_aload_n hx hb dX7_copy_10 rfl (lv_at hl 3 rfl) ?_
        refine lv_iload_n hx hb dX7_copy_11 rfl (lv_at hl 4 rfl) ?_
        refine lv_iload hx hb dX7_copy_12 (lv_at hl 0 rfl) ?_
        refine lv_iadd hx hb dX7_copy_14 ?_
        refine lv_topi (fun x_1494 ex_1494 => ?_)
        have vx_1494 : x_1494.toInt = p1.toInt + z_1490.toInt := ti_add ex_1494 rfl rfl (om_0d98f29e hc0.2.1 hi0_n_1492.1) (om_3e582492 hc2 gc_1493)
        refine lv_aload_n hx hb dX7_copy_15 rfl (lv_at hl 1 rfl) ?_
        refine lv_iload_n hx hb dX7_copy_16 rfl (lv_at hl 2 rfl) ?_
        refine lv_iload hx hb dX7_copy_17 (lv_at hl 0 rfl) ?_
        refine lv_iadd hx hb dX7_copy_19 ?_
        refine lv_topi (fun x_1495 ex_1495 => ?_)
        have vx_1495 : x_1495.toInt = p0.toInt + z_1490.toInt := ti_add ex_1495 rfl rfl (om_0d98f29e hc0.1 hi0_n_1492.1) (om_3e582492 hc1 gc_1493)
        refine va_iald hx hb hK hP 0 0 rfl rfl (ti_in vx_1495 (om_da9595ee hc0.1 hi0_n_1492.1) (om_6005669c hc1 gc_1493)) dX7_copy_20 ?_
        refine lv_topi (fun x_1496 ex_1496 => ?_)
        have kx_1496 : (fF x_1495.toNatClampNeg).toInt = x_1496.toInt := by rw [ex_1496]
        have cx_1496 : (fF (p0.toNatClampNeg + z_1490.toNatClampNeg)).toInt = x_1496.toInt := by rw [show p0.toNatClampNeg + z_1490.toNatClampNeg = x_1495.toNatClampNeg from by have q9 := ti_cl (x := x_1495) vx_1495 (om_da9595ee hc0.1 hi0_n_1492.1); have q_p0 := ti_cl (x := p0) rfl (om_83bd56b0 hc0.1); have q_z_1490 := ti_cl (x := z_1490) rfl (om_83bd56b0 hi0_n_1492.1); omega]; exact kx_1496
        refine va_iast hx hb hK hP hD hS 1 1 rfl rfl (ti_in vx_1494 (om_da9595ee hc0.2.1 hi0_n_1492.1) (om_6005669c hc2 gc_1493)) dX7_copy_21 (fun H locs hP hD hS => ?_)
        obtain ⟨f_1497, ef_1497⟩ : ∃ g : Nat → Int32, g = upd f_1491 x_1494.toNatClampNeg x_1496 := ⟨_, rfl⟩
        rw [← ef_1497] at hP hD
        obtain ⟨hP, hD⟩ := wl2 (ws' := [(arI rF kF 8 fF), (arI rT kT 8 f_1497)]) hP hD rfl
        obtain ⟨x_1498, ex_1498⟩ : ∃ z : Int32, z = z_1490 + Int32.ofInt 1 := ⟨_, rfl⟩
        have vx_1498 : x_1498.toInt = z_1490.toInt + 1 := ti_add (y := 1) ex_1498 rfl kc_1 (om_4e4fce7e hi0_n_1492.1) (om_0d0e90a1 hc0.2.1 hc2 gc_1493)
        refine lv_iinc (v := x_1498) (lv' := [(5, .int x_1498), (0, .ref rF), (1, .int p0), (2, .ref rT), (3, .int p1), (4, .int p2)]) hx hb dX7_copy_22 hl (k := 0) rfl ex_1498.symm (by decide) rfl (fun ls hl => ?_)
        refine lv_goto (tgt := 3) hx hb dX7_copy_25 (by decide) ?_
        exact ih_n_1492 x_1498 f_1497 _ _ _  ⟨(om_83b90de5 hi0_n_1492.1 vx_1498), (om_afcf07ef gc_1493 vx_1498)⟩ (copy_step hi1_n_1492 ef_1497 (by have q1 := ti_cl (x := x_1494) vx_1494 (om_da9595ee hc0.2.1 hi0_n_1492.1); have q2 := ti_cl (x := p1) rfl (om_83bd56b0 hc0.2.1); have q3 := ti_cl (x := z_1490) rfl (om_83bd56b0 hi0_n_1492.1); omega) (by have q := cx_1496; omega) (by have q1 := ti_cl (x := x_1498) vx_1498 (om_9548a8fd hi0_n_1492.1); have q3 := ti_cl (x := z_1490) rfl (om_83bd56b0 hi0_n_1492.1); omega)) (ms_lt hm_n_1492 (om_dd4ae0bc vx_1498) (om_d5382009 gc_1493)) hP hD hS (lv_sub hl [0, 1, 2, 3, 4, 5] rfl)
  exact key_n_1492 (((p2.toInt - (0 : Int32).toInt).toNat) + 1) 0 fT _ _ _  ⟨(om_b1de7dbe kc_0), (om_2dfe280d hc0.2.2 kc_0)⟩ (by first | assumption | omega | decide | exact copy_zero) (Nat.lt_add_one _) hP hD hS hl
set_option maxHeartbeats 4000000 in
set_option maxRecDepth 100000 in
theorem tX7_copy_8_287 (l : Launch) (dC : Nat → ClassId) (dI : Nat → Nat → Nat) (sz : Nat) (rF : Nat) (fF : Nat → Int32) (kF : ClassId) (rT : Nat) (fT : Nat → Int32) (kT : ClassId) (p0 : Int32) (p1 : Int32) (p2 : Int32)  (hc0 : 0 ≤ p0.toInt ∧ 0 ≤ p1.toInt ∧ 0 ≤ p2.toInt) (hc1 : p0.toInt + p2.toInt ≤ 8) (hc2 : p1.toInt + p2.toInt ≤ 287) : Met l yX7_copy (Cond.code yX7_copy cX7_copy 6 none :: wG) ({ frames := 0, cells := 0, slots := 0, locals := 0 }) (va_Pc [.ref rF, .int p0, .ref rT, .int p1, .int p2] (Pw dC dI sz [(arI rF kF 8 fF), (arI rT kT 287 fT)] [(kF, .int), (kT, .int)])) (va_Qv (fun (_ : Nat) => True) (fun (_ : Nat) (t : State) => ∃ (nfT : Nat → Int32), (CopyOk fF fT p0.toNatClampNeg p1.toNatClampNeg p2.toNatClampNeg nfT) ∧ Bw dC dI (va_A [(arI rF kF 8 fF), (arI rT kT 287 fT)] sz) [(arI rF kF 8 fF), (arI rT kT 287 nfT)] [(kF, .int), (kT, .int)] t) (va_A [(arI rF kF 8 fF), (arI rT kT 287 fT)] sz)) 0 0 (va_A [(arI rF kF 8 fF), (arI rT kT 287 fT)] sz) := by
  refine Met.ofW (cc := cX7_copy) (maxL := 6) (ret := none) pnX7 rfl ?_
  intro p e s m args below meth c s₁ B hml hv
  obtain ⟨rfl, hsz, hP, hK, hD0, hE⟩ := hv
  have hx := B.exec
  have hb := B.bytes
  have hr := B.returns
  have hts : ∀ w ∈ wG, w.before ([.ref rF, .int p0, .ref rT, .int p1, .int p2] : List Value).toArray s = true := fun w h => atoms_spec (ws := Cond.code yX7_copy cX7_copy 6 none :: wG) B.pre w (List.mem_cons_of_mem _ h)
  have hown : s.vm.findClass RX7 = some m.cls := own_of B.named rfl
  have hlocks := B.notSynchronized
  subst hsz
  have hD := hD0.self (sz := s.heap.size)
  generalize hAe : va_A [(arI rF kF 8 fF), (arI rT kT 287 fT)] s.heap.size = A at hD hE ⊢
  have hA : ∀ q : Nat, s.heap.size ≤ q → A q := fun q h => by rw [← hAe]; exact Or.inr h
  have hS : va_S A s.heap s.heap [] := va_S.rf
  have hl := lv_entry ([.ref rF, .int p0, .ref rT, .int p1, .int p2]) (n := 6) (Nat.le_of_ble_eq_true rfl)
  rw [lg_entry_eq]
  generalize (lg_sl ([.ref rF, .int p0, .ref rT, .int p1, .int p2]) ++ List.replicate (6 - (lg_sl ([.ref rF, .int p0, .ref rT, .int p1, .int p2])).length) Slot.unset).toArray = ls at hl ⊢
  have hl : lv_has ls 6 [(0, .ref rF), (1, .int p0), (2, .ref rT), (3, .int p1), (4, .int p2)] := hl
  refine lv_iconst (v := 0) hx hb dX7_copy_0 (by decide) ?_
  refine lv_istore (lv' := [(5, .int 0), (0, .ref rF), (1, .int p0), (2, .ref rT), (3, .int p1), (4, .int p2)]) hx hb dX7_copy_1 hl (by decide) rfl (fun ls hl => ?_)
  have hl := lv_sub hl (l' := [(5, .int 0), (0, .ref rF), (1, .int p0), (2, .ref rT), (3, .int p1), (4, .int p2)]) [0, 1, 2, 3, 4, 5] rfl
  have key_n_1510 : ∀ (n_1510 : Nat) (z_1508 : Int32) (f_1509 : Nat → Int32) (H : Heap) (locs : List Loc) (ls : Array Slot), (0 ≤ z_1508.toInt ∧ z_1508.toInt ≤ p2.toInt) → (CopyOk fF fT p0.toNatClampNeg p1.toNatClampNeg z_1508.toNatClampNeg f_1509) → (p2.toInt - z_1508.toInt).toNat < n_1510 → va_P (dC, dI) vwCl [(arI rF kF 8 fF), (arI rT kT 287 f_1509)] H → va_D A [(arI rF kF 8 fF), (arI rT kT 287 f_1509)] → va_S A s.heap H locs → lv_has ls 6 [(5, .int z_1508), (0, .ref rF), (1, .int p0), (2, .ref rT), (3, .int p1), (4, .int p2)] → W p l e (headSpec (Cond.code yX7_copy cX7_copy 6 none :: wG) ({ frames := 0, cells := 0, slots := 0, locals := 0 })).room s m ([.ref rF, .int p0, .ref rT, .int p1, .int p2] : List Value).toArray below meth c H locs 0 0 (MQ below (va_Qv (fun (_ : Nat) => True) (fun (_ : Nat) (t : State) => ∃ (nfT : Nat → Int32), (CopyOk fF fT p0.toNatClampNeg p1.toNatClampNeg p2.toNatClampNeg nfT) ∧ Bw dC dI A [(arI rF kF 8 fF), (arI rT kT 287 nfT)] [(kF, .int), (kT, .int)] t) A) ([.ref rF, .int p0, .ref rT, .int p1, .int p2] : List Value).toArray s 0 0 A) (F0 m 3 ls []) := by
    intro n_1510
    induction n_1510 with
    | zero => intro z_1508 f_1509 H locs ls hi0_n_1510 hi1_n_1510 hm; exact absurd hm (Nat.not_lt_zero _)
    | succ n_1510 ih_n_1510 =>
      intro z_1508 f_1509 H locs ls hi0_n_1510 hi1_n_1510 hm_n_1510 hP hD hS hl
      refine lv_iload hx hb dX7_copy_3 (lv_at hl 0 rfl) ?_
      refine lv_iload hx hb dX7_copy_5 (lv_at hl 5 rfl) ?_
      refine lv_icmp_ge (tgt := 28) hx hb dX7_copy_7 (by decide) (fun c_1511 => ?_) (fun c_1511 => ?_)
      · skip
        have gc_1511 := ti_le c_1511 rfl rfl
        exact wq_v hx hb hr 0 trivial (fun t ht hW => ⟨f_1509, (by rw [show p2.toNatClampNeg = z_1508.toNatClampNeg from by have q1 := ti_cl (x := z_1508) rfl (by omega); have q2 := ti_cl (x := p2) rfl (by omega); omega]; assumption), Bw.to hP hD hK ht hW⟩) hS dX7_copy_28 hlocks
      · skip
        have gc_1511 := ti_nle c_1511 rfl rfl
        refine lv_aload_n hx hb dX7_copy_10 rfl (lv_at hl 3 rfl) ?_
        refine lv_iload_n hx hb dX7_copy_11 rfl (lv_at hl 4 rfl) ?_
        refine lv_iload hx hb dX7_copy_12 (lv_at hl 0 rfl) ?_
        refine lv_iadd hx hb dX7_copy_14 ?_
        refine lv_topi (fun x_1512 ex_1512 => ?_)
        have vx_1512 : x_1512.toInt = p1.toInt + z_1508.toInt := ti_add ex_1512 rfl rfl (om_0d98f29e hc0.2.1 hi0_n_1510.1) (om_449c1aea hc2 gc_1511)
        refine lv_aload_n hx hb dX7_copy_15 rfl (lv_at hl 1 rfl) ?_
        refine lv_iload_n hx hb dX7_copy_16 rfl (lv_at hl 2 rfl) ?_
        refine lv_iload hx hb dX7_copy_17 (lv_at hl 0 rfl) ?_
        refine lv_iadd hx hb dX7_copy_19 ?_
        refine lv_topi (fun x_1513 ex_1513 => ?_)
        have vx_1513 : x_1513.toInt = p0.toInt + z_1508.toInt := ti_add ex_1513 rfl rfl (om_0d98f29e hc0.1 hi0_n_1510.1) (om_3e582492 hc1 gc_1511)
        refine va_iald hx hb hK hP 0 0 rfl rfl (ti_in vx_1513 (om_da9595ee hc0.1 hi0_n_1510.1) (om_6005669c hc1 gc_1511)) dX7_copy_20 ?_
        refine lv_topi (fun x_1514 ex_1514 => ?_)
        have kx_1514 : (fF x_1513.toNatClampNeg).toInt = x_1514.toInt := by rw [ex_1514]
        have cx_1514 : (fF (p0.toNatClampNeg + z_1508.toNatClampNeg)).toInt = x_1514.toInt := by rw [show p0.toNatClampNeg + z_1508.toNatClampNeg = x_1513.toNatClampNeg from by have q9 := ti_cl (x := x_1513) vx_1513 (om_da9595ee hc0.1 hi0_n_1510.1); have q_p0 := ti_cl (x := p0) rfl (om_83bd56b0 hc0.1); have q_z_1508 := ti_cl (x := z_1508) rfl (om_83bd56b0 hi0_n_1510.1); omega]; exact kx_1514
        refine va_iast hx hb hK hP hD hS 1 1 rfl rfl (ti_in vx_1512 (om_da9595ee hc0.2.1 hi0_n_1510.1) (om_01420f9f hc2 gc_1511)) dX7_copy_21 (fun H locs hP hD hS => ?_)
        obtain ⟨f_1515, ef_1515⟩ : ∃ g : Nat → Int32, g = upd f_1509 x_1512.toNatClampNeg x_1514 := ⟨_, rfl⟩
        rw [← ef_1515] at hP hD
        obtain ⟨hP, hD⟩ := wl2 (ws' := [(arI rF kF 8 fF), (arI rT kT 287 f_1515)]) hP hD rfl
        obtain ⟨x_1516, ex_1516⟩ : ∃ z : Int32, z = z_1508 + Int32.ofInt 1 := ⟨_, rfl⟩
        have vx_1516 : x_1516.toInt = z_1508.toInt + 1 := ti_add (y := 1) ex_1516 rfl kc_1 (om_4e4fce7e hi0_n_1510.1) (om_09bab995 hc0.2.1 hc2 gc_1511)
        refine lv_iinc (v := x_1516) (lv' := [(5, .int x_1516), (0, .ref rF), (1, .int p0), (2, .ref rT), (3, .int p1), (4, .int p2)]) hx hb dX7_copy_22 hl (k := 0) rfl ex_1516.symm (by decide) rfl (fun ls hl => ?_)
        refine lv_goto (tgt := 3) hx hb dX7_copy_25 (by decide) ?_
        exact ih_n_1510 x_1516 f_1515 _ _ _  ⟨(om_83b90de5 hi0_n_1510.1 vx_1516), (om_afcf07ef gc_1511 vx_1516)⟩ (copy_step hi1_n_1510 ef_1515 (by have q1 := ti_cl (x := x_1512) vx_1512 (om_da9595ee hc0.2.1 hi0_n_1510.1); have q2 := ti_cl (x := p1) rfl (om_83bd56b0 hc0.2.1); have q3 := ti_cl (x := z_1508) rfl (om_83bd56b0 hi0_n_1510.1); omega) (by have q := cx_1514; omega) (by have q1 := ti_cl (x := x_1516) vx_1516 (om_9548a8fd hi0_n_1510.1); have q3 := ti_cl (x := z_1508) rfl (om_83bd56b0 hi0_n_1510.1); omega)) (ms_lt hm_n_1510 (om_dd4ae0bc vx_1516) (om_d5382009 gc_1511)) hP hD hS (lv_sub hl [0, 1, 2, 3, 4, 5] rfl)
  exact key_n_1510 (((p2.toInt - (0 : Int32).toInt).toNat) + 1) 0 fT _ _ _  ⟨(om_b1de7dbe kc_0), (om_2dfe280d hc0.2.2 kc_0)⟩ (by first | assumption | omega | decide | exact copy_zero) (Nat.lt_add_one _) hP hD hS hl
set_option maxHeartbeats 4000000 in
set_option maxRecDepth 100000 in
theorem tX7_copy_287_287 (l : Launch) (dC : Nat → ClassId) (dI : Nat → Nat → Nat) (sz : Nat) (rF : Nat) (fF : Nat → Int32) (kF : ClassId) (rT : Nat) (fT : Nat → Int32) (kT : ClassId) (p0 : Int32) (p1 : Int32) (p2 : Int32)  (hc0 : 0 ≤ p0.toInt ∧ 0 ≤ p1.toInt ∧ 0 ≤ p2.toInt) (hc1 : p0.toInt + p2.toInt ≤ 287) (hc2 : p1.toInt + p2.toInt ≤ 287) : Met l yX7_copy (Cond.code yX7_copy cX7_copy 6 none :: wG) ({ frames := 0, cells := 0, slots := 0, locals := 0 }) (va_Pc [.ref rF, .int p0, .ref rT, .int p1, .int p2] (Pw dC dI sz [(arI rF kF 287 fF), (arI rT kT 287 fT)] [(kF, .int), (kT, .int)])) (va_Qv (fun (_ : Nat) => True) (fun (_ : Nat) (t : State) => ∃ (nfT : Nat → Int32), (CopyOk fF fT p0.toNatClampNeg p1.toNatClampNeg p2.toNatClampNeg nfT) ∧ Bw dC dI (va_A [(arI rF kF 287 fF), (arI rT kT 287 fT)] sz) [(arI rF kF 287 fF), (arI rT kT 287 nfT)] [(kF, .int), (kT, .int)] t) (va_A [(arI rF kF 287 fF), (arI rT kT 287 fT)] sz)) 0 0 (va_A [(arI rF kF 287 fF), (arI rT kT 287 fT)] sz) := by
  refine Met.ofW (cc := cX7_copy) (maxL := 6) (ret := none) pnX7 rfl ?_
  intro p e s m args below meth c s₁ B hml hv
  obtain ⟨rfl, hsz, hP, hK, hD0, hE⟩ := hv
  have hx := B.exec
  have hb := B.bytes
  have hr := B.returns
  have hts : ∀ w ∈ wG, w.before ([.ref rF, .int p0, .ref rT, .int p1, .int p2] : List Value).toArray s = true := fun w h => atoms_spec (ws := Cond.code yX7_copy cX7_copy 6 none :: wG) B.pre w (List.mem_cons_of_mem _ h)
  have hown : s.vm.findClass RX7 = some m.cls := own_of B.named rfl
  have hlocks := B.notSynchronized
  subst hsz
  have hD := hD0.self (sz := s.heap.size)
  generalize hAe : va_A [(arI rF kF 287 fF), (arI rT kT 287 fT)] s.heap.size = A at hD hE ⊢
  have hA : ∀ q : Nat, s.heap.size ≤ q → A q := fun q h => by rw [← hAe]; exact Or.inr h
  have hS : va_S A s.heap s.heap [] := va_S.rf
  have hl := lv_entry ([.ref rF, .int p0, .ref rT, .int p1, .int p2]) (n := 6) (Nat.le_of_ble_eq_true rfl)
  rw [lg_entry_eq]
  generalize (lg_sl ([.ref rF, .int p0, .ref rT, .int p1, .int p2]) ++ List.replicate (6 - (lg_sl ([.ref rF, .int p0, .ref rT, .int p1, .int p2])).length) Slot.unset).toArray = ls at hl ⊢
  have hl : lv_has ls 6 [(0, .ref rF), (1, .int p0), (2, .ref rT), (3, .int p1), (4, .int p2)] := hl
  refine lv_iconst (v := 0) hx hb dX7_copy_0 (by decide) ?_
  refine lv_istore (lv' := [(5, .int 0), (0, .ref rF), (1, .int p0), (2, .ref rT), (3, .int p1), (4, .int p2)]) hx hb dX7_copy_1 hl (by decide) rfl (fun ls hl => ?_)
  have hl := lv_sub hl (l' := [(5, .int 0), (0, .ref rF), (1, .int p0), (2, .ref rT), (3, .int p1), (4, .int p2)]) [0, 1, 2, 3, 4, 5] rfl
  have key_n_1528 : ∀ (n_1528 : Nat) (z_1526 : Int32) (f_1527 : Nat → Int32) (H : Heap) (locs : List Loc) (ls : Array Slot), (0 ≤ z_1526.toInt ∧ z_1526.toInt ≤ p2.toInt) → (CopyOk fF fT p0.toNatClampNeg p1.toNatClampNeg z_1526.toNatClampNeg f_1527) → (p2.toInt - z_1526.toInt).toNat < n_1528 → va_P (dC, dI) vwCl [(arI rF kF 287 fF), (arI rT kT 287 f_1527)] H → va_D A [(arI rF kF 287 fF), (arI rT kT 287 f_1527)] → va_S A s.heap H locs → lv_has ls 6 [(5, .int z_1526), (0, .ref rF), (1, .int p0), (2, .ref rT), (3, .int p1), (4, .int p2)] → W p l e (headSpec (Cond.code yX7_copy cX7_copy 6 none :: wG) ({ frames := 0, cells := 0, slots := 0, locals := 0 })).room s m ([.ref rF, .int p0, .ref rT, .int p1, .int p2] : List Value).toArray below meth c H locs 0 0 (MQ below (va_Qv (fun (_ : Nat) => True) (fun (_ : Nat) (t : State) => ∃ (nfT : Nat → Int32), (CopyOk fF fT p0.toNatClampNeg p1.toNatClampNeg p2.toNatClampNeg nfT) ∧ Bw dC dI A [(arI rF kF 287 fF), (arI rT kT 287 nfT)] [(kF, .int), (kT, .int)] t) A) ([.ref rF, .int p0, .ref rT, .int p1, .int p2] : List Value).toArray s 0 0 A) (F0 m 3 ls []) := by
    intro n_1528
    induction n_1528 with
    | zero => intro z_1526 f_1527 H locs ls hi0_n_1528 hi1_n_1528 hm; exact absurd hm (Nat.not_lt_zero _)
    | succ n_1528 ih_n_1528 =>
      intro z_1526 f_1527 H locs ls hi0_n_1528 hi1_n_1528 hm_n_1528 hP hD hS hl
      refine lv_iload hx hb dX7_copy_3 (lv_at hl 0 rfl) ?_
      refine lv_iload hx hb dX7_copy_5 (lv_at hl 5 rfl) ?_
      refine lv_icmp_ge (tgt := 28) hx hb dX7_copy_7 (by decide) (fun c_1529 => ?_) (fun c_1529 => ?_)
      · skip
        have gc_1529 := ti_le c_1529 rfl rfl
        exact wq_v hx hb hr 0 trivial (fun t ht hW => ⟨f_1527, (by rw [show p2.toNatClampNeg = z_1526.toNatClampNeg from by have q1 := ti_cl (x := z_1526) rfl (by omega); have q2 := ti_cl (x := p2) rfl (by omega); omega]; assumption), Bw.to hP hD hK ht hW⟩) hS dX7_copy_28 hlocks
      · skip
        have gc_1529 := ti_nle c_1529 rfl rfl
        refine lv_aload_n hx hb dX7_copy_10 rfl (lv_at hl 3 rfl) ?_
        refine lv_iload_n hx hb dX7_copy_11 rfl (lv_at hl 4 rfl) ?_
        refine lv_iload hx hb dX7_copy_12 (lv_at hl 0 rfl) ?_
        refine lv_iadd hx hb dX7_copy_14 ?_
        refine lv_topi (fun x_1530 ex_1530 => ?_)
        have vx_1530 : x_1530.toInt = p1.toInt + z_1526.toInt := ti_add ex_1530 rfl rfl (om_0d98f29e hc0.2.1 hi0_n_1528.1) (om_449c1aea hc2 gc_1529)
        refine lv_aload_n hx hb dX7_copy_15 rfl (lv_at hl 1 rfl) ?_
        refine lv_iload_n hx hb dX7_copy_16 rfl (lv_at hl 2 rfl) ?_
        refine lv_iload hx hb dX7_copy_17 (lv_at hl 0 rfl) ?_
        refine lv_iadd hx hb dX7_copy_19 ?_
        refine lv_topi (fun x_1531 ex_1531 => ?_)
        have vx_1531 : x_1531.toInt = p0.toInt + z_1526.toInt := ti_add ex_1531 rfl rfl (om_0d98f29e hc0.1 hi0_n_1528.1) (om_449c1aea hc1 gc_1529)
        refine va_iald hx hb hK hP 0 0 rfl rfl (ti_in vx_1531 (om_da9595ee hc0.1 hi0_n_1528.1) (om_01420f9f hc1 gc_1529)) dX7_copy_20 ?_
        refine lv_topi (fun x_1532 ex_1532 => ?_)
        have kx_1532 : (fF x_1531.toNatClampNeg).toInt = x_1532.toInt := by rw [ex_1532]
        have cx_1532 : (fF (p0.toNatClampNeg + z_1526.toNatClampNeg)).toInt = x_1532.toInt := by rw [show p0.toNatClampNeg + z_1526.toNatClampNeg = x_1531.toNatClampNeg from by have q9 := ti_cl (x := x_1531) vx_1531 (om_da9595ee hc0.1 hi0_n_1528.1); have q_p0 := ti_cl (x := p0) rfl (om_83bd56b0 hc0.1); have q_z_1526 := ti_cl (x := z_1526) rfl (om_83bd56b0 hi0_n_1528.1); omega]; exact kx_1532
        refine va_iast hx hb hK hP hD hS 1 1 rfl rfl (ti_in vx_1530 (om_da9595ee hc0.2.1 hi0_n_1528.1) (om_01420f9f hc2 gc_1529)) dX7_copy_21 (fun H locs hP hD hS => ?_)
        obtain ⟨f_1533, ef_1533⟩ : ∃ g : Nat → Int32, g = upd f_1527 x_1530.toNatClampNeg x_1532 := ⟨_, rfl⟩
        rw [← ef_1533] at hP hD
        obtain ⟨hP, hD⟩ := wl2 (ws' := [(arI rF kF 287 fF), (arI rT kT 287 f_1533)]) hP hD rfl
        obtain ⟨x_1534, ex_1534⟩ : ∃ z : Int32, z = z_1526 + Int32.ofInt 1 := ⟨_, rfl⟩
        have vx_1534 : x_1534.toInt = z_1526.toInt + 1 := ti_add (y := 1) ex_1534 rfl kc_1 (om_4e4fce7e hi0_n_1528.1) (om_09bab995 hc0.2.1 hc2 gc_1529)
        refine lv_iinc (v := x_1534) (lv' := [(5, .int x_1534), (0, .ref rF), (1, .int p0), (2, .ref rT), (3, .int p1), (4, .int p2)]) hx hb dX7_copy_22 hl (k := 0) rfl ex_1534.symm (by decide) rfl (fun ls hl => ?_)
        refine lv_goto (tgt := 3) hx hb dX7_copy_25 (by decide) ?_
        exact ih_n_1528 x_1534 f_1533 _ _ _  ⟨(om_83b90de5 hi0_n_1528.1 vx_1534), (om_afcf07ef gc_1529 vx_1534)⟩ (copy_step hi1_n_1528 ef_1533 (by have q1 := ti_cl (x := x_1530) vx_1530 (om_da9595ee hc0.2.1 hi0_n_1528.1); have q2 := ti_cl (x := p1) rfl (om_83bd56b0 hc0.2.1); have q3 := ti_cl (x := z_1526) rfl (om_83bd56b0 hi0_n_1528.1); omega) (by have q := cx_1532; omega) (by have q1 := ti_cl (x := x_1534) vx_1534 (om_9548a8fd hi0_n_1528.1); have q3 := ti_cl (x := z_1526) rfl (om_83bd56b0 hi0_n_1528.1); omega)) (ms_lt hm_n_1528 (om_dd4ae0bc vx_1534) (om_d5382009 gc_1529)) hP hD hS (lv_sub hl [0, 1, 2, 3, 4, 5] rfl)
  exact key_n_1528 (((p2.toInt - (0 : Int32).toInt).toNat) + 1) 0 fT _ _ _  ⟨(om_b1de7dbe kc_0), (om_2dfe280d hc0.2.2 kc_0)⟩ (by first | assumption | omega | decide | exact copy_zero) (Nat.lt_add_one _) hP hD hS hl
set_option maxHeartbeats 4000000 in
set_option maxRecDepth 100000 in
theorem tX7_copy_90_1440 (l : Launch) (dC : Nat → ClassId) (dI : Nat → Nat → Nat) (sz : Nat) (rF : Nat) (fF : Nat → Int32) (kF : ClassId) (rT : Nat) (fT : Nat → Int32) (kT : ClassId) (p0 : Int32) (p1 : Int32) (p2 : Int32)  (hc0 : 0 ≤ p0.toInt ∧ 0 ≤ p1.toInt ∧ 0 ≤ p2.toInt) (hc1 : p0.toInt + p2.toInt ≤ 90) (hc2 : p1.toInt + p2.toInt ≤ 1440) : Met l yX7_copy (Cond.code yX7_copy cX7_copy 6 none :: wG) ({ frames := 0, cells := 0, slots := 0, locals := 0 }) (va_Pc [.ref rF, .int p0, .ref rT, .int p1, .int p2] (Pw dC dI sz [(arI rF kF 90 fF), (arI rT kT 1440 fT)] [(kF, .int), (kT, .int)])) (va_Qv (fun (_ : Nat) => True) (fun (_ : Nat) (t : State) => ∃ (nfT : Nat → Int32), (CopyOk fF fT p0.toNatClampNeg p1.toNatClampNeg p2.toNatClampNeg nfT) ∧ Bw dC dI (va_A [(arI rF kF 90 fF), (arI rT kT 1440 fT)] sz) [(arI rF kF 90 fF), (arI rT kT 1440 nfT)] [(kF, .int), (kT, .int)] t) (va_A [(arI rF kF 90 fF), (arI rT kT 1440 fT)] sz)) 0 0 (va_A [(arI rF kF 90 fF), (arI rT kT 1440 fT)] sz) := by
  refine Met.ofW (cc := cX7_copy) (maxL := 6) (ret := none) pnX7 rfl ?_
  intro p e s m args below meth c s₁ B hml hv
  obtain ⟨rfl, hsz, hP, hK, hD0, hE⟩ := hv
  have hx := B.exec
  have hb := B.bytes
  have hr := B.returns
  have hts : ∀ w ∈ wG, w.before ([.ref rF, .int p0, .ref rT, .int p1, .int p2] : List Value).toArray s = true := fun w h => atoms_spec (ws := Cond.code yX7_copy cX7_copy 6 none :: wG) B.pre w (List.mem_cons_of_mem _ h)
  have hown : s.vm.findClass RX7 = some m.cls := own_of B.named rfl
  have hlocks := B.notSynchronized
  subst hsz
  have hD := hD0.self (sz := s.heap.size)
  generalize hAe : va_A [(arI rF kF 90 fF), (arI rT kT 1440 fT)] s.heap.size = A at hD hE ⊢
  have hA : ∀ q : Nat, s.heap.size ≤ q → A q := fun q h => by rw [← hAe]; exact Or.inr h
  have hS : va_S A s.heap s.heap [] := va_S.rf
  have hl := lv_entry ([.ref rF, .int p0, .ref rT, .int p1, .int p2]) (n := 6) (Nat.le_of_ble_eq_true rfl)
  rw [lg_entry_eq]
  generalize (lg_sl ([.ref rF, .int p0, .ref rT, .int p1, .int p2]) ++ List.replicate (6 - (lg_sl ([.ref rF, .int p0, .ref rT, .int p1, .int p2])).length) Slot.unset).toArray = ls at hl ⊢
  have hl : lv_has ls 6 [(0, .ref rF), (1, .int p0), (2, .ref rT), (3, .int p1), (4, .int p2)] := hl
  refine lv_iconst (v := 0) hx hb dX7_copy_0 (by decide) ?_
  refine lv_istore (lv' := [(5, .int 0), (0, .ref rF), (1, .int p0), (2, .ref rT), (3, .int p1), (4, .int p2)]) hx hb dX7_copy_1 hl (by decide) rfl (fun ls hl => ?_)
  have hl := lv_sub hl (l' := [(5, .int 0), (0, .ref rF), (1, .int p0), (2, .ref rT), (3, .int p1), (4, .int p2)]) [0, 1, 2, 3, 4, 5] rfl
  have key_n_1546 : ∀ (n_1546 : Nat) (z_1544 : Int32) (f_1545 : Nat → Int32) (H : Heap) (locs : List Loc) (ls : Array Slot), (0 ≤ z_1544.toInt ∧ z_1544.toInt ≤ p2.toInt) → (CopyOk fF fT p0.toNatClampNeg p1.toNatClampNeg z_1544.toNatClampNeg f_1545) → (p2.toInt - z_1544.toInt).toNat < n_1546 → va_P (dC, dI) vwCl [(arI rF kF 90 fF), (arI rT kT 1440 f_1545)] H → va_D A [(arI rF kF 90 fF), (arI rT kT 1440 f_1545)] → va_S A s.heap H locs → lv_has ls 6 [(5, .int z_1544), (0, .ref rF), (1, .int p0), (2, .ref rT), (3, .int p1), (4, .int p2)] → W p l e (headSpec (Cond.code yX7_copy cX7_copy 6 none :: wG) ({ frames := 0, cells := 0, slots := 0, locals := 0 })).room s m ([.ref rF, .int p0, .ref rT, .int p1, .int p2] : List Value).toArray below meth c H locs 0 0 (MQ below (va_Qv (fun (_ : Nat) => True) (fun (_ : Nat) (t : State) => ∃ (nfT : Nat → Int32), (CopyOk fF fT p0.toNatClampNeg p1.toNatClampNeg p2.toNatClampNeg nfT) ∧ Bw dC dI A [(arI rF kF 90 fF), (arI rT kT 1440 nfT)] [(kF, .int), (kT, .int)] t) A) ([.ref rF, .int p0, .ref rT, .int p1, .int p2] : List Value).toArray s 0 0 A) (F0 m 3 ls []) := by
    intro n_1546
    induction n_1546 with
    | zero => intro z_1544 f_1545 H locs ls hi0_n_1546 hi1_n_1546 hm; exact absurd hm (Nat.not_lt_zero _)
    | succ n_1546 ih_n_1546 =>
      intro z_1544 f_1545 H locs ls hi0_n_1546 hi1_n_1546 hm_n_1546 hP hD hS hl
      refine lv_iload hx hb dX7_copy_3 (lv_at hl 0 rfl) ?_
      refine lv_iload hx hb dX7_copy_5 (lv_at hl 5 rfl) ?_
      refine lv_icmp_ge (tgt := 28) hx hb dX7_copy_7 (by decide) (fun c_1547 => ?_) (fun c_1547 => ?_)
      · skip
        have gc_1547 := ti_le c_1547 rfl rfl
        exact wq_v hx hb hr 0 trivial (fun t ht hW => ⟨f_1545, (by rw [show p2.toNatClampNeg = z_1544.toNatClampNeg from by have q1 := ti_cl (x := z_1544) rfl (by omega); have q2 := ti_cl (x := p2) rfl (by omega); omega]; assumption), Bw.to hP hD hK ht hW⟩) hS dX7_copy_28 hlocks
      · skip
        have gc_1547 := ti_nle c_1547 rfl rfl
        refine lv_aload_n hx hb dX7_copy_10 rfl (lv_at hl 3 rfl) ?_
        refine lv_iload_n hx hb dX7_copy_11 rfl (lv_at hl 4 rfl) ?_
        refine lv_iload hx hb dX7_copy_12 (lv_at hl 0 rfl) ?_
        refine lv_iadd hx hb dX7_copy_14 ?_
        refine lv_topi (fun x_1548 ex_1548 => ?_)
        have vx_1548 : x_1548.toInt = p1.toInt + z_1544.toInt := ti_add ex_1548 rfl rfl (om_0d98f29e hc0.2.1 hi0_n_1546.1) (om_05bb8786 hc2 gc_1547)
        refine lv_aload_n hx hb dX7_copy_15 rfl (lv_at hl 1 rfl) ?_
        refine lv_iload_n hx hb dX7_copy_16 rfl (lv_at hl 2 rfl) ?_
        refine lv_iload hx hb dX7_copy_17 (lv_at hl 0 rfl) ?_
        refine lv_iadd hx hb dX7_copy_19 ?_
        refine lv_topi (fun x_1549 ex_1549 => ?_)
        have vx_1549 : x_1549.toInt = p0.toInt + z_1544.toInt := ti_add ex_1549 rfl rfl (om_0d98f29e hc0.1 hi0_n_1546.1) (om_3f6af94d hc1 gc_1547)
        refine va_iald hx hb hK hP 0 0 rfl rfl (ti_in vx_1549 (om_da9595ee hc0.1 hi0_n_1546.1) (om_ad124daf hc1 gc_1547)) dX7_copy_20 ?_
        refine lv_topi (fun x_1550 ex_1550 => ?_)
        have kx_1550 : (fF x_1549.toNatClampNeg).toInt = x_1550.toInt := by rw [ex_1550]
        have cx_1550 : (fF (p0.toNatClampNeg + z_1544.toNatClampNeg)).toInt = x_1550.toInt := by rw [show p0.toNatClampNeg + z_1544.toNatClampNeg = x_1549.toNatClampNeg from by have q9 := ti_cl (x := x_1549) vx_1549 (om_da9595ee hc0.1 hi0_n_1546.1); have q_p0 := ti_cl (x := p0) rfl (om_83bd56b0 hc0.1); have q_z_1544 := ti_cl (x := z_1544) rfl (om_83bd56b0 hi0_n_1546.1); omega]; exact kx_1550
        refine va_iast hx hb hK hP hD hS 1 1 rfl rfl (ti_in vx_1548 (om_da9595ee hc0.2.1 hi0_n_1546.1) (om_e1605147 hc2 gc_1547)) dX7_copy_21 (fun H locs hP hD hS => ?_)
        obtain ⟨f_1551, ef_1551⟩ : ∃ g : Nat → Int32, g = upd f_1545 x_1548.toNatClampNeg x_1550 := ⟨_, rfl⟩
        rw [← ef_1551] at hP hD
        obtain ⟨hP, hD⟩ := wl2 (ws' := [(arI rF kF 90 fF), (arI rT kT 1440 f_1551)]) hP hD rfl
        obtain ⟨x_1552, ex_1552⟩ : ∃ z : Int32, z = z_1544 + Int32.ofInt 1 := ⟨_, rfl⟩
        have vx_1552 : x_1552.toInt = z_1544.toInt + 1 := ti_add (y := 1) ex_1552 rfl kc_1 (om_4e4fce7e hi0_n_1546.1) (om_68479abd hc0.2.1 hc2 gc_1547)
        refine lv_iinc (v := x_1552) (lv' := [(5, .int x_1552), (0, .ref rF), (1, .int p0), (2, .ref rT), (3, .int p1), (4, .int p2)]) hx hb dX7_copy_22 hl (k := 0) rfl ex_1552.symm (by decide) rfl (fun ls hl => ?_)
        refine lv_goto (tgt := 3) hx hb dX7_copy_25 (by decide) ?_
        exact ih_n_1546 x_1552 f_1551 _ _ _  ⟨(om_83b90de5 hi0_n_1546.1 vx_1552), (om_afcf07ef gc_1547 vx_1552)⟩ (copy_step hi1_n_1546 ef_1551 (by have q1 := ti_cl (x := x_1548) vx_1548 (om_da9595ee hc0.2.1 hi0_n_1546.1); have q2 := ti_cl (x := p1) rfl (om_83bd56b0 hc0.2.1); have q3 := ti_cl (x := z_1544) rfl (om_83bd56b0 hi0_n_1546.1); omega) (by have q := cx_1550; omega) (by have q1 := ti_cl (x := x_1552) vx_1552 (om_9548a8fd hi0_n_1546.1); have q3 := ti_cl (x := z_1544) rfl (om_83bd56b0 hi0_n_1546.1); omega)) (ms_lt hm_n_1546 (om_dd4ae0bc vx_1552) (om_d5382009 gc_1547)) hP hD hS (lv_sub hl [0, 1, 2, 3, 4, 5] rfl)
  exact key_n_1546 (((p2.toInt - (0 : Int32).toInt).toNat) + 1) 0 fT _ _ _  ⟨(om_b1de7dbe kc_0), (om_2dfe280d hc0.2.2 kc_0)⟩ (by first | assumption | omega | decide | exact copy_zero) (Nat.lt_add_one _) hP hD hS hl
set_option maxHeartbeats 4000000 in
set_option maxRecDepth 100000 in
theorem tX7_copy_1440_90 (l : Launch) (dC : Nat → ClassId) (dI : Nat → Nat → Nat) (sz : Nat) (rF : Nat) (fF : Nat → Int32) (kF : ClassId) (rT : Nat) (fT : Nat → Int32) (kT : ClassId) (p0 : Int32) (p1 : Int32) (p2 : Int32)  (hc0 : 0 ≤ p0.toInt ∧ 0 ≤ p1.toInt ∧ 0 ≤ p2.toInt) (hc1 : p0.toInt + p2.toInt ≤ 1440) (hc2 : p1.toInt + p2.toInt ≤ 90) : Met l yX7_copy (Cond.code yX7_copy cX7_copy 6 none :: wG) ({ frames := 0, cells := 0, slots := 0, locals := 0 }) (va_Pc [.ref rF, .int p0, .ref rT, .int p1, .int p2] (Pw dC dI sz [(arI rF kF 1440 fF), (arI rT kT 90 fT)] [(kF, .int), (kT, .int)])) (va_Qv (fun (_ : Nat) => True) (fun (_ : Nat) (t : State) => ∃ (nfT : Nat → Int32), (CopyOk fF fT p0.toNatClampNeg p1.toNatClampNeg p2.toNatClampNeg nfT) ∧ Bw dC dI (va_A [(arI rF kF 1440 fF), (arI rT kT 90 fT)] sz) [(arI rF kF 1440 fF), (arI rT kT 90 nfT)] [(kF, .int), (kT, .int)] t) (va_A [(arI rF kF 1440 fF), (arI rT kT 90 fT)] sz)) 0 0 (va_A [(arI rF kF 1440 fF), (arI rT kT 90 fT)] sz) := by
  refine Met.ofW (cc := cX7_copy) (maxL := 6) (ret := none) pnX7 rfl ?_
  intro p e s m args below meth c s₁ B hml hv
  obtain ⟨rfl, hsz, hP, hK, hD0, hE⟩ := hv
  have hx := B.exec
  have hb := B.bytes
  have hr := B.returns
  have hts : ∀ w ∈ wG, w.before ([.ref rF, .int p0, .ref rT, .int p1, .int p2] : List Value).toArray s = true := fun w h => atoms_spec (ws := Cond.code yX7_copy cX7_copy 6 none :: wG) B.pre w (List.mem_cons_of_mem _ h)
  have hown : s.vm.findClass RX7 = some m.cls := own_of B.named rfl
  have hlocks := B.notSynchronized
  subst hsz
  have hD := hD0.self (sz := s.heap.size)
  generalize hAe : va_A [(arI rF kF 1440 fF), (arI rT kT 90 fT)] s.heap.size = A at hD hE ⊢
  have hA : ∀ q : Nat, s.heap.size ≤ q → A q := fun q h => by rw [← hAe]; exact Or.inr h
  have hS : va_S A s.heap s.heap [] := va_S.rf
  have hl := lv_entry ([.ref rF, .int p0, .ref rT, .int p1, .int p2]) (n := 6) (Nat.le_of_ble_eq_true rfl)
  rw [lg_entry_eq]
  generalize (lg_sl ([.ref rF, .int p0, .ref rT, .int p1, .int p2]) ++ List.replicate (6 - (lg_sl ([.ref rF, .int p0, .ref rT, .int p1, .int p2])).length) Slot.unset).toArray = ls at hl ⊢
  have hl : lv_has ls 6 [(0, .ref rF), (1, .int p0), (2, .ref rT), (3, .int p1), (4, .int p2)] := hl
  refine lv_iconst (v := 0) hx hb dX7_copy_0 (by decide) ?_
  refine lv_istore (lv' := [(5, .int 0), (0, .ref rF), (1, .int p0), (2, .ref rT), (3, .int p1), (4, .int p2)]) hx hb dX7_copy_1 hl (by decide) rfl (fun ls hl => ?_)
  have hl := lv_sub hl (l' := [(5, .int 0), (0, .ref rF), (1, .int p0), (2, .ref rT), (3, .int p1), (4, .int p2)]) [0, 1, 2, 3, 4, 5] rfl
  have key_n_1564 : ∀ (n_1564 : Nat) (z_1562 : Int32) (f_1563 : Nat → Int32) (H : Heap) (locs : List Loc) (ls : Array Slot), (0 ≤ z_1562.toInt ∧ z_1562.toInt ≤ p2.toInt) → (CopyOk fF fT p0.toNatClampNeg p1.toNatClampNeg z_1562.toNatClampNeg f_1563) → (p2.toInt - z_1562.toInt).toNat < n_1564 → va_P (dC, dI) vwCl [(arI rF kF 1440 fF), (arI rT kT 90 f_1563)] H → va_D A [(arI rF kF 1440 fF), (arI rT kT 90 f_1563)] → va_S A s.heap H locs → lv_has ls 6 [(5, .int z_1562), (0, .ref rF), (1, .int p0), (2, .ref rT), (3, .int p1), (4, .int p2)] → W p l e (headSpec (Cond.code yX7_copy cX7_copy 6 none :: wG) ({ frames := 0, cells := 0, slots := 0, locals := 0 })).room s m ([.ref rF, .int p0, .ref rT, .int p1, .int p2] : List Value).toArray below meth c H locs 0 0 (MQ below (va_Qv (fun (_ : Nat) => True) (fun (_ : Nat) (t : State) => ∃ (nfT : Nat → Int32), (CopyOk fF fT p0.toNatClampNeg p1.toNatClampNeg p2.toNatClampNeg nfT) ∧ Bw dC dI A [(arI rF kF 1440 fF), (arI rT kT 90 nfT)] [(kF, .int), (kT, .int)] t) A) ([.ref rF, .int p0, .ref rT, .int p1, .int p2] : List Value).toArray s 0 0 A) (F0 m 3 ls []) := by
    intro n_1564
    induction n_1564 with
    | zero => intro z_1562 f_1563 H locs ls hi0_n_1564 hi1_n_1564 hm; exact absurd hm (Nat.not_lt_zero _)
    | succ n_1564 ih_n_1564 =>
      intro z_1562 f_1563 H locs ls hi0_n_1564 hi1_n_1564 hm_n_1564 hP hD hS hl
      refine lv_iload hx hb dX7_copy_3 (lv_at hl 0 rfl) ?_
      refine lv_iload hx hb dX7_copy_5 (lv_at hl 5 rfl) ?_
      refine lv_icmp_ge (tgt := 28) hx hb dX7_copy_7 (by decide) (fun c_1565 => ?_) (fun c_1565 => ?_)
      · skip
        have gc_1565 := ti_le c_1565 rfl rfl
        exact wq_v hx hb hr 0 trivial (fun t ht hW => ⟨f_1563, (by rw [show p2.toNatClampNeg = z_1562.toNatClampNeg from by have q1 := ti_cl (x := z_1562) rfl (by omega); have q2 := ti_cl (x := p2) rfl (by omega); omega]; assumption), Bw.to hP hD hK ht hW⟩) hS dX7_copy_28 hlocks
      · skip
        have gc_1565 := ti_nle c_1565 rfl rfl
        refine lv_aload_n hx hb dX7_copy_10 rfl (lv_at hl 3 rfl) ?_
        refine lv_iload_n hx hb dX7_copy_11 rfl (lv_at hl 4 rfl) ?_
        refine lv_iload hx hb dX7_copy_12 (lv_at hl 0 rfl) ?_
        refine lv_iadd hx hb dX7_copy_14 ?_
        refine lv_topi (fun x_1566 ex_1566 => ?_)
        have vx_1566 : x_1566.toInt = p1.toInt + z_1562.toInt := ti_add ex_1566 rfl rfl (om_0d98f29e hc0.2.1 hi0_n_1564.1) (om_3f6af94d hc2 gc_1565)
        refine lv_aload_n hx hb dX7_copy_15 rfl (lv_at hl 1 rfl) ?_
        refine lv_iload_n hx hb dX7_copy_16 rfl (lv_at hl 2 rfl) ?_
        refine lv_iload hx hb dX7_copy_17 (lv_at hl 0 rfl) ?_
        refine lv_iadd hx hb dX7_copy_19 ?_
        refine lv_topi (fun x_1567 ex_1567 => ?_)
        have vx_1567 : x_1567.toInt = p0.toInt + z_1562.toInt := ti_add ex_1567 rfl rfl (om_0d98f29e hc0.1 hi0_n_1564.1) (om_05bb8786 hc1 gc_1565)
        refine va_iald hx hb hK hP 0 0 rfl rfl (ti_in vx_1567 (om_da9595ee hc0.1 hi0_n_1564.1) (om_e1605147 hc1 gc_1565)) dX7_copy_20 ?_
        refine lv_topi (fun x_1568 ex_1568 => ?_)
        have kx_1568 : (fF x_1567.toNatClampNeg).toInt = x_1568.toInt := by rw [ex_1568]
        have cx_1568 : (fF (p0.toNatClampNeg + z_1562.toNatClampNeg)).toInt = x_1568.toInt := by rw [show p0.toNatClampNeg + z_1562.toNatClampNeg = x_1567.toNatClampNeg from by have q9 := ti_cl (x := x_1567) vx_1567 (om_da9595ee hc0.1 hi0_n_1564.1); have q_p0 := ti_cl (x := p0) rfl (om_83bd56b0 hc0.1); have q_z_1562 := ti_cl (x := z_1562) rfl (om_83bd56b0 hi0_n_1564.1); omega]; exact kx_1568
        refine va_iast hx hb hK hP hD hS 1 1 rfl rfl (ti_in vx_1566 (om_da9595ee hc0.2.1 hi0_n_1564.1) (om_ad124daf hc2 gc_1565)) dX7_copy_21 (fun H locs hP hD hS => ?_)
        obtain ⟨f_1569, ef_1569⟩ : ∃ g : Nat → Int32, g = upd f_1563 x_1566.toNatClampNeg x_1568 := ⟨_, rfl⟩
        rw [← ef_1569] at hP hD
        obtain ⟨hP, hD⟩ := wl2 (ws' := [(arI rF kF 1440 fF), (arI rT kT 90 f_1569)]) hP hD rfl
        obtain ⟨x_1570, ex_1570⟩ : ∃ z : Int32, z = z_1562 + Int32.ofInt 1 := ⟨_, rfl⟩
        have vx_1570 : x_1570.toInt = z_1562.toInt + 1 := ti_add (y := 1) ex_1570 rfl kc_1 (om_4e4fce7e hi0_n_1564.1) (om_a75df1e7 hc0.2.1 hc2 gc_1565)
        refine lv_iinc (v := x_1570) (lv' := [(5, .int x_1570), (0, .ref rF), (1, .int p0), (2, .ref rT), (3, .int p1), (4, .int p2)]) hx hb dX7_copy_22 hl (k := 0) rfl ex_1570.symm (by decide) rfl (fun ls hl => ?_)
        refine lv_goto (tgt := 3) hx hb dX7_copy_25 (by decide) ?_
        exact ih_n_1564 x_1570 f_1569 _ _ _  ⟨(om_83b90de5 hi0_n_1564.1 vx_1570), (om_afcf07ef gc_1565 vx_1570)⟩ (copy_step hi1_n_1564 ef_1569 (by have q1 := ti_cl (x := x_1566) vx_1566 (om_da9595ee hc0.2.1 hi0_n_1564.1); have q2 := ti_cl (x := p1) rfl (om_83bd56b0 hc0.2.1); have q3 := ti_cl (x := z_1562) rfl (om_83bd56b0 hi0_n_1564.1); omega) (by have q := cx_1568; omega) (by have q1 := ti_cl (x := x_1570) vx_1570 (om_9548a8fd hi0_n_1564.1); have q3 := ti_cl (x := z_1562) rfl (om_83bd56b0 hi0_n_1564.1); omega)) (ms_lt hm_n_1564 (om_dd4ae0bc vx_1570) (om_d5382009 gc_1565)) hP hD hS (lv_sub hl [0, 1, 2, 3, 4, 5] rfl)
  exact key_n_1564 (((p2.toInt - (0 : Int32).toInt).toNat) + 1) 0 fT _ _ _  ⟨(om_b1de7dbe kc_0), (om_2dfe280d hc0.2.2 kc_0)⟩ (by first | assumption | omega | decide | exact copy_zero) (Nat.lt_add_one _) hP hD hS hl
set_option maxHeartbeats 4000000 in
set_option maxRecDepth 100000 in
theorem tX7_copy_90_270 (l : Launch) (dC : Nat → ClassId) (dI : Nat → Nat → Nat) (sz : Nat) (rF : Nat) (fF : Nat → Int32) (kF : ClassId) (rT : Nat) (fT : Nat → Int32) (kT : ClassId) (p0 : Int32) (p1 : Int32) (p2 : Int32)  (hc0 : 0 ≤ p0.toInt ∧ 0 ≤ p1.toInt ∧ 0 ≤ p2.toInt) (hc1 : p0.toInt + p2.toInt ≤ 90) (hc2 : p1.toInt + p2.toInt ≤ 270) : Met l yX7_copy (Cond.code yX7_copy cX7_copy 6 none :: wG) ({ frames := 0, cells := 0, slots := 0, locals := 0 }) (va_Pc [.ref rF, .int p0, .ref rT, .int p1, .int p2] (Pw dC dI sz [(arI rF kF 90 fF), (arI rT kT 270 fT)] [(kF, .int), (kT, .int)])) (va_Qv (fun (_ : Nat) => True) (fun (_ : Nat) (t : State) => ∃ (nfT : Nat → Int32), (CopyOk fF fT p0.toNatClampNeg p1.toNatClampNeg p2.toNatClampNeg nfT) ∧ Bw dC dI (va_A [(arI rF kF 90 fF), (arI rT kT 270 fT)] sz) [(arI rF kF 90 fF), (arI rT kT 270 nfT)] [(kF, .int), (kT, .int)] t) (va_A [(arI rF kF 90 fF), (arI rT kT 270 fT)] sz)) 0 0 (va_A [(arI rF kF 90 fF), (arI rT kT 270 fT)] sz) := by
  refine Met.ofW (cc := cX7_copy) (maxL := 6) (ret := none) pnX7 rfl ?_
  intro p e s m args below meth c s₁ B hml hv
  obtain ⟨rfl, hsz, hP, hK, hD0, hE⟩ := hv
  have hx := B.exec
  have hb := B.bytes
  have hr := B.returns
  have hts : ∀ w ∈ wG, w.before ([.ref rF, .int p0, .ref rT, .int p1, .int p2] : List Value).toArray s = true := fun w h => atoms_spec (ws := Cond.code yX7_copy cX7_copy 6 none :: wG) B.pre w (List.mem_cons_of_mem _ h)
  have hown : s.vm.findClass RX7 = some m.cls := own_of B.named rfl
  have hlocks := B.notSynchronized
  subst hsz
  have hD := hD0.self (sz := s.heap.size)
  generalize hAe : va_A [(arI rF kF 90 fF), (arI rT kT 270 fT)] s.heap.size = A at hD hE ⊢
  have hA : ∀ q : Nat, s.heap.size ≤ q → A q := fun q h => by rw [← hAe]; exact Or.inr h
  have hS : va_S A s.heap s.heap [] := va_S.rf
  have hl := lv_entry ([.ref rF, .int p0, .ref rT, .int p1, .int p2]) (n := 6) (Nat.le_of_ble_eq_true rfl)
  rw [lg_entry_eq]
  generalize (lg_sl ([.ref rF, .int p0, .ref rT, .int p1, .int p2]) ++ List.replicate (6 - (lg_sl ([.ref rF, .int p0, .ref rT, .int p1, .int p2])).length) Slot.unset).toArray = ls at hl ⊢
  have hl : lv_has ls 6 [(0, .ref rF), (1, .int p0), (2, .ref rT), (3, .int p1), (4, .int p2)] := hl
  refine lv_iconst (v := 0) hx hb dX7_copy_0 (by decide) ?_
  refine lv_istore (lv' := [(5, .int 0), (0, .ref rF), (1, .int p0), (2, .ref rT), (3, .int p1), (4, .int p2)]) hx hb dX7_copy_1 hl (by decide) rfl (fun ls hl => ?_)
  have hl := lv_sub hl (l' := [(5, .int 0), (0, .ref rF), (1, .int p0), (2, .ref rT), (3, .int p1), (4, .int p2)]) [0, 1, 2, 3, 4, 5] rfl
  have key_n_1582 : ∀ (n_1582 : Nat) (z_1580 : Int32) (f_1581 : Nat → Int32) (H : Heap) (locs : List Loc) (ls : Array Slot), (0 ≤ z_1580.toInt ∧ z_1580.toInt ≤ p2.toInt) → (CopyOk fF fT p0.toNatClampNeg p1.toNatClampNeg z_1580.toNatClampNeg f_1581) → (p2.toInt - z_1580.toInt).toNat < n_1582 → va_P (dC, dI) vwCl [(arI rF kF 90 fF), (arI rT kT 270 f_1581)] H → va_D A [(arI rF kF 90 fF), (arI rT kT 270 f_1581)] → va_S A s.heap H locs → lv_has ls 6 [(5, .int z_1580), (0, .ref rF), (1, .int p0), (2, .ref rT), (3, .int p1), (4, .int p2)] → W p l e (headSpec (Cond.code yX7_copy cX7_copy 6 none :: wG) ({ frames := 0, cells := 0, slots := 0, locals := 0 })).room s m ([.ref rF, .int p0, .ref rT, .int p1, .int p2] : List Value).toArray below meth c H locs 0 0 (MQ below (va_Qv (fun (_ : Nat) => True) (fun (_ : Nat) (t : State) => ∃ (nfT : Nat → Int32), (CopyOk fF fT p0.toNatClampNeg p1.toNatClampNeg p2.toNatClampNeg nfT) ∧ Bw dC dI A [(arI rF kF 90 fF), (arI rT kT 270 nfT)] [(kF, .int), (kT, .int)] t) A) ([.ref rF, .int p0, .ref rT, .int p1, .int p2] : List Value).toArray s 0 0 A) (F0 m 3 ls []) := by
    intro n_1582
    induction n_1582 with
    | zero => intro z_1580 f_1581 H locs ls hi0_n_1582 hi1_n_1582 hm; exact absurd hm (Nat.not_lt_zero _)
    | succ n_1582 ih_n_1582 =>
      intro z_1580 f_1581 H locs ls hi0_n_1582 hi1_n_1582 hm_n_1582 hP hD hS hl
      refine lv_iload hx hb dX7_copy_3 (lv_at hl 0 rfl) ?_
      refine lv_iload hx hb dX7_copy_5 (lv_at hl 5 rfl) ?_
      refine lv_icmp_ge (tgt := 28) hx hb dX7_copy_7 (by decide) (fun c_1583 => ?_) (fun c_1583 => ?_)
      · skip
        have gc_1583 := ti_le c_1583 rfl rfl
        exact wq_v hx hb hr 0 trivial (fun t ht hW => ⟨f_1581, (by rw [show p2.toNatClampNeg = z_1580.toNatClampNeg from by have q1 := ti_cl (x := z_1580) rfl (by omega); have q2 := ti_cl (x := p2) rfl (by omega); omega]; assumption), Bw.to hP hD hK ht hW⟩) hS dX7_copy_28 hlocks
      · skip
        have gc_1583 := ti_nle c_1583 rfl rfl
        refine lv_aload_n hx hb dX7_copy_10 rfl (lv_at hl 3 rfl) ?_
        refine lv_iload_n hx hb dX7_copy_11 rfl (lv_at hl 4 rfl) ?_
        refine lv_iload hx hb dX7_copy_12 (lv_at hl 0 rfl) ?_
        refine lv_iadd hx hb dX7_copy_14 ?_
        refine lv_topi (fun x_1584 ex_1584 => ?_)
        have vx_1584 : x_1584.toInt = p1.toInt + z_1580.toInt := ti_add ex_1584 rfl rfl (om_0d98f29e hc0.2.1 hi0_n_1582.1) (om_ce8323e6 hc2 gc_1583)
        refine lv_aload_n hx hb dX7_copy_15 rfl (lv_at hl 1 rfl) ?_
        refine lv_iload_n hx hb dX7_copy_16 rfl (lv_at hl 2 rfl) ?_
        refine lv_iload hx hb dX7_copy_17 (lv_at hl 0 rfl) ?_
        refine lv_iadd hx hb dX7_copy_19 ?_
        refine lv_topi (fun x_1585 ex_1585 => ?_)
        have vx_1585 : x_1585.toInt = p0.toInt + z_1580.toInt := ti_add ex_1585 rfl rfl (om_0d98f29e hc0.1 hi0_n_1582.1) (om_3f6af94d hc1 gc_1583)
        refine va_iald hx hb hK hP 0 0 rfl rfl (ti_in vx_1585 (om_da9595ee hc0.1 hi0_n_1582.1) (om_ad124daf hc1 gc_1583)) dX7_copy_20 ?_
        refine lv_topi (fun x_1586 ex_1586 => ?_)
        have kx_1586 : (fF x_1585.toNatClampNeg).toInt = x_1586.toInt := by rw [ex_1586]
        have cx_1586 : (fF (p0.toNatClampNeg + z_1580.toNatClampNeg)).toInt = x_1586.toInt := by rw [show p0.toNatClampNeg + z_1580.toNatClampNeg = x_1585.toNatClampNeg from by have q9 := ti_cl (x := x_1585) vx_1585 (om_da9595ee hc0.1 hi0_n_1582.1); have q_p0 := ti_cl (x := p0) rfl (om_83bd56b0 hc0.1); have q_z_1580 := ti_cl (x := z_1580) rfl (om_83bd56b0 hi0_n_1582.1); omega]; exact kx_1586
        refine va_iast hx hb hK hP hD hS 1 1 rfl rfl (ti_in vx_1584 (om_da9595ee hc0.2.1 hi0_n_1582.1) (om_08b9ba93 hc2 gc_1583)) dX7_copy_21 (fun H locs hP hD hS => ?_)
        obtain ⟨f_1587, ef_1587⟩ : ∃ g : Nat → Int32, g = upd f_1581 x_1584.toNatClampNeg x_1586 := ⟨_, rfl⟩
        rw [← ef_1587] at hP hD
        obtain ⟨hP, hD⟩ := wl2 (ws' := [(arI rF kF 90 fF), (arI rT kT 270 f_1587)]) hP hD rfl
        obtain ⟨x_1588, ex_1588⟩ : ∃ z : Int32, z = z_1580 + Int32.ofInt 1 := ⟨_, rfl⟩
        have vx_1588 : x_1588.toInt = z_1580.toInt + 1 := ti_add (y := 1) ex_1588 rfl kc_1 (om_4e4fce7e hi0_n_1582.1) (om_2ebab32a hc0.2.1 hc2 gc_1583)
        refine lv_iinc (v := x_1588) (lv' := [(5, .int x_1588), (0, .ref rF), (1, .int p0), (2, .ref rT), (3, .int p1), (4, .int p2)]) hx hb dX7_copy_22 hl (k := 0) rfl ex_1588.symm (by decide) rfl (fun ls hl => ?_)
        refine lv_goto (tgt := 3) hx hb dX7_copy_25 (by decide) ?_
        exact ih_n_1582 x_1588 f_1587 _ _ _  ⟨(om_83b90de5 hi0_n_1582.1 vx_1588), (om_afcf07ef gc_1583 vx_1588)⟩ (copy_step hi1_n_1582 ef_1587 (by have q1 := ti_cl (x := x_1584) vx_1584 (om_da9595ee hc0.2.1 hi0_n_1582.1); have q2 := ti_cl (x := p1) rfl (om_83bd56b0 hc0.2.1); have q3 := ti_cl (x := z_1580) rfl (om_83bd56b0 hi0_n_1582.1); omega) (by have q := cx_1586; omega) (by have q1 := ti_cl (x := x_1588) vx_1588 (om_9548a8fd hi0_n_1582.1); have q3 := ti_cl (x := z_1580) rfl (om_83bd56b0 hi0_n_1582.1); omega)) (ms_lt hm_n_1582 (om_dd4ae0bc vx_1588) (om_d5382009 gc_1583)) hP hD hS (lv_sub hl [0, 1, 2, 3, 4, 5] rfl)
  exact key_n_1582 (((p2.toInt - (0 : Int32).toInt).toNat) + 1) 0 fT _ _ _  ⟨(om_b1de7dbe kc_0), (om_2dfe280d hc0.2.2 kc_0)⟩ (by first | assumption | omega | decide | exact copy_zero) (Nat.lt_add_one _) hP hD hS hl
set_option maxHeartbeats 4000000 in
set_option maxRecDepth 100000 in
theorem tX7_copy_270_90 (l : Launch) (dC : Nat → ClassId) (dI : Nat → Nat → Nat) (sz : Nat) (rF : Nat) (fF : Nat → Int32) (kF : ClassId) (rT : Nat) (fT : Nat → Int32) (kT : ClassId) (p0 : Int32) (p1 : Int32) (p2 : Int32)  (hc0 : 0 ≤ p0.toInt ∧ 0 ≤ p1.toInt ∧ 0 ≤ p2.toInt) (hc1 : p0.toInt + p2.toInt ≤ 270) (hc2 : p1.toInt + p2.toInt ≤ 90) : Met l yX7_copy (Cond.code yX7_copy cX7_copy 6 none :: wG) ({ frames := 0, cells := 0, slots := 0, locals := 0 }) (va_Pc [.ref rF, .int p0, .ref rT, .int p1, .int p2] (Pw dC dI sz [(arI rF kF 270 fF), (arI rT kT 90 fT)] [(kF, .int), (kT, .int)])) (va_Qv (fun (_ : Nat) => True) (fun (_ : Nat) (t : State) => ∃ (nfT : Nat → Int32), (CopyOk fF fT p0.toNatClampNeg p1.toNatClampNeg p2.toNatClampNeg nfT) ∧ Bw dC dI (va_A [(arI rF kF 270 fF), (arI rT kT 90 fT)] sz) [(arI rF kF 270 fF), (arI rT kT 90 nfT)] [(kF, .int), (kT, .int)] t) (va_A [(arI rF kF 270 fF), (arI rT kT 90 fT)] sz)) 0 0 (va_A [(arI rF kF 270 fF), (arI rT kT 90 fT)] sz) := by
  refine Met.ofW (cc := cX7_copy) (maxL := 6) (ret := none) pnX7 rfl ?_
  intro p e s m args below meth c s₁ B hml hv
  obtain ⟨rfl, hsz, hP, hK, hD0, hE⟩ := hv
  have hx := B.exec
  have hb := B.bytes
  have hr := B.returns
  have hts : ∀ w ∈ wG, w.before ([.ref rF, .int p0, .ref rT, .int p1, .int p2] : List Value).toArray s = true := fun w h => atoms_spec (ws := Cond.code yX7_copy cX7_copy 6 none :: wG) B.pre w (List.mem_cons_of_mem _ h)
  have hown : s.vm.findClass RX7 = some m.cls := own_of B.named rfl
  have hlocks := B.notSynchronized
  subst hsz
  have hD := hD0.self (sz := s.heap.size)
  generalize hAe : va_A [(arI rF kF 270 fF), (arI rT kT 90 fT)] s.heap.size = A at hD hE ⊢
  have hA : ∀ q : Nat, s.heap.size ≤ q → A q := fun q h => by rw [← hAe]; exact Or.inr h
  have hS : va_S A s.heap s.heap [] := va_S.rf
  have hl := lv_entry ([.ref rF, .int p0, .ref rT, .int p1, .int p2]) (n := 6) (Nat.le_of_ble_eq_true rfl)
  rw [lg_entry_eq]
  generalize (lg_sl ([.ref rF, .int p0, .ref rT, .int p1, .int p2]) ++ List.replicate (6 - (lg_sl ([.ref rF, .int p0, .ref rT, .int p1, .int p2])).length) Slot.unset).toArray = ls at hl ⊢
  have hl : lv_has ls 6 [(0, .ref rF), (1, .int p0), (2, .ref rT), (3, .int p1), (4, .int p2)] := hl
  refine lv_iconst (v := 0) hx hb dX7_copy_0 (by decide) ?_
  refine lv_istore (lv' := [(5, .int 0), (0, .ref rF), (1, .int p0), (2, .ref rT), (3, .int p1), (4, .int p2)]) hx hb dX7_copy_1 hl (by decide) rfl (fun ls hl => ?_)
  have hl := lv_sub hl (l' := [(5, .int 0), (0, .ref rF), (1, .int p0), (2, .ref rT), (3, .int p1), (4, .int p2)]) [0, 1, 2, 3, 4, 5] rfl
  have key_n_1600 : ∀ (n_1600 : Nat) (z_1598 : Int32) (f_1599 : Nat → Int32) (H : Heap) (locs : List Loc) (ls : Array Slot), (0 ≤ z_1598.toInt ∧ z_1598.toInt ≤ p2.toInt) → (CopyOk fF fT p0.toNatClampNeg p1.toNatClampNeg z_1598.toNatClampNeg f_1599) → (p2.toInt - z_1598.toInt).toNat < n_1600 → va_P (dC, dI) vwCl [(arI rF kF 270 fF), (arI rT kT 90 f_1599)] H → va_D A [(arI rF kF 270 fF), (arI rT kT 90 f_1599)] → va_S A s.heap H locs → lv_has ls 6 [(5, .int z_1598), (0, .ref rF), (1, .int p0), (2, .ref rT), (3, .int p1), (4, .int p2)] → W p l e (headSpec (Cond.code yX7_copy cX7_copy 6 none :: wG) ({ frames := 0, cells := 0, slots := 0, locals := 0 })).room s m ([.ref rF, .int p0, .ref rT, .int p1, .int p2] : List Value).toArray below meth c H locs 0 0 (MQ below (va_Qv (fun (_ : Nat) => True) (fun (_ : Nat) (t : State) => ∃ (nfT : Nat → Int32), (CopyOk fF fT p0.toNatClampNeg p1.toNatClampNeg p2.toNatClampNeg nfT) ∧ Bw dC dI A [(arI rF kF 270 fF), (arI rT kT 90 nfT)] [(kF, .int), (kT, .int)] t) A) ([.ref rF, .int p0, .ref rT, .int p1, .int p2] : List Value).toArray s 0 0 A) (F0 m 3 ls []) := by
    intro n_1600
    induction n_1600 with
    | zero => intro z_1598 f_1599 H locs ls hi0_n_1600 hi1_n_1600 hm; exact absurd hm (Nat.not_lt_zero _)
    | succ n_1600 ih_n_1600 =>
      intro z_1598 f_1599 H locs ls hi0_n_1600 hi1_n_1600 hm_n_1600 hP hD hS hl
      refine lv_iload hx hb dX7_copy_3 (lv_at hl 0 rfl) ?_
      refine lv_iload hx hb dX7_copy_5 (lv_at hl 5 rfl) ?_
      refine lv_icmp_ge (tgt := 28) hx hb dX7_copy_7 (by decide) (fun c_1601 => ?_) (fun c_1601 => ?_)
      · skip
        have gc_1601 := ti_le c_1601 rfl rfl
        exact wq_v hx hb hr 0 trivial (fun t ht hW => ⟨f_1599, (by rw [show p2.toNatClampNeg = z_1598.toNatClampNeg from by have q1 := ti_cl (x := z_1598) rfl (by omega); have q2 := ti_cl (x := p2) rfl (by omega); omega]; assumption), Bw.to hP hD hK ht hW⟩) hS dX7_copy_28 hlocks
      · skip
        have gc_1601 := ti_nle c_1601 rfl rfl
        refine lv_aload_n hx hb dX7_copy_10 rfl (lv_at hl 3 rfl) ?_
        refine lv_iload_n hx hb dX7_copy_11 rfl (lv_at hl 4 rfl) ?_
        refine lv_iload hx hb dX7_copy_12 (lv_at hl 0 rfl) ?_
        refine lv_iadd hx hb dX7_copy_14 ?_
        refine lv_topi (fun x_1602 ex_1602 => ?_)
        have vx_1602 : x_1602.toInt = p1.toInt + z_1598.toInt := ti_add ex_1602 rfl rfl (om_0d98f29e hc0.2.1 hi0_n_1600.1) (om_3f6af94d hc2 gc_1601)
        refine lv_aload_n hx hb dX7_copy_15 rfl (lv_at hl 1 rfl) ?_
        refine lv_iload_n hx hb dX7_copy_16 rfl (lv_at hl 2 rfl) ?_
        refine lv_iload hx hb dX7_copy_17 (lv_at hl 0 rfl) ?_
        refine lv_iadd hx hb dX7_copy_19 ?_
        refine lv_topi (fun x_1603 ex_1603 => ?_)
        have vx_1603 : x_1603.toInt = p0.toInt + z_1598.toInt := ti_add ex_1603 rfl rfl (om_0d98f29e hc0.1 hi0_n_1600.1) (om_ce8323e6 hc1 gc_1601)
        refine va_iald hx hb hK hP 0 0 rfl rfl (ti_in vx_1603 (om_da9595ee hc0.1 hi0_n_1600.1) (om_08b9ba93 hc1 gc_1601)) dX7_copy_20 ?_
        refine lv_topi (fun x_1604 ex_1604 => ?_)
        have kx_1604 : (fF x_1603.toNatClampNeg).toInt = x_1604.toInt := by rw [ex_1604]
        have cx_1604 : (fF (p0.toNatClampNeg + z_1598.toNatClampNeg)).toInt = x_1604.toInt := by rw [show p0.toNatClampNeg + z_1598.toNatClampNeg = x_1603.toNatClampNeg from by have q9 := ti_cl (x := x_1603) vx_1603 (om_da9595ee hc0.1 hi0_n_1600.1); have q_p0 := ti_cl (x := p0) rfl (om_83bd56b0 hc0.1); have q_z_1598 := ti_cl (x := z_1598) rfl (om_83bd56b0 hi0_n_1600.1); omega]; exact kx_1604
        refine va_iast hx hb hK hP hD hS 1 1 rfl rfl (ti_in vx_1602 (om_da9595ee hc0.2.1 hi0_n_1600.1) (om_ad124daf hc2 gc_1601)) dX7_copy_21 (fun H locs hP hD hS => ?_)
        obtain ⟨f_1605, ef_1605⟩ : ∃ g : Nat → Int32, g = upd f_1599 x_1602.toNatClampNeg x_1604 := ⟨_, rfl⟩
        rw [← ef_1605] at hP hD
        obtain ⟨hP, hD⟩ := wl2 (ws' := [(arI rF kF 270 fF), (arI rT kT 90 f_1605)]) hP hD rfl
        obtain ⟨x_1606, ex_1606⟩ : ∃ z : Int32, z = z_1598 + Int32.ofInt 1 := ⟨_, rfl⟩
        have vx_1606 : x_1606.toInt = z_1598.toInt + 1 := ti_add (y := 1) ex_1606 rfl kc_1 (om_4e4fce7e hi0_n_1600.1) (om_a75df1e7 hc0.2.1 hc2 gc_1601)
        refine lv_iinc (v := x_1606) (lv' := [(5, .int x_1606), (0, .ref rF), (1, .int p0), (2, .ref rT), (3, .int p1), (4, .int p2)]) hx hb dX7_copy_22 hl (k := 0) rfl ex_1606.symm (by decide) rfl (fun ls hl => ?_)
        refine lv_goto (tgt := 3) hx hb dX7_copy_25 (by decide) ?_
        exact ih_n_1600 x_1606 f_1605 _ _ _  ⟨(om_83b90de5 hi0_n_1600.1 vx_1606), (om_afcf07ef gc_1601 vx_1606)⟩ (copy_step hi1_n_1600 ef_1605 (by have q1 := ti_cl (x := x_1602) vx_1602 (om_da9595ee hc0.2.1 hi0_n_1600.1); have q2 := ti_cl (x := p1) rfl (om_83bd56b0 hc0.2.1); have q3 := ti_cl (x := z_1598) rfl (om_83bd56b0 hi0_n_1600.1); omega) (by have q := cx_1604; omega) (by have q1 := ti_cl (x := x_1606) vx_1606 (om_9548a8fd hi0_n_1600.1); have q3 := ti_cl (x := z_1598) rfl (om_83bd56b0 hi0_n_1600.1); omega)) (ms_lt hm_n_1600 (om_dd4ae0bc vx_1606) (om_d5382009 gc_1601)) hP hD hS (lv_sub hl [0, 1, 2, 3, 4, 5] rfl)
  exact key_n_1600 (((p2.toInt - (0 : Int32).toInt).toNat) + 1) 0 fT _ _ _  ⟨(om_b1de7dbe kc_0), (om_2dfe280d hc0.2.2 kc_0)⟩ (by first | assumption | omega | decide | exact copy_zero) (Nat.lt_add_one _) hP hD hS hl
