set_option maxHeartbeats 4000000 in
set_option maxRecDepth 100000 in
theorem tX7_copy_90_90 (l : Launch) (dC : Nat → ClassId) (dI : Nat → Nat → Nat) (sz : Nat) (rF : Nat) (fF : Nat → Int32) (kF : ClassId) (rT : Nat) (fT : Nat → Int32) (kT : ClassId) (p0 : Int32) (p1 : Int32) (p2 : Int32)  (hc0 : 0 ≤ p0.toInt ∧ 0 ≤ p1.toInt ∧ 0 ≤ p2.toInt) (hc1 : p0.toInt + p2.toInt ≤ 90) (hc2 : p1.toInt + p2.toInt ≤ 90) : Met l yX7_copy (Cond.code yX7_copy cX7_copy 6 none :: wG) ({ frames := 0, cells := 0, slots := 0, locals := 0 }) (va_Pc [.ref rF, .int p0, .ref rT, .int p1, .int p2] (Pw dC dI sz [(arI rF kF 90 fF), (arI rT kT 90 fT)] [(kF, .int), (kT, .int)])) (va_Qv (fun (_ : Nat) => True) (fun (_ : Nat) (t : State) => ∃ (nfT : Nat → Int32), (CopyOk fF fT p0.toNatClampNeg p1.toNatClampNeg p2.toNatClampNeg nfT) ∧ Bw dC dI (va_A [(arI rF kF 90 fF), (arI rT kT 90 fT)] sz) [(arI rF kF 90 fF), (arI rT kT 90 nfT)] [(kF, .int), (kT, .int)] t) (va_A [(arI rF kF 90 fF), (arI rT kT 90 fT)] sz)) 0 0 (va_A [(arI rF kF 90 fF), (arI rT kT 90 fT)] sz) := by
  refine Met.ofW (cc := cX7_copy) (maxL := 6) (ret := none) pnX7 rfl ?_
  intro p e s m args below meth c s₁ B hml hv
  obtain ⟨rfl, hsz, hP, hK, hD0, hE⟩ := hv
  have hx := B.exec
  have hb := B.bytes
  have hr := B.returns
  have hts : ∀ w ∈ wG, w.before ([.ref rF, .int p0, .ref rT, .int p1, .int p2] : List Value).toArray s = true := fun w h => atoms_spec (ws := Cond.code yX7_copy cX7_copy 6 none :: wG) B.pre w (List.mem_cons_of_mem _ h)
  have hown : s.vm.findClass RX7 = some m.cls := own_of B.named rfl
  have hlocks := B.notSynchronized
  subst hsz
  have hD := hD0.self (sz := s.heap.size)
  generalize hAe : va_A [(arI rF kF 90 fF), (arI rT kT 90 fT)] s.heap.size = A at hD hE ⊢
  have hA : ∀ q : Nat, s.heap.size ≤ q → A q := fun q h => by rw [← hAe]; exact Or.inr h
  have hS : va_S A s.heap s.heap [] := va_S.rf
  have hl := lv_entry ([.ref rF, .int p0, .ref rT, .int p1, .int p2]) (n := 6) (Nat.le_of_ble_eq_true rfl)
  rw [lg_entry_eq]
  generalize (lg_sl ([.ref rF, .int p0, .ref rT, .int p1, .int p2]) ++ List.replicate (6 - (lg_sl ([.ref rF, .int p0, .ref rT, .int p1, .int p2])).length) Slot.unset).toArray = ls at hl ⊢
  have hl : lv_has ls 6 [(0, .ref rF), (1, .int p0), (2, .ref rT), (3, .int p1), (4, .int p2)] := hl
  refine lv_iconst (v := 0) hx hb dX7_copy_0 (by decide) ?_
  refine lv_istore (lv' := [(5, .int 0), (0, .ref rF), (1, .int p0), (2, .ref rT), (3, .int p1), (4, .int p2)]) hx hb dX7_copy_1 hl (by decide) rfl (fun ls hl => ?_)
  have hl := lv_sub hl (l' := [(5, .int 0), (0, .ref rF), (1, .int p0), (2, .ref rT), (3, .int p1), (4, .int p2)]) [0, 1, 2, 3, 4, 5] rfl
  have key_n_1475 : ∀ (n_1475 : Nat) (z_1473 : Int32) (f_1474 : Nat → Int32) (H : Heap) (locs : List Loc) (ls : Array Slot), (0 ≤ z_1473.toInt ∧ z_1473.toInt ≤ p2.toInt) → (CopyOk fF fT p0.toNatClampNeg p1.toNatClampNeg z_1473.toNatClampNeg f_1474) → (p2.toInt - z_1473.toInt).toNat < n_1475 → va_P (dC, dI) vwCl [(arI rF kF 90 fF), (arI rT kT 90 f_1474)] H → va_D A [(arI rF kF 90 fF), (arI rT kT 90 f_1474)] → va_S A s.heap H locs → lv_has ls 6 [(5, .int z_1473), (0, .ref rF), (1, .int p0), (2, .ref rT), (3, .int p1), (4, .int p2)] → W p l e (headSpec (Cond.code yX7_copy cX7_copy 6 none :: wG) ({ frames := 0, cells := 0, slots := 0, locals := 0 })).room s m ([.ref rF, .int p0, .ref rT, .int p1, .int p2] : List Value).toArray below meth c H locs 0 0 (MQ below (va_Qv (fun (_ : Nat) => True) (fun (_ : Nat) (t : State) => ∃ (nfT : Nat → Int32), (CopyOk fF fT p0.toNatClampNeg p1.toNatClampNeg p2.toNatClampNeg nfT) ∧ Bw dC dI A [(arI rF kF 90 fF), (arI rT kT 90 nfT)] [(kF, .int), (kT, .int)] t) A) ([.ref rF, .int p0, .ref rT, .int p1, .int p2] : List Value).toArray s 0 0 A) (F0 m 3 ls []) := by
    intro n_1475
    induction n_1475 with
    | zero => intro z_1473 f_1474 H locs ls hi0_n_1475 hi1_n_1475 hm; exact absurd hm (Nat.not_lt_zero _)
    | succ n_1475 ih_n_1475 =>
      intro z_1473 f_1474 H locs ls hi0_n_1475 hi1_n_1475 hm_n_1475 hP hD hS hl
      refine lv_iload hx hb dX7_copy_3 (lv_at hl 0 rfl) ?_
      refine lv_iload hx hb dX7_copy_5 (lv_at hl 5 rfl) ?_
      refine lv_icmp_ge (tgt := 28) hx hb dX7_copy_7 (by decide) (fun c_1476 => ?_) (fun c_1476 => ?_)
      · skip
        have gc_1476 := ti_le c_1476 rfl rfl
        exact wq_v hx hb hr 0 trivial (fun t ht hW => ⟨f_1474, (by rw [show p2.toNatClampNeg = z_1473.toNatClampNeg from by have q1 := ti_cl (x := z_1473) rfl (by omega); have q2 := ti_cl (x := p2) rfl (by omega); omega]; assumption), Bw.to hP hD hK ht hW⟩) hS dX7_copy_28 hlocks
      · skip
        have gc_1476 := ti_nle c_1476 rfl rfl
        refine lv_aload_n hx hb dX7_copy_10 rfl (lv_at hl 3 rfl) ?_
        refine lv_iload_n hx hb dX7_copy_11 rfl (lv_at hl 4 rfl) ?_
        refine lv_iload hx hb dX7_copy_12 (lv_at hl 0 rfl) ?_
        refine lv_iadd hx hb dX7_copy_14 ?_
        refine lv_topi (fun x_1477 ex_1477 => ?_)
        have vx_1477 : x_1477.toInt = p1.toInt + z_1473.toInt := ti_add ex_1477 rfl rfl (om_0d98f29e hc0.2.1 hi0_n_1475.1) (om_8bd45658 hc2 hi0_n_1475.2)
        refine lv_aload_n hx hb dX7_copy_15 rfl (lv_at hl 1 rfl) ?_
        refine lv_iload_n hx hb dX7_copy_16 rfl (lv_at hl 2 rfl) ?_
        refine lv_iload hx hb dX7_copy_17 (lv_at hl 0 rfl) ?_
        refine lv_iadd hx hb dX7_copy_19 ?_
        refine lv_topi (fun x_1478 ex_1478 => ?_)
        have vx_1478 : x_1478.toInt = p0.toInt + z_1473.toInt := ti_add ex_1478 rfl rfl (om_0d98f29e hc0.1 hi0_n_1475.1) (om_8bd45658 hc1 hi0_n_1475.2)
        refine va_iald hx hb hK hP 0 0 rfl rfl (ti_in vx_1478 (om_da9595ee hc0.1 hi0_n_1475.1) (om_ad124daf hc1 gc_1476)) dX7_copy_20 ?_
        refine lv_topi (fun x_1479 ex_1479 => ?_)
        have kx_1479 : (fF x_1478.toNatClampNeg).toInt = x_1479.toInt := by rw [ex_1479]
        have cx_1479 : (fF (p0.toNatClampNeg + z_1473.toNatClampNeg)).toInt = x_1479.toInt := by rw [show p0.toNatClampNeg + z_1473.toNatClampNeg = x_1478.toNatClampNeg from (om_08ccee3a (ti_cl (x := p0) rfl hc0.1) (ti_cl (x := z_1473) rfl hi0_n_1475.1) (ti_cl (x := x_1478) vx_1478 (om_da9595ee hc0.1 hi0_n_1475.1)))]; exact kx_1479
        refine va_iast hx hb hK hP hD hS 1 1 rfl rfl (ti_in vx_1477 (om_da9595ee hc0.2.1 hi0_n_1475.1) (om_ad124daf hc2 gc_1476)) dX7_copy_21 (fun H locs hP hD hS => ?_)
        obtain ⟨f_1480, ef_1480⟩ : ∃ g : Nat → Int32, g = upd f_1474 x_1477.toNatClampNeg x_1479 := ⟨_, rfl⟩
        rw [← ef_1480] at hP hD
        obtain ⟨hP, hD⟩ := wl2 (ws' := [(arI rF kF 90 fF), (arI rT kT 90 f_1480)]) hP hD rfl
        obtain ⟨x_1481, ex_1481⟩ : ∃ z : Int32, z = z_1473 + Int32.ofInt 1 := ⟨_, rfl⟩
        have vx_1481 : x_1481.toInt = z_1473.toInt + 1 := ti_add (y := 1) ex_1481 rfl kc_1 (om_4e4fce7e hi0_n_1475.1) (om_e7f5d8f5 hc0.1 hc1 hi0_n_1475.2)
        refine lv_iinc (v := x_1481) (lv' := [(5, .int x_1481), (0, .ref rF), (1, .int p0), (2, .ref rT), (3, .int p1), (4, .int p2)]) hx hb dX7_copy_22 hl (k := 0) rfl ex_1481.symm (by decide) rfl (fun ls hl => ?_)
        refine lv_goto (tgt := 3) hx hb dX7_copy_25 (by decide) ?_
        exact ih_n_1475 x_1481 f_1480 _ _ _  ⟨(om_83b90de5 hi0_n_1475.1 vx_1481), (om_afcf07ef gc_1476 vx_1481)⟩ (copy_step hi1_n_1475 ef_1480 (by have q1 := ti_cl (x := x_1477) vx_1477 (om_da9595ee hc0.2.1 hi0_n_1475.1); have q2 := ti_cl (x := p1) rfl hc0.2.1; have q3 := ti_cl (x := z_1473) rfl hi0_n_1475.1; omega) (by have q := cx_1479; omega) (by have q1 := ti_cl (x := x_1481) vx_1481 (om_9548a8fd hi0_n_1475.1); have q3 := ti_cl (x := z_1473) rfl hi0_n_1475.1; omega)) (ms_lt hm_n_1475 (om_dd4ae0bc vx_1481) (om_d5382009 gc_1476)) hP hD hS (lv_sub hl [0, 1, 2, 3, 4, 5] rfl)
  exact key_n_1475 (((p2.toInt - (0 : Int32).toInt).toNat) + 1) 0 fT _ _ _  ⟨(om_b1de7dbe kc_0), (om_2dfe280d hc0.2.2 kc_0)⟩ (by first | assumption | omega | decide | exact copy_zero) (Nat.lt_add_one _) hP hD hS hl
set_option maxHeartbeats 4000000 in
set_option maxRecDepth 100000 in
theorem tX7_copy_8_8 (l : Launch) (dC : Nat → ClassId) (dI : Nat → Nat → Nat) (sz : Nat) (rF : Nat) (fF : Nat → Int32) (kF : ClassId) (rT : Nat) (fT : Nat → Int32) (kT : ClassId) (p0 : Int32) (p1 : Int32) (p2 : Int32)  (hc0 : 0 ≤ p0.toInt ∧ 0 ≤ p1.toInt ∧ 0 ≤ p2.toInt) (hc1 : p0.toInt + p2.toInt ≤ 8) (hc2 : p1.toInt + p2.toInt ≤ 8) : Met l yX7_copy (Cond.code yX7_copy cX7_copy 6 none :: wG) ({ frames := 0, cells := 0, slots := 0, locals := 0 }) (va_Pc [.ref rF, .int p0, .ref rT, .int p1, .int p2] (Pw dC dI sz [(arI rF kF 8 fF), (arI rT kT 8 fT)] [(kF, .int), (kT, .int)])) (va_Qv (fun (_ : Nat) => True) (fun (_ : Nat) (t : State) => ∃ (nfT : Nat → Int32), (CopyOk fF fT p0.toNatClampNeg p1.toNatClampNeg p2.toNatClampNeg nfT) ∧ Bw dC dI (va_A [(arI rF kF 8 fF), (arI rT kT 8 fT)] sz) [(arI rF kF 8 fF), (arI rT kT 8 nfT)] [(kF, .int), (kT, .int)] t) (va_A [(arI rF kF 8 fF), (arI rT kT 8 fT)] sz)) 0 0 (va_A [(arI rF kF 8 fF), (arI rT kT 8 fT)] sz) := by
  refine Met.ofW (cc := cX7_copy) (maxL := 6) (ret := none) pnX7 rfl ?_
  intro p e s m args below meth c s₁ B hml hv
  obtain ⟨rfl, hsz, hP, hK, hD0, hE⟩ := hv
  have hx := B.exec
  have hb := B.bytes
  have hr := B.returns
  have hts : ∀ w ∈ wG, w.before ([.ref rF, .int p0, .ref rT, .int p1, .int p2] : List Value).toArray s = true := fun w h => atoms_spec (ws := Cond.code yX7_copy cX7_copy 6 none :: wG) B.pre w (List.mem_cons_of_mem _ h)
  have hown : s.vm.findClass RX7 = some m.cls := own_of B.named rfl
  have hlocks := B.notSynchronized
  subst hsz
  have hD := hD0.self (sz := s.heap.size)
  generalize hAe : va_A [(arI rF kF 8 fF), (arI rT kT 8 fT)] s.heap.size = A at hD hE ⊢
  have hA : ∀ q : Nat, s.heap.size ≤ q → A q := fun q h => by rw [← hAe]; exact Or.inr h
  have hS : va_S A s.heap s.heap [] := va_S.rf
  have hl := lv_entry ([.ref rF, .int p0, .ref rT, .int p1, .int p2]) (n := 6) (Nat.le_of_ble_eq_true rfl)
  rw [lg_entry_eq]
  generalize (lg_sl ([.ref rF, .int p0, .ref rT, .int p1, .int p2]) ++ List.replicate (6 - (lg_sl ([.ref rF, .int p0, .ref rT, .int p1, .int p2])).length) Slot.unset).toArray = ls at hl ⊢
  have hl : lv_has ls 6 [(0, .ref rF), (1, .int p0), (2, .ref rT), (3, .int p1), (4, .int p2)] := hl
  refine lv_iconst (v := 0) hx hb dX7_copy_0 (by decide) ?_
  refine lv_istore (lv' := [(5, .int 0), (0, .ref rF), (1, .int p0), (2, .ref rT), (3, .int p1), (4, .int p2)]) hx hb dX7_copy_1 hl (by decide) rfl (fun ls hl => ?_)
  have hl := lv_sub hl (l' := [(5, .int 0), (0, .ref rF), (1, .int p0), (2, .ref rT), (3, .int p1), (4, .int p2)]) [0, 1, 2, 3, 4, 5] rfl
  have key_n_1493 : ∀ (n_1493 : Nat) (z_1491 : Int32) (f_1492 : Nat → Int32) (H : Heap) (locs : List Loc) (ls : Array Slot), (0 ≤ z_1491.toInt ∧ z_1491.toInt ≤ p2.toInt) → (CopyOk fF fT p0.toNatClampNeg p1.toNatClampNeg z_1491.toNatClampNeg f_1492) → (p2.toInt - z_1491.toInt).toNat < n_1493 → va_P (dC, dI) vwCl [(arI rF kF 8 fF), (arI rT kT 8 f_1492)] H → va_D A [(arI rF kF 8 fF), (arI rT kT 8 f_1492)] → va_S A s.heap H locs → lv_has ls 6 [(5, .int z_1491), (0, .ref rF), (1, .int p0), (2, .ref rT), (3, .int p1), (4, .int p2)] → W p l e (headSpec (Cond.code yX7_copy cX7_copy 6 none :: wG) ({ frames := 0, cells := 0, slots := 0, locals := 0 })).room s m ([.ref rF, .int p0, .ref rT, .int p1, .int p2] : List Value).toArray below meth c H locs 0 0 (MQ below (va_Qv (fun (_ : Nat) => True) (fun (_ : Nat) (t : State) => ∃ (nfT : Nat → Int32), (CopyOk fF fT p0.toNatClampNeg p1.toNatClampNeg p2.toNatClampNeg nfT) ∧ Bw dC dI A [(arI rF kF 8 fF), (arI rT kT 8 nfT)] [(kF, .int), (kT, .int)] t) A) ([.ref rF, .int p0, .ref rT, .int p1, .int p2] : List Value).toArray s 0 0 A) (F0 m 3 ls []) := by
    intro n_1493
    induction n_1493 with
    | zero => intro z_1491 f_1492 H locs ls hi0_n_1493 hi1_n_1493 hm; exact absurd hm (Nat.not_lt_zero _)
    | succ n_1493 ih_n_1493 =>
      intro z_1491 f_1492 H locs ls hi0_n_1493 hi1_n_1493 hm_n_1493 hP hD hS hl
      refine lv_iload hx hb dX7_copy_3 (lv_at hl 0 rfl) ?_
      refine lv_iload hx hb dX7_copy_5 (lv_at hl 5 rfl) ?_
      refine lv_icmp_ge (tgt := 28) hx hb dX7_copy_7 (by decide) (fun c_1494 => ?_) (fun c_1494 => ?_)
      · skip
        have gc_1494 := ti_le c_1494 rfl rfl
        exact wq_v hx hb hr 0 trivial (fun t ht hW => ⟨f_1492, (by rw [show p2.toNatClampNeg = z_1491.toNatClampNeg from by have q1 := ti_cl (x := z_1491) rfl (by omega); have q2 := ti_cl (x := p2) rfl (by omega); omega]; assumption), Bw.to hP hD hK ht hW⟩) hS dX7_copy_28 hlocks
      · skip
        have gc_1494 := ti_nle c_1494 rfl rfl
        refine lv_aload_n hx hb dX7_copy_10 rfl (lv_at hl 3 rfl) ?_
        refine lv_iload_n hx hb dX7_copy_11 rfl (lv_at hl 4 rfl) ?_
        refine lv_iload hx hb dX7_copy_12 (lv_at hl 0 rfl) ?_
        refine lv_iadd hx hb dX7_copy_14 ?_
        refine lv_topi (fun x_1495 ex_1495 => ?_)
        have vx_1495 : x_1495.toInt = p1.toInt + z_1491.toInt := ti_add ex_1495 rfl rfl (om_0d98f29e hc0.2.1 hi0_n_1493.1) (om_2dfe3766 hc2 hi0_n_1493.2)
        refine lv_aload_n hx hb dX7_copy_15 rfl (lv_at hl 1 rfl) ?_
        refine lv_iload_n hx hb dX7_copy_16 rfl (lv_at hl 2 rfl) ?_
        refine lv_iload hx hb dX7_copy_17 (lv_at hl 0 rfl) ?_
        refine lv_iadd hx hb dX7_copy_19 ?_
        refine lv_topi (fun x_1496 ex_1496 => ?_)
        have vx_1496 : x_1496.toInt = p0.toInt + z_1491.toInt := ti_add ex_1496 rfl rfl (om_0d98f29e hc0.1 hi0_n_1493.1) (om_2dfe3766 hc1 hi0_n_1493.2)
        refine va_iald hx hb hK hP 0 0 rfl rfl (ti_in vx_1496 (om_da9595ee hc0.1 hi0_n_1493.1) (om_6005669c hc1 gc_1494)) dX7_copy_20 ?_
        refine lv_topi (fun x_1497 ex_1497 => ?_)
        have kx_1497 : (fF x_1496.toNatClampNeg).toInt = x_1497.toInt := by rw [ex_1497]
        have cx_1497 : (fF (p0.toNatClampNeg + z_1491.toNatClampNeg)).toInt = x_1497.toInt := by rw [show p0.toNatClampNeg + z_1491.toNatClampNeg = x_1496.toNatClampNeg from (om_08ccee3a (ti_cl (x := p0) rfl hc0.1) (ti_cl (x := z_1491) rfl hi0_n_1493.1) (ti_cl (x := x_1496) vx_1496 (om_da9595ee hc0.1 hi0_n_1493.1)))]; exact kx_1497
        refine va_iast hx hb hK hP hD hS 1 1 rfl rfl (ti_in vx_1495 (om_da9595ee hc0.2.1 hi0_n_1493.1) (om_6005669c hc2 gc_1494)) dX7_copy_21 (fun H locs hP hD hS => ?_)
        obtain ⟨f_1498, ef_1498⟩ : ∃ g : Nat → Int32, g = upd f_1492 x_1495.toNatClampNeg x_1497 := ⟨_, rfl⟩
        rw [← ef_1498] at hP hD
        obtain ⟨hP, hD⟩ := wl2 (ws' := [(arI rF kF 8 fF), (arI rT kT 8 f_1498)]) hP hD rfl
        obtain ⟨x_1499, ex_1499⟩ : ∃ z : Int32, z = z_1491 + Int32.ofInt 1 := ⟨_, rfl⟩
        have vx_1499 : x_1499.toInt = z_1491.toInt + 1 := ti_add (y := 1) ex_1499 rfl kc_1 (om_4e4fce7e hi0_n_1493.1) (om_da77bcef hc0.1 hc1 hi0_n_1493.2)
        refine lv_iinc (v := x_1499) (lv' := [(5, .int x_1499), (0, .ref rF), (1, .int p0), (2, .ref rT), (3, .int p1), (4, .int p2)]) hx hb dX7_copy_22 hl (k := 0) rfl ex_1499.symm (by decide) rfl (fun ls hl => ?_)
        refine lv_goto (tgt := 3) hx hb dX7_copy_25 (by decide) ?_
        exact ih_n_1493 x_1499 f_1498 _ _ _  ⟨(om_83b90de5 hi0_n_1493.1 vx_1499), (om_afcf07ef gc_1494 vx_1499)⟩ (copy_step hi1_n_1493 ef_1498 (by have q1 := ti_cl (x := x_1495) vx_1495 (om_da9595ee hc0.2.1 hi0_n_1493.1); have q2 := ti_cl (x := p1) rfl hc0.2.1; have q3 := ti_cl (x := z_1491) rfl hi0_n_1493.1; omega) (by have q := cx_1497; omega) (by have q1 := ti_cl (x := x_1499) vx_1499 (om_9548a8fd hi0_n_1493.1); have q3 := ti_cl (x := z_1491) rfl hi0_n_1493.1; omega)) (ms_lt hm_n_1493 (om_dd4ae0bc vx_1499) (om_d5382009 gc_1494)) hP hD hS (lv_sub hl [0, 1, 2, 3, 4, 5] rfl)
  exact key_n_1493 (((p2.toInt - (0 : Int32).toInt).toNat) + 1) 0 fT _ _ _  ⟨(om_b1de7dbe kc_0), (om_2dfe280d hc0.2.2 kc_0)⟩ (by first | assumption | omega | decide | exact copy_zero) (Nat.lt_add_one _) hP hD hS hl
set_option maxHeartbeats 4000000 in
set_option maxRecDepth 100000 in
theorem tX7_copy_8_287 (l : Launch) (dC : Nat → ClassId) (dI : Nat → Nat → Nat) (sz : Nat) (rF : Nat) (fF : Nat → Int32) (kF : ClassId) (rT : Nat) (fT : Nat → Int32) (kT : ClassId) (p0 : Int32) (p1 : Int32) (p2 : Int32)  (hc0 : 0 ≤ p0.toInt ∧ 0 ≤ p1.toInt ∧ 0 ≤ p2.toInt) (hc1 : p0.toInt + p2.toInt ≤ 8) (hc2 : p1.toInt + p2.toInt ≤ 287) : Met l yX7_copy (Cond.code yX7_copy cX7_copy 6 none :: wG) ({ frames := 0, cells := 0, slots := 0, locals := 0 }) (va_Pc [.ref rF, .int p0, .ref rT, .int p1, .int p2] (Pw dC dI sz [(arI rF kF 8 fF), (arI rT kT 287 fT)] [(kF, .int), (kT, .int)])) (va_Qv (fun (_ : Nat) => True) (fun (_ : Nat) (t : State) => ∃ (nfT : Nat → Int32), (CopyOk fF fT p0.toNatClampNeg p1.toNatClampNeg p2.toNatClampNeg nfT) ∧ Bw dC dI (va_A [(arI rF kF 8 fF), (arI rT kT 287 fT)] sz) [(arI rF kF 8 fF), (arI rT kT 287 nfT)] [(kF, .int), (kT, .int)] t) (va_A [(arI rF kF 8 fF), (arI rT kT 287 fT)] sz)) 0 0 (va_A [(arI rF kF 8 fF), (arI rT kT 287 fT)] sz) := by
  refine Met.ofW (cc := cX7_copy) (maxL := 6) (ret := none) pnX7 rfl ?_
  intro p e s m args below meth c s₁ B hml hv
  obtain ⟨rfl, hsz, hP, hK, hD0, hE⟩ := hv
  have hx := B.exec
  have hb := B.bytes
  have hr := B.returns
  have hts : ∀ w ∈ wG, w.before ([.ref rF, .int p0, .ref rT, .int p1, .int p2] : List Value).toArray s = true := fun w h => atoms_spec (ws := Cond.code yX7_copy cX7_copy 6 none :: wG) B.pre w (List.mem_cons_of_mem _ h)
  have hown : s.vm.findClass RX7 = some m.cls := own_of B.named rfl
  have hlocks := B.notSynchronized
  subst hsz
  have hD := hD0.self (sz := s.heap.size)
  generalize hAe : va_A [(arI rF kF 8 fF), (arI rT kT 287 fT)] s.heap.size = A at hD hE ⊢
  have hA : ∀ q : Nat, s.heap.size ≤ q → A q := fun q h => by rw [← hAe]; exact Or.inr h
  have hS : va_S A s.heap s.heap [] := va_S.rf
  have hl := lv_entry ([.ref rF, .int p0, .ref rT, .int p1, .int p2]) (n := 6) (Nat.le_of_ble_eq_true rfl)
  rw [lg_entry_eq]
  generalize (lg_sl ([.ref rF, .int p0, .ref rT, .int p1, .int p2]) ++ List.replicate (6 - (lg_sl ([.ref rF, .int p0, .ref rT, .int p1, .int p2])).length) Slot.unset).toArray = ls at hl ⊢
  have hl : lv_has ls 6 [(0, .ref rF), (1, .int p0), (2, .ref rT), (3, .int p1), (4, .int p2)] := hl
  refine lv_iconst (v := 0) hx hb dX7_copy_0 (by decide) ?_
  refine lv_istore (lv' := [(5, .int 0), (0, .ref rF), (1, .int p0), (2, .ref rT), (3, .int p1), (4, .int p2)]) hx hb dX7_copy_1 hl (by decide) rfl (fun ls hl => ?_)
  have hl := lv_sub hl (l' := [(5, .int 0), (0, .ref rF), (1, .int p0), (2, .ref rT), (3, .int p1), (4, .int p2)]) [0, 1, 2, 3, 4, 5] rfl
  have key_n_1511 : ∀ (n_1511 : Nat) (z_1509 : Int32) (f_1510 : Nat → Int32) (H : Heap) (locs : List Loc) (ls : Array Slot), (0 ≤ z_1509.toInt ∧ z_1509.toInt ≤ p2.toInt) → (CopyOk fF fT p0.toNatClampNeg p1.toNatClampNeg z_1509.toNatClampNeg f_1510) → (p2.toInt - z_1509.toInt).toNat < n_1511 → va_P (dC, dI) vwCl [(arI rF kF 8 fF), (arI rT kT 287 f_1510)] H → va_D A [(arI rF kF 8 fF), (arI rT kT 287 f_1510)] → va_S A s.heap H locs → lv_has ls 6 [(5, .int z_1509), (0, .ref rF), (1, .int p0), (2, .ref rT), (3, .int p1), (4, .int p2)] → W p l e (headSpec (Cond.code yX7_copy cX7_copy 6 none :: wG) ({ frames := 0, cells := 0, slots := 0, locals := 0 })).room s m ([.ref rF, .int p0, .ref rT, .int p1, .int p2] : List Value).toArray below meth c H locs 0 0 (MQ below (va_Qv (fun (_ : Nat) => True) (fun (_ : Nat) (t : State) => ∃ (nfT : Nat → Int32), (CopyOk fF fT p0.toNatClampNeg p1.toNatClampNeg p2.toNatClampNeg nfT) ∧ Bw dC dI A [(arI rF kF 8 fF), (arI rT kT 287 nfT)] [(kF, .int), (kT, .int)] t) A) ([.ref rF, .int p0, .ref rT, .int p1, .int p2] : List Value).toArray s 0 0 A) (F0 m 3 ls []) := by
    intro n_1511
    induction n_1511 with
    | zero => intro z_1509 f_1510 H locs ls hi0_n_1511 hi1_n_1511 hm; exact absurd hm (Nat.not_lt_zero _)
    | succ n_1511 ih_n_1511 =>
      intro z_1509 f_1510 H locs ls hi0_n_1511 hi1_n_1511 hm_n_1511 hP hD hS hl
      refine lv_iload hx hb dX7_copy_3 (lv_at hl 0 rfl) ?_
      refine lv_iload hx hb dX7_copy_5 (lv_at hl 5 rfl) ?_
      refine lv_icmp_ge (tgt := 28) hx hb dX7_copy_7 (by decide) (fun c_1512 => ?_) (fun c_1512 => ?_)
      · skip
        have gc_1512 := ti_le c_1512 rfl rfl
        exact wq_v hx hb hr 0 trivial (fun t ht hW => ⟨f_1510, (by rw [show p2.toNatClampNeg = z_1509.toNatClampNeg from by have q1 := ti_cl (x := z_1509) rfl (by omega); have q2 := ti_cl (x := p2) rfl (by omega); omega]; assumption), Bw.to hP hD hK ht hW⟩) hS dX7_copy_28 hlocks
      · skip
        have gc_1512 := ti_nle c_1512 rfl rfl
        refine lv_aload_n hx hb dX7_copy_10 rfl (lv_at hl 3 rfl) ?_
        refine lv_iload_n hx hb dX7_copy_11 rfl (lv_at hl 4 rfl) ?_
        refine lv_iload hx hb dX7_copy_12 (lv_at hl 0 rfl) ?_
        refine lv_iadd hx hb dX7_copy_14 ?_
        refine lv_topi (fun x_1513 ex_1513 => ?_)
        have vx_1513 : x_1513.toInt = p1.toInt + z_1509.toInt := ti_add ex_1513 rfl rfl (om_0d98f29e hc0.2.1 hi0_n_1511.1) (om_7545b6f2 hc2 hi0_n_1511.2)
        refine lv_aload_n hx hb dX7_copy_15 rfl (lv_at hl 1 rfl) ?_
        refine lv_iload_n hx hb dX7_copy_16 rfl (lv_at hl 2 rfl) ?_
        refine lv_iload hx hb dX7_copy_17 (lv_at hl 0 rfl) ?_
        refine lv_iadd hx hb dX7_copy_19 ?_
        refine lv_topi (fun x_1514 ex_1514 => ?_)
        have vx_1514 : x_1514.toInt = p0.toInt + z_1509.toInt := ti_add ex_1514 rfl rfl (om_0d98f29e hc0.1 hi0_n_1511.1) (om_2dfe3766 hc1 hi0_n_1511.2)
        refine va_iald hx hb hK hP 0 0 rfl rfl (ti_in vx_1514 (om_da9595ee hc0.1 hi0_n_1511.1) (om_6005669c hc1 gc_1512)) dX7_copy_20 ?_
        refine lv_topi (fun x_1515 ex_1515 => ?_)
        have kx_1515 : (fF x_1514.toNatClampNeg).toInt = x_1515.toInt := by rw [ex_1515]
        have cx_1515 : (fF (p0.toNatClampNeg + z_1509.toNatClampNeg)).toInt = x_1515.toInt := by rw [show p0.toNatClampNeg + z_1509.toNatClampNeg = x_1514.toNatClampNeg from (om_08ccee3a (ti_cl (x := p0) rfl hc0.1) (ti_cl (x := z_1509) rfl hi0_n_1511.1) (ti_cl (x := x_1514) vx_1514 (om_da9595ee hc0.1 hi0_n_1511.1)))]; exact kx_1515
        refine va_iast hx hb hK hP hD hS 1 1 rfl rfl (ti_in vx_1513 (om_da9595ee hc0.2.1 hi0_n_1511.1) (om_01420f9f hc2 gc_1512)) dX7_copy_21 (fun H locs hP hD hS => ?_)
        obtain ⟨f_1516, ef_1516⟩ : ∃ g : Nat → Int32, g = upd f_1510 x_1513.toNatClampNeg x_1515 := ⟨_, rfl⟩
        rw [← ef_1516] at hP hD
        obtain ⟨hP, hD⟩ := wl2 (ws' := [(arI rF kF 8 fF), (arI rT kT 287 f_1516)]) hP hD rfl
        obtain ⟨x_1517, ex_1517⟩ : ∃ z : Int32, z = z_1509 + Int32.ofInt 1 := ⟨_, rfl⟩
        have vx_1517 : x_1517.toInt = z_1509.toInt + 1 := ti_add (y := 1) ex_1517 rfl kc_1 (om_4e4fce7e hi0_n_1511.1) (om_da77bcef hc0.1 hc1 hi0_n_1511.2)
        refine lv_iinc (v := x_1517) (lv' := [(5, .int x_1517), (0, .ref rF), (1, .int p0), (2, .ref rT), (3, .int p1), (4, .int p2)]) hx hb dX7_copy_22 hl (k := 0) rfl ex_1517.symm (by decide) rfl (fun ls hl => ?_)
        refine lv_goto (tgt := 3) hx hb dX7_copy_25 (by decide) ?_
        exact ih_n_1511 x_1517 f_1516 _ _ _  ⟨(om_83b90de5 hi0_n_1511.1 vx_1517), (om_afcf07ef gc_1512 vx_1517)⟩ (copy_step hi1_n_1511 ef_1516 (by have q1 := ti_cl (x := x_1513) vx_1513 (om_da9595ee hc0.2.1 hi0_n_1511.1); have q2 := ti_cl (x := p1) rfl hc0.2.1; have q3 := ti_cl (x := z_1509) rfl hi0_n_1511.1; omega) (by have q := cx_1515; omega) (by have q1 := ti_cl (x := x_1517) vx_1517 (om_9548a8fd hi0_n_1511.1); have q3 := ti_cl (x := z_1509) rfl hi0_n_1511.1; omega)) (ms_lt hm_n_1511 (om_dd4ae0bc vx_1517) (om_d5382009 gc_1512)) hP hD hS (lv_sub hl [0, 1, 2, 3, 4, 5] rfl)
  exact key_n_1511 (((p2.toInt - (0 : Int32).toInt).toNat) + 1) 0 fT _ _ _  ⟨(om_b1de7dbe kc_0), (om_2dfe280d hc0.2.2 kc_0)⟩ (by first | assumption | omega | decide | exact copy_zero) (Nat.lt_add_one _) hP hD hS hl
set_option maxHeartbeats 4000000 in
set_option maxRecDepth 100000 in
theorem tX7_copy_287_287 (l : Launch) (dC : Nat → ClassId) (dI : Nat → Nat → Nat) (sz : Nat) (rF : Nat) (fF : Nat → Int32) (kF : ClassId) (rT : Nat) (fT : Nat → Int32) (kT : ClassId) (p0 : Int32) (p1 : Int32) (p2 : Int32)  (hc0 : 0 ≤ p0.toInt ∧ 0 ≤ p1.toInt ∧ 0 ≤ p2.toInt) (hc1 : p0.toInt + p2.toInt ≤ 287) (hc2 : p1.toInt + p2.toInt ≤ 287) : Met l yX7_copy (Cond.code yX7_copy cX7_copy 6 none :: wG) ({ frames := 0, cells := 0, slots := 0, locals := 0 }) (va_Pc [.ref rF, .int p0, .ref rT, .int p1, .int p2] (Pw dC dI sz [(arI rF kF 287 fF), (arI rT kT 287 fT)] [(kF, .int), (kT, .int)])) (va_Qv (fun (_ : Nat) => True) (fun (_ : Nat) (t : State) => ∃ (nfT : Nat → Int32), (CopyOk fF fT p0.toNatClampNeg p1.toNatClampNeg p2.toNatClampNeg nfT) ∧ Bw dC dI (va_A [(arI rF kF 287 fF), (arI rT kT 287 fT)] sz) [(arI rF kF 287 fF), (arI rT kT 287 nfT)] [(kF, .int), (kT, .int)] t) (va_A [(arI rF kF 287 fF), (arI rT kT 287 fT)] sz)) 0 0 (va_A [(arI rF kF 287 fF), (arI rT kT 287 fT)] sz) := by
  refine Met.ofW (cc := cX7_copy) (maxL := 6) (ret := none) pnX7 rfl ?_
  intro p e s m args below meth c s₁ B hml hv
  obtain ⟨rfl, hsz, hP, hK, hD0, hE⟩ := hv
  have hx := B.exec
  have hb := B.bytes
  have hr := B.returns
  have hts : ∀ w ∈ wG, w.before ([.ref rF, .int p0, .ref rT, .int p1, .int p2] : List Value).toArray s = true := fun w h => atoms_spec (ws := Cond.code yX7_copy cX7_copy 6 none :: wG) B.pre w (List.mem_cons_of_mem _ h)
  have hown : s.vm.findClass RX7 = some m.cls := own_of B.named rfl
  have hlocks := B.notSynchronized
  subst hsz
  have hD := hD0.self (sz := s.heap.size)
  generalize hAe : va_A [(arI rF kF 287 fF), (arI rT kT 287 fT)] s.heap.size = A at hD hE ⊢
  have hA : ∀ q : Nat, s.heap.size ≤ q → A q := fun q h => by rw [← hAe]; exact Or.inr h
  have hS : va_S A s.heap s.heap [] := va_S.rf
  have hl := lv_entry ([.ref rF, .int p0, .ref rT, .int p1, .int p2]) (n := 6) (Nat.le_of_ble_eq_true rfl)
  rw [lg_entry_eq]
  generalize (lg_sl ([.ref rF, .int p0, .ref rT, .int p1, .int p2]) ++ List.replicate (6 - (lg_sl ([.ref rF, .int p0, .ref rT, .int p1, .int p2])).length) Slot.unset).toArray = ls at hl ⊢
  have hl : lv_has ls 6 [(0, .ref rF), (1, .int p0), (2, .ref rT), (3, .int p1), (4, .int p2)] := hl
  refine lv_iconst (v := 0) hx hb dX7_copy_0 (by decide) ?_
  refine lv_istore (lv' := [(5, .int 0), (0, .ref rF), (1, .int p0), (2, .ref rT), (3, .int p1), (4, .int p2)]) hx hb dX7_copy_1 hl (by decide) rfl (fun ls hl => ?_)
  have hl := lv_sub hl (l' := [(5, .int 0), (0, .ref rF), (1, .int p0), (2, .ref rT), (3, .int p1), (4, .int p2)]) [0, 1, 2, 3, 4, 5] rfl
  have key_n_1529 : ∀ (n_1529 : Nat) (z_1527 : Int32) (f_1528 : Nat → Int32) (H : Heap) (locs : List Loc) (ls : Array Slot), (0 ≤ z_1527.toInt ∧ z_1527.toInt ≤ p2.toInt) → (CopyOk fF fT p0.toNatClampNeg p1.toNatClampNeg z_1527.toNatClampNeg f_1528) → (p2.toInt - z_1527.toInt).toNat < n_1529 → va_P (dC, dI) vwCl [(arI rF kF 287 fF), (arI rT kT 287 f_1528)] H → va_D A [(arI rF kF 287 fF), (arI rT kT 287 f_1528)] → va_S A s.heap H locs → lv_has ls 6 [(5, .int z_1527), (0, .ref rF), (1, .int p0), (2, .ref rT), (3, .int p1), (4, .int p2)] → W p l e (headSpec (Cond.code yX7_copy cX7_copy 6 none :: wG) ({ frames := 0, cells := 0, slots := 0, locals := 0 })).room s m ([.ref rF, .int p0, .ref rT, .int p1, .int p2] : List Value).toArray below meth c H locs 0 0 (MQ below (va_Qv (fun (_ : Nat) => True) (fun (_ : Nat) (t : State) => ∃ (nfT : Nat → Int32), (CopyOk fF fT p0.toNatClampNeg p1.toNatClampNeg p2.toNatClampNeg nfT) ∧ Bw dC dI A [(arI rF kF 287 fF), (arI rT kT 287 nfT)] [(kF, .int), (kT, .int)] t) A) ([.ref rF, .int p0, .ref rT, .int p1, .int p2] : List Value).toArray s 0 0 A) (F0 m 3 ls []) := by
    intro n_1529
    induction n_1529 with
    | zero => intro z_1527 f_1528 H locs ls hi0_n_1529 hi1_n_1529 hm; exact absurd hm (Nat.not_lt_zero _)
    | succ n_1529 ih_n_1529 =>
      intro z_1527 f_1528 H locs ls hi0_n_1529 hi1_n_1529 hm_n_1529 hP hD hS hl
      refine lv_iload hx hb dX7_copy_3 (lv_at hl 0 rfl) ?_
      refine lv_iload hx hb dX7_copy_5 (lv_at hl 5 rfl) ?_
      refine lv_icmp_ge (tgt := 28) hx hb dX7_copy_7 (by decide) (fun c_1530 => ?_) (fun c_1530 => ?_)
      · skip
        have gc_1530 := ti_le c_1530 rfl rfl
        exact wq_v hx hb hr 0 trivial (fun t ht hW => ⟨f_1528, (by rw [show p2.toNatClampNeg = z_1527.toNatClampNeg from by have q1 := ti_cl (x := z_1527) rfl (by omega); have q2 := ti_cl (x := p2) rfl (by omega); omega]; assumption), Bw.to hP hD hK ht hW⟩) hS dX7_copy_28 hlocks
      · skip
        have gc_1530 := ti_nle c_1530 rfl rfl
        refine lv_aload_n hx hb dX7_copy_10 rfl (lv_at hl 3 rfl) ?_
        refine lv_iload_n hx hb dX7_copy_11 rfl (lv_at hl 4 rfl) ?_
        refine lv_iload hx hb dX7_copy_12 (lv_at hl 0 rfl) ?_
        refine lv_iadd hx hb dX7_copy_14 ?_
        refine lv_topi (fun x_1531 ex_1531 => ?_)
        have vx_1531 : x_1531.toInt = p1.toInt + z_1527.toInt := ti_add ex_1531 rfl rfl (om_0d98f29e hc0.2.1 hi0_n_1529.1) (om_7545b6f2 hc2 hi0_n_1529.2)
        refine lv_aload_n hx hb dX7_copy_15 rfl (lv_at hl 1 rfl) ?_
        refine lv_iload_n hx hb dX7_copy_16 rfl (lv_at hl 2 rfl) ?_
        refine lv_iload hx hb dX7_copy_17 (lv_at hl 0 rfl) ?_
        refine lv_iadd hx hb dX7_copy_19 ?_
        refine lv_topi (fun x_1532 ex_1532 => ?_)
        have vx_1532 : x_1532.toInt = p0.toInt + z_1527.toInt := ti_add ex_1532 rfl rfl (om_0d98f29e hc0.1 hi0_n_1529.1) (om_7545b6f2 hc1 hi0_n_1529.2)
        refine va_iald hx hb hK hP 0 0 rfl rfl (ti_in vx_1532 (om_da9595ee hc0.1 hi0_n_1529.1) (om_01420f9f hc1 gc_1530)) dX7_copy_20 ?_
        refine lv_topi (fun x_1533 ex_1533 => ?_)
        have kx_1533 : (fF x_1532.toNatClampNeg).toInt = x_1533.toInt := by rw [ex_1533]
        have cx_1533 : (fF (p0.toNatClampNeg + z_1527.toNatClampNeg)).toInt = x_1533.toInt := by rw [show p0.toNatClampNeg + z_1527.toNatClampNeg = x_1532.toNatClampNeg from (om_08ccee3a (ti_cl (x := p0) rfl hc0.1) (ti_cl (x := z_1527) rfl hi0_n_1529.1) (ti_cl (x := x_1532) vx_1532 (om_da9595ee hc0.1 hi0_n_1529.1)))]; exact kx_1533
        refine va_iast hx hb hK hP hD hS 1 1 rfl rfl (ti_in vx_1531 (om_da9595ee hc0.2.1 hi0_n_1529.1) (om_01420f9f hc2 gc_1530)) dX7_copy_21 (fun H locs hP hD hS => ?_)
        obtain ⟨f_1534, ef_1534⟩ : ∃ g : Nat → Int32, g = upd f_1528 x_1531.toNatClampNeg x_1533 := ⟨_, rfl⟩
        rw [← ef_1534] at hP hD
        obtain ⟨hP, hD⟩ := wl2 (ws' := [(arI rF kF 287 fF), (arI rT kT 287 f_1534)]) hP hD rfl
        obtain ⟨x_1535, ex_1535⟩ : ∃ z : Int32, z = z_1527 + Int32.ofInt 1 := ⟨_, rfl⟩
        have vx_1535 : x_1535.toInt = z_1527.toInt + 1 := ti_add (y := 1) ex_1535 rfl kc_1 (om_4e4fce7e hi0_n_1529.1) (om_04ff637e hc0.1 hc1 hi0_n_1529.2)
        refine lv_iinc (v := x_1535) (lv' := [(5, .int x_1535), (0, .ref rF), (1, .int p0), (2, .ref rT), (3, .int p1), (4, .int p2)]) hx hb dX7_copy_22 hl (k := 0) rfl ex_1535.symm (by decide) rfl (fun ls hl => ?_)
        refine lv_goto (tgt := 3) hx hb dX7_copy_25 (by decide) ?_
        exact ih_n_1529 x_1535 f_1534 _ _ _  ⟨(om_83b90de5 hi0_n_1529.1 vx_1535), (om_afcf07ef gc_1530 vx_1535)⟩ (copy_step hi1_n_1529 ef_1534 (by have q1 := ti_cl (x := x_1531) vx_1531 (om_da9595ee hc0.2.1 hi0_n_1529.1); have q2 := ti_cl (x := p1) rfl hc0.2.1; have q3 := ti_cl (x := z_1527) rfl hi0_n_1529.1; omega) (by have q := cx_1533; omega) (by have q1 := ti_cl (x := x_1535) vx_1535 (om_9548a8fd hi0_n_1529.1); have q3 := ti_cl (x := z_1527) rfl hi0_n_1529.1; omega)) (ms_lt hm_n_1529 (om_dd4ae0bc vx_1535) (om_d5382009 gc_1530)) hP hD hS (lv_sub hl [0, 1, 2, 3, 4, 5] rfl)
  exact key_n_1529 (((p2.toInt - (0 : Int32).toInt).toNat) + 1) 0 fT _ _ _  ⟨(om_b1de7dbe kc_0), (om_2dfe280d hc0.2.2 kc_0)⟩ (by first | assumption | omega | decide | exact copy_zero) (Nat.lt_add_one _) hP hD hS hl
set_option maxHeartbeats 4000000 in
set_option maxRecDepth 100000 in
theorem tX7_copy_90_1440 (l : Launch) (dC : Nat → ClassId) (dI : Nat → Nat → Nat) (sz : Nat) (rF : Nat) (fF : Nat → Int32) (kF : ClassId) (rT : Nat) (fT : Nat → Int32) (kT : ClassId) (p0 : Int32) (p1 : Int32) (p2 : Int32)  (hc0 : 0 ≤ p0.toInt ∧ 0 ≤ p1.toInt ∧ 0 ≤ p2.toInt) (hc1 : p0.toInt + p2.toInt ≤ 90) (hc2 : p1.toInt + p2.toInt ≤ 1440) : Met l yX7_copy (Cond.code yX7_copy cX7_copy 6 none :: wG) ({ frames := 0, cells := 0, slots := 0, locals := 0 }) (va_Pc [.ref rF, .int p0, .ref rT, .int p1, .int p2] (Pw dC dI sz [(arI rF kF 90 fF), (arI rT kT 1440 fT)] [(kF, .int), (kT, .int)])) (va_Qv (fun (_ : Nat) => True) (fun (_ : Nat) (t : State) => ∃ (nfT : Nat → Int32), (CopyOk fF fT p0.toNatClampNeg p1.toNatClampNeg p2.toNatClampNeg nfT) ∧ Bw dC dI (va_A [(arI rF kF 90 fF), (arI rT kT 1440 fT)] sz) [(arI rF kF 90 fF), (arI rT kT 1440 nfT)] [(kF, .int), (kT, .int)] t) (va_A [(arI rF kF 90 fF), (arI rT kT 1440 fT)] sz)) 0 0 (va_A [(arI rF kF 90 fF), (arI rT kT 1440 fT)] sz) := by
  refine Met.ofW (cc := cX7_copy) (maxL := 6) (ret := none) pnX7 rfl ?_
  intro p e s m args below meth c s₁ B hml hv
  obtain ⟨rfl, hsz, hP, hK, hD0, hE⟩ := hv
  have hx := B.exec
  have hb := B.bytes
  have hr := B.returns
  have hts : ∀ w ∈ wG, w.before ([.ref rF, .int p0, .ref rT, .int p1, .int p2] : List Value).toArray s = true := fun w h => atoms_spec (ws := Cond.code yX7_copy cX7_copy 6 none :: wG) B.pre w (List.mem_cons_of_mem _ h)
  have hown : s.vm.findClass RX7 = some m.cls := own_of B.named rfl
  have hlocks := B.notSynchronized
  subst hsz
  have hD := hD0.self (sz := s.heap.size)
  generalize hAe : va_A [(arI rF kF 90 fF), (arI rT kT 1440 fT)] s.heap.size = A at hD hE ⊢
  have hA : ∀ q : Nat, s.heap.size ≤ q → A q := fun q h => by rw [← hAe]; exact Or.inr h
  have hS : va_S A s.heap s.heap [] := va_S.rf
  have hl := lv_entry ([.ref rF, .int p0, .ref rT, .int p1, .int p2]) (n := 6) (Nat.le_of_ble_eq_true rfl)
  rw [lg_entry_eq]
  generalize (lg_sl ([.ref rF, .int p0, .ref rT, .int p1, .int p2]) ++ List.replicate (6 - (lg_sl ([.ref rF, .int p0, .ref rT, .int p1, .int p2])).length) Slot.unset).toArray = ls at hl ⊢
  have hl : lv_has ls 6 [(0, .ref rF), (1, .int p0), (2, .ref rT), (3, .int p1), (4, .int p2)] := hl
  refine lv_iconst (v := 0) hx hb dX7_copy_0 (by decide) ?_
  refine lv_istore (lv' := [(5, .int 0), (0, .ref rF), (1, .int p0), (2, .ref rT), (3, .int p1), (4, .int p2)]) hx hb dX7_copy_1 hl (by decide) rfl (fun ls hl => ?_)
  have hl := lv_sub hl (l' := [(5, .int 0), (0, .ref rF), (1, .int p0), (2, .ref rT), (3, .int p1), (4, .int p2)]) [0, 1, 2, 3, 4, 5] rfl
  have key_n_1547 : ∀ (n_1547 : Nat) (z_1545 : Int32) (f_1546 : Nat → Int32) (H : Heap) (locs : List Loc) (ls : Array Slot), (0 ≤ z_1545.toInt ∧ z_1545.toInt ≤ p2.toInt) → (CopyOk fF fT p0.toNatClampNeg p1.toNatClampNeg z_1545.toNatClampNeg f_1546) → (p2.toInt - z_1545.toInt).toNat < n_1547 → va_P (dC, dI) vwCl [(arI rF kF 90 fF), (arI rT kT 1440 f_1546)] H → va_D A [(arI rF kF 90 fF), (arI rT kT 1440 f_1546)] → va_S A s.heap H locs → lv_has ls 6 [(5, .int z_1545), (0, .ref rF), (1, .int p0), (2, .ref rT), (3, .int p1), (4, .int p2)] → W p l e (headSpec (Cond.code yX7_copy cX7_copy 6 none :: wG) ({ frames := 0, cells := 0, slots := 0, locals := 0 })).room s m ([.ref rF, .int p0, .ref rT, .int p1, .int p2] : List Value).toArray below meth c H locs 0 0 (MQ below (va_Qv (fun (_ : Nat) => True) (fun (_ : Nat) (t : State) => ∃ (nfT : Nat → Int32), (CopyOk fF fT p0.toNatClampNeg p1.toNatClampNeg p2.toNatClampNeg nfT) ∧ Bw dC dI A [(arI rF kF 90 fF), (arI rT kT 1440 nfT)] [(kF, .int), (kT, .int)] t) A) ([.ref rF, .int p0, .ref rT, .int p1, .int p2] : List Value).toArray s 0 0 A) (F0 m 3 ls []) := by
    intro n_1547
    induction n_1547 with
    | zero => intro z_1545 f_1546 H locs ls hi0_n_1547 hi1_n_1547 hm; exact absurd hm (Nat.not_lt_zero _)
    | succ n_1547 ih_n_1547 =>
      intro z_1545 f_1546 H locs ls hi0_n_1547 hi1_n_1547 hm_n_1547 hP hD hS hl
      refine lv_iload hx hb dX7_copy_3 (lv_at hl 0 rfl) ?_
      refine lv_iload hx hb dX7_copy_5 (lv_at hl 5 rfl) ?_
      refine lv_icmp_ge (tgt := 28) hx hb dX7_copy_7 (by decide) (fun c_1548 => ?_) (fun c_1548 => ?_)
      · skip
        have gc_1548 := ti_le c_1548 rfl rfl
        exact wq_v hx hb hr 0 trivial (fun t ht hW => ⟨f_1546, (by rw [show p2.toNatClampNeg = z_1545.toNatClampNeg from by have q1 := ti_cl (x := z_1545) rfl (by omega); have q2 := ti_cl (x := p2) rfl (by omega); omega]; assumption), Bw.to hP hD hK ht hW⟩) hS dX7_copy_28 hlocks
      · skip
        have gc_1548 := ti_nle c_1548 rfl rfl
        refine lv_aload_n hx hb dX7_copy_10 rfl (lv_at hl 3 rfl) ?_
        refine lv_iload_n hx hb dX7_copy_11 rfl (lv_at hl 4 rfl) ?_
        refine lv_iload hx hb dX7_copy_12 (lv_at hl 0 rfl) ?_
        refine lv_iadd hx hb dX7_copy_14 ?_
        refine lv_topi (fun x_1549 ex_1549 => ?_)
        have vx_1549 : x_1549.toInt = p1.toInt + z_1545.toInt := ti_add ex_1549 rfl rfl (om_0d98f29e hc0.2.1 hi0_n_1547.1) (om_b649409c hc2 hi0_n_1547.2)
        refine lv_aload_n hx hb dX7_copy_15 rfl (lv_at hl 1 rfl) ?_
        refine lv_iload_n hx hb dX7_copy_16 rfl (lv_at hl 2 rfl) ?_
        refine lv_iload hx hb dX7_copy_17 (lv_at hl 0 rfl) ?_
        refine lv_iadd hx hb dX7_copy_19 ?_
        refine lv_topi (fun x_1550 ex_1550 => ?_)
        have vx_1550 : x_1550.toInt = p0.toInt + z_1545.toInt := ti_add ex_1550 rfl rfl (om_0d98f29e hc0.1 hi0_n_1547.1) (om_8bd45658 hc1 hi0_n_1547.2)
        refine va_iald hx hb hK hP 0 0 rfl rfl (ti_in vx_1550 (om_da9595ee hc0.1 hi0_n_1547.1) (om_ad124daf hc1 gc_1548)) dX7_copy_20 ?_
        refine lv_topi (fun x_1551 ex_1551 => ?_)
        have kx_1551 : (fF x_1550.toNatClampNeg).toInt = x_1551.toInt := by rw [ex_1551]
        have cx_1551 : (fF (p0.toNatClampNeg + z_1545.toNatClampNeg)).toInt = x_1551.toInt := by rw [show p0.toNatClampNeg + z_1545.toNatClampNeg = x_1550.toNatClampNeg from (om_08ccee3a (ti_cl (x := p0) rfl hc0.1) (ti_cl (x := z_1545) rfl hi0_n_1547.1) (ti_cl (x := x_1550) vx_1550 (om_da9595ee hc0.1 hi0_n_1547.1)))]; exact kx_1551
        refine va_iast hx hb hK hP hD hS 1 1 rfl rfl (ti_in vx_1549 (om_da9595ee hc0.2.1 hi0_n_1547.1) (om_e1605147 hc2 gc_1548)) dX7_copy_21 (fun H locs hP hD hS => ?_)
        obtain ⟨f_1552, ef_1552⟩ : ∃ g : Nat → Int32, g = upd f_1546 x_1549.toNatClampNeg x_1551 := ⟨_, rfl⟩
        rw [← ef_1552] at hP hD
        obtain ⟨hP, hD⟩ := wl2 (ws' := [(arI rF kF 90 fF), (arI rT kT 1440 f_1552)]) hP hD rfl
        obtain ⟨x_1553, ex_1553⟩ : ∃ z : Int32, z = z_1545 + Int32.ofInt 1 := ⟨_, rfl⟩
        have vx_1553 : x_1553.toInt = z_1545.toInt + 1 := ti_add (y := 1) ex_1553 rfl kc_1 (om_4e4fce7e hi0_n_1547.1) (om_e7f5d8f5 hc0.1 hc1 hi0_n_1547.2)
        refine lv_iinc (v := x_1553) (lv' := [(5, .int x_1553), (0, .ref rF), (1, .int p0), (2, .ref rT), (3, .int p1), (4, .int p2)]) hx hb dX7_copy_22 hl (k := 0) rfl ex_1553.symm (by decide) rfl (fun ls hl => ?_)
        refine lv_goto (tgt := 3) hx hb dX7_copy_25 (by decide) ?_
        exact ih_n_1547 x_1553 f_1552 _ _ _  ⟨(om_83b90de5 hi0_n_1547.1 vx_1553), (om_afcf07ef gc_1548 vx_1553)⟩ (copy_step hi1_n_1547 ef_1552 (by have q1 := ti_cl (x := x_1549) vx_1549 (om_da9595ee hc0.2.1 hi0_n_1547.1); have q2 := ti_cl (x := p1) rfl hc0.2.1; have q3 := ti_cl (x := z_1545) rfl hi0_n_1547.1; omega) (by have q := cx_1551; omega) (by have q1 := ti_cl (x := x_1553) vx_1553 (om_9548a8fd hi0_n_1547.1); have q3 := ti_cl (x := z_1545) rfl hi0_n_1547.1; omega)) (ms_lt hm_n_1547 (om_dd4ae0bc vx_1553) (om_d5382009 gc_1548)) hP hD hS (lv_sub hl [0, 1, 2, 3, 4, 5] rfl)
  exact key_n_1547 (((p2.toInt - (0 : Int32).toInt).toNat) + 1) 0 fT _ _ _  ⟨(om_b1de7dbe kc_0), (om_2dfe280d hc0.2.2 kc_0)⟩ (by first | assumption | omega | decide | exact copy_zero) (Nat.lt_add_one _) hP hD hS hl
set_option maxHeartbeats 4000000 in
set_option maxRecDepth 100000 in
theorem tX7_copy_1440_90 (l : Launch) (dC : Nat → ClassId) (dI : Nat → Nat → Nat) (sz : Nat) (rF : Nat) (fF : Nat → Int32) (kF : ClassId) (rT : Nat) (fT : Nat → Int32) (kT : ClassId) (p0 : Int32) (p1 : Int32) (p2 : Int32)  (hc0 : 0 ≤ p0.toInt ∧ 0 ≤ p1.toInt ∧ 0 ≤ p2.toInt) (hc1 : p0.toInt + p2.toInt ≤ 1440) (hc2 : p1.toInt + p2.toInt ≤ 90) : Met l yX7_copy (Cond.code yX7_copy cX7_copy 6 none :: wG) ({ frames := 0, cells := 0, slots := 0, locals := 0 }) (va_Pc [.ref rF, .int p0, .ref rT, .int p1, .int p2] (Pw dC dI sz [(arI rF kF 1440 fF), (arI rT kT 90 fT)] [(kF, .int), (kT, .int)])) (va_Qv (fun (_ : Nat) => True) (fun (_ : Nat) (t : State) => ∃ (nfT : Nat → Int32), (CopyOk fF fT p0.toNatClampNeg p1.toNatClampNeg p2.toNatClampNeg nfT) ∧ Bw dC dI (va_A [(arI rF kF 1440 fF), (arI rT kT 90 fT)] sz) [(arI rF kF 1440 fF), (arI rT kT 90 nfT)] [(kF, .int), (kT, .int)] t) (va_A [(arI rF kF 1440 fF), (arI rT kT 90 fT)] sz)) 0 0 (va_A [(arI rF kF 1440 fF), (arI rT kT 90 fT)] sz) := by
  refine Met.ofW (cc := cX7_copy) (maxL := 6) (ret := none) pnX7 rfl ?_
  intro p e s m args below meth c s₁ B hml hv
  obtain ⟨rfl, hsz, hP, hK, hD0, hE⟩ := hv
  have hx := B.exec
  have hb := B.bytes
  have hr := B.returns
  have hts : ∀ w ∈ wG, w.before ([.ref rF, .int p0, .ref rT, .int p1, .int p2] : List Value).toArray s = true := fun w h => atoms_spec (ws := Cond.code yX7_copy cX7_copy 6 none :: wG) B.pre w (List.mem_cons_of_mem _ h)
  have hown : s.vm.findClass RX7 = some m.cls := own_of B.named rfl
  have hlocks := B.notSynchronized
  subst hsz
  have hD := hD0.self (sz := s.heap.size)
  generalize hAe : va_A [(arI rF kF 1440 fF), (arI rT kT 90 fT)] s.heap.size = A at hD hE ⊢
  have hA : ∀ q : Nat, s.heap.size ≤ q → A q := fun q h => by rw [← hAe]; exact Or.inr h
  have hS : va_S A s.heap s.heap [] := va_S.rf
  have hl := lv_entry ([.ref rF, .int p0, .ref rT, .int p1, .int p2]) (n := 6) (Nat.le_of_ble_eq_true rfl)
  rw [lg_entry_eq]
  generalize (lg_sl ([.ref rF, .int p0, .ref rT, .int p1, .int p2]) ++ List.replicate (6 - (lg_sl ([.ref rF, .int p0, .ref rT, .int p1, .int p2])).length) Slot.unset).toArray = ls at hl ⊢
  have hl : lv_has ls 6 [(0, .ref rF), (1, .int p0), (2, .ref rT), (3, .int p1), (4, .int p2)] := hl
  refine lv_iconst (v := 0) hx hb dX7_copy_0 (by decide) ?_
  refine lv_istore (lv' := [(5, .int 0), (0, .ref rF), (1, .int p0), (2, .ref rT), (3, .int p1), (4, .int p2)]) hx hb dX7_copy_1 hl (by decide) rfl (fun ls hl => ?_)
  have hl := lv_sub hl (l' := [(5, .int 0), (0, .ref rF), (1, .int p0), (2, .ref rT), (3, .int p1), (4, .int p2)]) [0, 1, 2, 3, 4, 5] rfl
  have key_n_1565 : ∀ (n_1565 : Nat) (z_1563 : Int32) (f_1564 : Nat → Int32) (H : Heap) (locs : List Loc) (ls : Array Slot), (0 ≤ z_1563.toInt ∧ z_1563.toInt ≤ p2.toInt) → (CopyOk fF fT p0.toNatClampNeg p1.toNatClampNeg z_1563.toNatClampNeg f_1564) → (p2.toInt - z_1563.toInt).toNat < n_1565 → va_P (dC, dI) vwCl [(arI rF kF 1440 fF), (arI rT kT 90 f_1564)] H → va_D A [(arI rF kF 1440 fF), (arI rT kT 90 f_1564)] → va_S A s.heap H locs → lv_has ls 6 [(5, .int z_1563), (0, .ref rF), (1, .int p0), (2, .ref rT), (3, .int p1), (4, .int p2)] → W p l e (headSpec (Cond.code yX7_copy cX7_copy 6 none :: wG) ({ frames := 0, cells := 0, slots := 0, locals := 0 })).room s m ([.ref rF, .int p0, .ref rT, .int p1, .int p2] : List Value).toArray below meth c H locs 0 0 (MQ below (va_Qv (fun (_ : Nat) => True) (fun (_ : Nat) (t : State) => ∃ (nfT : Nat → Int32), (CopyOk fF fT p0.toNatClampNeg p1.toNatClampNeg p2.toNatClampNeg nfT) ∧ Bw dC dI A [(arI rF kF 1440 fF), (arI rT kT 90 nfT)] [(kF, .int), (kT, .int)] t) A) ([.ref rF, .int p0, .ref rT, .int p1, .int p2] : List Value).toArray s 0 0 A) (F0 m 3 ls []) := by
    intro n_1565
    induction n_1565 with
    | zero => intro z_1563 f_1564 H locs ls hi0_n_1565 hi1_n_1565 hm; exact absurd hm (Nat.not_lt_zero _)
    | succ n_1565 ih_n_1565 =>
      intro z_1563 f_1564 H locs ls hi0_n_1565 hi1_n_1565 hm_n_1565 hP hD hS hl
      refine lv_iload hx hb dX7_copy_3 (lv_at hl 0 rfl) ?_
      refine lv_iload hx hb dX7_copy_5 (lv_at hl 5 rfl) ?_
      refine lv_icmp_ge (tgt := 28) hx hb dX7_copy_7 (by decide) (fun c_1566 => ?_) (fun c_1566 => ?_)
      · skip
        have gc_1566 := ti_le c_1566 rfl rfl
        exact wq_v hx hb hr 0 trivial (fun t ht hW => ⟨f_1564, (by rw [show p2.toNatClampNeg = z_1563.toNatClampNeg from by have q1 := ti_cl (x := z_1563) rfl (by omega); have q2 := ti_cl (x := p2) rfl (by omega); omega]; assumption), Bw.to hP hD hK ht hW⟩) hS dX7_copy_28 hlocks
      · skip
        have gc_1566 := ti_nle c_1566 rfl rfl
        refine lv_aload_n hx hb dX7_copy_10 rfl (lv_at hl 3 rfl) ?_
        refine lv_iload_n hx hb dX7_copy_11 rfl (lv_at hl 4 rfl) ?_
        refine lv_iload hx hb dX7_copy_12 (lv_at hl 0 rfl) ?_
        refine lv_iadd hx hb dX7_copy_14 ?_
        refine lv_topi (fun x_1567 ex_1567 => ?_)
        have vx_1567 : x_1567.toInt = p1.toInt + z_1563.toInt := ti_add ex_1567 rfl rfl (om_0d98f29e hc0.2.1 hi0_n_1565.1) (om_8bd45658 hc2 hi0_n_1565.2)
        refine lv_aload_n hx hb dX7_copy_15 rfl (lv_at hl 1 rfl) ?_
        refine lv_iload_n hx hb dX7_copy_16 rfl (lv_at hl 2 rfl) ?_
        refine lv_iload hx hb dX7_copy_17 (lv_at hl 0 rfl) ?_
        refine lv_iadd hx hb dX7_copy_19 ?_
        refine lv_topi (fun x_1568 ex_1568 => ?_)
        have vx_1568 : x_1568.toInt = p0.toInt + z_1563.toInt := ti_add ex_1568 rfl rfl (om_0d98f29e hc0.1 hi0_n_1565.1) (om_b649409c hc1 hi0_n_1565.2)
        refine va_iald hx hb hK hP 0 0 rfl rfl (ti_in vx_1568 (om_da9595ee hc0.1 hi0_n_1565.1) (om_e1605147 hc1 gc_1566)) dX7_copy_20 ?_
        refine lv_topi (fun x_1569 ex_1569 => ?_)
        have kx_1569 : (fF x_1568.toNatClampNeg).toInt = x_1569.toInt := by rw [ex_1569]
        have cx_1569 : (fF (p0.toNatClampNeg + z_1563.toNatClampNeg)).toInt = x_1569.toInt := by rw [show p0.toNatClampNeg + z_1563.toNatClampNeg = x_1568.toNatClampNeg from (om_08ccee3a (ti_cl (x := p0) rfl hc0.1) (ti_cl (x := z_1563) rfl hi0_n_1565.1) (ti_cl (x := x_1568) vx_1568 (om_da9595ee hc0.1 hi0_n_1565.1)))]; exact kx_1569
        refine va_iast hx hb hK hP hD hS 1 1 rfl rfl (ti_in vx_1567 (om_da9595ee hc0.2.1 hi0_n_1565.1) (om_ad124daf hc2 gc_1566)) dX7_copy_21 (fun H locs hP hD hS => ?_)
        obtain ⟨f_1570, ef_1570⟩ : ∃ g : Nat → Int32, g = upd f_1564 x_1567.toNatClampNeg x_1569 := ⟨_, rfl⟩
        rw [← ef_1570] at hP hD
        obtain ⟨hP, hD⟩ := wl2 (ws' := [(arI rF kF 1440 fF), (arI rT kT 90 f_1570)]) hP hD rfl
        obtain ⟨x_1571, ex_1571⟩ : ∃ z : Int32, z = z_1563 + Int32.ofInt 1 := ⟨_, rfl⟩
        have vx_1571 : x_1571.toInt = z_1563.toInt + 1 := ti_add (y := 1) ex_1571 rfl kc_1 (om_4e4fce7e hi0_n_1565.1) (om_7b558ed0 hc0.1 hc1 hi0_n_1565.2)
        refine lv_iinc (v := x_1571) (lv' := [(5, .int x_1571), (0, .ref rF), (1, .int p0), (2, .ref rT), (3, .int p1), (4, .int p2)]) hx hb dX7_copy_22 hl (k := 0) rfl ex_1571.symm (by decide) rfl (fun ls hl => ?_)
        refine lv_goto (tgt := 3) hx hb dX7_copy_25 (by decide) ?_
        exact ih_n_1565 x_1571 f_1570 _ _ _  ⟨(om_83b90de5 hi0_n_1565.1 vx_1571), (om_afcf07ef gc_1566 vx_1571)⟩ (copy_step hi1_n_1565 ef_1570 (by have q1 := ti_cl (x := x_1567) vx_1567 (om_da9595ee hc0.2.1 hi0_n_1565.1); have q2 := ti_cl (x := p1) rfl hc0.2.1; have q3 := ti_cl (x := z_1563) rfl hi0_n_1565.1; omega) (by have q := cx_1569; omega) (by have q1 := ti_cl (x := x_1571) vx_1571 (om_9548a8fd hi0_n_1565.1); have q3 := ti_cl (x := z_1563) rfl hi0_n_1565.1; omega)) (ms_lt hm_n_1565 (om_dd4ae0bc vx_1571) (om_d5382009 gc_1566)) hP hD hS (lv_sub hl [0, 1, 2, 3, 4, 5] rfl)
  exact key_n_1565 (((p2.toInt - (0 : Int32).toInt).toNat) + 1) 0 fT _ _ _  ⟨(om_b1de7dbe kc_0), (om_2dfe280d hc0.2.2 kc_0)⟩ (by first | assumption | omega | decide | exact copy_zero) (Nat.lt_add_one _) hP hD hS hl
set_option maxHeartbeats 4000000 in
set_option maxRecDepth 100000 in
theorem tX7_copy_90_270 (l : Launch) (dC : Nat → ClassId) (dI : Nat → Nat → Nat) (sz : Nat) (rF : Nat) (fF : Nat → Int32) (kF : ClassId) (rT : Nat) (fT : Nat → Int32) (kT : ClassId) (p0 : Int32) (p1 : Int32) (p2 : Int32)  (hc0 : 0 ≤ p0.toInt ∧ 0 ≤ p1.toInt ∧ 0 ≤ p2.toInt) (hc1 : p0.toInt + p2.toInt ≤ 90) (hc2 : p1.toInt + p2.toInt ≤ 270) : Met l yX7_copy (Cond.code yX7_copy cX7_copy 6 none :: wG) ({ frames := 0, cells := 0, slots := 0, locals := 0 }) (va_Pc [.ref rF, .int p0, .ref rT, .int p1, .int p2] (Pw dC dI sz [(arI rF kF 90 fF), (arI rT kT 270 fT)] [(kF, .int), (kT, .int)])) (va_Qv (fun (_ : Nat) => True) (fun (_ : Nat) (t : State) => ∃ (nfT : Nat → Int32), (CopyOk fF fT p0.toNatClampNeg p1.toNatClampNeg p2.toNatClampNeg nfT) ∧ Bw dC dI (va_A [(arI rF kF 90 fF), (arI rT kT 270 fT)] sz) [(arI rF kF 90 fF), (arI rT kT 270 nfT)] [(kF, .int), (kT, .int)] t) (va_A [(arI rF kF 90 fF), (arI rT kT 270 fT)] sz)) 0 0 (va_A [(arI rF kF 90 fF), (arI rT kT 270 fT)] sz) := by
  refine Met.ofW (cc := cX7_copy) (maxL := 6) (ret := none) pnX7 rfl ?_
  intro p e s m args below meth c s₁ B hml hv
  obtain ⟨rfl, hsz, hP, hK, hD0, hE⟩ := hv
  have hx := B.exec
  have hb := B.bytes
  have hr := B.returns
  have hts : ∀ w ∈ wG, w.before ([.ref rF, .int p0, .ref rT, .int p1, .int p2] : List Value).toArray s = true := fun w h => atoms_spec (ws := Cond.code yX7_copy cX7_copy 6 none :: wG) B.pre w (List.mem_cons_of_mem _ h)
  have hown : s.vm.findClass RX7 = some m.cls := own_of B.named rfl
  have hlocks := B.notSynchronized
  subst hsz
  have hD := hD0.self (sz := s.heap.size)
  generalize hAe : va_A [(arI rF kF 90 fF), (arI rT kT 270 fT)] s.heap.size = A at hD hE ⊢
  have hA : ∀ q : Nat, s.heap.size ≤ q → A q := fun q h => by rw [← hAe]; exact Or.inr h
  have hS : va_S A s.heap s.heap [] := va_S.rf
  have hl := lv_entry ([.ref rF, .int p0, .ref rT, .int p1, .int p2]) (n := 6) (Nat.le_of_ble_eq_true rfl)
  rw [lg_entry_eq]
  generalize (lg_sl ([.ref rF, .int p0, .ref rT, .int p1, .int p2]) ++ List.replicate (6 - (lg_sl ([.ref rF, .int p0, .ref rT, .int p1, .int p2])).length) Slot.unset).toArray = ls at hl ⊢
  have hl : lv_has ls 6 [(0, .ref rF), (1, .int p0), (2, .ref rT), (3, .int p1), (4, .int p2)] := hl
  refine lv_iconst (v := 0) hx hb dX7_copy_0 (by decide) ?_
  refine lv_istore (lv' := [(5, .int 0), (0, .ref rF), (1, .int p0), (2, .ref rT), (3, .int p1), (4, .int p2)]) hx hb dX7_copy_1 hl (by decide) rfl (fun ls hl => ?_)
  have hl := lv_sub hl (l' := [(5, .int 0), (0, .ref rF), (1, .int p0), (2, .ref rT), (3, .int p1), (4, .int p2)]) [0, 1, 2, 3, 4, 5] rfl
  have key_n_1583 : ∀ (n_1583 : Nat) (z_1581 : Int32) (f_1582 : Nat → Int32) (H : Heap) (locs : List Loc) (ls : Array Slot), (0 ≤ z_1581.toInt ∧ z_1581.toInt ≤ p2.toInt) → (CopyOk fF fT p0.toNatClampNeg p1.toNatClampNeg z_1581.toNatClampNeg f_1582) → (p2.toInt - z_1581.toInt).toNat < n_1583 → va_P (dC, dI) vwCl [(arI rF kF 90 fF), (arI rT kT 270 f_1582)] H → va_D A [(arI rF kF 90 fF), (arI rT kT 270 f_1582)] → va_S A s.heap H locs → lv_has ls 6 [(5, .int z_1581), (0, .ref rF), (1, .int p0), (2, .ref rT), (3, .int p1), (4, .int p2)] → W p l e (headSpec (Cond.code yX7_copy cX7_copy 6 none :: wG) ({ frames := 0, cells := 0, slots := 0, locals := 0 })).room s m ([.ref rF, .int p0, .ref rT, .int p1, .int p2] : List Value).toArray below meth c H locs 0 0 (MQ below (va_Qv (fun (_ : Nat) => True) (fun (_ : Nat) (t : State) => ∃ (nfT : Nat → Int32), (CopyOk fF fT p0.toNatClampNeg p1.toNatClampNeg p2.toNatClampNeg nfT) ∧ Bw dC dI A [(arI rF kF 90 fF), (arI rT kT 270 nfT)] [(kF, .int), (kT, .int)] t) A) ([.ref rF, .int p0, .ref rT, .int p1, .int p2] : List Value).toArray s 0 0 A) (F0 m 3 ls []) := by
    intro n_1583
    induction n_1583 with
    | zero => intro z_1581 f_1582 H locs ls hi0_n_1583 hi1_n_1583 hm; exact absurd hm (Nat.not_lt_zero _)
    | succ n_1583 ih_n_1583 =>
      intro z_1581 f_1582 H locs ls hi0_n_1583 hi1_n_1583 hm_n_1583 hP hD hS hl
      refine lv_iload hx hb dX7_copy_3 (lv_at hl 0 rfl) ?_
      refine lv_iload hx hb dX7_copy_5 (lv_at hl 5 rfl) ?_
      refine lv_icmp_ge (tgt := 28) hx hb dX7_copy_7 (by decide) (fun c_1584 => ?_) (fun c_1584 => ?_)
      · skip
        have gc_1584 := ti_le c_1584 rfl rfl
        exact wq_v hx hb hr 0 trivial (fun t ht hW => ⟨f_1582, (by rw [show p2.toNatClampNeg = z_1581.toNatClampNeg from by have q1 := ti_cl (x := z_1581) rfl (by omega); have q2 := ti_cl (x := p2) rfl (by omega); omega]; assumption), Bw.to hP hD hK ht hW⟩) hS dX7_copy_28 hlocks
      · skip
        have gc_1584 := ti_nle c_1584 rfl rfl
        refine lv_aload_n hx hb dX7_copy_10 rfl (lv_at hl 3 rfl) ?_
        refine lv_iload_n hx hb dX7_copy_11 rfl (lv_at hl 4 rfl) ?_
        refine lv_iload hx hb dX7_copy_12 (lv_at hl 0 rfl) ?_
        refine lv_iadd hx hb dX7_copy_14 ?_
        refine lv_topi (fun x_1585 ex_1585 => ?_)
        have vx_1585 : x_1585.toInt = p1.toInt + z_1581.toInt := ti_add ex_1585 rfl rfl (om_0d98f29e hc0.2.1 hi0_n_1583.1) (om_29a9bce9 hc2 hi0_n_1583.2)
        refine lv_aload_n hx hb dX7_copy_15 rfl (lv_at hl 1 rfl) ?_
        refine lv_iload_n hx hb dX7_copy_16 rfl (lv_at hl 2 rfl) ?_
        refine lv_iload hx hb dX7_copy_17 (lv_at hl 0 rfl) ?_
        refine lv_iadd hx hb dX7_copy_19 ?_
        refine lv_topi (fun x_1586 ex_1586 => ?_)
        have vx_1586 : x_1586.toInt = p0.toInt + z_1581.toInt := ti_add ex_1586 rfl rfl (om_0d98f29e hc0.1 hi0_n_1583.1) (om_8bd45658 hc1 hi0_n_1583.2)
        refine va_iald hx hb hK hP 0 0 rfl rfl (ti_in vx_1586 (om_da9595ee hc0.1 hi0_n_1583.1) (om_ad124daf hc1 gc_1584)) dX7_copy_20 ?_
        refine lv_topi (fun x_1587 ex_1587 => ?_)
        have kx_1587 : (fF x_1586.toNatClampNeg).toInt = x_1587.toInt := by rw [ex_1587]
        have cx_1587 : (fF (p0.toNatClampNeg + z_1581.toNatClampNeg)).toInt = x_1587.toInt := by rw [show p0.toNatClampNeg + z_1581.toNatClampNeg = x_1586.toNatClampNeg from (om_08ccee3a (ti_cl (x := p0) rfl hc0.1) (ti_cl (x := z_1581) rfl hi0_n_1583.1) (ti_cl (x := x_1586) vx_1586 (om_da9595ee hc0.1 hi0_n_1583.1)))]; exact kx_1587
        refine va_iast hx hb hK hP hD hS 1 1 rfl rfl (ti_in vx_1585 (om_da9595ee hc0.2.1 hi0_n_1583.1) (om_08b9ba93 hc2 gc_1584)) dX7_copy_21 (fun H locs hP hD hS => ?_)
        obtain ⟨f_1588, ef_1588⟩ : ∃ g : Nat → Int32, g = upd f_1582 x_1585.toNatClampNeg x_1587 := ⟨_, rfl⟩
        rw [← ef_1588] at hP hD
        obtain ⟨hP, hD⟩ := wl2 (ws' := [(arI rF kF 90 fF), (arI rT kT 270 f_1588)]) hP hD rfl
        obtain ⟨x_1589, ex_1589⟩ : ∃ z : Int32, z = z_1581 + Int32.ofInt 1 := ⟨_, rfl⟩
        have vx_1589 : x_1589.toInt = z_1581.toInt + 1 := ti_add (y := 1) ex_1589 rfl kc_1 (om_4e4fce7e hi0_n_1583.1) (om_e7f5d8f5 hc0.1 hc1 hi0_n_1583.2)
        refine lv_iinc (v := x_1589) (lv' := [(5, .int x_1589), (0, .ref rF), (1, .int p0), (2, .ref rT), (3, .int p1), (4, .int p2)]) hx hb dX7_copy_22 hl (k := 0) rfl ex_1589.symm (by decide) rfl (fun ls hl => ?_)
        refine lv_goto (tgt := 3) hx hb dX7_copy_25 (by decide) ?_
        exact ih_n_1583 x_1589 f_1588 _ _ _  ⟨(om_83b90de5 hi0_n_1583.1 vx_1589), (om_afcf07ef gc_1584 vx_1589)⟩ (copy_step hi1_n_1583 ef_1588 (by have q1 := ti_cl (x := x_1585) vx_1585 (om_da9595ee hc0.2.1 hi0_n_1583.1); have q2 := ti_cl (x := p1) rfl hc0.2.1; have q3 := ti_cl (x := z_1581) rfl hi0_n_1583.1; omega) (by have q := cx_1587; omega) (by have q1 := ti_cl (x := x_1589) vx_1589 (om_9548a8fd hi0_n_1583.1); have q3 := ti_cl (x := z_1581) rfl hi0_n_1583.1; omega)) (ms_lt hm_n_1583 (om_dd4ae0bc vx_1589) (om_d5382009 gc_1584)) hP hD hS (lv_sub hl [0, 1, 2, 3, 4, 5] rfl)
  exact key_n_1583 (((p2.toInt - (0 : Int32).toInt).toNat) + 1) 0 fT _ _ _  ⟨(om_b1de7dbe kc_0), (om_2dfe280d hc0.2.2 kc_0)⟩ (by first | assumption | omega | decide | exact copy_zero) (Nat.lt_add_one _) hP hD hS hl
set_option maxHeartbeats 4000000 in
set_option maxRecDepth 100000 in
theorem tX7_copy_270_90 (l : Launch) (dC : Nat → ClassId) (dI : Nat → Nat → Nat) (sz : Nat) (rF : Nat) (fF : Nat → Int32) (kF : ClassId) (rT : Nat) (fT : Nat → Int32) (kT : ClassId) (p0 : Int32) (p1 : Int32) (p2 : Int32)  (hc0 : 0 ≤ p0.toInt ∧ 0 ≤ p1.toInt ∧ 0 ≤ p2.toInt) (hc1 : p0.toInt + p2.toInt ≤ 270) (hc2 : p1.toInt + p2.toInt ≤ 90) : Met l yX7_copy (Cond.code yX7_copy cX7_copy 6 none :: wG) ({ frames := 0, cells := 0, slots := 0, locals := 0 }) (va_Pc [.ref rF, .int p0, .ref rT, .int p1, .int p2] (Pw dC dI sz [(arI rF kF 270 fF), (arI rT kT 90 fT)] [(kF, .int), (kT, .int)])) (va_Qv (fun (_ : Nat) => True) (fun (_ : Nat) (t : State) => ∃ (nfT : Nat → Int32), (CopyOk fF fT p0.toNatClampNeg p1.toNatClampNeg p2.toNatClampNeg nfT) ∧ Bw dC dI (va_A [(arI rF kF 270 fF), (arI rT kT 90 fT)] sz) [(arI rF kF 270 fF), (arI rT kT 90 nfT)] [(kF, .int), (kT, .int)] t) (va_A [(arI rF kF 270 fF), (arI rT kT 90 fT)] sz)) 0 0 (va_A [(arI rF kF 270 fF), (arI rT kT 90 fT)] sz) := by
  refine Met.ofW (cc := cX7_copy) (maxL := 6) (ret := none) pnX7 rfl ?_
  intro p e s m args below meth c s₁ B hml hv
  obtain ⟨rfl, hsz, hP, hK, hD0, hE⟩ := hv
  have hx := B.exec
  have hb := B.bytes
  have hr := B.returns
  have hts : ∀ w ∈ wG, w.before ([.ref rF, .int p0, .ref rT, .int p1, .int p2] : List Value).toArray s = true := fun w h => atoms_spec (ws := Cond.code yX7_copy cX7_copy 6 none :: wG) B.pre w (List.mem_cons_of_mem _ h)
  have hown : s.vm.findClass RX7 = some m.cls := own_of B.named rfl
  have hlocks := B.notSynchronized
  subst hsz
  have hD := hD0.self (sz := s.heap.size)
  generalize hAe : va_A [(arI rF kF 270 fF), (arI rT kT 90 fT)] s.heap.size = A at hD hE ⊢
  have hA : ∀ q : Nat, s.heap.size ≤ q → A q := fun q h => by rw [← hAe]; exact Or.inr h
  have hS : va_S A s.heap s.heap [] := va_S.rf
  have hl := lv_entry ([.ref rF, .int p0, .ref rT, .int p1, .int p2]) (n := 6) (Nat.le_of_ble_eq_true rfl)
  rw [lg_entry_eq]
  generalize (lg_sl ([.ref rF, .int p0, .ref rT, .int p1, .int p2]) ++ List.replicate (6 - (lg_sl ([.ref rF, .int p0, .ref rT, .int p1, .int p2])).length) Slot.unset).toArray = ls at hl ⊢
  have hl : lv_has ls 6 [(0, .ref rF), (1, .int p0), (2, .ref rT), (3, .int p1), (4, .int p2)] := hl
  refine lv_iconst (v := 0) hx hb dX7_copy_0 (by decide) ?_
  refine lv_istore (lv' := [(5, .int 0), (0, .ref rF), (1, .int p0), (2, .ref rT), (3, .int p1), (4, .int p2)]) hx hb dX7_copy_1 hl (by decide) rfl (fun ls hl => ?_)
  have hl := lv_sub hl (l' := [(5, .int 0), (0, .ref rF), (1, .int p0), (2, .ref rT), (3, .int p1), (4, .int p2)]) [0, 1, 2, 3, 4, 5] rfl
  have key_n_1601 : ∀ (n_1601 : Nat) (z_1599 : Int32) (f_1600 : Nat → Int32) (H : Heap) (locs : List Loc) (ls : Array Slot), (0 ≤ z_1599.toInt ∧ z_1599.toInt ≤ p2.toInt) → (CopyOk fF fT p0.toNatClampNeg p1.toNatClampNeg z_1599.toNatClampNeg f_1600) → (p2.toInt - z_1599.toInt).toNat < n_1601 → va_P (dC, dI) vwCl [(arI rF kF 270 fF), (arI rT kT 90 f_1600)] H → va_D A [(arI rF kF 270 fF), (arI rT kT 90 f_1600)] → va_S A s.heap H locs → lv_has ls 6 [(5, .int z_1599), (0, .ref rF), (1, .int p0), (2, .ref rT), (3, .int p1), (4, .int p2)] → W p l e (headSpec (Cond.code yX7_copy cX7_copy 6 none :: wG) ({ frames := 0, cells := 0, slots := 0, locals := 0 })).room s m ([.ref rF, .int p0, .ref rT, .int p1, .int p2] : List Value).toArray below meth c H locs 0 0 (MQ below (va_Qv (fun (_ : Nat) => True) (fun (_ : Nat) (t : State) => ∃ (nfT : Nat → Int32), (CopyOk fF fT p0.toNatClampNeg p1.toNatClampNeg p2.toNatClampNeg nfT) ∧ Bw dC dI A [(arI rF kF 270 fF), (arI rT kT 90 nfT)] [(kF, .int), (kT, .int)] t) A) ([.ref rF, .int p0, .ref rT, .int p1, .int p2] : List Value).toArray s 0 0 A) (F0 m 3 ls []) := by
    intro n_1601
    induction n_1601 with
    | zero => intro z_1599 f_1600 H locs ls hi0_n_1601 hi1_n_1601 hm; exact absurd hm (Nat.not_lt_zero _)
    | succ n_1601 ih_n_1601 =>
      intro z_1599 f_1600 H locs ls hi0_n_1601 hi1_n_1601 hm_n_1601 hP hD hS hl
      refine lv_iload hx hb dX7_copy_3 (lv_at hl 0 rfl) ?_
      refine lv_iload hx hb dX7_copy_5 (lv_at hl 5 rfl) ?_
      refine lv_icmp_ge (tgt := 28) hx hb dX7_copy_7 (by decide) (fun c_1602 => ?_) (fun c_1602 => ?_)
      · skip
        have gc_1602 := ti_le c_1602 rfl rfl
        exact wq_v hx hb hr 0 trivial (fun t ht hW => ⟨f_1600, (by rw [show p2.toNatClampNeg = z_1599.toNatClampNeg from by have q1 := ti_cl (x := z_1599) rfl (by omega); have q2 := ti_cl (x := p2) rfl (by omega); omega]; assumption), Bw.to hP hD hK ht hW⟩) hS dX7_copy_28 hlocks
      · skip
        have gc_1602 := ti_nle c_1602 rfl rfl
        refine lv_aload_n hx hb dX7_copy_10 rfl (lv_at hl 3 rfl) ?_
        refine lv_iload_n hx hb dX7_copy_11 rfl (lv_at hl 4 rfl) ?_
        refine lv_iload hx hb dX7_copy_12 (lv_at hl 0 rfl) ?_
        refine lv_iadd hx hb dX7_copy_14 ?_
        refine lv_topi (fun x_1603 ex_1603 => ?_)
        have vx_1603 : x_1603.toInt = p1.toInt + z_1599.toInt := ti_add ex_1603 rfl rfl (om_0d98f29e hc0.2.1 hi0_n_1601.1) (om_8bd45658 hc2 hi0_n_1601.2)
        refine lv_aload_n hx hb dX7_copy_15 rfl (lv_at hl 1 rfl) ?_
        refine lv_iload_n hx hb dX7_copy_16 rfl (lv_at hl 2 rfl) ?_
        refine lv_iload hx hb dX7_copy_17 (lv_at hl 0 rfl) ?_
        refine lv_iadd hx hb dX7_copy_19 ?_
        refine lv_topi (fun x_1604 ex_1604 => ?_)
        have vx_1604 : x_1604.toInt = p0.toInt + z_1599.toInt := ti_add ex_1604 rfl rfl (om_0d98f29e hc0.1 hi0_n_1601.1) (om_29a9bce9 hc1 hi0_n_1601.2)
        refine va_iald hx hb hK hP 0 0 rfl rfl (ti_in vx_1604 (om_da9595ee hc0.1 hi0_n_1601.1) (om_08b9ba93 hc1 gc_1602)) dX7_copy_20 ?_
        refine lv_topi (fun x_1605 ex_1605 => ?_)
        have kx_1605 : (fF x_1604.toNatClampNeg).toInt = x_1605.toInt := by rw [ex_1605]
        have cx_1605 : (fF (p0.toNatClampNeg + z_1599.toNatClampNeg)).toInt = x_1605.toInt := by rw [show p0.toNatClampNeg + z_1599.toNatClampNeg = x_1604.toNatClampNeg from (om_08ccee3a (ti_cl (x := p0) rfl hc0.1) (ti_cl (x := z_1599) rfl hi0_n_1601.1) (ti_cl (x := x_1604) vx_1604 (om_da9595ee hc0.1 hi0_n_1601.1)))]; exact kx_1605
        refine va_iast hx hb hK hP hD hS 1 1 rfl rfl (ti_in vx_1603 (om_da9595ee hc0.2.1 hi0_n_1601.1) (om_ad124daf hc2 gc_1602)) dX7_copy_21 (fun H locs hP hD hS => ?_)
        obtain ⟨f_1606, ef_1606⟩ : ∃ g : Nat → Int32, g = upd f_1600 x_1603.toNatClampNeg x_1605 := ⟨_, rfl⟩
        rw [← ef_1606] at hP hD
        obtain ⟨hP, hD⟩ := wl2 (ws' := [(arI rF kF 270 fF), (arI rT kT 90 f_1606)]) hP hD rfl
        obtain ⟨x_1607, ex_1607⟩ : ∃ z : Int32, z = z_1599 + Int32.ofInt 1 := ⟨_, rfl⟩
        have vx_1607 : x_1607.toInt = z_1599.toInt + 1 := ti_add (y := 1) ex_1607 rfl kc_1 (om_4e4fce7e hi0_n_1601.1) (om_acdbfea5 hc0.1 hc1 hi0_n_1601.2)
        refine lv_iinc (v := x_1607) (lv' := [(5, .int x_1607), (0, .ref rF), (1, .int p0), (2, .ref rT), (3, .int p1), (4, .int p2)]) hx hb dX7_copy_22 hl (k := 0) rfl ex_1607.symm (by decide) rfl (fun ls hl => ?_)
        refine lv_goto (tgt := 3) hx hb dX7_copy_25 (by decide) ?_
        exact ih_n_1601 x_1607 f_1606 _ _ _  ⟨(om_83b90de5 hi0_n_1601.1 vx_1607), (om_afcf07ef gc_1602 vx_1607)⟩ (copy_step hi1_n_1601 ef_1606 (by have q1 := ti_cl (x := x_1603) vx_1603 (om_da9595ee hc0.2.1 hi0_n_1601.1); have q2 := ti_cl (x := p1) rfl hc0.2.1; have q3 := ti_cl (x := z_1599) rfl hi0_n_1601.1; omega) (by have q := cx_1605; omega) (by have q1 := ti_cl (x := x_1607) vx_1607 (om_9548a8fd hi0_n_1601.1); have q3 := ti_cl (x := z_1599) rfl hi0_n_1601.1; omega)) (ms_lt hm_n_1601 (om_dd4ae0bc vx_1607) (om_d5382009 gc_1602)) hP hD hS (lv_sub hl [0, 1, 2, 3, 4, 5] rfl)
  exact key_n_1601 (((p2.toInt - (0 : Int32).toInt).toNat) + 1) 0 fT _ _ _  ⟨(om_b1de7dbe kc_0), (om_2dfe280d hc0.2.2 kc_0)⟩ (by first | assumption | omega | decide | exact copy_zero) (Nat.lt_add_one _) hP hD hS hl
