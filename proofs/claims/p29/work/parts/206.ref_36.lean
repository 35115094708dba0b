set_option maxHeartbeats 4000000 in
set_option maxRecDepth 100000 in
theorem tX7_copy_90_90 (l : Launch) (dC : Nat → ClassId) (dI : Nat → Nat → Nat) (sz : Nat) (rF : Nat) (fF : Nat → Int32) (kF : ClassId) (rT : Nat) (fT : Nat → Int32) (kT : ClassId) (p0 : Int32) (p1 : Int32) (p2 : Int32)  (hc0 : 0 ≤ p0.toInt ∧ 0 ≤ p1.toInt ∧ 0 ≤ p2.toInt) (hc1 : p0.toInt + p2.toInt ≤ 90) (hc2 : p1.toInt + p2.toInt ≤ 90) : Met l yX7_copy (Cond.code yX7_copy cX7_copy 6 none :: wG) ({ frames := 0, cells := 0, slots := 0, locals := 0 }) (va_Pc [.ref rF, .int p0, .ref rT, .int p1, .int p2] (Pw dC dI sz [(arI rF kF 90 fF), (arI rT kT 90 fT)] [(kF, .int), (kT, .int)])) (va_Qv (fun (_ : Nat) => True) (fun (_ : Nat) (t : State) => ∃ (nfT : Nat → Int32), (CopyOk fF fT p0.toNatClampNeg p1.toNatClampNeg p2.toNatClampNeg nfT) ∧ Bw dC dI (va_A [(arI rF kF 90 fF), (arI rT kT 90 fT)] sz) [(arI rF kF 90 fF), (arI rT kT 90 nfT)] [(kF, .int), (kT, .int)] t) (va_A [(arI rF kF 90 fF), (arI rT kT 90 fT)] sz)) 0 0 (va_A [(arI rF kF 90 fF), (arI rT kT 90 fT)] sz) := by
  refine Met.ofW (cc := cX7_copy) (maxL := 6) (ret := none) pnX7 rfl ?_
  intro p e s m args below meth c s₁ B hml hv
  obtain ⟨rfl, hsz, hP, hK, hD0, hE⟩ := hv
  have hx := B.exec
  have hb := B.bytes
  have hr := B.returns
  have hts : ∀ w ∈ wG, w.before ([.ref rF, .int p0, .ref rT, .int p1, .int p2] : List Value).toArray s = true := fun w h => atoms_spec (ws := Cond.code yX7_copy cX7_copy 6 none :: wG) B.pre w (List.mem_cons_of_mem _ h)
  have hown : s.vm.findClass RX7 = some m.cls := own_of B.named rfl
  have hlocks := B.notSynchronized
  subst hsz
  have hD := hD0.self (sz := s.heap.size)
  generalize hAe : va_A [(arI rF kF 90 fF), (arI rT kT 90 fT)] s.heap.size = A at hD hE ⊢
  have hA : ∀ q : Nat, s.heap.size ≤ q → A q := fun q h => by rw [← hAe]; exact Or.inr h
  have hS : va_S A s.heap s.heap [] := va_S.rf
  have hl := lv_entry ([.ref rF, .int p0, .ref rT, .int p1, .int p2]) (n := 6) (Nat.le_of_ble_eq_true rfl)
  rw [lg_entry_eq]
  generalize (lg_sl ([.ref rF, .int p0, .ref rT, .int p1, .int p2]) ++ List.replicate (6 - (lg_sl ([.ref rF, .int p0, .ref rT, .int p1, .int p2])).length) Slot.unset).toArray = ls at hl ⊢
  have hl : lv_has ls 6 [(0, .ref rF), (1, .int p0), (2, .ref rT), (3, .int p1), (4, .int p2)] := hl
  refine lv_iconst (v := 0) hx hb dX7_copy_0 (by decide) ?_
  refine lv_istore (lv' := [(5, .int 0), (0, .ref rF), (1, .int p0), (2, .ref rT), (3, .int p1), (4, .int p2)]) hx hb dX7_copy_1 hl (by decide) rfl (fun ls hl => ?_)
  have hl := lv_sub hl (l' := [(5, .int 0), (0, .ref rF), (1, .int p0), (2, .ref rT), (3, .int p1), (4, .int p2)]) [0, 1, 2, 3, 4, 5] rfl
  have key_n_1481 : ∀ (n_1481 : Nat) (z_1479 : Int32) (f_1480 : Nat → Int32) (H : Heap) (locs : List Loc) (ls : Array Slot), (0 ≤ z_1479.toInt ∧ z_1479.toInt ≤ p2.toInt) → (CopyOk fF fT p0.toNatClampNeg p1.toNatClampNeg z_1479.toNatClampNeg f_1480) → (p2.toInt - z_1479.toInt).toNat < n_1481 → va_P (dC, dI) vwCl [(arI rF kF 90 fF), (arI rT kT 90 f_1480)] H → va_D A [(arI rF kF 90 fF), (arI rT kT 90 f_1480)] → va_S A s.heap H locs → lv_has ls 6 [(5, .int z_1479), (0, .ref rF), (1, .int p0), (2, .ref rT), (3, .int p1), (4, .int p2)] → W p l e (headSpec (Cond.code yX7_copy cX7_copy 6 none :: wG) ({ frames := 0, cells := 0, slots := 0, locals := 0 })).room s m ([.ref rF, .int p0, .ref rT, .int p1, .int p2] : List Value).toArray below meth c H locs 0 0 (MQ below (va_Qv (fun (_ : Nat) => True) (fun (_ : Nat) (t : State) => ∃ (nfT : Nat → Int32), (CopyOk fF fT p0.toNatClampNeg p1.toNatClampNeg p2.toNatClampNeg nfT) ∧ Bw dC dI A [(arI rF kF 90 fF), (arI rT kT 90 nfT)] [(kF, .int), (kT, .int)] t) A) ([.ref rF, .int p0, .ref rT, .int p1, .int p2] : List Value).toArray s 0 0 A) (F0 m 3 ls []) := by
    intro n_1481
    induction n_1481 with
    | zero => intro z_1479 f_1480 H locs ls hi0_n_1481 hi1_n_1481 hm; exact absurd hm (Nat.not_lt_zero _)
    | succ n_1481 ih_n_1481 =>
      intro z_1479 f_1480 H locs ls hi0_n_1481 hi1_n_1481 hm_n_1481 hP hD hS hl
      refine lv_iload hx hb dX7_copy_3 (lv_at hl 0 rfl) ?_
      refine lv_iload hx hb dX7_copy_5 (lv_at hl 5 rfl) ?_
      refine lv_icmp_ge (tgt := 28) hx hb dX7_copy_7 (by decide) (fun c_1482 => ?_) (fun c_1482 => ?_)
      · skip
        have gc_1482 := ti_le c_1482 rfl rfl
        exact wq_v hx hb hr 0 trivial (fun t ht hW => ⟨f_1480, (by rw [show p2.toNatClampNeg = z_1479.toNatClampNeg from by have q1 := ti_cl (x := z_1479) rfl (by omega); have q2 := ti_cl (x := p2) rfl (by omega); omega]; assumption), Bw.to hP hD hK ht hW⟩) hS dX7_copy_28 hlocks
      · skip
        have gc_1482 := ti_nle c_1482 rfl rfl
        refine lv_aload_n hx hb dX7_copy_10 rfl (lv_at hl 3 rfl) ?_
        refine lv_iload_n hx hb dX7_copy_11 rfl (lv_at hl 4 rfl) ?_
        refine lv_iload hx hb dX7_copy_12 (lv_at hl 0 rfl) ?_
        refine lv_iadd hx hb dX7_copy_14 ?_
        refine lv_topi (fun x_1483 ex_1483 => ?_)
        have vx_1483 : x_1483.toInt = p1.toInt + z_1479.toInt := ti_add ex_1483 rfl rfl (om_0d98f29e hc0.2.1 hi0_n_1481.1) (om_8bd45658 hc2 hi0_n_1481.2)
        refine lv_aload_n hx hb dX7_copy_15 rfl (lv_at hl 1 rfl) ?_
        refine lv_iload_n hx hb dX7_copy_16 rfl (lv_at hl 2 rfl) ?_
        refine lv_iload hx hb dX7_copy_17 (lv_at hl 0 rfl) ?_
        refine lv_iadd hx hb dX7_copy_19 ?_
        refine lv_topi (fun x_1484 ex_1484 => ?_)
        have vx_1484 : x_1484.toInt = p0.toInt + z_1479.toInt := ti_add ex_1484 rfl rfl (om_0d98f29e hc0.1 hi0_n_1481.1) (om_8bd45658 hc1 hi0_n_1481.2)
        refine va_iald hx hb hK hP 0 0 rfl rfl (ti_in vx_1484 (om_da9595ee hc0.1 hi0_n_1481.1) (om_ad124daf hc1 gc_1482)) dX7_copy_20 ?_
        refine lv_topi (fun x_1485 ex_1485 => ?_)
        have kx_1485 : (fF x_1484.toNatClampNeg).toInt = x_1485.toInt := by rw [ex_1485]
        have cx_1485 : (fF (p0.toNatClampNeg + z_1479.toNatClampNeg)).toInt = x_1485.toInt := by rw [show p0.toNatClampNeg + z_1479.toNatClampNeg = x_1484.toNatClampNeg from (om_08ccee3a (ti_cl (x := p0) rfl hc0.1) (ti_cl (x := z_1479) rfl hi0_n_1481.1) (ti_cl (x := x_1484) vx_1484 (om_da9595ee hc0.1 hi0_n_1481.1)))]; exact kx_1485
        refine va_iast hx hb hK hP hD hS 1 1 rfl rfl (ti_in vx_1483 (om_da9595ee hc0.2.1 hi0_n_1481.1) (om_ad124daf hc2 gc_1482)) dX7_copy_21 (fun H locs hP hD hS => ?_)
        obtain ⟨f_1486, ef_1486⟩ : ∃ g : Nat → Int32, g = upd f_1480 x_1483.toNatClampNeg x_1485 := ⟨_, rfl⟩
        rw [← ef_1486] at hP hD
        obtain ⟨hP, hD⟩ := wl2 (ws' := [(arI rF kF 90 fF), (arI rT kT 90 f_1486)]) hP hD rfl
        obtain ⟨x_1487, ex_1487⟩ : ∃ z : Int32, z = z_1479 + Int32.ofInt 1 := ⟨_, rfl⟩
        have vx_1487 : x_1487.toInt = z_1479.toInt + 1 := ti_add (y := 1) ex_1487 rfl kc_1 (om_4e4fce7e hi0_n_1481.1) (om_e7f5d8f5 hc0.1 hc1 hi0_n_1481.2)
        refine lv_iinc (v := x_1487) (lv' := [(5, .int x_1487), (0, .ref rF), (1, .int p0), (2, .ref rT), (3, .int p1), (4, .int p2)]) hx hb dX7_copy_22 hl (k := 0) rfl ex_1487.symm (by decide) rfl (fun ls hl => ?_)
        refine lv_goto (tgt := 3) hx hb dX7_copy_25 (by decide) ?_
        exact ih_n_1481 x_1487 f_1486 _ _ _  ⟨(om_83b90de5 hi0_n_1481.1 vx_1487), (om_afcf07ef gc_1482 vx_1487)⟩ (copy_step hi1_n_1481 ef_1486 (by have q1 := ti_cl (x := x_1483) vx_1483 (om_da9595ee hc0.2.1 hi0_n_1481.1); have q2 := ti_cl (x := p1) rfl hc0.2.1; have q3 := ti_cl (x := z_1479) rfl hi0_n_1481.1; omega) (by have q := cx_1485; omega) (by have q1 := ti_cl (x := x_1487) vx_1487 (om_9548a8fd hi0_n_1481.1); have q3 := ti_cl (x := z_1479) rfl hi0_n_1481.1; omega)) (ms_lt hm_n_1481 (om_dd4ae0bc vx_1487) (om_d5382009 gc_1482)) hP hD hS (lv_sub hl [0, 1, 2, 3, 4, 5] rfl)
  exact key_n_1481 (((p2.toInt - (0 : Int32).toInt).toNat) + 1) 0 fT _ _ _  ⟨(om_b1de7dbe kc_0), (om_2dfe280d hc0.2.2 kc_0)⟩ (by first | assumption | omega | decide | exact copy_zero) (Nat.lt_add_one _) hP hD hS hl
set_option maxHeartbeats 4000000 in
set_option maxRecDepth 100000 in
theorem tX7_copy_8_8 (l : Launch) (dC : Nat → ClassId) (dI : Nat → Nat → Nat) (sz : Nat) (rF : Nat) (fF : Nat → Int32) (kF : ClassId) (rT : Nat) (fT : Nat → Int32) (kT : ClassId) (p0 : Int32) (p1 : Int32) (p2 : Int32)  (hc0 : 0 ≤ p0.toInt ∧ 0 ≤ p1.toInt ∧ 0 ≤ p2.toInt) (hc1 : p0.toInt + p2.toInt ≤ 8) (hc2 : p1.toInt + p2.toInt ≤ 8) : Met l yX7_copy (Cond.code yX7_copy cX7_copy 6 none :: wG) ({ frames := 0, cells := 0, slots := 0, locals := 0 }) (va_Pc [.ref rF, .int p0, .ref rT, .int p1, .int p2] (Pw dC dI sz [(arI rF kF 8 fF), (arI rT kT 8 fT)] [(kF, .int), (kT, .int)])) (va_Qv (fun (_ : Nat) => True) (fun (_ : Nat) (t : State) => ∃ (nfT : Nat → Int32), (CopyOk fF fT p0.toNatClampNeg p1.toNatClampNeg p2.toNatClampNeg nfT) ∧ Bw dC dI (va_A [(arI rF kF 8 fF), (arI rT kT 8 fT)] sz) [(arI rF kF 8 fF), (arI rT kT 8 nfT)] [(kF, .int), (kT, .int)] t) (va_A [(arI rF kF 8 fF), (arI rT kT 8 fT)] sz)) 0 0 (va_A [(arI rF kF 8 fF), (arI rT kT 8 fT)] sz) := by
  refine Met.ofW (cc := cX7_copy) (maxL := 6) (ret := none) pnX7 rfl ?_
  intro p e s m args below meth c s₁ B hml hv
  obtain ⟨rfl, hsz, hP, hK, hD0, hE⟩ := hv
  have hx := B.exec
  have hb := B.bytes
  have hr := B.returns
  have hts : ∀ w ∈ wG, w.before ([.ref rF, .int p0, .ref rT, .int p1, .int p2] : List Value).toArray s = true := fun w h => atoms_spec (ws := Cond.code yX7_copy cX7_copy 6 none :: wG) B.pre w (List.mem_cons_of_mem _ h)
  have hown : s.vm.findClass RX7 = some m.cls := own_of B.named rfl
  have hlocks := B.notSynchronized
  subst hsz
  have hD := hD0.self (sz := s.heap.size)
  generalize hAe : va_A [(arI rF kF 8 fF), (arI rT kT 8 fT)] s.heap.size = A at hD hE ⊢
  have hA : ∀ q : Nat, s.heap.size ≤ q → A q := fun q h => by rw [← hAe]; exact Or.inr h
  have hS : va_S A s.heap s.heap [] := va_S.rf
  have hl := lv_entry ([.ref rF, .int p0, .ref rT, .int p1, .int p2]) (n := 6) (Nat.le_of_ble_eq_true rfl)
  rw [lg_entry_eq]
  generalize (lg_sl ([.ref rF, .int p0, .ref rT, .int p1, .int p2]) ++ List.replicate (6 - (lg_sl ([.ref rF, .int p0, .ref rT, .int p1, .int p2])).length) Slot.unset).toArray = ls at hl ⊢
  have hl : lv_has ls 6 [(0, .ref rF), (1, .int p0), (2, .ref rT), (3, .int p1), (4, .int p2)] := hl
  refine lv_iconst (v := 0) hx hb dX7_copy_0 (by decide) ?_
  refine lv_istore (lv' := [(5, .int 0), (0, .ref rF), (1, .int p0), (2, .ref rT), (3, .int p1), (4, .int p2)]) hx hb dX7_copy_1 hl (by decide) rfl (fun ls hl => ?_)
  have hl := lv_sub hl (l' := [(5, .int 0), (0, .ref rF), (1, .int p0), (2, .ref rT), (3, .int p1), (4, .int p2)]) [0, 1, 2, 3, 4, 5] rfl
  have key_n_1499 : ∀ (n_1499 : Nat) (z_1497 : Int32) (f_1498 : Nat → Int32) (H : Heap) (locs : List Loc) (ls : Array Slot), (0 ≤ z_1497.toInt ∧ z_1497.toInt ≤ p2.toInt) → (CopyOk fF fT p0.toNatClampNeg p1.toNatClampNeg z_1497.toNatClampNeg f_1498) → (p2.toInt - z_1497.toInt).toNat < n_1499 → va_P (dC, dI) vwCl [(arI rF kF 8 fF), (arI rT kT 8 f_1498)] H → va_D A [(arI rF kF 8 fF), (arI rT kT 8 f_1498)] → va_S A s.heap H locs → lv_has ls 6 [(5, .int z_1497), (0, .ref rF), (1, .int p0), (2, .ref rT), (3, .int p1), (4, .int p2)] → W p l e (headSpec (Cond.code yX7_copy cX7_copy 6 none :: wG) ({ frames := 0, cells := 0, slots := 0, locals := 0 })).room s m ([.ref rF, .int p0, .ref rT, .int p1, .int p2] : List Value).toArray below meth c H locs 0 0 (MQ below (va_Qv (fun (_ : Nat) => True) (fun (_ : Nat) (t : State) => ∃ (nfT : Nat → Int32), (CopyOk fF fT p0.toNatClampNeg p1.toNatClampNeg p2.toNatClampNeg nfT) ∧ Bw dC dI A [(arI rF kF 8 fF), (arI rT kT 8 nfT)] [(kF, .int), (kT, .int)] t) A) ([.ref rF, .int p0, .ref rT, .int p1, .int p2] : List Value).toArray s 0 0 A) (F0 m 3 ls []) := by
    intro n_1499
    induction n_1499 with
    | zero => intro z_1497 f_1498 H locs ls hi0_n_1499 hi1_n_1499 hm; exact absurd hm (Nat.not_lt_zero _)
    | succ n_1499 ih_n_1499 =>
      intro z_1497 f_1498 H locs ls hi0_n_1499 hi1_n_1499 hm_n_1499 hP hD hS hl
      refine lv_iload hx hb dX7_copy_3 (lv_at hl 0 rfl) ?_
      refine lv_iload hx hb dX7_copy_5 (lv_at hl 5 rfl) ?_
      refine lv_icmp_ge (tgt := 28) hx hb dX7_copy_7 (by decide) (fun c_1500 => ?_) (fun c_1500 => ?_)
      · skip
        have gc_1500 := ti_le c_1500 rfl rfl
        exact wq_v hx hb hr 0 trivial (fun t ht hW => ⟨f_1498, (by rw [show p2.toNatClampNeg = z_1497.toNatClampNeg from by have q1 := ti_cl (x := z_1497) rfl (by omega); have q2 := ti_cl (x := p2) rfl (by omega); omega]; assumption), Bw.to hP hD hK ht hW⟩) hS dX7_copy_28 hlocks
      · skip
        have gc_1500 := ti_nle c_1500 rfl rfl
        refine lv_aload_n hx hb dX7_copy_10 rfl (lv_at hl 3 rfl) ?_
        refine lv_iload_n hx hb dX7_copy_11 rfl (lv_at hl 4 rfl) ?_
        refine lv_iload hx hb dX7_copy_12 (lv_at hl 0 rfl) ?_
        refine lv_iadd hx hb dX7_copy_14 ?_
        refine lv_topi (fun x_1501 ex_1501 => ?_)
        have vx_1501 : x_1501.toInt = p1.toInt + z_1497.toInt := ti_add ex_1501 rfl rfl (om_0d98f29e hc0.2.1 hi0_n_1499.1) (om_2dfe3766 hc2 hi0_n_1499.2)
        refine lv_aload_n hx hb dX7_copy_15 rfl (lv_at hl 1 rfl) ?_
        refine lv_iload_n hx hb dX7_copy_16 rfl (lv_at hl 2 rfl) ?_
        refine lv_iload hx hb dX7_copy_17 (lv_at hl 0 rfl) ?_
        refine lv_iadd hx hb dX7_copy_19 ?_
        refine lv_topi (fun x_1502 ex_1502 => ?_)
        have vx_1502 : x_1502.toInt = p0.toInt + z_1497.toInt := ti_add ex_1502 rfl rfl (om_0d98f29e hc0.1 hi0_n_1499.1) (om_2dfe3766 hc1 hi0_n_1499.2)
        refine va_iald hx hb hK hP 0 0 rfl rfl (ti_in vx_1502 (om_da9595ee hc0.1 hi0_n_1499.1) (om_6005669c hc1 gc_1500)) dX7_copy_20 ?_
        refine lv_topi (fun x_1503 ex_1503 => ?_)
        have kx_1503 : (fF x_1502.toNatClampNeg).toInt = x_1503.toInt := by rw [ex_1503]
        have cx_1503 : (fF (p0.toNatClampNeg + z_1497.toNatClampNeg)).toInt = x_1503.toInt := by rw [show p0.toNatClampNeg + z_1497.toNatClampNeg = x_1502.toNatClampNeg from (om_08ccee3a (ti_cl (x := p0) rfl hc0.1) (ti_cl (x := z_1497) rfl hi0_n_1499.1) (ti_cl (x := x_1502) vx_1502 (om_da9595ee hc0.1 hi0_n_1499.1)))]; exact kx_1503
        refine va_iast hx hb hK hP hD hS 1 1 rfl rfl (ti_in vx_1501 (om_da9595ee hc0.2.1 hi0_n_1499.1) (om_6005669c hc2 gc_1500)) dX7_copy_21 (fun H locs hP hD hS => ?_)
        obtain ⟨f_1504, ef_1504⟩ : ∃ g : Nat → Int32, g = upd f_1498 x_1501.toNatClampNeg x_1503 := ⟨_, rfl⟩
        rw [← ef_1504] at hP hD
        obtain ⟨hP, hD⟩ := wl2 (ws' := [(arI rF kF 8 fF), (arI rT kT 8 f_1504)]) hP hD rfl
        obtain ⟨x_1505, ex_1505⟩ : ∃ z : Int32, z = z_1497 + Int32.ofInt 1 := ⟨_, rfl⟩
        have vx_1505 : x_1505.toInt = z_1497.toInt + 1 := ti_add (y := 1) ex_1505 rfl kc_1 (om_4e4fce7e hi0_n_1499.1) (om_da77bcef hc0.1 hc1 hi0_n_1499.2)
        refine lv_iinc (v := x_1505) (lv' := [(5, .int x_1505), (0, .ref rF), (1, .int p0), (2, .ref rT), (3, .int p1), (4, .int p2)]) hx hb dX7_copy_22 hl (k := 0) rfl ex_1505.symm (by decide) rfl (fun ls hl => ?_)
        refine lv_goto (tgt := 3) hx hb dX7_copy_25 (by decide) ?_
        exact ih_n_1499 x_1505 f_1504 _ _ _  ⟨(om_83b90de5 hi0_n_1499.1 vx_1505), (om_afcf07ef gc_1500 vx_1505)⟩ (copy_step hi1_n_1499 ef_1504 (by have q1 := ti_cl (x := x_1501) vx_1501 (om_da9595ee hc0.2.1 hi0_n_1499.1); have q2 := ti_cl (x := p1) rfl hc0.2.1; have q3 := ti_cl (x := z_1497) rfl hi0_n_1499.1; omega) (by have q := cx_1503; omega) (by have q1 := ti_cl (x := x_1505) vx_1505 (om_9548a8fd hi0_n_1499.1); have q3 := ti_cl (x := z_1497) rfl hi0_n_1499.1; omega)) (ms_lt hm_n_1499 (om_dd4ae0bc vx_1505) (om_d5382009 gc_1500)) hP hD hS (lv_sub hl [0, 1, 2, 3, 4, 5] rfl)
  exact key_n_1499 (((p2.toInt - (0 : Int32).toInt).toNat) + 1) 0 fT _ _ _  ⟨(om_b1de7dbe kc_0), (om_2dfe280d hc0.2.2 kc_0)⟩ (by first | assumption | omega | decide | exact copy_zero) (Nat.lt_add_one _) hP hD hS hl
set_option maxHeartbeats 4000000 in
set_option maxRecDepth 100000 in
theorem tX7_copy_8_287 (l : Launch) (dC : Nat → ClassId) (dI : Nat → Nat → Nat) (sz : Nat) (rF : Nat) (fF : Nat → Int32) (kF : ClassId) (rT : Nat) (fT : Nat → Int32) (kT : ClassId) (p0 : Int32) (p1 : Int32) (p2 : Int32)  (hc0 : 0 ≤ p0.toInt ∧ 0 ≤ p1.toInt ∧ 0 ≤ p2.toInt) (hc1 : p0.toInt + p2.toInt ≤ 8) (hc2 : p1.toInt + p2.toInt ≤ 287) : Met l yX7_copy (Cond.code yX7_copy cX7_copy 6 none :: wG) ({ frames := 0, cells := 0, slots := 0, locals := 0 }) (va_Pc [.ref rF, .int p0, .ref rT, .int p1, .int p2] (Pw dC dI sz [(arI rF kF 8 fF), (arI rT kT 287 fT)] [(kF, .int), (kT, .int)])) (va_Qv (fun (_ : Nat) => True) (fun (_ : Nat) (t : State) => ∃ (nfT : Nat → Int32), (CopyOk fF fT p0.toNatClampNeg p1.toNatClampNeg p2.toNatClampNeg nfT) ∧ Bw dC dI (va_A [(arI rF kF 8 fF), (arI rT kT 287 fT)] sz) [(arI rF kF 8 fF), (arI rT kT 287 nfT)] [(kF, .int), (kT, .int)] t) (va_A [(arI rF kF 8 fF), (arI rT kT 287 fT)] sz)) 0 0 (va_A [(arI rF kF 8 fF), (arI rT kT 287 fT)] sz) := by
  refine Met.ofW (cc := cX7_copy) (maxL := 6) (ret := none) pnX7 rfl ?_
  intro p e s m args below meth c s₁ B hml hv
  obtain ⟨rfl, hsz, hP, hK, hD0, hE⟩ := hv
  have hx := B.exec
  have hb := B.bytes
  have hr := B.returns
  have hts : ∀ w ∈ wG, w.before ([.ref rF, .int p0, .ref rT, .int p1, .int p2] : List Value).toArray s = true := fun w h => atoms_spec (ws := Cond.code yX7_copy cX7_copy 6 none :: wG) B.pre w (List.mem_cons_of_mem _ h)
  have hown : s.vm.findClass RX7 = some m.cls := own_of B.named rfl
  have hlocks := B.notSynchronized
  subst hsz
  have hD := hD0.self (sz := s.heap.size)
  generalize hAe : va_A [(arI rF kF 8 fF), (arI rT kT 287 fT)] s.heap.size = A at hD hE ⊢
  have hA : ∀ q : Nat, s.heap.size ≤ q → A q := fun q h => by rw [← hAe]; exact Or.inr h
  have hS : va_S A s.heap s.heap [] := va_S.rf
  have hl := lv_entry ([.ref rF, .int p0, .ref rT, .int p1, .int p2]) (n := 6) (Nat.le_of_ble_eq_true rfl)
  rw [lg_entry_eq]
  generalize (lg_sl ([.ref rF, .int p0, .ref rT, .int p1, .int p2]) ++ List.replicate (6 - (lg_sl ([.ref rF, .int p0, .ref rT, .int p1, .int p2])).length) Slot.unset).toArray = ls at hl ⊢
  have hl : lv_has ls 6 [(0, .ref rF), (1, .int p0), (2, .ref rT), (3, .int p1), (4, .int p2)] := hl
  refine lv_iconst (v := 0) hx hb dX7_copy_0 (by decide) ?_
  refine lv_istore (lv' := [(5, .int 0), (0, .ref rF), (1, .int p0), (2, .ref rT), (3, .int p1), (4, .int p2)]) hx hb dX7_copy_1 hl (by decide) rfl (fun ls hl => ?_)
  have hl := lv_sub hl (l' := [(5, .int 0), (0, .ref rF), (1, .int p0), (2, .ref rT), (3, .int p1), (4, .int p2)]) [0, 1, 2, 3, 4, 5] rfl
  have key_n_1517 : ∀ (n_1517 : Nat) (z_1515 : Int32) (f_1516 : Nat → Int32) (H : Heap) (locs : List Loc) (ls : Array Slot), (0 ≤ z_1515.toInt ∧ z_1515.toInt ≤ p2.toInt) → (CopyOk fF fT p0.toNatClampNeg p1.toNatClampNeg z_1515.toNatClampNeg f_1516) → (p2.toInt - z_1515.toInt).toNat < n_1517 → va_P (dC, dI) vwCl [(arI rF kF 8 fF), (arI rT kT 287 f_1516)] H → va_D A [(arI rF kF 8 fF), (arI rT kT 287 f_1516)] → va_S A s.heap H locs → lv_has ls 6 [(5, .int z_1515), (0, .ref rF), (1, .int p0), (2, .ref rT), (3, .int p1), (4, .int p2)] → W p l e (headSpec (Cond.code yX7_copy cX7_copy 6 none :: wG) ({ frames := 0, cells := 0, slots := 0, locals := 0 })).room s m ([.ref rF, .int p0, .ref rT, .int p1, .int p2] : List Value).toArray below meth c H locs 0 0 (MQ below (va_Qv (fun (_ : Nat) => True) (fun (_ : Nat) (t : State) => ∃ (nfT : Nat → Int32), (CopyOk fF fT p0.toNatClampNeg p1.toNatClampNeg p2.toNatClampNeg nfT) ∧ Bw dC dI A [(arI rF kF 8 fF), (arI rT kT 287 nfT)] [(kF, .int), (kT, .int)] t) A) ([.ref rF, .int p0, .ref rT, .int p1, .int p2] : List Value).toArray s 0 0 A) (F0 m 3 ls []) := by
    intro n_1517
    induction n_1517 with
    | zero => intro z_1515 f_1516 H locs ls hi0_n_1517 hi1_n_1517 hm; exact absurd hm (Nat.not_lt_zero _)
    | succ n_1517 ih_n_1517 =>
      intro z_1515 f_1516 H locs ls hi0_n_1517 hi1_n_1517 hm_n_1517 hP hD hS hl
      refine lv_iload hx hb dX7_copy_3 (lv_at hl 0 rfl) ?_
      refine lv_iload hx hb dX7_copy_5 (lv_at hl 5 rfl) ?_
      refine lv_icmp_ge (tgt := 28) hx hb dX7_copy_7 (by decide) (fun c_1518 => ?_) (fun c_1518 => ?_)
      · skip
        have gc_1518 := ti_le c_1518 rfl rfl
        exact wq_v hx hb hr 0 trivial (fun t ht hW => ⟨f_1516, (by rw [show p2.toNatClampNeg = z_1515.toNatClampNeg from by have q1 := ti_cl (x := z_1515) rfl (by omega); have q2 := ti_cl (x := p2) rfl (by omega); omega]; assumption), Bw.to hP hD hK ht hW⟩) hS dX7_copy_28 hlocks
      · skip
        have gc_1518 := ti_nle c_1518 rfl rfl
        refine lv_aload_n hx hb dX7_copy_10 rfl (lv_at hl 3 rfl) ?_
        refine lv_iload_n hx hb dX7_copy_11 rfl (lv_at hl 4 rfl) ?_
        refine lv_iload hx hb dX7_copy_12 (lv_at hl 0 rfl) ?_
        refine lv_iadd hx hb dX7_copy_14 ?_
        refine lv_topi (fun x_1519 ex_1519 => ?_)
        have vx_1519 : x_1519.toInt = p1.toInt + z_1515.toInt := ti_add ex_1519 rfl rfl (om_0d98f29e hc0.2.1 hi0_n_1517.1) (om_7545b6f2 hc2 hi0_n_1517.2)
        refine lv_aload_n hx hb dX7_copy_15 rfl (lv_at hl 1 rfl) ?_
        refine lv_iload_n hx hb dX7_copy_16 rfl (lv_at hl 2 rfl) ?_
        refine lv_iload hx hb dX7_copy_17 (lv_at hl 0 rfl) ?_
        refine lv_iadd hx hb dX7_copy_19 ?_
        refine lv_topi (fun x_1520 ex_1520 => ?_)
        have vx_1520 : x_1520.toInt = p0.toInt + z_1515.toInt := ti_add ex_1520 rfl rfl (om_0d98f29e hc0.1 hi0_n_1517.1) (om_2dfe3766 hc1 hi0_n_1517.2)
        refine va_iald hx hb hK hP 0 0 rfl rfl (ti_in vx_1520 (om_da9595ee hc0.1 hi0_n_1517.1) (om_6005669c hc1 gc_1518)) dX7_copy_20 ?_
        refine lv_topi (fun x_1521 ex_1521 => ?_)
        have kx_1521 : (fF x_1520.toNatClampNeg).toInt = x_1521.toInt := by rw [ex_1521]
        have cx_1521 : (fF (p0.toNatClampNeg + z_1515.toNatClampNeg)).toInt = x_1521.toInt := by rw [show p0.toNatClampNeg + z_1515.toNatClampNeg = x_1520.toNatClampNeg from (om_08ccee3a (ti_cl (x := p0) rfl hc0.1) (ti_cl (x := z_1515) rfl hi0_n_1517.1) (ti_cl (x := x_1520) vx_1520 (om_da9595ee hc0.1 hi0_n_1517.1)))]; exact kx_1521
        refine va_iast hx hb hK hP hD hS 1 1 rfl rfl (ti_in vx_1519 (om_da9595ee hc0.2.1 hi0_n_1517.1) (om_01420f9f hc2 gc_1518)) dX7_copy_21 (fun H locs hP hD hS => ?_)
        obtain ⟨f_1522, ef_1522⟩ : ∃ g : Nat → Int32, g = upd f_1516 x_1519.toNatClampNeg x_1521 := ⟨_, rfl⟩
        rw [← ef_1522] at hP hD
        obtain ⟨hP, hD⟩ := wl2 (ws' := [(arI rF kF 8 fF), (arI rT kT 287 f_1522)]) hP hD rfl
        obtain ⟨x_1523, ex_1523⟩ : ∃ z : Int32, z = z_1515 + Int32.ofInt 1 := ⟨_, rfl⟩
        have vx_1523 : x_1523.toInt = z_1515.toInt + 1 := ti_add (y := 1) ex_1523 rfl kc_1 (om_4e4fce7e hi0_n_1517.1) (om_da77bcef hc0.1 hc1 hi0_n_1517.2)
        refine lv_iinc (v := x_1523) (lv' := [(5, .int x_1523), (0, .ref rF), (1, .int p0), (2, .ref rT), (3, .int p1), (4, .int p2)]) hx hb dX7_copy_22 hl (k := 0) rfl ex_1523.symm (by decide) rfl (fun ls hl => ?_)
        refine lv_goto (tgt := 3) hx hb dX7_copy_25 (by decide) ?_
        exact ih_n_1517 x_1523 f_1522 _ _ _  ⟨(om_83b90de5 hi0_n_1517.1 vx_1523), (om_afcf07ef gc_1518 vx_1523)⟩ (copy_step hi1_n_1517 ef_1522 (by have q1 := ti_cl (x := x_1519) vx_1519 (om_da9595ee hc0.2.1 hi0_n_1517.1); have q2 := ti_cl (x := p1) rfl hc0.2.1; have q3 := ti_cl (x := z_1515) rfl hi0_n_1517.1; omega) (by have q := cx_1521; omega) (by have q1 := ti_cl (x := x_1523) vx_1523 (om_9548a8fd hi0_n_1517.1); have q3 := ti_cl (x := z_1515) rfl hi0_n_1517.1; omega)) (ms_lt hm_n_1517 (om_dd4ae0bc vx_1523) (om_d5382009 gc_1518)) hP hD hS (lv_sub hl [0, 1, 2, 3, 4, 5] rfl)
  exact key_n_1517 (((p2.toInt - (0 : Int32).toInt).toNat) + 1) 0 fT _ _ _  ⟨(om_b1de7dbe kc_0), (om_2dfe280d hc0.2.2 kc_0)⟩ (by first | assumption | omega | decide | exact copy_zero) (Nat.lt_add_one _) hP hD hS hl
set_option maxHeartbeats 4000000 in
set_option maxRecDepth 100000 in
theorem tX7_copy_287_287 (l : Launch) (dC : Nat → ClassId) (dI : Nat → Nat → Nat) (sz : Nat) (rF : Nat) (fF : Nat → Int32) (kF : ClassId) (rT : Nat) (fT : Nat → Int32) (kT : ClassId) (p0 : Int32) (p1 : Int32) (p2 : Int32)  (hc0 : 0 ≤ p0.toInt ∧ 0 ≤ p1.toInt ∧ 0 ≤ p2.toInt) (hc1 : p0.toInt + p2.toInt ≤ 287) (hc2 : p1.toInt + p2.toInt ≤ 287) : Met l yX7_copy (Cond.code yX7_copy cX7_copy 6 none :: wG) ({ frames := 0, cells := 0, slots := 0, locals := 0 }) (va_Pc [.ref rF, .int p0, .ref rT, .int p1, .int p2] (Pw dC dI sz [(arI rF kF 287 fF), (arI rT kT 287 fT)] [(kF, .int), (kT, .int)])) (va_Qv (fun (_ : Nat) => True) (fun (_ : Nat) (t : State) => ∃ (nfT : Nat → Int32), (CopyOk fF fT p0.toNatClampNeg p1.toNatClampNeg p2.toNatClampNeg nfT) ∧ Bw dC dI (va_A [(arI rF kF 287 fF), (arI rT kT 287 fT)] sz) [(arI rF kF 287 fF), (arI rT kT 287 nfT)] [(kF, .int), (kT, .int)] t) (va_A [(arI rF kF 287 fF), (arI rT kT 287 fT)] sz)) 0 0 (va_A [(arI rF kF 287 fF), (arI rT kT 287 fT)] sz) := by
  refine Met.ofW (cc := cX7_copy) (maxL := 6) (ret := none) pnX7 rfl ?_
  intro p e s m args below meth c s₁ B hml hv
  obtain ⟨rfl, hsz, hP, hK, hD0, hE⟩ := hv
  have hx := B.exec
  have hb := B.bytes
  have hr := B.returns
  have hts : ∀ w ∈ wG, w.before ([.ref rF, .int p0, .ref rT, .int p1, .int p2] : List Value).toArray s = true := fun w h => atoms_spec (ws := Cond.code yX7_copy cX7_copy 6 none :: wG) B.pre w (List.mem_cons_of_mem _ h)
  have hown : s.vm.findClass RX7 = some m.cls := own_of B.named rfl
  have hlocks := B.notSynchronized
  subst hsz
  have hD := hD0.self (sz := s.heap.size)
  generalize hAe : va_A [(arI rF kF 287 fF), (arI rT kT 287 fT)] s.heap.size = A at hD hE ⊢
  have hA : ∀ q : Nat, s.heap.size ≤ q → A q := fun q h => by rw [← hAe]; exact Or.inr h
  have hS : va_S A s.heap s.heap [] := va_S.rf
  have hl := lv_entry ([.ref rF, .int p0, .ref rT, .int p1, .int p2]) (n := 6) (Nat.le_of_ble_eq_true rfl)
  rw [lg_entry_eq]
  generalize (lg_sl ([.ref rF, .int p0, .ref rT, .int p1, .int p2]) ++ List.replicate (6 - (lg_sl ([.ref rF, .int p0, .ref rT, .int p1, .int p2])).length) Slot.unset).toArray = ls at hl ⊢
  have hl : lv_has ls 6 [(0, .ref rF), (1, .int p0), (2, .ref rT), (3, .int p1), (4, .int p2)] := hl
  refine lv_iconst (v := 0) hx hb dX7_copy_0 (by decide) ?_
  refine lv_istore (lv' := [(5, .int 0), (0, .ref rF), (1, .int p0), (2, .ref rT), (3, .int p1), (4, .int p2)]) hx hb dX7_copy_1 hl (by decide) rfl (fun ls hl => ?_)
  have hl := lv_sub hl (l' := [(5, .int 0), (0, .ref rF), (1, .int p0), (2, .ref rT), (3, .int p1), (4, .int p2)]) [0, 1, 2, 3, 4, 5] rfl
  have key_n_1535 : ∀ (n_1535 : Nat) (z_1533 : Int32) (f_1534 : Nat → Int32) (H : Heap) (locs : List Loc) (ls : Array Slot), (0 ≤ z_1533.toInt ∧ z_1533.toInt ≤ p2.toInt) → (CopyOk fF fT p0.toNatClampNeg p1.toNatClampNeg z_1533.toNatClampNeg f_1534) → (p2.toInt - z_1533.toInt).toNat < n_1535 → va_P (dC, dI) vwCl [(arI rF kF 287 fF), (arI rT kT 287 f_1534)] H → va_D A [(arI rF kF 287 fF), (arI rT kT 287 f_1534)] → va_S A s.heap H locs → lv_has ls 6 [(5, .int z_1533), (0, .ref rF), (1, .int p0), (2, .ref rT), (3, .int p1), (4, .int p2)] → W p l e (headSpec (Cond.code yX7_copy cX7_copy 6 none :: wG) ({ frames := 0, cells := 0, slots := 0, locals := 0 })).room s m ([.ref rF, .int p0, .ref rT, .int p1, .int p2] : List Value).toArray below meth c H locs 0 0 (MQ below (va_Qv (fun (_ : Nat) => True) (fun (_ : Nat) (t : State) => ∃ (nfT : Nat → Int32), (CopyOk fF fT p0.toNatClampNeg p1.toNatClampNeg p2.toNatClampNeg nfT) ∧ Bw dC dI A [(arI rF kF 287 fF), (arI rT kT 287 nfT)] [(kF, .int), (kT, .int)] t) A) ([.ref rF, .int p0, .ref rT, .int p1, .int p2] : List Value).toArray s 0 0 A) (F0 m 3 ls []) := by
    intro n_1535
    induction n_1535 with
    | zero => intro z_1533 f_1534 H locs ls hi0_n_1535 hi1_n_1535 hm; exact absurd hm (Nat.not_lt_zero _)
    | succ n_1535 ih_n_1535 =>
      intro z_1533 f_1534 H locs ls hi0_n_1535 hi1_n_1535 hm_n_1535 hP hD hS hl
      refine lv_iload hx hb dX7_copy_3 (lv_at hl 0 rfl) ?_
      refine lv_iload hx hb dX7_copy_5 (lv_at hl 5 rfl) ?_
      refine lv_icmp_ge (tgt := 28) hx hb dX7_copy_7 (by decide) (fun c_1536 => ?_) (fun c_1536 => ?_)
      · skip
        have gc_1536 := ti_le c_1536 rfl rfl
        exact wq_v hx hb hr 0 trivial (fun t ht hW => ⟨f_1534, (by rw [show p2.toNatClampNeg = z_1533.toNatClampNeg from by have q1 := ti_cl (x := z_1533) rfl (by omega); have q2 := ti_cl (x := p2) rfl (by omega); omega]; assumption), Bw.to hP hD hK ht hW⟩) hS dX7_copy_28 hlocks
      · skip
        have gc_1536 := ti_nle c_1536 rfl rfl
        refine lv_aload_n hx hb dX7_copy_10 rfl (lv_at hl 3 rfl) ?_
        refine lv_iload_n hx hb dX7_copy_11 rfl (lv_at hl 4 rfl) ?_
        refine lv_iload hx hb dX7_copy_12 (lv_at hl 0 rfl) ?_
        refine lv_iadd hx hb dX7_copy_14 ?_
        refine lv_topi (fun x_1537 ex_1537 => ?_)
        have vx_1537 : x_1537.toInt = p1.toInt + z_1533.toInt := ti_add ex_1537 rfl rfl (om_0d98f29e hc0.2.1 hi0_n_1535.1) (om_7545b6f2 hc2 hi0_n_1535.2)
        refine lv_aload_n hx hb dX7_copy_15 rfl (lv_at hl 1 rfl) ?_
        refine lv_iload_n hx hb dX7_copy_16 rfl (lv_at hl 2 rfl) ?_
        refine lv_iload hx hb dX7_copy_17 (lv_at hl 0 rfl) ?_
        refine lv_iadd hx hb dX7_copy_19 ?_
        refine lv_topi (fun x_1538 ex_1538 => ?_)
        have vx_1538 : x_1538.toInt = p0.toInt + z_1533.toInt := ti_add ex_1538 rfl rfl (om_0d98f29e hc0.1 hi0_n_1535.1) (om_7545b6f2 hc1 hi0_n_1535.2)
        refine va_iald hx hb hK hP 0 0 rfl rfl (ti_in vx_1538 (om_da9595ee hc0.1 hi0_n_1535.1) (om_01420f9f hc1 gc_1536)) dX7_copy_20 ?_
        refine lv_topi (fun x_1539 ex_1539 => ?_)
        have kx_1539 : (fF x_1538.toNatClampNeg).toInt = x_1539.toInt := by rw [ex_1539]
        have cx_1539 : (fF (p0.toNatClampNeg + z_1533.toNatClampNeg)).toInt = x_1539.toInt := by rw [show p0.toNatClampNeg + z_1533.toNatClampNeg = x_1538.toNatClampNeg from (om_08ccee3a (ti_cl (x := p0) rfl hc0.1) (ti_cl (x := z_1533) rfl hi0_n_1535.1) (ti_cl (x := x_1538) vx_1538 (om_da9595ee hc0.1 hi0_n_1535.1)))]; exact kx_1539
        refine va_iast hx hb hK hP hD hS 1 1 rfl rfl (ti_in vx_1537 (om_da9595ee hc0.2.1 hi0_n_1535.1) (om_01420f9f hc2 gc_1536)) dX7_copy_21 (fun H locs hP hD hS => ?_)
        obtain ⟨f_1540, ef_1540⟩ : ∃ g : Nat → Int32, g = upd f_1534 x_1537.toNatClampNeg x_1539 := ⟨_, rfl⟩
        rw [← ef_1540] at hP hD
        obtain ⟨hP, hD⟩ := wl2 (ws' := [(arI rF kF 287 fF), (arI rT kT 287 f_1540)]) hP hD rfl
        obtain ⟨x_1541, ex_1541⟩ : ∃ z : Int32, z = z_1533 + Int32.ofInt 1 := ⟨_, rfl⟩
        have vx_1541 : x_1541.toInt = z_1533.toInt + 1 := ti_add (y := 1) ex_1541 rfl kc_1 (om_4e4fce7e hi0_n_1535.1) (om_04ff637e hc0.1 hc1 hi0_n_1535.2)
        refine lv_iinc (v := x_1541) (lv' := [(5, .int x_1541), (0, .ref rF), (1, .int p0), (2, .ref rT), (3, .int p1), (4, .int p2)]) hx hb dX7_copy_22 hl (k := 0) rfl ex_1541.symm (by decide) rfl (fun ls hl => ?_)
        refine lv_goto (tgt := 3) hx hb dX7_copy_25 (by decide) ?_
        exact ih_n_1535 x_1541 f_1540 _ _ _  ⟨(om_83b90de5 hi0_n_1535.1 vx_1541), (om_afcf07ef gc_1536 vx_1541)⟩ (copy_step hi1_n_1535 ef_1540 (by have q1 := ti_cl (x := x_1537) vx_1537 (om_da9595ee hc0.2.1 hi0_n_1535.1); have q2 := ti_cl (x := p1) rfl hc0.2.1; have q3 := ti_cl (x := z_1533) rfl hi0_n_1535.1; omega) (by have q := cx_1539; omega) (by have q1 := ti_cl (x := x_1541) vx_1541 (om_9548a8fd hi0_n_1535.1); have q3 := ti_cl (x := z_1533) rfl hi0_n_1535.1; omega)) (ms_lt hm_n_1535 (om_dd4ae0bc vx_1541) (om_d5382009 gc_1536)) hP hD hS (lv_sub hl [0, 1, 2, 3, 4, 5] rfl)
  exact key_n_1535 (((p2.toInt - (0 : Int32).toInt).toNat) + 1) 0 fT _ _ _  ⟨(om_b1de7dbe kc_0), (om_2dfe280d hc0.2.2 kc_0)⟩ (by first | assumption | omega | decide | exact copy_zero) (Nat.lt_add_one _) hP hD hS hl
set_option maxHeartbeats 4000000 in
set_option maxRecDepth 100000 in
theorem tX7_copy_90_1440 (l : Launch) (dC : Nat → ClassId) (dI : Nat → Nat → Nat) (sz : Nat) (rF : Nat) (fF : Nat → Int32) (kF : ClassId) (rT : Nat) (fT : Nat → Int32) (kT : ClassId) (p0 : Int32) (p1 : Int32) (p2 : Int32)  (hc0 : 0 ≤ p0.toInt ∧ 0 ≤ p1.toInt ∧ 0 ≤ p2.toInt) (hc1 : p0.toInt + p2.toInt ≤ 90) (hc2 : p1.toInt + p2.toInt ≤ 1440) : Met l yX7_copy (Cond.code yX7_copy cX7_copy 6 none :: wG) ({ frames := 0, cells := 0, slots := 0, locals := 0 }) (va_Pc [.ref rF, .int p0, .ref rT, .int p1, .int p2] (Pw dC dI sz [(arI rF kF 90 fF), (arI rT kT 1440 fT)] [(kF, .int), (kT, .int)])) (va_Qv (fun (_ : Nat) => True) (fun (_ : Nat) (t : State) => ∃ (nfT : Nat → Int32), (CopyOk fF fT p0.toNatClampNeg p1.toNatClampNeg p2.toNatClampNeg nfT) ∧ Bw dC dI (va_A [(arI rF kF 90 fF), (arI rT kT 1440 fT)] sz) [(arI rF kF 90 fF), (arI rT kT 1440 nfT)] [(kF, .int), (kT, .int)] t) (va_A [(arI rF kF 90 fF), (arI rT kT 1440 fT)] sz)) 0 0 (va_A [(arI rF kF 90 fF), (arI rT kT 1440 fT)] sz) := by
  refine Met.ofW (cc := cX7_copy) (maxL := 6) (ret := none) pnX7 rfl ?_
  intro p e s m args below meth c s₁ B hml hv
  obtain ⟨rfl, hsz, hP, hK, hD0, hE⟩ := hv
  have hx := B.exec
  have hb := B.bytes
  have hr := B.returns
  have hts : ∀ w ∈ wG, w.before ([.ref rF, .int p0, .ref rT, .int p1, .int p2] : List Value).toArray s = true := fun w h => atoms_spec (ws := Cond.code yX7_copy cX7_copy 6 none :: wG) B.pre w (List.mem_cons_of_mem _ h)
  have hown : s.vm.findClass RX7 = some m.cls := own_of B.named rfl
  have hlocks := B.notSynchronized
  subst hsz
  have hD := hD0.self (sz := s.heap.size)
  generalize hAe : va_A [(arI rF kF 90 fF), (arI rT kT 1440 fT)] s.heap.size = A at hD hE ⊢
  have hA : ∀ q : Nat, s.heap.size ≤ q → A q := fun q h => by rw [← hAe]; exact Or.inr h
  have hS : va_S A s.heap s.heap [] := va_S.rf
  have hl := lv_entry ([.ref rF, .int p0, .ref rT, .int p1, .int p2]) (n := 6) (Nat.le_of_ble_eq_true rfl)
  rw [lg_entry_eq]
  generalize (lg_sl ([.ref rF, .int p0, .ref rT, .int p1, .int p2]) ++ List.replicate (6 - (lg_sl ([.ref rF, .int p0, .ref rT, .int p1, .int p2])).length) Slot.unset).toArray = ls at hl ⊢
  have hl : lv_has ls 6 [(0, .ref rF), (1, .int p0), (2, .ref rT), (3, .int p1), (4, .int p2)] := hl
  refine lv_iconst (v := 0) hx hb dX7_copy_0 (by decide) ?_
  refine lv_istore (lv' := [(5, .int 0), (0, .ref rF), (1, .int p0), (2, .ref rT), (3, .int p1), (4, .int p2)]) hx hb dX7_copy_1 hl (by decide) rfl (fun ls hl => ?_)
  have hl := lv_sub hl (l' := [(5, .int 0), (0, .ref rF), (1, .int p0), (2, .ref rT), (3, .int p1), (4, .int p2)]) [0, 1, 2, 3, 4, 5] rfl
  have key_n_1553 : ∀ (n_1553 : Nat) (z_1551 : Int32) (f_1552 : Nat → Int32) (H : Heap) (locs : List Loc) (ls : Array Slot), (0 ≤ z_1551.toInt ∧ z_1551.toInt ≤ p2.toInt) → (CopyOk fF fT p0.toNatClampNeg p1.toNatClampNeg z_1551.toNatClampNeg f_1552) → (p2.toInt - z_1551.toInt).toNat < n_1553 → va_P (dC, dI) vwCl [(arI rF kF 90 fF), (arI rT kT 1440 f_1552)] H → va_D A [(arI rF kF 90 fF), (arI rT kT 1440 f_1552)] → va_S A s.heap H locs → lv_has ls 6 [(5, .int z_1551), (0, .ref rF), (1, .int p0), (2, .ref rT), (3, .int p1), (4, .int p2)] → W p l e (headSpec (Cond.code yX7_copy cX7_copy 6 none :: wG) ({ frames := 0, cells := 0, slots := 0, locals := 0 })).room s m ([.ref rF, .int p0, .ref rT, .int p1, .int p2] : List Value).toArray below meth c H locs 0 0 (MQ below (va_Qv (fun (_ : Nat) => True) (fun (_ : Nat) (t : State) => ∃ (nfT : Nat → Int32), (CopyOk fF fT p0.toNatClampNeg p1.toNatClampNeg p2.toNatClampNeg nfT) ∧ Bw dC dI A [(arI rF kF 90 fF), (arI rT kT 1440 nfT)] [(kF, .int), (kT, .int)] t) A) ([.ref rF, .int p0, .ref rT, .int p1, .int p2] : List Value).toArray s 0 0 A) (F0 m 3 ls []) := by
    intro n_1553
    induction n_1553 with
    | zero => intro z_1551 f_1552 H locs ls hi0_n_1553 hi1_n_1553 hm; exact absurd hm (Nat.not_lt_zero _)
    | succ n_1553 ih_n_1553 =>
      intro z_1551 f_1552 H locs ls hi0_n_1553 hi1_n_1553 hm_n_1553 hP hD hS hl
      refine lv_iload hx hb dX7_copy_3 (lv_at hl 0 rfl) ?_
      refine lv_iload hx hb dX7_copy_5 (lv_at hl 5 rfl) ?_
      refine lv_icmp_ge (tgt := 28) hx hb dX7_copy_7 (by decide) (fun c_1554 => ?_) (fun c_1554 => ?_)
      · skip
        have gc_1554 := ti_le c_1554 rfl rfl
        exact wq_v hx hb hr 0 trivial (fun t ht hW => ⟨f_1552, (by rw [show p2.toNatClampNeg = z_1551.toNatClampNeg from by have q1 := ti_cl (x := z_1551) rfl (by omega); have q2 := ti_cl (x := p2) rfl (by omega); omega]; assumption), Bw.to hP hD hK ht hW⟩) hS dX7_copy_28 hlocks
      · skip
        have gc_1554 := ti_nle c_1554 rfl rfl
        refine lv_aload_n hx hb dX7_copy_10 rfl (lv_at hl 3 rfl) ?_
        refine lv_iload_n hx hb dX7_copy_11 rfl (lv_at hl 4 rfl) ?_
        refine lv_iload hx hb dX7_copy_12 (lv_at hl 0 rfl) ?_
        refine lv_iadd hx hb dX7_copy_14 ?_
        refine lv_topi (fun x_1555 ex_1555 => ?_)
        have vx_1555 : x_1555.toInt = p1.toInt + z_1551.toInt := ti_add ex_1555 rfl rfl (om_0d98f29e hc0.2.1 hi0_n_1553.1) (om_b649409c hc2 hi0_n_1553.2)
        refine lv_aload_n hx hb dX7_copy_15 rfl (lv_at hl 1 rfl) ?_
        refine lv_iload_n hx hb dX7_copy_16 rfl (lv_at hl 2 rfl) ?_
        refine lv_iload hx hb dX7_copy_17 (lv_at hl 0 rfl) ?_
        refine lv_iadd hx hb dX7_copy_19 ?_
        refine lv_topi (fun x_1556 ex_1556 => ?_)
        have vx_1556 : x_1556.toInt = p0.toInt + z_1551.toInt := ti_add ex_1556 rfl rfl (om_0d98f29e hc0.1 hi0_n_1553.1) (om_8bd45658 hc1 hi0_n_1553.2)
        refine va_iald hx hb hK hP 0 0 rfl rfl (ti_in vx_1556 (om_da9595ee hc0.1 hi0_n_1553.1) (om_ad124daf hc1 gc_1554)) dX7_copy_20 ?_
        refine lv_topi (fun x_1557 ex_1557 => ?_)
        have kx_1557 : (fF x_1556.toNatClampNeg).toInt = x_1557.toInt := by rw [ex_1557]
        have cx_1557 : (fF (p0.toNatClampNeg + z_1551.toNatClampNeg)).toInt = x_1557.toInt := by rw [show p0.toNatClampNeg + z_1551.toNatClampNeg = x_1556.toNatClampNeg from (om_08ccee3a (ti_cl (x := p0) rfl hc0.1) (ti_cl (x := z_1551) rfl hi0_n_1553.1) (ti_cl (x := x_1556) vx_1556 (om_da9595ee hc0.1 hi0_n_1553.1)))]; exact kx_1557
        refine va_iast hx hb hK hP hD hS 1 1 rfl rfl (ti_in vx_1555 (om_da9595ee hc0.2.1 hi0_n_1553.1) (om_e1605147 hc2 gc_1554)) dX7_copy_21 (fun H locs hP hD hS => ?_)
        obtain ⟨f_1558, ef_1558⟩ : ∃ g : Nat → Int32, g = upd f_1552 x_1555.toNatClampNeg x_1557 := ⟨_, rfl⟩
        rw [← ef_1558] at hP hD
        obtain ⟨hP, hD⟩ := wl2 (ws' := [(arI rF kF 90 fF), (arI rT kT 1440 f_1558)]) hP hD rfl
        obtain ⟨x_1559, ex_1559⟩ : ∃ z : Int32, z = z_1551 + Int32.ofInt 1 := ⟨_, rfl⟩
        have vx_1559 : x_1559.toInt = z_1551.toInt + 1 := ti_add (y := 1) ex_1559 rfl kc_1 (om_4e4fce7e hi0_n_1553.1) (om_e7f5d8f5 hc0.1 hc1 hi0_n_1553.2)
        refine lv_iinc (v := x_1559) (lv' := [(5, .int x_1559), (0, .ref rF), (1, .int p0), (2, .ref rT), (3, .int p1), (4, .int p2)]) hx hb dX7_copy_22 hl (k := 0) rfl ex_1559.symm (by decide) rfl (fun ls hl => ?_)
        refine lv_goto (tgt := 3) hx hb dX7_copy_25 (by decide) ?_
        exact ih_n_1553 x_1559 f_1558 _ _ _  ⟨(om_83b90de5 hi0_n_1553.1 vx_1559), (om_afcf07ef gc_1554 vx_1559)⟩ (copy_step hi1_n_1553 ef_1558 (by have q1 := ti_cl (x := x_1555) vx_1555 (om_da9595ee hc0.2.1 hi0_n_1553.1); have q2 := ti_cl (x := p1) rfl hc0.2.1; have q3 := ti_cl (x := z_1551) rfl hi0_n_1553.1; omega) (by have q := cx_1557; omega) (by have q1 := ti_cl (x := x_1559) vx_1559 (om_9548a8fd hi0_n_1553.1); have q3 := ti_cl (x := z_1551) rfl hi0_n_1553.1; omega)) (ms_lt hm_n_1553 (om_dd4ae0bc vx_1559) (om_d5382009 gc_1554)) hP hD hS (lv_sub hl [0, 1, 2, 3, 4, 5] rfl)
  exact key_n_1553 (((p2.toInt - (0 : Int32).toInt).toNat) + 1) 0 fT _ _ _  ⟨(om_b1de7dbe kc_0), (om_2dfe280d hc0.2.2 kc_0)⟩ (by first | assumption | omega | decide | exact copy_zero) (Nat.lt_add_one _) hP hD hS hl
set_option maxHeartbeats 4000000 in
set_option maxRecDepth 100000 in
theorem tX7_copy_1440_90 (l : Launch) (dC : Nat → ClassId) (dI : Nat → Nat → Nat) (sz : Nat) (rF : Nat) (fF : Nat → Int32) (kF : ClassId) (rT : Nat) (fT : Nat → Int32) (kT : ClassId) (p0 : Int32) (p1 : Int32) (p2 : Int32)  (hc0 : 0 ≤ p0.toInt ∧ 0 ≤ p1.toInt ∧ 0 ≤ p2.toInt) (hc1 : p0.toInt + p2.toInt ≤ 1440) (hc2 : p1.toInt + p2.toInt ≤ 90) : Met l yX7_copy (Cond.code yX7_copy cX7_copy 6 none :: wG) ({ frames := 0, cells := 0, slots := 0, locals := 0 }) (va_Pc [.ref rF, .int p0, .ref rT, .int p1, .int p2] (Pw dC dI sz [(arI rF kF 1440 fF), (arI rT kT 90 fT)] [(kF, .int), (kT, .int)])) (va_Qv (fun (_ : Nat) => True) (fun (_ : Nat) (t : State) => ∃ (nfT : Nat → Int32), (CopyOk fF fT p0.toNatClampNeg p1.toNatClampNeg p2.toNatClampNeg nfT) ∧ Bw dC dI (va_A [(arI rF kF 1440 fF), (arI rT kT 90 fT)] sz) [(arI rF kF 1440 fF), (arI rT kT 90 nfT)] [(kF, .int), (kT, .int)] t) (va_A [(arI rF kF 1440 fF), (arI rT kT 90 fT)] sz)) 0 0 (va_A [(arI rF kF 1440 fF), (arI rT kT 90 fT)] sz) := by
  refine Met.ofW (cc := cX7_copy) (maxL := 6) (ret := none) pnX7 rfl ?_
  intro p e s m args below meth c s₁ B hml hv
  obtain ⟨rfl, hsz, hP, hK, hD0, hE⟩ := hv
  have hx := B.exec
  have hb := B.bytes
  have hr := B.returns
  have hts : ∀ w ∈ wG, w.before ([.ref rF, .int p0, .ref rT, .int p1, .int p2] : List Value).toArray s = true := fun w h => atoms_spec (ws := Cond.code yX7_copy cX7_copy 6 none :: wG) B.pre w (List.mem_cons_of_mem _ h)
  have hown : s.vm.findClass RX7 = some m.cls := own_of B.named rfl
  have hlocks := B.notSynchronized
  subst hsz
  have hD := hD0.self (sz := s.heap.size)
  generalize hAe : va_A [(arI rF kF 1440 fF), (arI rT kT 90 fT)] s.heap.size = A at hD hE ⊢
  have hA : ∀ q : Nat, s.heap.size ≤ q → A q := fun q h => by rw [← hAe]; exact Or.inr h
  have hS : va_S A s.heap s.heap [] := va_S.rf
  have hl := lv_entry ([.ref rF, .int p0, .ref rT, .int p1, .int p2]) (n := 6) (Nat.le_of_ble_eq_true rfl)
  rw [lg_entry_eq]
  generalize (lg_sl ([.ref rF, .int p0, .ref rT, .int p1, .int p2]) ++ List.replicate (6 - (lg_sl ([.ref rF, .int p0, .ref rT, .int p1, .int p2])).length) Slot.unset).toArray = ls at hl ⊢
  have hl : lv_has ls 6 [(0, .ref rF), (1, .int p0), (2, .ref rT), (3, .int p1), (4, .int p2)] := hl
  refine lv_iconst (v := 0) hx hb dX7_copy_0 (by decide) ?_
  refine lv_istore (lv' := [(5, .int 0), (0, .ref rF), (1, .int p0), (2, .ref rT), (3, .int p1), (4, .int p2)]) hx hb dX7_copy_1 hl (by decide) rfl (fun ls hl => ?_)
  have hl := lv_sub hl (l' := [(5, .int 0), (0, .ref rF), (1, .int p0), (2, .ref rT), (3, .int p1), (4, .int p2)]) [0, 1, 2, 3, 4, 5] rfl
  have key_n_1571 : ∀ (n_1571 : Nat) (z_1569 : Int32) (f_1570 : Nat → Int32) (H : Heap) (locs : List Loc) (ls : Array Slot), (0 ≤ z_1569.toInt ∧ z_1569.toInt ≤ p2.toInt) → (CopyOk fF fT p0.toNatClampNeg p1.toNatClampNeg z_1569.toNatClampNeg f_1570) → (p2.toInt - z_1569.toInt).toNat < n_1571 → va_P (dC, dI) vwCl [(arI rF kF 1440 fF), (arI rT kT 90 f_1570)] H → va_D A [(arI rF kF 1440 fF), (arI rT kT 90 f_1570)] → va_S A s.heap H locs → lv_has ls 6 [(5, .int z_1569), (0, .ref rF), (1, .int p0), (2, .ref rT), (3, .int p1), (4, .int p2)] → W p l e (headSpec (Cond.code yX7_copy cX7_copy 6 none :: wG) ({ frames := 0, cells := 0, slots := 0, locals := 0 })).room s m ([.ref rF, .int p0, .ref rT, .int p1, .int p2] : List Value).toArray below meth c H locs 0 0 (MQ below (va_Qv (fun (_ : Nat) => True) (fun (_ : Nat) (t : State) => ∃ (nfT : Nat → Int32), (CopyOk fF fT p0.toNatClampNeg p1.toNatClampNeg p2.toNatClampNeg nfT) ∧ Bw dC dI A [(arI rF kF 1440 fF), (arI rT kT 90 nfT)] [(kF, .int), (kT, .int)] t) A) ([.ref rF, .int p0, .ref rT, .int p1, .int p2] : List Value).toArray s 0 0 A) (F0 m 3 ls []) := by
    intro n_1571
    induction n_1571 with
    | zero => intro z_1569 f_1570 H locs ls hi0_n_1571 hi1_n_1571 hm; exact absurd hm (Nat.not_lt_zero _)
    | succ n_1571 ih_n_1571 =>
      intro z_1569 f_1570 H locs ls hi0_n_1571 hi1_n_1571 hm_n_1571 hP hD hS hl
      refine lv_iload hx hb dX7_copy_3 (lv_at hl 0 rfl) ?_
      refine lv_iload hx hb dX7_copy_5 (lv_at hl 5 rfl) ?_
      refine lv_icmp_ge (tgt := 28) hx hb dX7_copy_7 (by decide) (fun c_1572 => ?_) (fun c_1572 => ?_)
      · skip
        have gc_1572 := ti_le c_1572 rfl rfl
        exact wq_v hx hb hr 0 trivial (fun t ht hW => ⟨f_1570, (by rw [show p2.toNatClampNeg = z_1569.toNatClampNeg from by have q1 := ti_cl (x := z_1569) rfl (by omega); have q2 := ti_cl (x := p2) rfl (by omega); omega]; assumption), Bw.to hP hD hK ht hW⟩) hS dX7_copy_28 hlocks
      · skip
        have gc_1572 := ti_nle c_1572 rfl rfl
        refine lv_aload_n hx hb dX7_copy_10 rfl (lv_at hl 3 rfl) ?_
        refine lv_iload_n hx hb dX7_copy_11 rfl (lv_at hl 4 rfl) ?_
        refine lv_iload hx hb dX7_copy_12 (lv_at hl 0 rfl) ?_
        refine lv_iadd hx hb dX7_copy_14 ?_
        refine lv_topi (fun x_1573 ex_1573 => ?_)
        have vx_1573 : x_1573.toInt = p1.toInt + z_1569.toInt := ti_add ex_1573 rfl rfl (om_0d98f29e hc0.2.1 hi0_n_1571.1) (om_8bd45658 hc2 hi0_n_1571.2)
        refine lv_aload_n hx hb dX7_copy_15 rfl (lv_at hl 1 rfl) ?_
        refine lv_iload_n hx hb dX7_copy_16 rfl (lv_at hl 2 rfl) ?_
        refine lv_iload hx hb dX7_copy_17 (lv_at hl 0 rfl) ?_
        refine lv_iadd hx hb dX7_copy_19 ?_
        refine lv_topi (fun x_1574 ex_1574 => ?_)
        have vx_1574 : x_1574.toInt = p0.toInt + z_1569.toInt := ti_add ex_1574 rfl rfl (om_0d98f29e hc0.1 hi0_n_1571.1) (om_b649409c hc1 hi0_n_1571.2)
        refine va_iald hx hb hK hP 0 0 rfl rfl (ti_in vx_1574 (om_da9595ee hc0.1 hi0_n_1571.1) (om_e1605147 hc1 gc_1572)) dX7_copy_20 ?_
        refine lv_topi (fun x_1575 ex_1575 => ?_)
        have kx_1575 : (fF x_1574.toNatClampNeg).toInt = x_1575.toInt := by rw [ex_1575]
        have cx_1575 : (fF (p0.toNatClampNeg + z_1569.toNatClampNeg)).toInt = x_1575.toInt := by rw [show p0.toNatClampNeg + z_1569.toNatClampNeg = x_1574.toNatClampNeg from (om_08ccee3a (ti_cl (x := p0) rfl hc0.1) (ti_cl (x := z_1569) rfl hi0_n_1571.1) (ti_cl (x := x_1574) vx_1574 (om_da9595ee hc0.1 hi0_n_1571.1)))]; exact kx_1575
        refine va_iast hx hb hK hP hD hS 1 1 rfl rfl (ti_in vx_1573 (om_da9595ee hc0.2.1 hi0_n_1571.1) (om_ad124daf hc2 gc_1572)) dX7_copy_21 (fun H locs hP hD hS => ?_)
        obtain ⟨f_1576, ef_1576⟩ : ∃ g : Nat → Int32, g = upd f_1570 x_1573.toNatClampNeg x_1575 := ⟨_, rfl⟩
        rw [← ef_1576] at hP hD
        obtain ⟨hP, hD⟩ := wl2 (ws' := [(arI rF kF 1440 fF), (arI rT kT 90 f_1576)]) hP hD rfl
        obtain ⟨x_1577, ex_1577⟩ : ∃ z : Int32, z = z_1569 + Int32.ofInt 1 := ⟨_, rfl⟩
        have vx_1577 : x_1577.toInt = z_1569.toInt + 1 := ti_add (y := 1) ex_1577 rfl kc_1 (om_4e4fce7e hi0_n_1571.1) (om_7b558ed0 hc0.1 hc1 hi0_n_1571.2)
        refine lv_iinc (v := x_1577) (lv' := [(5, .int x_1577), (0, .ref rF), (1, .int p0), (2, .ref rT), (3, .int p1), (4, .int p2)]) hx hb dX7_copy_22 hl (k := 0) rfl ex_1577.symm (by decide) rfl (fun ls hl => ?_)
        refine lv_goto (tgt := 3) hx hb dX7_copy_25 (by decide) ?_
        exact ih_n_1571 x_1577 f_1576 _ _ _  ⟨(om_83b90de5 hi0_n_1571.1 vx_1577), (om_afcf07ef gc_1572 vx_1577)⟩ (copy_step hi1_n_1571 ef_1576 (by have q1 := ti_cl (x := x_1573) vx_1573 (om_da9595ee hc0.2.1 hi0_n_1571.1); have q2 := ti_cl (x := p1) rfl hc0.2.1; have q3 := ti_cl (x := z_1569) rfl hi0_n_1571.1; omega) (by have q := cx_1575; omega) (by have q1 := ti_cl (x := x_1577) vx_1577 (om_9548a8fd hi0_n_1571.1); have q3 := ti_cl (x := z_1569) rfl hi0_n_1571.1; omega)) (ms_lt hm_n_1571 (om_dd4ae0bc vx_1577) (om_d5382009 gc_1572)) hP hD hS (lv_sub hl [0, 1, 2, 3, 4, 5] rfl)
  exact key_n_1571 (((p2.toInt - (0 : Int32).toInt).toNat) + 1) 0 fT _ _ _  ⟨(om_b1de7dbe kc_0), (om_2dfe280d hc0.2.2 kc_0)⟩ (by first | assumption | omega | decide | exact copy_zero) (Nat.lt_add_one _) hP hD hS hl
set_option maxHeartbeats 4000000 in
set_option maxRecDepth 100000 in
theorem tX7_copy_90_270 (l : Launch) (dC : Nat → ClassId) (dI : Nat → Nat → Nat) (sz : Nat) (rF : Nat) (fF : Nat → Int32) (kF : ClassId) (rT : Nat) (fT : Nat → Int32) (kT : ClassId) (p0 : Int32) (p1 : Int32) (p2 : Int32)  (hc0 : 0 ≤ p0.toInt ∧ 0 ≤ p1.toInt ∧ 0 ≤ p2.toInt) (hc1 : p0.toInt + p2.toInt ≤ 90) (hc2 : p1.toInt + p2.toInt ≤ 270) : Met l yX7_copy (Cond.code yX7_copy cX7_copy 6 none :: wG) ({ frames := 0, cells := 0, slots := 0, locals := 0 }) (va_Pc [.ref rF, .int p0, .ref rT, .int p1, .int p2] (Pw dC dI sz [(arI rF kF 90 fF), (arI rT kT 270 fT)] [(kF, .int), (kT, .int)])) (va_Qv (fun (_ : Nat) => True) (fun (_ : Nat) (t : State) => ∃ (nfT : Nat → Int32), (CopyOk fF fT p0.toNatClampNeg p1.toNatClampNeg p2.toNatClampNeg nfT) ∧ Bw dC dI (va_A [(arI rF kF 90 fF), (arI rT kT 270 fT)] sz) [(arI rF kF 90 fF), (arI rT kT 270 nfT)] [(kF, .int), (kT, .int)] t) (va_A [(arI rF kF 90 fF), (arI rT kT 270 fT)] sz)) 0 0 (va_A [(arI rF kF 90 fF), (arI rT kT 270 fT)] sz) := by
  refine Met.ofW (cc := cX7_copy) (maxL := 6) (ret := none) pnX7 rfl ?_
  intro p e s m args below meth c s₁ B hml hv
  obtain ⟨rfl, hsz, hP, hK, hD0, hE⟩ := hv
  have hx := B.exec
  have hb := B.bytes
  have hr := B.returns
  have hts : ∀ w ∈ wG, w.before ([.ref rF, .int p0, .ref rT, .int p1, .int p2] : List Value).toArray s = true := fun w h => atoms_spec (ws := Cond.code yX7_copy cX7_copy 6 none :: wG) B.pre w (List.mem_cons_of_mem _ h)
  have hown : s.vm.findClass RX7 = some m.cls := own_of B.named rfl
  have hlocks := B.notSynchronized
  subst hsz
  have hD := hD0.self (sz := s.heap.size)
  generalize hAe : va_A [(arI rF kF 90 fF), (arI rT kT 270 fT)] s.heap.size = A at hD hE ⊢
  have hA : ∀ q : Nat, s.heap.size ≤ q → A q := fun q h => by rw [← hAe]; exact Or.inr h
  have hS : va_S A s.heap s.heap [] := va_S.rf
  have hl := lv_entry ([.ref rF, .int p0, .ref rT, .int p1, .int p2]) (n := 6) (Nat.le_of_ble_eq_true rfl)
  rw [lg_entry_eq]
  generalize (lg_sl ([.ref rF, .int p0, .ref rT, .int p1, .int p2]) ++ List.replicate (6 - (lg_sl ([.ref rF, .int p0, .ref rT, .int p1, .int p2])).length) Slot.unset).toArray = ls at hl ⊢
  have hl : lv_has ls 6 [(0, .ref rF), (1, .int p0), (2, .ref rT), (3, .int p1), (4, .int p2)] := hl
  refine lv_iconst (v := 0) hx hb dX7_copy_0 (by decide) ?_
  refine lv_istore (lv' := [(5, .int 0), (0, .ref rF), (1, .int p0), (2, .ref rT), (3, .int p1), (4, .int p2)]) hx hb dX7_copy_1 hl (by decide) rfl (fun ls hl => ?_)
  have hl := lv_sub hl (l' := [(5, .int 0), (0, .ref rF), (1, .int p0), (2, .ref rT), (3, .int p1), (4, .int p2)]) [0, 1, 2, 3, 4, 5] rfl
  have key_n_1589 : ∀ (n_1589 : Nat) (z_1587 : Int32) (f_1588 : Nat → Int32) (H : Heap) (locs : List Loc) (ls : Array Slot), (0 ≤ z_1587.toInt ∧ z_1587.toInt ≤ p2.toInt) → (CopyOk fF fT p0.toNatClampNeg p1.toNatClampNeg z_1587.toNatClampNeg f_1588) → (p2.toInt - z_1587.toInt).toNat < n_1589 → va_P (dC, dI) vwCl [(arI rF kF 90 fF), (arI rT kT 270 f_1588)] H → va_D A [(arI rF kF 90 fF), (arI rT kT 270 f_1588)] → va_S A s.heap H locs → lv_has ls 6 [(5, .int z_1587), (0, .ref rF), (1, .int p0), (2, .ref rT), (3, .int p1), (4, .int p2)] → W p l e (headSpec (Cond.code yX7_copy cX7_copy 6 none :: wG) ({ frames := 0, cells := 0, slots := 0, locals := 0 })).room s m ([.ref rF, .int p0, .ref rT, .int p1, .int p2] : List Value).toArray below meth c H locs 0 0 (MQ below (va_Qv (fun (_ : Nat) => True) (fun (_ : Nat) (t : State) => ∃ (nfT : Nat → Int32), (CopyOk fF fT p0.toNatClampNeg p1.toNatClampNeg p2.toNatClampNeg nfT) ∧ Bw dC dI A [(arI rF kF 90 fF), (arI rT kT 270 nfT)] [(kF, .int), (kT, .int)] t) A) ([.ref rF, .int p0, .ref rT, .int p1, .int p2] : List Value).toArray s 0 0 A) (F0 m 3 ls []) := by
    intro n_1589
    induction n_1589 with
    | zero => intro z_1587 f_1588 H locs ls hi0_n_1589 hi1_n_1589 hm; exact absurd hm (Nat.not_lt_zero _)
    | succ n_1589 ih_n_1589 =>
      intro z_1587 f_1588 H locs ls hi0_n_1589 hi1_n_1589 hm_n_1589 hP hD hS hl
      refine lv_iload hx hb dX7_copy_3 (lv_at hl 0 rfl) ?_
      refine lv_iload hx hb dX7_copy_5 (lv_at hl 5 rfl) ?_
      refine lv_icmp_ge (tgt := 28) hx hb dX7_copy_7 (by decide) (fun c_1590 => ?_) (fun c_1590 => ?_)
      · skip
        have gc_1590 := ti_le c_1590 rfl rfl
        exact wq_v hx hb hr 0 trivial (fun t ht hW => ⟨f_1588, (by rw [show p2.toNatClampNeg = z_1587.toNatClampNeg from by have q1 := ti_cl (x := z_1587) rfl (by omega); have q2 := ti_cl (x := p2) rfl (by omega); omega]; assumption), Bw.to hP hD hK ht hW⟩) hS dX7_copy_28 hlocks
      · skip
        have gc_1590 := ti_nle c_1590 rfl rfl
        refine lv_aload_n hx hb dX7_copy_10 rfl (lv_at hl 3 rfl) ?_
        refine lv_iload_n hx hb dX7_copy_11 rfl (lv_at hl 4 rfl) ?_
        refine lv_iload hx hb dX7_copy_12 (lv_at hl 0 rfl) ?_
        refine lv_iadd hx hb dX7_copy_14 ?_
        refine lv_topi (fun x_1591 ex_1591 => ?_)
        have vx_1591 : x_1591.toInt = p1.toInt + z_1587.toInt := ti_add ex_1591 rfl rfl (om_0d98f29e hc0.2.1 hi0_n_1589.1) (om_29a9bce9 hc2 hi0_n_1589.2)
        refine lv_aload_n hx hb dX7_copy_15 rfl (lv_at hl 1 rfl) ?_
        refine lv_iload_n hx hb dX7_copy_16 rfl (lv_at hl 2 rfl) ?_
        refine lv_iload hx hb dX7_copy_17 (lv_at hl 0 rfl) ?_
        refine lv_iadd hx hb dX7_copy_19 ?_
        refine lv_topi (fun x_1592 ex_1592 => ?_)
        have vx_1592 : x_1592.toInt = p0.toInt + z_1587.toInt := ti_add ex_1592 rfl rfl (om_0d98f29e hc0.1 hi0_n_1589.1) (om_8bd45658 hc1 hi0_n_1589.2)
        refine va_iald hx hb hK hP 0 0 rfl rfl (ti_in vx_1592 (om_da9595ee hc0.1 hi0_n_1589.1) (om_ad124daf hc1 gc_1590)) dX7_copy_20 ?_
        refine lv_topi (fun x_1593 ex_1593 => ?_)
        have kx_1593 : (fF x_1592.toNatClampNeg).toInt = x_1593.toInt := by rw [ex_1593]
        have cx_1593 : (fF (p0.toNatClampNeg + z_1587.toNatClampNeg)).toInt = x_1593.toInt := by rw [show p0.toNatClampNeg + z_1587.toNatClampNeg = x_1592.toNatClampNeg from (om_08ccee3a (ti_cl (x := p0) rfl hc0.1) (ti_cl (x := z_1587) rfl hi0_n_1589.1) (ti_cl (x := x_1592) vx_1592 (om_da9595ee hc0.1 hi0_n_1589.1)))]; exact kx_1593
        refine va_iast hx hb hK hP hD hS 1 1 rfl rfl (ti_in vx_1591 (om_da9595ee hc0.2.1 hi0_n_1589.1) (om_08b9ba93 hc2 gc_1590)) dX7_copy_21 (fun H locs hP hD hS => ?_)
        obtain ⟨f_1594, ef_1594⟩ : ∃ g : Nat → Int32, g = upd f_1588 x_1591.toNatClampNeg x_1593 := ⟨_, rfl⟩
        rw [← ef_1594] at hP hD
        obtain ⟨hP, hD⟩ := wl2 (ws' := [(arI rF kF 90 fF), (arI rT kT 270 f_1594)]) hP hD rfl
        obtain ⟨x_1595, ex_1595⟩ : ∃ z : Int32, z = z_1587 + Int32.ofInt 1 := ⟨_, rfl⟩
        have vx_1595 : x_1595.toInt = z_1587.toInt + 1 := ti_add (y := 1) ex_1595 rfl kc_1 (om_4e4fce7e hi0_n_1589.1) (om_e7f5d8f5 hc0.1 hc1 hi0_n_1589.2)
        refine lv_iinc (v := x_1595) (lv' := [(5, .int x_1595), (0, .ref rF), (1, .int p0), (2, .ref rT), (3, .int p1), (4, .int p2)]) hx hb dX7_copy_22 hl (k := 0) rfl ex_1595.symm (by decide) rfl (fun ls hl => ?_)
        refine lv_goto (tgt := 3) hx hb dX7_copy_25 (by decide) ?_
        exact ih_n_1589 x_1595 f_1594 _ _ _  ⟨(om_83b90de5 hi0_n_1589.1 vx_1595), (om_afcf07ef gc_1590 vx_1595)⟩ (copy_step hi1_n_1589 ef_1594 (by have q1 := ti_cl (x := x_1591) vx_1591 (om_da9595ee hc0.2.1 hi0_n_1589.1); have q2 := ti_cl (x := p1) rfl hc0.2.1; have q3 := ti_cl (x := z_1587) rfl hi0_n_1589.1; omega) (by have q := cx_1593; omega) (by have q1 := ti_cl (x := x_1595) vx_1595 (om_9548a8fd hi0_n_1589.1); have q3 := ti_cl (x := z_1587) rfl hi0_n_1589.1; omega)) (ms_lt hm_n_1589 (om_dd4ae0bc vx_1595) (om_d5382009 gc_1590)) hP hD hS (lv_sub hl [0, 1, 2, 3, 4, 5] rfl)
  exact key_n_1589 (((p2.toInt - (0 : Int32).toInt).toNat) + 1) 0 fT _ _ _  ⟨(om_b1de7dbe kc_0), (om_2dfe280d hc0.2.2 kc_0)⟩ (by first | assumption | omega | decide | exact copy_zero) (Nat.lt_add_one _) hP hD hS hl
set_option maxHeartbeats 4000000 in
set_option maxRecDepth 100000 in
theorem tX7_copy_270_90 (l : Launch) (dC : Nat → ClassId) (dI : Nat → Nat → Nat) (sz : Nat) (rF : Nat) (fF : Nat → Int32) (kF : ClassId) (rT : Nat) (fT : Nat → Int32) (kT : ClassId) (p0 : Int32) (p1 : Int32) (p2 : Int32)  (hc0 : 0 ≤ p0.toInt ∧ 0 ≤ p1.toInt ∧ 0 ≤ p2.toInt) (hc1 : p0.toInt + p2.toInt ≤ 270) (hc2 : p1.toInt + p2.toInt ≤ 90) : Met l yX7_copy (Cond.code yX7_copy cX7_copy 6 none :: wG) ({ frames := 0, cells := 0, slots := 0, locals := 0 }) (va_Pc [.ref rF, .int p0, .ref rT, .int p1, .int p2] (Pw dC dI sz [(arI rF kF 270 fF), (arI rT kT 90 fT)] [(kF, .int), (kT, .int)])) (va_Qv (fun (_ : Nat) => True) (fun (_ : Nat) (t : State) => ∃ (nfT : Nat → Int32), (CopyOk fF fT p0.toNatClampNeg p1.toNatClampNeg p2.toNatClampNeg nfT) ∧ Bw dC dI (va_A [(arI rF kF 270 fF), (arI rT kT 90 fT)] sz) [(arI rF kF 270 fF), (arI rT kT 90 nfT)] [(kF, .int), (kT, .int)] t) (va_A [(arI rF kF 270 fF), (arI rT kT 90 fT)] sz)) 0 0 (va_A [(arI rF kF 270 fF), (arI rT kT 90 fT)] sz) := by
  refine Met.ofW (cc := cX7_copy) (maxL := 6) (ret := none) pnX7 rfl ?_
  intro p e s m args below meth c s₁ B hml hv
  obtain ⟨rfl, hsz, hP, hK, hD0, hE⟩ := hv
  have hx := B.exec
  have hb := B.bytes
  have hr := B.returns
  have hts : ∀ w ∈ wG, w.before ([.ref rF, .int p0, .ref rT, .int p1, .int p2] : List Value).toArray s = true := fun w h => atoms_spec (ws := Cond.code yX7_copy cX7_copy 6 none :: wG) B.pre w (List.mem_cons_of_mem _ h)
  have hown : s.vm.findClass RX7 = some m.cls := own_of B.named rfl
  have hlocks := B.notSynchronized
  subst hsz
  have hD := hD0.self (sz := s.heap.size)
  generalize hAe : va_A [(arI rF kF 270 fF), (arI rT kT 90 fT)] s.heap.size = A at hD hE ⊢
  have hA : ∀ q : Nat, s.heap.size ≤ q → A q := fun q h => by rw [← hAe]; exact Or.inr h
  have hS : va_S A s.heap s.heap [] := va_S.rf
  have hl := lv_entry ([.ref rF, .int p0, .ref rT, .int p1, .int p2]) (n := 6) (Nat.le_of_ble_eq_true rfl)
  rw [lg_entry_eq]
  generalize (lg_sl ([.ref rF, .int p0, .ref rT, .int p1, .int p2]) ++ List.replicate (6 - (lg_sl ([.ref rF, .int p0, .ref rT, .int p1, .int p2])).length) Slot.unset).toArray = ls at hl ⊢
  have hl : lv_has ls 6 [(0, .ref rF), (1, .int p0), (2, .ref rT), (3, .int p1), (4, .int p2)] := hl
  refine lv_iconst (v := 0) hx hb dX7_copy_0 (by decide) ?_
  refine lv_istore (lv' := [(5, .int 0), (0, .ref rF), (1, .int p0), (2, .ref rT), (3, .int p1), (4, .int p2)]) hx hb dX7_copy_1 hl (by decide) rfl (fun ls hl => ?_)
  have hl := lv_sub hl (l' := [(5, .int 0), (0, .ref rF), (1, .int p0), (2, .ref rT), (3, .int p1), (4, .int p2)]) [0, 1, 2, 3, 4, 5] rfl
  have key_n_1607 : ∀ (n_1607 : Nat) (z_1605 : Int32) (f_1606 : Nat → Int32) (H : Heap) (locs : List Loc) (ls : Array Slot), (0 ≤ z_1605.toInt ∧ z_1605.toInt ≤ p2.toInt) → (CopyOk fF fT p0.toNatClampNeg p1.toNatClampNeg z_1605.toNatClampNeg f_1606) → (p2.toInt - z_1605.toInt).toNat < n_1607 → va_P (dC, dI) vwCl [(arI rF kF 270 fF), (arI rT kT 90 f_1606)] H → va_D A [(arI rF kF 270 fF), (arI rT kT 90 f_1606)] → va_S A s.heap H locs → lv_has ls 6 [(5, .int z_1605), (0, .ref rF), (1, .int p0), (2, .ref rT), (3, .int p1), (4, .int p2)] → W p l e (headSpec (Cond.code yX7_copy cX7_copy 6 none :: wG) ({ frames := 0, cells := 0, slots := 0, locals := 0 })).room s m ([.ref rF, .int p0, .ref rT, .int p1, .int p2] : List Value).toArray below meth c H locs 0 0 (MQ below (va_Qv (fun (_ : Nat) => True) (fun (_ : Nat) (t : State) => ∃ (nfT : Nat → Int32), (CopyOk fF fT p0.toNatClampNeg p1.toNatClampNeg p2.toNatClampNeg nfT) ∧ Bw dC dI A [(arI rF kF 270 fF), (arI rT kT 90 nfT)] [(kF, .int), (kT, .int)] t) A) ([.ref rF, .int p0, .ref rT, .int p1, .int p2] : List Value).toArray s 0 0 A) (F0 m 3 ls []) := by
    intro n_1607
    induction n_1607 with
    | zero => intro z_1605 f_1606 H locs ls hi0_n_1607 hi1_n_1607 hm; exact absurd hm (Nat.not_lt_zero _)
    | succ n_1607 ih_n_1607 =>
      intro z_1605 f_1606 H locs ls hi0_n_1607 hi1_n_1607 hm_n_1607 hP hD hS hl
      refine lv_iload hx hb dX7_copy_3 (lv_at hl 0 rfl) ?_
      refine lv_iload hx hb dX7_copy_5 (lv_at hl 5 rfl) ?_
      refine lv_icmp_ge (tgt := 28) hx hb dX7_copy_7 (by decide) (fun c_1608 => ?_) (fun c_1608 => ?_)
      · skip
        have gc_1608 := ti_le c_1608 rfl rfl
        exact wq_v hx hb hr 0 trivial (fun t ht hW => ⟨f_1606, (by rw [show p2.toNatClampNeg = z_1605.toNatClampNeg from by have q1 := ti_cl (x := z_1605) rfl (by omega); have q2 := ti_cl (x := p2) rfl (by omega); omega]; assumption), Bw.to hP hD hK ht hW⟩) hS dX7_copy_28 hlocks
      · skip
        have gc_1608 := ti_nle c_1608 rfl rfl
        refine lv_aload_n hx hb dX7_copy_10 rfl (lv_at hl 3 rfl) ?_
        refine lv_iload_n hx hb dX7_copy_11 rfl (lv_at hl 4 rfl) ?_
        refine lv_iload hx hb dX7_copy_12 (lv_at hl 0 rfl) ?_
        refine lv_iadd hx hb dX7_copy_14 ?_
        refine lv_topi (fun x_1609 ex_1609 => ?_)
        have vx_1609 : x_1609.toInt = p1.toInt + z_1605.toInt := ti_add ex_1609 rfl rfl (om_0d98f29e hc0.2.1 hi0_n_1607.1) (om_8bd45658 hc2 hi0_n_1607.2)
        refine lv_aload_n hx hb dX7_copy_15 rfl (lv_at hl 1 rfl) ?_
        refine lv_iload_n hx hb dX7_copy_16 rfl (lv_at hl 2 rfl) ?_
        refine lv_iload hx hb dX7_copy_17 (lv_at hl 0 rfl) ?_
        refine lv_iadd hx hb dX7_copy_19 ?_
        refine lv_topi (fun x_1610 ex_1610 => ?_)
        have vx_1610 : x_1610.toInt = p0.toInt + z_1605.toInt := ti_add ex_1610 rfl rfl (om_0d98f29e hc0.1 hi0_n_1607.1) (om_29a9bce9 hc1 hi0_n_1607.2)
        refine va_iald hx hb hK hP 0 0 rfl rfl (ti_in vx_1610 (om_da9595ee hc0.1 hi0_n_1607.1) (om_08b9ba93 hc1 gc_1608)) dX7_copy_20 ?_
        refine lv_topi (fun x_1611 ex_1611 => ?_)
        have kx_1611 : (fF x_1610.toNatClampNeg).toInt = x_1611.toInt := by rw [ex_1611]
        have cx_1611 : (fF (p0.toNatClampNeg + z_1605.toNatClampNeg)).toInt = x_1611.toInt := by rw [show p0.toNatClampNeg + z_1605.toNatClampNeg = x_1610.toNatClampNeg from (om_08ccee3a (ti_cl (x := p0) rfl hc0.1) (ti_cl (x := z_1605) rfl hi0_n_1607.1) (ti_cl (x := x_1610) vx_1610 (om_da9595ee hc0.1 hi0_n_1607.1)))]; exact kx_1611
        refine va_iast hx hb hK hP hD hS 1 1 rfl rfl (ti_in vx_1609 (om_da9595ee hc0.2.1 hi0_n_1607.1) (om_ad124daf hc2 gc_1608)) dX7_copy_21 (fun H locs hP hD hS => ?_)
        obtain ⟨f_1612, ef_1612⟩ : ∃ g : Nat → Int32, g = upd f_1606 x_1609.toNatClampNeg x_1611 := ⟨_, rfl⟩
        rw [← ef_1612] at hP hD
        obtain ⟨hP, hD⟩ := wl2 (ws' := [(arI rF kF 270 fF), (arI rT kT 90 f_1612)]) hP hD rfl
        obtain ⟨x_1613, ex_1613⟩ : ∃ z : Int32, z = z_1605 + Int32.ofInt 1 := ⟨_, rfl⟩
        have vx_1613 : x_1613.toInt = z_1605.toInt + 1 := ti_add (y := 1) ex_1613 rfl kc_1 (om_4e4fce7e hi0_n_1607.1) (om_acdbfea5 hc0.1 hc1 hi0_n_1607.2)
        refine lv_iinc (v := x_1613) (lv' := [(5, .int x_1613), (0, .ref rF), (1, .int p0), (2, .ref rT), (3, .int p1), (4, .int p2)]) hx hb dX7_copy_22 hl (k := 0) rfl ex_1613.symm (by decide) rfl (fun ls hl => ?_)
        refine lv_goto (tgt := 3) hx hb dX7_copy_25 (by decide) ?_
        exact ih_n_1607 x_1613 f_1612 _ _ _  ⟨(om_83b90de5 hi0_n_1607.1 vx_1613), (om_afcf07ef gc_1608 vx_1613)⟩ (copy_step hi1_n_1607 ef_1612 (by have q1 := ti_cl (x := x_1609) vx_1609 (om_da9595ee hc0.2.1 hi0_n_1607.1); have q2 := ti_cl (x := p1) rfl hc0.2.1; have q3 := ti_cl (x := z_1605) rfl hi0_n_1607.1; omega) (by have q := cx_1611; omega) (by have q1 := ti_cl (x := x_1613) vx_1613 (om_9548a8fd hi0_n_1607.1); have q3 := ti_cl (x := z_1605) rfl hi0_n_1607.1; omega)) (ms_lt hm_n_1607 (om_dd4ae0bc vx_1613) (om_d5382009 gc_1608)) hP hD hS (lv_sub hl [0, 1, 2, 3, 4, 5] rfl)
  exact key_n_1607 (((p2.toInt - (0 : Int32).toInt).toNat) + 1) 0 fT _ _ _  ⟨(om_b1de7dbe kc_0), (om_2dfe280d hc0.2.2 kc_0)⟩ (by first | assumption | omega | decide | exact copy_zero) (Nat.lt_add_one _) hP hD hS hl
