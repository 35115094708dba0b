set_option maxHeartbeats 4000000 in
set_option maxRecDepth 100000 in
theorem tX7_copy_90_90 (l : Launch) (dC : Nat → ClassId) (dI : Nat → Nat → Nat) (sz : Nat) (rF : Nat) (fF : Nat → Int32) (kF : ClassId) (rT : Nat) (fT : Nat → Int32) (kT : ClassId) (p0 : Int32) (p1 : Int32) (p2 : Int32)  (hc0 : 0 ≤ p0.toInt ∧ 0 ≤ p1.toInt ∧ 0 ≤ p2.toInt) (hc1 : p0.toInt + p2.toInt ≤ 90) (hc2 : p1.toInt + p2.toInt ≤ 90) : Met l yX7_copy (Cond.code yX7_copy cX7_copy 6 none :: wG) ({ frames := 0, cells := 0, slots := 0, locals := 0 }) (va_Pc [.ref rF, .int p0, .ref rT, .int p1, .int p2] (Pw dC dI sz [(rF, .inl (kF, 90, .inl fF)), (rT, .inl (kT, 90, .inl fT))] [(kF, .int), (kT, .int)])) (va_Qv (fun (_ : Nat) => True) (fun (_ : Nat) (t : State) => ∃ (nfT : Nat → Int32), (CopyOk fF fT p0.toNatClampNeg p1.toNatClampNeg p2.toNatClampNeg nfT) ∧ Bw dC dI (va_A [(rF, .inl (kF, 90, .inl fF)), (rT, .inl (kT, 90, .inl fT))] sz) [(rF, .inl (kF, 90, .inl fF)), (rT, .inl (kT, 90, .inl nfT))] [(kF, .int), (kT, .int)] t) (va_A [(rF, .inl (kF, 90, .inl fF)), (rT, .inl (kT, 90, .inl fT))] sz)) 0 0 (va_A [(rF, .inl (kF, 90, .inl fF)), (rT, .inl (kT, 90, .inl fT))] sz) := by
  refine Met.ofW (cc := cX7_copy) (maxL := 6) (ret := none) (by decide) rfl ?_
  intro p e s m args below meth c s₁ B hml hv
  obtain ⟨rfl, hsz, hP, hK, hD0, hE⟩ := hv
  have hx := B.exec
  have hb := B.bytes
  have hr := B.returns
  have hts : ∀ w ∈ wG, w.before ([.ref rF, .int p0, .ref rT, .int p1, .int p2] : List Value).toArray s = true := fun w h => atoms_spec (ws := Cond.code yX7_copy cX7_copy 6 none :: wG) B.pre w (List.mem_cons_of_mem _ h)
  have hown : s.vm.findClass RX7 = some m.cls := findClass_of_methodNamed B.named
  have hlocks := B.notSynchronized
  subst hsz
  have hD := hD0.self (sz := s.heap.size)
  generalize hAe : va_A [(rF, .inl (kF, 90, .inl fF)), (rT, .inl (kT, 90, .inl fT))] s.heap.size = A at hD hE ⊢
  have hA : ∀ q : Nat, s.heap.size ≤ q → A q := fun q h => by rw [← hAe]; exact Or.inr h
  have hS : va_S A s.heap s.heap [] := va_S.rf
  have hl := lv_entry ([.ref rF, .int p0, .ref rT, .int p1, .int p2]) (n := 6) (Nat.le_of_ble_eq_true rfl)
  rw [lg_entry_eq]
  generalize (lg_sl ([.ref rF, .int p0, .ref rT, .int p1, .int p2]) ++ List.replicate (6 - (lg_sl ([.ref rF, .int p0, .ref rT, .int p1, .int p2])).length) Slot.unset).toArray = ls at hl ⊢
  have hl : lv_has ls 6 [(0, .ref rF), (1, .int p0), (2, .ref rT), (3, .int p1), (4, .int p2)] := hl
  have rg_p0 := fb_rng p0
  have rg_p1 := fb_rng p1
  have rg_p2 := fb_rng p2
  refine lv_iconst (v := 0) hx hb dX7_copy_0 (by decide) ?_
  refine lv_istore (lv' := [(5, .int 0), (0, .ref rF), (1, .int p0), (2, .ref rT), (3, .int p1), (4, .int p2)]) hx hb dX7_copy_1 hl (by decide) rfl (fun ls hl => ?_)
  have hl := lv_sub hl (l' := [(5, .int 0), (0, .ref rF), (1, .int p0), (2, .ref rT), (3, .int p1), (4, .int p2)]) [0, 1, 2, 3, 4, 5] rfl
  have key_n_1469 : ∀ (n_1469 : Nat) (z_1467 : Int32) (f_1468 : Nat → Int32) (H : Heap) (locs : List Loc) (ls : Array Slot), (0 ≤ z_1467.toInt ∧ z_1467.toInt ≤ p2.toInt) → (CopyOk fF fT p0.toNatClampNeg p1.toNatClampNeg z_1467.toNatClampNeg f_1468) → (p2.toInt - z_1467.toInt).toNat < n_1469 → va_P (dC, dI) vwCl [(rF, .inl (kF, 90, .inl fF)), (rT, .inl (kT, 90, .inl f_1468))] H → va_D A [(rF, .inl (kF, 90, .inl fF)), (rT, .inl (kT, 90, .inl f_1468))] → va_S A s.heap H locs → lv_has ls 6 [(5, .int z_1467), (0, .ref rF), (1, .int p0), (2, .ref rT), (3, .int p1), (4, .int p2)] → W p l e (headSpec (Cond.code yX7_copy cX7_copy 6 none :: wG) ({ frames := 0, cells := 0, slots := 0, locals := 0 })).room s m ([.ref rF, .int p0, .ref rT, .int p1, .int p2] : List Value).toArray below meth c H locs 0 0 (MQ below (va_Qv (fun (_ : Nat) => True) (fun (_ : Nat) (t : State) => ∃ (nfT : Nat → Int32), (CopyOk fF fT p0.toNatClampNeg p1.toNatClampNeg p2.toNatClampNeg nfT) ∧ Bw dC dI A [(rF, .inl (kF, 90, .inl fF)), (rT, .inl (kT, 90, .inl nfT))] [(kF, .int), (kT, .int)] t) A) ([.ref rF, .int p0, .ref rT, .int p1, .int p2] : List Value).toArray s 0 0 A) (F0 m 3 ls []) := by
    intro n_1469
    induction n_1469 with
    | zero => intro z_1467 f_1468 H locs ls hi0_n_1469 hi1_n_1469 hm; exact absurd hm (by omega)
    | succ n_1469 ih_n_1469 =>
      intro z_1467 f_1468 H locs ls hi0_n_1469 hi1_n_1469 hm hP hD hS hl
      have rg_z_1467 := fb_rng z_1467
      refine lv_iload hx hb dX7_copy_3 (lv_at hl 0 rfl) ?_
      refine lv_iload hx hb dX7_copy_5 (lv_at hl 5 rfl) ?_
      refine lv_icmp_ge (tgt := 28) hx hb dX7_copy_7 (by decide) (fun c_1470 => ?_) (fun c_1470 => ?_)
      · skip
        have gc_1470 := ti_le c_1470 rfl rfl
        have hP9 := hP.sub (ws' := [(rF, .inl (kF, 90, .inl fF)), (rT, .inl (kT, 90, .inl f_1468))]) [0, 1] rfl
        have hD9 := hD.sub (ws' := [(rF, .inl (kF, 90, .inl fF)), (rT, .inl (kT, 90, .inl f_1468))]) [0, 1] (by decide) rfl
        have hK9 := hK.sub (tys' := [(kF, .int), (kT, .int)]) [0, 1] rfl
        exact W.vret hx hb hr (fun t ht hW => ⟨⟨0, rfl, trivial, ⟨f_1468, (by rw [show p2.toNatClampNeg = z_1467.toNatClampNeg from by have q1 := ti_cl (x := z_1467) rfl (by omega); have q2 := ti_cl (x := p2) rfl (by omega); omega]; assumption), Bw.to hP9 hD9 hK9 ht hW⟩⟩, hS.F ht⟩) hS.2.2 dX7_copy_28
      · skip
        have gc_1470 := ti_nle c_1470 rfl rfl
        refine lv_aload_n hx hb dX7_copy_10 rfl (lv_at hl 3 rfl) ?_
        refine lv_iload_n hx hb dX7_copy_11 rfl (lv_at hl 4 rfl) ?_
        refine lv_iload hx hb dX7_copy_12 (lv_at hl 0 rfl) ?_
        refine lv_iadd hx hb dX7_copy_14 ?_
        refine lv_topi (fun x_1471 ex_1471 => ?_)
        have vx_1471 : x_1471.toInt = p1.toInt + z_1467.toInt := by have q := ti_add ex_1471 rfl rfl (by omega) (by omega); omega
        refine lv_aload_n hx hb dX7_copy_15 rfl (lv_at hl 1 rfl) ?_
        refine lv_iload_n hx hb dX7_copy_16 rfl (lv_at hl 2 rfl) ?_
        refine lv_iload hx hb dX7_copy_17 (lv_at hl 0 rfl) ?_
        refine lv_iadd hx hb dX7_copy_19 ?_
        refine lv_topi (fun x_1472 ex_1472 => ?_)
        have vx_1472 : x_1472.toInt = p0.toInt + z_1467.toInt := by have q := ti_add ex_1472 rfl rfl (by omega) (by omega); omega
        refine va_iald hx hb hK hP 0 0 rfl rfl (ti_in vx_1472 (by omega) (by omega)) dX7_copy_20 ?_
        refine lv_topi (fun x_1473 ex_1473 => ?_)
        have rg_x_1473 := fb_rng x_1473
        have kx_1473 : (fF x_1472.toNatClampNeg).toInt = x_1473.toInt := by rw [ex_1473]
        have cx_1473 : (fF (p0.toNatClampNeg + z_1467.toNatClampNeg)).toInt = x_1473.toInt := by rw [show p0.toNatClampNeg + z_1467.toNatClampNeg = x_1472.toNatClampNeg from by have q9 := ti_cl (x := x_1472) vx_1472 (by omega); have q_p0 := ti_cl (x := p0) rfl (by omega); have q_z_1467 := ti_cl (x := z_1467) rfl (by omega); omega]; exact kx_1473
        refine va_iast hx hb hK hP hD hS 1 1 rfl rfl (ti_in vx_1471 (by omega) (by omega)) dX7_copy_21 (fun H locs hP hD hS => ?_)
        obtain ⟨f_1474, ef_1474⟩ : ∃ g : Nat → Int32, g = upd f_1468 x_1471.toNatClampNeg x_1473 := ⟨_, rfl⟩
        rw [← ef_1474] at hP hD
        have hP : va_P (dC, dI) vwCl [(rF, .inl (kF, 90, .inl fF)), (rT, .inl (kT, 90, .inl f_1474))] H := hP
        have hD : va_D A [(rF, .inl (kF, 90, .inl fF)), (rT, .inl (kT, 90, .inl f_1474))] := hD
        obtain ⟨x_1475, ex_1475⟩ : ∃ z : Int32, z = z_1467 + Int32.ofInt 1 := ⟨_, rfl⟩
        have vx_1475 : x_1475.toInt = z_1467.toInt + 1 := by have q := ti_add (y := 1) ex_1475 rfl kc_1 (by omega) (by omega); omega
        refine lv_iinc (v := x_1475) (lv' := [(5, .int x_1475), (0, .ref rF), (1, .int p0), (2, .ref rT), (3, .int p1), (4, .int p2)]) hx hb dX7_copy_22 hl (k := 0) rfl ex_1475.symm (by decide) rfl (fun ls hl => ?_)
        refine lv_goto (tgt := 3) hx hb dX7_copy_25 (by decide) ?_
        exact ih_n_1469 x_1475 f_1474 _ _ _  (by first | omega | decide | assumption) (copy_step hi1_n_1469 ef_1474 (by have q1 := ti_cl (x := x_1471) vx_1471 (by omega); have q2 := ti_cl (x := p1) rfl (by omega); have q3 := ti_cl (x := z_1467) rfl (by omega); omega) (by have q := cx_1473; omega) (by have q1 := ti_cl (x := x_1475) vx_1475 (by omega); have q3 := ti_cl (x := z_1467) rfl (by omega); omega)) (by omega) (hP.sub [0, 1] rfl) (hD.sub [0, 1] (by decide) rfl) hS (lv_sub hl [0, 1, 2, 3, 4, 5] rfl)
  exact key_n_1469 (((p2.toInt - (0 : Int32).toInt).toNat) + 1) 0 fT _ _ _  (by first | omega | decide | assumption | (have q0 := kc_0; have q1 := kc_1; omega) | exact copy_zero) (by first | omega | decide | assumption | (have q0 := kc_0; have q1 := kc_1; omega) | exact copy_zero) (by omega) hP hD hS hl
set_option maxHeartbeats 4000000 in
set_option maxRecDepth 100000 in
theorem tX7_copy_8_8 (l : Launch) (dC : Nat → ClassId) (dI : Nat → Nat → Nat) (sz : Nat) (rF : Nat) (fF : Nat → Int32) (kF : ClassId) (rT : Nat) (fT : Nat → Int32) (kT : ClassId) (p0 : Int32) (p1 : Int32) (p2 : Int32)  (hc0 : 0 ≤ p0.toInt ∧ 0 ≤ p1.toInt ∧ 0 ≤ p2.toInt) (hc1 : p0.toInt + p2.toInt ≤ 8) (hc2 : p1.toInt + p2.toInt ≤ 8) : Met l yX7_copy (Cond.code yX7_copy cX7_copy 6 none :: wG) ({ frames := 0, cells := 0, slots := 0, locals := 0 }) (va_Pc [.ref rF, .int p0, .ref rT, .int p1, .int p2] (Pw dC dI sz [(rF, .inl (kF, 8, .inl fF)), (rT, .inl (kT, 8, .inl fT))] [(kF, .int), (kT, .int)])) (va_Qv (fun (_ : Nat) => True) (fun (_ : Nat) (t : State) => ∃ (nfT : Nat → Int32), (CopyOk fF fT p0.toNatClampNeg p1.toNatClampNeg p2.toNatClampNeg nfT) ∧ Bw dC dI (va_A [(rF, .inl (kF, 8, .inl fF)), (rT, .inl (kT, 8, .inl fT))] sz) [(rF, .inl (kF, 8, .inl fF)), (rT, .inl (kT, 8, .inl nfT))] [(kF, .int), (kT, .int)] t) (va_A [(rF, .inl (kF, 8, .inl fF)), (rT, .inl (kT, 8, .inl fT))] sz)) 0 0 (va_A [(rF, .inl (kF, 8, .inl fF)), (rT, .inl (kT, 8, .inl fT))] sz) := by
  refine Met.ofW (cc := cX7_copy) (maxL := 6) (ret := none) (by decide) rfl ?_
  intro p e s m args below meth c s₁ B hml hv
  obtain ⟨rfl, hsz, hP, hK, hD0, hE⟩ := hv
  have hx := B.exec
  have hb := B.bytes
  have hr := B.returns
  have hts : ∀ w ∈ wG, w.before ([.ref rF, .int p0, .ref rT, .int p1, .int p2] : List Value).toArray s = true := fun w h => atoms_spec (ws := Cond.code yX7_copy cX7_copy 6 none :: wG) B.pre w (List.mem_cons_of_mem _ h)
  have hown : s.vm.findClass RX7 = some m.cls := findClass_of_methodNamed B.named
  have hlocks := B.notSynchronized
  subst hsz
  have hD := hD0.self (sz := s.heap.size)
  generalize hAe : va_A [(rF, .inl (kF, 8, .inl fF)), (rT, .inl (kT, 8, .inl fT))] s.heap.size = A at hD hE ⊢
  have hA : ∀ q : Nat, s.heap.size ≤ q → A q := fun q h => by rw [← hAe]; exact Or.inr h
  have hS : va_S A s.heap s.heap [] := va_S.rf
  have hl := lv_entry ([.ref rF, .int p0, .ref rT, .int p1, .int p2]) (n := 6) (Nat.le_of_ble_eq_true rfl)
  rw [lg_entry_eq]
  generalize (lg_sl ([.ref rF, .int p0, .ref rT, .int p1, .int p2]) ++ List.replicate (6 - (lg_sl ([.ref rF, .int p0, .ref rT, .int p1, .int p2])).length) Slot.unset).toArray = ls at hl ⊢
  have hl : lv_has ls 6 [(0, .ref rF), (1, .int p0), (2, .ref rT), (3, .int p1), (4, .int p2)] := hl
  have rg_p0 := fb_rng p0
  have rg_p1 := fb_rng p1
  have rg_p2 := fb_rng p2
  refine lv_iconst (v := 0) hx hb dX7_copy_0 (by decide) ?_
  refine lv_istore (lv' := [(5, .int 0), (0, .ref rF), (1, .int p0), (2, .ref rT), (3, .int p1), (4, .int p2)]) hx hb dX7_copy_1 hl (by decide) rfl (fun ls hl => ?_)
  have hl := lv_sub hl (l' := [(5, .int 0), (0, .ref rF), (1, .int p0), (2, .ref rT), (3, .int p1), (4, .int p2)]) [0, 1, 2, 3, 4, 5] rfl
  have key_n_1487 : ∀ (n_1487 : Nat) (z_1485 : Int32) (f_1486 : Nat → Int32) (H : Heap) (locs : List Loc) (ls : Array Slot), (0 ≤ z_1485.toInt ∧ z_1485.toInt ≤ p2.toInt) → (CopyOk fF fT p0.toNatClampNeg p1.toNatClampNeg z_1485.toNatClampNeg f_1486) → (p2.toInt - z_1485.toInt).toNat < n_1487 → va_P (dC, dI) vwCl [(rF, .inl (kF, 8, .inl fF)), (rT, .inl (kT, 8, .inl f_1486))] H → va_D A [(rF, .inl (kF, 8, .inl fF)), (rT, .inl (kT, 8, .inl f_1486))] → va_S A s.heap H locs → lv_has ls 6 [(5, .int z_1485), (0, .ref rF), (1, .int p0), (2, .ref rT), (3, .int p1), (4, .int p2)] → W p l e (headSpec (Cond.code yX7_copy cX7_copy 6 none :: wG) ({ frames := 0, cells := 0, slots := 0, locals := 0 })).room s m ([.ref rF, .int p0, .ref rT, .int p1, .int p2] : List Value).toArray below meth c H locs 0 0 (MQ below (va_Qv (fun (_ : Nat) => True) (fun (_ : Nat) (t : State) => ∃ (nfT : Nat → Int32), (CopyOk fF fT p0.toNatClampNeg p1.toNatClampNeg p2.toNatClampNeg nfT) ∧ Bw dC dI A [(rF, .inl (kF, 8, .inl fF)), (rT, .inl (kT, 8, .inl nfT))] [(kF, .int), (kT, .int)] t) A) ([.ref rF, .int p0, .ref rT, .int p1, .int p2] : List Value).toArray s 0 0 A) (F0 m 3 ls []) := by
    intro n_1487
    induction n_1487 with
    | zero => intro z_1485 f_1486 H locs ls hi0_n_1487 hi1_n_1487 hm; exact absurd hm (by omega)
    | succ n_1487 ih_n_1487 =>
      intro z_1485 f_1486 H locs ls hi0_n_1487 hi1_n_1487 hm hP hD hS hl
      have rg_z_1485 := fb_rng z_1485
      refine lv_iload hx hb dX7_copy_3 (lv_at hl 0 rfl) ?_
      refine lv_iload hx hb dX7_copy_5 (lv_at hl 5 rfl) ?_
      refine lv_icmp_ge (tgt := 28) hx hb dX7_copy_7 (by decide) (fun c_1488 => ?_) (fun c_1488 => ?_)
      · skip
        have gc_1488 := ti_le c_1488 rfl rfl
        have hP9 := hP.sub (ws' := [(rF, .inl (kF, 8, .inl fF)), (rT, .inl (kT, 8, .inl f_1486))]) [0, 1] rfl
        have hD9 := hD.sub (ws' := [(rF, .inl (kF, 8, .inl fF)), (rT, .inl (kT, 8, .inl f_1486))]) [0, 1] (by decide) rfl
        have hK9 := hK.sub (tys' := [(kF, .int), (kT, .int)]) [0, 1] rfl
        exact W.vret hx hb hr (fun t ht hW => ⟨⟨0, rfl, trivial, ⟨f_1486, (by rw [show p2.toNatClampNeg = z_1485.toNatClampNeg from by have q1 := ti_cl (x := z_1485) rfl (by omega); have q2 := ti_cl (x := p2) rfl (by omega); omega]; assumption), Bw.to hP9 hD9 hK9 ht hW⟩⟩, hS.F ht⟩) hS.2.2 dX7_copy_28
      · skip
        have gc_1488 := ti_nle c_1488 rfl rfl
        refine lv_aload_n hx hb dX7_copy_10 rfl (lv_at hl 3 rfl) ?_
        refine lv_iload_n hx hb dX7_copy_11 rfl (lv_at hl 4 rfl) ?_
        refine lv_iload hx hb dX7_copy_12 (lv_at hl 0 rfl) ?_
        refine lv_iadd hx hb dX7_copy_14 ?_
        refine lv_topi (fun x_1489 ex_1489 => ?_)
        have vx_1489 : x_1489.toInt = p1.toInt + z_1485.toInt := by have q := ti_add ex_1489 rfl rfl (by omega) (by omega); omega
        refine lv_aload_n hx hb dX7_copy_15 rfl (lv_at hl 1 rfl) ?_
        refine lv_iload_n hx hb dX7_copy_16 rfl (lv_at hl 2 rfl) ?_
        refine lv_iload hx hb dX7_copy_17 (lv_at hl 0 rfl) ?_
        refine lv_iadd hx hb dX7_copy_19 ?_
        refine lv_topi (fun x_1490 ex_1490 => ?_)
        have vx_1490 : x_1490.toInt = p0.toInt + z_1485.toInt := by have q := ti_add ex_1490 rfl rfl (by omega) (by omega); omega
        refine va_iald hx hb hK hP 0 0 rfl rfl (ti_in vx_1490 (by omega) (by omega)) dX7_copy_20 ?_
        refine lv_topi (fun x_1491 ex_1491 => ?_)
        have rg_x_1491 := fb_rng x_1491
        have kx_1491 : (fF x_1490.toNatClampNeg).toInt = x_1491.toInt := by rw [ex_1491]
        have cx_1491 : (fF (p0.toNatClampNeg + z_1485.toNatClampNeg)).toInt = x_1491.toInt := by rw [show p0.toNatClampNeg + z_1485.toNatClampNeg = x_1490.toNatClampNeg from by have q9 := ti_cl (x := x_1490) vx_1490 (by omega); have q_p0 := ti_cl (x := p0) rfl (by omega); have q_z_1485 := ti_cl (x := z_1485) rfl (by omega); omega]; exact kx_1491
        refine va_iast hx hb hK hP hD hS 1 1 rfl rfl (ti_in vx_1489 (by omega) (by omega)) dX7_copy_21 (fun H locs hP hD hS => ?_)
        obtain ⟨f_1492, ef_1492⟩ : ∃ g : Nat → Int32, g = upd f_1486 x_1489.toNatClampNeg x_1491 := ⟨_, rfl⟩
        rw [← ef_1492] at hP hD
        have hP : va_P (dC, dI) vwCl [(rF, .inl (kF, 8, .inl fF)), (rT, .inl (kT, 8, .inl f_1492))] H := hP
        have hD : va_D A [(rF, .inl (kF, 8, .inl fF)), (rT, .inl (kT, 8, .inl f_1492))] := hD
        obtain ⟨x_1493, ex_1493⟩ : ∃ z : Int32, z = z_1485 + Int32.ofInt 1 := ⟨_, rfl⟩
        have vx_1493 : x_1493.toInt = z_1485.toInt + 1 := by have q := ti_add (y := 1) ex_1493 rfl kc_1 (by omega) (by omega); omega
        refine lv_iinc (v := x_1493) (lv' := [(5, .int x_1493), (0, .ref rF), (1, .int p0), (2, .ref rT), (3, .int p1), (4, .int p2)]) hx hb dX7_copy_22 hl (k := 0) rfl ex_1493.symm (by decide) rfl (fun ls hl => ?_)
        refine lv_goto (tgt := 3) hx hb dX7_copy_25 (by decide) ?_
        exact ih_n_1487 x_1493 f_1492 _ _ _  (by first | omega | decide | assumption) (copy_step hi1_n_1487 ef_1492 (by have q1 := ti_cl (x := x_1489) vx_1489 (by omega); have q2 := ti_cl (x := p1) rfl (by omega); have q3 := ti_cl (x := z_1485) rfl (by omega); omega) (by have q := cx_1491; omega) (by have q1 := ti_cl (x := x_1493) vx_1493 (by omega); have q3 := ti_cl (x := z_1485) rfl (by omega); omega)) (by omega) (hP.sub [0, 1] rfl) (hD.sub [0, 1] (by decide) rfl) hS (lv_sub hl [0, 1, 2, 3, 4, 5] rfl)
  exact key_n_1487 (((p2.toInt - (0 : Int32).toInt).toNat) + 1) 0 fT _ _ _  (by first | omega | decide | assumption | (have q0 := kc_0; have q1 := kc_1; omega) | exact copy_zero) (by first | omega | decide | assumption | (have q0 := kc_0; have q1 := kc_1; omega) | exact copy_zero) (by omega) hP hD hS hl
set_option maxHeartbeats 4000000 in
set_option maxRecDepth 100000 in
theorem tX7_copy_8_287 (l : Launch) (dC : Nat → ClassId) (dI : Nat → Nat → Nat) (sz : Nat) (rF : Nat) (fF : Nat → Int32) (kF : ClassId) (rT : Nat) (fT : Nat → Int32) (kT : ClassId) (p0 : Int32) (p1 : Int32) (p2 : Int32)  (hc0 : 0 ≤ p0.toInt ∧ 0 ≤ p1.toInt ∧ 0 ≤ p2.toInt) (hc1 : p0.toInt + p2.toInt ≤ 8) (hc2 : p1.toInt + p2.toInt ≤ 287) : Met l yX7_copy (Cond.code yX7_copy cX7_copy 6 none :: wG) ({ frames := 0, cells := 0, slots := 0, locals := 0 }) (va_Pc [.ref rF, .int p0, .ref rT, .int p1, .int p2] (Pw dC dI sz [(rF, .inl (kF, 8, .inl fF)), (rT, .inl (kT, 287, .inl fT))] [(kF, .int), (kT, .int)])) (va_Qv (fun (_ : Nat) => True) (fun (_ : Nat) (t : State) => ∃ (nfT : Nat → Int32), (CopyOk fF fT p0.toNatClampNeg p1.toNatClampNeg p2.toNatClampNeg nfT) ∧ Bw dC dI (va_A [(rF, .inl (kF, 8, .inl fF)), (rT, .inl (kT, 287, .inl fT))] sz) [(rF, .inl (kF, 8, .inl fF)), (rT, .inl (kT, 287, .inl nfT))] [(kF, .int), (kT, .int)] t) (va_A [(rF, .inl (kF, 8, .inl fF)), (rT, .inl (kT, 287, .inl fT))] sz)) 0 0 (va_A [(rF, .inl (kF, 8, .inl fF)), (rT, .inl (kT, 287, .inl fT))] sz) := by
  refine Met.ofW (cc := cX7_copy) (maxL := 6) (ret := none) (by decide) rfl ?_
  intro p e s m args below meth c s₁ B hml hv
  obtain ⟨rfl, hsz, hP, hK, hD0, hE⟩ := hv
  have hx := B.exec
  have hb := B.bytes
  have hr := B.returns
  have hts : ∀ w ∈ wG, w.before ([.ref rF, .int p0, .ref rT, .int p1, .int p2] : List Value).toArray s = true := fun w h => atoms_spec (ws := Cond.code yX7_copy cX7_copy 6 none :: wG) B.pre w (List.mem_cons_of_mem _ h)
  have hown : s.vm.findClass RX7 = some m.cls := findClass_of_methodNamed B.named
  have hlocks := B.notSynchronized
  subst hsz
  have hD := hD0.self (sz := s.heap.size)
  generalize hAe : va_A [(rF, .inl (kF, 8, .inl fF)), (rT, .inl (kT, 287, .inl fT))] s.heap.size = A at hD hE ⊢
  have hA : ∀ q : Nat, s.heap.size ≤ q → A q := fun q h => by rw [← hAe]; exact Or.inr h
  have hS : va_S A s.heap s.heap [] := va_S.rf
  have hl := lv_entry ([.ref rF, .int p0, .ref rT, .int p1, .int p2]) (n := 6) (Nat.le_of_ble_eq_true rfl)
  rw [lg_entry_eq]
  generalize (lg_sl ([.ref rF, .int p0, .ref rT, .int p1, .int p2]) ++ List.replicate (6 - (lg_sl ([.ref rF, .int p0, .ref rT, .int p1, .int p2])).length) Slot.unset).toArray = ls at hl ⊢
  have hl : lv_has ls 6 [(0, .ref rF), (1, .int p0), (2, .ref rT), (3, .int p1), (4, .int p2)] := hl
  have rg_p0 := fb_rng p0
  have rg_p1 := fb_rng p1
  have rg_p2 := fb_rng p2
  refine lv_iconst (v := 0) hx hb dX7_copy_0 (by decide) ?_
  refine lv_istore (lv' := [(5, .int 0), (0, .ref rF), (1, .int p0), (2, .ref rT), (3, .int p1), (4, .int p2)]) hx hb dX7_copy_1 hl (by decide) rfl (fun ls hl => ?_)
  have hl := lv_sub hl (l' := [(5, .int 0), (0, .ref rF), (1, .int p0), (2, .ref rT), (3, .int p1), (4, .int p2)]) [0, 1, 2, 3, 4, 5] rfl
  have key_n_1505 : ∀ (n_1505 : Nat) (z_1503 : Int32) (f_1504 : Nat → Int32) (H : Heap) (locs : List Loc) (ls : Array Slot), (0 ≤ z_1503.toInt ∧ z_1503.toInt ≤ p2.toInt) → (CopyOk fF fT p0.toNatClampNeg p1.toNatClampNeg z_1503.toNatClampNeg f_1504) → (p2.toInt - z_1503.toInt).toNat < n_1505 → va_P (dC, dI) vwCl [(rF, .inl (kF, 8, .inl fF)), (rT, .inl (kT, 287, .inl f_1504))] H → va_D A [(rF, .inl (kF, 8, .inl fF)), (rT, .inl (kT, 287, .inl f_1504))] → va_S A s.heap H locs → lv_has ls 6 [(5, .int z_1503), (0, .ref rF), (1, .int p0), (2, .ref rT), (3, .int p1), (4, .int p2)] → W p l e (headSpec (Cond.code yX7_copy cX7_copy 6 none :: wG) ({ frames := 0, cells := 0, slots := 0, locals := 0 })).room s m ([.ref rF, .int p0, .ref rT, .int p1, .int p2] : List Value).toArray below meth c H locs 0 0 (MQ below (va_Qv (fun (_ : Nat) => True) (fun (_ : Nat) (t : State) => ∃ (nfT : Nat → Int32), (CopyOk fF fT p0.toNatClampNeg p1.toNatClampNeg p2.toNatClampNeg nfT) ∧ Bw dC dI A [(rF, .inl (kF, 8, .inl fF)), (rT, .inl (kT, 287, .inl nfT))] [(kF, .int), (kT, .int)] t) A) ([.ref rF, .int p0, .ref rT, .int p1, .int p2] : List Value).toArray s 0 0 A) (F0 m 3 ls []) := by
    intro n_1505
    induction n_1505 with
    | zero => intro z_1503 f_1504 H locs ls hi0_n_1505 hi1_n_1505 hm; exact absurd hm (by omega)
    | succ n_1505 ih_n_1505 =>
      intro z_1503 f_1504 H locs ls hi0_n_1505 hi1_n_1505 hm hP hD hS hl
      have rg_z_1503 := fb_rng z_1503
      refine lv_iload hx hb dX7_copy_3 (lv_at hl 0 rfl) ?_
      refine lv_iload hx hb dX7_copy_5 (lv_at hl 5 rfl) ?_
      refine lv_icmp_ge (tgt := 28) hx hb dX7_copy_7 (by decide) (fun c_1506 => ?_) (fun c_1506 => ?_)
      · skip
        have gc_1506 := ti_le c_1506 rfl rfl
        have hP9 := hP.sub (ws' := [(rF, .inl (kF, 8, .inl fF)), (rT, .inl (kT, 287, .inl f_1504))]) [0, 1] rfl
        have hD9 := hD.sub (ws' := [(rF, .inl (kF, 8, .inl fF)), (rT, .inl (kT, 287, .inl f_1504))]) [0, 1] (by decide) rfl
        have hK9 := hK.sub (tys' := [(kF, .int), (kT, .int)]) [0, 1] rfl
        exact W.vret hx hb hr (fun t ht hW => ⟨⟨0, rfl, trivial, ⟨f_1504, (by rw [show p2.toNatClampNeg = z_1503.toNatClampNeg from by have q1 := ti_cl (x := z_1503) rfl (by omega); have q2 := ti_cl (x := p2) rfl (by omega); omega]; assumption), Bw.to hP9 hD9 hK9 ht hW⟩⟩, hS.F ht⟩) hS.2.2 dX7_copy_28
      · skip
        have gc_1506 := ti_nle c_1506 rfl rfl
        refine lv_aload_n hx hb dX7_copy_10 rfl (lv_at hl 3 rfl) ?_
        refine lv_iload_n hx hb dX7_copy_11 rfl (lv_at hl 4 rfl) ?_
        refine lv_iload hx hb dX7_copy_12 (lv_at hl 0 rfl) ?_
        refine lv_iadd hx hb dX7_copy_14 ?_
        refine lv_topi (fun x_1507 ex_1507 => ?_)
        have vx_1507 : x_1507.toInt = p1.toInt + z_1503.toInt := by have q := ti_add ex_1507 rfl rfl (by omega) (by omega); omega
        refine lv_aload_n hx hb dX7_copy_15 rfl (lv_at hl 1 rfl) ?_
        refine lv_iload_n hx hb dX7_copy_16 rfl (lv_at hl 2 rfl) ?_
        refine lv_iload hx hb dX7_copy_17 (lv_at hl 0 rfl) ?_
        refine lv_iadd hx hb dX7_copy_19 ?_
        refine lv_topi (fun x_1508 ex_1508 => ?_)
        have vx_1508 : x_1508.toInt = p0.toInt + z_1503.toInt := by have q := ti_add ex_1508 rfl rfl (by omega) (by omega); omega
        refine va_iald hx hb hK hP 0 0 rfl rfl (ti_in vx_1508 (by omega) (by omega)) dX7_copy_20 ?_
        refine lv_topi (fun x_1509 ex_1509 => ?_)
        have rg_x_1509 := fb_rng x_1509
        have kx_1509 : (fF x_1508.toNatClampNeg).toInt = x_1509.toInt := by rw [ex_1509]
        have cx_1509 : (fF (p0.toNatClampNeg + z_1503.toNatClampNeg)).toInt = x_1509.toInt := by rw [show p0.toNatClampNeg + z_1503.toNatClampNeg = x_1508.toNatClampNeg from by have q9 := ti_cl (x := x_1508) vx_1508 (by omega); have q_p0 := ti_cl (x := p0) rfl (by omega); have q_z_1503 := ti_cl (x := z_1503) rfl (by omega); omega]; exact kx_1509
        refine va_iast hx hb hK hP hD hS 1 1 rfl rfl (ti_in vx_1507 (by omega) (by omega)) dX7_copy_21 (fun H locs hP hD hS => ?_)
        obtain ⟨f_1510, ef_1510⟩ : ∃ g : Nat → Int32, g = upd f_1504 x_1507.toNatClampNeg x_1509 := ⟨_, rfl⟩
        rw [← ef_1510] at hP hD
        have hP : va_P (dC, dI) vwCl [(rF, .inl (kF, 8, .inl fF)), (rT, .inl (kT, 287, .inl f_1510))] H := hP
        have hD : va_D A [(rF, .inl (kF, 8, .inl fF)), (rT, .inl (kT, 287, .inl f_1510))] := hD
        obtain ⟨x_1511, ex_1511⟩ : ∃ z : Int32, z = z_1503 + Int32.ofInt 1 := ⟨_, rfl⟩
        have vx_1511 : x_1511.toInt = z_1503.toInt + 1 := by have q := ti_add (y := 1) ex_1511 rfl kc_1 (by omega) (by omega); omega
        refine lv_iinc (v := x_1511) (lv' := [(5, .int x_1511), (0, .ref rF), (1, .int p0), (2, .ref rT), (3, .int p1), (4, .int p2)]) hx hb dX7_copy_22 hl (k := 0) rfl ex_1511.symm (by decide) rfl (fun ls hl => ?_)
        refine lv_goto (tgt := 3) hx hb dX7_copy_25 (by decide) ?_
        exact ih_n_1505 x_1511 f_1510 _ _ _  (by first | omega | decide | assumption) (copy_step hi1_n_1505 ef_1510 (by have q1 := ti_cl (x := x_1507) vx_1507 (by omega); have q2 := ti_cl (x := p1) rfl (by omega); have q3 := ti_cl (x := z_1503) rfl (by omega); omega) (by have q := cx_1509; omega) (by have q1 := ti_cl (x := x_1511) vx_1511 (by omega); have q3 := ti_cl (x := z_1503) rfl (by omega); omega)) (by omega) (hP.sub [0, 1] rfl) (hD.sub [0, 1] (by decide) rfl) hS (lv_sub hl [0, 1, 2, 3, 4, 5] rfl)
  exact key_n_1505 (((p2.toInt - (0 : Int32).toInt).toNat) + 1) 0 fT _ _ _  (by first | omega | decide | assumption | (have q0 := kc_0; have q1 := kc_1; omega) | exact copy_zero) (by first | omega | decide | assumption | (have q0 := kc_0; have q1 := kc_1; omega) | exact copy_zero) (by omega) hP hD hS hl
set_option maxHeartbeats 4000000 in
set_option maxRecDepth 100000 in
theorem tX7_copy_287_287 (l : Launch) (dC : Nat → ClassId) (dI : Nat → Nat → Nat) (sz : Nat) (rF : Nat) (fF : Nat → Int32) (kF : ClassId) (rT : Nat) (fT : Nat → Int32) (kT : ClassId) (p0 : Int32) (p1 : Int32) (p2 : Int32)  (hc0 : 0 ≤ p0.toInt ∧ 0 ≤ p1.toInt ∧ 0 ≤ p2.toInt) (hc1 : p0.toInt + p2.toInt ≤ 287) (hc2 : p1.toInt + p2.toInt ≤ 287) : Met l yX7_copy (Cond.code yX7_copy cX7_copy 6 none :: wG) ({ frames := 0, cells := 0, slots := 0, locals := 0 }) (va_Pc [.ref rF, .int p0, .ref rT, .int p1, .int p2] (Pw dC dI sz [(rF, .inl (kF, 287, .inl fF)), (rT, .inl (kT, 287, .inl fT))] [(kF, .int), (kT, .int)])) (va_Qv (fun (_ : Nat) => True) (fun (_ : Nat) (t : State) => ∃ (nfT : Nat → Int32), (CopyOk fF fT p0.toNatClampNeg p1.toNatClampNeg p2.toNatClampNeg nfT) ∧ Bw dC dI (va_A [(rF, .inl (kF, 287, .inl fF)), (rT, .inl (kT, 287, .inl fT))] sz) [(rF, .inl (kF, 287, .inl fF)), (rT, .inl (kT, 287, .inl nfT))] [(kF, .int), (kT, .int)] t) (va_A [(rF, .inl (kF, 287, .inl fF)), (rT, .inl (kT, 287, .inl fT))] sz)) 0 0 (va_A [(rF, .inl (kF, 287, .inl fF)), (rT, .inl (kT, 287, .inl fT))] sz) := by
  refine Met.ofW (cc := cX7_copy) (maxL := 6) (ret := none) (by decide) rfl ?_
  intro p e s m args below meth c s₁ B hml hv
  obtain ⟨rfl, hsz, hP, hK, hD0, hE⟩ := hv
  have hx := B.exec
  have hb := B.bytes
  have hr := B.returns
  have hts : ∀ w ∈ wG, w.before ([.ref rF, .int p0, .ref rT, .int p1, .int p2] : List Value).toArray s = true := fun w h => atoms_spec (ws := Cond.code yX7_copy cX7_copy 6 none :: wG) B.pre w (List.mem_cons_of_mem _ h)
  have hown : s.vm.findClass RX7 = some m.cls := findClass_of_methodNamed B.named
  have hlocks := B.notSynchronized
  subst hsz
  have hD := hD0.self (sz := s.heap.size)
  generalize hAe : va_A [(rF, .inl (kF, 287, .inl fF)), (rT, .inl (kT, 287, .inl fT))] s.heap.size = A at hD hE ⊢
  have hA : ∀ q : Nat, s.heap.size ≤ q → A q := fun q h => by rw [← hAe]; exact Or.inr h
  have hS : va_S A s.heap s.heap [] := va_S.rf
  have hl := lv_entry ([.ref rF, .int p0, .ref rT, .int p1, .int p2]) (n := 6) (Nat.le_of_ble_eq_true rfl)
  rw [lg_entry_eq]
  generalize (lg_sl ([.ref rF, .int p0, .ref rT, .int p1, .int p2]) ++ List.replicate (6 - (lg_sl ([.ref rF, .int p0, .ref rT, .int p1, .int p2])).length) Slot.unset).toArray = ls at hl ⊢
  have hl : lv_has ls 6 [(0, .ref rF), (1, .int p0), (2, .ref rT), (3, .int p1), (4, .int p2)] := hl
  have rg_p0 := fb_rng p0
  have rg_p1 := fb_rng p1
  have rg_p2 := fb_rng p2
  refine lv_iconst (v := 0) hx hb dX7_copy_0 (by decide) ?_
  refine lv_istore (lv' := [(5, .int 0), (0, .ref rF), (1, .int p0), (2, .ref rT), (3, .int p1), (4, .int p2)]) hx hb dX7_copy_1 hl (by decide) rfl (fun ls hl => ?_)
  have hl := lv_sub hl (l' := [(5, .int 0), (0, .ref rF), (1, .int p0), (2, .ref rT), (3, .int p1), (4, .int p2)]) [0, 1, 2, 3, 4, 5] rfl
  have key_n_1523 : ∀ (n_1523 : Nat) (z_1521 : Int32) (f_1522 : Nat → Int32) (H : Heap) (locs : List Loc) (ls : Array Slot), (0 ≤ z_1521.toInt ∧ z_1521.toInt ≤ p2.toInt) → (CopyOk fF fT p0.toNatClampNeg p1.toNatClampNeg z_1521.toNatClampNeg f_1522) → (p2.toInt - z_1521.toInt).toNat < n_1523 → va_P (dC, dI) vwCl [(rF, .inl (kF, 287, .inl fF)), (rT, .inl (kT, 287, .inl f_1522))] H → va_D A [(rF, .inl (kF, 287, .inl fF)), (rT, .inl (kT, 287, .inl f_1522))] → va_S A s.heap H locs → lv_has ls 6 [(5, .int z_1521), (0, .ref rF), (1, .int p0), (2, .ref rT), (3, .int p1), (4, .int p2)] → W p l e (headSpec (Cond.code yX7_copy cX7_copy 6 none :: wG) ({ frames := 0, cells := 0, slots := 0, locals := 0 })).room s m ([.ref rF, .int p0, .ref rT, .int p1, .int p2] : List Value).toArray below meth c H locs 0 0 (MQ below (va_Qv (fun (_ : Nat) => True) (fun (_ : Nat) (t : State) => ∃ (nfT : Nat → Int32), (CopyOk fF fT p0.toNatClampNeg p1.toNatClampNeg p2.toNatClampNeg nfT) ∧ Bw dC dI A [(rF, .inl (kF, 287, .inl fF)), (rT, .inl (kT, 287, .inl nfT))] [(kF, .int), (kT, .int)] t) A) ([.ref rF, .int p0, .ref rT, .int p1, .int p2] : List Value).toArray s 0 0 A) (F0 m 3 ls []) := by
    intro n_1523
    induction n_1523 with
    | zero => intro z_1521 f_1522 H locs ls hi0_n_1523 hi1_n_1523 hm; exact absurd hm (by omega)
    | succ n_1523 ih_n_1523 =>
      intro z_1521 f_1522 H locs ls hi0_n_1523 hi1_n_1523 hm hP hD hS hl
      have rg_z_1521 := fb_rng z_1521
      refine lv_iload hx hb dX7_copy_3 (lv_at hl 0 rfl) ?_
      refine lv_iload hx hb dX7_copy_5 (lv_at hl 5 rfl) ?_
      refine lv_icmp_ge (tgt := 28) hx hb dX7_copy_7 (by decide) (fun c_1524 => ?_) (fun c_1524 => ?_)
      · skip
        have gc_1524 := ti_le c_1524 rfl rfl
        have hP9 := hP.sub (ws' := [(rF, .inl (kF, 287, .inl fF)), (rT, .inl (kT, 287, .inl f_1522))]) [0, 1] rfl
        have hD9 := hD.sub (ws' := [(rF, .inl (kF, 287, .inl fF)), (rT, .inl (kT, 287, .inl f_1522))]) [0, 1] (by decide) rfl
        have hK9 := hK.sub (tys' := [(kF, .int), (kT, .int)]) [0, 1] rfl
        exact W.vret hx hb hr (fun t ht hW => ⟨⟨0, rfl, trivial, ⟨f_1522, (by rw [show p2.toNatClampNeg = z_1521.toNatClampNeg from by have q1 := ti_cl (x := z_1521) rfl (by omega); have q2 := ti_cl (x := p2) rfl (by omega); omega]; assumption), Bw.to hP9 hD9 hK9 ht hW⟩⟩, hS.F ht⟩) hS.2.2 dX7_copy_28
      · skip
        have gc_1524 := ti_nle c_1524 rfl rfl
        refine lv_aload_n hx hb dX7_copy_10 rfl (lv_at hl 3 rfl) ?_
        refine lv_iload_n hx hb dX7_copy_11 rfl (lv_at hl 4 rfl) ?_
        refine lv_iload hx hb dX7_copy_12 (lv_at hl 0 rfl) ?_
        refine lv_iadd hx hb dX7_copy_14 ?_
        refine lv_topi (fun x_1525 ex_1525 => ?_)
        have vx_1525 : x_1525.toInt = p1.toInt + z_1521.toInt := by have q := ti_add ex_1525 rfl rfl (by omega) (by omega); omega
        refine lv_aload_n hx hb dX7_copy_15 rfl (lv_at hl 1 rfl) ?_
        refine lv_iload_n hx hb dX7_copy_16 rfl (lv_at hl 2 rfl) ?_
        refine lv_iload hx hb dX7_copy_17 (lv_at hl 0 rfl) ?_
        refine lv_iadd hx hb dX7_copy_19 ?_
        refine lv_topi (fun x_1526 ex_1526 => ?_)
        have vx_1526 : x_1526.toInt = p0.toInt + z_1521.toInt := by have q := ti_add ex_1526 rfl rfl (by omega) (by omega); omega
        refine va_iald hx hb hK hP 0 0 rfl rfl (ti_in vx_1526 (by omega) (by omega)) dX7_copy_20 ?_
        refine lv_topi (fun x_1527 ex_1527 => ?_)
        have rg_x_1527 := fb_rng x_1527
        have kx_1527 : (fF x_1526.toNatClampNeg).toInt = x_1527.toInt := by rw [ex_1527]
        have cx_1527 : (fF (p0.toNatClampNeg + z_1521.toNatClampNeg)).toInt = x_1527.toInt := by rw [show p0.toNatClampNeg + z_1521.toNatClampNeg = x_1526.toNatClampNeg from by have q9 := ti_cl (x := x_1526) vx_1526 (by omega); have q_p0 := ti_cl (x := p0) rfl (by omega); have q_z_1521 := ti_cl (x := z_1521) rfl (by omega); omega]; exact kx_1527
        refine va_iast hx hb hK hP hD hS 1 1 rfl rfl (ti_in vx_1525 (by omega) (by omega)) dX7_copy_21 (fun H locs hP hD hS => ?_)
        obtain ⟨f_1528, ef_1528⟩ : ∃ g : Nat → Int32, g = upd f_1522 x_1525.toNatClampNeg x_1527 := ⟨_, rfl⟩
        rw [← ef_1528] at hP hD
        have hP : va_P (dC, dI) vwCl [(rF, .inl (kF, 287, .inl fF)), (rT, .inl (kT, 287, .inl f_1528))] H := hP
        have hD : va_D A [(rF, .inl (kF, 287, .inl fF)), (rT, .inl (kT, 287, .inl f_1528))] := hD
        obtain ⟨x_1529, ex_1529⟩ : ∃ z : Int32, z = z_1521 + Int32.ofInt 1 := ⟨_, rfl⟩
        have vx_1529 : x_1529.toInt = z_1521.toInt + 1 := by have q := ti_add (y := 1) ex_1529 rfl kc_1 (by omega) (by omega); omega
        refine lv_iinc (v := x_1529) (lv' := [(5, .int x_1529), (0, .ref rF), (1, .int p0), (2, .ref rT), (3, .int p1), (4, .int p2)]) hx hb dX7_copy_22 hl (k := 0) rfl ex_1529.symm (by decide) rfl (fun ls hl => ?_)
        refine lv_goto (tgt := 3) hx hb dX7_copy_25 (by decide) ?_
        exact ih_n_1523 x_1529 f_1528 _ _ _  (by first | omega | decide | assumption) (copy_step hi1_n_1523 ef_1528 (by have q1 := ti_cl (x := x_1525) vx_1525 (by omega); have q2 := ti_cl (x := p1) rfl (by omega); have q3 := ti_cl (x := z_1521) rfl (by omega); omega) (by have q := cx_1527; omega) (by have q1 := ti_cl (x := x_1529) vx_1529 (by omega); have q3 := ti_cl (x := z_1521) rfl (by omega); omega)) (by omega) (hP.sub [0, 1] rfl) (hD.sub [0, 1] (by decide) rfl) hS (lv_sub hl [0, 1, 2, 3, 4, 5] rfl)
  exact key_n_1523 (((p2.toInt - (0 : Int32).toInt).toNat) + 1) 0 fT _ _ _  (by first | omega | decide | assumption | (have q0 := kc_0; have q1 := kc_1; omega) | exact copy_zero) (by first | omega | decide | assumption | (have q0 := kc_0; have q1 := kc_1; omega) | exact copy_zero) (by omega) hP hD hS hl
set_option maxHeartbeats 4000000 in
set_option maxRecDepth 100000 in
theorem tX7_copy_90_1440 (l : Launch) (dC : Nat → ClassId) (dI : Nat → Nat → Nat) (sz : Nat) (rF : Nat) (fF : Nat → Int32) (kF : ClassId) (rT : Nat) (fT : Nat → Int32) (kT : ClassId) (p0 : Int32) (p1 : Int32) (p2 : Int32)  (hc0 : 0 ≤ p0.toInt ∧ 0 ≤ p1.toInt ∧ 0 ≤ p2.toInt) (hc1 : p0.toInt + p2.toInt ≤ 90) (hc2 : p1.toInt + p2.toInt ≤ 1440) : Met l yX7_copy (Cond.code yX7_copy cX7_copy 6 none :: wG) ({ frames := 0, cells := 0, slots := 0, locals := 0 }) (va_Pc [.ref rF, .int p0, .ref rT, .int p1, .int p2] (Pw dC dI sz [(rF, .inl (kF, 90, .inl fF)), (rT, .inl (kT, 1440, .inl fT))] [(kF, .int), (kT, .int)])) (va_Qv (fun (_ : Nat) => True) (fun (_ : Nat) (t : State) => ∃ (nfT : Nat → Int32), (CopyOk fF fT p0.toNatClampNeg p1.toNatClampNeg p2.toNatClampNeg nfT) ∧ Bw dC dI (va_A [(rF, .inl (kF, 90, .inl fF)), (rT, .inl (kT, 1440, .inl fT))] sz) [(rF, .inl (kF, 90, .inl fF)), (rT, .inl (kT, 1440, .inl nfT))] [(kF, .int), (kT, .int)] t) (va_A [(rF, .inl (kF, 90, .inl fF)), (rT, .inl (kT, 1440, .inl fT))] sz)) 0 0 (va_A [(rF, .inl (kF, 90, .inl fF)), (rT, .inl (kT, 1440, .inl fT))] sz) := by
  refine Met.ofW (cc := cX7_copy) (maxL := 6) (ret := none) (by decide) rfl ?_
  intro p e s m args below meth c s₁ B hml hv
  obtain ⟨rfl, hsz, hP, hK, hD0, hE⟩ := hv
  have hx := B.exec
  have hb := B.bytes
  have hr := B.returns
  have hts : ∀ w ∈ wG, w.before ([.ref rF, .int p0, .ref rT, .int p1, .int p2] : List Value).toArray s = true := fun w h => atoms_spec (ws := Cond.code yX7_copy cX7_copy 6 none :: wG) B.pre w (List.mem_cons_of_mem _ h)
  have hown : s.vm.findClass RX7 = some m.cls := findClass_of_methodNamed B.named
  have hlocks := B.notSynchronized
  subst hsz
  have hD := hD0.self (sz := s.heap.size)
  generalize hAe : va_A [(rF, .inl (kF, 90, .inl fF)), (rT, .inl (kT, 1440, .inl fT))] s.heap.size = A at hD hE ⊢
  have hA : ∀ q : Nat, s.heap.size ≤ q → A q := fun q h => by rw [← hAe]; exact Or.inr h
  have hS : va_S A s.heap s.heap [] := va_S.rf
  have hl := lv_entry ([.ref rF, .int p0, .ref rT, .int p1, .int p2]) (n := 6) (Nat.le_of_ble_eq_true rfl)
  rw [lg_entry_eq]
  generalize (lg_sl ([.ref rF, .int p0, .ref rT, .int p1, .int p2]) ++ List.replicate (6 - (lg_sl ([.ref rF, .int p0, .ref rT, .int p1, .int p2])).length) Slot.unset).toArray = ls at hl ⊢
  have hl : lv_has ls 6 [(0, .ref rF), (1, .int p0), (2, .ref rT), (3, .int p1), (4, .int p2)] := hl
  have rg_p0 := fb_rng p0
  have rg_p1 := fb_rng p1
  have rg_p2 := fb_rng p2
  refine lv_iconst (v := 0) hx hb dX7_copy_0 (by decide) ?_
  refine lv_istore (lv' := [(5, .int 0), (0, .ref rF), (1, .int p0), (2, .ref rT), (3, .int p1), (4, .int p2)]) hx hb dX7_copy_1 hl (by decide) rfl (fun ls hl => ?_)
  have hl := lv_sub hl (l' := [(5, .int 0), (0, .ref rF), (1, .int p0), (2, .ref rT), (3, .int p1), (4, .int p2)]) [0, 1, 2, 3, 4, 5] rfl
  have key_n_1541 : ∀ (n_1541 : Nat) (z_1539 : Int32) (f_1540 : Nat → Int32) (H : Heap) (locs : List Loc) (ls : Array Slot), (0 ≤ z_1539.toInt ∧ z_1539.toInt ≤ p2.toInt) → (CopyOk fF fT p0.toNatClampNeg p1.toNatClampNeg z_1539.toNatClampNeg f_1540) → (p2.toInt - z_1539.toInt).toNat < n_1541 → va_P (dC, dI) vwCl [(rF, .inl (kF, 90, .inl fF)), (rT, .inl (kT, 1440, .inl f_1540))] H → va_D A [(rF, .inl (kF, 90, .inl fF)), (rT, .inl (kT, 1440, .inl f_1540))] → va_S A s.heap H locs → lv_has ls 6 [(5, .int z_1539), (0, .ref rF), (1, .int p0), (2, .ref rT), (3, .int p1), (4, .int p2)] → W p l e (headSpec (Cond.code yX7_copy cX7_copy 6 none :: wG) ({ frames := 0, cells := 0, slots := 0, locals := 0 })).room s m ([.ref rF, .int p0, .ref rT, .int p1, .int p2] : List Value).toArray below meth c H locs 0 0 (MQ below (va_Qv (fun (_ : Nat) => True) (fun (_ : Nat) (t : State) => ∃ (nfT : Nat → Int32), (CopyOk fF fT p0.toNatClampNeg p1.toNatClampNeg p2.toNatClampNeg nfT) ∧ Bw dC dI A [(rF, .inl (kF, 90, .inl fF)), (rT, .inl (kT, 1440, .inl nfT))] [(kF, .int), (kT, .int)] t) A) ([.ref rF, .int p0, .ref rT, .int p1, .int p2] : List Value).toArray s 0 0 A) (F0 m 3 ls []) := by
    intro n_1541
    induction n_1541 with
    | zero => intro z_1539 f_1540 H locs ls hi0_n_1541 hi1_n_1541 hm; exact absurd hm (by omega)
    | succ n_1541 ih_n_1541 =>
      intro z_1539 f_1540 H locs ls hi0_n_1541 hi1_n_1541 hm hP hD hS hl
      have rg_z_1539 := fb_rng z_1539
      refine lv_iload hx hb dX7_copy_3 (lv_at hl 0 rfl) ?_
      refine lv_iload hx hb dX7_copy_5 (lv_at hl 5 rfl) ?_
      refine lv_icmp_ge (tgt := 28) hx hb dX7_copy_7 (by decide) (fun c_1542 => ?_) (fun c_1542 => ?_)
      · skip
        have gc_1542 := ti_le c_1542 rfl rfl
        have hP9 := hP.sub (ws' := [(rF, .inl (kF, 90, .inl fF)), (rT, .inl (kT, 1440, .inl f_1540))]) [0, 1] rfl
        have hD9 := hD.sub (ws' := [(rF, .inl (kF, 90, .inl fF)), (rT, .inl (kT, 1440, .inl f_1540))]) [0, 1] (by decide) rfl
        have hK9 := hK.sub (tys' := [(kF, .int), (kT, .int)]) [0, 1] rfl
        exact W.vret hx hb hr (fun t ht hW => ⟨⟨0, rfl, trivial, ⟨f_1540, (by rw [show p2.toNatClampNeg = z_1539.toNatClampNeg from by have q1 := ti_cl (x := z_1539) rfl (by omega); have q2 := ti_cl (x := p2) rfl (by omega); omega]; assumption), Bw.to hP9 hD9 hK9 ht hW⟩⟩, hS.F ht⟩) hS.2.2 dX7_copy_28
      · skip
        have gc_1542 := ti_nle c_1542 rfl rfl
        refine lv_aload_n hx hb dX7_copy_10 rfl (lv_at hl 3 rfl) ?_
        refine lv_iload_n hx hb dX7_copy_11 rfl (lv_at hl 4 rfl) ?_
        refine lv_iload hx hb dX7_copy_12 (lv_at hl 0 rfl) ?_
        refine lv_iadd hx hb dX7_copy_14 ?_
        refine lv_topi (fun x_1543 ex_1543 => ?_)
        have vx_1543 : x_1543.toInt = p1.toInt + z_1539.toInt := by have q := ti_add ex_1543 rfl rfl (by omega) (by omega); omega
        refine lv_aload_n hx hb dX7_copy_15 rfl (lv_at hl 1 rfl) ?_
        refine lv_iload_n hx hb dX7_copy_16 rfl (lv_at hl 2 rfl) ?_
        refine lv_iload hx hb dX7_copy_17 (lv_at hl 0 rfl) ?_
        refine lv_iadd hx hb dX7_copy_19 ?_
        refine lv_topi (fun x_1544 ex_1544 => ?_)
        have vx_1544 : x_1544.toInt = p0.toInt + z_1539.toInt := by have q := ti_add ex_1544 rfl rfl (by omega) (by omega); omega
        refine va_iald hx hb hK hP 0 0 rfl rfl (ti_in vx_1544 (by omega) (by omega)) dX7_copy_20 ?_
        refine lv_topi (fun x_1545 ex_1545 => ?_)
        have rg_x_1545 := fb_rng x_1545
        have kx_1545 : (fF x_1544.toNatClampNeg).toInt = x_1545.toInt := by rw [ex_1545]
        have cx_1545 : (fF (p0.toNatClampNeg + z_1539.toNatClampNeg)).toInt = x_1545.toInt := by rw [show p0.toNatClampNeg + z_1539.toNatClampNeg = x_1544.toNatClampNeg from by have q9 := ti_cl (x := x_1544) vx_1544 (by omega); have q_p0 := ti_cl (x := p0) rfl (by omega); have q_z_1539 := ti_cl (x := z_1539) rfl (by omega); omega]; exact kx_1545
        refine va_iast hx hb hK hP hD hS 1 1 rfl rfl (ti_in vx_1543 (by omega) (by omega)) dX7_copy_21 (fun H locs hP hD hS => ?_)
        obtain ⟨f_1546, ef_1546⟩ : ∃ g : Nat → Int32, g = upd f_1540 x_1543.toNatClampNeg x_1545 := ⟨_, rfl⟩
        rw [← ef_1546] at hP hD
        have hP : va_P (dC, dI) vwCl [(rF, .inl (kF, 90, .inl fF)), (rT, .inl (kT, 1440, .inl f_1546))] H := hP
        have hD : va_D A [(rF, .inl (kF, 90, .inl fF)), (rT, .inl (kT, 1440, .inl f_1546))] := hD
        obtain ⟨x_1547, ex_1547⟩ : ∃ z : Int32, z = z_1539 + Int32.ofInt 1 := ⟨_, rfl⟩
        have vx_1547 : x_1547.toInt = z_1539.toInt + 1 := by have q := ti_add (y := 1) ex_1547 rfl kc_1 (by omega) (by omega); omega
        refine lv_iinc (v := x_1547) (lv' := [(5, .int x_1547), (0, .ref rF), (1, .int p0), (2, .ref rT), (3, .int p1), (4, .int p2)]) hx hb dX7_copy_22 hl (k := 0) rfl ex_1547.symm (by decide) rfl (fun ls hl => ?_)
        refine lv_goto (tgt := 3) hx hb dX7_copy_25 (by decide) ?_
        exact ih_n_1541 x_1547 f_1546 _ _ _  (by first | omega | decide | assumption) (copy_step hi1_n_1541 ef_1546 (by have q1 := ti_cl (x := x_1543) vx_1543 (by omega); have q2 := ti_cl (x := p1) rfl (by omega); have q3 := ti_cl (x := z_1539) rfl (by omega); omega) (by have q := cx_1545; omega) (by have q1 := ti_cl (x := x_1547) vx_1547 (by omega); have q3 := ti_cl (x := z_1539) rfl (by omega); omega)) (by omega) (hP.sub [0, 1] rfl) (hD.sub [0, 1] (by decide) rfl) hS (lv_sub hl [0, 1, 2, 3, 4, 5] rfl)
  exact key_n_1541 (((p2.toInt - (0 : Int32).toInt).toNat) + 1) 0 fT _ _ _  (by first | omega | decide | assumption | (have q0 := kc_0; have q1 := kc_1; omega) | exact copy_zero) (by first | omega | decide | assumption | (have q0 := kc_0; have q1 := kc_1; omega) | exact copy_zero) (by omega) hP hD hS hl
set_option maxHeartbeats 4000000 in
set_option maxRecDepth 100000 in
theorem tX7_copy_1440_90 (l : Launch) (dC : Nat → ClassId) (dI : Nat → Nat → Nat) (sz : Nat) (rF : Nat) (fF : Nat → Int32) (kF : ClassId) (rT : Nat) (fT : Nat → Int32) (kT : ClassId) (p0 : Int32) (p1 : Int32) (p2 : Int32)  (hc0 : 0 ≤ p0.toInt ∧ 0 ≤ p1.toInt ∧ 0 ≤ p2.toInt) (hc1 : p0.toInt + p2.toInt ≤ 1440) (hc2 : p1.toInt + p2.toInt ≤ 90) : Met l yX7_copy (Cond.code yX7_copy cX7_copy 6 none :: wG) ({ frames := 0, cells := 0, slots := 0, locals := 0 }) (va_Pc [.ref rF, .int p0, .ref rT, .int p1, .int p2] (Pw dC dI sz [(rF, .inl (kF, 1440, .inl fF)), (rT, .inl (kT, 90, .inl fT))] [(kF, .int), (kT, .int)])) (va_Qv (fun (_ : Nat) => True) (fun (_ : Nat) (t : State) => ∃ (nfT : Nat → Int32), (CopyOk fF fT p0.toNatClampNeg p1.toNatClampNeg p2.toNatClampNeg nfT) ∧ Bw dC dI (va_A [(rF, .inl (kF, 1440, .inl fF)), (rT, .inl (kT, 90, .inl fT))] sz) [(rF, .inl (kF, 1440, .inl fF)), (rT, .inl (kT, 90, .inl nfT))] [(kF, .int), (kT, .int)] t) (va_A [(rF, .inl (kF, 1440, .inl fF)), (rT, .inl (kT, 90, .inl fT))] sz)) 0 0 (va_A [(rF, .inl (kF, 1440, .inl fF)), (rT, .inl (kT, 90, .inl fT))] sz) := by
  refine Met.ofW (cc := cX7_copy) (maxL := 6) (ret := none) (by decide) rfl ?_
  intro p e s m args below meth c s₁ B hml hv
  obtain ⟨rfl, hsz, hP, hK, hD0, hE⟩ := hv
  have hx := B.exec
  have hb := B.bytes
  have hr := B.returns
  have hts : ∀ w ∈ wG, w.before ([.ref rF, .int p0, .ref rT, .int p1, .int p2] : List Value).toArray s = true := fun w h => atoms_spec (ws := Cond.code yX7_copy cX7_copy 6 none :: wG) B.pre w (List.mem_cons_of_mem _ h)
  have hown : s.vm.findClass RX7 = some m.cls := findClass_of_methodNamed B.named
  have hlocks := B.notSynchronized
  subst hsz
  have hD := hD0.self (sz := s.heap.size)
  generalize hAe : va_A [(rF, .inl (kF, 1440, .inl fF)), (rT, .inl (kT, 90, .inl fT))] s.heap.size = A at hD hE ⊢
  have hA : ∀ q : Nat, s.heap.size ≤ q → A q := fun q h => by rw [← hAe]; exact Or.inr h
  have hS : va_S A s.heap s.heap [] := va_S.rf
  have hl := lv_entry ([.ref rF, .int p0, .ref rT, .int p1, .int p2]) (n := 6) (Nat.le_of_ble_eq_true rfl)
  rw [lg_entry_eq]
  generalize (lg_sl ([.ref rF, .int p0, .ref rT, .int p1, .int p2]) ++ List.replicate (6 - (lg_sl ([.ref rF, .int p0, .ref rT, .int p1, .int p2])).length) Slot.unset).toArray = ls at hl ⊢
  have hl : lv_has ls 6 [(0, .ref rF), (1, .int p0), (2, .ref rT), (3, .int p1), (4, .int p2)] := hl
  have rg_p0 := fb_rng p0
  have rg_p1 := fb_rng p1
  have rg_p2 := fb_rng p2
  refine lv_iconst (v := 0) hx hb dX7_copy_0 (by decide) ?_
  refine lv_istore (lv' := [(5, .int 0), (0, .ref rF), (1, .int p0), (2, .ref rT), (3, .int p1), (4, .int p2)]) hx hb dX7_copy_1 hl (by decide) rfl (fun ls hl => ?_)
  have hl := lv_sub hl (l' := [(5, .int 0), (0, .ref rF), (1, .int p0), (2, .ref rT), (3, .int p1), (4, .int p2)]) [0, 1, 2, 3, 4, 5] rfl
  have key_n_1559 : ∀ (n_1559 : Nat) (z_1557 : Int32) (f_1558 : Nat → Int32) (H : Heap) (locs : List Loc) (ls : Array Slot), (0 ≤ z_1557.toInt ∧ z_1557.toInt ≤ p2.toInt) → (CopyOk fF fT p0.toNatClampNeg p1.toNatClampNeg z_1557.toNatClampNeg f_1558) → (p2.toInt - z_1557.toInt).toNat < n_1559 → va_P (dC, dI) vwCl [(rF, .inl (kF, 1440, .inl fF)), (rT, .inl (kT, 90, .inl f_1558))] H → va_D A [(rF, .inl (kF, 1440, .inl fF)), (rT, .inl (kT, 90, .inl f_1558))] → va_S A s.heap H locs → lv_has ls 6 [(5, .int z_1557), (0, .ref rF), (1, .int p0), (2, .ref rT), (3, .int p1), (4, .int p2)] → W p l e (headSpec (Cond.code yX7_copy cX7_copy 6 none :: wG) ({ frames := 0, cells := 0, slots := 0, locals := 0 })).room s m ([.ref rF, .int p0, .ref rT, .int p1, .int p2] : List Value).toArray below meth c H locs 0 0 (MQ below (va_Qv (fun (_ : Nat) => True) (fun (_ : Nat) (t : State) => ∃ (nfT : Nat → Int32), (CopyOk fF fT p0.toNatClampNeg p1.toNatClampNeg p2.toNatClampNeg nfT) ∧ Bw dC dI A [(rF, .inl (kF, 1440, .inl fF)), (rT, .inl (kT, 90, .inl nfT))] [(kF, .int), (kT, .int)] t) A) ([.ref rF, .int p0, .ref rT, .int p1, .int p2] : List Value).toArray s 0 0 A) (F0 m 3 ls []) := by
    intro n_1559
    induction n_1559 with
    | zero => intro z_1557 f_1558 H locs ls hi0_n_1559 hi1_n_1559 hm; exact absurd hm (by omega)
    | succ n_1559 ih_n_1559 =>
      intro z_1557 f_1558 H locs ls hi0_n_1559 hi1_n_1559 hm hP hD hS hl
      have rg_z_1557 := fb_rng z_1557
      refine lv_iload hx hb dX7_copy_3 (lv_at hl 0 rfl) ?_
      refine lv_iload hx hb dX7_copy_5 (lv_at hl 5 rfl) ?_
      refine lv_icmp_ge (tgt := 28) hx hb dX7_copy_7 (by decide) (fun c_1560 => ?_) (fun c_1560 => ?_)
      · skip
        have gc_1560 := ti_le c_1560 rfl rfl
        have hP9 := hP.sub (ws' := [(rF, .inl (kF, 1440, .inl fF)), (rT, .inl (kT, 90, .inl f_1558))]) [0, 1] rfl
        have hD9 := hD.sub (ws' := [(rF, .inl (kF, 1440, .inl fF)), (rT, .inl (kT, 90, .inl f_1558))]) [0, 1] (by decide) rfl
        have hK9 := hK.sub (tys' := [(kF, .int), (kT, .int)]) [0, 1] rfl
        exact W.vret hx hb hr (fun t ht hW => ⟨⟨0, rfl, trivial, ⟨f_1558, (by rw [show p2.toNatClampNeg = z_1557.toNatClampNeg from by have q1 := ti_cl (x := z_1557) rfl (by omega); have q2 := ti_cl (x := p2) rfl (by omega); omega]; assumption), Bw.to hP9 hD9 hK9 ht hW⟩⟩, hS.F ht⟩) hS.2.2 dX7_copy_28
      · skip
        have gc_1560 := ti_nle c_1560 rfl rfl
        refine lv_aload_n hx hb dX7_copy_10 rfl (lv_at hl 3 rfl) ?_
        refine lv_iload_n hx hb dX7_copy_11 rfl (lv_at hl 4 rfl) ?_
        refine lv_iload hx hb dX7_copy_12 (lv_at hl 0 rfl) ?_
        refine lv_iadd hx hb dX7_copy_14 ?_
        refine lv_topi (fun x_1561 ex_1561 => ?_)
        have vx_1561 : x_1561.toInt = p1.toInt + z_1557.toInt := by have q := ti_add ex_1561 rfl rfl (by omega) (by omega); omega
        refine lv_aload_n hx hb dX7_copy_15 rfl (lv_at hl 1 rfl) ?_
        refine lv_iload_n hx hb dX7_copy_16 rfl (lv_at hl 2 rfl) ?_
        refine lv_iload hx hb dX7_copy_17 (lv_at hl 0 rfl) ?_
        refine lv_iadd hx hb dX7_copy_19 ?_
        refine lv_topi (fun x_1562 ex_1562 => ?_)
        have vx_1562 : x_1562.toInt = p0.toInt + z_1557.toInt := by have q := ti_add ex_1562 rfl rfl (by omega) (by omega); omega
        refine va_iald hx hb hK hP 0 0 rfl rfl (ti_in vx_1562 (by omega) (by omega)) dX7_copy_20 ?_
        refine lv_topi (fun x_1563 ex_1563 => ?_)
        have rg_x_1563 := fb_rng x_1563
        have kx_1563 : (fF x_1562.toNatClampNeg).toInt = x_1563.toInt := by rw [ex_1563]
        have cx_1563 : (fF (p0.toNatClampNeg + z_1557.toNatClampNeg)).toInt = x_1563.toInt := by rw [show p0.toNatClampNeg + z_1557.toNatClampNeg = x_1562.toNatClampNeg from by have q9 := ti_cl (x := x_1562) vx_1562 (by omega); have q_p0 := ti_cl (x := p0) rfl (by omega); have q_z_1557 := ti_cl (x := z_1557) rfl (by omega); omega]; exact kx_1563
        refine va_iast hx hb hK hP hD hS 1 1 rfl rfl (ti_in vx_1561 (by omega) (by omega)) dX7_copy_21 (fun H locs hP hD hS => ?_)
        obtain ⟨f_1564, ef_1564⟩ : ∃ g : Nat → Int32, g = upd f_1558 x_1561.toNatClampNeg x_1563 := ⟨_, rfl⟩
        rw [← ef_1564] at hP hD
        have hP : va_P (dC, dI) vwCl [(rF, .inl (kF, 1440, .inl fF)), (rT, .inl (kT, 90, .inl f_1564))] H := hP
        have hD : va_D A [(rF, .inl (kF, 1440, .inl fF)), (rT, .inl (kT, 90, .inl f_1564))] := hD
        obtain ⟨x_1565, ex_1565⟩ : ∃ z : Int32, z = z_1557 + Int32.ofInt 1 := ⟨_, rfl⟩
        have vx_1565 : x_1565.toInt = z_1557.toInt + 1 := by have q := ti_add (y := 1) ex_1565 rfl kc_1 (by omega) (by omega); omega
        refine lv_iinc (v := x_1565) (lv' := [(5, .int x_1565), (0, .ref rF), (1, .int p0), (2, .ref rT), (3, .int p1), (4, .int p2)]) hx hb dX7_copy_22 hl (k := 0) rfl ex_1565.symm (by decide) rfl (fun ls hl => ?_)
        refine lv_goto (tgt := 3) hx hb dX7_copy_25 (by decide) ?_
        exact ih_n_1559 x_1565 f_1564 _ _ _  (by first | omega | decide | assumption) (copy_step hi1_n_1559 ef_1564 (by have q1 := ti_cl (x := x_1561) vx_1561 (by omega); have q2 := ti_cl (x := p1) rfl (by omega); have q3 := ti_cl (x := z_1557) rfl (by omega); omega) (by have q := cx_1563; omega) (by have q1 := ti_cl (x := x_1565) vx_1565 (by omega); have q3 := ti_cl (x := z_1557) rfl (by omega); omega)) (by omega) (hP.sub [0, 1] rfl) (hD.sub [0, 1] (by decide) rfl) hS (lv_sub hl [0, 1, 2, 3, 4, 5] rfl)
  exact key_n_1559 (((p2.toInt - (0 : Int32).toInt).toNat) + 1) 0 fT _ _ _  (by first | omega | decide | assumption | (have q0 := kc_0; have q1 := kc_1; omega) | exact copy_zero) (by first | omega | decide | assumption | (have q0 := kc_0; have q1 := kc_1; omega) | exact copy_zero) (by omega) hP hD hS hl
set_option maxHeartbeats 4000000 in
set_option maxRecDepth 100000 in
theorem tX7_copy_90_270 (l : Launch) (dC : Nat → ClassId) (dI : Nat → Nat → Nat) (sz : Nat) (rF : Nat) (fF : Nat → Int32) (kF : ClassId) (rT : Nat) (fT : Nat → Int32) (kT : ClassId) (p0 : Int32) (p1 : Int32) (p2 : Int32)  (hc0 : 0 ≤ p0.toInt ∧ 0 ≤ p1.toInt ∧ 0 ≤ p2.toInt) (hc1 : p0.toInt + p2.toInt ≤ 90) (hc2 : p1.toInt + p2.toInt ≤ 270) : Met l yX7_copy (Cond.code yX7_copy cX7_copy 6 none :: wG) ({ frames := 0, cells := 0, slots := 0, locals := 0 }) (va_Pc [.ref rF, .int p0, .ref rT, .int p1, .int p2] (Pw dC dI sz [(rF, .inl (kF, 90, .inl fF)), (rT, .inl (kT, 270, .inl fT))] [(kF, .int), (kT, .int)])) (va_Qv (fun (_ : Nat) => True) (fun (_ : Nat) (t : State) => ∃ (nfT : Nat → Int32), (CopyOk fF fT p0.toNatClampNeg p1.toNatClampNeg p2.toNatClampNeg nfT) ∧ Bw dC dI (va_A [(rF, .inl (kF, 90, .inl fF)), (rT, .inl (kT, 270, .inl fT))] sz) [(rF, .inl (kF, 90, .inl fF)), (rT, .inl (kT, 270, .inl nfT))] [(kF, .int), (kT, .int)] t) (va_A [(rF, .inl (kF, 90, .inl fF)), (rT, .inl (kT, 270, .inl fT))] sz)) 0 0 (va_A [(rF, .inl (kF, 90, .inl fF)), (rT, .inl (kT, 270, .inl fT))] sz) := by
  refine Met.ofW (cc := cX7_copy) (maxL := 6) (ret := none) (by decide) rfl ?_
  intro p e s m args below meth c s₁ B hml hv
  obtain ⟨rfl, hsz, hP, hK, hD0, hE⟩ := hv
  have hx := B.exec
  have hb := B.bytes
  have hr := B.returns
  have hts : ∀ w ∈ wG, w.before ([.ref rF, .int p0, .ref rT, .int p1, .int p2] : List Value).toArray s = true := fun w h => atoms_spec (ws := Cond.code yX7_copy cX7_copy 6 none :: wG) B.pre w (List.mem_cons_of_mem _ h)
  have hown : s.vm.findClass RX7 = some m.cls := findClass_of_methodNamed B.named
  have hlocks := B.notSynchronized
  subst hsz
  have hD := hD0.self (sz := s.heap.size)
  generalize hAe : va_A [(rF, .inl (kF, 90, .inl fF)), (rT, .inl (kT, 270, .inl fT))] s.heap.size = A at hD hE ⊢
  have hA : ∀ q : Nat, s.heap.size ≤ q → A q := fun q h => by rw [← hAe]; exact Or.inr h
  have hS : va_S A s.heap s.heap [] := va_S.rf
  have hl := lv_entry ([.ref rF, .int p0, .ref rT, .int p1, .int p2]) (n := 6) (Nat.le_of_ble_eq_true rfl)
  rw [lg_entry_eq]
  generalize (lg_sl ([.ref rF, .int p0, .ref rT, .int p1, .int p2]) ++ List.replicate (6 - (lg_sl ([.ref rF, .int p0, .ref rT, .int p1, .int p2])).length) Slot.unset).toArray = ls at hl ⊢
  have hl : lv_has ls 6 [(0, .ref rF), (1, .int p0), (2, .ref rT), (3, .int p1), (4, .int p2)] := hl
  have rg_p0 := fb_rng p0
  have rg_p1 := fb_rng p1
  have rg_p2 := fb_rng p2
  refine lv_iconst (v := 0) hx hb dX7_copy_0 (by decide) ?_
  refine lv_istore (lv' := [(5, .int 0), (0, .ref rF), (1, .int p0), (2, .ref rT), (3, .int p1), (4, .int p2)]) hx hb dX7_copy_1 hl (by decide) rfl (fun ls hl => ?_)
  have hl := lv_sub hl (l' := [(5, .int 0), (0, .ref rF), (1, .int p0), (2, .ref rT), (3, .int p1), (4, .int p2)]) [0, 1, 2, 3, 4, 5] rfl
  have key_n_1577 : ∀ (n_1577 : Nat) (z_1575 : Int32) (f_1576 : Nat → Int32) (H : Heap) (locs : List Loc) (ls : Array Slot), (0 ≤ z_1575.toInt ∧ z_1575.toInt ≤ p2.toInt) → (CopyOk fF fT p0.toNatClampNeg p1.toNatClampNeg z_1575.toNatClampNeg f_1576) → (p2.toInt - z_1575.toInt).toNat < n_1577 → va_P (dC, dI) vwCl [(rF, .inl (kF, 90, .inl fF)), (rT, .inl (kT, 270, .inl f_1576))] H → va_D A [(rF, .inl (kF, 90, .inl fF)), (rT, .inl (kT, 270, .inl f_1576))] → va_S A s.heap H locs → lv_has ls 6 [(5, .int z_1575), (0, .ref rF), (1, .int p0), (2, .ref rT), (3, .int p1), (4, .int p2)] → W p l e (headSpec (Cond.code yX7_copy cX7_copy 6 none :: wG) ({ frames := 0, cells := 0, slots := 0, locals := 0 })).room s m ([.ref rF, .int p0, .ref rT, .int p1, .int p2] : List Value).toArray below meth c H locs 0 0 (MQ below (va_Qv (fun (_ : Nat) => True) (fun (_ : Nat) (t : State) => ∃ (nfT : Nat → Int32), (CopyOk fF fT p0.toNatClampNeg p1.toNatClampNeg p2.toNatClampNeg nfT) ∧ Bw dC dI A [(rF, .inl (kF, 90, .inl fF)), (rT, .inl (kT, 270, .inl nfT))] [(kF, .int), (kT, .int)] t) A) ([.ref rF, .int p0, .ref rT, .int p1, .int p2] : List Value).toArray s 0 0 A) (F0 m 3 ls []) := by
    intro n_1577
    induction n_1577 with
    | zero => intro z_1575 f_1576 H locs ls hi0_n_1577 hi1_n_1577 hm; exact absurd hm (by omega)
    | succ n_1577 ih_n_1577 =>
      intro z_1575 f_1576 H locs ls hi0_n_1577 hi1_n_1577 hm hP hD hS hl
      have rg_z_1575 := fb_rng z_1575
      refine lv_iload hx hb dX7_copy_3 (lv_at hl 0 rfl) ?_
      refine lv_iload hx hb dX7_copy_5 (lv_at hl 5 rfl) ?_
      refine lv_icmp_ge (tgt := 28) hx hb dX7_copy_7 (by decide) (fun c_1578 => ?_) (fun c_1578 => ?_)
      · skip
        have gc_1578 := ti_le c_1578 rfl rfl
        have hP9 := hP.sub (ws' := [(rF, .inl (kF, 90, .inl fF)), (rT, .inl (kT, 270, .inl f_1576))]) [0, 1] rfl
        have hD9 := hD.sub (ws' := [(rF, .inl (kF, 90, .inl fF)), (rT, .inl (kT, 270, .inl f_1576))]) [0, 1] (by decide) rfl
        have hK9 := hK.sub (tys' := [(kF, .int), (kT, .int)]) [0, 1] rfl
        exact W.vret hx hb hr (fun t ht hW => ⟨⟨0, rfl, trivial, ⟨f_1576, (by rw [show p2.toNatClampNeg = z_1575.toNatClampNeg from by have q1 := ti_cl (x := z_1575) rfl (by omega); have q2 := ti_cl (x := p2) rfl (by omega); omega]; assumption), Bw.to hP9 hD9 hK9 ht hW⟩⟩, hS.F ht⟩) hS.2.2 dX7_copy_28
      · skip
        have gc_1578 := ti_nle c_1578 rfl rfl
        refine lv_aload_n hx hb dX7_copy_10 rfl (lv_at hl 3 rfl) ?_
        refine lv_iload_n hx hb dX7_copy_11 rfl (lv_at hl 4 rfl) ?_
        refine lv_iload hx hb dX7_copy_12 (lv_at hl 0 rfl) ?_
        refine lv_iadd hx hb dX7_copy_14 ?_
        refine lv_topi (fun x_1579 ex_1579 => ?_)
        have vx_1579 : x_1579.toInt = p1.toInt + z_1575.toInt := by have q := ti_add ex_1579 rfl rfl (by omega) (by omega); omega
        refine lv_aload_n hx hb dX7_copy_15 rfl (lv_at hl 1 rfl) ?_
        refine lv_iload_n hx hb dX7_copy_16 rfl (lv_at hl 2 rfl) ?_
        refine lv_iload hx hb dX7_copy_17 (lv_at hl 0 rfl) ?_
        refine lv_iadd hx hb dX7_copy_19 ?_
        refine lv_topi (fun x_1580 ex_1580 => ?_)
        have vx_1580 : x_1580.toInt = p0.toInt + z_1575.toInt := by have q := ti_add ex_1580 rfl rfl (by omega) (by omega); omega
        refine va_iald hx hb hK hP 0 0 rfl rfl (ti_in vx_1580 (by omega) (by omega)) dX7_copy_20 ?_
        refine lv_topi (fun x_1581 ex_1581 => ?_)
        have rg_x_1581 := fb_rng x_1581
        have kx_1581 : (fF x_1580.toNatClampNeg).toInt = x_1581.toInt := by rw [ex_1581]
        have cx_1581 : (fF (p0.toNatClampNeg + z_1575.toNatClampNeg)).toInt = x_1581.toInt := by rw [show p0.toNatClampNeg + z_1575.toNatClampNeg = x_1580.toNatClampNeg from by have q9 := ti_cl (x := x_1580) vx_1580 (by omega); have q_p0 := ti_cl (x := p0) rfl (by omega); have q_z_1575 := ti_cl (x := z_1575) rfl (by omega); omega]; exact kx_1581
        refine va_iast hx hb hK hP hD hS 1 1 rfl rfl (ti_in vx_1579 (by omega) (by omega)) dX7_copy_21 (fun H locs hP hD hS => ?_)
        obtain ⟨f_1582, ef_1582⟩ : ∃ g : Nat → Int32, g = upd f_1576 x_1579.toNatClampNeg x_1581 := ⟨_, rfl⟩
        rw [← ef_1582] at hP hD
        have hP : va_P (dC, dI) vwCl [(rF, .inl (kF, 90, .inl fF)), (rT, .inl (kT, 270, .inl f_1582))] H := hP
        have hD : va_D A [(rF, .inl (kF, 90, .inl fF)), (rT, .inl (kT, 270, .inl f_1582))] := hD
        obtain ⟨x_1583, ex_1583⟩ : ∃ z : Int32, z = z_1575 + Int32.ofInt 1 := ⟨_, rfl⟩
        have vx_1583 : x_1583.toInt = z_1575.toInt + 1 := by have q := ti_add (y := 1) ex_1583 rfl kc_1 (by omega) (by omega); omega
        refine lv_iinc (v := x_1583) (lv' := [(5, .int x_1583), (0, .ref rF), (1, .int p0), (2, .ref rT), (3, .int p1), (4, .int p2)]) hx hb dX7_copy_22 hl (k := 0) rfl ex_1583.symm (by decide) rfl (fun ls hl => ?_)
        refine lv_goto (tgt := 3) hx hb dX7_copy_25 (by decide) ?_
        exact ih_n_1577 x_1583 f_1582 _ _ _  (by first | omega | decide | assumption) (copy_step hi1_n_1577 ef_1582 (by have q1 := ti_cl (x := x_1579) vx_1579 (by omega); have q2 := ti_cl (x := p1) rfl (by omega); have q3 := ti_cl (x := z_1575) rfl (by omega); omega) (by have q := cx_1581; omega) (by have q1 := ti_cl (x := x_1583) vx_1583 (by omega); have q3 := ti_cl (x := z_1575) rfl (by omega); omega)) (by omega) (hP.sub [0, 1] rfl) (hD.sub [0, 1] (by decide) rfl) hS (lv_sub hl [0, 1, 2, 3, 4, 5] rfl)
  exact key_n_1577 (((p2.toInt - (0 : Int32).toInt).toNat) + 1) 0 fT _ _ _  (by first | omega | decide | assumption | (have q0 := kc_0; have q1 := kc_1; omega) | exact copy_zero) (by first | omega | decide | assumption | (have q0 := kc_0; have q1 := kc_1; omega) | exact copy_zero) (by omega) hP hD hS hl
set_option maxHeartbeats 4000000 in
set_option maxRecDepth 100000 in
theorem tX7_copy_270_90 (l : Launch) (dC : Nat → ClassId) (dI : Nat → Nat → Nat) (sz : Nat) (rF : Nat) (fF : Nat → Int32) (kF : ClassId) (rT : Nat) (fT : Nat → Int32) (kT : ClassId) (p0 : Int32) (p1 : Int32) (p2 : Int32)  (hc0 : 0 ≤ p0.toInt ∧ 0 ≤ p1.toInt ∧ 0 ≤ p2.toInt) (hc1 : p0.toInt + p2.toInt ≤ 270) (hc2 : p1.toInt + p2.toInt ≤ 90) : Met l yX7_copy (Cond.code yX7_copy cX7_copy 6 none :: wG) ({ frames := 0, cells := 0, slots := 0, locals := 0 }) (va_Pc [.ref rF, .int p0, .ref rT, .int p1, .int p2] (Pw dC dI sz [(rF, .inl (kF, 270, .inl fF)), (rT, .inl (kT, 90, .inl fT))] [(kF, .int), (kT, .int)])) (va_Qv (fun (_ : Nat) => True) (fun (_ : Nat) (t : State) => ∃ (nfT : Nat → Int32), (CopyOk fF fT p0.toNatClampNeg p1.toNatClampNeg p2.toNatClampNeg nfT) ∧ Bw dC dI (va_A [(rF, .inl (kF, 270, .inl fF)), (rT, .inl (kT, 90, .inl fT))] sz) [(rF, .inl (kF, 270, .inl fF)), (rT, .inl (kT, 90, .inl nfT))] [(kF, .int), (kT, .int)] t) (va_A [(rF, .inl (kF, 270, .inl fF)), (rT, .inl (kT, 90, .inl fT))] sz)) 0 0 (va_A [(rF, .inl (kF, 270, .inl fF)), (rT, .inl (kT, 90, .inl fT))] sz) := by
  refine Met.ofW (cc := cX7_copy) (maxL := 6) (ret := none) (by decide) rfl ?_
  intro p e s m args below meth c s₁ B hml hv
  obtain ⟨rfl, hsz, hP, hK, hD0, hE⟩ := hv
  have hx := B.exec
  have hb := B.bytes
  have hr := B.returns
  have hts : ∀ w ∈ wG, w.before ([.ref rF, .int p0, .ref rT, .int p1, .int p2] : List Value).toArray s = true := fun w h => atoms_spec (ws := Cond.code yX7_copy cX7_copy 6 none :: wG) B.pre w (List.mem_cons_of_mem _ h)
  have hown : s.vm.findClass RX7 = some m.cls := findClass_of_methodNamed B.named
  have hlocks := B.notSynchronized
  subst hsz
  have hD := hD0.self (sz := s.heap.size)
  generalize hAe : va_A [(rF, .inl (kF, 270, .inl fF)), (rT, .inl (kT, 90, .inl fT))] s.heap.size = A at hD hE ⊢
  have hA : ∀ q : Nat, s.heap.size ≤ q → A q := fun q h => by rw [← hAe]; exact Or.inr h
  have hS : va_S A s.heap s.heap [] := va_S.rf
  have hl := lv_entry ([.ref rF, .int p0, .ref rT, .int p1, .int p2]) (n := 6) (Nat.le_of_ble_eq_true rfl)
  rw [lg_entry_eq]
  generalize (lg_sl ([.ref rF, .int p0, .ref rT, .int p1, .int p2]) ++ List.replicate (6 - (lg_sl ([.ref rF, .int p0, .ref rT, .int p1, .int p2])).length) Slot.unset).toArray = ls at hl ⊢
  have hl : lv_has ls 6 [(0, .ref rF), (1, .int p0), (2, .ref rT), (3, .int p1), (4, .int p2)] := hl
  have rg_p0 := fb_rng p0
  have rg_p1 := fb_rng p1
  have rg_p2 := fb_rng p2
  refine lv_iconst (v := 0) hx hb dX7_copy_0 (by decide) ?_
  refine lv_istore (lv' := [(5, .int 0), (0, .ref rF), (1, .int p0), (2, .ref rT), (3, .int p1), (4, .int p2)]) hx hb dX7_copy_1 hl (by decide) rfl (fun ls hl => ?_)
  have hl := lv_sub hl (l' := [(5, .int 0), (0, .ref rF), (1, .int p0), (2, .ref rT), (3, .int p1), (4, .int p2)]) [0, 1, 2, 3, 4, 5] rfl
  have key_n_1595 : ∀ (n_1595 : Nat) (z_1593 : Int32) (f_1594 : Nat → Int32) (H : Heap) (locs : List Loc) (ls : Array Slot), (0 ≤ z_1593.toInt ∧ z_1593.toInt ≤ p2.toInt) → (CopyOk fF fT p0.toNatClampNeg p1.toNatClampNeg z_1593.toNatClampNeg f_1594) → (p2.toInt - z_1593.toInt).toNat < n_1595 → va_P (dC, dI) vwCl [(rF, .inl (kF, 270, .inl fF)), (rT, .inl (kT, 90, .inl f_1594))] H → va_D A [(rF, .inl (kF, 270, .inl fF)), (rT, .inl (kT, 90, .inl f_1594))] → va_S A s.heap H locs → lv_has ls 6 [(5, .int z_1593), (0, .ref rF), (1, .int p0), (2, .ref rT), (3, .int p1), (4, .int p2)] → W p l e (headSpec (Cond.code yX7_copy cX7_copy 6 none :: wG) ({ frames := 0, cells := 0, slots := 0, locals := 0 })).room s m ([.ref rF, .int p0, .ref rT, .int p1, .int p2] : List Value).toArray below meth c H locs 0 0 (MQ below (va_Qv (fun (_ : Nat) => True) (fun (_ : Nat) (t : State) => ∃ (nfT : Nat → Int32), (CopyOk fF fT p0.toNatClampNeg p1.toNatClampNeg p2.toNatClampNeg nfT) ∧ Bw dC dI A [(rF, .inl (kF, 270, .inl fF)), (rT, .inl (kT, 90, .inl nfT))] [(kF, .int), (kT, .int)] t) A) ([.ref rF, .int p0, .ref rT, .int p1, .int p2] : List Value).toArray s 0 0 A) (F0 m 3 ls []) := by
    intro n_1595
    induction n_1595 with
    | zero => intro z_1593 f_1594 H locs ls hi0_n_1595 hi1_n_1595 hm; exact absurd hm (by omega)
    | succ n_1595 ih_n_1595 =>
      intro z_1593 f_1594 H locs ls hi0_n_1595 hi1_n_1595 hm hP hD hS hl
      have rg_z_1593 := fb_rng z_1593
      refine lv_iload hx hb dX7_copy_3 (lv_at hl 0 rfl) ?_
      refine lv_iload hx hb dX7_copy_5 (lv_at hl 5 rfl) ?_
      refine lv_icmp_ge (tgt := 28) hx hb dX7_copy_7 (by decide) (fun c_1596 => ?_) (fun c_1596 => ?_)
      · skip
        have gc_1596 := ti_le c_1596 rfl rfl
        have hP9 := hP.sub (ws' := [(rF, .inl (kF, 270, .inl fF)), (rT, .inl (kT, 90, .inl f_1594))]) [0, 1] rfl
        have hD9 := hD.sub (ws' := [(rF, .inl (kF, 270, .inl fF)), (rT, .inl (kT, 90, .inl f_1594))]) [0, 1] (by decide) rfl
        have hK9 := hK.sub (tys' := [(kF, .int), (kT, .int)]) [0, 1] rfl
        exact W.vret hx hb hr (fun t ht hW => ⟨⟨0, rfl, trivial, ⟨f_1594, (by rw [show p2.toNatClampNeg = z_1593.toNatClampNeg from by have q1 := ti_cl (x := z_1593) rfl (by omega); have q2 := ti_cl (x := p2) rfl (by omega); omega]; assumption), Bw.to hP9 hD9 hK9 ht hW⟩⟩, hS.F ht⟩) hS.2.2 dX7_copy_28
      · skip
        have gc_1596 := ti_nle c_1596 rfl rfl
        refine lv_aload_n hx hb dX7_copy_10 rfl (lv_at hl 3 rfl) ?_
        refine lv_iload_n hx hb dX7_copy_11 rfl (lv_at hl 4 rfl) ?_
        refine lv_iload hx hb dX7_copy_12 (lv_at hl 0 rfl) ?_
        refine lv_iadd hx hb dX7_copy_14 ?_
        refine lv_topi (fun x_1597 ex_1597 => ?_)
        have vx_1597 : x_1597.toInt = p1.toInt + z_1593.toInt := by have q := ti_add ex_1597 rfl rfl (by omega) (by omega); omega
        refine lv_aload_n hx hb dX7_copy_15 rfl (lv_at hl 1 rfl) ?_
        refine lv_iload_n hx hb dX7_copy_16 rfl (lv_at hl 2 rfl) ?_
        refine lv_iload hx hb dX7_copy_17 (lv_at hl 0 rfl) ?_
        refine lv_iadd hx hb dX7_copy_19 ?_
        refine lv_topi (fun x_1598 ex_1598 => ?_)
        have vx_1598 : x_1598.toInt = p0.toInt + z_1593.toInt := by have q := ti_add ex_1598 rfl rfl (by omega) (by omega); omega
        refine va_iald hx hb hK hP 0 0 rfl rfl (ti_in vx_1598 (by omega) (by omega)) dX7_copy_20 ?_
        refine lv_topi (fun x_1599 ex_1599 => ?_)
        have rg_x_1599 := fb_rng x_1599
        have kx_1599 : (fF x_1598.toNatClampNeg).toInt = x_1599.toInt := by rw [ex_1599]
        have cx_1599 : (fF (p0.toNatClampNeg + z_1593.toNatClampNeg)).toInt = x_1599.toInt := by rw [show p0.toNatClampNeg + z_1593.toNatClampNeg = x_1598.toNatClampNeg from by have q9 := ti_cl (x := x_1598) vx_1598 (by omega); have q_p0 := ti_cl (x := p0) rfl (by omega); have q_z_1593 := ti_cl (x := z_1593) rfl (by omega); omega]; exact kx_1599
        refine va_iast hx hb hK hP hD hS 1 1 rfl rfl (ti_in vx_1597 (by omega) (by omega)) dX7_copy_21 (fun H locs hP hD hS => ?_)
        obtain ⟨f_1600, ef_1600⟩ : ∃ g : Nat → Int32, g = upd f_1594 x_1597.toNatClampNeg x_1599 := ⟨_, rfl⟩
        rw [← ef_1600] at hP hD
        have hP : va_P (dC, dI) vwCl [(rF, .inl (kF, 270, .inl fF)), (rT, .inl (kT, 90, .inl f_1600))] H := hP
        have hD : va_D A [(rF, .inl (kF, 270, .inl fF)), (rT, .inl (kT, 90, .inl f_1600))] := hD
        obtain ⟨x_1601, ex_1601⟩ : ∃ z : Int32, z = z_1593 + Int32.ofInt 1 := ⟨_, rfl⟩
        have vx_1601 : x_1601.toInt = z_1593.toInt + 1 := by have q := ti_add (y := 1) ex_1601 rfl kc_1 (by omega) (by omega); omega
        refine lv_iinc (v := x_1601) (lv' := [(5, .int x_1601), (0, .ref rF), (1, .int p0), (2, .ref rT), (3, .int p1), (4, .int p2)]) hx hb dX7_copy_22 hl (k := 0) rfl ex_1601.symm (by decide) rfl (fun ls hl => ?_)
        refine lv_goto (tgt := 3) hx hb dX7_copy_25 (by decide) ?_
        exact ih_n_1595 x_1601 f_1600 _ _ _  (by first | omega | decide | assumption) (copy_step hi1_n_1595 ef_1600 (by have q1 := ti_cl (x := x_1597) vx_1597 (by omega); have q2 := ti_cl (x := p1) rfl (by omega); have q3 := ti_cl (x := z_1593) rfl (by omega); omega) (by have q := cx_1599; omega) (by have q1 := ti_cl (x := x_1601) vx_1601 (by omega); have q3 := ti_cl (x := z_1593) rfl (by omega); omega)) (by omega) (hP.sub [0, 1] rfl) (hD.sub [0, 1] (by decide) rfl) hS (lv_sub hl [0, 1, 2, 3, 4, 5] rfl)
  exact key_n_1595 (((p2.toInt - (0 : Int32).toInt).toNat) + 1) 0 fT _ _ _  (by first | omega | decide | assumption | (have q0 := kc_0; have q1 := kc_1; omega) | exact copy_zero) (by first | omega | decide | assumption | (have q0 := kc_0; have q1 := kc_1; omega) | exact copy_zero) (by omega) hP hD hS hl
