set_option maxHeartbeats 4000000 in
set_option maxRecDepth 100000 in
theorem tX7_in (l : Launch) (dC : Nat → ClassId) (dI : Nat → Nat → Nat) (sz : Nat) (p0 : Int32) (p1 : Int32) (p2 : Int32)  : Met l yX7_in (Cond.code yX7_in cX7_in 3 (some .boolean) :: wG) ({ frames := 0, cells := 0, slots := 0, locals := 0 }) (va_Pc [.int p0, .int p1, .int p2] (Pw dC dI sz [] [])) (va_Qi (fun (r : Int32) (_ : Nat) => ((r = 0 ∨ r = 1) ∧ ((r.toInt = 1 ∧ p1.toInt ≤ p0.toInt ∧ p0.toInt ≤ p2.toInt) ∨ (r.toInt = 0 ∧ (p0.toInt < p1.toInt ∨ p2.toInt < p0.toInt)))) ∧ PX7_in p0 p1 p2 = r) (fun (_ : Nat) (_ : State) => True) (va_A [] sz)) 0 0 (va_A [] sz) := by
  refine Met.ofW (cc := cX7_in) (maxL := 3) (ret := (some .boolean)) pnX7 rfl ?_
  intro p e s m args below meth c s₁ B hml hv
  obtain ⟨rfl, hsz, hP, hK, hD0, hE⟩ := hv
  have hx := B.exec
  have hb := B.bytes
  have hr := B.returns
  have hts : ∀ w ∈ wG, w.before ([.int p0, .int p1, .int p2] : List Value).toArray s = true := fun w h => atoms_spec (ws := Cond.code yX7_in cX7_in 3 (some .boolean) :: wG) B.pre w (List.mem_cons_of_mem _ h)
  have hown : s.vm.findClass RX7 = some m.cls := own_of B.named rfl
  have hlocks := B.notSynchronized
  subst hsz
  generalize hAe : va_A [] s.heap.size = A at hE ⊢
  have hA : ∀ q : Nat, s.heap.size ≤ q → A q := fun q h => by rw [← hAe]; exact Or.inr h
  have hS : va_S A s.heap s.heap [] := va_S.rf
  have hl := lv_entry ([.int p0, .int p1, .int p2]) (n := 3) (Nat.le_of_ble_eq_true rfl)
  rw [lg_entry_eq]
  generalize (lg_sl ([.int p0, .int p1, .int p2]) ++ List.replicate (3 - (lg_sl ([.int p0, .int p1, .int p2])).length) Slot.unset).toArray = ls at hl ⊢
  have hl : lv_has ls 3 [(0, .int p0), (1, .int p1), (2, .int p2)] := hl
  have hG := PX7_in_eq p0 p1 p2
  refine lv_iload_n hx hb dX7_in_0 rfl (lv_at hl 0 rfl) ?_
  refine lv_iload_n hx hb dX7_in_1 rfl (lv_at hl 1 rfl) ?_
  refine lv_icmp_lt (tgt := 14) hx hb dX7_in_2 (by decide) (fun c_1 => ?_) (fun c_1 => ?_)
  · skip
    have hG := hG.trans (if_pos c_1)
    have gc_1 := ti_lt c_1 rfl rfl
    refine lv_iconst (v := 0) hx hb dX7_in_14 (by decide) ?_
    exact wq_z (v := 0) hx hb hr rfl 0 ⟨⟨Or.inl rfl, (by have q0 := kc_0; have q1 := kc_1; omega)⟩, hG⟩ (fun t ht hW => trivial) hS dX7_in_15 hlocks
  · skip
    have hG := hG.trans (if_neg c_1)
    have gc_1 := ti_nlt c_1 rfl rfl
    refine lv_iload_n hx hb dX7_in_5 rfl (lv_at hl 0 rfl) ?_
    refine lv_iload_n hx hb dX7_in_6 rfl (lv_at hl 2 rfl) ?_
    refine lv_icmp_gt (tgt := 14) hx hb dX7_in_7 (by decide) (fun c_2 => ?_) (fun c_2 => ?_)
    · skip
      have hG := hG.trans (if_pos c_2)
      have gc_2 := ti_lt c_2 rfl rfl
      refine lv_iconst (v := 0) hx hb dX7_in_14 (by decide) ?_
      exact wq_z (v := 0) hx hb hr rfl 0 ⟨⟨Or.inl rfl, (by have q0 := kc_0; have q1 := kc_1; omega)⟩, hG⟩ (fun t ht hW => trivial) hS dX7_in_15 hlocks
    · skip
      have hG := hG.trans (if_neg c_2)
      have gc_2 := ti_nlt c_2 rfl rfl
      refine lv_iconst (v := 1) hx hb dX7_in_10 (by decide) ?_
      refine lv_goto (tgt := 15) hx hb dX7_in_11 (by decide) ?_
      exact wq_z (v := 1) hx hb hr rfl 0 ⟨⟨Or.inr rfl, (by have q0 := kc_0; have q1 := kc_1; omega)⟩, hG⟩ (fun t ht hW => trivial) hS dX7_in_15 hlocks
set_option maxHeartbeats 4000000 in
set_option maxRecDepth 100000 in
theorem tX7_hasBit (l : Launch) (dC : Nat → ClassId) (dI : Nat → Nat → Nat) (sz : Nat) (p0 : Int32) (p1 : Int32)  : Met l yX7_hasBit (Cond.code yX7_hasBit cX7_hasBit 2 (some .boolean) :: wG) ({ frames := 0, cells := 0, slots := 0, locals := 0 }) (va_Pc [.int p0, .int p1] (Pw dC dI sz [] [])) (va_Qi (fun (r : Int32) (_ : Nat) => ((r = 0 ∨ r = 1) ∧ ((r = 1 ∧ tb p0 p1) ∨ (r = 0 ∧ ¬ tb p0 p1))) ∧ PX7_hasBit p0 p1 = r) (fun (_ : Nat) (_ : State) => True) (va_A [] sz)) 0 0 (va_A [] sz) := by
  refine Met.ofW (cc := cX7_hasBit) (maxL := 2) (ret := (some .boolean)) pnX7 rfl ?_
  intro p e s m args below meth c s₁ B hml hv
  obtain ⟨rfl, hsz, hP, hK, hD0, hE⟩ := hv
  have hx := B.exec
  have hb := B.bytes
  have hr := B.returns
  have hts : ∀ w ∈ wG, w.before ([.int p0, .int p1] : List Value).toArray s = true := fun w h => atoms_spec (ws := Cond.code yX7_hasBit cX7_hasBit 2 (some .boolean) :: wG) B.pre w (List.mem_cons_of_mem _ h)
  have hown : s.vm.findClass RX7 = some m.cls := own_of B.named rfl
  have hlocks := B.notSynchronized
  subst hsz
  generalize hAe : va_A [] s.heap.size = A at hE ⊢
  have hA : ∀ q : Nat, s.heap.size ≤ q → A q := fun q h => by rw [← hAe]; exact Or.inr h
  have hS : va_S A s.heap s.heap [] := va_S.rf
  have hl := lv_entry ([.int p0, .int p1]) (n := 2) (Nat.le_of_ble_eq_true rfl)
  rw [lg_entry_eq]
  generalize (lg_sl ([.int p0, .int p1]) ++ List.replicate (2 - (lg_sl ([.int p0, .int p1])).length) Slot.unset).toArray = ls at hl ⊢
  have hl : lv_has ls 2 [(0, .int p0), (1, .int p1)] := hl
  have hG := PX7_hasBit_eq p0 p1
  refine lv_iload_n hx hb dX7_hasBit_0 rfl (lv_at hl 0 rfl) ?_
  refine lv_iload_n hx hb dX7_hasBit_1 rfl (lv_at hl 1 rfl) ?_
  refine lv_ishr hx hb dX7_hasBit_2 ?_
  refine lv_topi (fun x_3 ex_3 => ?_)
  have hG := hG.trans (lt_eq ex_3)
  refine lv_iconst (v := 1) hx hb dX7_hasBit_3 (by decide) ?_
  refine lv_iand hx hb dX7_hasBit_4 ?_
  refine lv_topi (fun x_4 ex_4 => ?_)
  have hG := hG.trans (lt_eq ex_4)
  refine lv_iconst (v := 1) hx hb dX7_hasBit_5 (by decide) ?_
  refine lv_icmp_ne (tgt := 13) hx hb dX7_hasBit_6 (by decide) (fun c_5 => ?_) (fun c_5 => ?_)
  · skip
    have hG := hG.trans (if_neg c_5)
    have gc_5 := ti_ne c_5 rfl kc_1
    refine lv_iconst (v := 0) hx hb dX7_hasBit_13 (by decide) ?_
    exact wq_z (v := 0) hx hb hr rfl 0 ⟨⟨Or.inl rfl, Or.inr ⟨rfl, fun h => c_5 (by rw [ex_4, ex_3]; exact h)⟩⟩, hG⟩ (fun t ht hW => trivial) hS dX7_hasBit_14 hlocks
  · skip
    have hG := hG.trans (if_pos c_5)
    have gc_5 := ti_eq c_5 rfl kc_1
    refine lv_iconst (v := 1) hx hb dX7_hasBit_9 (by decide) ?_
    refine lv_goto (tgt := 14) hx hb dX7_hasBit_10 (by decide) ?_
    exact wq_z (v := 1) hx hb hr rfl 0 ⟨⟨Or.inr rfl, Or.inl ⟨rfl, by have h := c_5; rw [ex_4, ex_3] at h; exact h⟩⟩, hG⟩ (fun t ht hW => trivial) hS dX7_hasBit_14 hlocks
set_option maxHeartbeats 4000000 in
set_option maxRecDepth 100000 in
theorem tX7_isSmall (l : Launch) (dC : Nat → ClassId) (dI : Nat → Nat → Nat) (sz : Nat) (p0 : Int32)  : Met l yX7_isSmall (Cond.code yX7_isSmall cX7_isSmall 1 (some .boolean) :: wG) ({ frames := 0, cells := 0, slots := 0, locals := 0 }) (va_Pc [.int p0] (Pw dC dI sz [] [])) (va_Qi (fun (r : Int32) (_ : Nat) => (r = 0 ∨ r = 1) ∧ True) (fun (_ : Nat) (_ : State) => True) (va_A [] sz)) 0 0 (va_A [] sz) := by
  refine Met.ofW (cc := cX7_isSmall) (maxL := 1) (ret := (some .boolean)) pnX7 rfl ?_
  intro p e s m args below meth c s₁ B hml hv
  obtain ⟨rfl, hsz, hP, hK, hD0, hE⟩ := hv
  have hx := B.exec
  have hb := B.bytes
  have hr := B.returns
  have hts : ∀ w ∈ wG, w.before ([.int p0] : List Value).toArray s = true := fun w h => atoms_spec (ws := Cond.code yX7_isSmall cX7_isSmall 1 (some .boolean) :: wG) B.pre w (List.mem_cons_of_mem _ h)
  have hown : s.vm.findClass RX7 = some m.cls := own_of B.named rfl
  have hlocks := B.notSynchronized
  subst hsz
  generalize hAe : va_A [] s.heap.size = A at hE ⊢
  have hA : ∀ q : Nat, s.heap.size ≤ q → A q := fun q h => by rw [← hAe]; exact Or.inr h
  have hS : va_S A s.heap s.heap [] := va_S.rf
  have hl := lv_entry ([.int p0]) (n := 1) (Nat.le_of_ble_eq_true rfl)
  rw [lg_entry_eq]
  generalize (lg_sl ([.int p0]) ++ List.replicate (1 - (lg_sl ([.int p0])).length) Slot.unset).toArray = ls at hl ⊢
  have hl : lv_has ls 1 [(0, .int p0)] := hl
  refine lv_iload_n hx hb dX7_isSmall_0 rfl (lv_at hl 0 rfl) ?_
  refine lv_bipush (v := 97) hx hb dX7_isSmall_1 (by decide) ?_
  refine lv_icmp_lt (tgt := 16) hx hb dX7_isSmall_3 (by decide) (fun c_6 => ?_) (fun c_6 => ?_)
  · skip
    have gc_6 := ti_lt c_6 rfl kc_97
    refine lv_iconst (v := 0) hx hb dX7_isSmall_16 (by decide) ?_
    exact wq_z (v := 0) hx hb hr rfl 0 ⟨Or.inl rfl, trivial⟩ (fun t ht hW => trivial) hS dX7_isSmall_17 hlocks
  · skip
    have gc_6 := ti_nlt c_6 rfl kc_97
    refine lv_iload_n hx hb dX7_isSmall_6 rfl (lv_at hl 0 rfl) ?_
    refine lv_bipush (v := 122) hx hb dX7_isSmall_7 (by decide) ?_
    refine lv_icmp_gt (tgt := 16) hx hb dX7_isSmall_9 (by decide) (fun c_7 => ?_) (fun c_7 => ?_)
    · skip
      have gc_7 := ti_lt c_7 kc_122 rfl
      refine lv_iconst (v := 0) hx hb dX7_isSmall_16 (by decide) ?_
      exact wq_z (v := 0) hx hb hr rfl 0 ⟨Or.inl rfl, trivial⟩ (fun t ht hW => trivial) hS dX7_isSmall_17 hlocks
    · skip
      have gc_7 := ti_nlt c_7 kc_122 rfl
      refine lv_iconst (v := 1) hx hb dX7_isSmall_12 (by decide) ?_
      refine lv_goto (tgt := 17) hx hb dX7_isSmall_13 (by decide) ?_
      exact wq_z (v := 1) hx hb hr rfl 0 ⟨Or.inr rfl, trivial⟩ (fun t ht hW => trivial) hS dX7_isSmall_17 hlocks
set_option maxHeartbeats 4000000 in
set_option maxRecDepth 100000 in
theorem tX7_isDigit (l : Launch) (dC : Nat → ClassId) (dI : Nat → Nat → Nat) (sz : Nat) (p0 : Int32)  : Met l yX7_isDigit (Cond.code yX7_isDigit cX7_isDigit 1 (some .boolean) :: wG) ({ frames := 0, cells := 0, slots := 0, locals := 0 }) (va_Pc [.int p0] (Pw dC dI sz [] [])) (va_Qi (fun (r : Int32) (_ : Nat) => (r = 0 ∨ r = 1) ∧ True) (fun (_ : Nat) (_ : State) => True) (va_A [] sz)) 0 0 (va_A [] sz) := by
  refine Met.ofW (cc := cX7_isDigit) (maxL := 1) (ret := (some .boolean)) pnX7 rfl ?_
  intro p e s m args below meth c s₁ B hml hv
  obtain ⟨rfl, hsz, hP, hK, hD0, hE⟩ := hv
  have hx := B.exec
  have hb := B.bytes
  have hr := B.returns
  have hts : ∀ w ∈ wG, w.before ([.int p0] : List Value).toArray s = true := fun w h => atoms_spec (ws := Cond.code yX7_isDigit cX7_isDigit 1 (some .boolean) :: wG) B.pre w (List.mem_cons_of_mem _ h)
  have hown : s.vm.findClass RX7 = some m.cls := own_of B.named rfl
  have hlocks := B.notSynchronized
  subst hsz
  generalize hAe : va_A [] s.heap.size = A at hE ⊢
  have hA : ∀ q : Nat, s.heap.size ≤ q → A q := fun q h => by rw [← hAe]; exact Or.inr h
  have hS : va_S A s.heap s.heap [] := va_S.rf
  have hl := lv_entry ([.int p0]) (n := 1) (Nat.le_of_ble_eq_true rfl)
  rw [lg_entry_eq]
  generalize (lg_sl ([.int p0]) ++ List.replicate (1 - (lg_sl ([.int p0])).length) Slot.unset).toArray = ls at hl ⊢
  have hl : lv_has ls 1 [(0, .int p0)] := hl
  refine lv_iload_n hx hb dX7_isDigit_0 rfl (lv_at hl 0 rfl) ?_
  refine lv_bipush (v := 48) hx hb dX7_isDigit_1 (by decide) ?_
  refine lv_icmp_lt (tgt := 16) hx hb dX7_isDigit_3 (by decide) (fun c_8 => ?_) (fun c_8 => ?_)
  · skip
    have gc_8 := ti_lt c_8 rfl kc_48
    refine lv_iconst (v := 0) hx hb dX7_isDigit_16 (by decide) ?_
    exact wq_z (v := 0) hx hb hr rfl 0 ⟨Or.inl rfl, trivial⟩ (fun t ht hW => trivial) hS dX7_isDigit_17 hlocks
  · skip
    have gc_8 := ti_nlt c_8 rfl kc_48
    refine lv_iload_n hx hb dX7_isDigit_6 rfl (lv_at hl 0 rfl) ?_
    refine lv_bipush (v := 57) hx hb dX7_isDigit_7 (by decide) ?_
    refine lv_icmp_gt (tgt := 16) hx hb dX7_isDigit_9 (by decide) (fun c_9 => ?_) (fun c_9 => ?_)
    · skip
      have gc_9 := ti_lt c_9 kc_57 rfl
      refine lv_iconst (v := 0) hx hb dX7_isDigit_16 (by decide) ?_
      exact wq_z (v := 0) hx hb hr rfl 0 ⟨Or.inl rfl, trivial⟩ (fun t ht hW => trivial) hS dX7_isDigit_17 hlocks
    · skip
      have gc_9 := ti_nlt c_9 kc_57 rfl
      refine lv_iconst (v := 1) hx hb dX7_isDigit_12 (by decide) ?_
      refine lv_goto (tgt := 17) hx hb dX7_isDigit_13 (by decide) ?_
      exact wq_z (v := 1) hx hb hr rfl 0 ⟨Or.inr rfl, trivial⟩ (fun t ht hW => trivial) hS dX7_isDigit_17 hlocks
set_option maxHeartbeats 4000000 in
set_option maxRecDepth 100000 in
theorem tX7_speaksOf (l : Launch) (dC : Nat → ClassId) (dI : Nat → Nat → Nat) (sz : Nat) (p0 : Int32) (p1 : Int32) (p2 : Int32)  : Met l yX7_speaksOf (Cond.code yX7_speaksOf cX7_speaksOf 3 (some .int) :: wG) ({ frames := 0, cells := 0, slots := 0, locals := 0 }) (va_Pc [.int p0, .int p1, .int p2] (Pw dC dI sz [] [])) (va_Qi (fun (r : Int32) (_ : Nat) => (True ∧ True) ∧ PX7_speaksOf p0 p1 p2 = r) (fun (_ : Nat) (_ : State) => True) (va_A [] sz)) 0 0 (va_A [] sz) := by
  refine Met.ofW (cc := cX7_speaksOf) (maxL := 3) (ret := (some .int)) pnX7 rfl ?_
  intro p e s m args below meth c s₁ B hml hv
  obtain ⟨rfl, hsz, hP, hK, hD0, hE⟩ := hv
  have hx := B.exec
  have hb := B.bytes
  have hr := B.returns
  have hts : ∀ w ∈ wG, w.before ([.int p0, .int p1, .int p2] : List Value).toArray s = true := fun w h => atoms_spec (ws := Cond.code yX7_speaksOf cX7_speaksOf 3 (some .int) :: wG) B.pre w (List.mem_cons_of_mem _ h)
  have hown : s.vm.findClass RX7 = some m.cls := own_of B.named rfl
  have hlocks := B.notSynchronized
  subst hsz
  generalize hAe : va_A [] s.heap.size = A at hE ⊢
  have hA : ∀ q : Nat, s.heap.size ≤ q → A q := fun q h => by rw [← hAe]; exact Or.inr h
  have hS : va_S A s.heap s.heap [] := va_S.rf
  have hl := lv_entry ([.int p0, .int p1, .int p2]) (n := 3) (Nat.le_of_ble_eq_true rfl)
  rw [lg_entry_eq]
  generalize (lg_sl ([.int p0, .int p1, .int p2]) ++ List.replicate (3 - (lg_sl ([.int p0, .int p1, .int p2])).length) Slot.unset).toArray = ls at hl ⊢
  have hl : lv_has ls 3 [(0, .int p0), (1, .int p1), (2, .int p2)] := hl
  have hG := PX7_speaksOf_eq p0 p1 p2
  refine lv_iload_n hx hb dX7_speaksOf_0 rfl (lv_at hl 1 rfl) ?_
  refine lv_if_eq (tgt := 18) hx hb dX7_speaksOf_1 (by decide) (fun c_10 => ?_) (fun c_10 => ?_)
  · skip
    have hG := hG.trans (if_pos c_10)
    have gc_10 := ti_eq c_10 rfl kc_0
    refine lv_iload_n hx hb dX7_speaksOf_18 rfl (lv_at hl 2 rfl) ?_
    refine lv_if_eq (tgt := 27) hx hb dX7_speaksOf_19 (by decide) (fun c_11 => ?_) (fun c_11 => ?_)
    · skip
      have hG := hG.trans (if_pos c_11)
      have gc_11 := ti_eq c_11 rfl kc_0
      refine lv_iconst (v := 1) hx hb dX7_speaksOf_27 (by decide) ?_
      exact wq_i hx hb hr 0 ⟨⟨trivial, trivial⟩, hG⟩ (fun t ht hW => trivial) hS dX7_speaksOf_28 hlocks
    · skip
      have hG := hG.trans (if_neg c_11)
      have gc_11 := ti_ne c_11 rfl kc_0
      refine lv_iload_n hx hb dX7_speaksOf_22 rfl (lv_at hl 0 rfl) ?_
      refine lv_ineg hx hb dX7_speaksOf_23 ?_
      refine lv_topi (fun x_12 ex_12 => ?_)
      have hG := hG.trans (lt_eq ex_12)
      refine lv_goto (tgt := 28) hx hb dX7_speaksOf_24 (by decide) ?_
      exact wq_i hx hb hr 0 ⟨⟨trivial, trivial⟩, hG⟩ (fun t ht hW => trivial) hS dX7_speaksOf_28 hlocks
  · skip
    have hG := hG.trans (if_neg c_10)
    have gc_10 := ti_ne c_10 rfl kc_0
    refine lv_iload_n hx hb dX7_speaksOf_4 rfl (lv_at hl 2 rfl) ?_
    refine lv_if_eq (tgt := 14) hx hb dX7_speaksOf_5 (by decide) (fun c_13 => ?_) (fun c_13 => ?_)
    · skip
      have hG := hG.trans (if_pos c_13)
      have gc_13 := ti_eq c_13 rfl kc_0
      refine lv_iconst (v := 5) hx hb dX7_speaksOf_14 (by decide) ?_
      refine lv_goto (tgt := 28) hx hb dX7_speaksOf_15 (by decide) ?_
      exact wq_i hx hb hr 0 ⟨⟨trivial, trivial⟩, hG⟩ (fun t ht hW => trivial) hS dX7_speaksOf_28 hlocks
    · skip
      have hG := hG.trans (if_neg c_13)
      have gc_13 := ti_ne c_13 rfl kc_0
      refine lv_iconst (v := 2) hx hb dX7_speaksOf_8 (by decide) ?_
      refine lv_iload_n hx hb dX7_speaksOf_9 rfl (lv_at hl 0 rfl) ?_
      refine lv_isub hx hb dX7_speaksOf_10 ?_
      refine lv_topi (fun x_14 ex_14 => ?_)
      have hG := hG.trans (lt_eq ex_14)
      refine lv_goto (tgt := 28) hx hb dX7_speaksOf_11 (by decide) ?_
      exact wq_i hx hb hr 0 ⟨⟨trivial, trivial⟩, hG⟩ (fun t ht hW => trivial) hS dX7_speaksOf_28 hlocks
set_option maxHeartbeats 4000000 in
set_option maxRecDepth 100000 in
theorem tX3_isLetter (l : Launch) (dC : Nat → ClassId) (dI : Nat → Nat → Nat) (sz : Nat) (p0 : Int32)  : Met l yX3_isLetter (Cond.code yX3_isLetter cX3_isLetter 1 (some .boolean) :: wG) ({ frames := 0, cells := 0, slots := 0, locals := 0 }) (va_Pc [.int p0] (Pw dC dI sz [] [])) (va_Qi (fun (r : Int32) (_ : Nat) => ((r = 0 ∨ r = 1) ∧ True) ∧ PX3_isLetter p0 = r) (fun (_ : Nat) (_ : State) => True) (va_A [] sz)) 0 0 (va_A [] sz) := by
  refine Met.ofW (cc := cX3_isLetter) (maxL := 1) (ret := (some .boolean)) pnX3 rfl ?_
  intro p e s m args below meth c s₁ B hml hv
  obtain ⟨rfl, hsz, hP, hK, hD0, hE⟩ := hv
  have hx := B.exec
  have hb := B.bytes
  have hr := B.returns
  have hts : ∀ w ∈ wG, w.before ([.int p0] : List Value).toArray s = true := fun w h => atoms_spec (ws := Cond.code yX3_isLetter cX3_isLetter 1 (some .boolean) :: wG) B.pre w (List.mem_cons_of_mem _ h)
  have hown : s.vm.findClass RX3 = some m.cls := own_of B.named rfl
  have hlocks := B.notSynchronized
  subst hsz
  generalize hAe : va_A [] s.heap.size = A at hE ⊢
  have hA : ∀ q : Nat, s.heap.size ≤ q → A q := fun q h => by rw [← hAe]; exact Or.inr h
  have hS : va_S A s.heap s.heap [] := va_S.rf
  have hl := lv_entry ([.int p0]) (n := 1) (Nat.le_of_ble_eq_true rfl)
  rw [lg_entry_eq]
  generalize (lg_sl ([.int p0]) ++ List.replicate (1 - (lg_sl ([.int p0])).length) Slot.unset).toArray = ls at hl ⊢
  have hl : lv_has ls 1 [(0, .int p0)] := hl
  have hG := PX3_isLetter_eq p0
  refine lv_iload_n hx hb dX3_isLetter_0 rfl (lv_at hl 0 rfl) ?_
  refine lv_bipush (v := 97) hx hb dX3_isLetter_1 (by decide) ?_
  refine lv_icmp_lt (tgt := 16) hx hb dX3_isLetter_3 (by decide) (fun c_15 => ?_) (fun c_15 => ?_)
  · skip
    have hG := hG.trans (if_pos c_15)
    have gc_15 := ti_lt c_15 rfl kc_97
    refine lv_iconst (v := 0) hx hb dX3_isLetter_16 (by decide) ?_
    exact wq_z (v := 0) hx hb hr rfl 0 ⟨⟨Or.inl rfl, trivial⟩, hG⟩ (fun t ht hW => trivial) hS dX3_isLetter_17 hlocks
  · skip
    have hG := hG.trans (if_neg c_15)
    have gc_15 := ti_nlt c_15 rfl kc_97
    refine lv_iload_n hx hb dX3_isLetter_6 rfl (lv_at hl 0 rfl) ?_
    refine lv_bipush (v := 122) hx hb dX3_isLetter_7 (by decide) ?_
    refine lv_icmp_gt (tgt := 16) hx hb dX3_isLetter_9 (by decide) (fun c_16 => ?_) (fun c_16 => ?_)
    · skip
      have hG := hG.trans (if_pos c_16)
      have gc_16 := ti_lt c_16 kc_122 rfl
      refine lv_iconst (v := 0) hx hb dX3_isLetter_16 (by decide) ?_
      exact wq_z (v := 0) hx hb hr rfl 0 ⟨⟨Or.inl rfl, trivial⟩, hG⟩ (fun t ht hW => trivial) hS dX3_isLetter_17 hlocks
    · skip
      have hG := hG.trans (if_neg c_16)
      have gc_16 := ti_nlt c_16 kc_122 rfl
      refine lv_iconst (v := 1) hx hb dX3_isLetter_12 (by decide) ?_
      refine lv_goto (tgt := 17) hx hb dX3_isLetter_13 (by decide) ?_
      exact wq_z (v := 1) hx hb hr rfl 0 ⟨⟨Or.inr rfl, trivial⟩, hG⟩ (fun t ht hW => trivial) hS dX3_isLetter_17 hlocks
set_option maxHeartbeats 4000000 in
set_option maxRecDepth 100000 in
theorem tX3_isDigit (l : Launch) (dC : Nat → ClassId) (dI : Nat → Nat → Nat) (sz : Nat) (p0 : Int32)  : Met l yX3_isDigit (Cond.code yX3_isDigit cX3_isDigit 1 (some .boolean) :: wG) ({ frames := 0, cells := 0, slots := 0, locals := 0 }) (va_Pc [.int p0] (Pw dC dI sz [] [])) (va_Qi (fun (r : Int32) (_ : Nat) => ((r = 0 ∨ r = 1) ∧ True) ∧ PX3_isDigit p0 = r) (fun (_ : Nat) (_ : State) => True) (va_A [] sz)) 0 0 (va_A [] sz) := by
  refine Met.ofW (cc := cX3_isDigit) (maxL := 1) (ret := (some .boolean)) pnX3 rfl ?_
  intro p e s m args below meth c s₁ B hml hv
  obtain ⟨rfl, hsz, hP, hK, hD0, hE⟩ := hv
  have hx := B.exec
  have hb := B.bytes
  have hr := B.returns
  have hts : ∀ w ∈ wG, w.before ([.int p0] : List Value).toArray s = true := fun w h => atoms_spec (ws := Cond.code yX3_isDigit cX3_isDigit 1 (some .boolean) :: wG) B.pre w (List.mem_cons_of_mem _ h)
  have hown : s.vm.findClass RX3 = some m.cls := own_of B.named rfl
  have hlocks := B.notSynchronized
  subst hsz
  generalize hAe : va_A [] s.heap.size = A at hE ⊢
  have hA : ∀ q : Nat, s.heap.size ≤ q → A q := fun q h => by rw [← hAe]; exact Or.inr h
  have hS : va_S A s.heap s.heap [] := va_S.rf
  have hl := lv_entry ([.int p0]) (n := 1) (Nat.le_of_ble_eq_true rfl)
  rw [lg_entry_eq]
  generalize (lg_sl ([.int p0]) ++ List.replicate (1 - (lg_sl ([.int p0])).length) Slot.unset).toArray = ls at hl ⊢
  have hl : lv_has ls 1 [(0, .int p0)] := hl
  have hG := PX3_isDigit_eq p0
  refine lv_iload_n hx hb dX3_isDigit_0 rfl (lv_at hl 0 rfl) ?_
  refine lv_bipush (v := 48) hx hb dX3_isDigit_1 (by decide) ?_
  refine lv_icmp_lt (tgt := 16) hx hb dX3_isDigit_3 (by decide) (fun c_17 => ?_) (fun c_17 => ?_)
  · skip
    have hG := hG.trans (if_pos c_17)
    have gc_17 := ti_lt c_17 rfl kc_48
    refine lv_iconst (v := 0) hx hb dX3_isDigit_16 (by decide) ?_
    exact wq_z (v := 0) hx hb hr rfl 0 ⟨⟨Or.inl rfl, trivial⟩, hG⟩ (fun t ht hW => trivial) hS dX3_isDigit_17 hlocks
  · skip
    have hG := hG.trans (if_neg c_17)
    have gc_17 := ti_nlt c_17 rfl kc_48
    refine lv_iload_n hx hb dX3_isDigit_6 rfl (lv_at hl 0 rfl) ?_
    refine lv_bipush (v := 57) hx hb dX3_isDigit_7 (by decide) ?_
    refine lv_icmp_gt (tgt := 16) hx hb dX3_isDigit_9 (by decide) (fun c_18 => ?_) (fun c_18 => ?_)
    · skip
      have hG := hG.trans (if_pos c_18)
      have gc_18 := ti_lt c_18 kc_57 rfl
      refine lv_iconst (v := 0) hx hb dX3_isDigit_16 (by decide) ?_
      exact wq_z (v := 0) hx hb hr rfl 0 ⟨⟨Or.inl rfl, trivial⟩, hG⟩ (fun t ht hW => trivial) hS dX3_isDigit_17 hlocks
    · skip
      have hG := hG.trans (if_neg c_18)
      have gc_18 := ti_nlt c_18 kc_57 rfl
      refine lv_iconst (v := 1) hx hb dX3_isDigit_12 (by decide) ?_
      refine lv_goto (tgt := 17) hx hb dX3_isDigit_13 (by decide) ?_
      exact wq_z (v := 1) hx hb hr rfl 0 ⟨⟨Or.inr rfl, trivial⟩, hG⟩ (fun t ht hW => trivial) hS dX3_isDigit_17 hlocks
set_option maxHeartbeats 4000000 in
set_option maxRecDepth 100000 in
theorem tX6_shareOf (l : Launch) (dC : Nat → ClassId) (dI : Nat → Nat → Nat) (sz : Nat) (p0 : Int32) (p1 : Int32) (p2 : Int32)  : Met l yX6_shareOf (Cond.code yX6_shareOf cX6_shareOf 3 (some .int) :: wG) ({ frames := 0, cells := 0, slots := 0, locals := 0 }) (va_Pc [.int p0, .int p1, .int p2] (Pw dC dI sz [] [])) (va_Qi (fun (r : Int32) (_ : Nat) => (True ∧ True) ∧ PX6_shareOf p0 p1 p2 = r) (fun (_ : Nat) (_ : State) => True) (va_A [] sz)) 0 0 (va_A [] sz) := by
  refine Met.ofW (cc := cX6_shareOf) (maxL := 3) (ret := (some .int)) pnX6 rfl ?_
  intro p e s m args below meth c s₁ B hml hv
  obtain ⟨rfl, hsz, hP, hK, hD0, hE⟩ := hv
  have hx := B.exec
  have hb := B.bytes
  have hr := B.returns
  have hts : ∀ w ∈ wG, w.before ([.int p0, .int p1, .int p2] : List Value).toArray s = true := fun w h => atoms_spec (ws := Cond.code yX6_shareOf cX6_shareOf 3 (some .int) :: wG) B.pre w (List.mem_cons_of_mem _ h)
  have hown : s.vm.findClass RX6 = some m.cls := own_of B.named rfl
  have hlocks := B.notSynchronized
  subst hsz
  generalize hAe : va_A [] s.heap.size = A at hE ⊢
  have hA : ∀ q : Nat, s.heap.size ≤ q → A q := fun q h => by rw [← hAe]; exact Or.inr h
  have hS : va_S A s.heap s.heap [] := va_S.rf
  have hl := lv_entry ([.int p0, .int p1, .int p2]) (n := 3) (Nat.le_of_ble_eq_true rfl)
  rw [lg_entry_eq]
  generalize (lg_sl ([.int p0, .int p1, .int p2]) ++ List.replicate (3 - (lg_sl ([.int p0, .int p1, .int p2])).length) Slot.unset).toArray = ls at hl ⊢
  have hl : lv_has ls 3 [(0, .int p0), (1, .int p1), (2, .int p2)] := hl
  have hG := PX6_shareOf_eq p0 p1 p2
  refine lv_iload_n hx hb dX6_shareOf_0 rfl (lv_at hl 1 rfl) ?_
  refine lv_if_eq (tgt := 16) hx hb dX6_shareOf_1 (by decide) (fun c_19 => ?_) (fun c_19 => ?_)
  · skip
    have hG := hG.trans (if_pos c_19)
    have gc_19 := ti_eq c_19 rfl kc_0
    refine lv_iload_n hx hb dX6_shareOf_16 rfl (lv_at hl 2 rfl) ?_
    refine lv_if_eq (tgt := 25) hx hb dX6_shareOf_17 (by decide) (fun c_20 => ?_) (fun c_20 => ?_)
    · skip
      have hG := hG.trans (if_pos c_20)
      have gc_20 := ti_eq c_20 rfl kc_0
      refine lv_iconst (v := 1) hx hb dX6_shareOf_25 (by decide) ?_
      exact wq_i hx hb hr 0 ⟨⟨trivial, trivial⟩, hG⟩ (fun t ht hW => trivial) hS dX6_shareOf_26 hlocks
    · skip
      have hG := hG.trans (if_neg c_20)
      have gc_20 := ti_ne c_20 rfl kc_0
      refine lv_iload_n hx hb dX6_shareOf_20 rfl (lv_at hl 0 rfl) ?_
      refine lv_ineg hx hb dX6_shareOf_21 ?_
      refine lv_topi (fun x_21 ex_21 => ?_)
      have hG := hG.trans (lt_eq ex_21)
      refine lv_goto (tgt := 26) hx hb dX6_shareOf_22 (by decide) ?_
      exact wq_i hx hb hr 0 ⟨⟨trivial, trivial⟩, hG⟩ (fun t ht hW => trivial) hS dX6_shareOf_26 hlocks
  · skip
    have hG := hG.trans (if_neg c_19)
    have gc_19 := ti_ne c_19 rfl kc_0
    refine lv_iload_n hx hb dX6_shareOf_4 rfl (lv_at hl 2 rfl) ?_
    refine lv_if_eq (tgt := 14) hx hb dX6_shareOf_5 (by decide) (fun c_22 => ?_) (fun c_22 => ?_)
    · skip
      have hG := hG.trans (if_pos c_22)
      have gc_22 := ti_eq c_22 rfl kc_0
      refine lv_iconst (v := 5) hx hb dX6_shareOf_14 (by decide) ?_
      exact wq_i hx hb hr 0 ⟨⟨trivial, trivial⟩, hG⟩ (fun t ht hW => trivial) hS dX6_shareOf_15 hlocks
    · skip
      have hG := hG.trans (if_neg c_22)
      have gc_22 := ti_ne c_22 rfl kc_0
      refine lv_iconst (v := 2) hx hb dX6_shareOf_8 (by decide) ?_
      refine lv_iload_n hx hb dX6_shareOf_9 rfl (lv_at hl 0 rfl) ?_
      refine lv_isub hx hb dX6_shareOf_10 ?_
      refine lv_topi (fun x_23 ex_23 => ?_)
      have hG := hG.trans (lt_eq ex_23)
      refine lv_goto (tgt := 15) hx hb dX6_shareOf_11 (by decide) ?_
      exact wq_i hx hb hr 0 ⟨⟨trivial, trivial⟩, hG⟩ (fun t ht hW => trivial) hS dX6_shareOf_15 hlocks
set_option maxHeartbeats 4000000 in
set_option maxRecDepth 100000 in
theorem tX6_isRest (l : Launch) (dC : Nat → ClassId) (dI : Nat → Nat → Nat) (sz : Nat) (p0 : Int32) (p1 : Int32) (p2 : Int32)  : Met l yX6_isRest (Cond.code yX6_isRest cX6_isRest 3 (some .boolean) :: wG) ({ frames := 1, cells := 0, slots := 0, locals := 22 }) (va_Pc [.int p0, .int p1, .int p2] (Pw dC dI sz [] [])) (va_Qi (fun (r : Int32) (_ : Nat) => ((r = 0 ∨ r = 1) ∧ True) ∧ PX6_isRest p0 p1 p2 = r) (fun (_ : Nat) (_ : State) => True) (va_A [] sz)) 0 0 (va_A [] sz) := by
  refine Met.ofW (cc := cX6_isRest) (maxL := 3) (ret := (some .boolean)) pnX6 rfl ?_
  intro p e s m args below meth c s₁ B hml hv
  obtain ⟨rfl, hsz, hP, hK, hD0, hE⟩ := hv
  have hx := B.exec
  have hb := B.bytes
  have hr := B.returns
  have hts : ∀ w ∈ wG, w.before ([.int p0, .int p1, .int p2] : List Value).toArray s = true := fun w h => atoms_spec (ws := Cond.code yX6_isRest cX6_isRest 3 (some .boolean) :: wG) B.pre w (List.mem_cons_of_mem _ h)
  have hown : s.vm.findClass RX6 = some m.cls := own_of B.named rfl
  have hlocks := B.notSynchronized
  subst hsz
  generalize hAe : va_A [] s.heap.size = A at hE ⊢
  have hA : ∀ q : Nat, s.heap.size ≤ q → A q := fun q h => by rw [← hAe]; exact Or.inr h
  have hS : va_S A s.heap s.heap [] := va_S.rf
  have hl := lv_entry ([.int p0, .int p1, .int p2]) (n := 3) (Nat.le_of_ble_eq_true rfl)
  rw [lg_entry_eq]
  generalize (lg_sl ([.int p0, .int p1, .int p2]) ++ List.replicate (3 - (lg_sl ([.int p0, .int p1, .int p2])).length) Slot.unset).toArray = ls at hl ⊢
  have hl : lv_has ls 3 [(0, .int p0), (1, .int p1), (2, .int p2)] := hl
  have hG := PX6_isRest_eq p0 p1 p2
  refine lv_iload_n hx hb dX6_isRest_0 rfl (lv_at hl 0 rfl) ?_
  refine lv_iload_n hx hb dX6_isRest_1 rfl (lv_at hl 1 rfl) ?_
  refine lv_iload_n hx hb dX6_isRest_2 rfl (lv_at hl 2 rfl) ?_
  refine va_calli (va_runS (As := [.int p0, .int p1, .int p2]) (rest := []) ⟨hx, hb, hml, hown, hts⟩ (tX6_shareOf l dC dI _ p0 p1 p2 ) (va_cwS 3 hts (wd_S wd_1290 wd_1291 wd_2 (wd_c wd_1292)) rfl rfl rfl ds_yX6_shareOf_3 ⟨Nat.le_of_ble_eq_true rfl, Nat.le_of_ble_eq_true rfl⟩) ⟨Pw.fb, fun U hU hW => Pn.to hK hE hS hA hU hW⟩ rfl rfl hl.1 rfl (lv_room (Nat.le_of_ble_eq_true rfl)) dX6_isRest_3 ⟨Nat.le_of_ble_eq_true rfl, Nat.le_of_ble_eq_true rfl⟩) hS (fun q _ h => hA q (Nat.le_trans hS.1 (va_nilA h))) (fun q h => hA q (Nat.le_trans hS.1 (va_nilA h))) (fun r u t H locs ht hvm hw hB hz1 hk1 hS => ?_)
  have hq9 := hw.2
  have hw := hw.1
  obtain ⟨x_24, rfl⟩ : ∃ z, z = r := ⟨_, rfl⟩
  have hq_x_24 := hq9
  have hG := hG.trans (lt_eq hq_x_24.symm)
  refine lv_iload_n hx hb dX6_isRest_6 rfl (lv_at hl 0 rfl) ?_
  refine lv_iload_n hx hb dX6_isRest_7 rfl (lv_at hl 1 rfl) ?_
  refine lv_if_ne (tgt := 15) hx hb dX6_isRest_8 (by decide) (fun c_25 => ?_) (fun c_25 => ?_)
  · skip
    have hG := hG.trans (if_neg c_25)
    have gc_25 := ti_ne c_25 rfl kc_0
    refine lv_iconst (v := 0) hx hb dX6_isRest_15 (by decide) ?_
    refine lv_iload_n hx hb dX6_isRest_16 rfl (lv_at hl 2 rfl) ?_
    refine va_calli (va_runS (As := [.int p0, .int 0, .int p2]) (rest := [.int x_24]) ⟨hx, hb, hml, hown, hts⟩ (tX6_shareOf l dC dI _ p0 0 p2 ) (va_cwS 3 hts (wd_S wd_1290 wd_1291 wd_2 (wd_c wd_1292)) rfl rfl rfl ds_yX6_shareOf_3 ⟨Nat.le_of_ble_eq_true rfl, Nat.le_of_ble_eq_true rfl⟩) ⟨Pw.fb, fun U hU hW => Pn.to hK hE hS hA hU hW⟩ rfl rfl hl.1 rfl (lv_room (Nat.le_of_ble_eq_true rfl)) dX6_isRest_17 ⟨Nat.le_of_ble_eq_true rfl, Nat.le_of_ble_eq_true rfl⟩) hS (fun q _ h => hA q (Nat.le_trans hS.1 (va_nilA h))) (fun q h => hA q (Nat.le_trans hS.1 (va_nilA h))) (fun r u t H locs ht hvm hw hB hz1 hk1 hS => ?_)
    have hq9 := hw.2
    have hw := hw.1
    obtain ⟨x_26, rfl⟩ : ∃ z, z = r := ⟨_, rfl⟩
    have hq_x_26 := hq9
    have hG := hG.trans (lt_eq hq_x_26.symm)
    refine lv_icmp_lt (tgt := 50) hx hb dX6_isRest_20 (by decide) (fun c_27 => ?_) (fun c_27 => ?_)
    · skip
      have hG := hG.trans (if_pos c_27)
      have gc_27 := ti_lt c_27 rfl rfl
      refine lv_iconst (v := 0) hx hb dX6_isRest_50 (by decide) ?_
      exact wq_z (v := 0) hx hb hr rfl 0 ⟨⟨Or.inl rfl, trivial⟩, hG⟩ (fun t ht hW => trivial) hS dX6_isRest_51 hlocks
    · skip
      have hG := hG.trans (if_neg c_27)
      have gc_27 := ti_nlt c_27 rfl rfl
      refine lv_iload_n hx hb dX6_isRest_23 rfl (lv_at hl 0 rfl) ?_
      refine lv_iload_n hx hb dX6_isRest_24 rfl (lv_at hl 2 rfl) ?_
      refine lv_iload_n hx hb dX6_isRest_25 rfl (lv_at hl 1 rfl) ?_
      refine va_calli (va_runS (As := [.int p0, .int p2, .int p1]) (rest := []) ⟨hx, hb, hml, hown, hts⟩ (tX6_shareOf l dC dI _ p0 p2 p1 ) (va_cwS 3 hts (wd_S wd_1290 wd_1291 wd_2 (wd_c wd_1292)) rfl rfl rfl ds_yX6_shareOf_3 ⟨Nat.le_of_ble_eq_true rfl, Nat.le_of_ble_eq_true rfl⟩) ⟨Pw.fb, fun U hU hW => Pn.to hK hE hS hA hU hW⟩ rfl rfl hl.1 rfl (lv_room (Nat.le_of_ble_eq_true rfl)) dX6_isRest_26 ⟨Nat.le_of_ble_eq_true rfl, Nat.le_of_ble_eq_true rfl⟩) hS (fun q _ h => hA q (Nat.le_trans hS.1 (va_nilA h))) (fun q h => hA q (Nat.le_trans hS.1 (va_nilA h))) (fun r u t H locs ht hvm hw hB hz1 hk1 hS => ?_)
      have hq9 := hw.2
      have hw := hw.1
      obtain ⟨x_28, rfl⟩ : ∃ z, z = r := ⟨_, rfl⟩
      have hq_x_28 := hq9
      have hG := hG.trans (lt_eq hq_x_28.symm)
      refine lv_iload_n hx hb dX6_isRest_29 rfl (lv_at hl 0 rfl) ?_
      refine lv_iload_n hx hb dX6_isRest_30 rfl (lv_at hl 2 rfl) ?_
      refine lv_if_ne (tgt := 38) hx hb dX6_isRest_31 (by decide) (fun c_29 => ?_) (fun c_29 => ?_)
      · skip
        have hG := hG.trans (if_neg c_29)
        have gc_29 := ti_ne c_29 rfl kc_0
        refine lv_iconst (v := 0) hx hb dX6_isRest_38 (by decide) ?_
        refine lv_iload_n hx hb dX6_isRest_39 rfl (lv_at hl 1 rfl) ?_
        refine va_calli (va_runS (As := [.int p0, .int 0, .int p1]) (rest := [.int x_28]) ⟨hx, hb, hml, hown, hts⟩ (tX6_shareOf l dC dI _ p0 0 p1 ) (va_cwS 3 hts (wd_S wd_1290 wd_1291 wd_2 (wd_c wd_1292)) rfl rfl rfl ds_yX6_shareOf_3 ⟨Nat.le_of_ble_eq_true rfl, Nat.le_of_ble_eq_true rfl⟩) ⟨Pw.fb, fun U hU hW => Pn.to hK hE hS hA hU hW⟩ rfl rfl hl.1 rfl (lv_room (Nat.le_of_ble_eq_true rfl)) dX6_isRest_40 ⟨Nat.le_of_ble_eq_true rfl, Nat.le_of_ble_eq_true rfl⟩) hS (fun q _ h => hA q (Nat.le_trans hS.1 (va_nilA h))) (fun q h => hA q (Nat.le_trans hS.1 (va_nilA h))) (fun r u t H locs ht hvm hw hB hz1 hk1 hS => ?_)
        have hq9 := hw.2
        have hw := hw.1
        obtain ⟨x_30, rfl⟩ : ∃ z, z = r := ⟨_, rfl⟩
        have hq_x_30 := hq9
        have hG := hG.trans (lt_eq hq_x_30.symm)
        refine lv_icmp_lt (tgt := 50) hx hb dX6_isRest_43 (by decide) (fun c_31 => ?_) (fun c_31 => ?_)
        · skip
          have hG := hG.trans (if_pos c_31)
          have gc_31 := ti_lt c_31 rfl rfl
          refine lv_iconst (v := 0) hx hb dX6_isRest_50 (by decide) ?_
          exact wq_z (v := 0) hx hb hr rfl 0 ⟨⟨Or.inl rfl, trivial⟩, hG⟩ (fun t ht hW => trivial) hS dX6_isRest_51 hlocks
        · skip
          have hG := hG.trans (if_neg c_31)
          have gc_31 := ti_nlt c_31 rfl rfl
          refine lv_iconst (v := 1) hx hb dX6_isRest_46 (by decide) ?_
          refine lv_goto (tgt := 51) hx hb dX6_isRest_47 (by decide) ?_
          exact wq_z (v := 1) hx hb hr rfl 0 ⟨⟨Or.inr rfl, trivial⟩, hG⟩ (fun t ht hW => trivial) hS dX6_isRest_51 hlocks
      · skip
        have hG := hG.trans (if_pos c_29)
        have gc_29 := ti_eq c_29 rfl kc_0
        refine lv_iconst (v := 1) hx hb dX6_isRest_34 (by decide) ?_
        refine lv_goto (tgt := 39) hx hb dX6_isRest_35 (by decide) ?_
        refine lv_iload_n hx hb dX6_isRest_39 rfl (lv_at hl 1 rfl) ?_
        refine va_calli (va_runS (As := [.int p0, .int 1, .int p1]) (rest := [.int x_28]) ⟨hx, hb, hml, hown, hts⟩ (tX6_shareOf l dC dI _ p0 1 p1 ) (va_cwS 3 hts (wd_S wd_1290 wd_1291 wd_2 (wd_c wd_1292)) rfl rfl rfl ds_yX6_shareOf_3 ⟨Nat.le_of_ble_eq_true rfl, Nat.le_of_ble_eq_true rfl⟩) ⟨Pw.fb, fun U hU hW => Pn.to hK hE hS hA hU hW⟩ rfl rfl hl.1 rfl (lv_room (Nat.le_of_ble_eq_true rfl)) dX6_isRest_40 ⟨Nat.le_of_ble_eq_true rfl, Nat.le_of_ble_eq_true rfl⟩) hS (fun q _ h => hA q (Nat.le_trans hS.1 (va_nilA h))) (fun q h => hA q (Nat.le_trans hS.1 (va_nilA h))) (fun r u t H locs ht hvm hw hB hz1 hk1 hS => ?_)
        have hq9 := hw.2
        have hw := hw.1
        obtain ⟨x_32, rfl⟩ : ∃ z, z = r := ⟨_, rfl⟩
        have hq_x_32 := hq9
        have hG := hG.trans (lt_eq hq_x_32.symm)
        refine lv_icmp_lt (tgt := 50) hx hb dX6_isRest_43 (by decide) (fun c_33 => ?_) (fun c_33 => ?_)
        · skip
          have hG := hG.trans (if_pos c_33)
          have gc_33 := ti_lt c_33 rfl rfl
          refine lv_iconst (v := 0) hx hb dX6_isRest_50 (by decide) ?_
          exact wq_z (v := 0) hx hb hr rfl 0 ⟨⟨Or.inl rfl, trivial⟩, hG⟩ (fun t ht hW => trivial) hS dX6_isRest_51 hlocks
        · skip
          have hG := hG.trans (if_neg c_33)
          have gc_33 := ti_nlt c_33 rfl rfl
          refine lv_iconst (v := 1) hx hb dX6_isRest_46 (by decide) ?_
          refine lv_goto (tgt := 51) hx hb dX6_isRest_47 (by decide) ?_
          exact wq_z (v := 1) hx hb hr rfl 0 ⟨⟨Or.inr rfl, trivial⟩, hG⟩ (fun t ht hW => trivial) hS dX6_isRest_51 hlocks
  · skip
    have hG := hG.trans (if_pos c_25)
    have gc_25 := ti_eq c_25 rfl kc_0
    refine lv_iconst (v := 1) hx hb dX6_isRest_11 (by decide) ?_
    refine lv_goto (tgt := 16) hx hb dX6_isRest_12 (by decide) ?_
    refine lv_iload_n hx hb dX6_isRest_16 rfl (lv_at hl 2 rfl) ?_
    refine va_calli (va_runS (As := [.int p0, .int 1, .int p2]) (rest := [.int x_24]) ⟨hx, hb, hml, hown, hts⟩ (tX6_shareOf l dC dI _ p0 1 p2 ) (va_cwS 3 hts (wd_S wd_1290 wd_1291 wd_2 (wd_c wd_1292)) rfl rfl rfl ds_yX6_shareOf_3 ⟨Nat.le_of_ble_eq_true rfl, Nat.le_of_ble_eq_true rfl⟩) ⟨Pw.fb, fun U hU hW => Pn.to hK hE hS hA hU hW⟩ rfl rfl hl.1 rfl (lv_room (Nat.le_of_ble_eq_true rfl)) dX6_isRest_17 ⟨Nat.le_of_ble_eq_true rfl, Nat.le_of_ble_eq_true rfl⟩) hS (fun q _ h => hA q (Nat.le_trans hS.1 (va_nilA h))) (fun q h => hA q (Nat.le_trans hS.1 (va_nilA h))) (fun r u t H locs ht hvm hw hB hz1 hk1 hS => ?_)
    have hq9 := hw.2
    have hw := hw.1
    obtain ⟨x_34, rfl⟩ : ∃ z, z = r := ⟨_, rfl⟩
    have hq_x_34 := hq9
    have hG := hG.trans (lt_eq hq_x_34.symm)
    refine lv_icmp_lt (tgt := 50) hx hb dX6_isRest_20 (by decide) (fun c_35 => ?_) (fun c_35 => ?_)
    · skip
      have hG := hG.trans (if_pos c_35)
      have gc_35 := ti_lt c_35 rfl rfl
      refine lv_iconst (v := 0) hx hb dX6_isRest_50 (by decide) ?_
      exact wq_z (v := 0) hx hb hr rfl 0 ⟨⟨Or.inl rfl, trivial⟩, hG⟩ (fun t ht hW => trivial) hS dX6_isRest_51 hlocks
    · skip
      have hG := hG.trans (if_neg c_35)
      have gc_35 := ti_nlt c_35 rfl rfl
      refine lv_iload_n hx hb dX6_isRest_23 rfl (lv_at hl 0 rfl) ?_
      refine lv_iload_n hx hb dX6_isRest_24 rfl (lv_at hl 2 rfl) ?_
      refine lv_iload_n hx hb dX6_isRest_25 rfl (lv_at hl 1 rfl) ?_
      refine va_calli (va_runS (As := [.int p0, .int p2, .int p1]) (rest := []) ⟨hx, hb, hml, hown, hts⟩ (tX6_shareOf l dC dI _ p0 p2 p1 ) (va_cwS 3 hts (wd_S wd_1290 wd_1291 wd_2 (wd_c wd_1292)) rfl rfl rfl ds_yX6_shareOf_3 ⟨Nat.le_of_ble_eq_true rfl, Nat.le_of_ble_eq_true rfl⟩) ⟨Pw.fb, fun U hU hW => Pn.to hK hE hS hA hU hW⟩ rfl rfl hl.1 rfl (lv_room (Nat.le_of_ble_eq_true rfl)) dX6_isRest_26 ⟨Nat.le_of_ble_eq_true rfl, Nat.le_of_ble_eq_true rfl⟩) hS (fun q _ h => hA q (Nat.le_trans hS.1 (va_nilA h))) (fun q h => hA q (Nat.le_trans hS.1 (va_nilA h))) (fun r u t H locs ht hvm hw hB hz1 hk1 hS => ?_)
      have hq9 := hw.2
      have hw := hw.1
      obtain ⟨x_36, rfl⟩ : ∃ z, z = r := ⟨_, rfl⟩
      have hq_x_36 := hq9
      have hG := hG.trans (lt_eq hq_x_36.symm)
      refine lv_iload_n hx hb dX6_isRest_29 rfl (lv_at hl 0 rfl) ?_
      refine lv_iload_n hx hb dX6_isRest_30 rfl (lv_at hl 2 rfl) ?_
      refine lv_if_ne (tgt := 38) hx hb dX6_isRest_31 (by decide) (fun c_37 => ?_) (fun c_37 => ?_)
      · skip
        have hG := hG.trans (if_neg c_37)
        have gc_37 := ti_ne c_37 rfl kc_0
        refine lv_iconst (v := 0) hx hb dX6_isRest_38 (by decide) ?_
        refine lv_iload_n hx hb dX6_isRest_39 rfl (lv_at hl 1 rfl) ?_
        refine va_calli (va_runS (As := [.int p0, .int 0, .int p1]) (rest := [.int x_36]) ⟨hx, hb, hml, hown, hts⟩ (tX6_shareOf l dC dI _ p0 0 p1 ) (va_cwS 3 hts (wd_S wd_1290 wd_1291 wd_2 (wd_c wd_1292)) rfl rfl rfl ds_yX6_shareOf_3 ⟨Nat.le_of_ble_eq_true rfl, Nat.le_of_ble_eq_true rfl⟩) ⟨Pw.fb, fun U hU hW => Pn.to hK hE hS hA hU hW⟩ rfl rfl hl.1 rfl (lv_room (Nat.le_of_ble_eq_true rfl)) dX6_isRest_40 ⟨Nat.le_of_ble_eq_true rfl, Nat.le_of_ble_eq_true rfl⟩) hS (fun q _ h => hA q (Nat.le_trans hS.1 (va_nilA h))) (fun q h => hA q (Nat.le_trans hS.1 (va_nilA h))) (fun r u t H locs ht hvm hw hB hz1 hk1 hS => ?_)
        have hq9 := hw.2
        have hw := hw.1
        obtain ⟨x_38, rfl⟩ : ∃ z, z = r := ⟨_, rfl⟩
        have hq_x_38 := hq9
        have hG := hG.trans (lt_eq hq_x_38.symm)
        refine lv_icmp_lt (tgt := 50) hx hb dX6_isRest_43 (by decide) (fun c_39 => ?_) (fun c_39 => ?_)
        · skip
          have hG := hG.trans (if_pos c_39)
          have gc_39 := ti_lt c_39 rfl rfl
          refine lv_iconst (v := 0) hx hb dX6_isRest_50 (by decide) ?_
          exact wq_z (v := 0) hx hb hr rfl 0 ⟨⟨Or.inl rfl, trivial⟩, hG⟩ (fun t ht hW => trivial) hS dX6_isRest_51 hlocks
        · skip
          have hG := hG.trans (if_neg c_39)
          have gc_39 := ti_nlt c_39 rfl rfl
          refine lv_iconst (v := 1) hx hb dX6_isRest_46 (by decide) ?_
          refine lv_goto (tgt := 51) hx hb dX6_isRest_47 (by decide) ?_
          exact wq_z (v := 1) hx hb hr rfl 0 ⟨⟨Or.inr rfl, trivial⟩, hG⟩ (fun t ht hW => trivial) hS dX6_isRest_51 hlocks
      · skip
        have hG := hG.trans (if_pos c_37)
        have gc_37 := ti_eq c_37 rfl kc_0
        refine lv_iconst (v := 1) hx hb dX6_isRest_34 (by decide) ?_
        refine lv_goto (tgt := 39) hx hb dX6_isRest_35 (by decide) ?_
        refine lv_iload_n hx hb dX6_isRest_39 rfl (lv_at hl 1 rfl) ?_
        refine va_calli (va_runS (As := [.int p0, .int 1, .int p1]) (rest := [.int x_36]) ⟨hx, hb, hml, hown, hts⟩ (tX6_shareOf l dC dI _ p0 1 p1 ) (va_cwS 3 hts (wd_S wd_1290 wd_1291 wd_2 (wd_c wd_1292)) rfl rfl rfl ds_yX6_shareOf_3 ⟨Nat.le_of_ble_eq_true rfl, Nat.le_of_ble_eq_true rfl⟩) ⟨Pw.fb, fun U hU hW => Pn.to hK hE hS hA hU hW⟩ rfl rfl hl.1 rfl (lv_room (Nat.le_of_ble_eq_true rfl)) dX6_isRest_40 ⟨Nat.le_of_ble_eq_true rfl, Nat.le_of_ble_eq_true rfl⟩) hS (fun q _ h => hA q (Nat.le_trans hS.1 (va_nilA h))) (fun q h => hA q (Nat.le_trans hS.1 (va_nilA h))) (fun r u t H locs ht hvm hw hB hz1 hk1 hS => ?_)
        have hq9 := hw.2
        have hw := hw.1
        obtain ⟨x_40, rfl⟩ : ∃ z, z = r := ⟨_, rfl⟩
        have hq_x_40 := hq9
        have hG := hG.trans (lt_eq hq_x_40.symm)
        refine lv_icmp_lt (tgt := 50) hx hb dX6_isRest_43 (by decide) (fun c_41 => ?_) (fun c_41 => ?_)
        · skip
          have hG := hG.trans (if_pos c_41)
          have gc_41 := ti_lt c_41 rfl rfl
          refine lv_iconst (v := 0) hx hb dX6_isRest_50 (by decide) ?_
          exact wq_z (v := 0) hx hb hr rfl 0 ⟨⟨Or.inl rfl, trivial⟩, hG⟩ (fun t ht hW => trivial) hS dX6_isRest_51 hlocks
        · skip
          have hG := hG.trans (if_neg c_41)
          have gc_41 := ti_nlt c_41 rfl rfl
          refine lv_iconst (v := 1) hx hb dX6_isRest_46 (by decide) ?_
          refine lv_goto (tgt := 51) hx hb dX6_isRest_47 (by decide) ?_
          exact wq_z (v := 1) hx hb hr rfl 0 ⟨⟨Or.inr rfl, trivial⟩, hG⟩ (fun t ht hW => trivial) hS dX6_isRest_51 hlocks
set_option maxHeartbeats 4000000 in
set_option maxRecDepth 100000 in
theorem tX6_wholeOf (l : Launch) (dC : Nat → ClassId) (dI : Nat → Nat → Nat) (sz : Nat) (p0 : Int32) (p1 : Int32)  : Met l yX6_wholeOf (Cond.code yX6_wholeOf cX6_wholeOf 2 (some .int) :: wG) ({ frames := 0, cells := 0, slots := 0, locals := 0 }) (va_Pc [.int p0, .int p1] (Pw dC dI sz [] [])) (va_Qi (fun (r : Int32) (_ : Nat) => (True ∧ True) ∧ PX6_wholeOf p0 p1 = r) (fun (_ : Nat) (_ : State) => True) (va_A [] sz)) 0 0 (va_A [] sz) := by
  refine Met.ofW (cc := cX6_wholeOf) (maxL := 2) (ret := (some .int)) pnX6 rfl ?_
  intro p e s m args below meth c s₁ B hml hv
  obtain ⟨rfl, hsz, hP, hK, hD0, hE⟩ := hv
  have hx := B.exec
  have hb := B.bytes
  have hr := B.returns
  have hts : ∀ w ∈ wG, w.before ([.int p0, .int p1] : List Value).toArray s = true := fun w h => atoms_spec (ws := Cond.code yX6_wholeOf cX6_wholeOf 2 (some .int) :: wG) B.pre w (List.mem_cons_of_mem _ h)
  have hown : s.vm.findClass RX6 = some m.cls := own_of B.named rfl
  have hlocks := B.notSynchronized
  subst hsz
  generalize hAe : va_A [] s.heap.size = A at hE ⊢
  have hA : ∀ q : Nat, s.heap.size ≤ q → A q := fun q h => by rw [← hAe]; exact Or.inr h
  have hS : va_S A s.heap s.heap [] := va_S.rf
  have hl := lv_entry ([.int p0, .int p1]) (n := 2) (Nat.le_of_ble_eq_true rfl)
  rw [lg_entry_eq]
  generalize (lg_sl ([.int p0, .int p1]) ++ List.replicate (2 - (lg_sl ([.int p0, .int p1])).length) Slot.unset).toArray = ls at hl ⊢
  have hl : lv_has ls 2 [(0, .int p0), (1, .int p1)] := hl
  have hG := PX6_wholeOf_eq p0 p1
  refine lv_iload_n hx hb dX6_wholeOf_0 rfl (lv_at hl 1 rfl) ?_
  refine lv_if_le (tgt := 10) hx hb dX6_wholeOf_1 (by decide) (fun c_42 => ?_) (fun c_42 => ?_)
  · skip
    have hG := hG.trans (if_pos c_42)
    have gc_42 := ti_le c_42 rfl kc_0
    refine lv_iconst (v := 0) hx hb dX6_wholeOf_10 (by decide) ?_
    exact wq_i hx hb hr 0 ⟨⟨trivial, trivial⟩, hG⟩ (fun t ht hW => trivial) hS dX6_wholeOf_11 hlocks
  · skip
    have hG := hG.trans (if_neg c_42)
    have gc_42 := ti_nle c_42 rfl kc_0
    refine lv_iload_n hx hb dX6_wholeOf_4 rfl (lv_at hl 0 rfl) ?_
    refine lv_iload_n hx hb dX6_wholeOf_5 rfl (lv_at hl 1 rfl) ?_
    refine lv_idiv hx hb dX6_wholeOf_6 (ti_n0 rfl (by omega)) ?_
    refine lv_topi (fun x_43 ex_43 => ?_)
    have hG := hG.trans (lt_eq ex_43)
    refine lv_goto (tgt := 11) hx hb dX6_wholeOf_7 (by decide) ?_
    exact wq_i hx hb hr 0 ⟨⟨trivial, trivial⟩, hG⟩ (fun t ht hW => trivial) hS dX6_wholeOf_11 hlocks
set_option maxHeartbeats 4000000 in
set_option maxRecDepth 100000 in
theorem tX3_withLetter (l : Launch) (dC : Nat → ClassId) (dI : Nat → Nat → Nat) (sz : Nat) (p0 : Int64) (p1 : Int32)  : Met l yX3_withLetter (Cond.code yX3_withLetter cX3_withLetter 3 (some .long) :: wG) ({ frames := 0, cells := 0, slots := 0, locals := 0 }) (va_Pc [.long p0, .int p1] (Pw dC dI sz [] [])) (va_Ql (fun (r : Int64) (_ : Nat) => (True ∧ True) ∧ PX3_withLetter p0 p1 = r) (fun (_ : Nat) (_ : State) => True) (va_A [] sz)) 0 0 (va_A [] sz) := by
  refine Met.ofW (cc := cX3_withLetter) (maxL := 3) (ret := (some .long)) pnX3 rfl ?_
  intro p e s m args below meth c s₁ B hml hv
  obtain ⟨rfl, hsz, hP, hK, hD0, hE⟩ := hv
  have hx := B.exec
  have hb := B.bytes
  have hr := B.returns
  have hts : ∀ w ∈ wG, w.before ([.long p0, .int p1] : List Value).toArray s = true := fun w h => atoms_spec (ws := Cond.code yX3_withLetter cX3_withLetter 3 (some .long) :: wG) B.pre w (List.mem_cons_of_mem _ h)
  have hown : s.vm.findClass RX3 = some m.cls := own_of B.named rfl
  have hlocks := B.notSynchronized
  subst hsz
  generalize hAe : va_A [] s.heap.size = A at hE ⊢
  have hA : ∀ q : Nat, s.heap.size ≤ q → A q := fun q h => by rw [← hAe]; exact Or.inr h
  have hS : va_S A s.heap s.heap [] := va_S.rf
  have hl := lv_entry ([.long p0, .int p1]) (n := 3) (Nat.le_of_ble_eq_true rfl)
  rw [lg_entry_eq]
  generalize (lg_sl ([.long p0, .int p1]) ++ List.replicate (3 - (lg_sl ([.long p0, .int p1])).length) Slot.unset).toArray = ls at hl ⊢
  have hl : lv_has ls 3 [(0, .long p0), (2, .int p1)] := hl
  have hG := PX3_withLetter_eq p0 p1
  refine lv_lload_n hx hb dX3_withLetter_0 rfl (lv_at hl 0 rfl) ?_
  refine lv_ldc2 hx hb hown (hts _ wd_123) dX3_withLetter_1 ?_
  refine lv_lmul hx hb dX3_withLetter_4 ?_
  refine lv_topl (fun y_44 ey_44 => ?_)
  have hG := hG.trans (lt_eq ey_44)
  refine lv_iload_n hx hb dX3_withLetter_5 rfl (lv_at hl 1 rfl) ?_
  refine lv_bipush (v := 97) hx hb dX3_withLetter_6 (by decide) ?_
  refine lv_isub hx hb dX3_withLetter_8 ?_
  refine lv_topi (fun x_45 ex_45 => ?_)
  have hG := hG.trans (lt_eq ex_45)
  refine lv_iconst (v := 1) hx hb dX3_withLetter_9 (by decide) ?_
  refine lv_iadd hx hb dX3_withLetter_10 ?_
  refine lv_topi (fun x_46 ex_46 => ?_)
  have hG := hG.trans (lt_eq ex_46)
  obtain ⟨y_47, ey_47⟩ : ∃ z : Int64, z = (x_46 : Int32).toInt64 := ⟨_, rfl⟩
  have hG := hG.trans (lt_eq ey_47)
  refine lv_i2l (v := y_47) hx hb dX3_withLetter_11 ey_47.symm ?_
  refine lv_ladd hx hb dX3_withLetter_12 ?_
  refine lv_topl (fun y_48 ey_48 => ?_)
  have hG := hG.trans (lt_eq ey_48)
  exact wq_l hx hb hr 0 ⟨⟨trivial, trivial⟩, hG⟩ (fun t ht hW => trivial) hS dX3_withLetter_13 hlocks
set_option maxHeartbeats 4000000 in
set_option maxRecDepth 100000 in
theorem tJ6_bitCount_0f7a4 (l : Launch) (dC : Nat → ClassId) (dI : Nat → Nat → Nat) (sz : Nat) (p0 : Int32)  : Met l yJ6_bitCount_0f7a4 (Cond.code yJ6_bitCount_0f7a4 cJ6_bitCount_0f7a4 1 (some .int) :: wG) ({ frames := 0, cells := 0, slots := 0, locals := 0 }) (va_Pc [.int p0] (Pw dC dI sz [] [])) (va_Qi (fun (r : Int32) (_ : Nat) => (True ∧ True) ∧ PJ6_bitCount_0f7a4 p0 = r) (fun (_ : Nat) (_ : State) => True) (va_A [] sz)) 0 0 (va_A [] sz) := by
  refine Met.ofW (cc := cJ6_bitCount_0f7a4) (maxL := 1) (ret := (some .int)) (by decide) rfl ?_
  intro p e s m args below meth c s₁ B hml hv
  obtain ⟨rfl, hsz, hP, hK, hD0, hE⟩ := hv
  have hx := B.exec
  have hb := B.bytes
  have hr := B.returns
  have hts : ∀ w ∈ wG, w.before ([.int p0] : List Value).toArray s = true := fun w h => atoms_spec (ws := Cond.code yJ6_bitCount_0f7a4 cJ6_bitCount_0f7a4 1 (some .int) :: wG) B.pre w (List.mem_cons_of_mem _ h)
  have hown : s.vm.findClass RJ6 = some m.cls := own_of B.named rfl
  have hlocks := B.notSynchronized
  subst hsz
  generalize hAe : va_A [] s.heap.size = A at hE ⊢
  have hA : ∀ q : Nat, s.heap.size ≤ q → A q := fun q h => by rw [← hAe]; exact Or.inr h
  have hS : va_S A s.heap s.heap [] := va_S.rf
  have hl := lv_entry ([.int p0]) (n := 1) (Nat.le_of_ble_eq_true rfl)
  rw [lg_entry_eq]
  generalize (lg_sl ([.int p0]) ++ List.replicate (1 - (lg_sl ([.int p0])).length) Slot.unset).toArray = ls at hl ⊢
  have hl : lv_has ls 1 [(0, .int p0)] := hl
  have hG := PJ6_bitCount_0f7a4_eq p0
  refine lv_iload_n hx hb dJ6_bitCount_0f7a4_0 rfl (lv_at hl 0 rfl) ?_
  refine lv_iload_n hx hb dJ6_bitCount_0f7a4_1 rfl (lv_at hl 0 rfl) ?_
  refine lv_iconst (v := 1) hx hb dJ6_bitCount_0f7a4_2 (by decide) ?_
  refine lv_iushr hx hb dJ6_bitCount_0f7a4_3 rfl ?_
  refine lv_topi (fun x_49 ex_49 => ?_)
  have hG := hG.trans (lt_eq ex_49)
  refine lv_ldcw hx hb hown (hts _ wd_954) dJ6_bitCount_0f7a4_4 ?_
  refine lv_iand hx hb dJ6_bitCount_0f7a4_7 ?_
  refine lv_topi (fun x_50 ex_50 => ?_)
  have hG := hG.trans (lt_eq ex_50)
  refine lv_isub hx hb dJ6_bitCount_0f7a4_8 ?_
  refine lv_topi (fun x_51 ex_51 => ?_)
  have hG := hG.trans (lt_eq ex_51)
  refine lv_istore_n (lv' := [(0, .int x_51)]) hx hb dJ6_bitCount_0f7a4_9 rfl hl (by decide) rfl (fun ls hl => ?_)
  refine lv_iload_n hx hb dJ6_bitCount_0f7a4_10 rfl (lv_at hl 0 rfl) ?_
  refine lv_ldcw hx hb hown (hts _ wd_955) dJ6_bitCount_0f7a4_11 ?_
  refine lv_iand hx hb dJ6_bitCount_0f7a4_14 ?_
  refine lv_topi (fun x_52 ex_52 => ?_)
  have hG := hG.trans (lt_eq ex_52)
  refine lv_iload_n hx hb dJ6_bitCount_0f7a4_15 rfl (lv_at hl 0 rfl) ?_
  refine lv_iconst (v := 2) hx hb dJ6_bitCount_0f7a4_16 (by decide) ?_
  refine lv_iushr hx hb dJ6_bitCount_0f7a4_17 rfl ?_
  refine lv_topi (fun x_53 ex_53 => ?_)
  have hG := hG.trans (lt_eq ex_53)
  refine lv_ldcw hx hb hown (hts _ wd_955) dJ6_bitCount_0f7a4_18 ?_
  refine lv_iand hx hb dJ6_bitCount_0f7a4_21 ?_
  refine lv_topi (fun x_54 ex_54 => ?_)
  have hG := hG.trans (lt_eq ex_54)
  refine lv_iadd hx hb dJ6_bitCount_0f7a4_22 ?_
  refine lv_topi (fun x_55 ex_55 => ?_)
  have hG := hG.trans (lt_eq ex_55)
  refine lv_istore_n (lv' := [(0, .int x_55)]) hx hb dJ6_bitCount_0f7a4_23 rfl hl (by decide) rfl (fun ls hl => ?_)
  refine lv_iload_n hx hb dJ6_bitCount_0f7a4_24 rfl (lv_at hl 0 rfl) ?_
  refine lv_iload_n hx hb dJ6_bitCount_0f7a4_25 rfl (lv_at hl 0 rfl) ?_
  refine lv_iconst (v := 4) hx hb dJ6_bitCount_0f7a4_26 (by decide) ?_
  refine lv_iushr hx hb dJ6_bitCount_0f7a4_27 rfl ?_
  refine lv_topi (fun x_56 ex_56 => ?_)
  have hG := hG.trans (lt_eq ex_56)
  refine lv_iadd hx hb dJ6_bitCount_0f7a4_28 ?_
  refine lv_topi (fun x_57 ex_57 => ?_)
  have hG := hG.trans (lt_eq ex_57)
  refine lv_ldcw hx hb hown (hts _ wd_956) dJ6_bitCount_0f7a4_29 ?_
  refine lv_iand hx hb dJ6_bitCount_0f7a4_32 ?_
  refine lv_topi (fun x_58 ex_58 => ?_)
  have hG := hG.trans (lt_eq ex_58)
  refine lv_istore_n (lv' := [(0, .int x_58)]) hx hb dJ6_bitCount_0f7a4_33 rfl hl (by decide) rfl (fun ls hl => ?_)
  refine lv_iload_n hx hb dJ6_bitCount_0f7a4_34 rfl (lv_at hl 0 rfl) ?_
  refine lv_iload_n hx hb dJ6_bitCount_0f7a4_35 rfl (lv_at hl 0 rfl) ?_
  refine lv_bipush (v := 8) hx hb dJ6_bitCount_0f7a4_36 (by decide) ?_
  refine lv_iushr hx hb dJ6_bitCount_0f7a4_38 rfl ?_
  refine lv_topi (fun x_59 ex_59 => ?_)
  have hG := hG.trans (lt_eq ex_59)
  refine lv_iadd hx hb dJ6_bitCount_0f7a4_39 ?_
  refine lv_topi (fun x_60 ex_60 => ?_)
  have hG := hG.trans (lt_eq ex_60)
  refine lv_istore_n (lv' := [(0, .int x_60)]) hx hb dJ6_bitCount_0f7a4_40 rfl hl (by decide) rfl (fun ls hl => ?_)
  refine lv_iload_n hx hb dJ6_bitCount_0f7a4_41 rfl (lv_at hl 0 rfl) ?_
  refine lv_iload_n hx hb dJ6_bitCount_0f7a4_42 rfl (lv_at hl 0 rfl) ?_
  refine lv_bipush (v := 16) hx hb dJ6_bitCount_0f7a4_43 (by decide) ?_
  refine lv_iushr hx hb dJ6_bitCount_0f7a4_45 rfl ?_
  refine lv_topi (fun x_61 ex_61 => ?_)
  have hG := hG.trans (lt_eq ex_61)
  refine lv_iadd hx hb dJ6_bitCount_0f7a4_46 ?_
  refine lv_topi (fun x_62 ex_62 => ?_)
  have hG := hG.trans (lt_eq ex_62)
  refine lv_istore_n (lv' := [(0, .int x_62)]) hx hb dJ6_bitCount_0f7a4_47 rfl hl (by decide) rfl (fun ls hl => ?_)
  refine lv_iload_n hx hb dJ6_bitCount_0f7a4_48 rfl (lv_at hl 0 rfl) ?_
  refine lv_bipush (v := 63) hx hb dJ6_bitCount_0f7a4_49 (by decide) ?_
  refine lv_iand hx hb dJ6_bitCount_0f7a4_51 ?_
  refine lv_topi (fun x_63 ex_63 => ?_)
  have hG := hG.trans (lt_eq ex_63)
  exact wq_i hx hb hr 0 ⟨⟨trivial, trivial⟩, hG⟩ (fun t ht hW => trivial) hS dJ6_bitCount_0f7a4_52 hlocks
set_option maxHeartbeats 4000000 in
set_option maxRecDepth 100000 in
theorem tX7_ones (l : Launch) (dC : Nat → ClassId) (dI : Nat → Nat → Nat) (sz : Nat) (p0 : Int32)  : Met l yX7_ones (Cond.code yX7_ones cX7_ones 3 (some .int) :: wG) ({ frames := 0, cells := 0, slots := 0, locals := 0 }) (va_Pc [.int p0] (Pw dC dI sz [] [])) (va_Qi (fun (r : Int32) (_ : Nat) => True ∧ True) (fun (_ : Nat) (_ : State) => True) (va_A [] sz)) 0 0 (va_A [] sz) := by
  refine Met.ofW (cc := cX7_ones) (maxL := 3) (ret := (some .int)) pnX7 rfl ?_
  intro p e s m args below meth c s₁ B hml hv
  obtain ⟨rfl, hsz, hP, hK, hD0, hE⟩ := hv
  have hx := B.exec
  have hb := B.bytes
  have hr := B.returns
  have hts : ∀ w ∈ wG, w.before ([.int p0] : List Value).toArray s = true := fun w h => atoms_spec (ws := Cond.code yX7_ones cX7_ones 3 (some .int) :: wG) B.pre w (List.mem_cons_of_mem _ h)
  have hown : s.vm.findClass RX7 = some m.cls := own_of B.named rfl
  have hlocks := B.notSynchronized
  subst hsz
  generalize hAe : va_A [] s.heap.size = A at hE ⊢
  have hA : ∀ q : Nat, s.heap.size ≤ q → A q := fun q h => by rw [← hAe]; exact Or.inr h
  have hS : va_S A s.heap s.heap [] := va_S.rf
  have hl := lv_entry ([.int p0]) (n := 3) (Nat.le_of_ble_eq_true rfl)
  rw [lg_entry_eq]
  generalize (lg_sl ([.int p0]) ++ List.replicate (3 - (lg_sl ([.int p0])).length) Slot.unset).toArray = ls at hl ⊢
  have hl : lv_has ls 3 [(0, .int p0)] := hl
  refine lv_iconst (v := 0) hx hb dX7_ones_0 (by decide) ?_
  refine lv_istore_n (lv' := [(1, .int 0), (0, .int p0)]) hx hb dX7_ones_1 rfl hl (by decide) rfl (fun ls hl => ?_)
  refine lv_iconst (v := 0) hx hb dX7_ones_2 (by decide) ?_
  refine lv_istore_n (lv' := [(2, .int 0), (1, .int 0), (0, .int p0)]) hx hb dX7_ones_3 rfl hl (by decide) rfl (fun ls hl => ?_)
  have hl := lv_sub hl (l' := [(2, .int 0), (1, .int 0), (0, .int p0)]) [0, 1, 2] rfl
  have key : ∀ (n_66 : Nat) (z_64 : Int32) (z_65 : Int32) (H : Heap) (locs : List Loc) (ls : Array Slot), 0 ≤ z_65.toInt ∧ z_65.toInt ≤ 18 → (18 - z_65.toInt).toNat < n_66 → va_S A s.heap H locs → lv_has ls 3 [(2, .int z_65), (1, .int z_64), (0, .int p0)] → W p l e (headSpec (Cond.code yX7_ones cX7_ones 3 (some .int) :: wG) ({ frames := 0, cells := 0, slots := 0, locals := 0 })).room s m ([.int p0] : List Value).toArray below meth c H locs 0 0 (MQ below (va_Qi (fun (r : Int32) (_ : Nat) => True ∧ True) (fun (_ : Nat) (_ : State) => True) A) ([.int p0] : List Value).toArray s 0 0 A) (F0 m 4 ls []) := by
    intro n_66
    induction n_66 with
    | zero => intro z_64 z_65 H locs ls hi0 hm; exact absurd hm (Nat.not_lt_zero _)
    | succ n_66 ih =>
      intro z_64 z_65 H locs ls hi0 hm hS hl
      have rg_z_65 := fb_rng z_65
      refine lv_iload_n hx hb dX7_ones_4 rfl (lv_at hl 0 rfl) ?_
      refine lv_bipush (v := 18) hx hb dX7_ones_5 (by decide) ?_
      refine lv_icmp_ge (tgt := 24) hx hb dX7_ones_7 (by decide) (fun c_67 => ?_) (fun c_67 => ?_)
      · skip
        have gc_67 := ti_le c_67 kc_18 rfl
        refine lv_iload_n hx hb dX7_ones_24 rfl (lv_at hl 1 rfl) ?_
        exact wq_i hx hb hr 0 ⟨trivial, trivial⟩ (fun t ht hW => trivial) hS dX7_ones_25 hlocks
      · skip
        have gc_67 := ti_nle c_67 kc_18 rfl
        refine lv_iload_n hx hb dX7_ones_10 rfl (lv_at hl 1 rfl) ?_
        refine lv_iload_n hx hb dX7_ones_11 rfl (lv_at hl 2 rfl) ?_
        refine lv_iload_n hx hb dX7_ones_12 rfl (lv_at hl 0 rfl) ?_
        refine lv_ishr hx hb dX7_ones_13 ?_
        refine lv_topi (fun x_68 ex_68 => ?_)
        refine lv_iconst (v := 1) hx hb dX7_ones_14 (by decide) ?_
        refine lv_iand hx hb dX7_ones_15 ?_
        refine lv_topi (fun x_69 ex_69 => ?_)
        refine lv_iadd hx hb dX7_ones_16 ?_
        refine lv_topi (fun x_70 ex_70 => ?_)
        refine lv_istore_n (lv' := [(1, .int x_70), (2, .int z_65), (0, .int p0)]) hx hb dX7_ones_17 rfl hl (by decide) rfl (fun ls hl => ?_)
        obtain ⟨x_71, ex_71⟩ : ∃ z : Int32, z = z_65 + Int32.ofInt 1 := ⟨_, rfl⟩
        have vx_71 : x_71.toInt = z_65.toInt + 1 := ti_add (y := 1) ex_71 rfl kc_1 (om_81d93db8 rg_z_65.1) (om_a6833ec3 gc_67)
        refine lv_iinc (v := x_71) (lv' := [(2, .int x_71), (1, .int x_70), (0, .int p0)]) hx hb dX7_ones_18 hl (k := 1) rfl ex_71.symm (by decide) rfl (fun ls hl => ?_)
        refine lv_goto (tgt := 4) hx hb dX7_ones_21 (by decide) ?_
        exact ih x_70 x_71 _ _ _ (by omega) (by omega) hS (lv_sub hl [0, 1, 2] rfl)
  exact key (((18 - (0 : Int32).toInt).toNat) + 1) 0 0 _ _ _ (by first | omega | decide) (Nat.lt_add_one _) hS hl
set_option maxHeartbeats 4000000 in
set_option maxRecDepth 100000 in
theorem tX6_greatestCommon (l : Launch) (dC : Nat → ClassId) (dI : Nat → Nat → Nat) (sz : Nat) (p0 : Int64) (p1 : Int64)  : Met l yX6_greatestCommon (Cond.code yX6_greatestCommon cX6_greatestCommon 11 (some .long) :: wG) ({ frames := 0, cells := 0, slots := 0, locals := 0 }) (va_Pc [.long p0, .long p1] (Pw dC dI sz [] [])) (va_Ql (fun (r : Int64) (_ : Nat) => (True ∧ True) ∧ PX6_greatestCommon p0 p1 = r) (fun (_ : Nat) (_ : State) => True) (va_A [] sz)) 0 0 (va_A [] sz) := by
  refine Met.ofW (cc := cX6_greatestCommon) (maxL := 11) (ret := (some .long)) pnX6 rfl ?_
  intro p e s m args below meth c s₁ B hml hv
  obtain ⟨rfl, hsz, hP, hK, hD0, hE⟩ := hv
  have hx := B.exec
  have hb := B.bytes
  have hr := B.returns
  have hts : ∀ w ∈ wG, w.before ([.long p0, .long p1] : List Value).toArray s = true := fun w h => atoms_spec (ws := Cond.code yX6_greatestCommon cX6_greatestCommon 11 (some .long) :: wG) B.pre w (List.mem_cons_of_mem _ h)
  have hown : s.vm.findClass RX6 = some m.cls := own_of B.named rfl
  have hlocks := B.notSynchronized
  subst hsz
  generalize hAe : va_A [] s.heap.size = A at hE ⊢
  have hA : ∀ q : Nat, s.heap.size ≤ q → A q := fun q h => by rw [← hAe]; exact Or.inr h
  have hS : va_S A s.heap s.heap [] := va_S.rf
  have hl := lv_entry ([.long p0, .long p1]) (n := 11) (Nat.le_of_ble_eq_true rfl)
  rw [lg_entry_eq]
  generalize (lg_sl ([.long p0, .long p1]) ++ List.replicate (11 - (lg_sl ([.long p0, .long p1])).length) Slot.unset).toArray = ls at hl ⊢
  have hl : lv_has ls 11 [(0, .long p0), (2, .long p1)] := hl
  have hG := PX6_greatestCommon_eq p0 p1
  refine lv_lload_n hx hb dX6_greatestCommon_0 rfl (lv_at hl 0 rfl) ?_
  refine lv_lstore (lv' := [(4, .long p0), (0, .long p0), (2, .long p1)]) hx hb dX6_greatestCommon_1 hl (by decide) rfl (fun ls hl => ?_)
  refine lv_lload_n hx hb dX6_greatestCommon_3 rfl (lv_at hl 2 rfl) ?_
  refine lv_lstore (lv' := [(6, .long p1), (4, .long p0), (0, .long p0), (2, .long p1)]) hx hb dX6_greatestCommon_4 hl (by decide) rfl (fun ls hl => ?_)
  refine lv_iconst (v := 0) hx hb dX6_greatestCommon_6 (by decide) ?_
  refine lv_istore (lv' := [(8, .int 0), (6, .long p1), (4, .long p0), (0, .long p0), (2, .long p1)]) hx hb dX6_greatestCommon_7 hl (by decide) rfl (fun ls hl => ?_)
  have hl := lv_sub hl (l' := [(8, .int 0), (6, .long p1), (4, .long p0), (0, .long p0), (2, .long p1)]) [0, 1, 2, 3, 4] rfl
  have key : ∀ (n_75 : Nat) (z_72 : Int64) (z_73 : Int64) (z_74 : Int32) (H : Heap) (locs : List Loc) (ls : Array Slot), 0 ≤ z_74.toInt ∧ z_74.toInt ≤ 1000 → (1000 - z_74.toInt).toNat < n_75 → (PX6_greatestCommon p0 p1 = HX6_greatestCommon_0 n_75 z_72 z_73 z_74) → va_S A s.heap H locs → lv_has ls 11 [(8, .int z_74), (6, .long z_73), (4, .long z_72), (0, .long p0), (2, .long p1)] → W p l e (headSpec (Cond.code yX6_greatestCommon cX6_greatestCommon 11 (some .long) :: wG) ({ frames := 0, cells := 0, slots := 0, locals := 0 })).room s m ([.long p0, .long p1] : List Value).toArray below meth c H locs 0 0 (MQ below (va_Ql (fun (r : Int64) (_ : Nat) => (True ∧ True) ∧ PX6_greatestCommon p0 p1 = r) (fun (_ : Nat) (_ : State) => True) A) ([.long p0, .long p1] : List Value).toArray s 0 0 A) (F0 m 9 ls []) := by
    intro n_75
    induction n_75 with
    | zero => intro z_72 z_73 z_74 H locs ls hi0 hm; exact absurd hm (Nat.not_lt_zero _)
    | succ n_75 ih =>
      intro z_72 z_73 z_74 H locs ls hi0 hm hG hS hl
      have hG := hG.trans (HX6_greatestCommon_0_eq _ _ _ _)
      have rg_z_74 := fb_rng z_74
      refine lv_iload hx hb dX6_greatestCommon_9 (lv_at hl 0 rfl) ?_
      refine lv_sipush (v := 1000) hx hb dX6_greatestCommon_11 (by decide) ?_
      refine lv_icmp_ge (tgt := 45) hx hb dX6_greatestCommon_14 (by decide) (fun c_76 => ?_) (fun c_76 => ?_)
      · skip
        have hG := hG.trans (if_pos c_76)
        have gc_76 := ti_le c_76 kc_1000 rfl
        refine lv_lload hx hb dX6_greatestCommon_45 (lv_at hl 2 rfl) ?_
        exact wq_l hx hb hr 0 ⟨⟨trivial, trivial⟩, hG⟩ (fun t ht hW => trivial) hS dX6_greatestCommon_47 hlocks
      · skip
        have hG := hG.trans (if_neg c_76)
        have gc_76 := ti_nle c_76 kc_1000 rfl
        refine lv_lload hx hb dX6_greatestCommon_17 (lv_at hl 1 rfl) ?_
        refine lv_lconst (v := 0) hx hb dX6_greatestCommon_19 (by decide) ?_
        refine W.lcmp hx hb dX6_greatestCommon_20 ?_
        refine lv_topi (fun x_77 ex_77 => ?_)
        have hG := hG.trans (lt_eq ex_77)
        refine lv_if_eq (tgt := 45) hx hb dX6_greatestCommon_21 (by decide) (fun c_78 => ?_) (fun c_78 => ?_)
        · skip
          have hG := hG.trans (if_pos c_78)
          have gc_78 := ti_eq c_78 rfl kc_0
          have ez_c_78 := lg_ze ex_77 c_78
          refine lv_lload hx hb dX6_greatestCommon_45 (lv_at hl 2 rfl) ?_
          exact wq_l hx hb hr 0 ⟨⟨trivial, trivial⟩, hG⟩ (fun t ht hW => trivial) hS dX6_greatestCommon_47 hlocks
        · skip
          have hG := hG.trans (if_neg c_78)
          have gc_78 := ti_ne c_78 rfl kc_0
          have nz_c_78 := lg_nz ex_77 c_78
          refine lv_lload hx hb dX6_greatestCommon_24 (lv_at hl 2 rfl) ?_
          refine lv_lload hx hb dX6_greatestCommon_26 (lv_at hl 1 rfl) ?_
          refine lv_lrem hx hb dX6_greatestCommon_28 nz_c_78 ?_
          refine lv_topl (fun y_79 ey_79 => ?_)
          have hG := hG.trans (lt_eq ey_79)
          refine lv_lstore (lv' := [(9, .long y_79), (8, .int z_74), (6, .long z_73), (4, .long z_72), (0, .long p0), (2, .long p1)]) hx hb dX6_greatestCommon_29 hl (by decide) rfl (fun ls hl => ?_)
          refine lv_lload hx hb dX6_greatestCommon_31 (lv_at hl 2 rfl) ?_
          refine lv_lstore (lv' := [(4, .long z_73), (9, .long y_79), (8, .int z_74), (6, .long z_73), (0, .long p0), (2, .long p1)]) hx hb dX6_greatestCommon_33 hl (by decide) rfl (fun ls hl => ?_)
          refine lv_lload hx hb dX6_greatestCommon_35 (lv_at hl 1 rfl) ?_
          refine lv_lstore (lv' := [(6, .long y_79), (4, .long z_73), (9, .long y_79), (8, .int z_74), (0, .long p0), (2, .long p1)]) hx hb dX6_greatestCommon_37 hl (by decide) rfl (fun ls hl => ?_)
          obtain ⟨x_80, ex_80⟩ : ∃ z : Int32, z = z_74 + Int32.ofInt 1 := ⟨_, rfl⟩
          have hG := hG.trans (lt_eq ex_80)
          have vx_80 : x_80.toInt = z_74.toInt + 1 := ti_add (y := 1) ex_80 rfl kc_1 (om_81d93db8 rg_z_74.1) (om_4f9ff1fb gc_76)
          refine lv_iinc (v := x_80) (lv' := [(8, .int x_80), (6, .long y_79), (4, .long z_73), (9, .long y_79), (0, .long p0), (2, .long p1)]) hx hb dX6_greatestCommon_39 hl (k := 3) rfl ex_80.symm (by decide) rfl (fun ls hl => ?_)
          refine lv_goto (tgt := 9) hx hb dX6_greatestCommon_42 (by decide) ?_
          exact ih z_73 y_79 x_80 _ _ _ (by omega) (by omega) hG hS (lv_sub hl [0, 1, 2, 4, 5] rfl)
  exact key (((1000 - (0 : Int32).toInt).toNat) + 1) p0 p1 0 _ _ _ (by first | omega | decide) (Nat.lt_add_one _) hG hS hl
set_option maxHeartbeats 4000000 in
set_option maxRecDepth 100000 in
theorem tX6_inLowestTerms (l : Launch) (dC : Nat → ClassId) (dI : Nat → Nat → Nat) (sz : Nat) (p0 : Int64) (p1 : Int64) (p2 : Int32)  : Met l yX6_inLowestTerms (Cond.code yX6_inLowestTerms cX6_inLowestTerms 7 (some .long) :: wG) ({ frames := 1, cells := 0, slots := 0, locals := 30 }) (va_Pc [.long p0, .long p1, .int p2] (Pw dC dI sz [] [])) (va_Ql (fun (r : Int64) (_ : Nat) => (True ∧ True) ∧ PX6_inLowestTerms p0 p1 p2 = r) (fun (_ : Nat) (_ : State) => True) (va_A [] sz)) 0 0 (va_A [] sz) := by
  refine Met.ofW (cc := cX6_inLowestTerms) (maxL := 7) (ret := (some .long)) pnX6 rfl ?_
  intro p e s m args below meth c s₁ B hml hv
  obtain ⟨rfl, hsz, hP, hK, hD0, hE⟩ := hv
  have hx := B.exec
  have hb := B.bytes
  have hr := B.returns
  have hts : ∀ w ∈ wG, w.before ([.long p0, .long p1, .int p2] : List Value).toArray s = true := fun w h => atoms_spec (ws := Cond.code yX6_inLowestTerms cX6_inLowestTerms 7 (some .long) :: wG) B.pre w (List.mem_cons_of_mem _ h)
  have hown : s.vm.findClass RX6 = some m.cls := own_of B.named rfl
  have hlocks := B.notSynchronized
  subst hsz
  generalize hAe : va_A [] s.heap.size = A at hE ⊢
  have hA : ∀ q : Nat, s.heap.size ≤ q → A q := fun q h => by rw [← hAe]; exact Or.inr h
  have hS : va_S A s.heap s.heap [] := va_S.rf
  have hl := lv_entry ([.long p0, .long p1, .int p2]) (n := 7) (Nat.le_of_ble_eq_true rfl)
  rw [lg_entry_eq]
  generalize (lg_sl ([.long p0, .long p1, .int p2]) ++ List.replicate (7 - (lg_sl ([.long p0, .long p1, .int p2])).length) Slot.unset).toArray = ls at hl ⊢
  have hl : lv_has ls 7 [(0, .long p0), (2, .long p1), (4, .int p2)] := hl
  have hG := PX6_inLowestTerms_eq p0 p1 p2
  refine lv_lload_n hx hb dX6_inLowestTerms_0 rfl (lv_at hl 0 rfl) ?_
  refine lv_lload_n hx hb dX6_inLowestTerms_1 rfl (lv_at hl 1 rfl) ?_
  refine va_calll (va_runS (As := [.long p0, .long p1]) (rest := []) ⟨hx, hb, hml, hown, hts⟩ (tX6_greatestCommon l dC dI _ p0 p1 ) (va_cwS 2 hts (wd_S wd_638 wd_639 wd_2 (wd_c wd_640)) rfl rfl rfl ds_yX6_greatestCommon_2 ⟨Nat.le_of_ble_eq_true rfl, Nat.le_of_ble_eq_true rfl⟩) ⟨Pw.fb, fun U hU hW => Pn.to hK hE hS hA hU hW⟩ rfl rfl hl.1 rfl (lv_room (Nat.le_of_ble_eq_true rfl)) dX6_inLowestTerms_2 ⟨Nat.le_of_ble_eq_true rfl, Nat.le_of_ble_eq_true rfl⟩) hS (fun q _ h => hA q (Nat.le_trans hS.1 (va_nilA h))) (fun q h => hA q (Nat.le_trans hS.1 (va_nilA h))) (fun r u t H locs ht hvm hw hB hz1 hk1 hS => ?_)
  have hq9 := hw.2
  have hw := hw.1
  obtain ⟨y_81, rfl⟩ : ∃ z, z = r := ⟨_, rfl⟩
  have hq_y_81 := hq9
  have hG := hG.trans (lt_eq hq_y_81.symm)
  refine lv_lstore (lv' := [(5, .long y_81), (0, .long p0), (2, .long p1), (4, .int p2)]) hx hb dX6_inLowestTerms_5 hl (by decide) rfl (fun ls hl => ?_)
  refine lv_lload hx hb dX6_inLowestTerms_7 (lv_at hl 0 rfl) ?_
  refine lv_lconst (v := 0) hx hb dX6_inLowestTerms_9 (by decide) ?_
  refine W.lcmp hx hb dX6_inLowestTerms_10 ?_
  refine lv_topi (fun x_82 ex_82 => ?_)
  have hG := hG.trans (lt_eq ex_82)
  refine lv_if_gt (tgt := 18) hx hb dX6_inLowestTerms_11 (by decide) (fun c_83 => ?_) (fun c_83 => ?_)
  · skip
    have hG := hG.trans (if_pos c_83)
    have gc_83 := ti_lt c_83 kc_0 rfl
    have nz_c_83 := lg_nz ex_82 (fun h => by rw [h] at c_83; exact absurd c_83 (by decide))
    refine lv_iload hx hb dX6_inLowestTerms_18 (lv_at hl 3 rfl) ?_
    refine lv_if_eq (tgt := 27) hx hb dX6_inLowestTerms_20 (by decide) (fun c_84 => ?_) (fun c_84 => ?_)
    · skip
      have hG := hG.trans (if_pos c_84)
      have gc_84 := ti_eq c_84 rfl kc_0
      refine lv_lload_n hx hb dX6_inLowestTerms_27 rfl (lv_at hl 1 rfl) ?_
      refine lv_lload hx hb dX6_inLowestTerms_28 (lv_at hl 0 rfl) ?_
      refine lv_ldiv hx hb dX6_inLowestTerms_30 nz_c_83 ?_
      refine lv_topl (fun y_85 ey_85 => ?_)
      have hG := hG.trans (lt_eq ey_85)
      exact wq_l hx hb hr 0 ⟨⟨trivial, trivial⟩, hG⟩ (fun t ht hW => trivial) hS dX6_inLowestTerms_31 hlocks
    · skip
      have hG := hG.trans (if_neg c_84)
      have gc_84 := ti_ne c_84 rfl kc_0
      refine lv_lload_n hx hb dX6_inLowestTerms_23 rfl (lv_at hl 2 rfl) ?_
      refine lv_goto (tgt := 28) hx hb dX6_inLowestTerms_24 (by decide) ?_
      refine lv_lload hx hb dX6_inLowestTerms_28 (lv_at hl 0 rfl) ?_
      refine lv_ldiv hx hb dX6_inLowestTerms_30 nz_c_83 ?_
      refine lv_topl (fun y_86 ey_86 => ?_)
      have hG := hG.trans (lt_eq ey_86)
      exact wq_l hx hb hr 0 ⟨⟨trivial, trivial⟩, hG⟩ (fun t ht hW => trivial) hS dX6_inLowestTerms_31 hlocks
  · skip
    have hG := hG.trans (if_neg c_83)
    have gc_83 := ti_nlt c_83 kc_0 rfl
    refine lv_ldc2 hx hb hown (hts _ wd_608) dX6_inLowestTerms_14 ?_
    exact wq_l hx hb hr 0 ⟨⟨trivial, trivial⟩, hG⟩ (fun t ht hW => trivial) hS dX6_inLowestTerms_17 hlocks
set_option maxHeartbeats 4000000 in
set_option maxRecDepth 100000 in
theorem tX7_lowest (l : Launch) (dC : Nat → ClassId) (dI : Nat → Nat → Nat) (sz : Nat) (p0 : Int64) (p1 : Int64) (p2 : Int32) (hd : ¬ p1 = 0) : Met l yX7_lowest (Cond.code yX7_lowest cX7_lowest 11 (some .long) :: wG) ({ frames := 0, cells := 0, slots := 0, locals := 0 }) (va_Pc [.long p0, .long p1, .int p2] (Pw dC dI sz [] [])) (va_Ql (fun (r : Int64) (_ : Nat) => (True ∧ True) ∧ PX7_lowest p0 p1 p2 = r) (fun (_ : Nat) (_ : State) => True) (va_A [] sz)) 0 0 (va_A [] sz) := by
  refine Met.ofW (cc := cX7_lowest) (maxL := 11) (ret := (some .long)) pnX7 rfl ?_
  intro p e s m args below meth c s₁ B hml hv
  obtain ⟨rfl, hsz, hP, hK, hD0, hE⟩ := hv
  have hx := B.exec
  have hb := B.bytes
  have hr := B.returns
  have hts : ∀ w ∈ wG, w.before ([.long p0, .long p1, .int p2] : List Value).toArray s = true := fun w h => atoms_spec (ws := Cond.code yX7_lowest cX7_lowest 11 (some .long) :: wG) B.pre w (List.mem_cons_of_mem _ h)
  have hown : s.vm.findClass RX7 = some m.cls := own_of B.named rfl
  have hlocks := B.notSynchronized
  subst hsz
  generalize hAe : va_A [] s.heap.size = A at hE ⊢
  have hA : ∀ q : Nat, s.heap.size ≤ q → A q := fun q h => by rw [← hAe]; exact Or.inr h
  have hS : va_S A s.heap s.heap [] := va_S.rf
  have hl := lv_entry ([.long p0, .long p1, .int p2]) (n := 11) (Nat.le_of_ble_eq_true rfl)
  rw [lg_entry_eq]
  generalize (lg_sl ([.long p0, .long p1, .int p2]) ++ List.replicate (11 - (lg_sl ([.long p0, .long p1, .int p2])).length) Slot.unset).toArray = ls at hl ⊢
  have hl : lv_has ls 11 [(0, .long p0), (2, .long p1), (4, .int p2)] := hl
  have hG := PX7_lowest_eq p0 p1 p2
  refine lv_lload_n hx hb dX7_lowest_0 rfl (lv_at hl 1 rfl) ?_
  refine lv_lstore (lv' := [(5, .long p1), (0, .long p0), (2, .long p1), (4, .int p2)]) hx hb dX7_lowest_1 hl (by decide) rfl (fun ls hl => ?_)
  refine lv_lload_n hx hb dX7_lowest_3 rfl (lv_at hl 1 rfl) ?_
  refine lv_lstore (lv' := [(7, .long p0), (5, .long p1), (0, .long p0), (2, .long p1), (4, .int p2)]) hx hb dX7_lowest_4 hl (by decide) rfl (fun ls hl => ?_)
  have hl := lv_sub hl (l' := [(7, .long p0), (5, .long p1), (0, .long p0), (2, .long p1), (4, .int p2)]) [0, 1, 2, 3, 4] rfl
  have key : ∀ (n_89 : Nat) (z_87 : Int64) (z_88 : Int64) (H : Heap) (locs : List Loc) (ls : Array Slot), (¬ z_87 = 0 ∨ ¬ z_88 = 0) → z_88.toInt.natAbs < n_89 → (PX7_lowest p0 p1 p2 = HX7_lowest_0 p0 p1 p2 n_89 z_87 z_88) → va_S A s.heap H locs → lv_has ls 11 [(7, .long z_88), (5, .long z_87), (0, .long p0), (2, .long p1), (4, .int p2)] → W p l e (headSpec (Cond.code yX7_lowest cX7_lowest 11 (some .long) :: wG) ({ frames := 0, cells := 0, slots := 0, locals := 0 })).room s m ([.long p0, .long p1, .int p2] : List Value).toArray below meth c H locs 0 0 (MQ below (va_Ql (fun (r : Int64) (_ : Nat) => (True ∧ True) ∧ PX7_lowest p0 p1 p2 = r) (fun (_ : Nat) (_ : State) => True) A) ([.long p0, .long p1, .int p2] : List Value).toArray s 0 0 A) (F0 m 6 ls []) := by
    intro n_89
    induction n_89 with
    | zero => intro z_87 z_88 H locs ls hi0 hm; exact absurd hm (Nat.not_lt_zero _)
    | succ n_89 ih =>
      intro z_87 z_88 H locs ls hi0 hm hG hS hl
      have hG := hG.trans (HX7_lowest_0_eq _ _ _ _ _ _)
      refine lv_lload hx hb dX7_lowest_6 (lv_at hl 0 rfl) ?_
      refine lv_lconst (v := 0) hx hb dX7_lowest_8 (by decide) ?_
      refine W.lcmp hx hb dX7_lowest_9 ?_
      refine lv_topi (fun x_90 ex_90 => ?_)
      have hG := hG.trans (lt_eq ex_90)
      refine lv_if_eq (tgt := 31) hx hb dX7_lowest_10 (by decide) (fun c_91 => ?_) (fun c_91 => ?_)
      · skip
        have hG := hG.trans (if_pos c_91)
        have gc_91 := ti_eq c_91 rfl kc_0
        have ez_c_91 := lg_ze ex_90 c_91
        have nx_c_91 : ¬ z_87 = 0 := hi0.elim (fun h => h) (fun h => absurd ez_c_91 h)
        refine lv_iload hx hb dX7_lowest_31 (lv_at hl 4 rfl) ?_
        refine lv_if_eq (tgt := 40) hx hb dX7_lowest_33 (by decide) (fun c_92 => ?_) (fun c_92 => ?_)
        · skip
          have hG := hG.trans (if_pos c_92)
          have gc_92 := ti_eq c_92 rfl kc_0
          refine lv_lload_n hx hb dX7_lowest_40 rfl (lv_at hl 2 rfl) ?_
          refine lv_lload hx hb dX7_lowest_41 (lv_at hl 1 rfl) ?_
          refine lv_ldiv hx hb dX7_lowest_43 nx_c_91 ?_
          refine lv_topl (fun y_93 ey_93 => ?_)
          have hG := hG.trans (lt_eq ey_93)
          exact wq_l hx hb hr 0 ⟨⟨trivial, trivial⟩, hG⟩ (fun t ht hW => trivial) hS dX7_lowest_44 hlocks
        · skip
          have hG := hG.trans (if_neg c_92)
          have gc_92 := ti_ne c_92 rfl kc_0
          refine lv_lload_n hx hb dX7_lowest_36 rfl (lv_at hl 3 rfl) ?_
          refine lv_goto (tgt := 41) hx hb dX7_lowest_37 (by decide) ?_
          refine lv_lload hx hb dX7_lowest_41 (lv_at hl 1 rfl) ?_
          refine lv_ldiv hx hb dX7_lowest_43 nx_c_91 ?_
          refine lv_topl (fun y_94 ey_94 => ?_)
          have hG := hG.trans (lt_eq ey_94)
          exact wq_l hx hb hr 0 ⟨⟨trivial, trivial⟩, hG⟩ (fun t ht hW => trivial) hS dX7_lowest_44 hlocks
      · skip
        have hG := hG.trans (if_neg c_91)
        have gc_91 := ti_ne c_91 rfl kc_0
        have nz_c_91 := lg_nz ex_90 c_91
        refine lv_lload hx hb dX7_lowest_13 (lv_at hl 1 rfl) ?_
        refine lv_lload hx hb dX7_lowest_15 (lv_at hl 0 rfl) ?_
        refine lv_lrem hx hb dX7_lowest_17 nz_c_91 ?_
        refine lv_topl (fun y_95 ey_95 => ?_)
        have hG := hG.trans (lt_eq ey_95)
        refine lv_lstore (lv' := [(9, .long y_95), (7, .long z_88), (5, .long z_87), (0, .long p0), (2, .long p1), (4, .int p2)]) hx hb dX7_lowest_18 hl (by decide) rfl (fun ls hl => ?_)
        refine lv_lload hx hb dX7_lowest_20 (lv_at hl 1 rfl) ?_
        refine lv_lstore (lv' := [(5, .long z_88), (9, .long y_95), (7, .long z_88), (0, .long p0), (2, .long p1), (4, .int p2)]) hx hb dX7_lowest_22 hl (by decide) rfl (fun ls hl => ?_)
        refine lv_lload hx hb dX7_lowest_24 (lv_at hl 1 rfl) ?_
        refine lv_lstore (lv' := [(7, .long y_95), (5, .long z_88), (9, .long y_95), (0, .long p0), (2, .long p1), (4, .int p2)]) hx hb dX7_lowest_26 hl (by decide) rfl (fun ls hl => ?_)
        refine lv_goto (tgt := 6) hx hb dX7_lowest_28 (by decide) ?_
        exact ih z_88 y_95 _ _ _ (Or.inl nz_c_91) (by have q := lg_rem z_87 z_88 nz_c_91; rw [← ey_95] at q; omega) hG hS (lv_sub hl [0, 1, 3, 4, 5] rfl)
  exact key ((p0.toInt.natAbs) + 1) p1 p0 _ _ _ (Or.inl hd) (Nat.lt_add_one _) hG hS hl
