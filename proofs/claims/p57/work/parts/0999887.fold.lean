/-! folds over the parts, in any order -/
section E3
def pf (op : Int32 → Int32 → Int32) (z : Int32) (g : Nat → Int32) : Nat → Int32
  | 0 => z
  | m + 1 => op (pf op z g m) (g m)
theorem pf_congr {op : Int32 → Int32 → Int32} {z : Int32} {g h : Nat → Int32} : ∀ m : Nat, (∀ i : Nat, i < m → g i = h i) → pf op z g m = pf op z h m
  | 0, _ => rfl
  | m + 1, e => by rw [pf, pf, pf_congr m (fun i hi => e i (by omega)), e m (by omega)]
theorem pf_pull {op : Int32 → Int32 → Int32} (hc : ∀ a b c : Int32, op (op a b) c = op (op a c) b) {z : Int32} {g : Nat → Int32} {j : Nat} : ∀ d : Nat, pf op z g (j + 1 + d) = op (pf op z (fun i => if i < j then g i else g (i + 1)) (j + d)) (g j)
  | 0 => by
    have e : pf op z (fun i => if i < j then g i else g (i + 1)) j = pf op z g j := pf_congr j (fun i hi => if_pos hi)
    show pf op z g (j + 1) = op (pf op z (fun i => if i < j then g i else g (i + 1)) j) (g j)
    rw [e]
    rfl
  | d + 1 => by
    have e : (if j + d < j then g (j + d) else g (j + d + 1)) = g (j + 1 + d) := by
      rw [if_neg (by omega), show j + d + 1 = j + 1 + d by omega]
    have q : pf op z (fun i => if i < j then g i else g (i + 1)) (j + (d + 1)) = op (pf op z (fun i => if i < j then g i else g (i + 1)) (j + d)) (g (j + 1 + d)) := by
      rw [← e]
      rfl
    rw [q, hc, ← pf_pull hc d]
    rfl
theorem no_inj : ∀ (q : Nat) (s : Nat → Nat), (∀ i : Nat, i < q + 1 → s i < q) → (∀ i j : Nat, i < q + 1 → j < q + 1 → s i = s j → i = j) → False
  | 0, s, h, _ => absurd (h 0 (by omega)) (by omega)
  | q + 1, s, h, hi => by
    refine no_inj q (fun i => if s i = q then s (q + 1) else s i) (fun i hq => ?_) (fun i j hq hj e => ?_)
    · show (if s i = q then s (q + 1) else s i) < q
      by_cases c : s i = q
      · rw [if_pos c]
        have h1 := h (q + 1) (by omega)
        have h2 : ¬ s (q + 1) = q := fun e => by
          have := hi i (q + 1) (by omega) (by omega) (c.trans e.symm)
          omega
        omega
      · rw [if_neg c]
        have := h i (by omega)
        omega
    · have e : (if s i = q then s (q + 1) else s i) = (if s j = q then s (q + 1) else s j) := e
      by_cases c : s i = q
      · by_cases c2 : s j = q
        · exact hi i j (by omega) (by omega) (c.trans c2.symm)
        · rw [if_pos c, if_neg c2] at e
          have := hi (q + 1) j (by omega) (by omega) e
          omega
      · by_cases c2 : s j = q
        · rw [if_neg c, if_pos c2] at e
          have := hi i (q + 1) (by omega) (by omega) e
          omega
        · rw [if_neg c, if_neg c2] at e
          exact hi i j (by omega) (by omega) e
theorem inj_surj {q : Nat} {s : Nat → Nat} (h1 : ∀ i : Nat, i < q + 1 → s i < q + 1) (h2 : ∀ i j : Nat, i < q + 1 → j < q + 1 → s i = s j → i = j) : ∃ j : Nat, j < q + 1 ∧ s j = q := by
  by_cases c : ∃ j : Nat, j < q + 1 ∧ s j = q
  · exact c
  · exact (no_inj q s (fun i hi => by
      have a := h1 i hi
      have b : ¬ s i = q := fun e => c ⟨i, hi, e⟩
      omega) h2).elim
theorem pf_perm {op : Int32 → Int32 → Int32} (hc : ∀ a b c : Int32, op (op a b) c = op (op a c) b) {z : Int32} {g : Nat → Int32} : ∀ (q : Nat) (s : Nat → Nat), (∀ i : Nat, i < q → s i < q) → (∀ i j : Nat, i < q → j < q → s i = s j → i = j) → pf op z (fun i => g (s i)) q = pf op z g q
  | 0, _, _, _ => rfl
  | q + 1, s, h1, h2 => by
    obtain ⟨j, hj, ej⟩ := inj_surj h1 h2
    obtain ⟨d, hd⟩ : ∃ d : Nat, q = j + d := ⟨q - j, by omega⟩
    have e := pf_pull hc (z := z) (g := fun i => g (s i)) (j := j) d
    rw [show j + 1 + d = q + 1 by omega, ← hd] at e
    have ih := pf_perm hc (z := z) (g := g) q (fun i => if i < j then s i else s (i + 1)) (fun i hi => by
      show (if i < j then s i else s (i + 1)) < q
      by_cases c : i < j
      · rw [if_pos c]
        have a := h1 i (by omega)
        have b : ¬ s i = q := fun x => by have := h2 i j (by omega) hj (x.trans ej.symm); omega
        omega
      · rw [if_neg c]
        have a := h1 (i + 1) (by omega)
        have b : ¬ s (i + 1) = q := fun x => by have := h2 (i + 1) j (by omega) hj (x.trans ej.symm); omega
        omega) (fun i k hi hk x => by
      have x : (if i < j then s i else s (i + 1)) = (if k < j then s k else s (k + 1)) := x
      by_cases c : i < j
      · by_cases c2 : k < j
        · rw [if_pos c, if_pos c2] at x
          exact h2 i k (by omega) (by omega) x
        · rw [if_pos c, if_neg c2] at x
          have := h2 i (k + 1) (by omega) (by omega) x
          omega
      · by_cases c2 : k < j
        · rw [if_neg c, if_pos c2] at x
          have := h2 (i + 1) k (by omega) (by omega) x
          omega
        · rw [if_neg c, if_neg c2] at x
          have := h2 (i + 1) (k + 1) (by omega) (by omega) x
          omega)
    have e2 : pf op z (fun i => if i < j then g (s i) else g (s (i + 1))) q = pf op z g q := by
      rw [← ih]
      refine pf_congr q (fun i hi => ?_)
      show (if i < j then g (s i) else g (s (i + 1))) = g (if i < j then s i else s (i + 1))
      by_cases c : i < j
      · rw [if_pos c, if_pos c]
      · rw [if_neg c, if_neg c]
    rw [e]
    show op (pf op z (fun i => if i < j then g (s i) else g (s (i + 1))) q) (g (s j)) = op (pf op z g q) (g q)
    rw [e2, ej]
/-- the parts as they stand are the parts as told, in another order -/
theorem st_perm {N k q : Nat} {parts pn w o st : Nat → Int32} (h : StR N parts pn w o st) (hk : k < N) (hp : parts k = nI q) (hq : q ≤ 4) : ∃ s : Nat → Nat, (∀ i : Nat, i < q → s i < q) ∧ (∀ i j : Nat, i < q → j < q → s i = s j → i = j) ∧ ∀ i : Nat, i < q → st (4 * k + i) = pn (4 * k + s i) := by
  obtain ⟨-, h1, h2⟩ := h k hk
  rw [hp, nI_toInt (by omega)] at h1 h2
  refine ⟨fun i => (o (4 * k + i)).toInt.toNat, fun i hi => ?_, fun i j hi hj e => ?_, fun i hi => ?_⟩
  · obtain ⟨a, b, -⟩ := h1 i (by omega)
    show (o (4 * k + i)).toInt.toNat < q
    omega
  · have e : (o (4 * k + i)).toInt.toNat = (o (4 * k + j)).toInt.toNat := e
    obtain ⟨a, b, -⟩ := h1 i (by omega)
    obtain ⟨c, d, -⟩ := h1 j (by omega)
    exact h2 i j (by omega) (by omega) ((fz_eq _ _).mpr (by omega))
  · exact (h1 i (by omega)).2.2.symm
def opT (a x : Int32) : Int32 := if a < x + 1 then x + 1 else a
def opM (a x : Int32) : Int32 := if x ≤ a then a else x
def opO (a x : Int32) : Int32 := a ||| x
def opA (a x : Int32) : Int32 := a + x
theorem opO_c (a b c : Int32) : opO (opO a b) c = opO (opO a c) b := by
  unfold opO
  rw [Int32.or_assoc, Int32.or_comm b c, ← Int32.or_assoc]
theorem opA_c (a b c : Int32) : opA (opA a b) c = opA (opA a c) b := by
  unfold opA
  rw [Int32.add_assoc, Int32.add_comm b c, ← Int32.add_assoc]
theorem opT_c (a b c : Int32) : opT (opT a b) c = opT (opT a c) b := by
  unfold opT
  by_cases h1 : a < b + 1
  · by_cases h2 : a < c + 1
    · rw [if_pos h1, if_pos h2]
      by_cases h3 : b + 1 < c + 1
      · rw [if_pos h3, if_neg (fun q => by rw [fz_lt] at h3 q; omega)]
      · rw [if_neg h3]
        by_cases h4 : c + 1 < b + 1
        · rw [if_pos h4]
        · rw [if_neg h4, fz_eq]
          rw [fz_lt] at h3 h4
          omega
    · rw [if_pos h1, if_neg h2, if_pos h1, if_neg (fun q => h2 (by rw [fz_lt] at h1 h2 q ⊢; omega))]
  · by_cases h2 : a < c + 1
    · rw [if_neg h1, if_pos h2, if_neg (fun q => h1 (by rw [fz_lt] at h1 h2 q ⊢; omega))]
    · rw [if_neg h1, if_neg h2, if_neg h1]
theorem sT_pf {steps pn : Nat → Int32} {b : Nat} : ∀ m : Nat, sT steps pn b m = pf opT 0 (fun i => steps (pn (b + i)).toNatClampNeg) m
  | 0 => rfl
  | m + 1 => by rw [sT, pf, sT_pf m]; rfl
theorem sB_pf {below pn : Nat → Int32} {b : Nat} {z : Int32} : ∀ m : Nat, sB below pn b z m = pf opO z (fun i => below (pn (b + i)).toNatClampNeg) m
  | 0 => rfl
  | m + 1 => by rw [sB, pf, sB_pf m]; rfl
end E3
