section
/-! folds over the parts, in any order -/
section E3
def pf (op : Int32 → Int32 → Int32) (z : Int32) (g : Nat → Int32) : Nat → Int32
  | 0 => z
  | m + 1 => op (pf op z g m) (g m)
theorem pf_congr {op : Int32 → Int32 → Int32} {z : Int32} {g h : Nat → Int32} : ∀ m : Nat, (∀ i : Nat, i < m → g i = h i) → pf op z g m = pf op z h m
  | 0, _ => rfl
  | m + 1, e => by rw [pf, pf, pf_congr m (fun i hi => e i (by omega)), e m (by omega)]
theorem pf_pull {op : Int32 → Int32 → Int32} (hc : ∀ a b c : Int32, op (op a b) c = op (op a c) b) {z : Int32} {g : Nat → Int32} {j : Nat} : ∀ d : Nat, pf op z g (j + 1 + d) = op (pf op z (fun i => if i < j then g i else g (i + 1)) (j + d)) (g j)
  | 0 => by
    have e : pf op z (fun i => if i < j then g i else g (i + 1)) j = pf op z g j := pf_congr j (fun i hi => if_pos hi)
    show pf op z g (j + 1) = op (pf op z (fun i => if i < j then g i else g (i + 1)) j) (g j)
    rw [e]
    rfl
  | d + 1 => by
    have e : (if j + d < j then g (j + d) else g (j + d + 1)) = g (j + 1 + d) := by
      rw [if_neg (by omega), show j + d + 1 = j + 1 + d by omega]
    have q : pf op z (fun i => if i < j then g i else g (i + 1)) (j + (d + 1)) = op (pf op z (fun i => if i < j then g i else g (i + 1)) (j + d)) (g (j + 1 + d)) := by
      rw [← e]
      rfl
    rw [q, hc, ← pf_pull hc d]
    rfl
theorem no_inj : ∀ (q : Nat) (s : Nat → Nat), (∀ i : Nat, i < q + 1 → s i < q) → (∀ i j : Nat, i < q + 1 → j < q + 1 → s i = s j → i = j) → False
  | 0, s, h, _ => absurd (h 0 (by omega)) (by omega)
  | q + 1, s, h, hi => by
    refine no_inj q (fun i => if s i = q then s (q + 1) else s i) (fun i hq => ?_) (fun i j hq hj e => ?_)
    · show (if s i = q then s (q + 1) else s i) < q
      by_cases c : s i = q
      · rw [if_pos c]
        have h1 := h (q + 1) (by omega)
        have h2 : ¬ s (q + 1) = q := fun e => by
          have := hi i (q + 1) (by omega) (by omega) (c.trans e.symm)
          omega
        omega
      · rw [if_neg c]
        have := h i (by omega)
        omega
    · have e : (if s i = q then s (q + 1) else s i) = (if s j = q then s (q + 1) else s j) := e
      by_cases c : s i = q
      · by_cases c2 : s j = q
        · exact hi i j (by omega) (by omega) (c.trans c2.symm)
        · rw [if_pos c, if_neg c2] at e
          have := hi (q + 1) j (by omega) (by omega) e
          omega
      · by_cases c2 : s j = q
        · rw [if_neg c, if_pos c2] at e
          have := hi i (q + 1) (by omega) (by omega) e
          omega
        · rw [if_neg c, if_neg c2] at e
          exact hi i j (by omega) (by omega) e
theorem inj_surj {q : Nat} {s : Nat → Nat} (h1 : ∀ i : Nat, i < q + 1 → s i < q + 1) (h2 : ∀ i j : Nat, i < q + 1 → j < q + 1 → s i = s j → i = j) : ∃ j : Nat, j < q + 1 ∧ s j = q := by
  by_cases c : ∃ j : Nat, j < q + 1 ∧ s j = q
  · exact c
  · exact (no_inj q s (fun i hi => by
      have a := h1 i hi
      have b : ¬ s i = q := fun e => c ⟨i, hi, e⟩
      omega) h2).elim
theorem pf_perm {op : Int32 → Int32 → Int32} (hc : ∀ a b c : Int32, op (op a b) c = op (op a c) b) {z : Int32} {g : Nat → Int32} : ∀ (q : Nat) (s : Nat → Nat), (∀ i : Nat, i < q → s i < q) → (∀ i j : Nat, i < q → j < q → s i = s j → i = j) → pf op z (fun i => g (s i)) q = pf op z g q
  | 0, _, _, _ => rfl
  | q + 1, s, h1, h2 => by
    obtain ⟨j, hj, ej⟩ := inj_surj h1 h2
    obtain ⟨d, hd⟩ : ∃ d : Nat, q = j + d := ⟨q - j, by omega⟩
    have e := pf_pull hc (z := z) (g := fun i => g (s i)) (j := j) d
    rw [show j + 1 + d = q + 1 by omega, ← hd] at e
    have ih := pf_perm hc (z := z) (g := g) q (fun i => if i < j then s i else s (i + 1)) (fun i hi => by
      show (if i < j then s i else s (i + 1)) < q
      by_cases c : i < j
      · rw [if_pos c]
        have a := h1 i (by omega)
        have b : ¬ s i = q := fun x => by have := h2 i j (by omega) hj (x.trans ej.symm); omega
        omega
      · rw [if_neg c]
        have a := h1 (i + 1) (by omega)
        have b : ¬ s (i + 1) = q := fun x => by have := h2 (i + 1) j (by omega) hj (x.trans ej.symm); omega
        omega) (fun i k hi hk x => by
      have x : (if i < j then s i else s (i + 1)) = (if k < j then s k else s (k + 1)) := x
      by_cases c : i < j
      · by_cases c2 : k < j
        · rw [if_pos c, if_pos c2] at x
          exact h2 i k (by omega) (by omega) x
        · rw [if_pos c, if_neg c2] at x
          have := h2 i (k + 1) (by omega) (by omega) x
          omega
      · by_cases c2 : k < j
        · rw [if_neg c, if_pos c2] at x
          have := h2 (i + 1) k (by omega) (by omega) x
          omega
        · rw [if_neg c, if_neg c2] at x
          have := h2 (i + 1) (k + 1) (by omega) (by omega) x
          omega)
    have e2 : pf op z (fun i => if i < j then g (s i) else g (s (i + 1))) q = pf op z g q := by
      rw [← ih]
      refine pf_congr q (fun i hi => ?_)
      show (if i < j then g (s i) else g (s (i + 1))) = g (if i < j then s i else s (i + 1))
      by_cases c : i < j
      · rw [if_pos c, if_pos c]
      · rw [if_neg c, if_neg c]
    rw [e]
    show op (pf op z (fun i => if i < j then g (s i) else g (s (i + 1))) q) (g (s j)) = op (pf op z g q) (g q)
    rw [e2, ej]
/-- the parts as they stand are the parts as told, in another order -/
theorem st_perm {N k q : Nat} {parts pn w o st : Nat → Int32} (h : StR N parts pn w o st) (hk : k < N) (hp : parts k = nI q) (hq : q ≤ 4) : ∃ s : Nat → Nat, (∀ i : Nat, i < q → s i < q) ∧ (∀ i j : Nat, i < q → j < q → s i = s j → i = j) ∧ ∀ i : Nat, i < q → st (4 * k + i) = pn (4 * k + s i) := by
  obtain ⟨-, h1, h2⟩ := h k hk
  rw [hp, nI_toInt (by omega)] at h1 h2
  refine ⟨fun i => (o (4 * k + i)).toInt.toNat, fun i hi => ?_, fun i j hi hj e => ?_, fun i hi => ?_⟩
  · obtain ⟨a, b, -⟩ := h1 i (by omega)
    show (o (4 * k + i)).toInt.toNat < q
    omega
  · have e : (o (4 * k + i)).toInt.toNat = (o (4 * k + j)).toInt.toNat := e
    obtain ⟨a, b, -⟩ := h1 i (by omega)
    obtain ⟨c, d, -⟩ := h1 j (by omega)
    exact h2 i j (by omega) (by omega) ((fz_eq _ _).mpr (by omega))
  · exact (h1 i (by omega)).2.2.symm
def opT (a x : Int32) : Int32 := if a < x + 1 then x + 1 else a
def opM (a x : Int32) : Int32 := if x ≤ a then a else x
def opO (a x : Int32) : Int32 := a ||| x
def opA (a x : Int32) : Int32 := a + x
theorem opO_c (a b c : Int32) : opO (opO a b) c = opO (opO a c) b := by
  unfold opO
  rw [Int32.or_assoc, Int32.or_comm b c, ← Int32.or_assoc]
theorem opA_c (a b c : Int32) : opA (opA a b) c = opA (opA a c) b := by
  unfold opA
  rw [Int32.add_assoc, Int32.add_comm b c, ← Int32.add_assoc]
theorem opT_c (a b c : Int32) : opT (opT a b) c = opT (opT a c) b := by
  unfold opT
  by_cases h1 : a < b + 1
  · by_cases h2 : a < c + 1
    · rw [if_pos h1, if_pos h2]
      by_cases h3 : b + 1 < c + 1
      · rw [if_pos h3, if_neg (fun q => by rw [fz_lt] at h3 q; omega)]
      · rw [if_neg h3]
        by_cases h4 : c + 1 < b + 1
        · rw [if_pos h4]
        · rw [if_neg h4, fz_eq]
          rw [fz_lt] at h3 h4
          omega
    · rw [if_pos h1, if_neg h2, if_pos h1, if_neg (fun q => h2 (by rw [fz_lt] at h1 h2 q ⊢; omega))]
  · by_cases h2 : a < c + 1
    · rw [if_neg h1, if_pos h2, if_neg (fun q => h1 (by rw [fz_lt] at h1 h2 q ⊢; omega))]
    · rw [if_neg h1, if_neg h2, if_neg h1]
theorem sT_pf {steps pn : Nat → Int32} {b : Nat} : ∀ m : Nat, sT steps pn b m = pf opT 0 (fun i => steps (pn (b + i)).toNatClampNeg) m
  | 0 => rfl
  | m + 1 => by rw [sT, pf, sT_pf m]; rfl
theorem sB_pf {below pn : Nat → Int32} {b : Nat} {z : Int32} : ∀ m : Nat, sB below pn b z m = pf opO z (fun i => below (pn (b + i)).toNatClampNeg) m
  | 0 => rfl
  | m + 1 => by rw [sB, pf, sB_pf m]; rfl
end E3
end
section
/-! a node's steps, words below, wholes above: on both sides -/
section E4
theorem mx_eq {v : Nat → Int32} : ∀ m : Nat, (∀ i : Nat, i < m → 0 ≤ (v i).toInt ∧ (v i).toInt ≤ 17) → -1 ≤ (pf opM (-1) v m).toInt ∧ (pf opM (-1) v m).toInt ≤ 17 ∧ 1 + pf opM (-1) v m = pf opT 0 v m
  | 0, _ => ⟨by show -1 ≤ (-1 : Int32).toInt; decide, by show (-1 : Int32).toInt ≤ 17; decide, by show (1 : Int32) + (-1) = 0; decide⟩
  | m + 1, h => by
    obtain ⟨a, b, c⟩ := mx_eq m (fun i hi => h i (by omega))
    obtain ⟨d, e⟩ := h m (by omega)
    have c2 : pf opT 0 v (m + 1) = opT (1 + pf opM (-1) v m) (v m) := by rw [c]; rfl
    have c3 : pf opM (-1) v (m + 1) = opM (pf opM (-1) v m) (v m) := rfl
    rw [c2, c3]
    generalize pf opM (-1) v m = A at a b
    generalize v m = x at d e
    have e1 : ((1 : Int32) + A).toInt = 1 + A.toInt := by rw [fb_addI (by rw [kc_1]; omega) (by rw [kc_1]; omega), kc_1]
    have e2 : (x + (1 : Int32)).toInt = x.toInt + 1 := by rw [fb_addI (by rw [kc_1]; omega) (by rw [kc_1]; omega), kc_1]
    unfold opM opT
    by_cases g : x ≤ A
    · have g' := (fz_le _ _).mp g
      rw [if_pos g, if_neg (fun q => by rw [fz_lt, e1, e2] at q; omega)]
      exact ⟨a, b, rfl⟩
    · have g' : ¬ x.toInt ≤ A.toInt := fun q => g ((fz_le _ _).mpr q)
      rw [if_neg g, if_pos (by rw [fz_lt, e1, e2]; omega)]
      exact ⟨by omega, e, Int32.add_comm _ _⟩
theorem pfT_b {v : Nat → Int32} {K : Nat} (hK : K ≤ 1000) : ∀ m : Nat, (∀ i : Nat, i < m → 0 ≤ (v i).toInt ∧ (v i).toInt < (K : Int)) → 0 ≤ (pf opT 0 v m).toInt ∧ (pf opT 0 v m).toInt ≤ (K : Int)
  | 0, _ => ⟨by show 0 ≤ (0 : Int32).toInt; rw [kc_0]; exact Int.le_refl _, by show (0 : Int32).toInt ≤ _; rw [kc_0]; omega⟩
  | m + 1, h => by
    obtain ⟨a, b⟩ := pfT_b hK m (fun i hi => h i (by omega))
    obtain ⟨d, e⟩ := h m (by omega)
    have c3 : pf opT 0 v (m + 1) = opT (pf opT 0 v m) (v m) := rfl
    rw [c3]
    generalize pf opT 0 v m = A at a b
    generalize v m = x at d e
    have e2 : (x + (1 : Int32)).toInt = x.toInt + 1 := by rw [fb_addI (by rw [kc_1]; omega) (by rw [kc_1]; omega), kc_1]
    unfold opT
    by_cases g : A < x + 1
    · rw [if_pos g, e2]; omega
    · rw [if_neg g]; exact ⟨a, b⟩
section LP
variable {F9 : (Nat → Int32) → (Nat → Int32) → Int32 → Int32} {r st : Nat → Int32} {k q : Nat} {v : Nat → Int32}
theorem down_loop (hk : k < 18) (hq : q ≤ 4) (hm : r (27 + k) = nI q) (hv : ∀ i : Nat, i < q → F9 r st (st (4 * k + i)) = v i) : ∀ (m i f : Nat), q - i = m → i ≤ q → m < f → HX7_downOf_0 F9 r st (nI k) f (nI i) (pf opM (-1) v i) = 1 + pf opM (-1) v q := by
  intro m
  induction m with
  | zero =>
    intro i f hr hi hf
    obtain ⟨f, rfl⟩ : ∃ g, f = g + 1 := ⟨f - 1, by omega⟩
    obtain rfl : i = q := by omega
    rw [HX7_downOf_0_eq]
    dsimp only [lt_]
    rw [show (27 : Int32) + nI k = nI (27 + k) from nI_add 27 k, nI_clamp (by omega), hm, if_pos (nI_le (by omega) (by omega))]
  | succ m ih =>
    intro i f hr hi hf
    obtain ⟨f, rfl⟩ : ∃ g, f = g + 1 := ⟨f - 1, by omega⟩
    rw [HX7_downOf_0_eq]
    dsimp only [lt_]
    rw [show (27 : Int32) + nI k = nI (27 + k) from nI_add 27 k, nI_clamp (by omega), hm, if_neg (by rw [nI_leI (by omega) (by omega)]; omega), nI_m4' (by omega), nI_add, nI_clamp (by omega), hv i (by omega), nI_o1]
    have e : pf opM (-1) v (i + 1) = if v i ≤ pf opM (-1) v i then pf opM (-1) v i else v i := rfl
    by_cases c : v i ≤ pf opM (-1) v i
    · rw [if_pos c] at e
      rw [if_pos c, ← ih (i + 1) f (by omega) (by omega) (by omega), e]
    · rw [if_neg c] at e
      rw [if_neg c, ← ih (i + 1) f (by omega) (by omega) (by omega), e]
theorem below_loop {z : Int32} (hk : k < 18) (hq : q ≤ 4) (hm : r (27 + k) = nI q) (hv : ∀ i : Nat, i < q → F9 r st (st (4 * k + i)) = v i) : ∀ (m i f : Nat), q - i = m → i ≤ q → m < f → HX7_wordsBelow_0 F9 r st (nI k) f (nI i) (pf opO z v i) = pf opO z v q := by
  intro m
  induction m with
  | zero =>
    intro i f hr hi hf
    obtain ⟨f, rfl⟩ : ∃ g, f = g + 1 := ⟨f - 1, by omega⟩
    obtain rfl : i = q := by omega
    rw [HX7_wordsBelow_0_eq]
    dsimp only [lt_]
    rw [show (27 : Int32) + nI k = nI (27 + k) from nI_add 27 k, nI_clamp (by omega), hm, if_pos (nI_le (by omega) (by omega))]
  | succ m ih =>
    intro i f hr hi hf
    obtain ⟨f, rfl⟩ : ∃ g, f = g + 1 := ⟨f - 1, by omega⟩
    rw [HX7_wordsBelow_0_eq]
    dsimp only [lt_]
    rw [show (27 : Int32) + nI k = nI (27 + k) from nI_add 27 k, nI_clamp (by omega), hm, if_neg (by rw [nI_leI (by omega) (by omega)]; omega), nI_m4' (by omega), nI_add, nI_clamp (by omega), hv i (by omega), nI_o1]
    exact ih (i + 1) f (by omega) (by omega) (by omega)
theorem ways_loop {z : Int32} (hk : k < 18) (hq : q ≤ 4) (hm : r (27 + k) = nI q) (hv : ∀ i : Nat, i < q → F9 r st (st (4 * k + i)) = v i) : ∀ (m i f : Nat), q - i = m → i ≤ q → m < f → HX7_wholeOf_0 F9 r st (nI k) f (nI i) (pf opA z v i) = pf opA z v q := by
  intro m
  induction m with
  | zero =>
    intro i f hr hi hf
    obtain ⟨f, rfl⟩ : ∃ g, f = g + 1 := ⟨f - 1, by omega⟩
    obtain rfl : i = q := by omega
    rw [HX7_wholeOf_0_eq]
    dsimp only [lt_]
    rw [show (27 : Int32) + nI k = nI (27 + k) from nI_add 27 k, nI_clamp (by omega), hm, if_pos (nI_le (by omega) (by omega))]
  | succ m ih =>
    intro i f hr hi hf
    obtain ⟨f, rfl⟩ : ∃ g, f = g + 1 := ⟨f - 1, by omega⟩
    rw [HX7_wholeOf_0_eq]
    dsimp only [lt_]
    rw [show (27 : Int32) + nI k = nI (27 + k) from nI_add 27 k, nI_clamp (by omega), hm, if_neg (by rw [nI_leI (by omega) (by omega)]; omega), nI_m4' (by omega), nI_add, nI_clamp (by omega), hv i (by omega), nI_o1]
    exact ih (i + 1) f (by omega) (by omega) (by omega)
end LP
def opW (k n : Nat) (a x : Int32) : Int32 := if x = nI k then a ||| ((1 : Int32) <<< (nI n &&& 31)) else a ||| 0
theorem opW_c (k n : Nat) (a b c : Int32) : opW k n (opW k n a b) c = opW k n (opW k n a c) b := by
  unfold opW
  by_cases h1 : b = nI k
  · by_cases h2 : c = nI k
    · rw [if_pos h1, if_pos h2, if_pos h2, if_pos h1]
    · rw [if_pos h1, if_neg h2, if_neg h2, if_pos h1, Int32.or_zero, Int32.or_zero]
  · by_cases h2 : c = nI k
    · rw [if_neg h1, if_pos h2, if_pos h2, if_neg h1, Int32.or_zero, Int32.or_zero]
    · rw [if_neg h1, if_neg h2, if_neg h2, if_neg h1]
theorem sA1_pf {pn : Nat → Int32} {k n : Nat} {v : Int32} : ∀ m : Nat, sA1 pn k n v m = pf (opW k n) v (fun i => pn (4 * n + i)) m
  | 0 => rfl
  | m + 1 => by
    rw [sA1, sA1_pf m]
    show _ = opW k n (pf (opW k n) v (fun i => pn (4 * n + i)) m) (pn (4 * n + m))
    unfold opW
    by_cases h : pn (4 * n + m) = nI k
    · rw [if_pos h, if_pos h]
    · rw [if_neg h, if_neg h, Int32.or_zero]
theorem wh_in {r st : Nat → Int32} {k n q : Nat} {z : Int32} {K : Int32 → Int32 → Int32} (hn : n < 18) (hq : q ≤ 4) (hm : r (27 + n) = nI q) : ∀ (m i f : Nat), q - i = m → i ≤ q → m < f → HX7_wholesOf_1 r st (nI k) (nI n) K f (nI i) (pf (opW k n) z (fun j => st (4 * n + j)) i) = K (nI (n + 1)) (pf (opW k n) z (fun j => st (4 * n + j)) q) := by
  intro m
  induction m with
  | zero =>
    intro i f hr hi hf
    obtain ⟨f, rfl⟩ : ∃ g, f = g + 1 := ⟨f - 1, by omega⟩
    obtain rfl : i = q := by omega
    rw [HX7_wholesOf_1_eq]
    dsimp only [lt_]
    rw [show (27 : Int32) + nI n = nI (27 + n) from nI_add 27 n, nI_clamp (by omega), hm, if_pos (nI_le (by omega) (by omega)), nI_o1]
  | succ m ih =>
    intro i f hr hi hf
    obtain ⟨f, rfl⟩ : ∃ g, f = g + 1 := ⟨f - 1, by omega⟩
    rw [HX7_wholesOf_1_eq]
    dsimp only [lt_]
    rw [show (27 : Int32) + nI n = nI (27 + n) from nI_add 27 n, nI_clamp (show 27 + n < 2 ^ 31 by omega), hm, if_neg (by rw [nI_leI (by omega) (by omega)]; omega), nI_m4' (by omega), nI_add, nI_clamp (show 4 * n + i < 2 ^ 31 by omega), nI_o1]
    have e : pf (opW k n) z (fun j => st (4 * n + j)) (i + 1) = if st (4 * n + i) = nI k then pf (opW k n) z (fun j => st (4 * n + j)) i ||| ((1 : Int32) <<< (nI n &&& 31)) else pf (opW k n) z (fun j => st (4 * n + j)) i ||| 0 := rfl
    by_cases c : st (4 * n + i) = nI k
    · rw [if_pos c] at e
      rw [if_pos c, ← e]
      exact ih (i + 1) f (by omega) (by omega) (by omega)
    · rw [if_neg c] at e
      rw [if_neg c, ← e]
      exact ih (i + 1) f (by omega) (by omega) (by omega)
section NQ
variable {N : Nat} {words unsures slips throne said unit : Int32} {kind parts pn wt tw uw uo r told w o st ws steps below above : Nat → Int32}
theorem many_q (hC : CR N words unsures slips throne said kind parts pn wt tw uw uo r told) {k q : Nat} (hk : k < N) (hp : parts k = nI q) : r (27 + k) = nI q := (hC.k hk).2.1.symm.trans hp
theorem steps_b (hI : CI N unit kind parts pn wt ws steps below above) : ∀ (n k : Nat), k < n → k < N → 0 ≤ (steps k).toInt ∧ (steps k).toInt ≤ (k : Int)
  | 0, k, h, _ => absurd h (by omega)
  | n + 1, k, h, hk => by
    have hN := hI.1
    obtain ⟨q, hp, hD⟩ := hI.2.1 k hk
    rw [hD.2.2.1, sT_pf]
    refine pfT_b (K := k) (by omega) q (fun i hi => ?_)
    obtain ⟨j, j1, j2⟩ := hD.2.2.2.2.1 i hi
    show 0 ≤ (steps (pn (4 * k + i)).toNatClampNeg).toInt ∧ _
    rw [j2, nI_clamp (by omega)]
    obtain ⟨a, b⟩ := steps_b hI n j (by omega) (by omega)
    exact ⟨a, by omega⟩
theorem down_eq (hC : CR N words unsures slips throne said kind parts pn wt tw uw uo r told) (hS : StR N parts pn w o st) (hI : CI N unit kind parts pn wt ws steps below above) : ∀ (n k : Nat), k < n → k < N → PX7_downOf n r st (nI k) = steps k
  | 0, k, h, _ => absurd h (by omega)
  | n + 1, k, h, hk => by
    have hN := hI.1
    obtain ⟨q, hp, hD⟩ := hI.2.1 k hk
    obtain ⟨s, s1, s2, s3⟩ := st_perm hS hk hp hD.1
    have hv : ∀ i : Nat, i < q → PX7_downOf n r st (st (4 * k + i)) = (fun i => steps (pn (4 * k + s i)).toNatClampNeg) i := fun i hi => by
      obtain ⟨j, j1, j2⟩ := hD.2.2.2.2.1 (s i) (s1 i hi)
      show _ = steps (pn (4 * k + s i)).toNatClampNeg
      rw [s3 i hi, j2, nI_clamp (by omega)]
      exact down_eq hC hS hI n j (by omega) (by omega)
    have e := down_loop (F9 := PX7_downOf n) (by omega) hD.1 (many_q hC hk hp) hv q 0 (((4 - (0 : Int32).toInt).toNat) + 1) rfl (by omega) (by rw [kc_0]; have := hD.1; omega)
    rw [nI_0] at e
    rw [PX7_downOf_eq]
    refine Eq.trans e ?_
    rw [hD.2.2.1, sT_pf, ← pf_perm opT_c (g := fun i => steps (pn (4 * k + i)).toNatClampNeg) q s s1 s2]
    refine (mx_eq q (fun i hi => ?_)).2.2
    obtain ⟨j, j1, j2⟩ := hD.2.2.2.2.1 (s i) (s1 i hi)
    show 0 ≤ (steps (pn (4 * k + s i)).toNatClampNeg).toInt ∧ _
    rw [j2, nI_clamp (by omega)]
    obtain ⟨a, b⟩ := steps_b hI 18 j (by omega) (by omega)
    exact ⟨a, by omega⟩
set_option maxRecDepth 100000 in
theorem below_step (hC : CR N words unsures slips throne said kind parts pn wt tw uw uo r told) (hS : StR N parts pn w o st) {n k q : Nat} (hk : k < N) (hp : parts k = nI q) (hD : ND k q kind pn wt ws steps below) : PX7_wordsBelow (n + 1) r st (nI k) = pf opO (if kind k = 0 then (1 : Int32) <<< (nI k &&& 31) else 0) (fun i => PX7_wordsBelow n r st (pn (4 * k + i))) q := by
  have hN := hC.N.2.1
  have hq := hD.1
  obtain ⟨s, s1, s2, s3⟩ := st_perm hS hk hp hD.1
  have e : ∀ z : Int32, HX7_wordsBelow_0 (PX7_wordsBelow n) r st (nI k) (((4 - (0 : Int32).toInt).toNat) + 1) (nI 0) z = pf opO z (fun i => PX7_wordsBelow n r st (pn (4 * k + s i))) q := fun z => below_loop (z := z) (F9 := PX7_wordsBelow n) (v := fun i => PX7_wordsBelow n r st (pn (4 * k + s i))) (by omega) hD.1 (many_q hC hk hp) (fun i hi => by rw [s3 i hi]) q 0 (((4 - (0 : Int32).toInt).toNat) + 1) rfl (by omega) (by rw [kc_0]; omega)
  rw [nI_0] at e
  have hc : (nI (9 + k)).toNatClampNeg = 9 + k := nI_clamp (by omega)
  rw [PX7_wordsBelow_eq]
  simp only [lt_ap]
  rw [show (9 : Int32) + nI k = nI (9 + k) from nI_add 9 k, hc, ← (hC.k hk).1, e, e]
  by_cases h0 : kind k = 0
  · rw [if_pos h0, if_pos h0]
    exact pf_perm opO_c (g := fun i => PX7_wordsBelow n r st (pn (4 * k + i))) q s s1 s2
  · rw [if_neg h0, if_neg h0]
    exact pf_perm opO_c (g := fun i => PX7_wordsBelow n r st (pn (4 * k + i))) q s s1 s2
theorem below_eq (hC : CR N words unsures slips throne said kind parts pn wt tw uw uo r told) (hS : StR N parts pn w o st) (hI : CI N unit kind parts pn wt ws steps below above) (n : Nat) : ∀ k : Nat, k < n → k < N → PX7_wordsBelow n r st (nI k) = below k := by
  have hN := hI.1
  induction n with
  | zero => intro k h; exact absurd h (by omega)
  | succ n ih =>
    intro k h hk
    obtain ⟨q, hp, hD⟩ := hI.2.1 k hk
    rw [below_step hC hS hk hp hD, hD.2.2.2.1, sB_pf]
    refine pf_congr q (fun i hi => ?_)
    obtain ⟨j, j1, j2⟩ := hD.2.2.2.2.1 i hi
    show PX7_wordsBelow n r st (pn (4 * k + i)) = below (pn (4 * k + i)).toNatClampNeg
    rw [j2, nI_clamp (show j < 2 ^ 31 by omega)]
    exact ih j (by omega) (by omega)
theorem wholes_loop (hC : CR N words unsures slips throne said kind parts pn wt tw uw uo r told) (hS : StR N parts pn w o st) (hI : CI N unit kind parts pn wt ws steps below above) {k : Nat} : ∀ (m n f : Nat), N - n = m → n ≤ N → m < f → HX7_wholesOf_0 r st (nI k) f (nI n) (sA parts pn k n) = sA parts pn k N := by
  have hN := hI.1
  have hr := hC.N.2.2
  intro m
  induction m with
  | zero =>
    intro n f hm hn hf
    obtain ⟨f, rfl⟩ : ∃ g, f = g + 1 := ⟨f - 1, by omega⟩
    obtain rfl : n = N := by omega
    rw [HX7_wholesOf_0_eq]
    dsimp only [lt_]
    rw [one_cl, hr, if_pos (nI_le (by omega) (by omega))]
  | succ m ih =>
    intro n f hm hn hf
    obtain ⟨f, rfl⟩ : ∃ g, f = g + 1 := ⟨f - 1, by omega⟩
    obtain ⟨q, hp, hD⟩ := hI.2.1 n (by omega)
    obtain ⟨s, s1, s2, s3⟩ := st_perm hS (show n < N by omega) hp hD.1
    have hq := hD.1
    rw [HX7_wholesOf_0_eq]
    dsimp only [lt_]
    rw [one_cl, hr, if_neg (by rw [nI_leI (by omega) (by omega)]; omega)]
    have e := wh_in (st := st) (k := k) (z := sA parts pn k n) (K := fun a b => HX7_wholesOf_0 r st (nI k) f a b) (show n < 18 by omega) hq (many_q hC (show n < N by omega) hp) q 0 (((2147483647 - (0 : Int32).toInt).toNat) + 1) rfl (by omega) (by rw [kc_0]; omega)
    rw [nI_0] at e
    refine Eq.trans e ?_
    have e2 : pf (opW k n) (sA parts pn k n) (fun j => st (4 * n + j)) q = sA parts pn k (n + 1) := by
      rw [sA, hp, nI_clamp (by omega), sA1_pf, ← pf_perm (opW_c k n) (g := fun i => pn (4 * n + i)) q s s1 s2]
      exact pf_congr q (fun i hi => s3 i hi)
    rw [e2]
    exact ih (n + 1) f (by omega) (by omega) (by omega)
theorem wholes_eq (hC : CR N words unsures slips throne said kind parts pn wt tw uw uo r told) (hS : StR N parts pn w o st) (hI : CI N unit kind parts pn wt ws steps below above) {k : Nat} (hk : k < N) : PX7_wholesOf r st (nI k) = above k := by
  have hN := hI.1
  have e := wholes_loop hC hS hI (k := k) N 0 (((2147483647 - (0 : Int32).toInt).toNat) + 1) rfl (by omega) (by rw [kc_0]; omega)
  rw [nI_0] at e
  rw [PX7_wholesOf_eq, hI.2.2.2 k hk]
  exact e
end NQ
section NJ
variable {nodes words unsures slips throne said : Int32} {kind parts pn wt tw uw uo w o : Nat → Int32} {ic : Int32} {iw0 io0 iw1 io1 iw2 io2 : Nat → Int32} {ac : Int32} {an ao as : Nat → Int32} {hc : Int32} {r told st und kept : Nat → Int32} {undos images : Int32} {unit : Int32} {ws steps below above : Nat → Int32}
theorem node_join (h : Rel nodes words unsures slips throne said kind parts pn wt tw uw uo w o ic iw0 io0 iw1 io1 iw2 io2 ac an ao as hc r told st und kept undos images) (hx : CIS nodes unit kind parts pn wt ws steps below above) {p0 p1 q6 rf q7 t1 t2 : Int32} (e6 : PX6_node nodes kind parts steps below above p0 p1 = (q6, rf)) (e7 : PX7_node hc r st p0 p1 = (q7, t1, t2)) : q6 = q7 ∧ rf = t2 := by
  have key : ∃ q f t : Int32, PX6_node nodes kind parts steps below above p0 p1 = (q, f) ∧ PX7_node hc r st p0 p1 = (q, t, f) := by
    rcases h with ⟨rfl, h0⟩ | ⟨N, c, d, rfl, rfl, rfl, rfl, hc, rfl, rfl, hd, hC, hS, hU, hI⟩
    · obtain ⟨h2, h3, h4, h5, h6, h7, rfl, h8, h9⟩ := h0
      refine ⟨-1, 1, 0, ?_, ?_⟩
      · rw [PX6_node_eq, PX6_lacksNode_eq]
        dsimp only [lt_]
        rw [hn_0, if_neg (show ¬ (0 : Int32) = 1 by decide), un2_eq rfl, if_neg (show ¬ (1 : Int32) = 0 by decide)]
      · rw [PX7_node_eq, PX7_good_eq, un2_eq rfl]
        dsimp only [lt_]
        rw [rn_0, if_neg (show ¬ (0 : Int32) = 1 by decide), no_eq, un2_eq rfl]
    · obtain ⟨hN0, hN, hr⟩ := hC.N
      obtain ⟨M, hM, hX⟩ := hx
      obtain rfl : N = M := (nI_eq (by omega) (by have := hX.1; omega)).mp hM
      by_cases hn : 0 ≤ p0.toInt ∧ p0.toInt < (N : Int)
      · obtain ⟨k, hk, rfl⟩ := nd_of hN hn
        have k9 : (9 : Int32) + nI k = nI (9 + k) := nI_add 9 k
        have k27 : (27 : Int32) + nI k = nI (27 + k) := nI_add 27 k
        have c0 : (nI k).toNatClampNeg = k := nI_clamp (by omega)
        have e6 : PX6_node (nI N) kind parts steps below above (nI k) p1 = sw_ p1 0 [(kind k, 0), (parts k, 0), (steps k, 0), (below k, 0), (above k, 0)] (-1, 1) := by
          rw [PX6_node_eq, PX6_lacksNode_eq]
          dsimp only [lt_]
          rw [hn_eq hN, if_pos hn, if_pos rfl, un2_eq rfl, if_pos rfl, c0, PX6_refuse_eq, un2_eq rfl]
        have e7 : PX7_node 1 r st (nI k) p1 = if 0 ≤ p1.toInt ∧ p1.toInt ≤ 4 then sw_ p1 0 [(kind k, 0, 0), (parts k, 0, 0), (steps k, 0, 0), (below k, 0, 0)] (above k, 0, 0) else (-1, 0, 1) := by
          rw [PX7_node_eq, PX7_good_eq, un2_eq rfl]
          dsimp only [lt_]
          rw [rn_eq hN0 hN hr, if_pos hn, if_pos rfl, in_eq, kc_0, kc_4, k9, k27, nI_clamp (show 9 + k < 2 ^ 31 by omega), nI_clamp (show 27 + k < 2 ^ 31 by omega), ← (hC.k hk).1, ← (hC.k hk).2.1, down_eq hC hS hX 18 k (by omega) hk, below_eq hC hS hX 18 k (by omega) hk, wholes_eq hC hS hX hk, no_eq, un2_eq rfl]
          by_cases hv : 0 ≤ p1.toInt ∧ p1.toInt ≤ 4
          · rw [if_pos hv, if_pos hv, if_neg (show ¬ (1 : Int32) = 0 by decide)]
          · rw [if_neg hv, if_neg hv, if_pos rfl]
        rw [e6, e7]
        by_cases hv : 0 ≤ p1.toInt ∧ p1.toInt ≤ 4
        · rw [if_pos hv]
          rcases (show p1.toInt = 0 ∨ p1.toInt = 1 ∨ p1.toInt = 2 ∨ p1.toInt = 3 ∨ p1.toInt = 4 by omega) with q | q | q | q | q
          · exact ⟨kind k, 0, 0, sw_in (j := 0) (by omega) rfl, sw_in (j := 0) (by omega) rfl⟩
          · exact ⟨parts k, 0, 0, sw_in (j := 1) (by omega) rfl, sw_in (j := 1) (by omega) rfl⟩
          · exact ⟨steps k, 0, 0, sw_in (j := 2) (by omega) rfl, sw_in (j := 2) (by omega) rfl⟩
          · exact ⟨below k, 0, 0, sw_in (j := 3) (by omega) rfl, sw_in (j := 3) (by omega) rfl⟩
          · exact ⟨above k, 0, 0, sw_in (j := 4) (by omega) rfl, sw_out (by exact Or.inr (by show ((0 : Int) + (4 : Nat) ≤ _); omega))⟩
        · rw [if_neg hv]
          refine ⟨-1, 1, 0, ?_, rfl⟩
          by_cases q : p1.toInt < 0
          · exact sw_out (Or.inl q)
          · exact sw_out (Or.inr (by show ((0 : Int) + (5 : Nat) ≤ _); omega))
      · refine ⟨-1, 1, 0, ?_, ?_⟩
        · rw [PX6_node_eq, PX6_lacksNode_eq]
          dsimp only [lt_]
          rw [hn_eq hN, if_neg hn, if_neg (show ¬ (0 : Int32) = 1 by decide), un2_eq rfl, if_neg (show ¬ (1 : Int32) = 0 by decide)]
        · rw [PX7_node_eq, PX7_good_eq, un2_eq rfl]
          dsimp only [lt_]
          rw [rn_eq hN0 hN hr, if_neg hn, if_neg (show ¬ (0 : Int32) = 1 by decide), no_eq, un2_eq rfl]
  obtain ⟨q, f, t, g6, g7⟩ := key
  have x := g6.symm.trans e6
  have y := g7.symm.trans e7
  simp only [Prod.mk.injEq] at x y
  obtain ⟨rfl, rfl⟩ := x
  obtain ⟨rfl, -, rfl⟩ := y
  exact ⟨rfl, rfl⟩
end NJ
end E4
end
section
/-! the court that stands keeps what a court that was read keeps -/
section E5
def QC (C : Int32 × Int32 × Int32 × Int32 × Int32 × (Nat → Int32) × (Nat → Int32) × Int32 × Int32 × Int32 × Int32 × Int32 × Int32 × Int32 × Int32 × Int64 × Int32 × Int32 × Int32 × (Nat → Int64) × Int32 × Int32 × Int32 × Int32 × Int32 × Int32 × Int32 × Int32 × (Nat → Int32) × (Nat → Int32) × (Nat → Int32) × (Nat → Int32) × (Nat → Int32) × (Nat → Int32) × (Nat → Int32) × (Nat → Int32) × (Nat → Int32) × (Nat → Int32) × (Nat → Int32)) : Prop := ¬ C.1 = -1 → CIS C.2.2.2.2.2.2.2.2.2.2.2.2.2.2.2.2.2.2.2.2.1 C.2.2.2.2.2.2.2.2.2.2.2.2.2.2.2.2.2.2.2.2.2.2.2.2.2.2.2.1 C.2.2.2.2.2.2.2.2.2.2.2.2.2.2.2.2.2.2.2.2.2.2.2.2.2.2.2.2.1 C.2.2.2.2.2.2.2.2.2.2.2.2.2.2.2.2.2.2.2.2.2.2.2.2.2.2.2.2.2.1 C.2.2.2.2.2.2.2.2.2.2.2.2.2.2.2.2.2.2.2.2.2.2.2.2.2.2.2.2.2.2.1 C.2.2.2.2.2.2.2.2.2.2.2.2.2.2.2.2.2.2.2.2.2.2.2.2.2.2.2.2.2.2.2.1 C.2.2.2.2.2.2.2.2.2.2.2.2.2.2.2.2.2.2.2.2.2.2.2.2.2.2.2.2.2.2.2.2.1 C.2.2.2.2.2.2.2.2.2.2.2.2.2.2.2.2.2.2.2.2.2.2.2.2.2.2.2.2.2.2.2.2.2.2.1 C.2.2.2.2.2.2.2.2.2.2.2.2.2.2.2.2.2.2.2.2.2.2.2.2.2.2.2.2.2.2.2.2.2.2.2.1 C.2.2.2.2.2.2.2.2.2.2.2.2.2.2.2.2.2.2.2.2.2.2.2.2.2.2.2.2.2.2.2.2.2.2.2.2.1
theorem court_Q (iK_imageCount : Int32) (iK_latestFault : Int32) (iK_latestPlace : Int32) (fS_worths : Nat → Int32) (fS_order : Nat → Int32) (iA_count : Int32) (iR_faultNumber : Int32) (iR_faultPlace : Int32) (iR_tapeSize : Int32) (fR_tape : Nat → Int32) (iR_end : Int32) (iR_tokenKind : Int32) (iR_tokenFrom : Int32) (iR_tokenTo : Int32) (iR_tokenName : Int64) (iR_tokenKey : Int32) (iR_tokenWhole : Int32) (iR_courtTold : Int32) (fR_names : Nat → Int64) (fR_keys : Nat → Int64) (iD_nodes : Int32) (iD_words : Int32) (iD_chances : Int32) (iD_unsures : Int32) (iD_slips : Int32) (iD_throneNode : Int32) (iD_saidWorth : Int32) (iD_unit : Int32) (fD_kind : Nat → Int32) (fD_parts : Nat → Int32) (fD_partNodes : Nat → Int32) (fD_weights : Nat → Int32) (fD_weightSums : Nat → Int32) (fD_toldWorths : Nat → Int32) (fD_steps : Nat → Int32) (fD_below : Nat → Int32) (fD_above : Nat → Int32) (fD_unsureWords : Nat → Int32) (fD_unsureWorths : Nat → Int32) (p0 : Int32) : QC (PX6_court iK_imageCount iK_latestFault iK_latestPlace fS_worths fS_order iA_count iR_faultNumber iR_faultPlace iR_tapeSize fR_tape iR_end iR_tokenKind iR_tokenFrom iR_tokenTo iR_tokenName iR_tokenKey iR_tokenWhole iR_courtTold fR_names fR_keys iD_nodes iD_words iD_chances iD_unsures iD_slips iD_throneNode iD_saidWorth iD_unit fD_kind fD_parts fD_partNodes fD_weights fD_weightSums fD_toldWorths fD_steps fD_below fD_above fD_unsureWords fD_unsureWorths p0) := by
  rw [PX6_court_eq]
  have hrf : ∀ q : Int32, PX6_refuse q = (-1, q) := fun q => PX6_refuse_eq q
  refine ite_Q (fun _ => ?_) (fun _ => ite_Q (fun _ => ?_) (fun _ => ?_))
  · rw [un2_eq (hrf 2)]; exact fun q => absurd rfl q
  · refine un32_Q (fun a0 a1 a2 a3 a4 a5 a6 a7 a8 a9 a10 a11 a12 a13 a14 a15 a16 a17 a18 a19 a20 a21 a22 a23 a24 a25 a26 a27 a28 a29 a30 a31 e => ite_Q (fun _ => ?_) (fun h0 => ?_))
    · rw [un2_eq (hrf 4)]; exact fun q => absurd rfl q
    · refine un2_Q (fun _ _ _ => lt_Q (fun _ _ => ?_))
      have g := reads_Q' e h0
      exact fun _ => g
  · rw [un2_eq (hrf 2)]; exact fun q => absurd rfl q
theorem ct_joinC {T : Nat → Int32} {keys : Nat → Int64} {ts lf ic ac p : Int32} {w o : Nat → Int32} {nodes : Int32} {words : Int32} {unsures : Int32} {slips : Int32} {throne : Int32} {said : Int32} {kind : Nat → Int32} {parts : Nat → Int32} {pn : Nat → Int32} {wt : Nat → Int32} {tw : Nat → Int32} {uw : Nat → Int32} {uo : Nat → Int32} {unit : Int32} {ws : Nat → Int32} {steps : Nat → Int32} {below : Nat → Int32} {above : Nat → Int32} {r6 : Int32} {a6 : Int32} {l6 : Int32} {ic6 : Int32} {w6 : Nat → Int32} {o6 : Nat → Int32} {ac6 : Int32} {f6 : Int32} {nodesD : Int32} {wordsD : Int32} {unsuresD : Int32} {slipsD : Int32} {throneD : Int32} {saidD : Int32} {kindD : Nat → Int32} {partsD : Nat → Int32} {pnD : Nat → Int32} {wtD : Nat → Int32} {twD : Nat → Int32} {uwD : Nat → Int32} {uoD : Nat → Int32} {unitD : Int32} {wsD : Nat → Int32} {stepsD : Nat → Int32} {belowD : Nat → Int32} {aboveD : Nat → Int32} {nodesN : Int32} {wordsN : Int32} {unsuresN : Int32} {slipsN : Int32} {throneN : Int32} {saidN : Int32} {kindN : Nat → Int32} {partsN : Nat → Int32} {pnN : Nat → Int32} {wtN : Nat → Int32} {twN : Nat → Int32} {uwN : Nat → Int32} {uoN : Nat → Int32} {unitN : Int32} {wsN : Nat → Int32} {stepsN : Nat → Int32} {belowN : Nat → Int32} {aboveN : Nat → Int32} (hx : CIS nodes unit kind parts pn wt ws steps below above) (h6 : CtCX T keys ts lf ic w o ac p r6 a6 l6 ic6 w6 o6 ac6 f6 nodesD wordsD unsuresD slipsD throneD saidD kindD partsD pnD wtD twD uwD uoD unitD wsD stepsD belowD aboveD) (hg : CtG r6 nodes words unsures slips throne said kind parts pn wt tw uw uo unit ws steps below above nodesD wordsD unsuresD slipsD throneD saidD kindD partsD pnD wtD twD uwD uoD unitD wsD stepsD belowD aboveD nodesN wordsN unsuresN slipsN throneN saidN kindN partsN pnN wtN twN uwN uoN unitN wsN stepsN belowN aboveN) : CIS nodesN unitN kindN partsN pnN wtN wsN stepsN belowN aboveN := by
  obtain ⟨x_iK_latestPlace, x_iR_faultNumber, x_iR_faultPlace, x_iR_end, x_iR_tokenKind, x_iR_tokenFrom, x_iR_tokenTo, x_iR_tokenName, x_iR_tokenKey, x_iR_tokenWhole, x_iR_courtTold, x_fR_names, x_iD_nodes, x_iD_words, x_iD_chances, x_iD_unsures, x_iD_slips, x_iD_throneNode, x_iD_saidWorth, x_iD_unit, x_fD_kind, x_fD_parts, x_fD_partNodes, x_fD_weights, x_fD_weightSums, x_fD_toldWorths, x_fD_steps, x_fD_below, x_fD_above, x_fD_unsureWords, x_fD_unsureWorths, x⟩ := h6
  have hq := court_Q ic lf x_iK_latestPlace w o ac x_iR_faultNumber x_iR_faultPlace ts T x_iR_end x_iR_tokenKind x_iR_tokenFrom x_iR_tokenTo x_iR_tokenName x_iR_tokenKey x_iR_tokenWhole x_iR_courtTold x_fR_names keys x_iD_nodes x_iD_words x_iD_chances x_iD_unsures x_iD_slips x_iD_throneNode x_iD_saidWorth x_iD_unit x_fD_kind x_fD_parts x_fD_partNodes x_fD_weights x_fD_weightSums x_fD_toldWorths x_fD_steps x_fD_below x_fD_above x_fD_unsureWords x_fD_unsureWorths p
  generalize PX6_court ic lf x_iK_latestPlace w o ac x_iR_faultNumber x_iR_faultPlace ts T x_iR_end x_iR_tokenKind x_iR_tokenFrom x_iR_tokenTo x_iR_tokenName x_iR_tokenKey x_iR_tokenWhole x_iR_courtTold x_fR_names keys x_iD_nodes x_iD_words x_iD_chances x_iD_unsures x_iD_slips x_iD_throneNode x_iD_saidWorth x_iD_unit x_fD_kind x_fD_parts x_fD_partNodes x_fD_weights x_fD_weightSums x_fD_toldWorths x_fD_steps x_fD_below x_fD_above x_fD_unsureWords x_fD_unsureWorths p = C at x hq
  obtain ⟨x1, x11, x4, x2, x6, x7, x8, x3, x21, x22, x24, x25, x26, x27, x29, x30, x31, x32, x34, x38, x39, x28, x33, x35, x36, x37⟩ := x
  rcases hg with ⟨-, rfl, rfl, rfl, rfl, rfl, rfl, rfl, rfl, rfl, rfl, rfl, rfl, rfl, rfl, rfl, rfl, rfl, rfl⟩ | ⟨q, rfl, rfl, rfl, rfl, rfl, rfl, rfl, rfl, rfl, rfl, rfl, rfl, rfl, rfl, rfl, rfl, rfl, rfl⟩
  · exact hx
  · have g := hq (fun e => by rw [x1] at e; rw [e, m1_int] at q; omega)
    rw [x21, x28, x29, x30, x31, x32, x33, x35, x36, x37] at g
    exact g
end E5
end
section
/-! the weight of a part of chance, on both sides -/
section E6
theorem pw_loop {parts pn wt r told : Nat → Int32} {k q : Nat} {v : Int32} (hk : k < 18) (hq : q ≤ 4) (hp : parts k = nI q) (hm : r (27 + k) = nI q) (he : ∀ i : Nat, i < q → pn (4 * k + i) = told (4 * k + i) ∧ wt (4 * k + i) = r (45 + 4 * k + i)) : ∀ (m i f g : Nat), q - i = m → i ≤ q → m < f → m < g → (∃ j : Nat, j < q ∧ pn (4 * k + j) = v ∧ HX1_placeOfPart_0 parts pn (nI k) v f (nI i) = nI j ∧ HX7_weightOf_0 r told (nI k) v g (nI i) = wt (4 * k + j)) ∨ (HX1_placeOfPart_0 parts pn (nI k) v f (nI i) = -1 ∧ HX7_weightOf_0 r told (nI k) v g (nI i) = 0) := by
  intro m
  induction m with
  | zero =>
    intro i f g hr hi hf hg
    obtain ⟨f, rfl⟩ : ∃ g, f = g + 1 := ⟨f - 1, by omega⟩
    obtain ⟨g, rfl⟩ : ∃ f, g = f + 1 := ⟨g - 1, by omega⟩
    obtain rfl : i = q := by omega
    refine Or.inr ⟨?_, ?_⟩
    · rw [HX1_placeOfPart_0_eq]
      dsimp only [lt_]
      rw [nI_clamp (by omega), hp, if_pos (nI_le (by omega) (by omega))]
    · rw [HX7_weightOf_0_eq]
      dsimp only [lt_]
      rw [show (27 : Int32) + nI k = nI (27 + k) from nI_add 27 k, nI_clamp (by omega), hm, if_pos (nI_le (by omega) (by omega))]
  | succ m ih =>
    intro i f g hr hi hf hg
    obtain ⟨f, rfl⟩ : ∃ g, f = g + 1 := ⟨f - 1, by omega⟩
    obtain ⟨g, rfl⟩ : ∃ f, g = f + 1 := ⟨g - 1, by omega⟩
    obtain ⟨e1, e2⟩ := he i (by omega)
    have a : HX1_placeOfPart_0 parts pn (nI k) v (f + 1) (nI i) = if pn (4 * k + i) = v then nI i else HX1_placeOfPart_0 parts pn (nI k) v f (nI (i + 1)) := by
      rw [HX1_placeOfPart_0_eq]
      dsimp only [lt_]
      rw [nI_clamp (show k < 2 ^ 31 by omega), hp, if_neg (by rw [nI_leI (by omega) (by omega)]; omega), nI_m4 (by omega), nI_add, nI_clamp (show 4 * k + i < 2 ^ 31 by omega), nI_o1]
    have b : HX7_weightOf_0 r told (nI k) v (g + 1) (nI i) = if pn (4 * k + i) = v then wt (4 * k + i) else HX7_weightOf_0 r told (nI k) v g (nI (i + 1)) := by
      rw [HX7_weightOf_0_eq]
      dsimp only [lt_]
      rw [show (27 : Int32) + nI k = nI (27 + k) from nI_add 27 k, nI_clamp (show 27 + k < 2 ^ 31 by omega), hm, if_neg (by rw [nI_leI (by omega) (by omega)]; omega), nI_m4' (by omega), show (45 : Int32) + nI (4 * k) = nI (45 + 4 * k) from nI_add 45 (4 * k), nI_add, nI_add, nI_clamp (show 4 * k + i < 2 ^ 31 by omega), nI_clamp (show 45 + 4 * k + i < 2 ^ 31 by omega), nI_o1, ← e1, ← e2]
    rw [a, b]
    by_cases c : pn (4 * k + i) = v
    · rw [if_pos c, if_pos c]
      exact Or.inl ⟨i, by omega, c, rfl, rfl⟩
    · rw [if_neg c, if_neg c]
      exact ih (i + 1) f g (by omega) (by omega) (by omega) (by omega)
theorem pw_eq {parts pn wt r told : Nat → Int32} {k q : Nat} {v : Int32} (hk : k < 18) (hq : q ≤ 4) (hp : parts k = nI q) (hm : r (27 + k) = nI q) (he : ∀ i : Nat, i < q → pn (4 * k + i) = told (4 * k + i) ∧ wt (4 * k + i) = r (45 + 4 * k + i)) : (∃ j : Nat, j < q ∧ pn (4 * k + j) = v ∧ PX1_placeOfPart parts pn (nI k) v = nI j ∧ PX7_weightOf r told (nI k) v = wt (4 * k + j)) ∨ (PX1_placeOfPart parts pn (nI k) v = -1 ∧ PX7_weightOf r told (nI k) v = 0) := by
  have k18 : (18 : Int32).toInt = 18 := by decide
  rw [PX1_placeOfPart_eq, if_neg (nI_pos (by omega)), if_pos (show nI k < 18 by rw [fz_lt, k18, nI_toInt (by omega)]; omega), PX7_weightOf_eq]
  have e := pw_loop (v := v) hk hq hp hm he q 0 (((2147483647 - (0 : Int32).toInt).toNat) + 1) (((2147483647 - (0 : Int32).toInt).toNat) + 1) rfl (by omega) (by rw [kc_0]; omega) (by rw [kc_0]; omega)
  rw [nI_0] at e
  exact e
section WJ
variable {nodes words unsures slips throne said : Int32} {kind parts pn wt tw uw uo w o : Nat → Int32} {ic : Int32} {iw0 io0 iw1 io1 iw2 io2 : Nat → Int32} {ac : Int32} {an ao as : Nat → Int32} {hc : Int32} {r told st und kept : Nat → Int32} {undos images : Int32} {unit : Int32} {ws steps below above : Nat → Int32}
theorem weight_join (h : Rel nodes words unsures slips throne said kind parts pn wt tw uw uo w o ic iw0 io0 iw1 io1 iw2 io2 ac an ao as hc r told st und kept undos images) (hx : CIS nodes unit kind parts pn wt ws steps below above) (hO : ∀ k i : Nat, (k : Int) < (r 1).toInt → (r (9 + k)).toInt = 3 → (i : Int) < (r (27 + k)).toInt → 1 ≤ (r (45 + 4 * k + i)).toInt) {p0 p1 q6 rf q7 t1 t2 : Int32} (e6 : PX6_weight nodes kind parts pn wt p0 p1 = (q6, rf)) (e7 : PX7_weight hc r told p0 p1 = (q7, t1, t2)) : q6 = q7 ∧ rf = t2 := by
  have key : ∃ q f t : Int32, PX6_weight nodes kind parts pn wt p0 p1 = (q, f) ∧ PX7_weight hc r told p0 p1 = (q, t, f) := by
    rcases h with ⟨rfl, h0⟩ | ⟨N, c, d, rfl, rfl, rfl, rfl, hc, rfl, rfl, hd, hC, hS, hU, hI⟩
    · obtain ⟨h2, h3, h4, h5, h6, h7, rfl, h8, h9⟩ := h0
      refine ⟨-1, 1, 0, ?_, ?_⟩
      · rw [PX6_weight_eq, PX6_lacksNode_eq]
        dsimp only [lt_]
        rw [hn_0, if_neg (show ¬ (0 : Int32) = 1 by decide), un2_eq rfl, if_neg (show ¬ (1 : Int32) = 0 by decide)]
      · rw [PX7_weight_eq, PX7_good_eq, un2_eq rfl]
        dsimp only [lt_]
        rw [rn_0, if_neg (show ¬ (0 : Int32) = 1 by decide), no_eq, un2_eq rfl]
    · obtain ⟨hN0, hN, hr⟩ := hC.N
      obtain ⟨M, hM, hX⟩ := hx
      obtain rfl : N = M := (nI_eq (by omega) (by have := hX.1; omega)).mp hM
      by_cases hn : 0 ≤ p0.toInt ∧ p0.toInt < (N : Int)
      · obtain ⟨k, hk, rfl⟩ := nd_of hN hn
        obtain ⟨q, hp, hD⟩ := hX.2.1 k hk
        have hq := hD.1
        have hm := many_q hC hk hp
        obtain ⟨hkd, -, -, -, hkw⟩ := hC.k hk
        have c0 : (nI k).toNatClampNeg = k := nI_clamp (by omega)
        have k9 : (9 : Int32) + nI k = nI (9 + k) := nI_add 9 k
        have he : ∀ i : Nat, i < q → pn (4 * k + i) = told (4 * k + i) ∧ wt (4 * k + i) = r (45 + 4 * k + i) := fun i hi => hkw i (by rw [hp, nI_toInt (by omega)]; omega)
        have e6 : PX6_weight (nI N) kind parts pn wt (nI k) p1 = if kind k = 3 then (if (0 : Int32) ≤ PX1_placeOfPart parts pn (nI k) p1 then (wt (nI k * (4 : Int32) + PX1_placeOfPart parts pn (nI k) p1).toNatClampNeg, 0) else (-1, 1)) else (-1, 1) := by
          rw [PX6_weight_eq, PX6_lacksNode_eq]
          dsimp only [lt_]
          rw [hn_eq hN, if_pos hn, if_pos rfl, un2_eq rfl, if_pos rfl, c0, PX6_refuse_eq, un2_eq rfl]
        have e7 : PX7_weight 1 r told (nI k) p1 = if PX7_isNode 1 r p1 = 1 then (if kind k = 3 then (if PX7_weightOf r told (nI k) p1 = 0 then (-1, 0, 1) else (PX7_weightOf r told (nI k) p1, 0, 0)) else (-1, 0, 1)) else (-1, 0, 1) := by
          rw [PX7_weight_eq, PX7_good_eq, un2_eq rfl]
          dsimp only [lt_]
          rw [rn_eq hN0 hN hr (nI k), if_pos hn, if_pos rfl, k9, nI_clamp (show 9 + k < 2 ^ 31 by omega), ← hkd, no_eq, un2_eq rfl]
        rw [e6, e7]
        rcases pw_eq (v := p1) (by omega) hq hp hm he with ⟨j, j1, j2, j3, j4⟩ | ⟨j3, j4⟩
        · obtain ⟨y, y1, y2⟩ := hD.2.2.2.2.1 j j1
          have hn1 : PX7_isNode 1 r p1 = 1 := by
            rw [rn_eq hN0 hN hr, if_pos (by rw [← j2, y2, nI_toInt (by omega)]; omega)]
          rw [if_pos hn1, j3, j4]
          by_cases h3 : kind k = 3
          · have hw : ¬ wt (4 * k + j) = 0 := fun e => by
              have z := hO k j (by rw [hr, nI_toInt (by omega)]; omega) (by rw [← hkd, h3]; exact kc_3) (by rw [hm, nI_toInt (by omega)]; omega)
              rw [← (he j j1).2, e, kc_0] at z
              omega
            rw [if_pos h3, if_pos h3, if_pos (show (0 : Int32) ≤ nI j by rw [fz_le, kc_0, nI_toInt (by omega)]; omega), if_neg hw, nI_m4 (by omega), nI_add, nI_clamp (by omega)]
            exact ⟨_, _, _, rfl, rfl⟩
          · rw [if_neg h3, if_neg h3]
            exact ⟨_, _, _, rfl, rfl⟩
        · rw [j3, j4, if_neg (show ¬ (0 : Int32) ≤ -1 by decide), if_pos rfl]
          refine ⟨-1, 1, 0, ?_, ?_⟩
          · by_cases h3 : kind k = 3
            · rw [if_pos h3]
            · rw [if_neg h3]
          · by_cases h1 : PX7_isNode 1 r p1 = 1
            · rw [if_pos h1]
              by_cases h3 : kind k = 3
              · rw [if_pos h3]
              · rw [if_neg h3]
            · rw [if_neg h1]
      · refine ⟨-1, 1, 0, ?_, ?_⟩
        · rw [PX6_weight_eq, PX6_lacksNode_eq]
          dsimp only [lt_]
          rw [hn_eq hN, if_neg hn, if_neg (show ¬ (0 : Int32) = 1 by decide), un2_eq rfl, if_neg (show ¬ (1 : Int32) = 0 by decide)]
        · rw [PX7_weight_eq, PX7_good_eq, un2_eq rfl]
          dsimp only [lt_]
          rw [rn_eq hN0 hN hr p0, if_neg hn, if_neg (show ¬ (0 : Int32) = 1 by decide), no_eq, un2_eq rfl]
  obtain ⟨q, f, t, g6, g7⟩ := key
  have x := g6.symm.trans e6
  have y := g7.symm.trans e7
  simp only [Prod.mk.injEq] at x y
  obtain ⟨rfl, rfl⟩ := x
  obtain ⟨rfl, -, rfl⟩ := y
  exact ⟨rfl, rfl⟩
end WJ
end E6
end
section
/-! how many ways lead down: on both sides -/
section E7
section WQ
variable {N : Nat} {words unsures slips throne said unit : Int32} {kind parts pn wt tw uw uo r told w o st ws steps below above : Nat → Int32}
/-- one step of the reference's reckoning, the parts as told -/
theorem ways_step (hC : CR N words unsures slips throne said kind parts pn wt tw uw uo r told) (hS : StR N parts pn w o st) {n k q : Nat} (hk : k < N) (hp : parts k = nI q) (hD : ND k q kind pn wt ws steps below) : PX7_wholeOf (n + 1) r st (nI k) = pf opA (if kind k = 0 then 1 else 0) (fun i => PX7_wholeOf n r st (pn (4 * k + i))) q := by
  have hN := hC.N.2.1
  have hq := hD.1
  obtain ⟨s, s1, s2, s3⟩ := st_perm hS hk hp hD.1
  have e : ∀ z : Int32, HX7_wholeOf_0 (PX7_wholeOf n) r st (nI k) (((4 - (0 : Int32).toInt).toNat) + 1) (nI 0) z = pf opA z (fun i => PX7_wholeOf n r st (pn (4 * k + s i))) q := fun z => ways_loop (z := z) (F9 := PX7_wholeOf n) (v := fun i => PX7_wholeOf n r st (pn (4 * k + s i))) (by omega) hD.1 (many_q hC hk hp) (fun i hi => by rw [s3 i hi]) q 0 (((4 - (0 : Int32).toInt).toNat) + 1) rfl (by omega) (by rw [kc_0]; omega)
  rw [nI_0] at e
  rw [PX7_wholeOf_eq]
  simp only [lt_ap]
  rw [show (9 : Int32) + nI k = nI (9 + k) from nI_add 9 k, nI_clamp (by omega), ← (hC.k hk).1, e, e]
  by_cases h0 : kind k = 0
  · rw [if_pos h0, if_pos h0]
    exact pf_perm opA_c (g := fun i => PX7_wholeOf n r st (pn (4 * k + i))) q s s1 s2
  · rw [if_neg h0, if_neg h0]
    exact pf_perm opA_c (g := fun i => PX7_wholeOf n r st (pn (4 * k + i))) q s s1 s2
theorem ways_fuel (hC : CR N words unsures slips throne said kind parts pn wt tw uw uo r told) (hS : StR N parts pn w o st) (hI : CI N unit kind parts pn wt ws steps below above) (k : Nat) : ∀ (n m : Nat), k < n → k < m → k < N → PX7_wholeOf n r st (nI k) = PX7_wholeOf m r st (nI k) := by
  induction k using Nat.strongRecOn with
  | _ k ih =>
    intro n m h1 h2 hk
    obtain ⟨n, rfl⟩ : ∃ g, n = g + 1 := ⟨n - 1, by omega⟩
    obtain ⟨m, rfl⟩ : ∃ g, m = g + 1 := ⟨m - 1, by omega⟩
    obtain ⟨q, hp, hD⟩ := hI.2.1 k hk
    rw [ways_step hC hS hk hp hD, ways_step hC hS hk hp hD]
    refine pf_congr q (fun i hi => ?_)
    obtain ⟨j, j1, j2⟩ := hD.2.2.2.2.1 i hi
    show PX7_wholeOf n r st (pn (4 * k + i)) = PX7_wholeOf m r st (pn (4 * k + i))
    rw [j2]
    exact ih j j1 n m (by omega) (by omega) (by omega)
theorem wd_in {K : Int32 → (Nat → Int32) → Int32 × (Nat → Int32)} {k q : Nat} {z : Int32} {V : Nat → Int32} (hk : k < 18) (hq : q ≤ 4) (hp : parts k = nI q) (hj : ∀ i : Nat, i < q → ∃ j : Nat, j < k ∧ pn (4 * k + i) = nI j) : ∀ (m i f : Nat) (G : Nat → Int32), q - i = m → i ≤ q → m < f → G k = pf opA z (fun i => V (pn (4 * k + i)).toNatClampNeg) i → (∀ j : Nat, j < k → G j = V j) → ∃ G' : Nat → Int32, HX4_waysDown_1 parts pn (nI k) K f (nI i) G = K (nI (k + 1)) G' ∧ G' k = pf opA z (fun i => V (pn (4 * k + i)).toNatClampNeg) q ∧ ∀ j : Nat, j < k → G' j = V j := by
  intro m
  induction m with
  | zero =>
    intro i f G hr hi hf hG hV
    obtain ⟨f, rfl⟩ : ∃ g, f = g + 1 := ⟨f - 1, by omega⟩
    obtain rfl : i = q := by omega
    refine ⟨G, ?_, hG, hV⟩
    rw [HX4_waysDown_1_eq]
    dsimp only [lt_]
    rw [nI_clamp (by omega), hp, if_pos (nI_le (by omega) (by omega)), nI_o1]
  | succ m ih =>
    intro i f G hr hi hf hG hV
    obtain ⟨f, rfl⟩ : ∃ g, f = g + 1 := ⟨f - 1, by omega⟩
    obtain ⟨j, j1, j2⟩ := hj i (by omega)
    have a : HX4_waysDown_1 parts pn (nI k) K (f + 1) (nI i) G = HX4_waysDown_1 parts pn (nI k) K f (nI (i + 1)) (upd G k (G k + G j)) := by
      rw [HX4_waysDown_1_eq]
      dsimp only [lt_]
      rw [nI_clamp (show k < 2 ^ 31 by omega), hp, if_neg (by rw [nI_leI (by omega) (by omega)]; omega), nI_m4 (by omega), nI_add, nI_clamp (show 4 * k + i < 2 ^ 31 by omega), j2, nI_clamp (show j < 2 ^ 31 by omega), nI_o1]
    rw [a]
    refine ih (i + 1) f _ (by omega) (by omega) (by omega) ?_ (fun x hx => ?_)
    · rw [upd_at, hG, hV j j1]
      show _ = opA (pf opA z (fun i => V (pn (4 * k + i)).toNatClampNeg) i) (V (pn (4 * k + i)).toNatClampNeg)
      rw [j2, nI_clamp (show j < 2 ^ 31 by omega)]
      rfl
    · rw [upd_ne (by omega)]
      exact hV x hx
theorem wd_out (hC : CR N words unsures slips throne said kind parts pn wt tw uw uo r told) (hS : StR N parts pn w o st) (hI : CI N unit kind parts pn wt ws steps below above) : ∀ (m k f : Nat) (G : Nat → Int32), N - k = m → k ≤ N → m < f → (∀ j : Nat, j < k → G j = PX7_wholeOf 18 r st (nI j)) → ∃ G' : Nat → Int32, HX4_waysDown_0 (nI N) throne kind parts pn f (nI k) G = (PX7_wholeOf 18 r st throne, G') := by
  have hN := hI.1
  have hN0 := hC.N.1
  intro m
  induction m with
  | zero =>
    intro k f G hr hk hf hV
    obtain ⟨f, rfl⟩ : ∃ g, f = g + 1 := ⟨f - 1, by omega⟩
    obtain rfl : k = N := by omega
    refine ⟨G, ?_⟩
    obtain ⟨-, -, -, -, -, -, -, -, hth, -⟩ := hC
    obtain ⟨t, t1, rfl⟩ := nd_of hN hth
    rw [HX4_waysDown_0_eq, if_pos (nI_le (by omega) (by omega)), PX4_throneValue_eq]
    dsimp only [lt_]
    rw [hn_eq hN, if_pos hth, if_pos rfl, nI_clamp (by omega), hV t t1]
  | succ m ih =>
    intro k f G hr hk hf hV
    obtain ⟨f, rfl⟩ : ∃ g, f = g + 1 := ⟨f - 1, by omega⟩
    obtain ⟨q, hp, hD⟩ := hI.2.1 k (by omega)
    have hstep : pf opA (if kind k = 0 then 1 else 0) (fun i => PX7_wholeOf 18 r st (nI (pn (4 * k + i)).toNatClampNeg)) q = PX7_wholeOf 18 r st (nI k) := by
      rw [show (18 : Nat) = 17 + 1 from rfl, ways_step hC hS (show k < N by omega) hp hD]
      refine pf_congr q (fun i hi => ?_)
      obtain ⟨j, j1, j2⟩ := hD.2.2.2.2.1 i hi
      show PX7_wholeOf (17 + 1) r st (nI (pn (4 * k + i)).toNatClampNeg) = PX7_wholeOf 17 r st (pn (4 * k + i))
      rw [j2, nI_clamp (by omega)]
      exact ways_fuel hC hS hI j (17 + 1) 17 (by omega) (by omega) (by omega)
    have key : ∀ z : Int32, z = (if kind k = 0 then 1 else 0) → ∃ G' : Nat → Int32, HX4_waysDown_1 parts pn (nI k) (fun a b => HX4_waysDown_0 (nI N) throne kind parts pn f a b) (((2147483647 - (0 : Int32).toInt).toNat) + 1) 0 (upd G k z) = (PX7_wholeOf 18 r st throne, G') := fun z hz => by
      obtain ⟨G', e, g1, g2⟩ := wd_in (K := fun a b => HX4_waysDown_0 (nI N) throne kind parts pn f a b) (z := z) (V := fun j => PX7_wholeOf 18 r st (nI j)) (show k < 18 by omega) hD.1 hp hD.2.2.2.2.1 q 0 (((2147483647 - (0 : Int32).toInt).toNat) + 1) (upd G k z) rfl (by omega) (by rw [kc_0]; have := hD.1; omega) (upd_at _ _ _) (fun j hj => by rw [upd_ne (by omega)]; exact hV j hj)
      rw [nI_0] at e
      rw [e]
      refine ih (k + 1) f G' (by omega) (by omega) (by omega) (fun j hj => ?_)
      by_cases c : j = k
      · rw [c, g1, hz]; exact hstep
      · exact g2 j (by omega)
    rw [HX4_waysDown_0_eq, if_neg (by rw [nI_leI (by omega) (by omega)]; omega)]
    simp only [lt_ap]
    rw [nI_clamp (show k < 2 ^ 31 by omega)]
    by_cases h0 : kind k = 0
    · rw [if_pos h0]
      exact key 1 (by rw [if_pos h0])
    · rw [if_neg h0]
      exact key 0 (by rw [if_neg h0])
end WQ
section WJ
variable {nodes words unsures slips throne said : Int32} {kind parts pn wt tw uw uo w o : Nat → Int32} {ic : Int32} {iw0 io0 iw1 io1 iw2 io2 : Nat → Int32} {ac : Int32} {an ao as : Nat → Int32} {hc : Int32} {r told st und kept : Nat → Int32} {undos images : Int32} {unit : Int32} {ws steps below above : Nat → Int32}
theorem whole_join (h : Rel nodes words unsures slips throne said kind parts pn wt tw uw uo w o ic iw0 io0 iw1 io1 iw2 io2 ac an ao as hc r told st und kept undos images) (hx : CIS nodes unit kind parts pn wt ws steps below above) {lv lv' : Nat → Int32} {q6 rf q7 t1 t2 : Int32} (e6 : PX6_whole nodes throne kind parts pn lv = (q6, rf, lv')) (e7 : PX7_whole hc r st = (q7, t1, t2)) : q6 = q7 ∧ rf = t2 := by
  have key : ∃ (q f t : Int32) (v : Nat → Int32), PX6_whole nodes throne kind parts pn lv = (q, f, v) ∧ PX7_whole hc r st = (q, t, f) := by
    rcases h with ⟨rfl, h0⟩ | ⟨N, c, d, rfl, rfl, rfl, rfl, hc, rfl, rfl, hd, hC, hS, hU, hI⟩
    · obtain ⟨h2, h3, h4, h5, h6, h7, rfl, h8, h9⟩ := h0
      refine ⟨-1, 1, 0, lv, ?_, ?_⟩
      · rw [PX6_whole_eq, lc_0, un2_eq rfl, if_neg (show ¬ (1 : Int32) = 0 by decide)]
      · rw [PX7_whole_eq, PX7_good_eq, un2_eq rfl, if_pos rfl, no_eq, un2_eq rfl]
    · obtain ⟨hN0, hN, hr⟩ := hC.N
      obtain ⟨M, hM, hX⟩ := hx
      obtain rfl : N = M := (nI_eq (by omega) (by have := hX.1; omega)).mp hM
      obtain ⟨G', e⟩ := wd_out hC hS hX N 0 (((2147483647 - (0 : Int32).toInt).toNat) + 1) lv rfl (by omega) (by rw [kc_0]; omega) (fun j hj => absurd hj (by omega))
      rw [nI_0] at e
      have hth : r 6 = throne := hC.2.2.2.2.2.2.1
      refine ⟨PX7_wholeOf 18 r st throne, 0, 0, G', ?_, ?_⟩
      · rw [PX6_whole_eq, lc_N hN0 hN, un2_eq rfl, if_pos rfl, PX4_waysDown_eq, un2_eq e]
      · rw [PX7_whole_eq, PX7_good_eq, un2_eq rfl, if_neg (show ¬ (1 : Int32) = 0 by decide)]
        dsimp only [lt_]
        rw [six_cl, hth]
  obtain ⟨q, f, t, v, g6, g7⟩ := key
  have x := g6.symm.trans e6
  have y := g7.symm.trans e7
  simp only [Prod.mk.injEq] at x y
  obtain ⟨rfl, rfl, -⟩ := x
  obtain ⟨rfl, -, rfl⟩ := y
  exact ⟨rfl, rfl⟩
end WJ
end E7
end
section
/-! worths: what is joined at a node, on both sides -/
section F1
theorem opM_i (a x : Int32) : (opM a x).toInt = max a.toInt x.toInt := by
  unfold opM
  by_cases h : x ≤ a
  · rw [if_pos h]; rw [fz_le] at h; omega
  · rw [if_neg h]; rw [fz_le] at h; omega
theorem opM_c (a b c : Int32) : opM (opM a b) c = opM (opM a c) b := by
  rw [fz_eq, opM_i, opM_i, opM_i, opM_i]
  omega
def opN (a x : Int32) : Int32 := if a ≤ x then a else x
theorem opN_i (a x : Int32) : (opN a x).toInt = min a.toInt x.toInt := by
  unfold opN
  by_cases h : a ≤ x
  · rw [if_pos h]; rw [fz_le] at h; omega
  · rw [if_neg h]; rw [fz_le] at h; omega
theorem opN_c (a b c : Int32) : opN (opN a b) c = opN (opN a c) b := by
  rw [fz_eq, opN_i, opN_i, opN_i, opN_i]
  omega
theorem k_lo : (-100000000 : Int32).toInt = -100000000 := by decide
theorem k_hi : (100000000 : Int32).toInt = 100000000 := by decide
/-- what is joined at a node of kind kd from its parts' values, as told -/
def Jv (kd s : Int32) (wt v : Nat → Int32) (k q : Nat) : Int32 := if kd = 3 then pf opA 0 (fun i => v i * wt (4 * k + i)) q / s else if kd = 1 then pf opM (-100000000) v q else pf opN 100000000 v q
theorem Jv_congr {kd s : Int32} {wt v v' : Nat → Int32} {k q : Nat} (h : ∀ i : Nat, i < q → v i = v' i) : Jv kd s wt v k q = Jv kd s wt v' k q := by
  unfold Jv
  rw [pf_congr (op := opA) (z := 0) (g := fun i => v i * wt (4 * k + i)) (h := fun i => v' i * wt (4 * k + i)) q (fun i hi => by rw [h i hi]), pf_congr (op := opM) (z := -100000000) q h, pf_congr (op := opN) (z := 100000000) q h]
theorem sI_pf {f : Nat → Int32} {b : Nat} : ∀ m : Nat, sI f b m = pf opA 0 (fun i => f (b + i)) m
  | 0 => rfl
  | m + 1 => by rw [sI, sI_pf m]; rfl
theorem pfA_s (v : Nat → Int32) (m : Nat) : pf opA 0 v (m + 1) = pf opA 0 v m + v m := rfl
theorem sum_w {w : Nat → Int32} : ∀ m : Nat, m ≤ 4 → (∀ i : Nat, i < m → 1 ≤ (w i).toInt ∧ (w i).toInt ≤ 9) → (m : Int) ≤ (pf opA 0 w m).toInt ∧ (pf opA 0 w m).toInt ≤ 9 * m
  | 0, _, _ => ⟨by show (0 : Int) ≤ (0 : Int32).toInt; decide, by show (0 : Int32).toInt ≤ 9 * ((0 : Nat) : Int); decide⟩
  | m + 1, hm, h => by
    have a := sum_w m (by omega) (fun i hi => h i (by omega))
    have b := h m (by omega)
    rw [pfA_s, fb_addI (by omega) (by omega)]
    omega
theorem sum_vw {v w : Nat → Int32} {X : Int} (hX : X ≤ 1000000) (h0 : 0 ≤ X) : ∀ m : Nat, m ≤ 4 → (∀ i : Nat, i < m → 0 ≤ (v i).toInt ∧ (v i).toInt ≤ X) → (∀ i : Nat, i < m → 1 ≤ (w i).toInt ∧ (w i).toInt ≤ 9) → 0 ≤ (pf opA 0 (fun i => v i * w i) m).toInt ∧ (pf opA 0 (fun i => v i * w i) m).toInt ≤ X * (pf opA 0 w m).toInt
  | 0, _, _, _ => ⟨by show (0 : Int) ≤ (0 : Int32).toInt; decide, by show (0 : Int32).toInt ≤ X * (0 : Int32).toInt; rw [kc_0, Int.mul_zero]; exact Int.le_refl _⟩
  | m + 1, hm, hv, hw => by
    obtain ⟨a1, a2⟩ := sum_vw hX h0 m (by omega) (fun i hi => hv i (by omega)) (fun i hi => hw i (by omega))
    obtain ⟨b1, b2⟩ := sum_w m (by omega) (fun i hi => hw i (by omega))
    obtain ⟨c1, c2⟩ := hv m (by omega)
    obtain ⟨d1, d2⟩ := hw m (by omega)
    have p1 : 0 ≤ (v m).toInt * (w m).toInt := Int.mul_nonneg c1 (by omega)
    have p2 : (v m).toInt * (w m).toInt ≤ X * (w m).toInt := Int.mul_le_mul_of_nonneg_right c2 (by omega)
    have p3 : X * (w m).toInt ≤ 1000000 * 9 := Int.mul_le_mul hX d2 (by omega) (by decide)
    have p4 : X * (pf opA 0 w m).toInt ≤ 1000000 * 27 := Int.mul_le_mul hX (by omega) (by omega) (by decide)
    have e1 : (v m * w m).toInt = (v m).toInt * (w m).toInt := fb_mulI (by omega) (by omega)
    have e2 : (pf opA 0 w m + w m).toInt = (pf opA 0 w m).toInt + (w m).toInt := fb_addI (by omega) (by omega)
    have e3 : (pf opA 0 (fun i => v i * w i) m + v m * w m).toInt = (pf opA 0 (fun i => v i * w i) m).toInt + (v m).toInt * (w m).toInt := by rw [fb_addI (by rw [e1]; omega) (by rw [e1]; omega), e1]
    rw [pfA_s, pfA_s, e2, Int.mul_add]
    show 0 ≤ (pf opA 0 (fun i => v i * w i) m + v m * w m).toInt ∧ (pf opA 0 (fun i => v i * w i) m + v m * w m).toInt ≤ _
    rw [e3]
    omega
theorem pfM_in {v : Nat → Int32} {X : Int} (hX : 0 ≤ X) : ∀ m : Nat, (∀ i : Nat, i < m → 0 ≤ (v i).toInt ∧ (v i).toInt ≤ X) → (pf opM (-100000000) v m).toInt ≤ X ∧ (1 ≤ m → 0 ≤ (pf opM (-100000000) v m).toInt)
  | 0, _ => ⟨by show (-100000000 : Int32).toInt ≤ X; rw [k_lo]; omega, fun h => absurd h (by omega)⟩
  | m + 1, h => by
    obtain ⟨a, -⟩ := pfM_in hX m (fun i hi => h i (by omega))
    have b := h m (by omega)
    have e : (pf opM (-100000000) v (m + 1)).toInt = max (pf opM (-100000000) v m).toInt (v m).toInt := opM_i _ _
    rw [e]
    omega
theorem pfN_in {v : Nat → Int32} {X : Int} : ∀ m : Nat, (∀ i : Nat, i < m → 0 ≤ (v i).toInt ∧ (v i).toInt ≤ X) → 0 ≤ (pf opN 100000000 v m).toInt ∧ (1 ≤ m → (pf opN 100000000 v m).toInt ≤ X)
  | 0, _ => ⟨by show 0 ≤ (100000000 : Int32).toInt; rw [k_hi]; omega, fun h => absurd h (by omega)⟩
  | m + 1, h => by
    obtain ⟨a, -⟩ := pfN_in (X := X) m (fun i hi => h i (by omega))
    have b := h m (by omega)
    have e : (pf opN 100000000 v (m + 1)).toInt = min (pf opN 100000000 v m).toInt (v m).toInt := opN_i _ _
    rw [e]
    omega
theorem Jv_in {kd s : Int32} {wt v : Nat → Int32} {k q : Nat} {X : Int} (hX : X ≤ 1000000) (h0 : 0 ≤ X) (hq : q ≤ 4) (hq1 : 1 ≤ q) (hs : kd = 3 → s = pf opA 0 (fun i => wt (4 * k + i)) q ∧ ∀ i : Nat, i < q → 1 ≤ (wt (4 * k + i)).toInt ∧ (wt (4 * k + i)).toInt ≤ 9) (hv : ∀ i : Nat, i < q → 0 ≤ (v i).toInt ∧ (v i).toInt ≤ X) : 0 ≤ (Jv kd s wt v k q).toInt ∧ (Jv kd s wt v k q).toInt ≤ X := by
  unfold Jv
  by_cases c3 : kd = 3
  · obtain ⟨e, hw⟩ := hs c3
    obtain ⟨a1, a2⟩ := sum_vw (w := fun i => wt (4 * k + i)) hX h0 q hq hv hw
    obtain ⟨b1, b2⟩ := sum_w (w := fun i => wt (4 * k + i)) q hq hw
    rw [if_pos c3, e]
    generalize pf opA 0 (fun i => v i * wt (4 * k + i)) q = A at a1 a2
    generalize pf opA 0 (fun i => wt (4 * k + i)) q = S at a2 b1 b2
    rw [ti_divE (z := A / S) rfl rfl rfl a1 (by omega)]
    refine ⟨Int.ediv_nonneg a1 (by omega), ?_⟩
    refine Int.le_of_lt_add_one (Int.ediv_lt_of_lt_mul (by omega) ?_)
    rw [Int.add_mul, Int.one_mul]
    omega
  · rw [if_neg c3]
    by_cases c1 : kd = 1
    · rw [if_pos c1]
      obtain ⟨a, b⟩ := pfM_in h0 q hv
      exact ⟨b hq1, a⟩
    · rw [if_neg c1]
      obtain ⟨a, b⟩ := pfN_in q hv
      exact ⟨a, b hq1⟩
theorem Jv_perm {kd s : Int32} {wt v : Nat → Int32} {k q : Nat} {p : Nat → Nat} (p1 : ∀ i : Nat, i < q → p i < q) (p2 : ∀ i j : Nat, i < q → j < q → p i = p j → i = j) : (if kd = 3 then pf opA 0 (fun i => v (p i) * wt (4 * k + p i)) q / s else if kd = 1 then pf opM (-100000000) (fun i => v (p i)) q else pf opN 100000000 (fun i => v (p i)) q) = Jv kd s wt v k q := by
  unfold Jv
  rw [pf_perm opA_c (z := 0) (g := fun i => v i * wt (4 * k + i)) q p p1 p2, pf_perm opM_c (z := -100000000) (g := v) q p p1 p2, pf_perm opN_c (z := 100000000) (g := v) q p p1 p2]
/-! the reference: one step -/
section WL
variable {F9 : Int32 → (Nat → Int32) → (Nat → Int32) → Int32 → (Nat → Int32) → Int32 → Int32 → Int32} {r told Q v : Nat → Int32} {sc nt : Int32} {k q d : Nat}
theorem wk_loop {z : Int32} (hk : k < 18) (hq : q ≤ 4) (hm : r (27 + k) = nI q) (hv : ∀ i : Nat, i < q → F9 nt r told sc Q (Q (4 * k + i)) (nI (d + 1)) = v i) : ∀ (m i f : Nat), q - i = m → i ≤ q → m < f → HX7_worthAt_1 F9 r told sc nt Q (nI k) (nI d) 1 f (nI i) (pf opM z v i) = pf opM z v q := by
  intro m
  induction m with
  | zero =>
    intro i f hr hi hf
    obtain ⟨f, rfl⟩ : ∃ g, f = g + 1 := ⟨f - 1, by omega⟩
    obtain rfl : i = q := by omega
    rw [HX7_worthAt_1_eq]
    dsimp only [lt_]
    rw [show (27 : Int32) + nI k = nI (27 + k) from nI_add 27 k, nI_clamp (by omega), hm, if_pos (nI_le (by omega) (by omega)), if_neg (show ¬ (1 : Int32) = 3 by decide)]
  | succ m ih =>
    intro i f hr hi hf
    obtain ⟨f, rfl⟩ : ∃ g, f = g + 1 := ⟨f - 1, by omega⟩
    rw [HX7_worthAt_1_eq]
    dsimp only [lt_]
    rw [show (27 : Int32) + nI k = nI (27 + k) from nI_add 27 k, nI_clamp (show 27 + k < 2 ^ 31 by omega), hm, if_neg (by rw [nI_leI (by omega) (by omega)]; omega), nI_m4' (by omega), nI_add, nI_clamp (show 4 * k + i < 2 ^ 31 by omega), nI_1, hv i (by omega), if_pos rfl, nI_o1]
    have e : pf opM z v (i + 1) = if v i ≤ pf opM z v i then pf opM z v i else v i := rfl
    by_cases c : v i ≤ pf opM z v i
    · rw [if_pos c] at e
      rw [if_pos c, ← ih (i + 1) f (by omega) (by omega) (by omega), e]
    · rw [if_neg c] at e
      rw [if_neg c, ← ih (i + 1) f (by omega) (by omega) (by omega), e]
theorem wq_loop {z : Int32} (hk : k < 18) (hq : q ≤ 4) (hm : r (27 + k) = nI q) (hv : ∀ i : Nat, i < q → F9 nt r told sc Q (Q (4 * k + i)) (nI (d + 1)) = v i) : ∀ (m i f : Nat), q - i = m → i ≤ q → m < f → HX7_worthAt_0 F9 r told sc nt Q (nI k) (nI d) 2 f (nI i) (pf opN z v i) = pf opN z v q := by
  intro m
  induction m with
  | zero =>
    intro i f hr hi hf
    obtain ⟨f, rfl⟩ : ∃ g, f = g + 1 := ⟨f - 1, by omega⟩
    obtain rfl : i = q := by omega
    rw [HX7_worthAt_0_eq]
    dsimp only [lt_]
    rw [show (27 : Int32) + nI k = nI (27 + k) from nI_add 27 k, nI_clamp (by omega), hm, if_pos (nI_le (by omega) (by omega)), if_neg (show ¬ (2 : Int32) = 3 by decide)]
  | succ m ih =>
    intro i f hr hi hf
    obtain ⟨f, rfl⟩ : ∃ g, f = g + 1 := ⟨f - 1, by omega⟩
    rw [HX7_worthAt_0_eq]
    dsimp only [lt_]
    rw [show (27 : Int32) + nI k = nI (27 + k) from nI_add 27 k, nI_clamp (show 27 + k < 2 ^ 31 by omega), hm, if_neg (by rw [nI_leI (by omega) (by omega)]; omega), nI_m4' (by omega), nI_add, nI_clamp (show 4 * k + i < 2 ^ 31 by omega), nI_1, hv i (by omega), if_neg (show ¬ (2 : Int32) = 1 by decide), if_pos rfl, nI_o1]
    have e : pf opN z v (i + 1) = if pf opN z v i ≤ v i then pf opN z v i else v i := rfl
    by_cases c : pf opN z v i ≤ v i
    · rw [if_pos c] at e
      rw [if_pos c, ← ih (i + 1) f (by omega) (by omega) (by omega), e]
    · rw [if_neg c] at e
      rw [if_neg c, ← ih (i + 1) f (by omega) (by omega) (by omega), e]
theorem ws_loop (hk : k < 18) (hq : q ≤ 4) (hm : r (27 + k) = nI q) : ∀ (m i f : Nat), q - i = m → i ≤ q → m < f → HX7_weightsOf_0 r (nI k) f (nI i) (pf opA 0 (fun j => r (45 + 4 * k + j)) i) = pf opA 0 (fun j => r (45 + 4 * k + j)) q := by
  intro m
  induction m with
  | zero =>
    intro i f hr hi hf
    obtain ⟨f, rfl⟩ : ∃ g, f = g + 1 := ⟨f - 1, by omega⟩
    obtain rfl : i = q := by omega
    rw [HX7_weightsOf_0_eq]
    dsimp only [lt_]
    rw [show (27 : Int32) + nI k = nI (27 + k) from nI_add 27 k, nI_clamp (by omega), hm, if_pos (nI_le (by omega) (by omega))]
  | succ m ih =>
    intro i f hr hi hf
    obtain ⟨f, rfl⟩ : ∃ g, f = g + 1 := ⟨f - 1, by omega⟩
    rw [HX7_weightsOf_0_eq]
    dsimp only [lt_]
    rw [show (27 : Int32) + nI k = nI (27 + k) from nI_add 27 k, nI_clamp (show 27 + k < 2 ^ 31 by omega), hm, if_neg (by rw [nI_leI (by omega) (by omega)]; omega), nI_m4' (by omega), show (45 : Int32) + nI (4 * k) = nI (45 + 4 * k) from nI_add 45 (4 * k), nI_add, nI_clamp (show 45 + 4 * k + i < 2 ^ 31 by omega), nI_o1]
    exact ih (i + 1) f (by omega) (by omega) (by omega)
theorem ws_eq (hk : k < 18) (hq : q ≤ 4) (hm : r (27 + k) = nI q) : PX7_weightsOf r (nI k) = pf opA 0 (fun j => r (45 + 4 * k + j)) q := by
  have e := ws_loop hk hq hm q 0 (((4 - (0 : Int32).toInt).toNat) + 1) rfl (by omega) (by rw [kc_0]; omega)
  rw [nI_0] at e
  rw [PX7_weightsOf_eq]
  exact e
theorem wc_loop {u : Nat → Int32} (hk : k < 18) (hq : q ≤ 4) (hm : r (27 + k) = nI q) (hv : ∀ i : Nat, i < q → F9 nt r told sc Q (Q (4 * k + i)) (nI (d + 1)) = v i) (hu : ∀ i : Nat, i < q → PX7_weightOf r told (nI k) (Q (4 * k + i)) = u i) : ∀ (m i f : Nat), q - i = m → i ≤ q → m < f → HX7_worthAt_2 F9 r told sc nt Q (nI k) (nI d) 3 f (nI i) (pf opA 0 (fun j => v j * u j) i) = pf opA 0 (fun j => v j * u j) q / pf opA 0 (fun j => r (45 + 4 * k + j)) q := by
  intro m
  induction m with
  | zero =>
    intro i f hr hi hf
    obtain ⟨f, rfl⟩ : ∃ g, f = g + 1 := ⟨f - 1, by omega⟩
    obtain rfl : i = q := by omega
    rw [HX7_worthAt_2_eq]
    dsimp only [lt_]
    rw [show (27 : Int32) + nI k = nI (27 + k) from nI_add 27 k, nI_clamp (by omega), hm, if_pos (nI_le (by omega) (by omega)), if_pos rfl, ws_eq hk hq hm]
  | succ m ih =>
    intro i f hr hi hf
    obtain ⟨f, rfl⟩ : ∃ g, f = g + 1 := ⟨f - 1, by omega⟩
    rw [HX7_worthAt_2_eq]
    dsimp only [lt_]
    rw [show (27 : Int32) + nI k = nI (27 + k) from nI_add 27 k, nI_clamp (show 27 + k < 2 ^ 31 by omega), hm, if_neg (by rw [nI_leI (by omega) (by omega)]; omega), nI_m4' (by omega), nI_add, nI_clamp (show 4 * k + i < 2 ^ 31 by omega), nI_1, hv i (by omega), hu i (by omega), if_neg (show ¬ (3 : Int32) = 1 by decide), if_neg (show ¬ (3 : Int32) = 2 by decide), nI_o1]
    exact ih (i + 1) f (by omega) (by omega) (by omega)
end WL
/-! the class: one step -/
section CJ
variable {G parts pn wt ws : Nat → Int32} {k q : Nat} {v : Nat → Int32}
theorem cjK_loop {z : Int32} (hk : k < 18) (hq : q ≤ 4) (hp : parts k = nI q) (hv : ∀ i : Nat, i < q → G (pn (4 * k + i)).toNatClampNeg = v i) : ∀ (m i f : Nat), q - i = m → 1 ≤ i → i ≤ q → m < f → HX4_joined_0 G parts pn wt ws (nI k) 1 f (nI i) (pf opM z v i) = pf opM z v q := by
  intro m
  induction m with
  | zero =>
    intro i f hr h1 hi hf
    obtain ⟨f, rfl⟩ : ∃ g, f = g + 1 := ⟨f - 1, by omega⟩
    obtain rfl : i = q := by omega
    rw [HX4_joined_0_eq]
    dsimp only [lt_]
    rw [nI_clamp (by omega), hp, if_pos (nI_le (by omega) (by omega)), if_neg (show ¬ (1 : Int32) = 3 by decide)]
  | succ m ih =>
    intro i f hr h1 hi hf
    obtain ⟨f, rfl⟩ : ∃ g, f = g + 1 := ⟨f - 1, by omega⟩
    rw [HX4_joined_0_eq]
    dsimp only [lt_]
    rw [nI_clamp (show k < 2 ^ 31 by omega), hp, if_neg (by rw [nI_leI (by omega) (by omega)]; omega), nI_m4 (by omega), nI_add, nI_clamp (show 4 * k + i < 2 ^ 31 by omega), hv i (by omega), if_neg (show ¬ (1 : Int32) = 3 by decide), if_neg (nI_ne0 (by omega) (by omega)), if_pos rfl, nI_o1]
    have e : pf opM z v (i + 1) = if v i ≤ pf opM z v i then pf opM z v i else v i := rfl
    by_cases c : v i ≤ pf opM z v i
    · rw [if_pos c] at e
      rw [if_pos c, ← ih (i + 1) f (by omega) (by omega) (by omega) (by omega), e]
    · rw [if_neg c] at e
      rw [if_neg c, ← ih (i + 1) f (by omega) (by omega) (by omega) (by omega), e]
theorem cjQ_loop {z kd : Int32} (h3 : ¬ kd = 3) (h1' : ¬ kd = 1) (hk : k < 18) (hq : q ≤ 4) (hp : parts k = nI q) (hv : ∀ i : Nat, i < q → G (pn (4 * k + i)).toNatClampNeg = v i) : ∀ (m i f : Nat), q - i = m → 1 ≤ i → i ≤ q → m < f → HX4_joined_0 G parts pn wt ws (nI k) kd f (nI i) (pf opN z v i) = pf opN z v q := by
  intro m
  induction m with
  | zero =>
    intro i f hr h1 hi hf
    obtain ⟨f, rfl⟩ : ∃ g, f = g + 1 := ⟨f - 1, by omega⟩
    obtain rfl : i = q := by omega
    rw [HX4_joined_0_eq]
    dsimp only [lt_]
    rw [nI_clamp (by omega), hp, if_pos (nI_le (by omega) (by omega)), if_neg h3]
  | succ m ih =>
    intro i f hr h1 hi hf
    obtain ⟨f, rfl⟩ : ∃ g, f = g + 1 := ⟨f - 1, by omega⟩
    rw [HX4_joined_0_eq]
    dsimp only [lt_]
    rw [nI_clamp (show k < 2 ^ 31 by omega), hp, if_neg (by rw [nI_leI (by omega) (by omega)]; omega), nI_m4 (by omega), nI_add, nI_clamp (show 4 * k + i < 2 ^ 31 by omega), hv i (by omega), if_neg h3, if_neg (nI_ne0 (by omega) (by omega)), if_neg h1', nI_o1]
    have e : pf opN z v (i + 1) = if pf opN z v i ≤ v i then pf opN z v i else v i := rfl
    by_cases c : pf opN z v i ≤ v i
    · rw [if_pos c] at e
      rw [if_pos c, ← ih (i + 1) f (by omega) (by omega) (by omega) (by omega), e]
    · rw [if_neg c] at e
      rw [if_neg c, ← ih (i + 1) f (by omega) (by omega) (by omega) (by omega), e]
theorem cjC_loop (hk : k < 18) (hq : q ≤ 4) (hp : parts k = nI q) (hv : ∀ i : Nat, i < q → G (pn (4 * k + i)).toNatClampNeg = v i) : ∀ (m i f : Nat), q - i = m → i ≤ q → m < f → HX4_joined_0 G parts pn wt ws (nI k) 3 f (nI i) (pf opA 0 (fun j => v j * wt (4 * k + j)) i) = PX6_wholeOf (pf opA 0 (fun j => v j * wt (4 * k + j)) q) (ws k) := by
  intro m
  induction m with
  | zero =>
    intro i f hr hi hf
    obtain ⟨f, rfl⟩ : ∃ g, f = g + 1 := ⟨f - 1, by omega⟩
    obtain rfl : i = q := by omega
    rw [HX4_joined_0_eq]
    dsimp only [lt_]
    rw [nI_clamp (by omega), hp, if_pos (nI_le (by omega) (by omega)), if_pos rfl]
  | succ m ih =>
    intro i f hr hi hf
    obtain ⟨f, rfl⟩ : ∃ g, f = g + 1 := ⟨f - 1, by omega⟩
    rw [HX4_joined_0_eq]
    dsimp only [lt_]
    rw [nI_clamp (show k < 2 ^ 31 by omega), hp, if_neg (by rw [nI_leI (by omega) (by omega)]; omega), nI_m4 (by omega), nI_add, nI_clamp (show 4 * k + i < 2 ^ 31 by omega), hv i (by omega), if_pos rfl, nI_o1]
    exact ih (i + 1) f (by omega) (by omega) (by omega)
theorem joined_eq {kind : Nat → Int32} (hk : k < 18) (hq : q ≤ 4) (hq1 : 1 ≤ q) (hp : parts k = nI q) (h0 : ¬ kind k = 0) (hv : ∀ i : Nat, i < q → G (pn (4 * k + i)).toNatClampNeg = v i) (hvi : ∀ i : Nat, i < q → -100000000 < (v i).toInt ∧ (v i).toInt < 100000000) (hs : kind k = 3 → 0 < (ws k).toInt) : PX4_joined G kind parts pn wt ws (nI k) = Jv (kind k) (ws k) wt v k q := by
  have first : ∀ kd f : _, ¬ kd = 3 → HX4_joined_0 G parts pn wt ws (nI k) kd (f + 1) (nI 0) 0 = HX4_joined_0 G parts pn wt ws (nI k) kd f (nI 1) (v 0) := fun kd f h3 => by
    rw [HX4_joined_0_eq]
    dsimp only [lt_]
    rw [nI_clamp (show k < 2 ^ 31 by omega), hp, if_neg (by rw [nI_leI (by omega) (by omega)]; omega), nI_m4 (by omega), nI_add, nI_clamp (show 4 * k + 0 < 2 ^ 31 by omega), hv 0 (by omega), if_neg h3, if_pos nI_0, nI_o1]
  rw [PX4_joined_eq]
  simp only [lt_ap]
  rw [nI_clamp (show k < 2 ^ 31 by omega)]
  unfold Jv
  have b := hvi 0 (by omega)
  by_cases c3 : kind k = 3
  · rw [if_pos c3, c3]
    have e := cjC_loop (wt := wt) (ws := ws) hk hq hp hv q 0 (((2147483647 - (0 : Int32).toInt).toNat) + 1) rfl (by omega) (by rw [kc_0]; omega)
    rw [nI_0] at e
    refine Eq.trans e ?_
    rw [PX6_wholeOf_eq, if_neg (fun q => by rw [fz_le, kc_0] at q; have := hs c3; omega)]
    rfl
  · rw [if_neg c3]
    by_cases c1 : kind k = 1
    · rw [if_pos c1, c1]
      have e2 : pf opM (-100000000) v 1 = v 0 := by
        rw [fz_eq]
        show (opM (-100000000) (v 0)).toInt = _
        rw [opM_i, k_lo]
        omega
      have e1 := first 1 ((2147483647 - (0 : Int32).toInt).toNat) (by decide)
      have e := cjK_loop (z := -100000000) (wt := wt) (ws := ws) hk hq hp hv (q - 1) 1 ((2147483647 - (0 : Int32).toInt).toNat) rfl (by omega) (by omega) (by rw [kc_0]; omega)
      rw [nI_0] at e1
      rw [e2] at e
      exact e1.trans e
    · rw [if_neg c1]
      have e2 : pf opN 100000000 v 1 = v 0 := by
        rw [fz_eq]
        show (opN 100000000 (v 0)).toInt = _
        rw [opN_i, k_hi]
        omega
      have e1 := first (kind k) ((2147483647 - (0 : Int32).toInt).toNat) c3
      have e := cjQ_loop (z := 100000000) (wt := wt) (ws := ws) c3 c1 hk hq hp hv (q - 1) 1 ((2147483647 - (0 : Int32).toInt).toNat) rfl (by omega) (by omega) (by rw [kc_0]; omega)
      rw [nI_0] at e1
      rw [e2] at e
      exact e1.trans e
end CJ
end F1
end
section
/-! worths: all of them, on both sides -/
section F2
section WQ
variable {N : Nat} {words unsures slips throne said unit : Int32} {kind parts pn wt tw uw uo r told W o Q ws steps below above : Nat → Int32}
theorem nIm1 {d : Nat} (h : d < 2 ^ 31) : ¬ nI d = -1 := fun q => by
  have e := (fz_eq _ _).mp q
  rw [nI_toInt h, show (-1 : Int32).toInt = -1 from by decide] at e
  omega
theorem wo_loop {k q i0 : Nat} (hk : k < 18) (hq : q ≤ 4) (hm : r (27 + k) = nI q) (he : ∀ i : Nat, i < q → pn (4 * k + i) = told (4 * k + i) ∧ wt (4 * k + i) = r (45 + 4 * k + i)) (hi0 : i0 < q) (hj : ∀ j : Nat, j < i0 → ¬ pn (4 * k + j) = pn (4 * k + i0)) : ∀ (m i f : Nat), i0 - i = m → i ≤ i0 → m < f → HX7_weightOf_0 r told (nI k) (pn (4 * k + i0)) f (nI i) = wt (4 * k + i0) := by
  intro m
  induction m with
  | zero =>
    intro i f hr hi hf
    obtain ⟨f, rfl⟩ : ∃ g, f = g + 1 := ⟨f - 1, by omega⟩
    obtain rfl : i = i0 := by omega
    obtain ⟨e1, e2⟩ := he i hi0
    rw [HX7_weightOf_0_eq]
    dsimp only [lt_]
    rw [show (27 : Int32) + nI k = nI (27 + k) from nI_add 27 k, nI_clamp (show 27 + k < 2 ^ 31 by omega), hm, if_neg (by rw [nI_leI (by omega) (by omega)]; omega), nI_m4' (by omega), show (45 : Int32) + nI (4 * k) = nI (45 + 4 * k) from nI_add 45 (4 * k), nI_add, nI_add, nI_clamp (show 4 * k + i < 2 ^ 31 by omega), nI_clamp (show 45 + 4 * k + i < 2 ^ 31 by omega), ← e1, ← e2, if_pos rfl]
  | succ m ih =>
    intro i f hr hi hf
    obtain ⟨f, rfl⟩ : ∃ g, f = g + 1 := ⟨f - 1, by omega⟩
    obtain ⟨e1, e2⟩ := he i (by omega)
    rw [HX7_weightOf_0_eq]
    dsimp only [lt_]
    rw [show (27 : Int32) + nI k = nI (27 + k) from nI_add 27 k, nI_clamp (show 27 + k < 2 ^ 31 by omega), hm, if_neg (by rw [nI_leI (by omega) (by omega)]; omega), nI_m4' (by omega), show (45 : Int32) + nI (4 * k) = nI (45 + 4 * k) from nI_add 45 (4 * k), nI_add, nI_add, nI_clamp (show 4 * k + i < 2 ^ 31 by omega), nI_clamp (show 45 + 4 * k + i < 2 ^ 31 by omega), ← e1, ← e2, if_neg (hj i (by omega)), nI_o1]
    exact ih (i + 1) f (by omega) (by omega) (by omega)
theorem wo_eq (hC : CR N words unsures slips throne said kind parts pn wt tw uw uo r told) {k q i0 : Nat} (hk : k < N) (hp : parts k = nI q) (hD : ND k q kind pn wt ws steps below) (hi0 : i0 < q) : PX7_weightOf r told (nI k) (pn (4 * k + i0)) = wt (4 * k + i0) := by
  have hN := hC.N.2.1
  have hq := hD.1
  have e := wo_loop (r := r) (told := told) (by omega) hq (many_q hC hk hp) (fun i hi => (hC.k hk).2.2.2.2 i (by rw [hp, nI_toInt (by omega)]; omega)) hi0 (fun j hj => hD.2.2.2.2.2 j i0 hj hi0) i0 0 (((2147483647 - (0 : Int32).toInt).toNat) + 1) rfl (by omega) (by rw [kc_0]; omega)
  rw [nI_0] at e
  rw [PX7_weightOf_eq]
  exact e
theorem ws_of (hC : CR N words unsures slips throne said kind parts pn wt tw uw uo r told) {k q : Nat} (hk : k < N) (hp : parts k = nI q) (hD : ND k q kind pn wt ws steps below) : pf opA 0 (fun j => r (45 + 4 * k + j)) q = ws k := by
  rw [hD.2.1, sI_pf]
  exact pf_congr q (fun i hi => ((hC.k hk).2.2.2.2 i (by have := hD.1; rw [hp, nI_toInt (by omega)]; omega)).2.symm)
theorem kd_of (hC : CR N words unsures slips throne said kind parts pn wt tw uw uo r told) (hR : ROk r) {k : Nat} (hk : k < N) : kind k = 0 ∨ kind k = 1 ∨ kind k = 2 ∨ kind k = 3 := by
  have hN := hC.N.2.1
  have h := hR.kind (9 + k) (by omega) (by omega)
  rw [← (hC.k hk).1] at h
  simp only [fz_eq, kc_0, kc_1, kc_2, kc_3]
  omega
theorem q1_of (hC : CR N words unsures slips throne said kind parts pn wt tw uw uo r told) (hR : ROk r) {k q : Nat} (hk : k < N) (hp : parts k = nI q) (hq : q ≤ 4) (h0 : ¬ kind k = 0) : 1 ≤ q := by
  obtain ⟨hN0, hN, hr⟩ := hC.N
  have h := hR.inner k (by rw [hr, nI_toInt (by omega)]; omega) (fun e => h0 (by rw [(hC.k hk).1, fz_eq, kc_0]; exact e))
  rw [many_q hC hk hp, nI_toInt (by omega)] at h
  omega
theorem w9_of (hC : CR N words unsures slips throne said kind parts pn wt tw uw uo r told) (hR : ROk r) {k q : Nat} (hk : k < N) (hp : parts k = nI q) (hD : ND k q kind pn wt ws steps below) (h3 : kind k = 3) : ws k = pf opA 0 (fun i => wt (4 * k + i)) q ∧ ∀ i : Nat, i < q → 1 ≤ (wt (4 * k + i)).toInt ∧ (wt (4 * k + i)).toInt ≤ 9 := by
  obtain ⟨hN0, hN, hr⟩ := hC.N
  have hq := hD.1
  refine ⟨by rw [hD.2.1, sI_pf], fun i hi => ?_⟩
  rw [((hC.k hk).2.2.2.2 i (by rw [hp, nI_toInt (by omega)]; omega)).2]
  refine ⟨hR.chance k i (by rw [hr, nI_toInt (by omega)]; omega) (by rw [← (hC.k hk).1, h3]; exact kc_3) (by rw [many_q hC hk hp, nI_toInt (by omega)]; omega), (hR.wts (45 + 4 * k + i) (by omega) (by omega)).2⟩
/-- the reference's worth of a node, one step down: the parts as told -/
theorem wa_step (hC : CR N words unsures slips throne said kind parts pn wt tw uw uo r told) (hS : StR N parts pn W o Q) (hR : ROk r) {n k q d : Nat} {nt sc : Int32} (hk : k < N) (hp : parts k = nI q) (hD : ND k q kind pn wt ws steps below) : PX7_worthAt (n + 1) nt r told sc Q (nI k) (nI d) = if kind k = 0 then W k * sc else if nI d = nt then 50 * sc else Jv (kind k) (ws k) wt (fun i => PX7_worthAt n nt r told sc Q (pn (4 * k + i)) (nI (d + 1))) k q := by
  have hN := hC.N.2.1
  have hq := hD.1
  have hm := many_q hC hk hp
  obtain ⟨s, s1, s2, s3⟩ := st_perm hS hk hp hD.1
  have hv : ∀ i : Nat, i < q → PX7_worthAt n nt r told sc Q (Q (4 * k + i)) (nI (d + 1)) = (fun i => PX7_worthAt n nt r told sc Q (pn (4 * k + s i)) (nI (d + 1))) i := fun i hi => by rw [s3 i hi]
  rw [PX7_worthAt_eq]
  simp only [lt_ap]
  rw [show (9 : Int32) + nI k = nI (9 + k) from nI_add 9 k, nI_clamp (show 9 + k < 2 ^ 31 by omega), ← (hC.k hk).1]
  by_cases h0 : kind k = 0
  · rw [if_pos h0, if_pos h0, show (72 : Int32) + nI k = nI (72 + k) from nI_add 72 k, nI_clamp (show 72 + k < 2 ^ 31 by omega), ← (hS k hk).1]
  · rw [if_neg h0, if_neg h0]
    by_cases hn : nI d = nt
    · rw [if_pos hn, if_pos hn]
    · rw [if_neg hn, if_neg hn, ← Jv_perm (v := fun i => PX7_worthAt n nt r told sc Q (pn (4 * k + i)) (nI (d + 1))) (wt := wt) s1 s2]
      rcases kd_of hC hR hk with c | c | c | c
      · exact absurd c h0
      · rw [c, if_neg (show ¬ (1 : Int32) = 2 by decide), if_pos rfl, if_neg (show ¬ (1 : Int32) = 3 by decide), if_pos rfl]
        have e := wk_loop (z := -100000000) (by omega) hq hm hv q 0 (((4 - (0 : Int32).toInt).toNat) + 1) rfl (by omega) (by rw [kc_0]; omega)
        rw [nI_0] at e
        exact e
      · rw [c, if_pos rfl, if_neg (show ¬ (2 : Int32) = 3 by decide), if_neg (show ¬ (2 : Int32) = 1 by decide)]
        have e := wq_loop (z := 100000000) (by omega) hq hm hv q 0 (((4 - (0 : Int32).toInt).toNat) + 1) rfl (by omega) (by rw [kc_0]; omega)
        rw [nI_0] at e
        exact e
      · rw [c, if_neg (show ¬ (3 : Int32) = 2 by decide), if_neg (show ¬ (3 : Int32) = 1 by decide), if_pos rfl]
        have e := wc_loop (told := told) (u := fun i => wt (4 * k + s i)) (by omega) hq hm hv (fun i hi => by rw [s3 i hi]; exact wo_eq hC hk hp hD (s1 i hi)) q 0 (((4 - (0 : Int32).toInt).toNat) + 1) rfl (by omega) (by rw [kc_0]; omega)
        rw [nI_0, ws_of hC hk hp hD] at e
        exact e
theorem wa_in (hC : CR N words unsures slips throne said kind parts pn wt tw uw uo r told) (hS : StR N parts pn W o Q) (hI : CI N unit kind parts pn wt ws steps below above) (hR : ROk r) (hW : ∀ k : Nat, k < N → kind k = 0 → 0 ≤ (W k).toInt ∧ (W k).toInt ≤ 99) {nt sc : Int32} (hs : 1 ≤ sc.toInt ∧ sc.toInt ≤ 1296) (k : Nat) : ∀ (n d : Nat), k < n → k < N → 0 ≤ (PX7_worthAt n nt r told sc Q (nI k) (nI d)).toInt ∧ (PX7_worthAt n nt r told sc Q (nI k) (nI d)).toInt ≤ 128304 := by
  induction k using Nat.strongRecOn with
  | _ k ih =>
    intro n d h1 hk
    obtain ⟨n, rfl⟩ : ∃ g, n = g + 1 := ⟨n - 1, by omega⟩
    obtain ⟨q, hp, hD⟩ := hI.2.1 k hk
    have hq := hD.1
    rw [wa_step hC hS hR hk hp hD]
    by_cases h0 : kind k = 0
    · obtain ⟨a, b⟩ := hW k hk h0
      have p1 : 0 ≤ (W k).toInt * sc.toInt := Int.mul_nonneg a (by omega)
      have p2 : (W k).toInt * sc.toInt ≤ 99 * 1296 := Int.mul_le_mul b hs.2 (by omega) (by decide)
      rw [if_pos h0, fb_mulI (by omega) (by omega)]
      omega
    · rw [if_neg h0]
      by_cases hn : nI d = nt
      · have k50 : (50 : Int32).toInt = 50 := by decide
        rw [if_pos hn, fb_mulI (by rw [k50]; omega) (by rw [k50]; omega), k50]
        omega
      · rw [if_neg hn]
        refine Jv_in (by decide) (by decide) hq (q1_of hC hR hk hp hq h0) (fun h3 => w9_of hC hR hk hp hD h3) (fun i hi => ?_)
        obtain ⟨j, j1, j2⟩ := hD.2.2.2.2.1 i hi
        show 0 ≤ (PX7_worthAt n nt r told sc Q (pn (4 * k + i)) (nI (d + 1))).toInt ∧ _
        rw [j2]
        exact ih j j1 n (d + 1) (by omega) (by omega)
/-- neither the fuel nor the depth counts, where there is no night -/
theorem wa_any (hC : CR N words unsures slips throne said kind parts pn wt tw uw uo r told) (hS : StR N parts pn W o Q) (hI : CI N unit kind parts pn wt ws steps below above) (hR : ROk r) {sc : Int32} (k : Nat) : ∀ (n m d e : Nat), k < n → k < m → k < N → d + k < 1000 → e + k < 1000 → PX7_worthAt n (-1) r told sc Q (nI k) (nI d) = PX7_worthAt m (-1) r told sc Q (nI k) (nI e) := by
  induction k using Nat.strongRecOn with
  | _ k ih =>
    intro n m d e h1 h2 hk hd he
    obtain ⟨n, rfl⟩ : ∃ g, n = g + 1 := ⟨n - 1, by omega⟩
    obtain ⟨m, rfl⟩ : ∃ g, m = g + 1 := ⟨m - 1, by omega⟩
    obtain ⟨q, hp, hD⟩ := hI.2.1 k hk
    rw [wa_step hC hS hR hk hp hD, wa_step hC hS hR hk hp hD, if_neg (nIm1 (show d < 2 ^ 31 by omega)), if_neg (nIm1 (show e < 2 ^ 31 by omega))]
    by_cases h0 : kind k = 0
    · rw [if_pos h0, if_pos h0]
    · rw [if_neg h0, if_neg h0]
      refine Jv_congr (fun i hi => ?_)
      obtain ⟨j, j1, j2⟩ := hD.2.2.2.2.1 i hi
      show PX7_worthAt n (-1) r told sc Q (pn (4 * k + i)) (nI (d + 1)) = PX7_worthAt m (-1) r told sc Q (pn (4 * k + i)) (nI (e + 1))
      rw [j2]
      exact ih j j1 n m (d + 1) (e + 1) (by omega) (by omega) (by omega) (by omega) (by omega)
/-- what the class weighs, node by node -/
theorem wall_loop {T : Nat → Int32} (hC : CR N words unsures slips throne said kind parts pn wt tw uw uo r told) (hI : CI N unit kind parts pn wt ws steps below above) (hR : ROk r) {un : Int32} (hT : ∀ k q : Nat, k < N → parts k = nI q → q ≤ 4 → T k = if kind k = 0 then W k * un else Jv (kind k) (ws k) wt (fun i => T (pn (4 * k + i)).toNatClampNeg) k q) (hTi : ∀ k : Nat, k < N → -100000000 < (T k).toInt ∧ (T k).toInt < 100000000) : ∀ (m k f : Nat) (G : Nat → Int32), N - k = m → k ≤ N → m < f → (∀ j : Nat, j < k → G j = T j) → ∃ G' : Nat → Int32, HX4_weighAll_0 (nI N) throne un kind parts pn wt ws W f (nI k) G = (T throne.toNatClampNeg, G') ∧ ∀ j : Nat, j < N → G' j = T j := by
  have hN := hI.1
  intro m
  induction m with
  | zero =>
    intro k f G hr hk hf hV
    obtain ⟨f, rfl⟩ : ∃ g, f = g + 1 := ⟨f - 1, by omega⟩
    obtain rfl : k = N := by omega
    refine ⟨G, ?_, hV⟩
    obtain ⟨-, -, -, -, -, -, -, -, hth, -⟩ := hC
    obtain ⟨t, t1, rfl⟩ := nd_of hN hth
    rw [HX4_weighAll_0_eq, if_pos (nI_le (by omega) (by omega)), PX4_throneValue_eq]
    simp only [lt_ap]
    rw [hn_eq hN, if_pos hth, if_pos rfl, nI_clamp (by omega), hV t t1]
  | succ m ih =>
    intro k f G hr hk hf hV
    obtain ⟨f, rfl⟩ : ∃ g, f = g + 1 := ⟨f - 1, by omega⟩
    obtain ⟨q, hp, hD⟩ := hI.2.1 k (by omega)
    have hq := hD.1
    have key : ∀ z : Int32, z = T k → ∃ G' : Nat → Int32, HX4_weighAll_0 (nI N) throne un kind parts pn wt ws W f (nI (k + 1)) (upd G k z) = (T throne.toNatClampNeg, G') ∧ ∀ j : Nat, j < N → G' j = T j := fun z hz => by
      refine ih (k + 1) f (upd G k z) (by omega) (by omega) (by omega) (fun j hj => ?_)
      by_cases c : j = k
      · rw [c, upd_at, hz]
      · rw [upd_ne c]; exact hV j (by omega)
    rw [HX4_weighAll_0_eq, if_neg (by rw [nI_leI (by omega) (by omega)]; omega)]
    simp only [lt_ap]
    rw [nI_clamp (show k < 2 ^ 31 by omega), nI_o1]
    have hTk := hT k q (by omega) hp hq
    by_cases h0 : kind k = 0
    · rw [if_pos h0]
      rw [if_pos h0] at hTk
      exact key _ hTk.symm
    · rw [if_neg h0]
      rw [if_neg h0] at hTk
      refine key _ ?_
      rw [hTk]
      refine joined_eq (by omega) hq (q1_of hC hR (by omega) hp hq h0) hp h0 (fun i hi => ?_) (fun i hi => ?_) (fun h3 => ?_)
      · obtain ⟨j, j1, j2⟩ := hD.2.2.2.2.1 i hi
        show G (pn (4 * k + i)).toNatClampNeg = T (pn (4 * k + i)).toNatClampNeg
        rw [j2, nI_clamp (by omega)]
        exact hV j (by omega)
      · obtain ⟨j, j1, j2⟩ := hD.2.2.2.2.1 i hi
        show -100000000 < (T (pn (4 * k + i)).toNatClampNeg).toInt ∧ (T (pn (4 * k + i)).toNatClampNeg).toInt < 100000000
        rw [j2, nI_clamp (by omega)]
        exact hTi j (by omega)
      · obtain ⟨e, hw⟩ := w9_of hC hR (show k < N by omega) hp hD h3
        have h1 := q1_of hC hR (show k < N by omega) hp hq h0
        have a := (sum_w (w := fun i => wt (4 * k + i)) q hq hw).1
        rw [e]
        omega
theorem weigh_eq (hC : CR N words unsures slips throne said kind parts pn wt tw uw uo r told) (hS : StR N parts pn W o Q) (hI : CI N unit kind parts pn wt ws steps below above) (hR : ROk r) (hW : ∀ k : Nat, k < N → kind k = 0 → 0 ≤ (W k).toInt ∧ (W k).toInt ≤ 99) {un : Int32} (hs : 1 ≤ un.toInt ∧ un.toInt ≤ 1296) (V : Nat → Int32) : ∃ G' : Nat → Int32, PX4_weighAll V (nI N) throne un kind parts pn wt ws W = (PX7_throneBy r told un (-1) Q, G') ∧ ∀ j : Nat, j < N → G' j = PX7_worthOf r told un (-1) Q (nI j) := by
  have hN := hI.1
  have h0 : ∀ p : Int32, PX7_worthOf r told un (-1) Q p = PX7_worthAt 18 (-1) r told un Q p (nI 0) := fun p => by
    rw [PX7_worthOf_eq, lt_ap, nI_0]
  obtain ⟨G', e, hG⟩ := wall_loop (T := fun k => PX7_worthOf r told un (-1) Q (nI k)) (W := W) hC hI hR (un := un) (fun k q hk hp hq4 => by
    obtain ⟨q', hp', hD⟩ := hI.2.1 k hk
    obtain rfl : q = q' := (nI_eq (by omega) (by have := hD.1; omega)).mp (hp.symm.trans hp')
    show PX7_worthOf r told un (-1) Q (nI k) = _
    have e9 : Jv (kind k) (ws k) wt (fun i => PX7_worthOf r told un (-1) Q (nI (pn (4 * k + i)).toNatClampNeg)) k q = Jv (kind k) (ws k) wt (fun i => PX7_worthAt 17 (-1) r told un Q (pn (4 * k + i)) (nI (0 + 1))) k q := Jv_congr (fun i hi => by
      obtain ⟨j, j1, j2⟩ := hD.2.2.2.2.1 i hi
      show PX7_worthOf r told un (-1) Q (nI (pn (4 * k + i)).toNatClampNeg) = PX7_worthAt 17 (-1) r told un Q (pn (4 * k + i)) (nI (0 + 1))
      rw [j2, nI_clamp (by omega), h0]
      exact wa_any hC hS hI hR j 18 17 0 1 (by omega) (by omega) (by omega) (by omega) (by omega))
    rw [h0, show (18 : Nat) = 17 + 1 from rfl, wa_step hC hS hR hk hp hD, if_neg (nIm1 (show 0 < 2 ^ 31 by omega)), e9]) (fun k hk => by
    have a := wa_in hC hS hI hR hW hs k 18 0 (by omega) hk (nt := -1)
    show -100000000 < (PX7_worthOf r told un (-1) Q (nI k)).toInt ∧ (PX7_worthOf r told un (-1) Q (nI k)).toInt < 100000000
    rw [h0]
    omega) N 0 (((2147483647 - (0 : Int32).toInt).toNat) + 1) V rfl (by omega) (by rw [kc_0]; omega) (fun j hj => absurd hj (by omega))
  rw [nI_0] at e
  refine ⟨G', ?_, hG⟩
  have hth : r 6 = throne := hC.2.2.2.2.2.2.1
  obtain ⟨-, -, -, -, -, -, -, -, ht, -⟩ := hC
  obtain ⟨t, t1, rfl⟩ := nd_of hN ht
  rw [PX4_weighAll_eq, e, PX7_throneBy_eq]
  simp only [lt_ap]
  rw [six_cl, hth, nI_clamp (by omega)]
end WQ
end F2
end
section
/-! wholes in lowest terms, on both sides -/
section F3
theorem lmod {x y : Int64} (hx : 0 ≤ x.toInt) (hy : 0 < y.toInt) : (x - x / y * y).toInt = x.toInt % y.toInt := by
  have hxr := fb_rngL x
  have hyr := fb_rngL y
  have key : (x - x / y * y).toInt = x.toInt.tmod y.toInt := by
    rw [Int64.toInt_sub, Int64.toInt_mul, Int64.toInt_div]
    have h1 : x.toInt.tmod y.toInt = x.toInt - y.toInt * x.toInt.tdiv y.toInt := Int.tmod_def _ _
    have h2 : (x.toInt.tmod y.toInt).natAbs < y.toInt.natAbs := by rw [Int.natAbs_tmod]; exact Nat.mod_lt _ (by omega)
    rw [← fb_bmodL (z := x.toInt.tmod y.toInt) (by omega) (by omega), h1]
    simp only [Int.sub_bmod_bmod, Int.bmod_mul_bmod, Int.mul_comm]
    rw [← Int.sub_bmod_bmod, Int.mul_bmod_bmod, Int.sub_bmod_bmod]
  rw [key, Int.tmod_eq_emod_of_nonneg hx]
theorem lz_i : (0 : Int64).toInt = 0 := by decide
theorem l_inj {x y : Int64} (h : x.toInt = y.toInt) : x = y := Int64.toInt_inj.mp h
theorem cmp_z {x : Int64} (h : x = 0) : lg_cmp x 0 = 0 := (lg_cmp0 x 0).mpr h
theorem cmp_n {x : Int64} (h : ¬ x = 0) : ¬ lg_cmp x 0 = 0 := fun q => h ((lg_cmp0 x 0).mp q)
/-- how many rounds a division chain takes -/
def egS : Nat → Nat → Nat → Bool
  | 0, _, b => b == 0
  | n + 1, a, b => b == 0 || egS n b (a % b)
theorem egS_0 (n a : Nat) : egS n a 0 = true := by
  cases n <;> rfl
theorem egS_mono : ∀ (n a b : Nat), egS n a b = true → egS (n + 1) a b = true
  | 0, a, b, h => by
    have h : (b == 0) = true := h
    show (b == 0 || egS 0 b (a % b)) = true
    rw [h]; rfl
  | n + 1, a, b, h => by
    have h : (b == 0 || egS n b (a % b)) = true := h
    show (b == 0 || egS (n + 1) b (a % b)) = true
    rcases Bool.or_eq_true_iff.mp h with q | q
    · rw [q]; rfl
    · rw [egS_mono n _ _ q, Bool.or_true]
theorem egS_le {n m : Nat} (h : n ≤ m) {a b : Nat} (e : egS n a b = true) : egS m a b = true := by
  obtain ⟨d, rfl⟩ : ∃ d, m = n + d := ⟨m - n, by omega⟩
  clear h
  induction d with
  | zero => exact e
  | succ d ih => exact egS_mono _ _ _ ih
theorem egS_pow : ∀ (n a b : Nat), b < 2 ^ n → egS (2 * n) a b = true
  | 0, a, b, h => by
    obtain rfl : b = 0 := by
      have : (2 : Nat) ^ 0 = 1 := rfl
      omega
    exact egS_0 _ _
  | n + 1, a, b, h => by
    by_cases h0 : b = 0
    · rw [h0]; exact egS_0 _ _
    · have e1 : 2 * (n + 1) = 2 * n + 1 + 1 := by omega
      rw [e1]
      show (b == 0 || (a % b == 0 || egS (2 * n) (a % b) (b % (a % b)))) = true
      by_cases h1 : a % b = 0
      · rw [h1]; simp
      · have l1 : a % b < b := Nat.mod_lt _ (by omega)
        have l2 : b % (a % b) < 2 ^ n := by
          have p : (2 : Nat) ^ (n + 1) = 2 * 2 ^ n := by rw [Nat.pow_succ]; omega
          by_cases c : a % b ≤ 2 ^ n
          · exact Nat.lt_of_lt_of_le (Nat.mod_lt _ (by omega)) c
          · have l3 : b % (a % b) = b - a % b := by
              rw [Nat.mod_eq_sub_mod (by omega), Nat.mod_eq_of_lt (by omega)]
            omega
        rw [egS_pow n _ _ l2, Bool.or_true, Bool.or_true]
/-- the class's chain ends at the greatest common divisor -/
theorem gc_loop : ∀ (n : Nat) (x y : Int64) (i f : Nat), 0 ≤ x.toInt → 0 ≤ y.toInt → egS n x.toInt.toNat y.toInt.toNat = true → i + n ≤ 999 → n < f → (HX6_greatestCommon_0 f x y (nI i)).toInt = (Nat.gcd x.toInt.toNat y.toInt.toNat : Int)
  | n, x, y, i, 0, _, _, _, _, hf => absurd hf (by omega)
  | n, x, y, i, f + 1, hx, hy, he, hi, hf => by
    have k1000 : (1000 : Int32).toInt = 1000 := by decide
    rw [HX6_greatestCommon_0_eq, if_neg (show ¬ (1000 : Int32) ≤ nI i by rw [fz_le, k1000, nI_toInt (by omega)]; omega)]
    simp only [lt_ap]
    by_cases h0 : y = 0
    · rw [if_pos (cmp_z h0), h0, lz_i]
      show x.toInt = (Nat.gcd x.toInt.toNat (0 : Int).toNat : Int)
      rw [show (0 : Int).toNat = 0 from rfl, Nat.gcd_zero_right]
      omega
    · have hy0 : 0 < y.toInt := by
        have : ¬ y.toInt = 0 := fun q => h0 (l_inj (by rw [q, lz_i]))
        omega
      rw [if_neg (cmp_n h0), nI_o1]
      have em := lmod hx hy0
      have en : (x - x / y * y).toInt.toNat = x.toInt.toNat % y.toInt.toNat := by
        rw [em]
        have := Int.toNat_emod hx (Int.le_of_lt hy0)
        exact this
      obtain ⟨n, rfl⟩ : ∃ g, n = g + 1 := by
        refine ⟨n - 1, ?_⟩
        cases n with
        | zero =>
          have he : (y.toInt.toNat == 0) = true := he
          have := beq_iff_eq.mp he
          omega
        | succ n => omega
      have he2 : egS n y.toInt.toNat (x.toInt.toNat % y.toInt.toNat) = true := by
        have he : (y.toInt.toNat == 0 || egS n y.toInt.toNat (x.toInt.toNat % y.toInt.toNat)) = true := he
        rcases Bool.or_eq_true_iff.mp he with q | q
        · have := beq_iff_eq.mp q
          omega
        · exact q
      rw [gc_loop n y (x - x / y * y) (i + 1) f hy (by rw [em]; exact Int.emod_nonneg _ (by omega)) (by rw [en]; exact he2) (by omega) (by omega), en, Nat.gcd_comm, ← Nat.gcd_rec, Nat.gcd_comm]
theorem lo_loop {p0 p1 : Int64} {p2 : Int32} : ∀ (f : Nat) (x y : Int64), 0 ≤ x.toInt → 0 ≤ y.toInt → y.toInt.natAbs < f → ∃ g : Int64, g.toInt = (Nat.gcd x.toInt.toNat y.toInt.toNat : Int) ∧ HX7_lowest_0 p0 p1 p2 f x y = if p2 = 0 then p0 / g else p1 / g
  | 0, x, y, _, _, h => absurd h (by omega)
  | f + 1, x, y, hx, hy, h => by
    rw [HX7_lowest_0_eq]
    simp only [lt_ap]
    by_cases h0 : y = 0
    · rw [if_pos (cmp_z h0)]
      refine ⟨x, ?_, rfl⟩
      rw [h0, lz_i, show (0 : Int).toNat = 0 from rfl, Nat.gcd_zero_right]
      omega
    · have hy0 : 0 < y.toInt := by
        have : ¬ y.toInt = 0 := fun q => h0 (l_inj (by rw [q, lz_i]))
        omega
      rw [if_neg (cmp_n h0)]
      have em := lmod hx hy0
      have ml := Int.emod_lt_of_pos x.toInt hy0
      have mn := Int.emod_nonneg x.toInt (show y.toInt ≠ 0 by omega)
      have en : (x - x / y * y).toInt.toNat = x.toInt.toNat % y.toInt.toNat := by
        rw [em]
        exact Int.toNat_emod hx (Int.le_of_lt hy0)
      obtain ⟨g, g1, g2⟩ := lo_loop (p0 := p0) (p1 := p1) (p2 := p2) f y (x - x / y * y) hy (by rw [em]; exact mn) (by rw [em]; omega)
      refine ⟨g, ?_, g2⟩
      rw [g1, en, Nat.gcd_comm, ← Nat.gcd_rec, Nat.gcd_comm]
/-- both sides put a whole by a whole in lowest terms alike -/
theorem lowest_eq {u d : Int64} (hu : 0 ≤ u.toInt) (hd : 1 ≤ d.toInt) (p : Int32) : PX6_inLowestTerms u d p = PX7_lowest u d p := by
  have hur := fb_rngL u
  have hdr := fb_rngL d
  obtain ⟨g, g1, g2⟩ := lo_loop (p0 := u) (p1 := d) (p2 := p) (u.toInt.natAbs + 1) d u (by omega) hu (by omega)
  have hp : d.toInt.toNat < 2 ^ 63 := by
    have : (2 : Nat) ^ 63 = 9223372036854775808 := by decide
    omega
  have e := gc_loop 126 u d 0 (((1000 - (0 : Int32).toInt).toNat) + 1) hu (by omega) (egS_pow 63 _ _ hp) (by omega) (by rw [kc_0]; omega)
  rw [nI_0] at e
  have eg : PX6_greatestCommon u d = g := by
    rw [PX6_greatestCommon_eq]
    refine l_inj ?_
    rw [e, g1, Nat.gcd_comm]
  have gp : 0 < Nat.gcd d.toInt.toNat u.toInt.toNat := Nat.gcd_pos_of_pos_left _ (by omega)
  have hc : (0 : Int32) < lg_cmp g 0 := by
    have : g > 0 := by
      show (0 : Int64) < g
      rw [Int64.lt_iff_toInt_lt, lz_i, g1]
      omega
    unfold lg_cmp
    rw [if_pos this]
    decide
  rw [PX6_inLowestTerms_eq, PX7_lowest_eq, g2, eg]
  simp only [lt_ap]
  rw [if_pos hc]
end F3
end
section
/-! the scale, on both sides -/
section F4
def SQ (M : Int32 × Int32 × Int32 × Int32 × Int32 × Int32 × Int32 × Int32 × Int32 × Int32 × Int32 × Int32 × Int32 × Int32 × Int32 × Int32 × Int32 × Int32 × (Nat → Int32) × (Nat → Int32) × (Nat → Int32) × (Nat → Int32) × (Nat → Int32) × (Nat → Int32) × (Nat → Int32)) : Prop := ¬ M.1 = 0 → PX7_layScale M.2.2.2.2.2.2.2.2.2.2.2.2.2.2.2.2.2.2.2.1 = M.2.2.2.2.2.2.2.2.2.2.2.2.2.2.2.2.2.1
theorem sc2 {fM_tape : Nat → Int32} {iM_hasCourt : Int32} {fM_r : Nat → Int32} {fM_told : Nat → Int32} {fM_st : Nat → Int32} {iM_undos : Int32} {iM_images : Int32} {iM_scale : Int32} {p0 : Int32} {x_14060 : Int32} {x_14061 : Int32} (hs : PX7_layScale fM_r = iM_scale) : ∀ (n9 : Nat) (z_14092 : Int32) (z_14093 : Int32) (z_14094 : Int32) (z_14095 : Int32) (z_14096 : Int32) (z_14097 : Int32) (z_14098 : Int32) (z_14099 : Int32) (z_14100 : Int32) (f_14101 : Nat → Int32) (f_14102 : Nat → Int32) (f_14103 : Nat → Int32) (f_14104 : Nat → Int32), SQ (HX7_court_2 fM_tape iM_hasCourt fM_r fM_told fM_st iM_undos iM_images iM_scale p0 x_14060 x_14061 n9 z_14092 z_14093 z_14094 z_14095 z_14096 z_14097 z_14098 z_14099 z_14100 f_14101 f_14102 f_14103 f_14104)
  | 0, _, _, _, _, _, _, _, _, _, _, _, _, _ => fun q => absurd rfl q
  | n9 + 1, z_14092, z_14093, z_14094, z_14095, z_14096, z_14097, z_14098, z_14099, z_14100, f_14101, f_14102, f_14103, f_14104 => by
    rw [HX7_court_2_eq]
    refine ite_Q (fun _ => ?_) (fun _ => ?_)
    · skip
      refine ite_Q (fun _ => ?_) (fun _ => ?_)
      · skip
        refine un6_Q (fun x_14155 x_14156 x_14157 x_14158 x_14159 f_14160 _ => ?_)
        refine un13_Q (fun x_14161 x_14162 x_14163 x_14164 x_14165 x_14166 x_14167 x_14168 x_14169 f_14170 f_14171 f_14172 f_14173 _ => ?_)
        exact sc2 hs n9 x_14161 x_14162 x_14163 x_14164 x_14165 x_14166 x_14167 x_14168 x_14169 f_14170 f_14171 f_14172 f_14173
      · skip
        refine ite_Q (fun _ => ?_) (fun _ => ?_)
        · skip
          refine ite_Q (fun _ => ?_) (fun _ => ?_)
          · skip
            refine ite_Q (fun _ => ?_) (fun _ => ?_)
            · skip
              refine lt_Q (fun x_14116 e_x_14116 => ?_)
              refine ite_Q (fun _ => ?_) (fun _ => ?_)
              · skip
                refine un3_Q (fun x_14118 x_14119 x_14120 _ => ?_)
                refine ite_Q (fun _ => ?_) (fun _ => ?_)
                · skip
                  exact fun q => absurd rfl q
                · skip
                  refine un2_Q (fun x_14123 x_14122 _ => ?_)
                  exact fun _ => hs
              · skip
                refine lt_Q (fun x_14124 e_x_14124 => ?_)
                refine ite_Q (fun _ => ?_) (fun _ => ?_)
                · skip
                  refine un3_Q (fun x_14142 x_14143 x_14144 _ => ?_)
                  refine ite_Q (fun _ => ?_) (fun _ => ?_)
                  · skip
                    exact fun q => absurd rfl q
                  · skip
                    refine un2_Q (fun x_14147 x_14146 _ => ?_)
                    exact fun _ => hs
                · skip
                  refine ite_Q (fun _ => ?_) (fun _ => ?_)
                  · skip
                    refine lt_Q (fun x_14127 e_x_14127 => ?_)
                    refine ite_Q (fun _ => ?_) (fun _ => ?_)
                    · skip
                      refine lt_Q (fun f_14129 e_f_14129 => ?_)
                      refine lt_Q (fun f_14130 e_f_14130 => ?_)
                      refine lt_Q (fun f_14131 e_f_14131 => ?_)
                      refine lt_Q (fun x_14132 e_x_14132 => ?_)
                      refine lt_Q (fun x_14133 e_x_14133 => ?_)
                      exact fun _ => e_x_14132
                    · skip
                      refine lt_Q (fun x_14134 e_x_14134 => ?_)
                      refine lt_Q (fun x_14135 e_x_14135 => ?_)
                      refine lt_Q (fun f_14136 e_f_14136 => ?_)
                      refine lt_Q (fun f_14137 e_f_14137 => ?_)
                      refine lt_Q (fun f_14138 e_f_14138 => ?_)
                      refine lt_Q (fun f_14139 e_f_14139 => ?_)
                      refine lt_Q (fun x_14140 e_x_14140 => ?_)
                      refine lt_Q (fun x_14141 e_x_14141 => ?_)
                      exact fun _ => e_x_14140
                  · skip
                    exact fun q => absurd rfl q
            · skip
              exact fun q => absurd rfl q
          · skip
            refine un3_Q (fun x_14148 x_14149 x_14150 _ => ?_)
            refine ite_Q (fun _ => ?_) (fun _ => ?_)
            · skip
              exact fun q => absurd rfl q
            · skip
              refine ite_Q (fun _ => ?_) (fun _ => ?_)
              · skip
                exact fun q => absurd rfl q
              · skip
                refine un2_Q (fun x_14154 x_14153 _ => ?_)
                exact fun _ => hs
        · skip
          exact fun q => absurd rfl q
    · skip
      refine ite_Q (fun _ => ?_) (fun _ => ?_)
      · skip
        exact fun q => absurd rfl q
      · skip
        refine ite_Q (fun _ => ?_) (fun _ => ?_)
        · skip
          exact fun q => absurd rfl q
        · skip
          refine ite_Q (fun _ => ?_) (fun _ => ?_)
          · skip
            exact fun q => absurd rfl q
          · skip
            refine un2_Q (fun x_14111 x_14110 _ => ?_)
            exact fun _ => hs
theorem sc1 {fM_tape : Nat → Int32} {iM_place : Int32} {fM_letters : Nat → Int32} {iM_hasCourt : Int32} {fM_r : Nat → Int32} {fM_told : Nat → Int32} {fM_st : Nat → Int32} {iM_undos : Int32} {iM_images : Int32} {fM_fresher : Nat → Int32} {iM_fresherSize : Int32} {iM_scale : Int32} {p0 : Int32} {x_14060 : Int32} {x_14061 : Int32} {f_14065 : Nat → Int32} (hs : PX7_layScale fM_r = iM_scale) : ∀ (n9 : Nat) (z_14068 : Int32) (f_14069 : Nat → Int32), SQ (HX7_court_1 fM_tape iM_place fM_letters iM_hasCourt fM_r fM_told fM_st iM_undos iM_images fM_fresher iM_fresherSize iM_scale p0 x_14060 x_14061 f_14065 n9 z_14068 f_14069)
  | 0, _, _ => fun q => absurd rfl q
  | n9 + 1, z_14068, f_14069 => by
    rw [HX7_court_1_eq]
    refine ite_Q (fun _ => ?_) (fun _ => ?_)
    · skip
      refine lt_Q (fun f_14072 e_f_14072 => ?_)
      refine un6_Q (fun x_14073 x_14074 x_14075 x_14076 x_14077 f_14078 _ => ?_)
      refine un13_Q (fun x_14079 x_14080 x_14081 x_14082 x_14083 x_14084 x_14085 x_14086 x_14087 f_14088 f_14089 f_14090 f_14091 _ => ?_)
      exact sc2 hs _ _ _ _ _ _ _ _ _ _ _ _ _ _ 
    · skip
      refine lt_Q (fun f_14174 e_f_14174 => ?_)
      refine lt_Q (fun x_14175 e_x_14175 => ?_)
      exact sc1 hs n9 x_14175 f_14174
theorem sc0 {fM_tape : Nat → Int32} {iM_place : Int32} {fM_letters : Nat → Int32} {iM_hasCourt : Int32} {fM_r : Nat → Int32} {fM_told : Nat → Int32} {fM_read : Nat → Int32} {fM_st : Nat → Int32} {iM_undos : Int32} {iM_images : Int32} {fM_fresher : Nat → Int32} {iM_fresherSize : Int32} {iM_scale : Int32} {p0 : Int32} {x_14060 : Int32} {x_14061 : Int32} (hs : PX7_layScale fM_r = iM_scale) : ∀ (n9 : Nat) (z_14064 : Int32) (f_14065 : Nat → Int32), SQ (HX7_court_0 fM_tape iM_place fM_letters iM_hasCourt fM_r fM_told fM_read fM_st iM_undos iM_images fM_fresher iM_fresherSize iM_scale p0 x_14060 x_14061 n9 z_14064 f_14065)
  | 0, _, _ => fun q => absurd rfl q
  | n9 + 1, z_14064, f_14065 => by
    rw [HX7_court_0_eq]
    refine ite_Q (fun _ => ?_) (fun _ => ?_)
    · skip
      exact sc1 hs _ _ _ 
    · skip
      refine lt_Q (fun f_14176 e_f_14176 => ?_)
      refine lt_Q (fun x_14177 e_x_14177 => ?_)
      exact sc0 hs n9 x_14177 f_14176
theorem court_S {fM_tape : Nat → Int32} {iM_taped : Int32} {iM_size : Int32} {iM_at : Int32} {iM_end : Int32} {iM_token : Int32} {iM_whole : Int32} {iM_nameSize : Int32} {iM_fault : Int32} {iM_place : Int32} {fM_letters : Nat → Int32} {iM_failed : Int32} {iM_hasCourt : Int32} {fM_r : Nat → Int32} {fM_fresh : Nat → Int32} {fM_told : Nat → Int32} {fM_read : Nat → Int32} {fM_st : Nat → Int32} {iM_undos : Int32} {iM_images : Int32} {fM_fresher : Nat → Int32} {iM_fresherSize : Int32} {iM_scale : Int32} {p0 : Int32} (hs : PX7_layScale fM_r = iM_scale) : SQ (PX7_court fM_tape iM_taped iM_size iM_at iM_end iM_token iM_whole iM_nameSize iM_fault iM_place fM_letters iM_failed iM_hasCourt fM_r fM_fresh fM_told fM_read fM_st iM_undos iM_images fM_fresher iM_fresherSize iM_scale p0) := by
  rw [PX7_court_eq]
  refine un2_Q (fun x_14060 x_14061 _ => ?_)
  refine lt_Q (fun x_14062 e_x_14062 => ?_)
  refine ite_Q (fun _ => ?_) (fun _ => ?_)
  · skip
    refine un2_Q (fun x_14180 x_14179 _ => ?_)
    exact fun _ => hs
  · skip
    exact sc0 hs _ _ _ 
section LQ
variable {N : Nat} {words unsures slips throne said unit : Int32} {kind parts pn wt tw uw uo r told ws steps below above : Nat → Int32}
theorem ls_loop (hC : CR N words unsures slips throne said kind parts pn wt tw uw uo r told) (hI : CI N unit kind parts pn wt ws steps below above) : ∀ (m i f : Nat), N - i = m → i ≤ N → m < f → HX7_layScale_0 r f (nI i) (uI kind ws i) = uI kind ws N := by
  obtain ⟨hN0, hN, hr⟩ := hC.N
  intro m
  induction m with
  | zero =>
    intro i f hm hi hf
    obtain ⟨f, rfl⟩ : ∃ g, f = g + 1 := ⟨f - 1, by omega⟩
    obtain rfl : i = N := by omega
    rw [HX7_layScale_0_eq]
    simp only [lt_ap]
    rw [one_cl, hr, if_pos (nI_le (by omega) (by omega))]
  | succ m ih =>
    intro i f hm hi hf
    obtain ⟨f, rfl⟩ : ∃ g, f = g + 1 := ⟨f - 1, by omega⟩
    obtain ⟨q, hp, hD⟩ := hI.2.1 i (by omega)
    rw [HX7_layScale_0_eq]
    simp only [lt_ap]
    rw [one_cl, hr, if_neg (by rw [nI_leI (by omega) (by omega)]; omega), show (9 : Int32) + nI i = nI (9 + i) from nI_add 9 i, nI_clamp (by omega), ← (hC.k (show i < N by omega)).1, ws_eq (by omega) hD.1 (many_q hC (by omega) hp), ws_of hC (by omega) hp hD, nI_o1]
    have e : uI kind ws (i + 1) = if kind i = 3 then uI kind ws i * ws i else uI kind ws i := rfl
    by_cases c : kind i = 3
    · rw [if_pos c] at e
      rw [if_pos c, ← e]
      exact ih (i + 1) f (by omega) (by omega) (by omega)
    · rw [if_neg c] at e
      rw [if_neg c, ← e]
      exact ih (i + 1) f (by omega) (by omega) (by omega)
theorem ls_eq (hC : CR N words unsures slips throne said kind parts pn wt tw uw uo r told) (hI : CI N unit kind parts pn wt ws steps below above) : PX7_layScale r = unit := by
  obtain ⟨hN0, hN, hr⟩ := hC.N
  have e := ls_loop hC hI N 0 ((((r 1).toInt - (0 : Int32).toInt).toNat) + 1) rfl (by omega) (by rw [hr, nI_toInt (by omega), kc_0]; omega)
  rw [nI_0] at e
  rw [PX7_layScale_eq, hI.2.2.1]
  exact e
end LQ
theorem sc_start : PX7_layScale (fun _ => 0) = 1 := by
  rw [PX7_layScale_eq]
  show HX7_layScale_0 (fun _ => 0) (0 + 1) 0 1 = 1
  rw [HX7_layScale_0_eq]
  simp only [lt_ap]
  exact if_pos (by decide)

theorem ct_joinS {U : Nat → Int32} {ts lf hc : Int32} {r told st : Nat → Int32} {undos images scale p : Int32} {r7 : Int32} {a7 : Int32} {l7 : Int32} {f7 : Int32} {hc7 : Int32} {rr7 : Nat → Int32} {told7 : Nat → Int32} {st7 : Nat → Int32} {undos7 : Int32} {images7 : Int32} {scale7 : Int32} (hs : PX7_layScale r = scale) (h7 : CtMX U ts lf hc r told st undos images scale p r7 a7 l7 f7 hc7 rr7 told7 st7 undos7 images7 scale7) (h0 : ¬ r7 = 0) : PX7_layScale rr7 = scale7 := by
  obtain ⟨y_iM_size, y_iM_at, y_iM_end, y_iM_token, y_iM_whole, y_iM_nameSize, y_iM_place, y_fM_letters, y_iM_failed, y_fM_fresh, y_fM_read, y_fM_fresher, y_iM_fresherSize, y⟩ := h7
  have hq : SQ (PX7_court U ts y_iM_size y_iM_at y_iM_end y_iM_token y_iM_whole y_iM_nameSize lf y_iM_place y_fM_letters y_iM_failed hc r y_fM_fresh told y_fM_read st undos images y_fM_fresher y_iM_fresherSize scale p) := court_S hs
  generalize PX7_court U ts y_iM_size y_iM_at y_iM_end y_iM_token y_iM_whole y_iM_nameSize lf y_iM_place y_fM_letters y_iM_failed hc r y_fM_fresh told y_fM_read st undos images y_fM_fresher y_iM_fresherSize scale p = M at y hq
  obtain ⟨y1, y3, y10, y12, y14, y20, y22, y24, y15, y16, y18⟩ := y
  have g := hq (fun e => h0 (y1.symm.trans e))
  rw [y20, y18] at g
  exact g
end F4
end
