section
/-! folds over the parts, in any order -/
section E3
def pf (op : Int32 → Int32 → Int32) (z : Int32) (g : Nat → Int32) : Nat → Int32
  | 0 => z
  | m + 1 => op (pf op z g m) (g m)
theorem pf_congr {op : Int32 → Int32 → Int32} {z : Int32} {g h : Nat → Int32} : ∀ m : Nat, (∀ i : Nat, i < m → g i = h i) → pf op z g m = pf op z h m
  | 0, _ => rfl
  | m + 1, e => by rw [pf, pf, pf_congr m (fun i hi => e i (by omega)), e m (by omega)]
theorem pf_pull {op : Int32 → Int32 → Int32} (hc : ∀ a b c : Int32, op (op a b) c = op (op a c) b) {z : Int32} {g : Nat → Int32} {j : Nat} : ∀ d : Nat, pf op z g (j + 1 + d) = op (pf op z (fun i => if i < j then g i else g (i + 1)) (j + d)) (g j)
  | 0 => by
    have e : pf op z (fun i => if i < j then g i else g (i + 1)) j = pf op z g j := pf_congr j (fun i hi => if_pos hi)
    show pf op z g (j + 1) = op (pf op z (fun i => if i < j then g i else g (i + 1)) j) (g j)
    rw [e]
    rfl
  | d + 1 => by
    have e : (if j + d < j then g (j + d) else g (j + d + 1)) = g (j + 1 + d) := by
      rw [if_neg (by omega), show j + d + 1 = j + 1 + d by omega]
    have q : pf op z (fun i => if i < j then g i else g (i + 1)) (j + (d + 1)) = op (pf op z (fun i => if i < j then g i else g (i + 1)) (j + d)) (g (j + 1 + d)) := by
      rw [← e]
      rfl
    rw [q, hc, ← pf_pull hc d]
    rfl
theorem no_inj : ∀ (q : Nat) (s : Nat → Nat), (∀ i : Nat, i < q + 1 → s i < q) → (∀ i j : Nat, i < q + 1 → j < q + 1 → s i = s j → i = j) → False
  | 0, s, h, _ => absurd (h 0 (by omega)) (by omega)
  | q + 1, s, h, hi => by
    refine no_inj q (fun i => if s i = q then s (q + 1) else s i) (fun i hq => ?_) (fun i j hq hj e => ?_)
    · show (if s i = q then s (q + 1) else s i) < q
      by_cases c : s i = q
      · rw [if_pos c]
        have h1 := h (q + 1) (by omega)
        have h2 : ¬ s (q + 1) = q := fun e => by
          have := hi i (q + 1) (by omega) (by omega) (c.trans e.symm)
          omega
        omega
      · rw [if_neg c]
        have := h i (by omega)
        omega
    · have e : (if s i = q then s (q + 1) else s i) = (if s j = q then s (q + 1) else s j) := e
      by_cases c : s i = q
      · by_cases c2 : s j = q
        · exact hi i j (by omega) (by omega) (c.trans c2.symm)
        · rw [if_pos c, if_neg c2] at e
          have := hi (q + 1) j (by omega) (by omega) e
          omega
      · by_cases c2 : s j = q
        · rw [if_neg c, if_pos c2] at e
          have := hi i (q + 1) (by omega) (by omega) e
          omega
        · rw [if_neg c, if_neg c2] at e
          exact hi i j (by omega) (by omega) e
theorem inj_surj {q : Nat} {s : Nat → Nat} (h1 : ∀ i : Nat, i < q + 1 → s i < q + 1) (h2 : ∀ i j : Nat, i < q + 1 → j < q + 1 → s i = s j → i = j) : ∃ j : Nat, j < q + 1 ∧ s j = q := by
  by_cases c : ∃ j : Nat, j < q + 1 ∧ s j = q
  · exact c
  · exact (no_inj q s (fun i hi => by
      have a := h1 i hi
      have b : ¬ s i = q := fun e => c ⟨i, hi, e⟩
      omega) h2).elim
theorem pf_perm {op : Int32 → Int32 → Int32} (hc : ∀ a b c : Int32, op (op a b) c = op (op a c) b) {z : Int32} {g : Nat → Int32} : ∀ (q : Nat) (s : Nat → Nat), (∀ i : Nat, i < q → s i < q) → (∀ i j : Nat, i < q → j < q → s i = s j → i = j) → pf op z (fun i => g (s i)) q = pf op z g q
  | 0, _, _, _ => rfl
  | q + 1, s, h1, h2 => by
    obtain ⟨j, hj, ej⟩ := inj_surj h1 h2
    obtain ⟨d, hd⟩ : ∃ d : Nat, q = j + d := ⟨q - j, by omega⟩
    have e := pf_pull hc (z := z) (g := fun i => g (s i)) (j := j) d
    rw [show j + 1 + d = q + 1 by omega, ← hd] at e
    have ih := pf_perm hc (z := z) (g := g) q (fun i => if i < j then s i else s (i + 1)) (fun i hi => by
      show (if i < j then s i else s (i + 1)) < q
      by_cases c : i < j
      · rw [if_pos c]
        have a := h1 i (by omega)
        have b : ¬ s i = q := fun x => by have := h2 i j (by omega) hj (x.trans ej.symm); omega
        omega
      · rw [if_neg c]
        have a := h1 (i + 1) (by omega)
        have b : ¬ s (i + 1) = q := fun x => by have := h2 (i + 1) j (by omega) hj (x.trans ej.symm); omega
        omega) (fun i k hi hk x => by
      have x : (if i < j then s i else s (i + 1)) = (if k < j then s k else s (k + 1)) := x
      by_cases c : i < j
      · by_cases c2 : k < j
        · rw [if_pos c, if_pos c2] at x
          exact h2 i k (by omega) (by omega) x
        · rw [if_pos c, if_neg c2] at x
          have := h2 i (k + 1) (by omega) (by omega) x
          omega
      · by_cases c2 : k < j
        · rw [if_neg c, if_pos c2] at x
          have := h2 (i + 1) k (by omega) (by omega) x
          omega
        · rw [if_neg c, if_neg c2] at x
          have := h2 (i + 1) (k + 1) (by omega) (by omega) x
          omega)
    have e2 : pf op z (fun i => if i < j then g (s i) else g (s (i + 1))) q = pf op z g q := by
      rw [← ih]
      refine pf_congr q (fun i hi => ?_)
      show (if i < j then g (s i) else g (s (i + 1))) = g (if i < j then s i else s (i + 1))
      by_cases c : i < j
      · rw [if_pos c, if_pos c]
      · rw [if_neg c, if_neg c]
    rw [e]
    show op (pf op z (fun i => if i < j then g (s i) else g (s (i + 1))) q) (g (s j)) = op (pf op z g q) (g q)
    rw [e2, ej]
/-- the parts as they stand are the parts as told, in another order -/
theorem st_perm {N k q : Nat} {parts pn w o st : Nat → Int32} (h : StR N parts pn w o st) (hk : k < N) (hp : parts k = nI q) (hq : q ≤ 4) : ∃ s : Nat → Nat, (∀ i : Nat, i < q → s i < q) ∧ (∀ i j : Nat, i < q → j < q → s i = s j → i = j) ∧ ∀ i : Nat, i < q → st (4 * k + i) = pn (4 * k + s i) := by
  obtain ⟨-, h1, h2⟩ := h k hk
  rw [hp, nI_toInt (by omega)] at h1 h2
  refine ⟨fun i => (o (4 * k + i)).toInt.toNat, fun i hi => ?_, fun i j hi hj e => ?_, fun i hi => ?_⟩
  · obtain ⟨a, b, -⟩ := h1 i (by omega)
    show (o (4 * k + i)).toInt.toNat < q
    omega
  · have e : (o (4 * k + i)).toInt.toNat = (o (4 * k + j)).toInt.toNat := e
    obtain ⟨a, b, -⟩ := h1 i (by omega)
    obtain ⟨c, d, -⟩ := h1 j (by omega)
    exact h2 i j (by omega) (by omega) ((fz_eq _ _).mpr (by omega))
  · exact (h1 i (by omega)).2.2.symm
def opT (a x : Int32) : Int32 := if a < x + 1 then x + 1 else a
def opM (a x : Int32) : Int32 := if x ≤ a then a else x
def opO (a x : Int32) : Int32 := a ||| x
def opA (a x : Int32) : Int32 := a + x
theorem opO_c (a b c : Int32) : opO (opO a b) c = opO (opO a c) b := by
  unfold opO
  rw [Int32.or_assoc, Int32.or_comm b c, ← Int32.or_assoc]
theorem opA_c (a b c : Int32) : opA (opA a b) c = opA (opA a c) b := by
  unfold opA
  rw [Int32.add_assoc, Int32.add_comm b c, ← Int32.add_assoc]
theorem opT_c (a b c : Int32) : opT (opT a b) c = opT (opT a c) b := by
  unfold opT
  by_cases h1 : a < b + 1
  · by_cases h2 : a < c + 1
    · rw [if_pos h1, if_pos h2]
      by_cases h3 : b + 1 < c + 1
      · rw [if_pos h3, if_neg (fun q => by rw [fz_lt] at h3 q; omega)]
      · rw [if_neg h3]
        by_cases h4 : c + 1 < b + 1
        · rw [if_pos h4]
        · rw [if_neg h4, fz_eq]
          rw [fz_lt] at h3 h4
          omega
    · rw [if_pos h1, if_neg h2, if_pos h1, if_neg (fun q => h2 (by rw [fz_lt] at h1 h2 q ⊢; omega))]
  · by_cases h2 : a < c + 1
    · rw [if_neg h1, if_pos h2, if_neg (fun q => h1 (by rw [fz_lt] at h1 h2 q ⊢; omega))]
    · rw [if_neg h1, if_neg h2, if_neg h1]
theorem sT_pf {steps pn : Nat → Int32} {b : Nat} : ∀ m : Nat, sT steps pn b m = pf opT 0 (fun i => steps (pn (b + i)).toNatClampNeg) m
  | 0 => rfl
  | m + 1 => by rw [sT, pf, sT_pf m]; rfl
theorem sB_pf {below pn : Nat → Int32} {b : Nat} {z : Int32} : ∀ m : Nat, sB below pn b z m = pf opO z (fun i => below (pn (b + i)).toNatClampNeg) m
  | 0 => rfl
  | m + 1 => by rw [sB, pf, sB_pf m]; rfl
end E3
end
section
/-! a node's steps, words below, wholes above: on both sides -/
section E4
theorem mx_eq {v : Nat → Int32} : ∀ m : Nat, (∀ i : Nat, i < m → 0 ≤ (v i).toInt ∧ (v i).toInt ≤ 17) → -1 ≤ (pf opM (-1) v m).toInt ∧ (pf opM (-1) v m).toInt ≤ 17 ∧ 1 + pf opM (-1) v m = pf opT 0 v m
  | 0, _ => ⟨by show -1 ≤ (-1 : Int32).toInt; decide, by show (-1 : Int32).toInt ≤ 17; decide, by show (1 : Int32) + (-1) = 0; decide⟩
  | m + 1, h => by
    obtain ⟨a, b, c⟩ := mx_eq m (fun i hi => h i (by omega))
    obtain ⟨d, e⟩ := h m (by omega)
    have c2 : pf opT 0 v (m + 1) = opT (1 + pf opM (-1) v m) (v m) := by rw [c]; rfl
    have c3 : pf opM (-1) v (m + 1) = opM (pf opM (-1) v m) (v m) := rfl
    rw [c2, c3]
    generalize pf opM (-1) v m = A at a b
    generalize v m = x at d e
    have e1 : ((1 : Int32) + A).toInt = 1 + A.toInt := by rw [fb_addI (by rw [kc_1]; omega) (by rw [kc_1]; omega), kc_1]
    have e2 : (x + (1 : Int32)).toInt = x.toInt + 1 := by rw [fb_addI (by rw [kc_1]; omega) (by rw [kc_1]; omega), kc_1]
    unfold opM opT
    by_cases g : x ≤ A
    · have g' := (fz_le _ _).mp g
      rw [if_pos g, if_neg (fun q => by rw [fz_lt, e1, e2] at q; omega)]
      exact ⟨a, b, rfl⟩
    · have g' : ¬ x.toInt ≤ A.toInt := fun q => g ((fz_le _ _).mpr q)
      rw [if_neg g, if_pos (by rw [fz_lt, e1, e2]; omega)]
      exact ⟨by omega, e, Int32.add_comm _ _⟩
theorem pfT_b {v : Nat → Int32} {K : Nat} (hK : K ≤ 1000) : ∀ m : Nat, (∀ i : Nat, i < m → 0 ≤ (v i).toInt ∧ (v i).toInt < (K : Int)) → 0 ≤ (pf opT 0 v m).toInt ∧ (pf opT 0 v m).toInt ≤ (K : Int)
  | 0, _ => ⟨by show 0 ≤ (0 : Int32).toInt; rw [kc_0]; exact Int.le_refl _, by show (0 : Int32).toInt ≤ _; rw [kc_0]; omega⟩
  | m + 1, h => by
    obtain ⟨a, b⟩ := pfT_b hK m (fun i hi => h i (by omega))
    obtain ⟨d, e⟩ := h m (by omega)
    have c3 : pf opT 0 v (m + 1) = opT (pf opT 0 v m) (v m) := rfl
    rw [c3]
    generalize pf opT 0 v m = A at a b
    generalize v m = x at d e
    have e2 : (x + (1 : Int32)).toInt = x.toInt + 1 := by rw [fb_addI (by rw [kc_1]; omega) (by rw [kc_1]; omega), kc_1]
    unfold opT
    by_cases g : A < x + 1
    · rw [if_pos g, e2]; omega
    · rw [if_neg g]; exact ⟨a, b⟩
section LP
variable {F9 : (Nat → Int32) → (Nat → Int32) → Int32 → Int32} {r st : Nat → Int32} {k q : Nat} {v : Nat → Int32}
theorem down_loop (hk : k < 18) (hq : q ≤ 4) (hm : r (27 + k) = nI q) (hv : ∀ i : Nat, i < q → F9 r st (st (4 * k + i)) = v i) : ∀ (m i f : Nat), q - i = m → i ≤ q → m < f → HX7_downOf_0 F9 r st (nI k) f (nI i) (pf opM (-1) v i) = 1 + pf opM (-1) v q := by
  intro m
  induction m with
  | zero =>
    intro i f hr hi hf
    obtain ⟨f, rfl⟩ : ∃ g, f = g + 1 := ⟨f - 1, by omega⟩
    obtain rfl : i = q := by omega
    rw [HX7_downOf_0_eq]
    dsimp only [lt_]
    rw [show (27 : Int32) + nI k = nI (27 + k) from nI_add 27 k, nI_clamp (by omega), hm, if_pos (nI_le (by omega) (by omega))]
  | succ m ih =>
    intro i f hr hi hf
    obtain ⟨f, rfl⟩ : ∃ g, f = g + 1 := ⟨f - 1, by omega⟩
    rw [HX7_downOf_0_eq]
    dsimp only [lt_]
    rw [show (27 : Int32) + nI k = nI (27 + k) from nI_add 27 k, nI_clamp (by omega), hm, if_neg (by rw [nI_leI (by omega) (by omega)]; omega), nI_m4' (by omega), nI_add, nI_clamp (by omega), hv i (by omega), nI_o1]
    have e : pf opM (-1) v (i + 1) = if v i ≤ pf opM (-1) v i then pf opM (-1) v i else v i := rfl
    by_cases c : v i ≤ pf opM (-1) v i
    · rw [if_pos c] at e
      rw [if_pos c, ← ih (i + 1) f (by omega) (by omega) (by omega), e]
    · rw [if_neg c] at e
      rw [if_neg c, ← ih (i + 1) f (by omega) (by omega) (by omega), e]
theorem below_loop {z : Int32} (hk : k < 18) (hq : q ≤ 4) (hm : r (27 + k) = nI q) (hv : ∀ i : Nat, i < q → F9 r st (st (4 * k + i)) = v i) : ∀ (m i f : Nat), q - i = m → i ≤ q → m < f → HX7_wordsBelow_0 F9 r st (nI k) f (nI i) (pf opO z v i) = pf opO z v q := by
  intro m
  induction m with
  | zero =>
    intro i f hr hi hf
    obtain ⟨f, rfl⟩ : ∃ g, f = g + 1 := ⟨f - 1, by omega⟩
    obtain rfl : i = q := by omega
    rw [HX7_wordsBelow_0_eq]
    dsimp only [lt_]
    rw [show (27 : Int32) + nI k = nI (27 + k) from nI_add 27 k, nI_clamp (by omega), hm, if_pos (nI_le (by omega) (by omega))]
  | succ m ih =>
    intro i f hr hi hf
    obtain ⟨f, rfl⟩ : ∃ g, f = g + 1 := ⟨f - 1, by omega⟩
    rw [HX7_wordsBelow_0_eq]
    dsimp only [lt_]
    rw [show (27 : Int32) + nI k = nI (27 + k) from nI_add 27 k, nI_clamp (by omega), hm, if_neg (by rw [nI_leI (by omega) (by omega)]; omega), nI_m4' (by omega), nI_add, nI_clamp (by omega), hv i (by omega), nI_o1]
    exact ih (i + 1) f (by omega) (by omega) (by omega)
theorem ways_loop {z : Int32} (hk : k < 18) (hq : q ≤ 4) (hm : r (27 + k) = nI q) (hv : ∀ i : Nat, i < q → F9 r st (st (4 * k + i)) = v i) : ∀ (m i f : Nat), q - i = m → i ≤ q → m < f → HX7_wholeOf_0 F9 r st (nI k) f (nI i) (pf opA z v i) = pf opA z v q := by
  intro m
  induction m with
  | zero =>
    intro i f hr hi hf
    obtain ⟨f, rfl⟩ : ∃ g, f = g + 1 := ⟨f - 1, by omega⟩
    obtain rfl : i = q := by omega
    rw [HX7_wholeOf_0_eq]
    dsimp only [lt_]
    rw [show (27 : Int32) + nI k = nI (27 + k) from nI_add 27 k, nI_clamp (by omega), hm, if_pos (nI_le (by omega) (by omega))]
  | succ m ih =>
    intro i f hr hi hf
    obtain ⟨f, rfl⟩ : ∃ g, f = g + 1 := ⟨f - 1, by omega⟩
    rw [HX7_wholeOf_0_eq]
    dsimp only [lt_]
    rw [show (27 : Int32) + nI k = nI (27 + k) from nI_add 27 k, nI_clamp (by omega), hm, if_neg (by rw [nI_leI (by omega) (by omega)]; omega), nI_m4' (by omega), nI_add, nI_clamp (by omega), hv i (by omega), nI_o1]
    exact ih (i + 1) f (by omega) (by omega) (by omega)
end LP
def opW (k n : Nat) (a x : Int32) : Int32 := if x = nI k then a ||| ((1 : Int32) <<< (nI n &&& 31)) else a ||| 0
theorem opW_c (k n : Nat) (a b c : Int32) : opW k n (opW k n a b) c = opW k n (opW k n a c) b := by
  unfold opW
  by_cases h1 : b = nI k
  · by_cases h2 : c = nI k
    · rw [if_pos h1, if_pos h2, if_pos h2, if_pos h1]
    · rw [if_pos h1, if_neg h2, if_neg h2, if_pos h1, Int32.or_zero, Int32.or_zero]
  · by_cases h2 : c = nI k
    · rw [if_neg h1, if_pos h2, if_pos h2, if_neg h1, Int32.or_zero, Int32.or_zero]
    · rw [if_neg h1, if_neg h2, if_neg h2, if_neg h1]
theorem sA1_pf {pn : Nat → Int32} {k n : Nat} {v : Int32} : ∀ m : Nat, sA1 pn k n v m = pf (opW k n) v (fun i => pn (4 * n + i)) m
  | 0 => rfl
  | m + 1 => by
    rw [sA1, sA1_pf m]
    show _ = opW k n (pf (opW k n) v (fun i => pn (4 * n + i)) m) (pn (4 * n + m))
    unfold opW
    by_cases h : pn (4 * n + m) = nI k
    · rw [if_pos h, if_pos h]
    · rw [if_neg h, if_neg h, Int32.or_zero]
theorem wh_in {r st : Nat → Int32} {k n q : Nat} {z : Int32} {K : Int32 → Int32 → Int32} (hn : n < 18) (hq : q ≤ 4) (hm : r (27 + n) = nI q) : ∀ (m i f : Nat), q - i = m → i ≤ q → m < f → HX7_wholesOf_1 r st (nI k) (nI n) K f (nI i) (pf (opW k n) z (fun j => st (4 * n + j)) i) = K (nI (n + 1)) (pf (opW k n) z (fun j => st (4 * n + j)) q) := by
  intro m
  induction m with
  | zero =>
    intro i f hr hi hf
    obtain ⟨f, rfl⟩ : ∃ g, f = g + 1 := ⟨f - 1, by omega⟩
    obtain rfl : i = q := by omega
    rw [HX7_wholesOf_1_eq]
    dsimp only [lt_]
    rw [show (27 : Int32) + nI n = nI (27 + n) from nI_add 27 n, nI_clamp (by omega), hm, if_pos (nI_le (by omega) (by omega)), nI_o1]
  | succ m ih =>
    intro i f hr hi hf
    obtain ⟨f, rfl⟩ : ∃ g, f = g + 1 := ⟨f - 1, by omega⟩
    rw [HX7_wholesOf_1_eq]
    dsimp only [lt_]
    rw [show (27 : Int32) + nI n = nI (27 + n) from nI_add 27 n, nI_clamp (show 27 + n < 2 ^ 31 by omega), hm, if_neg (by rw [nI_leI (by omega) (by omega)]; omega), nI_m4' (by omega), nI_add, nI_clamp (show 4 * n + i < 2 ^ 31 by omega), nI_o1]
    have e : pf (opW k n) z (fun j => st (4 * n + j)) (i + 1) = if st (4 * n + i) = nI k then pf (opW k n) z (fun j => st (4 * n + j)) i ||| ((1 : Int32) <<< (nI n &&& 31)) else pf (opW k n) z (fun j => st (4 * n + j)) i ||| 0 := rfl
    by_cases c : st (4 * n + i) = nI k
    · rw [if_pos c] at e
      rw [if_pos c, ← e]
      exact ih (i + 1) f (by omega) (by omega) (by omega)
    · rw [if_neg c] at e
      rw [if_neg c, ← e]
      exact ih (i + 1) f (by omega) (by omega) (by omega)
section NQ
variable {N : Nat} {words unsures slips throne said unit : Int32} {kind parts pn wt tw uw uo r told w o st ws steps below above : Nat → Int32}
theorem many_q (hC : CR N words unsures slips throne said kind parts pn wt tw uw uo r told) {k q : Nat} (hk : k < N) (hp : parts k = nI q) : r (27 + k) = nI q := (hC.k hk).2.1.symm.trans hp
theorem steps_b (hI : CI N unit kind parts pn wt ws steps below above) : ∀ (n k : Nat), k < n → k < N → 0 ≤ (steps k).toInt ∧ (steps k).toInt ≤ (k : Int)
  | 0, k, h, _ => absurd h (by omega)
  | n + 1, k, h, hk => by
    have hN := hI.1
    obtain ⟨q, hp, hD⟩ := hI.2.1 k hk
    rw [hD.2.2.1, sT_pf]
    refine pfT_b (K := k) (by omega) q (fun i hi => ?_)
    obtain ⟨j, j1, j2⟩ := hD.2.2.2.2.1 i hi
    show 0 ≤ (steps (pn (4 * k + i)).toNatClampNeg).toInt ∧ _
    rw [j2, nI_clamp (by omega)]
    obtain ⟨a, b⟩ := steps_b hI n j (by omega) (by omega)
    exact ⟨a, by omega⟩
theorem down_eq (hC : CR N words unsures slips throne said kind parts pn wt tw uw uo r told) (hS : StR N parts pn w o st) (hI : CI N unit kind parts pn wt ws steps below above) : ∀ (n k : Nat), k < n → k < N → PX7_downOf n r st (nI k) = steps k
  | 0, k, h, _ => absurd h (by omega)
  | n + 1, k, h, hk => by
    have hN := hI.1
    obtain ⟨q, hp, hD⟩ := hI.2.1 k hk
    obtain ⟨s, s1, s2, s3⟩ := st_perm hS hk hp hD.1
    have hv : ∀ i : Nat, i < q → PX7_downOf n r st (st (4 * k + i)) = (fun i => steps (pn (4 * k + s i)).toNatClampNeg) i := fun i hi => by
      obtain ⟨j, j1, j2⟩ := hD.2.2.2.2.1 (s i) (s1 i hi)
      show _ = steps (pn (4 * k + s i)).toNatClampNeg
      rw [s3 i hi, j2, nI_clamp (by omega)]
      exact down_eq hC hS hI n j (by omega) (by omega)
    have e := down_loop (F9 := PX7_downOf n) (by omega) hD.1 (many_q hC hk hp) hv q 0 (((4 - (0 : Int32).toInt).toNat) + 1) rfl (by omega) (by rw [kc_0]; have := hD.1; omega)
    rw [nI_0] at e
    rw [PX7_downOf_eq]
    refine Eq.trans e ?_
    rw [hD.2.2.1, sT_pf, ← pf_perm opT_c (g := fun i => steps (pn (4 * k + i)).toNatClampNeg) q s s1 s2]
    refine (mx_eq q (fun i hi => ?_)).2.2
    obtain ⟨j, j1, j2⟩ := hD.2.2.2.2.1 (s i) (s1 i hi)
    show 0 ≤ (steps (pn (4 * k + s i)).toNatClampNeg).toInt ∧ _
    rw [j2, nI_clamp (by omega)]
    obtain ⟨a, b⟩ := steps_b hI 18 j (by omega) (by omega)
    exact ⟨a, by omega⟩
set_option maxRecDepth 100000 in
theorem below_step (hC : CR N words unsures slips throne said kind parts pn wt tw uw uo r told) (hS : StR N parts pn w o st) {n k q : Nat} (hk : k < N) (hp : parts k = nI q) (hD : ND k q kind pn wt ws steps below) : PX7_wordsBelow (n + 1) r st (nI k) = pf opO (if kind k = 0 then (1 : Int32) <<< (nI k &&& 31) else 0) (fun i => PX7_wordsBelow n r st (pn (4 * k + i))) q := by
  have hN := hC.N.2.1
  have hq := hD.1
  obtain ⟨s, s1, s2, s3⟩ := st_perm hS hk hp hD.1
  have e : ∀ z : Int32, HX7_wordsBelow_0 (PX7_wordsBelow n) r st (nI k) (((4 - (0 : Int32).toInt).toNat) + 1) (nI 0) z = pf opO z (fun i => PX7_wordsBelow n r st (pn (4 * k + s i))) q := fun z => below_loop (z := z) (F9 := PX7_wordsBelow n) (v := fun i => PX7_wordsBelow n r st (pn (4 * k + s i))) (by omega) hD.1 (many_q hC hk hp) (fun i hi => by rw [s3 i hi]) q 0 (((4 - (0 : Int32).toInt).toNat) + 1) rfl (by omega) (by rw [kc_0]; omega)
  rw [nI_0] at e
  have hc : (nI (9 + k)).toNatClampNeg = 9 + k := nI_clamp (by omega)
  rw [PX7_wordsBelow_eq]
  simp only [lt_ap]
  rw [show (9 : Int32) + nI k = nI (9 + k) from nI_add 9 k, hc, ← (hC.k hk).1, e, e]
  by_cases h0 : kind k = 0
  · rw [if_pos h0, if_pos h0]
    exact pf_perm opO_c (g := fun i => PX7_wordsBelow n r st (pn (4 * k + i))) q s s1 s2
  · rw [if_neg h0, if_neg h0]
    exact pf_perm opO_c (g := fun i => PX7_wordsBelow n r st (pn (4 * k + i))) q s s1 s2
theorem below_eq (hC : CR N words unsures slips throne said kind parts pn wt tw uw uo r told) (hS : StR N parts pn w o st) (hI : CI N unit kind parts pn wt ws steps below above) (n : Nat) : ∀ k : Nat, k < n → k < N → PX7_wordsBelow n r st (nI k) = below k := by
  have hN := hI.1
  induction n with
  | zero => intro k h; exact absurd h (by omega)
  | succ n ih =>
    intro k h hk
    obtain ⟨q, hp, hD⟩ := hI.2.1 k hk
    rw [below_step hC hS hk hp hD, hD.2.2.2.1, sB_pf]
    refine pf_congr q (fun i hi => ?_)
    obtain ⟨j, j1, j2⟩ := hD.2.2.2.2.1 i hi
    show PX7_wordsBelow n r st (pn (4 * k + i)) = below (pn (4 * k + i)).toNatClampNeg
    rw [j2, nI_clamp (show j < 2 ^ 31 by omega)]
    exact ih j (by omega) (by omega)
theorem wholes_loop (hC : CR N words unsures slips throne said kind parts pn wt tw uw uo r told) (hS : StR N parts pn w o st) (hI : CI N unit kind parts pn wt ws steps below above) {k : Nat} : ∀ (m n f : Nat), N - n = m → n ≤ N → m < f → HX7_wholesOf_0 r st (nI k) f (nI n) (sA parts pn k n) = sA parts pn k N := by
  have hN := hI.1
  have hr := hC.N.2.2
  intro m
  induction m with
  | zero =>
    intro n f hm hn hf
    obtain ⟨f, rfl⟩ : ∃ g, f = g + 1 := ⟨f - 1, by omega⟩
    obtain rfl : n = N := by omega
    rw [HX7_wholesOf_0_eq]
    dsimp only [lt_]
    rw [one_cl, hr, if_pos (nI_le (by omega) (by omega))]
  | succ m ih =>
    intro n f hm hn hf
    obtain ⟨f, rfl⟩ : ∃ g, f = g + 1 := ⟨f - 1, by omega⟩
    obtain ⟨q, hp, hD⟩ := hI.2.1 n (by omega)
    obtain ⟨s, s1, s2, s3⟩ := st_perm hS (show n < N by omega) hp hD.1
    have hq := hD.1
    rw [HX7_wholesOf_0_eq]
    dsimp only [lt_]
    rw [one_cl, hr, if_neg (by rw [nI_leI (by omega) (by omega)]; omega)]
    have e := wh_in (st := st) (k := k) (z := sA parts pn k n) (K := fun a b => HX7_wholesOf_0 r st (nI k) f a b) (show n < 18 by omega) hq (many_q hC (show n < N by omega) hp) q 0 (((2147483647 - (0 : Int32).toInt).toNat) + 1) rfl (by omega) (by rw [kc_0]; omega)
    rw [nI_0] at e
    refine Eq.trans e ?_
    have e2 : pf (opW k n) (sA parts pn k n) (fun j => st (4 * n + j)) q = sA parts pn k (n + 1) := by
      rw [sA, hp, nI_clamp (by omega), sA1_pf, ← pf_perm (opW_c k n) (g := fun i => pn (4 * n + i)) q s s1 s2]
      exact pf_congr q (fun i hi => s3 i hi)
    rw [e2]
    exact ih (n + 1) f (by omega) (by omega) (by omega)
theorem wholes_eq (hC : CR N words unsures slips throne said kind parts pn wt tw uw uo r told) (hS : StR N parts pn w o st) (hI : CI N unit kind parts pn wt ws steps below above) {k : Nat} (hk : k < N) : PX7_wholesOf r st (nI k) = above k := by
  have hN := hI.1
  have e := wholes_loop hC hS hI (k := k) N 0 (((2147483647 - (0 : Int32).toInt).toNat) + 1) rfl (by omega) (by rw [kc_0]; omega)
  rw [nI_0] at e
  rw [PX7_wholesOf_eq, hI.2.2.2 k hk]
  exact e
end NQ
section NJ
variable {nodes words unsures slips throne said : Int32} {kind parts pn wt tw uw uo w o : Nat → Int32} {ic : Int32} {iw0 io0 iw1 io1 iw2 io2 : Nat → Int32} {ac : Int32} {an ao as : Nat → Int32} {hc : Int32} {r told st und kept : Nat → Int32} {undos images : Int32} {unit : Int32} {ws steps below above : Nat → Int32}
theorem node_join (h : Rel nodes words unsures slips throne said kind parts pn wt tw uw uo w o ic iw0 io0 iw1 io1 iw2 io2 ac an ao as hc r told st und kept undos images) (hx : CIS nodes unit kind parts pn wt ws steps below above) {p0 p1 q6 rf q7 t1 t2 : Int32} (e6 : PX6_node nodes kind parts steps below above p0 p1 = (q6, rf)) (e7 : PX7_node hc r st p0 p1 = (q7, t1, t2)) : q6 = q7 ∧ rf = t2 := by
  have key : ∃ q f t : Int32, PX6_node nodes kind parts steps below above p0 p1 = (q, f) ∧ PX7_node hc r st p0 p1 = (q, t, f) := by
    rcases h with ⟨rfl, h0⟩ | ⟨N, c, d, rfl, rfl, rfl, rfl, hc, rfl, rfl, hd, hC, hS, hU, hI⟩
    · obtain ⟨h2, h3, h4, h5, h6, h7, rfl, h8, h9⟩ := h0
      refine ⟨-1, 1, 0, ?_, ?_⟩
      · rw [PX6_node_eq, PX6_lacksNode_eq]
        dsimp only [lt_]
        rw [hn_0, if_neg (show ¬ (0 : Int32) = 1 by decide), un2_eq rfl, if_neg (show ¬ (1 : Int32) = 0 by decide)]
      · rw [PX7_node_eq, PX7_good_eq, un2_eq rfl]
        dsimp only [lt_]
        rw [rn_0, if_neg (show ¬ (0 : Int32) = 1 by decide), no_eq, un2_eq rfl]
    · obtain ⟨hN0, hN, hr⟩ := hC.N
      obtain ⟨M, hM, hX⟩ := hx
      obtain rfl : N = M := (nI_eq (by omega) (by have := hX.1; omega)).mp hM
      by_cases hn : 0 ≤ p0.toInt ∧ p0.toInt < (N : Int)
      · obtain ⟨k, hk, rfl⟩ := nd_of hN hn
        have k9 : (9 : Int32) + nI k = nI (9 + k) := nI_add 9 k
        have k27 : (27 : Int32) + nI k = nI (27 + k) := nI_add 27 k
        have c0 : (nI k).toNatClampNeg = k := nI_clamp (by omega)
        have e6 : PX6_node (nI N) kind parts steps below above (nI k) p1 = sw_ p1 0 [(kind k, 0), (parts k, 0), (steps k, 0), (below k, 0), (above k, 0)] (-1, 1) := by
          rw [PX6_node_eq, PX6_lacksNode_eq]
          dsimp only [lt_]
          rw [hn_eq hN, if_pos hn, if_pos rfl, un2_eq rfl, if_pos rfl, c0, PX6_refuse_eq, un2_eq rfl]
        have e7 : PX7_node 1 r st (nI k) p1 = if 0 ≤ p1.toInt ∧ p1.toInt ≤ 4 then sw_ p1 0 [(kind k, 0, 0), (parts k, 0, 0), (steps k, 0, 0), (below k, 0, 0)] (above k, 0, 0) else (-1, 0, 1) := by
          rw [PX7_node_eq, PX7_good_eq, un2_eq rfl]
          dsimp only [lt_]
          rw [rn_eq hN0 hN hr, if_pos hn, if_pos rfl, in_eq, kc_0, kc_4, k9, k27, nI_clamp (show 9 + k < 2 ^ 31 by omega), nI_clamp (show 27 + k < 2 ^ 31 by omega), ← (hC.k hk).1, ← (hC.k hk).2.1, down_eq hC hS hX 18 k (by omega) hk, below_eq hC hS hX 18 k (by omega) hk, wholes_eq hC hS hX hk, no_eq, un2_eq rfl]
          by_cases hv : 0 ≤ p1.toInt ∧ p1.toInt ≤ 4
          · rw [if_pos hv, if_pos hv, if_neg (show ¬ (1 : Int32) = 0 by decide)]
          · rw [if_neg hv, if_neg hv, if_pos rfl]
        rw [e6, e7]
        by_cases hv : 0 ≤ p1.toInt ∧ p1.toInt ≤ 4
        · rw [if_pos hv]
          rcases (show p1.toInt = 0 ∨ p1.toInt = 1 ∨ p1.toInt = 2 ∨ p1.toInt = 3 ∨ p1.toInt = 4 by omega) with q | q | q | q | q
          · exact ⟨kind k, 0, 0, sw_in (j := 0) (by omega) rfl, sw_in (j := 0) (by omega) rfl⟩
          · exact ⟨parts k, 0, 0, sw_in (j := 1) (by omega) rfl, sw_in (j := 1) (by omega) rfl⟩
          · exact ⟨steps k, 0, 0, sw_in (j := 2) (by omega) rfl, sw_in (j := 2) (by omega) rfl⟩
          · exact ⟨below k, 0, 0, sw_in (j := 3) (by omega) rfl, sw_in (j := 3) (by omega) rfl⟩
          · exact ⟨above k, 0, 0, sw_in (j := 4) (by omega) rfl, sw_out (by exact Or.inr (by show ((0 : Int) + (4 : Nat) ≤ _); omega))⟩
        · rw [if_neg hv]
          refine ⟨-1, 1, 0, ?_, rfl⟩
          by_cases q : p1.toInt < 0
          · exact sw_out (Or.inl q)
          · exact sw_out (Or.inr (by show ((0 : Int) + (5 : Nat) ≤ _); omega))
      · refine ⟨-1, 1, 0, ?_, ?_⟩
        · rw [PX6_node_eq, PX6_lacksNode_eq]
          dsimp only [lt_]
          rw [hn_eq hN, if_neg hn, if_neg (show ¬ (0 : Int32) = 1 by decide), un2_eq rfl, if_neg (show ¬ (1 : Int32) = 0 by decide)]
        · rw [PX7_node_eq, PX7_good_eq, un2_eq rfl]
          dsimp only [lt_]
          rw [rn_eq hN0 hN hr, if_neg hn, if_neg (show ¬ (0 : Int32) = 1 by decide), no_eq, un2_eq rfl]
  obtain ⟨q, f, t, g6, g7⟩ := key
  have x := g6.symm.trans e6
  have y := g7.symm.trans e7
  simp only [Prod.mk.injEq] at x y
  obtain ⟨rfl, rfl⟩ := x
  obtain ⟨rfl, -, rfl⟩ := y
  exact ⟨rfl, rfl⟩
end NJ
end E4
end
section
/-! the court that stands keeps what a court that was read keeps -/
section E5
def QC (C : Int32 × Int32 × Int32 × Int32 × Int32 × (Nat → Int32) × (Nat → Int32) × Int32 × Int32 × Int32 × Int32 × Int32 × Int32 × Int32 × Int32 × Int64 × Int32 × Int32 × Int32 × (Nat → Int64) × Int32 × Int32 × Int32 × Int32 × Int32 × Int32 × Int32 × Int32 × (Nat → Int32) × (Nat → Int32) × (Nat → Int32) × (Nat → Int32) × (Nat → Int32) × (Nat → Int32) × (Nat → Int32) × (Nat → Int32) × (Nat → Int32) × (Nat → Int32) × (Nat → Int32)) : Prop := ¬ C.1 = -1 → CIS C.2.2.2.2.2.2.2.2.2.2.2.2.2.2.2.2.2.2.2.2.1 C.2.2.2.2.2.2.2.2.2.2.2.2.2.2.2.2.2.2.2.2.2.2.2.2.2.2.2.1 C.2.2.2.2.2.2.2.2.2.2.2.2.2.2.2.2.2.2.2.2.2.2.2.2.2.2.2.2.1 C.2.2.2.2.2.2.2.2.2.2.2.2.2.2.2.2.2.2.2.2.2.2.2.2.2.2.2.2.2.1 C.2.2.2.2.2.2.2.2.2.2.2.2.2.2.2.2.2.2.2.2.2.2.2.2.2.2.2.2.2.2.1 C.2.2.2.2.2.2.2.2.2.2.2.2.2.2.2.2.2.2.2.2.2.2.2.2.2.2.2.2.2.2.2.1 C.2.2.2.2.2.2.2.2.2.2.2.2.2.2.2.2.2.2.2.2.2.2.2.2.2.2.2.2.2.2.2.2.1 C.2.2.2.2.2.2.2.2.2.2.2.2.2.2.2.2.2.2.2.2.2.2.2.2.2.2.2.2.2.2.2.2.2.2.1 C.2.2.2.2.2.2.2.2.2.2.2.2.2.2.2.2.2.2.2.2.2.2.2.2.2.2.2.2.2.2.2.2.2.2.2.1 C.2.2.2.2.2.2.2.2.2.2.2.2.2.2.2.2.2.2.2.2.2.2.2.2.2.2.2.2.2.2.2.2.2.2.2.2.1
theorem court_Q (iK_imageCount : Int32) (iK_latestFault : Int32) (iK_latestPlace : Int32) (fS_worths : Nat → Int32) (fS_order : Nat → Int32) (iA_count : Int32) (iR_faultNumber : Int32) (iR_faultPlace : Int32) (iR_tapeSize : Int32) (fR_tape : Nat → Int32) (iR_end : Int32) (iR_tokenKind : Int32) (iR_tokenFrom : Int32) (iR_tokenTo : Int32) (iR_tokenName : Int64) (iR_tokenKey : Int32) (iR_tokenWhole : Int32) (iR_courtTold : Int32) (fR_names : Nat → Int64) (fR_keys : Nat → Int64) (iD_nodes : Int32) (iD_words : Int32) (iD_chances : Int32) (iD_unsures : Int32) (iD_slips : Int32) (iD_throneNode : Int32) (iD_saidWorth : Int32) (iD_unit : Int32) (fD_kind : Nat → Int32) (fD_parts : Nat → Int32) (fD_partNodes : Nat → Int32) (fD_weights : Nat → Int32) (fD_weightSums : Nat → Int32) (fD_toldWorths : Nat → Int32) (fD_steps : Nat → Int32) (fD_below : Nat → Int32) (fD_above : Nat → Int32) (fD_unsureWords : Nat → Int32) (fD_unsureWorths : Nat → Int32) (p0 : Int32) : QC (PX6_court iK_imageCount iK_latestFault iK_latestPlace fS_worths fS_order iA_count iR_faultNumber iR_faultPlace iR_tapeSize fR_tape iR_end iR_tokenKind iR_tokenFrom iR_tokenTo iR_tokenName iR_tokenKey iR_tokenWhole iR_courtTold fR_names fR_keys iD_nodes iD_words iD_chances iD_unsures iD_slips iD_throneNode iD_saidWorth iD_unit fD_kind fD_parts fD_partNodes fD_weights fD_weightSums fD_toldWorths fD_steps fD_below fD_above fD_unsureWords fD_unsureWorths p0) := by
  rw [PX6_court_eq]
  have hrf : ∀ q : Int32, PX6_refuse q = (-1, q) := fun q => PX6_refuse_eq q
  refine ite_Q (fun _ => ?_) (fun _ => ite_Q (fun _ => ?_) (fun _ => ?_))
  · rw [un2_eq (hrf 2)]; exact fun q => absurd rfl q
  · refine un32_Q (fun a0 a1 a2 a3 a4 a5 a6 a7 a8 a9 a10 a11 a12 a13 a14 a15 a16 a17 a18 a19 a20 a21 a22 a23 a24 a25 a26 a27 a28 a29 a30 a31 e => ite_Q (fun _ => ?_) (fun h0 => ?_))
    · rw [un2_eq (hrf 4)]; exact fun q => absurd rfl q
    · refine un2_Q (fun _ _ _ => lt_Q (fun _ _ => ?_))
      have g := reads_Q' e h0
      exact fun _ => g
  · rw [un2_eq (hrf 2)]; exact fun q => absurd rfl q
theorem ct_joinC {T : Nat → Int32} {keys : Nat → Int64} {ts lf ic ac p : Int32} {w o : Nat → Int32} {nodes : Int32} {words : Int32} {unsures : Int32} {slips : Int32} {throne : Int32} {said : Int32} {kind : Nat → Int32} {parts : Nat → Int32} {pn : Nat → Int32} {wt : Nat → Int32} {tw : Nat → Int32} {uw : Nat → Int32} {uo : Nat → Int32} {unit : Int32} {ws : Nat → Int32} {steps : Nat → Int32} {below : Nat → Int32} {above : Nat → Int32} {r6 : Int32} {a6 : Int32} {l6 : Int32} {ic6 : Int32} {w6 : Nat → Int32} {o6 : Nat → Int32} {ac6 : Int32} {f6 : Int32} {nodesD : Int32} {wordsD : Int32} {unsuresD : Int32} {slipsD : Int32} {throneD : Int32} {saidD : Int32} {kindD : Nat → Int32} {partsD : Nat → Int32} {pnD : Nat → Int32} {wtD : Nat → Int32} {twD : Nat → Int32} {uwD : Nat → Int32} {uoD : Nat → Int32} {unitD : Int32} {wsD : Nat → Int32} {stepsD : Nat → Int32} {belowD : Nat → Int32} {aboveD : Nat → Int32} {nodesN : Int32} {wordsN : Int32} {unsuresN : Int32} {slipsN : Int32} {throneN : Int32} {saidN : Int32} {kindN : Nat → Int32} {partsN : Nat → Int32} {pnN : Nat → Int32} {wtN : Nat → Int32} {twN : Nat → Int32} {uwN : Nat → Int32} {uoN : Nat → Int32} {unitN : Int32} {wsN : Nat → Int32} {stepsN : Nat → Int32} {belowN : Nat → Int32} {aboveN : Nat → Int32} (hx : CIS nodes unit kind parts pn wt ws steps below above) (h6 : CtCX T keys ts lf ic w o ac p r6 a6 l6 ic6 w6 o6 ac6 f6 nodesD wordsD unsuresD slipsD throneD saidD kindD partsD pnD wtD twD uwD uoD unitD wsD stepsD belowD aboveD) (hg : CtG r6 nodes words unsures slips throne said kind parts pn wt tw uw uo unit ws steps below above nodesD wordsD unsuresD slipsD throneD saidD kindD partsD pnD wtD twD uwD uoD unitD wsD stepsD belowD aboveD nodesN wordsN unsuresN slipsN throneN saidN kindN partsN pnN wtN twN uwN uoN unitN wsN stepsN belowN aboveN) : CIS nodesN unitN kindN partsN pnN wtN wsN stepsN belowN aboveN := by
  obtain ⟨x_iK_latestPlace, x_iR_faultNumber, x_iR_faultPlace, x_iR_end, x_iR_tokenKind, x_iR_tokenFrom, x_iR_tokenTo, x_iR_tokenName, x_iR_tokenKey, x_iR_tokenWhole, x_iR_courtTold, x_fR_names, x_iD_nodes, x_iD_words, x_iD_chances, x_iD_unsures, x_iD_slips, x_iD_throneNode, x_iD_saidWorth, x_iD_unit, x_fD_kind, x_fD_parts, x_fD_partNodes, x_fD_weights, x_fD_weightSums, x_fD_toldWorths, x_fD_steps, x_fD_below, x_fD_above, x_fD_unsureWords, x_fD_unsureWorths, x⟩ := h6
  have hq := court_Q ic lf x_iK_latestPlace w o ac x_iR_faultNumber x_iR_faultPlace ts T x_iR_end x_iR_tokenKind x_iR_tokenFrom x_iR_tokenTo x_iR_tokenName x_iR_tokenKey x_iR_tokenWhole x_iR_courtTold x_fR_names keys x_iD_nodes x_iD_words x_iD_chances x_iD_unsures x_iD_slips x_iD_throneNode x_iD_saidWorth x_iD_unit x_fD_kind x_fD_parts x_fD_partNodes x_fD_weights x_fD_weightSums x_fD_toldWorths x_fD_steps x_fD_below x_fD_above x_fD_unsureWords x_fD_unsureWorths p
  generalize PX6_court ic lf x_iK_latestPlace w o ac x_iR_faultNumber x_iR_faultPlace ts T x_iR_end x_iR_tokenKind x_iR_tokenFrom x_iR_tokenTo x_iR_tokenName x_iR_tokenKey x_iR_tokenWhole x_iR_courtTold x_fR_names keys x_iD_nodes x_iD_words x_iD_chances x_iD_unsures x_iD_slips x_iD_throneNode x_iD_saidWorth x_iD_unit x_fD_kind x_fD_parts x_fD_partNodes x_fD_weights x_fD_weightSums x_fD_toldWorths x_fD_steps x_fD_below x_fD_above x_fD_unsureWords x_fD_unsureWorths p = C at x hq
  obtain ⟨x1, x11, x4, x2, x6, x7, x8, x3, x21, x22, x24, x25, x26, x27, x29, x30, x31, x32, x34, x38, x39, x28, x33, x35, x36, x37⟩ := x
  rcases hg with ⟨-, rfl, rfl, rfl, rfl, rfl, rfl, rfl, rfl, rfl, rfl, rfl, rfl, rfl, rfl, rfl, rfl, rfl, rfl⟩ | ⟨q, rfl, rfl, rfl, rfl, rfl, rfl, rfl, rfl, rfl, rfl, rfl, rfl, rfl, rfl, rfl, rfl, rfl, rfl⟩
  · exact hx
  · have g := hq (fun e => by rw [x1] at e; rw [e, m1_int] at q; omega)
    rw [x21, x28, x29, x30, x31, x32, x33, x35, x36, x37] at g
    exact g
end E5
end
section
/-! the weight of a part of chance, on both sides -/
section E6
theorem pw_loop {parts pn wt r told : Nat → Int32} {k q : Nat} {v : Int32} (hk : k < 18) (hq : q ≤ 4) (hp : parts k = nI q) (hm : r (27 + k) = nI q) (he : ∀ i : Nat, i < q → pn (4 * k + i) = told (4 * k + i) ∧ wt (4 * k + i) = r (45 + 4 * k + i)) : ∀ (m i f g : Nat), q - i = m → i ≤ q → m < f → m < g → (∃ j : Nat, j < q ∧ pn (4 * k + j) = v ∧ HX1_placeOfPart_0 parts pn (nI k) v f (nI i) = nI j ∧ HX7_weightOf_0 r told (nI k) v g (nI i) = wt (4 * k + j)) ∨ (HX1_placeOfPart_0 parts pn (nI k) v f (nI i) = -1 ∧ HX7_weightOf_0 r told (nI k) v g (nI i) = 0) := by
  intro m
  induction m with
  | zero =>
    intro i f g hr hi hf hg
    obtain ⟨f, rfl⟩ : ∃ g, f = g + 1 := ⟨f - 1, by omega⟩
    obtain ⟨g, rfl⟩ : ∃ f, g = f + 1 := ⟨g - 1, by omega⟩
    obtain rfl : i = q := by omega
    refine Or.inr ⟨?_, ?_⟩
    · rw [HX1_placeOfPart_0_eq]
      dsimp only [lt_]
      rw [nI_clamp (by omega), hp, if_pos (nI_le (by omega) (by omega))]
    · rw [HX7_weightOf_0_eq]
      dsimp only [lt_]
      rw [show (27 : Int32) + nI k = nI (27 + k) from nI_add 27 k, nI_clamp (by omega), hm, if_pos (nI_le (by omega) (by omega))]
  | succ m ih =>
    intro i f g hr hi hf hg
    obtain ⟨f, rfl⟩ : ∃ g, f = g + 1 := ⟨f - 1, by omega⟩
    obtain ⟨g, rfl⟩ : ∃ f, g = f + 1 := ⟨g - 1, by omega⟩
    obtain ⟨e1, e2⟩ := he i (by omega)
    have a : HX1_placeOfPart_0 parts pn (nI k) v (f + 1) (nI i) = if pn (4 * k + i) = v then nI i else HX1_placeOfPart_0 parts pn (nI k) v f (nI (i + 1)) := by
      rw [HX1_placeOfPart_0_eq]
      dsimp only [lt_]
      rw [nI_clamp (show k < 2 ^ 31 by omega), hp, if_neg (by rw [nI_leI (by omega) (by omega)]; omega), nI_m4 (by omega), nI_add, nI_clamp (show 4 * k + i < 2 ^ 31 by omega), nI_o1]
    have b : HX7_weightOf_0 r told (nI k) v (g + 1) (nI i) = if pn (4 * k + i) = v then wt (4 * k + i) else HX7_weightOf_0 r told (nI k) v g (nI (i + 1)) := by
      rw [HX7_weightOf_0_eq]
      dsimp only [lt_]
      rw [show (27 : Int32) + nI k = nI (27 + k) from nI_add 27 k, nI_clamp (show 27 + k < 2 ^ 31 by omega), hm, if_neg (by rw [nI_leI (by omega) (by omega)]; omega), nI_m4' (by omega), show (45 : Int32) + nI (4 * k) = nI (45 + 4 * k) from nI_add 45 (4 * k), nI_add, nI_add, nI_clamp (show 4 * k + i < 2 ^ 31 by omega), nI_clamp (show 45 + 4 * k + i < 2 ^ 31 by omega), nI_o1, ← e1, ← e2]
    rw [a, b]
    by_cases c : pn (4 * k + i) = v
    · rw [if_pos c, if_pos c]
      exact Or.inl ⟨i, by omega, c, rfl, rfl⟩
    · rw [if_neg c, if_neg c]
      exact ih (i + 1) f g (by omega) (by omega) (by omega) (by omega)
theorem pw_eq {parts pn wt r told : Nat → Int32} {k q : Nat} {v : Int32} (hk : k < 18) (hq : q ≤ 4) (hp : parts k = nI q) (hm : r (27 + k) = nI q) (he : ∀ i : Nat, i < q → pn (4 * k + i) = told (4 * k + i) ∧ wt (4 * k + i) = r (45 + 4 * k + i)) : (∃ j : Nat, j < q ∧ pn (4 * k + j) = v ∧ PX1_placeOfPart parts pn (nI k) v = nI j ∧ PX7_weightOf r told (nI k) v = wt (4 * k + j)) ∨ (PX1_placeOfPart parts pn (nI k) v = -1 ∧ PX7_weightOf r told (nI k) v = 0) := by
  have k18 : (18 : Int32).toInt = 18 := by decide
  rw [PX1_placeOfPart_eq, if_neg (nI_pos (by omega)), if_pos (show nI k < 18 by rw [fz_lt, k18, nI_toInt (by omega)]; omega), PX7_weightOf_eq]
  have e := pw_loop (v := v) hk hq hp hm he q 0 (((2147483647 - (0 : Int32).toInt).toNat) + 1) (((2147483647 - (0 : Int32).toInt).toNat) + 1) rfl (by omega) (by rw [kc_0]; omega) (by rw [kc_0]; omega)
  rw [nI_0] at e
  exact e
section WJ
variable {nodes words unsures slips throne said : Int32} {kind parts pn wt tw uw uo w o : Nat → Int32} {ic : Int32} {iw0 io0 iw1 io1 iw2 io2 : Nat → Int32} {ac : Int32} {an ao as : Nat → Int32} {hc : Int32} {r told st und kept : Nat → Int32} {undos images : Int32} {unit : Int32} {ws steps below above : Nat → Int32}
theorem weight_join (h : Rel nodes words unsures slips throne said kind parts pn wt tw uw uo w o ic iw0 io0 iw1 io1 iw2 io2 ac an ao as hc r told st und kept undos images) (hx : CIS nodes unit kind parts pn wt ws steps below above) (hO : ∀ k i : Nat, (k : Int) < (r 1).toInt → (r (9 + k)).toInt = 3 → (i : Int) < (r (27 + k)).toInt → 1 ≤ (r (45 + 4 * k + i)).toInt) {p0 p1 q6 rf q7 t1 t2 : Int32} (e6 : PX6_weight nodes kind parts pn wt p0 p1 = (q6, rf)) (e7 : PX7_weight hc r told p0 p1 = (q7, t1, t2)) : q6 = q7 ∧ rf = t2 := by
  have key : ∃ q f t : Int32, PX6_weight nodes kind parts pn wt p0 p1 = (q, f) ∧ PX7_weight hc r told p0 p1 = (q, t, f) := by
    rcases h with ⟨rfl, h0⟩ | ⟨N, c, d, rfl, rfl, rfl, rfl, hc, rfl, rfl, hd, hC, hS, hU, hI⟩
    · obtain ⟨h2, h3, h4, h5, h6, h7, rfl, h8, h9⟩ := h0
      refine ⟨-1, 1, 0, ?_, ?_⟩
      · rw [PX6_weight_eq, PX6_lacksNode_eq]
        dsimp only [lt_]
        rw [hn_0, if_neg (show ¬ (0 : Int32) = 1 by decide), un2_eq rfl, if_neg (show ¬ (1 : Int32) = 0 by decide)]
      · rw [PX7_weight_eq, PX7_good_eq, un2_eq rfl]
        dsimp only [lt_]
        rw [rn_0, if_neg (show ¬ (0 : Int32) = 1 by decide), no_eq, un2_eq rfl]
    · obtain ⟨hN0, hN, hr⟩ := hC.N
      obtain ⟨M, hM, hX⟩ := hx
      obtain rfl : N = M := (nI_eq (by omega) (by have := hX.1; omega)).mp hM
      by_cases hn : 0 ≤ p0.toInt ∧ p0.toInt < (N : Int)
      · obtain ⟨k, hk, rfl⟩ := nd_of hN hn
        obtain ⟨q, hp, hD⟩ := hX.2.1 k hk
        have hq := hD.1
        have hm := many_q hC hk hp
        obtain ⟨hkd, -, -, -, hkw⟩ := hC.k hk
        have c0 : (nI k).toNatClampNeg = k := nI_clamp (by omega)
        have k9 : (9 : Int32) + nI k = nI (9 + k) := nI_add 9 k
        have he : ∀ i : Nat, i < q → pn (4 * k + i) = told (4 * k + i) ∧ wt (4 * k + i) = r (45 + 4 * k + i) := fun i hi => hkw i (by rw [hp, nI_toInt (by omega)]; omega)
        have e6 : PX6_weight (nI N) kind parts pn wt (nI k) p1 = if kind k = 3 then (if (0 : Int32) ≤ PX1_placeOfPart parts pn (nI k) p1 then (wt (nI k * (4 : Int32) + PX1_placeOfPart parts pn (nI k) p1).toNatClampNeg, 0) else (-1, 1)) else (-1, 1) := by
          rw [PX6_weight_eq, PX6_lacksNode_eq]
          dsimp only [lt_]
          rw [hn_eq hN, if_pos hn, if_pos rfl, un2_eq rfl, if_pos rfl, c0, PX6_refuse_eq, un2_eq rfl]
        have e7 : PX7_weight 1 r told (nI k) p1 = if PX7_isNode 1 r p1 = 1 then (if kind k = 3 then (if PX7_weightOf r told (nI k) p1 = 0 then (-1, 0, 1) else (PX7_weightOf r told (nI k) p1, 0, 0)) else (-1, 0, 1)) else (-1, 0, 1) := by
          rw [PX7_weight_eq, PX7_good_eq, un2_eq rfl]
          dsimp only [lt_]
          rw [rn_eq hN0 hN hr (nI k), if_pos hn, if_pos rfl, k9, nI_clamp (show 9 + k < 2 ^ 31 by omega), ← hkd, no_eq, un2_eq rfl]
        rw [e6, e7]
        rcases pw_eq (v := p1) (by omega) hq hp hm he with ⟨j, j1, j2, j3, j4⟩ | ⟨j3, j4⟩
        · obtain ⟨y, y1, y2⟩ := hD.2.2.2.2.1 j j1
          have hn1 : PX7_isNode 1 r p1 = 1 := by
            rw [rn_eq hN0 hN hr, if_pos (by rw [← j2, y2, nI_toInt (by omega)]; omega)]
          rw [if_pos hn1, j3, j4]
          by_cases h3 : kind k = 3
          · have hw : ¬ wt (4 * k + j) = 0 := fun e => by
              have z := hO k j (by rw [hr, nI_toInt (by omega)]; omega) (by rw [← hkd, h3]; exact kc_3) (by rw [hm, nI_toInt (by omega)]; omega)
              rw [← (he j j1).2, e, kc_0] at z
              omega
            rw [if_pos h3, if_pos h3, if_pos (show (0 : Int32) ≤ nI j by rw [fz_le, kc_0, nI_toInt (by omega)]; omega), if_neg hw, nI_m4 (by omega), nI_add, nI_clamp (by omega)]
            exact ⟨_, _, _, rfl, rfl⟩
          · rw [if_neg h3, if_neg h3]
            exact ⟨_, _, _, rfl, rfl⟩
        · rw [j3, j4, if_neg (show ¬ (0 : Int32) ≤ -1 by decide), if_pos rfl]
          refine ⟨-1, 1, 0, ?_, ?_⟩
          · by_cases h3 : kind k = 3
            · rw [if_pos h3]
            · rw [if_neg h3]
          · by_cases h1 : PX7_isNode 1 r p1 = 1
            · rw [if_pos h1]
              by_cases h3 : kind k = 3
              · rw [if_pos h3]
              · rw [if_neg h3]
            · rw [if_neg h1]
      · refine ⟨-1, 1, 0, ?_, ?_⟩
        · rw [PX6_weight_eq, PX6_lacksNode_eq]
          dsimp only [lt_]
          rw [hn_eq hN, if_neg hn, if_neg (show ¬ (0 : Int32) = 1 by decide), un2_eq rfl, if_neg (show ¬ (1 : Int32) = 0 by decide)]
        · rw [PX7_weight_eq, PX7_good_eq, un2_eq rfl]
          dsimp only [lt_]
          rw [rn_eq hN0 hN hr p0, if_neg hn, if_neg (show ¬ (0 : Int32) = 1 by decide), no_eq, un2_eq rfl]
  obtain ⟨q, f, t, g6, g7⟩ := key
  have x := g6.symm.trans e6
  have y := g7.symm.trans e7
  simp only [Prod.mk.injEq] at x y
  obtain ⟨rfl, rfl⟩ := x
  obtain ⟨rfl, -, rfl⟩ := y
  exact ⟨rfl, rfl⟩
end WJ
end E6
end
section
/-! how many ways lead down: on both sides -/
section E7
section WQ
variable {N : Nat} {words unsures slips throne said unit : Int32} {kind parts pn wt tw uw uo r told w o st ws steps below above : Nat → Int32}
/-- one step of the reference's reckoning, the parts as told -/
theorem ways_step (hC : CR N words unsures slips throne said kind parts pn wt tw uw uo r told) (hS : StR N parts pn w o st) {n k q : Nat} (hk : k < N) (hp : parts k = nI q) (hD : ND k q kind pn wt ws steps below) : PX7_wholeOf (n + 1) r st (nI k) = pf opA (if kind k = 0 then 1 else 0) (fun i => PX7_wholeOf n r st (pn (4 * k + i))) q := by
  have hN := hC.N.2.1
  have hq := hD.1
  obtain ⟨s, s1, s2, s3⟩ := st_perm hS hk hp hD.1
  have e : ∀ z : Int32, HX7_wholeOf_0 (PX7_wholeOf n) r st (nI k) (((4 - (0 : Int32).toInt).toNat) + 1) (nI 0) z = pf opA z (fun i => PX7_wholeOf n r st (pn (4 * k + s i))) q := fun z => ways_loop (z := z) (F9 := PX7_wholeOf n) (v := fun i => PX7_wholeOf n r st (pn (4 * k + s i))) (by omega) hD.1 (many_q hC hk hp) (fun i hi => by rw [s3 i hi]) q 0 (((4 - (0 : Int32).toInt).toNat) + 1) rfl (by omega) (by rw [kc_0]; omega)
  rw [nI_0] at e
  rw [PX7_wholeOf_eq]
  simp only [lt_ap]
  rw [show (9 : Int32) + nI k = nI (9 + k) from nI_add 9 k, nI_clamp (by omega), ← (hC.k hk).1, e, e]
  by_cases h0 : kind k = 0
  · rw [if_pos h0, if_pos h0]
    exact pf_perm opA_c (g := fun i => PX7_wholeOf n r st (pn (4 * k + i))) q s s1 s2
  · rw [if_neg h0, if_neg h0]
    exact pf_perm opA_c (g := fun i => PX7_wholeOf n r st (pn (4 * k + i))) q s s1 s2
theorem ways_fuel (hC : CR N words unsures slips throne said kind parts pn wt tw uw uo r told) (hS : StR N parts pn w o st) (hI : CI N unit kind parts pn wt ws steps below above) (k : Nat) : ∀ (n m : Nat), k < n → k < m → k < N → PX7_wholeOf n r st (nI k) = PX7_wholeOf m r st (nI k) := by
  induction k using Nat.strongRecOn with
  | _ k ih =>
    intro n m h1 h2 hk
    obtain ⟨n, rfl⟩ : ∃ g, n = g + 1 := ⟨n - 1, by omega⟩
    obtain ⟨m, rfl⟩ : ∃ g, m = g + 1 := ⟨m - 1, by omega⟩
    obtain ⟨q, hp, hD⟩ := hI.2.1 k hk
    rw [ways_step hC hS hk hp hD, ways_step hC hS hk hp hD]
    refine pf_congr q (fun i hi => ?_)
    obtain ⟨j, j1, j2⟩ := hD.2.2.2.2.1 i hi
    show PX7_wholeOf n r st (pn (4 * k + i)) = PX7_wholeOf m r st (pn (4 * k + i))
    rw [j2]
    exact ih j j1 n m (by omega) (by omega) (by omega)
theorem wd_in {K : Int32 → (Nat → Int32) → Int32 × (Nat → Int32)} {k q : Nat} {z : Int32} {V : Nat → Int32} (hk : k < 18) (hq : q ≤ 4) (hp : parts k = nI q) (hj : ∀ i : Nat, i < q → ∃ j : Nat, j < k ∧ pn (4 * k + i) = nI j) : ∀ (m i f : Nat) (G : Nat → Int32), q - i = m → i ≤ q → m < f → G k = pf opA z (fun i => V (pn (4 * k + i)).toNatClampNeg) i → (∀ j : Nat, j < k → G j = V j) → ∃ G' : Nat → Int32, HX4_waysDown_1 parts pn (nI k) K f (nI i) G = K (nI (k + 1)) G' ∧ G' k = pf opA z (fun i => V (pn (4 * k + i)).toNatClampNeg) q ∧ ∀ j : Nat, j < k → G' j = V j := by
  intro m
  induction m with
  | zero =>
    intro i f G hr hi hf hG hV
    obtain ⟨f, rfl⟩ : ∃ g, f = g + 1 := ⟨f - 1, by omega⟩
    obtain rfl : i = q := by omega
    refine ⟨G, ?_, hG, hV⟩
    rw [HX4_waysDown_1_eq]
    dsimp only [lt_]
    rw [nI_clamp (by omega), hp, if_pos (nI_le (by omega) (by omega)), nI_o1]
  | succ m ih =>
    intro i f G hr hi hf hG hV
    obtain ⟨f, rfl⟩ : ∃ g, f = g + 1 := ⟨f - 1, by omega⟩
    obtain ⟨j, j1, j2⟩ := hj i (by omega)
    have a : HX4_waysDown_1 parts pn (nI k) K (f + 1) (nI i) G = HX4_waysDown_1 parts pn (nI k) K f (nI (i + 1)) (upd G k (G k + G j)) := by
      rw [HX4_waysDown_1_eq]
      dsimp only [lt_]
      rw [nI_clamp (show k < 2 ^ 31 by omega), hp, if_neg (by rw [nI_leI (by omega) (by omega)]; omega), nI_m4 (by omega), nI_add, nI_clamp (show 4 * k + i < 2 ^ 31 by omega), j2, nI_clamp (show j < 2 ^ 31 by omega), nI_o1]
    rw [a]
    refine ih (i + 1) f _ (by omega) (by omega) (by omega) ?_ (fun x hx => ?_)
    · rw [upd_at, hG, hV j j1]
      show _ = opA (pf opA z (fun i => V (pn (4 * k + i)).toNatClampNeg) i) (V (pn (4 * k + i)).toNatClampNeg)
      rw [j2, nI_clamp (show j < 2 ^ 31 by omega)]
      rfl
    · rw [upd_ne (by omega)]
      exact hV x hx
theorem wd_out (hC : CR N words unsures slips throne said kind parts pn wt tw uw uo r told) (hS : StR N parts pn w o st) (hI : CI N unit kind parts pn wt ws steps below above) : ∀ (m k f : Nat) (G : Nat → Int32), N - k = m → k ≤ N → m < f → (∀ j : Nat, j < k → G j = PX7_wholeOf 18 r st (nI j)) → ∃ G' : Nat → Int32, HX4_waysDown_0 (nI N) throne kind parts pn f (nI k) G = (PX7_wholeOf 18 r st throne, G') := by
  have hN := hI.1
  have hN0 := hC.N.1
  intro m
  induction m with
  | zero =>
    intro k f G hr hk hf hV
    obtain ⟨f, rfl⟩ : ∃ g, f = g + 1 := ⟨f - 1, by omega⟩
    obtain rfl : k = N := by omega
    refine ⟨G, ?_⟩
    obtain ⟨-, -, -, -, -, -, -, -, hth, -⟩ := hC
    obtain ⟨t, t1, rfl⟩ := nd_of hN hth
    rw [HX4_waysDown_0_eq, if_pos (nI_le (by omega) (by omega)), PX4_throneValue_eq]
    dsimp only [lt_]
    rw [hn_eq hN, if_pos hth, if_pos rfl, nI_clamp (by omega), hV t t1]
  | succ m ih =>
    intro k f G hr hk hf hV
    obtain ⟨f, rfl⟩ : ∃ g, f = g + 1 := ⟨f - 1, by omega⟩
    obtain ⟨q, hp, hD⟩ := hI.2.1 k (by omega)
    have hstep : pf opA (if kind k = 0 then 1 else 0) (fun i => PX7_wholeOf 18 r st (nI (pn (4 * k + i)).toNatClampNeg)) q = PX7_wholeOf 18 r st (nI k) := by
      rw [show (18 : Nat) = 17 + 1 from rfl, ways_step hC hS (show k < N by omega) hp hD]
      refine pf_congr q (fun i hi => ?_)
      obtain ⟨j, j1, j2⟩ := hD.2.2.2.2.1 i hi
      show PX7_wholeOf (17 + 1) r st (nI (pn (4 * k + i)).toNatClampNeg) = PX7_wholeOf 17 r st (pn (4 * k + i))
      rw [j2, nI_clamp (by omega)]
      exact ways_fuel hC hS hI j (17 + 1) 17 (by omega) (by omega) (by omega)
    have key : ∀ z : Int32, z = (if kind k = 0 then 1 else 0) → ∃ G' : Nat → Int32, HX4_waysDown_1 parts pn (nI k) (fun a b => HX4_waysDown_0 (nI N) throne kind parts pn f a b) (((2147483647 - (0 : Int32).toInt).toNat) + 1) 0 (upd G k z) = (PX7_wholeOf 18 r st throne, G') := fun z hz => by
      obtain ⟨G', e, g1, g2⟩ := wd_in (K := fun a b => HX4_waysDown_0 (nI N) throne kind parts pn f a b) (z := z) (V := fun j => PX7_wholeOf 18 r st (nI j)) (show k < 18 by omega) hD.1 hp hD.2.2.2.2.1 q 0 (((2147483647 - (0 : Int32).toInt).toNat) + 1) (upd G k z) rfl (by omega) (by rw [kc_0]; have := hD.1; omega) (upd_at _ _ _) (fun j hj => by rw [upd_ne (by omega)]; exact hV j hj)
      rw [nI_0] at e
      rw [e]
      refine ih (k + 1) f G' (by omega) (by omega) (by omega) (fun j hj => ?_)
      by_cases c : j = k
      · rw [c, g1, hz]; exact hstep
      · exact g2 j (by omega)
    rw [HX4_waysDown_0_eq, if_neg (by rw [nI_leI (by omega) (by omega)]; omega)]
    simp only [lt_ap]
    rw [nI_clamp (show k < 2 ^ 31 by omega)]
    by_cases h0 : kind k = 0
    · rw [if_pos h0]
      exact key 1 (by rw [if_pos h0])
    · rw [if_neg h0]
      exact key 0 (by rw [if_neg h0])
end WQ
section WJ
variable {nodes words unsures slips throne said : Int32} {kind parts pn wt tw uw uo w o : Nat → Int32} {ic : Int32} {iw0 io0 iw1 io1 iw2 io2 : Nat → Int32} {ac : Int32} {an ao as : Nat → Int32} {hc : Int32} {r told st und kept : Nat → Int32} {undos images : Int32} {unit : Int32} {ws steps below above : Nat → Int32}
theorem whole_join (h : Rel nodes words unsures slips throne said kind parts pn wt tw uw uo w o ic iw0 io0 iw1 io1 iw2 io2 ac an ao as hc r told st und kept undos images) (hx : CIS nodes unit kind parts pn wt ws steps below above) {lv lv' : Nat → Int32} {q6 rf q7 t1 t2 : Int32} (e6 : PX6_whole nodes throne kind parts pn lv = (q6, rf, lv')) (e7 : PX7_whole hc r st = (q7, t1, t2)) : q6 = q7 ∧ rf = t2 := by
  have key : ∃ (q f t : Int32) (v : Nat → Int32), PX6_whole nodes throne kind parts pn lv = (q, f, v) ∧ PX7_whole hc r st = (q, t, f) := by
    rcases h with ⟨rfl, h0⟩ | ⟨N, c, d, rfl, rfl, rfl, rfl, hc, rfl, rfl, hd, hC, hS, hU, hI⟩
    · obtain ⟨h2, h3, h4, h5, h6, h7, rfl, h8, h9⟩ := h0
      refine ⟨-1, 1, 0, lv, ?_, ?_⟩
      · rw [PX6_whole_eq, lc_0, un2_eq rfl, if_neg (show ¬ (1 : Int32) = 0 by decide)]
      · rw [PX7_whole_eq, PX7_good_eq, un2_eq rfl, if_pos rfl, no_eq, un2_eq rfl]
    · obtain ⟨hN0, hN, hr⟩ := hC.N
      obtain ⟨M, hM, hX⟩ := hx
      obtain rfl : N = M := (nI_eq (by omega) (by have := hX.1; omega)).mp hM
      obtain ⟨G', e⟩ := wd_out hC hS hX N 0 (((2147483647 - (0 : Int32).toInt).toNat) + 1) lv rfl (by omega) (by rw [kc_0]; omega) (fun j hj => absurd hj (by omega))
      rw [nI_0] at e
      have hth : r 6 = throne := hC.2.2.2.2.2.2.1
      refine ⟨PX7_wholeOf 18 r st throne, 0, 0, G', ?_, ?_⟩
      · rw [PX6_whole_eq, lc_N hN0 hN, un2_eq rfl, if_pos rfl, PX4_waysDown_eq, un2_eq e]
      · rw [PX7_whole_eq, PX7_good_eq, un2_eq rfl, if_neg (show ¬ (1 : Int32) = 0 by decide)]
        dsimp only [lt_]
        rw [six_cl, hth]
  obtain ⟨q, f, t, v, g6, g7⟩ := key
  have x := g6.symm.trans e6
  have y := g7.symm.trans e7
  simp only [Prod.mk.injEq] at x y
  obtain ⟨rfl, rfl, -⟩ := x
  obtain ⟨rfl, -, rfl⟩ := y
  exact ⟨rfl, rfl⟩
end WJ
end E7
end
