/-! worths: what is joined at a node, on both sides -/
section F1
theorem opM_i (a x : Int32) : (opM a x).toInt = max a.toInt x.toInt := by
  unfold opM
  by_cases h : x ≤ a
  · rw [if_pos h]; rw [fz_le] at h; omega
  · rw [if_neg h]; rw [fz_le] at h; omega
theorem opM_c (a b c : Int32) : opM (opM a b) c = opM (opM a c) b := by
  rw [fz_eq, opM_i, opM_i, opM_i, opM_i]
  omega
def opN (a x : Int32) : Int32 := if a ≤ x then a else x
theorem opN_i (a x : Int32) : (opN a x).toInt = min a.toInt x.toInt := by
  unfold opN
  by_cases h : a ≤ x
  · rw [if_pos h]; rw [fz_le] at h; omega
  · rw [if_neg h]; rw [fz_le] at h; omega
theorem opN_c (a b c : Int32) : opN (opN a b) c = opN (opN a c) b := by
  rw [fz_eq, opN_i, opN_i, opN_i, opN_i]
  omega
theorem k_lo : (-100000000 : Int32).toInt = -100000000 := by decide
theorem k_hi : (100000000 : Int32).toInt = 100000000 := by decide
/-- what is joined at a node of kind kd from its parts' values, as told -/
def Jv (kd s : Int32) (wt v : Nat → Int32) (k q : Nat) : Int32 := if kd = 3 then pf opA 0 (fun i => v i * wt (4 * k + i)) q / s else if kd = 1 then pf opM (-100000000) v q else pf opN 100000000 v q
theorem Jv_congr {kd s : Int32} {wt v v' : Nat → Int32} {k q : Nat} (h : ∀ i : Nat, i < q → v i = v' i) : Jv kd s wt v k q = Jv kd s wt v' k q := by
  unfold Jv
  rw [pf_congr (op := opA) (z := 0) (g := fun i => v i * wt (4 * k + i)) (h := fun i => v' i * wt (4 * k + i)) q (fun i hi => by rw [h i hi]), pf_congr (op := opM) (z := -100000000) q h, pf_congr (op := opN) (z := 100000000) q h]
theorem sI_pf {f : Nat → Int32} {b : Nat} : ∀ m : Nat, sI f b m = pf opA 0 (fun i => f (b + i)) m
  | 0 => rfl
  | m + 1 => by rw [sI, sI_pf m]; rfl
theorem pfA_s (v : Nat → Int32) (m : Nat) : pf opA 0 v (m + 1) = pf opA 0 v m + v m := rfl
theorem sum_w {w : Nat → Int32} : ∀ m : Nat, m ≤ 4 → (∀ i : Nat, i < m → 1 ≤ (w i).toInt ∧ (w i).toInt ≤ 9) → (m : Int) ≤ (pf opA 0 w m).toInt ∧ (pf opA 0 w m).toInt ≤ 9 * m
  | 0, _, _ => ⟨by show (0 : Int) ≤ (0 : Int32).toInt; decide, by show (0 : Int32).toInt ≤ 9 * ((0 : Nat) : Int); decide⟩
  | m + 1, hm, h => by
    have a := sum_w m (by omega) (fun i hi => h i (by omega))
    have b := h m (by omega)
    rw [pfA_s, fb_addI (by omega) (by omega)]
    omega
theorem sum_vw {v w : Nat → Int32} {X : Int} (hX : X ≤ 1000000) (h0 : 0 ≤ X) : ∀ m : Nat, m ≤ 4 → (∀ i : Nat, i < m → 0 ≤ (v i).toInt ∧ (v i).toInt ≤ X) → (∀ i : Nat, i < m → 1 ≤ (w i).toInt ∧ (w i).toInt ≤ 9) → 0 ≤ (pf opA 0 (fun i => v i * w i) m).toInt ∧ (pf opA 0 (fun i => v i * w i) m).toInt ≤ X * (pf opA 0 w m).toInt
  | 0, _, _, _ => ⟨by show (0 : Int) ≤ (0 : Int32).toInt; decide, by show (0 : Int32).toInt ≤ X * (0 : Int32).toInt; rw [kc_0, Int.mul_zero]; exact Int.le_refl _⟩
  | m + 1, hm, hv, hw => by
    obtain ⟨a1, a2⟩ := sum_vw hX h0 m (by omega) (fun i hi => hv i (by omega)) (fun i hi => hw i (by omega))
    obtain ⟨b1, b2⟩ := sum_w m (by omega) (fun i hi => hw i (by omega))
    obtain ⟨c1, c2⟩ := hv m (by omega)
    obtain ⟨d1, d2⟩ := hw m (by omega)
    have p1 : 0 ≤ (v m).toInt * (w m).toInt := Int.mul_nonneg c1 (by omega)
    have p2 : (v m).toInt * (w m).toInt ≤ X * (w m).toInt := Int.mul_le_mul_of_nonneg_right c2 (by omega)
    have p3 : X * (w m).toInt ≤ 1000000 * 9 := Int.mul_le_mul hX d2 (by omega) (by decide)
    have p4 : X * (pf opA 0 w m).toInt ≤ 1000000 * 27 := Int.mul_le_mul hX (by omega) (by omega) (by decide)
    have e1 : (v m * w m).toInt = (v m).toInt * (w m).toInt := fb_mulI (by omega) (by omega)
    have e2 : (pf opA 0 w m + w m).toInt = (pf opA 0 w m).toInt + (w m).toInt := fb_addI (by omega) (by omega)
    have e3 : (pf opA 0 (fun i => v i * w i) m + v m * w m).toInt = (pf opA 0 (fun i => v i * w i) m).toInt + (v m).toInt * (w m).toInt := by rw [fb_addI (by rw [e1]; omega) (by rw [e1]; omega), e1]
    rw [pfA_s, pfA_s, e2, Int.mul_add]
    show 0 ≤ (pf opA 0 (fun i => v i * w i) m + v m * w m).toInt ∧ (pf opA 0 (fun i => v i * w i) m + v m * w m).toInt ≤ _
    rw [e3]
    omega
theorem pfM_in {v : Nat → Int32} {X : Int} (hX : 0 ≤ X) : ∀ m : Nat, (∀ i : Nat, i < m → 0 ≤ (v i).toInt ∧ (v i).toInt ≤ X) → (pf opM (-100000000) v m).toInt ≤ X ∧ (1 ≤ m → 0 ≤ (pf opM (-100000000) v m).toInt)
  | 0, _ => ⟨by show (-100000000 : Int32).toInt ≤ X; rw [k_lo]; omega, fun h => absurd h (by omega)⟩
  | m + 1, h => by
    obtain ⟨a, -⟩ := pfM_in hX m (fun i hi => h i (by omega))
    have b := h m (by omega)
    have e : (pf opM (-100000000) v (m + 1)).toInt = max (pf opM (-100000000) v m).toInt (v m).toInt := opM_i _ _
    rw [e]
    omega
theorem pfN_in {v : Nat → Int32} {X : Int} : ∀ m : Nat, (∀ i : Nat, i < m → 0 ≤ (v i).toInt ∧ (v i).toInt ≤ X) → 0 ≤ (pf opN 100000000 v m).toInt ∧ (1 ≤ m → (pf opN 100000000 v m).toInt ≤ X)
  | 0, _ => ⟨by show 0 ≤ (100000000 : Int32).toInt; rw [k_hi]; omega, fun h => absurd h (by omega)⟩
  | m + 1, h => by
    obtain ⟨a, -⟩ := pfN_in (X := X) m (fun i hi => h i (by omega))
    have b := h m (by omega)
    have e : (pf opN 100000000 v (m + 1)).toInt = min (pf opN 100000000 v m).toInt (v m).toInt := opN_i _ _
    rw [e]
    omega
theorem Jv_in {kd s : Int32} {wt v : Nat → Int32} {k q : Nat} {X : Int} (hX : X ≤ 1000000) (h0 : 0 ≤ X) (hq : q ≤ 4) (hq1 : 1 ≤ q) (hs : kd = 3 → s = pf opA 0 (fun i => wt (4 * k + i)) q ∧ ∀ i : Nat, i < q → 1 ≤ (wt (4 * k + i)).toInt ∧ (wt (4 * k + i)).toInt ≤ 9) (hv : ∀ i : Nat, i < q → 0 ≤ (v i).toInt ∧ (v i).toInt ≤ X) : 0 ≤ (Jv kd s wt v k q).toInt ∧ (Jv kd s wt v k q).toInt ≤ X := by
  unfold Jv
  by_cases c3 : kd = 3
  · obtain ⟨e, hw⟩ := hs c3
    obtain ⟨a1, a2⟩ := sum_vw (w := fun i => wt (4 * k + i)) hX h0 q hq hv hw
    obtain ⟨b1, b2⟩ := sum_w (w := fun i => wt (4 * k + i)) q hq hw
    rw [if_pos c3, e]
    generalize pf opA 0 (fun i => v i * wt (4 * k + i)) q = A at a1 a2
    generalize pf opA 0 (fun i => wt (4 * k + i)) q = S at a2 b1 b2
    rw [ti_divE (z := A / S) rfl rfl rfl a1 (by omega)]
    refine ⟨Int.ediv_nonneg a1 (by omega), ?_⟩
    refine Int.le_of_lt_add_one (Int.ediv_lt_of_lt_mul (by omega) ?_)
    rw [Int.add_mul, Int.one_mul]
    omega
  · rw [if_neg c3]
    by_cases c1 : kd = 1
    · rw [if_pos c1]
      obtain ⟨a, b⟩ := pfM_in h0 q hv
      exact ⟨b hq1, a⟩
    · rw [if_neg c1]
      obtain ⟨a, b⟩ := pfN_in q hv
      exact ⟨a, b hq1⟩
theorem Jv_perm {kd s : Int32} {wt v : Nat → Int32} {k q : Nat} {p : Nat → Nat} (p1 : ∀ i : Nat, i < q → p i < q) (p2 : ∀ i j : Nat, i < q → j < q → p i = p j → i = j) : (if kd = 3 then pf opA 0 (fun i => v (p i) * wt (4 * k + p i)) q / s else if kd = 1 then pf opM (-100000000) (fun i => v (p i)) q else pf opN 100000000 (fun i => v (p i)) q) = Jv kd s wt v k q := by
  unfold Jv
  rw [pf_perm opA_c (z := 0) (g := fun i => v i * wt (4 * k + i)) q p p1 p2, pf_perm opM_c (z := -100000000) (g := v) q p p1 p2, pf_perm opN_c (z := 100000000) (g := v) q p p1 p2]
/-! the reference: one step -/
section WL
variable {F9 : Int32 → (Nat → Int32) → (Nat → Int32) → Int32 → (Nat → Int32) → Int32 → Int32 → Int32} {r told Q v : Nat → Int32} {sc nt : Int32} {k q d : Nat}
theorem wk_loop {z : Int32} (hk : k < 18) (hq : q ≤ 4) (hm : r (27 + k) = nI q) (hv : ∀ i : Nat, i < q → F9 nt r told sc Q (Q (4 * k + i)) (nI (d + 1)) = v i) : ∀ (m i f : Nat), q - i = m → i ≤ q → m < f → HX7_worthAt_1 F9 r told sc nt Q (nI k) (nI d) 1 f (nI i) (pf opM z v i) = pf opM z v q := by
  intro m
  induction m with
  | zero =>
    intro i f hr hi hf
    obtain ⟨f, rfl⟩ : ∃ g, f = g + 1 := ⟨f - 1, by omega⟩
    obtain rfl : i = q := by omega
    rw [HX7_worthAt_1_eq]
    dsimp only [lt_]
    rw [show (27 : Int32) + nI k = nI (27 + k) from nI_add 27 k, nI_clamp (by omega), hm, if_pos (nI_le (by omega) (by omega)), if_neg (show ¬ (1 : Int32) = 3 by decide)]
  | succ m ih =>
    intro i f hr hi hf
    obtain ⟨f, rfl⟩ : ∃ g, f = g + 1 := ⟨f - 1, by omega⟩
    rw [HX7_worthAt_1_eq]
    dsimp only [lt_]
    rw [show (27 : Int32) + nI k = nI (27 + k) from nI_add 27 k, nI_clamp (show 27 + k < 2 ^ 31 by omega), hm, if_neg (by rw [nI_leI (by omega) (by omega)]; omega), nI_m4' (by omega), nI_add, nI_clamp (show 4 * k + i < 2 ^ 31 by omega), nI_1, hv i (by omega), if_pos rfl, nI_o1]
    have e : pf opM z v (i + 1) = if v i ≤ pf opM z v i then pf opM z v i else v i := rfl
    by_cases c : v i ≤ pf opM z v i
    · rw [if_pos c] at e
      rw [if_pos c, ← ih (i + 1) f (by omega) (by omega) (by omega), e]
    · rw [if_neg c] at e
      rw [if_neg c, ← ih (i + 1) f (by omega) (by omega) (by omega), e]
theorem wq_loop {z : Int32} (hk : k < 18) (hq : q ≤ 4) (hm : r (27 + k) = nI q) (hv : ∀ i : Nat, i < q → F9 nt r told sc Q (Q (4 * k + i)) (nI (d + 1)) = v i) : ∀ (m i f : Nat), q - i = m → i ≤ q → m < f → HX7_worthAt_0 F9 r told sc nt Q (nI k) (nI d) 2 f (nI i) (pf opN z v i) = pf opN z v q := by
  intro m
  induction m with
  | zero =>
    intro i f hr hi hf
    obtain ⟨f, rfl⟩ : ∃ g, f = g + 1 := ⟨f - 1, by omega⟩
    obtain rfl : i = q := by omega
    rw [HX7_worthAt_0_eq]
    dsimp only [lt_]
    rw [show (27 : Int32) + nI k = nI (27 + k) from nI_add 27 k, nI_clamp (by omega), hm, if_pos (nI_le (by omega) (by omega)), if_neg (show ¬ (2 : Int32) = 3 by decide)]
  | succ m ih =>
    intro i f hr hi hf
    obtain ⟨f, rfl⟩ : ∃ g, f = g + 1 := ⟨f - 1, by omega⟩
    rw [HX7_worthAt_0_eq]
    dsimp only [lt_]
    rw [show (27 : Int32) + nI k = nI (27 + k) from nI_add 27 k, nI_clamp (show 27 + k < 2 ^ 31 by omega), hm, if_neg (by rw [nI_leI (by omega) (by omega)]; omega), nI_m4' (by omega), nI_add, nI_clamp (show 4 * k + i < 2 ^ 31 by omega), nI_1, hv i (by omega), if_neg (show ¬ (2 : Int32) = 1 by decide), if_pos rfl, nI_o1]
    have e : pf opN z v (i + 1) = if pf opN z v i ≤ v i then pf opN z v i else v i := rfl
    by_cases c : pf opN z v i ≤ v i
    · rw [if_pos c] at e
      rw [if_pos c, ← ih (i + 1) f (by omega) (by omega) (by omega), e]
    · rw [if_neg c] at e
      rw [if_neg c, ← ih (i + 1) f (by omega) (by omega) (by omega), e]
theorem ws_loop (hk : k < 18) (hq : q ≤ 4) (hm : r (27 + k) = nI q) : ∀ (m i f : Nat), q - i = m → i ≤ q → m < f → HX7_weightsOf_0 r (nI k) f (nI i) (pf opA 0 (fun j => r (45 + 4 * k + j)) i) = pf opA 0 (fun j => r (45 + 4 * k + j)) q := by
  intro m
  induction m with
  | zero =>
    intro i f hr hi hf
    obtain ⟨f, rfl⟩ : ∃ g, f = g + 1 := ⟨f - 1, by omega⟩
    obtain rfl : i = q := by omega
    rw [HX7_weightsOf_0_eq]
    dsimp only [lt_]
    rw [show (27 : Int32) + nI k = nI (27 + k) from nI_add 27 k, nI_clamp (by omega), hm, if_pos (nI_le (by omega) (by omega))]
  | succ m ih =>
    intro i f hr hi hf
    obtain ⟨f, rfl⟩ : ∃ g, f = g + 1 := ⟨f - 1, by omega⟩
    rw [HX7_weightsOf_0_eq]
    dsimp only [lt_]
    rw [show (27 : Int32) + nI k = nI (27 + k) from nI_add 27 k, nI_clamp (show 27 + k < 2 ^ 31 by omega), hm, if_neg (by rw [nI_leI (by omega) (by omega)]; omega), nI_m4' (by omega), show (45 : Int32) + nI (4 * k) = nI (45 + 4 * k) from nI_add 45 (4 * k), nI_add, nI_clamp (show 45 + 4 * k + i < 2 ^ 31 by omega), nI_o1]
    exact ih (i + 1) f (by omega) (by omega) (by omega)
theorem ws_eq (hk : k < 18) (hq : q ≤ 4) (hm : r (27 + k) = nI q) : PX7_weightsOf r (nI k) = pf opA 0 (fun j => r (45 + 4 * k + j)) q := by
  have e := ws_loop hk hq hm q 0 (((4 - (0 : Int32).toInt).toNat) + 1) rfl (by omega) (by rw [kc_0]; omega)
  rw [nI_0] at e
  rw [PX7_weightsOf_eq]
  exact e
theorem wc_loop {u : Nat → Int32} (hk : k < 18) (hq : q ≤ 4) (hm : r (27 + k) = nI q) (hv : ∀ i : Nat, i < q → F9 nt r told sc Q (Q (4 * k + i)) (nI (d + 1)) = v i) (hu : ∀ i : Nat, i < q → PX7_weightOf r told (nI k) (Q (4 * k + i)) = u i) : ∀ (m i f : Nat), q - i = m → i ≤ q → m < f → HX7_worthAt_2 F9 r told sc nt Q (nI k) (nI d) 3 f (nI i) (pf opA 0 (fun j => v j * u j) i) = pf opA 0 (fun j => v j * u j) q / pf opA 0 (fun j => r (45 + 4 * k + j)) q := by
  intro m
  induction m with
  | zero =>
    intro i f hr hi hf
    obtain ⟨f, rfl⟩ : ∃ g, f = g + 1 := ⟨f - 1, by omega⟩
    obtain rfl : i = q := by omega
    rw [HX7_worthAt_2_eq]
    dsimp only [lt_]
    rw [show (27 : Int32) + nI k = nI (27 + k) from nI_add 27 k, nI_clamp (by omega), hm, if_pos (nI_le (by omega) (by omega)), if_pos rfl, ws_eq hk hq hm]
  | succ m ih =>
    intro i f hr hi hf
    obtain ⟨f, rfl⟩ : ∃ g, f = g + 1 := ⟨f - 1, by omega⟩
    rw [HX7_worthAt_2_eq]
    dsimp only [lt_]
    rw [show (27 : Int32) + nI k = nI (27 + k) from nI_add 27 k, nI_clamp (show 27 + k < 2 ^ 31 by omega), hm, if_neg (by rw [nI_leI (by omega) (by omega)]; omega), nI_m4' (by omega), nI_add, nI_clamp (show 4 * k + i < 2 ^ 31 by omega), nI_1, hv i (by omega), hu i (by omega), if_neg (show ¬ (3 : Int32) = 1 by decide), if_neg (show ¬ (3 : Int32) = 2 by decide), nI_o1]
    exact ih (i + 1) f (by omega) (by omega) (by omega)
end WL
/-! the class: one step -/
section CJ
variable {G parts pn wt ws : Nat → Int32} {k q : Nat} {v : Nat → Int32}
theorem cjK_loop {z : Int32} (hk : k < 18) (hq : q ≤ 4) (hp : parts k = nI q) (hv : ∀ i : Nat, i < q → G (pn (4 * k + i)).toNatClampNeg = v i) : ∀ (m i f : Nat), q - i = m → 1 ≤ i → i ≤ q → m < f → HX4_joined_0 G parts pn wt ws (nI k) 1 f (nI i) (pf opM z v i) = pf opM z v q := by
  intro m
  induction m with
  | zero =>
    intro i f hr h1 hi hf
    obtain ⟨f, rfl⟩ : ∃ g, f = g + 1 := ⟨f - 1, by omega⟩
    obtain rfl : i = q := by omega
    rw [HX4_joined_0_eq]
    dsimp only [lt_]
    rw [nI_clamp (by omega), hp, if_pos (nI_le (by omega) (by omega)), if_neg (show ¬ (1 : Int32) = 3 by decide)]
  | succ m ih =>
    intro i f hr h1 hi hf
    obtain ⟨f, rfl⟩ : ∃ g, f = g + 1 := ⟨f - 1, by omega⟩
    rw [HX4_joined_0_eq]
    dsimp only [lt_]
    rw [nI_clamp (show k < 2 ^ 31 by omega), hp, if_neg (by rw [nI_leI (by omega) (by omega)]; omega), nI_m4 (by omega), nI_add, nI_clamp (show 4 * k + i < 2 ^ 31 by omega), hv i (by omega), if_neg (show ¬ (1 : Int32) = 3 by decide), if_neg (nI_ne0 (by omega) (by omega)), if_pos rfl, nI_o1]
    have e : pf opM z v (i + 1) = if v i ≤ pf opM z v i then pf opM z v i else v i := rfl
    by_cases c : v i ≤ pf opM z v i
    · rw [if_pos c] at e
      rw [if_pos c, ← ih (i + 1) f (by omega) (by omega) (by omega) (by omega), e]
    · rw [if_neg c] at e
      rw [if_neg c, ← ih (i + 1) f (by omega) (by omega) (by omega) (by omega), e]
theorem cjQ_loop {z kd : Int32} (h3 : ¬ kd = 3) (h1' : ¬ kd = 1) (hk : k < 18) (hq : q ≤ 4) (hp : parts k = nI q) (hv : ∀ i : Nat, i < q → G (pn (4 * k + i)).toNatClampNeg = v i) : ∀ (m i f : Nat), q - i = m → 1 ≤ i → i ≤ q → m < f → HX4_joined_0 G parts pn wt ws (nI k) kd f (nI i) (pf opN z v i) = pf opN z v q := by
  intro m
  induction m with
  | zero =>
    intro i f hr h1 hi hf
    obtain ⟨f, rfl⟩ : ∃ g, f = g + 1 := ⟨f - 1, by omega⟩
    obtain rfl : i = q := by omega
    rw [HX4_joined_0_eq]
    dsimp only [lt_]
    rw [nI_clamp (by omega), hp, if_pos (nI_le (by omega) (by omega)), if_neg h3]
  | succ m ih =>
    intro i f hr h1 hi hf
    obtain ⟨f, rfl⟩ : ∃ g, f = g + 1 := ⟨f - 1, by omega⟩
    rw [HX4_joined_0_eq]
    dsimp only [lt_]
    rw [nI_clamp (show k < 2 ^ 31 by omega), hp, if_neg (by rw [nI_leI (by omega) (by omega)]; omega), nI_m4 (by omega), nI_add, nI_clamp (show 4 * k + i < 2 ^ 31 by omega), hv i (by omega), if_neg h3, if_neg (nI_ne0 (by omega) (by omega)), if_neg h1', nI_o1]
    have e : pf opN z v (i + 1) = if pf opN z v i ≤ v i then pf opN z v i else v i := rfl
    by_cases c : pf opN z v i ≤ v i
    · rw [if_pos c] at e
      rw [if_pos c, ← ih (i + 1) f (by omega) (by omega) (by omega) (by omega), e]
    · rw [if_neg c] at e
      rw [if_neg c, ← ih (i + 1) f (by omega) (by omega) (by omega) (by omega), e]
theorem cjC_loop (hk : k < 18) (hq : q ≤ 4) (hp : parts k = nI q) (hv : ∀ i : Nat, i < q → G (pn (4 * k + i)).toNatClampNeg = v i) : ∀ (m i f : Nat), q - i = m → i ≤ q → m < f → HX4_joined_0 G parts pn wt ws (nI k) 3 f (nI i) (pf opA 0 (fun j => v j * wt (4 * k + j)) i) = PX6_wholeOf (pf opA 0 (fun j => v j * wt (4 * k + j)) q) (ws k) := by
  intro m
  induction m with
  | zero =>
    intro i f hr hi hf
    obtain ⟨f, rfl⟩ : ∃ g, f = g + 1 := ⟨f - 1, by omega⟩
    obtain rfl : i = q := by omega
    rw [HX4_joined_0_eq]
    dsimp only [lt_]
    rw [nI_clamp (by omega), hp, if_pos (nI_le (by omega) (by omega)), if_pos rfl]
  | succ m ih =>
    intro i f hr hi hf
    obtain ⟨f, rfl⟩ : ∃ g, f = g + 1 := ⟨f - 1, by omega⟩
    rw [HX4_joined_0_eq]
    dsimp only [lt_]
    rw [nI_clamp (show k < 2 ^ 31 by omega), hp, if_neg (by rw [nI_leI (by omega) (by omega)]; omega), nI_m4 (by omega), nI_add, nI_clamp (show 4 * k + i < 2 ^ 31 by omega), hv i (by omega), if_pos rfl, nI_o1]
    exact ih (i + 1) f (by omega) (by omega) (by omega)
theorem joined_eq {kind : Nat → Int32} (hk : k < 18) (hq : q ≤ 4) (hq1 : 1 ≤ q) (hp : parts k = nI q) (h0 : ¬ kind k = 0) (hv : ∀ i : Nat, i < q → G (pn (4 * k + i)).toNatClampNeg = v i) (hvi : ∀ i : Nat, i < q → -100000000 < (v i).toInt ∧ (v i).toInt < 100000000) (hs : kind k = 3 → 0 < (ws k).toInt) : PX4_joined G kind parts pn wt ws (nI k) = Jv (kind k) (ws k) wt v k q := by
  have first : ∀ kd f : _, ¬ kd = 3 → HX4_joined_0 G parts pn wt ws (nI k) kd (f + 1) (nI 0) 0 = HX4_joined_0 G parts pn wt ws (nI k) kd f (nI 1) (v 0) := fun kd f h3 => by
    rw [HX4_joined_0_eq]
    dsimp only [lt_]
    rw [nI_clamp (show k < 2 ^ 31 by omega), hp, if_neg (by rw [nI_leI (by omega) (by omega)]; omega), nI_m4 (by omega), nI_add, nI_clamp (show 4 * k + 0 < 2 ^ 31 by omega), hv 0 (by omega), if_neg h3, if_pos nI_0, nI_o1]
  rw [PX4_joined_eq]
  simp only [lt_ap]
  rw [nI_clamp (show k < 2 ^ 31 by omega)]
  unfold Jv
  have b := hvi 0 (by omega)
  by_cases c3 : kind k = 3
  · rw [if_pos c3, c3]
    have e := cjC_loop (wt := wt) (ws := ws) hk hq hp hv q 0 (((2147483647 - (0 : Int32).toInt).toNat) + 1) rfl (by omega) (by rw [kc_0]; omega)
    rw [nI_0] at e
    refine Eq.trans e ?_
    rw [PX6_wholeOf_eq, if_neg (fun q => by rw [fz_le, kc_0] at q; have := hs c3; omega)]
    rfl
  · rw [if_neg c3]
    by_cases c1 : kind k = 1
    · rw [if_pos c1, c1]
      have e2 : pf opM (-100000000) v 1 = v 0 := by
        rw [fz_eq]
        show (opM (-100000000) (v 0)).toInt = _
        rw [opM_i, k_lo]
        omega
      have e1 := first 1 ((2147483647 - (0 : Int32).toInt).toNat) (by decide)
      have e := cjK_loop (z := -100000000) (wt := wt) (ws := ws) hk hq hp hv (q - 1) 1 ((2147483647 - (0 : Int32).toInt).toNat) rfl (by omega) (by omega) (by rw [kc_0]; omega)
      rw [nI_0] at e1
      rw [e2] at e
      exact e1.trans e
    · rw [if_neg c1]
      have e2 : pf opN 100000000 v 1 = v 0 := by
        rw [fz_eq]
        show (opN 100000000 (v 0)).toInt = _
        rw [opN_i, k_hi]
        omega
      have e1 := first (kind k) ((2147483647 - (0 : Int32).toInt).toNat) c3
      have e := cjQ_loop (z := 100000000) (wt := wt) (ws := ws) c3 c1 hk hq hp hv (q - 1) 1 ((2147483647 - (0 : Int32).toInt).toNat) rfl (by omega) (by omega) (by rw [kc_0]; omega)
      rw [nI_0] at e1
      rw [e2] at e
      exact e1.trans e
end CJ
end F1
