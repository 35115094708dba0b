section
/-! words as numbers, five bits a letter -/
theorem nI_sub' {a b : Nat} (h : b ≤ a) (ha : a < 2 ^ 31) : nI a - nI b = nI (a - b) := by
  rw [fz_eq, fb_subI (by rw [nI_toInt ha, nI_toInt (by omega)]; omega) (by rw [nI_toInt ha, nI_toInt (by omega)]; omega), nI_toInt ha, nI_toInt (by omega), nI_toInt (by omega)]
  omega
theorem nI_o1 (k : Nat) : nI k + Int32.ofInt 1 = nI (k + 1) := by
  rw [show Int32.ofInt 1 = 1 from by decide, nI_1]
theorem lg_cmp0 (x y : Int64) : lg_cmp x y = 0 ↔ x = y := by
  unfold lg_cmp
  by_cases h1 : x > y
  · rw [if_pos h1]
    refine ⟨fun h => absurd h (by decide), fun h => ?_⟩
    subst h
    exact absurd (Int64.lt_iff_toInt_lt.mp h1) (by omega)
  · rw [if_neg h1]
    by_cases h2 : x = y
    · rw [if_pos h2]; exact ⟨fun _ => h2, fun _ => rfl⟩
    · rw [if_neg h2]; exact ⟨fun h => absurd h (by decide), fun h => absurd h h2⟩
theorem wl_eq (x : Int64) (c : Int32) : PX3_withLetter x c = x * 32 + (c - 97 + 1).toInt64 := rfl
noncomputable def lcode (L : Nat → Int32) : Nat → Int64
  | 0 => 0
  | k + 1 => PX3_withLetter (lcode L k) (L k)
def lnum (L : Nat → Int32) : Nat → Nat
  | 0 => 0
  | k + 1 => lnum L k * 32 + ((L k).toInt - 96).toNat
def Lets (L : Nat → Int32) (len : Nat) : Prop := ∀ i : Nat, i < len → 97 ≤ (L i).toInt ∧ (L i).toInt ≤ 122
theorem Lets.le {L : Nat → Int32} {a b : Nat} (h : Lets L b) (hab : a ≤ b) : Lets L a := fun i hi => h i (by omega)
theorem wl_int {x : Int64} {c : Int32} {a : Nat} (hx : x.toInt = (a : Int)) (ha : a < 1099511627776) (h1 : 97 ≤ c.toInt) (h2 : c.toInt ≤ 122) : (PX3_withLetter x c).toInt = ((a * 32 + (c.toInt - 96).toNat : Nat) : Int) := by
  have k97 : (97 : Int32).toInt = 97 := by decide
  have k1 : (1 : Int32).toInt = 1 := by decide
  have k32 : (32 : Int64).toInt = 32 := by decide
  have e1 : (c - 97).toInt = c.toInt - 97 := by rw [fb_subI (by omega) (by omega), k97]
  have e2 : (c - 97 + 1).toInt = c.toInt - 96 := by rw [fb_addI (by omega) (by omega), e1, k1]; omega
  have e3 : ((c - 97 + 1).toInt64).toInt = c.toInt - 96 := by rw [Int32.toInt_toInt64, e2]
  have e4 : (x * 32).toInt = (a : Int) * 32 := by rw [fb_mulL (by rw [hx, k32]; omega) (by rw [hx, k32]; omega), hx, k32]
  rw [wl_eq, fb_addL (by rw [e3, e4]; omega) (by rw [e3, e4]; omega), e3, e4]
  omega
theorem lnum_lt {L : Nat → Int32} : ∀ {len : Nat}, Lets L len → lnum L len < 32 ^ len
  | 0, _ => by show 0 < 1; decide
  | k + 1, h => by
    have ih := lnum_lt (h.le (Nat.le_succ k))
    have hk := h k (Nat.lt_succ_self k)
    show lnum L k * 32 + ((L k).toInt - 96).toNat < 32 ^ k * 32
    omega
theorem lnum_8 {L : Nat → Int32} {len : Nat} (h : Lets L len) (hl : len ≤ 8) : lnum L len < 1099511627776 :=
  Nat.lt_of_lt_of_le (lnum_lt h) (Nat.le_trans (Nat.pow_le_pow_right (by decide) hl) (by decide))
theorem lcode_int {L : Nat → Int32} : ∀ {len : Nat}, len ≤ 8 → Lets L len → (lcode L len).toInt = (lnum L len : Int)
  | 0, _, _ => by show (0 : Int64).toInt = ((0 : Nat) : Int); decide
  | k + 1, hl, h => by
    have hk := h k (Nat.lt_succ_self k)
    exact wl_int (lcode_int (by omega) (h.le (Nat.le_succ k))) (lnum_8 (h.le (Nat.le_succ k)) (by omega)) hk.1 hk.2
theorem lnum_inj {L M : Nat → Int32} : ∀ {a b : Nat}, Lets L a → Lets M b → lnum L a = lnum M b → a = b ∧ ∀ i : Nat, i < a → L i = M i
  | 0, 0, _, _, _ => ⟨rfl, fun i hi => absurd hi (Nat.not_lt_zero i)⟩
  | 0, b + 1, _, hM, h => by
    have hk := hM b (Nat.lt_succ_self b)
    have h : 0 = lnum M b * 32 + ((M b).toInt - 96).toNat := h
    omega
  | a + 1, 0, hL, _, h => by
    have hk := hL a (Nat.lt_succ_self a)
    have h : lnum L a * 32 + ((L a).toInt - 96).toNat = 0 := h
    omega
  | a + 1, b + 1, hL, hM, h => by
    have h1 := hL a (Nat.lt_succ_self a)
    have h2 := hM b (Nat.lt_succ_self b)
    have h : lnum L a * 32 + ((L a).toInt - 96).toNat = lnum M b * 32 + ((M b).toInt - 96).toNat := h
    obtain ⟨e, f⟩ := lnum_inj (hL.le (Nat.le_succ a)) (hM.le (Nat.le_succ b)) (by omega)
    subst e
    refine ⟨rfl, fun i hi => ?_⟩
    by_cases hi2 : i = a
    · rw [hi2, fz_eq]; omega
    · exact f i (by omega)
theorem lcode_inj {L M : Nat → Int32} {a b : Nat} (ha : a ≤ 8) (hb : b ≤ 8) (hL : Lets L a) (hM : Lets M b) (h : lcode L a = lcode M b) : a = b ∧ ∀ i : Nat, i < a → L i = M i := by
  have q := congrArg Int64.toInt h
  rw [lcode_int ha hL, lcode_int hb hM] at q
  exact lnum_inj hL hM (by omega)
theorem lcode_congr {L M : Nat → Int32} : ∀ {a : Nat}, (∀ i : Nat, i < a → L i = M i) → lcode L a = lcode M a
  | 0, _ => rfl
  | a + 1, h => by
    show PX3_withLetter (lcode L a) (L a) = PX3_withLetter (lcode M a) (M a)
    rw [lcode_congr (fun i hi => h i (by omega)), h a (Nat.lt_succ_self a)]
theorem Lets.congr {L M : Nat → Int32} {a : Nat} (h : Lets L a) (e : ∀ i : Nat, i < a → L i = M i) : Lets M a := fun i hi => by rw [← e i hi]; exact h i hi
end
section
/-! the same token on both sides -/
def TR (T U : Nat → Int32) (n : Nat) : Prop := ∀ j : Nat, j < n → -128 ≤ (T j).toInt ∧ (T j).toInt ≤ 127 ∧ ((0 ≤ (T j).toInt ∧ (U j).toInt = (T j).toInt) ∨ ((T j).toInt < 0 ∧ (U j).toInt = (T j).toInt + 256))
theorem isL_eq (c : Int32) : PX3_isLetter c = if 97 ≤ c.toInt ∧ c.toInt ≤ 122 then 1 else 0 := by
  have k1 : (97 : Int32).toInt = 97 := by decide
  have k2 : (122 : Int32).toInt = 122 := by decide
  rw [PX3_isLetter_eq]
  by_cases h1 : c < 97
  · rw [if_pos h1, if_neg (by rw [fz_lt, k1] at h1; omega)]
  · rw [if_neg h1]
    by_cases h2 : 122 < c
    · rw [if_pos h2, if_neg (by rw [fz_lt, k2] at h2; omega)]
    · rw [if_neg h2, if_pos (by rw [fz_lt, k1] at h1; rw [fz_lt, k2] at h2; omega)]
theorem isS_eq (c : Int32) : PX7_isSmall c = if 97 ≤ c.toInt ∧ c.toInt ≤ 122 then 1 else 0 := isL_eq c
theorem isD_eq (c : Int32) : PX3_isDigit c = if 48 ≤ c.toInt ∧ c.toInt ≤ 57 then 1 else 0 := by
  have k1 : (48 : Int32).toInt = 48 := by decide
  have k2 : (57 : Int32).toInt = 57 := by decide
  rw [PX3_isDigit_eq]
  by_cases h1 : c < 48
  · rw [if_pos h1, if_neg (by rw [fz_lt, k1] at h1; omega)]
  · rw [if_neg h1]
    by_cases h2 : 57 < c
    · rw [if_pos h2, if_neg (by rw [fz_lt, k2] at h2; omega)]
    · rw [if_neg h2, if_pos (by rw [fz_lt, k1] at h1; rw [fz_lt, k2] at h2; omega)]
theorem isD7_eq (c : Int32) : PX7_isDigit c = if 48 ≤ c.toInt ∧ c.toInt ≤ 57 then 1 else 0 := isD_eq c
theorem byteAt_lt (T : Nat → Int32) {k : Nat} (h : k < 900) : PX3_byteAt T (nI k) = T k := by
  rw [PX3_byteAt_eq, if_neg (nI_pos (by omega)), if_neg (show ¬ (900 : Int32) ≤ nI k by rw [fz_le, nI_toInt (by omega), kc_900]; omega)]
  show T (nI k).toNatClampNeg = T k
  rw [nI_clamp (by omega)]
theorem see_lt (U : Nat → Int32) {n k : Nat} (hk : k < n) (hn : n ≤ 900) : PX7_see_p U (nI n) (nI k) = U k := by
  rw [PX7_see_p_eq, if_neg (by rw [nI_leI (by omega) (by omega)]; omega)]
  show U (nI k).toNatClampNeg = U k
  rw [nI_clamp (by omega)]
theorem see_ge (U : Nat → Int32) {n k : Nat} (hk : n ≤ k) (hk2 : k < 2 ^ 31) : PX7_see_p U (nI n) (nI k) = -1 := by
  rw [PX7_see_p_eq, if_pos (by rw [nI_leI (by omega) (by omega)]; omega)]
theorem m1_int : (-1 : Int32).toInt = -1 := by decide
theorem isD7_m1 : PX7_isDigit (-1) = 0 := by rw [isD7_eq, if_neg (show ¬ (48 ≤ (-1 : Int32).toInt ∧ (-1 : Int32).toInt ≤ 57) by rw [m1_int]; omega)]
theorem isS_m1 : PX7_isSmall (-1) = 0 := by rw [isS_eq, if_neg (show ¬ (97 ≤ (-1 : Int32).toInt ∧ (-1 : Int32).toInt ≤ 122) by rw [m1_int]; omega)]
theorem dig_sim {T U : Nat → Int32} {n a : Nat} {L : Nat → Int32} (hT : TR T U n) (hn : n ≤ 900) : ∀ (m k f1 f2 : Nat) (w1 w2 : Int32), n - k = m → a ≤ k → k ≤ n → m < f1 → m < f2 → (k - a ≤ 3 → w1 = w2 ∧ 0 ≤ w1.toInt ∧ w1.toInt ≤ 999 ∧ (k - a ≤ 2 → w1.toInt ≤ 99) ∧ (k - a ≤ 1 → w1.toInt ≤ 9) ∧ (k - a = 0 → w1.toInt = 0)) → ∃ (b : Nat) (x y : Int32), k ≤ b ∧ b ≤ n ∧ HX3_takeDigits_0 T (nI n) (nI a) f1 (nI k) w1 = (if b - a ≤ 3 then 2 else 5, nI b, x) ∧ HX7_next_1 U (nI n) L (nI a) f2 (nI k) (nI (k - a)) w2 = (nI a, nI b, if b - a ≤ 3 then 3 else 1, y, 0, L) ∧ (b - a ≤ 3 → x = y) := by
  intro m
  induction m with
  | zero =>
    intro k f1 f2 w1 w2 hm ha hk h1 h2 hw
    obtain ⟨f1, rfl⟩ : ∃ g, f1 = g + 1 := ⟨f1 - 1, by omega⟩
    obtain ⟨f2, rfl⟩ : ∃ g, f2 = g + 1 := ⟨f2 - 1, by omega⟩
    refine ⟨k, w1, w2, Nat.le_refl _, hk, ?_, ?_, fun h => (hw h).1⟩
    · rw [HX3_takeDigits_0_eq, if_pos (nI_le (by omega) (by omega))]
      simp only [lt_]
      rw [nI_sub' ha (by omega)]
      by_cases hc : k - a ≤ 3
      · rw [if_neg (show ¬ (3 : Int32) < nI (k - a) by rw [fz_lt, nI_toInt (by omega), kc_3]; omega), if_pos hc]
      · rw [if_pos (show (3 : Int32) < nI (k - a) by rw [fz_lt, nI_toInt (by omega), kc_3]; omega), if_neg hc]
    · rw [HX7_next_1_eq]
      simp only [lt_]
      rw [see_ge U (by omega) (by omega), isD7_m1, if_pos rfl]
      by_cases hc : k - a ≤ 3
      · rw [if_pos (show nI (k - a) ≤ (3 : Int32) by rw [fz_le, nI_toInt (by omega), kc_3]; omega), if_pos hc]
      · rw [if_neg (show ¬ nI (k - a) ≤ (3 : Int32) by rw [fz_le, nI_toInt (by omega), kc_3]; omega), if_neg hc]
  | succ m ih =>
    intro k f1 f2 w1 w2 hm ha hk h1 h2 hw
    obtain ⟨f1, rfl⟩ : ∃ g, f1 = g + 1 := ⟨f1 - 1, by omega⟩
    obtain ⟨f2, rfl⟩ : ∃ g, f2 = g + 1 := ⟨f2 - 1, by omega⟩
    have hkn : k < n := by omega
    have hTk := hT k hkn
    by_cases hd : 48 ≤ (T k).toInt ∧ (T k).toInt ≤ 57
    · have hU : U k = T k := by rw [fz_eq]; omega
      have k48 : (48 : Int32).toInt = 48 := by decide
      have k10 : (10 : Int32).toInt = 10 := by decide
      obtain ⟨w2', hw2', hinv⟩ : ∃ w2' : Int32, (w2' = if (3 : Int32) ≤ nI (k - a) then w2 else 10 * w2 + T k - 48) ∧ (k + 1 - a ≤ 3 → w1 * 10 + (T k - 48) = w2' ∧ 0 ≤ (w1 * 10 + (T k - 48)).toInt ∧ (w1 * 10 + (T k - 48)).toInt ≤ 999 ∧ (k + 1 - a ≤ 2 → (w1 * 10 + (T k - 48)).toInt ≤ 99) ∧ (k + 1 - a ≤ 1 → (w1 * 10 + (T k - 48)).toInt ≤ 9) ∧ (k + 1 - a = 0 → (w1 * 10 + (T k - 48)).toInt = 0)) := by
        refine ⟨_, rfl, fun h3 => ?_⟩
        obtain ⟨q1, q2, q3, q4, q5, q6⟩ := hw (by omega)
        have q4 := q4 (by omega)
        subst q1
        have e1 : (w1 * 10).toInt = w1.toInt * 10 := by rw [fb_mulI (by rw [k10]; omega) (by rw [k10]; omega), k10]
        have e2 : (T k - 48).toInt = (T k).toInt - 48 := by rw [fb_subI (by rw [k48]; omega) (by rw [k48]; omega), k48]
        have e3 : (w1 * 10 + (T k - 48)).toInt = w1.toInt * 10 + ((T k).toInt - 48) := by rw [fb_addI (by rw [e1, e2]; omega) (by rw [e1, e2]; omega), e1, e2]
        have e4 : (10 * w1).toInt = 10 * w1.toInt := by rw [fb_mulI (by rw [k10]; omega) (by rw [k10]; omega), k10]
        have e5 : (10 * w1 + T k).toInt = 10 * w1.toInt + (T k).toInt := by rw [fb_addI (by rw [e4]; omega) (by rw [e4]; omega), e4]
        have e6 : (10 * w1 + T k - 48).toInt = 10 * w1.toInt + (T k).toInt - 48 := by rw [fb_subI (by rw [e5, k48]; omega) (by rw [e5, k48]; omega), e5, k48]
        rw [if_neg (show ¬ (3 : Int32) ≤ nI (k - a) by rw [fz_le, nI_toInt (by omega), kc_3]; omega), fz_eq, e3, e6]
        refine ⟨by omega, by omega, by omega, fun h => ?_, fun h => ?_, fun h => by omega⟩
        · have := q5 (by omega); omega
        · have := q6 (by omega); omega
      obtain ⟨b, x, y, g1, g2, g3, g4, g5⟩ := ih (k + 1) f1 f2 (w1 * 10 + (T k - 48)) w2' (by omega) (by omega) (by omega) (by omega) (by omega) hinv
      refine ⟨b, x, y, by omega, g2, ?_, ?_, g5⟩
      · rw [HX3_takeDigits_0_eq, if_neg (by rw [nI_leI (by omega) (by omega)]; omega)]
        simp only [lt_]
        rw [byteAt_lt T (by omega), isD_eq, if_pos hd, if_neg (show ¬ (1 : Int32) = 0 by decide), nI_o1]
        exact g3
      · rw [HX7_next_1_eq]
        simp only [lt_]
        rw [see_lt U hkn hn, hU, isD7_eq, if_pos hd, if_neg (show ¬ (1 : Int32) = 0 by decide), nI_o1, nI_o1, show k - a + 1 = k + 1 - a from by omega]
        by_cases h3 : (3 : Int32) ≤ nI (k - a)
        · rw [if_pos h3]
          rw [if_pos h3] at hw2'
          rw [← hw2']; exact g4
        · rw [if_neg h3]
          rw [if_neg h3] at hw2'
          rw [← hw2']; exact g4
    · have hdU : ¬ (48 ≤ (U k).toInt ∧ (U k).toInt ≤ 57) := by omega
      refine ⟨k, w1, w2, Nat.le_refl _, hk, ?_, ?_, fun h => (hw h).1⟩
      · rw [HX3_takeDigits_0_eq, if_neg (by rw [nI_leI (by omega) (by omega)]; omega)]
        simp only [lt_]
        rw [byteAt_lt T (by omega), isD_eq, if_neg hd, if_pos rfl, nI_sub' ha (by omega)]
        by_cases hc : k - a ≤ 3
        · rw [if_neg (show ¬ (3 : Int32) < nI (k - a) by rw [fz_lt, nI_toInt (by omega), kc_3]; omega), if_pos hc]
        · rw [if_pos (show (3 : Int32) < nI (k - a) by rw [fz_lt, nI_toInt (by omega), kc_3]; omega), if_neg hc]
      · rw [HX7_next_1_eq]
        simp only [lt_]
        rw [see_lt U hkn hn, isD7_eq, if_neg hdU, if_pos rfl]
        by_cases hc : k - a ≤ 3
        · rw [if_pos (show nI (k - a) ≤ (3 : Int32) by rw [fz_le, nI_toInt (by omega), kc_3]; omega), if_pos hc]
        · rw [if_neg (show ¬ nI (k - a) ≤ (3 : Int32) by rw [fz_le, nI_toInt (by omega), kc_3]; omega), if_neg hc]
end
section
def KeyC (keys : Nat → Int64) (x : Int64) (key : Int32) : Prop := (key = -1 ∧ ∀ j : Nat, j < 10 → keys j ≠ x) ∨ ∃ j : Nat, j < 10 ∧ key = nI j ∧ keys j = x
theorem key_sim {keys : Nat → Int64} {z : Int32} {x : Int64} : ∀ (m i f : Nat) (acc : Int32), 10 - i = m → i ≤ 10 → m < f → ∃ key, HX3_takeLetters_2 keys z x f (nI i) acc = (1, z, x, key) ∧ ((key = acc ∧ ∀ j : Nat, i ≤ j → j < 10 → keys j ≠ x) ∨ ∃ j : Nat, i ≤ j ∧ j < 10 ∧ key = nI j ∧ keys j = x) := by
  intro m
  induction m with
  | zero =>
    intro i f acc hm hi hf
    obtain ⟨f, rfl⟩ : ∃ g, f = g + 1 := ⟨f - 1, by omega⟩
    refine ⟨acc, ?_, Or.inl ⟨rfl, fun j h1 h2 => by omega⟩⟩
    rw [HX3_takeLetters_2_eq, if_pos (show (10 : Int32) ≤ nI i by rw [fz_le, nI_toInt (by omega), kc_10]; omega)]
  | succ m ih =>
    intro i f acc hm hi hf
    obtain ⟨f, rfl⟩ : ∃ g, f = g + 1 := ⟨f - 1, by omega⟩
    rw [HX3_takeLetters_2_eq, if_neg (show ¬ (10 : Int32) ≤ nI i by rw [fz_le, nI_toInt (by omega), kc_10]; omega)]
    simp only [lt_]
    rw [nI_clamp (by omega), nI_o1]
    by_cases h : keys i = x
    · rw [if_pos ((lg_cmp0 _ _).mpr h)]
      obtain ⟨key, g1, g2⟩ := ih (i + 1) f (nI i) (by omega) (by omega) (by omega)
      refine ⟨key, g1, Or.inr ?_⟩
      rcases g2 with ⟨g2, -⟩ | ⟨j, g2, g3, g4, g5⟩
      · exact ⟨i, Nat.le_refl _, by omega, g2, h⟩
      · exact ⟨j, by omega, g3, g4, g5⟩
    · rw [if_neg (fun q => h ((lg_cmp0 _ _).mp q))]
      obtain ⟨key, g1, g2⟩ := ih (i + 1) f acc (by omega) (by omega) (by omega)
      refine ⟨key, g1, ?_⟩
      rcases g2 with ⟨g2, g3⟩ | ⟨j, g2, g3, g4, g5⟩
      · refine Or.inl ⟨g2, fun j h1 h2 => ?_⟩
        by_cases hj : j = i
        · rw [hj]; exact h
        · exact g3 j (by omega) h2
      · exact Or.inr ⟨j, by omega, g3, g4, g5⟩
theorem let_sim {T U : Nat → Int32} {n a : Nat} {key0 : Int32} {keys : Nat → Int64} (hT : TR T U n) (hn : n ≤ 900) : ∀ (m k f1 f2 : Nat) (x : Int64) (L : Nat → Int32), n - k = m → a ≤ k → k ≤ n → m < f1 → m < f2 → Lets (fun i => T (a + i)) (k - a) → (∀ i : Nat, i < k - a → i < 8 → L i = T (a + i)) → x = lcode (fun i => T (a + i)) (k - a) → ∃ (b : Nat) (M : Nat → Int32), k ≤ b ∧ b ≤ n ∧ Lets (fun i => T (a + i)) (b - a) ∧ HX3_takeLetters_0 T (nI n) (nI a) key0 keys f1 (nI k) x = (if b - a ≤ 8 then HX3_takeLetters_2 keys (nI b) (lcode (fun i => T (a + i)) (b - a)) (((2147483647 - (0 : Int32).toInt).toNat) + 1) 0 key0 else HX3_takeLetters_1 (nI b) (lcode (fun i => T (a + i)) (b - a)) (((2147483647 - (0 : Int32).toInt).toNat) + 1) 0 key0) ∧ HX7_next_2 U (nI n) (nI a) f2 (nI k) (nI (k - a)) L = (nI a, nI b, if b - a ≤ 8 then 2 else 1, 0, nI (b - a), M) ∧ (∀ i : Nat, i < b - a → i < 8 → M i = T (a + i)) ∧ (k < n → 97 ≤ (T k).toInt ∧ (T k).toInt ≤ 122 → k < b) := by
  intro m
  induction m with
  | zero =>
    intro k f1 f2 x L hm ha hk h1 h2 hl hL hx
    obtain ⟨f1, rfl⟩ : ∃ g, f1 = g + 1 := ⟨f1 - 1, by omega⟩
    obtain ⟨f2, rfl⟩ : ∃ g, f2 = g + 1 := ⟨f2 - 1, by omega⟩
    refine ⟨k, L, Nat.le_refl _, hk, hl, ?_, ?_, hL, fun h => absurd h (by omega)⟩
    · rw [HX3_takeLetters_0_eq, if_pos (nI_le (by omega) (by omega))]
      simp only [lt_]
      rw [nI_sub' ha (by omega), ← hx]
      by_cases hc : k - a ≤ 8
      · rw [if_neg (show ¬ (8 : Int32) < nI (k - a) by rw [fz_lt, nI_toInt (by omega), kc_8]; omega), if_pos hc]
      · rw [if_pos (show (8 : Int32) < nI (k - a) by rw [fz_lt, nI_toInt (by omega), kc_8]; omega), if_neg hc]
    · rw [HX7_next_2_eq]
      simp only [lt_]
      rw [see_ge U (by omega) (by omega), isS_m1, if_pos rfl]
      by_cases hc : k - a ≤ 8
      · rw [if_pos (show nI (k - a) ≤ (8 : Int32) by rw [fz_le, nI_toInt (by omega), kc_8]; omega), if_pos hc]
      · rw [if_neg (show ¬ nI (k - a) ≤ (8 : Int32) by rw [fz_le, nI_toInt (by omega), kc_8]; omega), if_neg hc]
  | succ m ih =>
    intro k f1 f2 x L hm ha hk h1 h2 hl hL hx
    obtain ⟨f1, rfl⟩ : ∃ g, f1 = g + 1 := ⟨f1 - 1, by omega⟩
    obtain ⟨f2, rfl⟩ : ∃ g, f2 = g + 1 := ⟨f2 - 1, by omega⟩
    have hkn : k < n := by omega
    have hTk := hT k hkn
    by_cases hd : 97 ≤ (T k).toInt ∧ (T k).toInt ≤ 122
    · have hU : U k = T k := by rw [fz_eq]; omega
      have hka : a + (k - a) = k := by omega
      obtain ⟨L2, hL2, hinv⟩ : ∃ L2 : Nat → Int32, (L2 = if (8 : Int32) ≤ nI (k - a) then L else upd L (k - a) (T k)) ∧ ∀ i : Nat, i < k + 1 - a → i < 8 → L2 i = T (a + i) := by
        refine ⟨_, rfl, fun i hi h8 => ?_⟩
        by_cases h3 : 8 ≤ k - a
        · rw [if_pos (show (8 : Int32) ≤ nI (k - a) by rw [fz_le, nI_toInt (by omega), kc_8]; omega)]; exact hL i (by omega) h8
        · rw [if_neg (show ¬ (8 : Int32) ≤ nI (k - a) by rw [fz_le, nI_toInt (by omega), kc_8]; omega)]
          show (if i = k - a then T k else L i) = T (a + i)
          by_cases hik : i = k - a
          · rw [if_pos hik, hik, hka]
          · rw [if_neg hik]; exact hL i (by omega) h8
      have hl2 : Lets (fun i => T (a + i)) (k + 1 - a) := fun i hi => by
        by_cases hik : i = k - a
        · show 97 ≤ (T (a + i)).toInt ∧ (T (a + i)).toInt ≤ 122
          rw [hik, hka]; exact hd
        · exact hl i (by omega)
      have hx2 : PX3_withLetter x (T k) = lcode (fun i => T (a + i)) (k + 1 - a) := by
        rw [show k + 1 - a = (k - a) + 1 from by omega]
        show PX3_withLetter x (T k) = PX3_withLetter (lcode (fun i => T (a + i)) (k - a)) (T (a + (k - a)))
        rw [hka, hx]
      obtain ⟨b, M, g1, g2, g3, g4, g5, g6, -⟩ := ih (k + 1) f1 f2 (PX3_withLetter x (T k)) L2 (by omega) (by omega) (by omega) (by omega) (by omega) hl2 hinv hx2
      refine ⟨b, M, by omega, g2, g3, ?_, ?_, g6, fun _ _ => by omega⟩
      · rw [HX3_takeLetters_0_eq, if_neg (by rw [nI_leI (by omega) (by omega)]; omega)]
        simp only [lt_]
        rw [byteAt_lt T (by omega), isL_eq, if_pos hd, if_neg (show ¬ (1 : Int32) = 0 by decide), nI_o1]
        exact g4
      · rw [HX7_next_2_eq]
        simp only [lt_]
        rw [see_lt U hkn hn, hU, isS_eq, if_pos hd, if_neg (show ¬ (1 : Int32) = 0 by decide), nI_o1, nI_1, show k - a + 1 = k + 1 - a from by omega, nI_clamp (by omega)]
        by_cases h3 : (8 : Int32) ≤ nI (k - a)
        · rw [if_pos h3]
          rw [if_pos h3] at hL2
          rw [← hL2]; exact g5
        · rw [if_neg h3]
          rw [if_neg h3] at hL2
          rw [← hL2]; exact g5
    · have hdU : ¬ (97 ≤ (U k).toInt ∧ (U k).toInt ≤ 122) := by omega
      refine ⟨k, L, Nat.le_refl _, hk, hl, ?_, ?_, hL, fun _ h => absurd h hd⟩
      · rw [HX3_takeLetters_0_eq, if_neg (by rw [nI_leI (by omega) (by omega)]; omega)]
        simp only [lt_]
        rw [byteAt_lt T (by omega), isL_eq, if_neg hd, if_pos rfl, nI_sub' ha (by omega), ← hx]
        by_cases hc : k - a ≤ 8
        · rw [if_neg (show ¬ (8 : Int32) < nI (k - a) by rw [fz_lt, nI_toInt (by omega), kc_8]; omega), if_pos hc]
        · rw [if_pos (show (8 : Int32) < nI (k - a) by rw [fz_lt, nI_toInt (by omega), kc_8]; omega), if_neg hc]
      · rw [HX7_next_2_eq]
        simp only [lt_]
        rw [see_lt U hkn hn, isS_eq, if_neg hdU, if_pos rfl]
        by_cases hc : k - a ≤ 8
        · rw [if_pos (show nI (k - a) ≤ (8 : Int32) by rw [fz_le, nI_toInt (by omega), kc_8]; omega), if_pos hc]
        · rw [if_neg (show ¬ nI (k - a) ≤ (8 : Int32) by rw [fz_le, nI_toInt (by omega), kc_8]; omega), if_neg hc]
def TokC (keys : Nat → Int64) (a b : Nat) (kd key wh tk w2 ns : Int32) (x : Int64) (L : Nat → Int32) : Prop :=
  (kd = 0 ∧ tk = 0 ∧ key = -1) ∨ (kd = 5 ∧ tk = 1 ∧ key = -1) ∨ (kd = 1 ∧ tk = 2 ∧ ∃ len : Nat, 1 ≤ len ∧ len ≤ 8 ∧ ns = nI len ∧ Lets L len ∧ x = lcode L len ∧ KeyC keys x key) ∨ (kd = 2 ∧ tk = 3 ∧ key = -1 ∧ wh = w2) ∨ (kd = 3 ∧ tk = 59 ∧ key = -1 ∧ b = a + 1) ∨ (kd = 4 ∧ tk = 44 ∧ key = -1 ∧ b = a + 1)
def TokR (keys : Nat → Int64) (n k : Nat) (c : Int32 × Int32 × Int32 × Int64 × Int32 × Int32) (m : Int32 × Int32 × Int32 × Int32 × Int32 × (Nat → Int32)) : Prop := ∃ (a b : Nat) (kd key wh tk w2 ns : Int32) (x : Int64) (L : Nat → Int32), c = (kd, nI a, nI b, x, key, wh) ∧ m = (nI a, nI b, tk, w2, ns, L) ∧ k ≤ a ∧ a ≤ b ∧ b ≤ n ∧ TokC keys a b kd key wh tk w2 ns x L
theorem tok_sim0 {T U : Nat → Int32} {n : Nat} {keys : Nat → Int64} {nm : Int64} {wh : Int32} {L : Nat → Int32} (hT : TR T U n) (hn : n ≤ 900) : ∀ (m k f1 f2 : Nat), n - k = m → k ≤ n → m < f1 → m < f2 → TokR keys n k (HX3_nextToken_0 T (nI n) nm wh keys f1 (nI k)) (HX7_next_0 U (nI n) L f2 (nI k)) := by
  intro m
  induction m with
  | zero =>
    intro k f1 f2 hm hk h1 h2
    obtain ⟨f1, rfl⟩ : ∃ g, f1 = g + 1 := ⟨f1 - 1, by omega⟩
    obtain ⟨f2, rfl⟩ : ∃ g, f2 = g + 1 := ⟨f2 - 1, by omega⟩
    obtain rfl : k = n := by omega
    refine ⟨k, k, 0, -1, wh, 0, 0, 0, nm, L, ?_, ?_, Nat.le_refl _, Nat.le_refl _, Nat.le_refl _, Or.inl ⟨rfl, rfl, rfl⟩⟩
    · rw [HX3_nextToken_0_eq, if_pos (nI_le (by omega) (by omega))]
      simp only [lt_]
      rw [if_neg (by rw [nI_ltI (by omega) (by omega)]; omega)]
    · rw [HX7_next_0_eq]
      simp only [lt_]
      rw [see_ge U (by omega) (by omega), if_neg (show ¬ (-1 : Int32) = 32 by decide), if_pos rfl]
  | succ m ih =>
    intro k f1 f2 hm hk h1 h2
    obtain ⟨f1, rfl⟩ : ∃ g, f1 = g + 1 := ⟨f1 - 1, by omega⟩
    obtain ⟨f2, rfl⟩ : ∃ g, f2 = g + 1 := ⟨f2 - 1, by omega⟩
    have hkn : k < n := by omega
    have hTk := hT k hkn
    have k32 : (32 : Int32).toInt = 32 := by decide
    have k59 : (59 : Int32).toInt = 59 := by decide
    have k44 : (44 : Int32).toInt = 44 := by decide
    rw [HX3_nextToken_0_eq, HX7_next_0_eq, if_neg (by rw [nI_leI (by omega) (by omega)]; omega)]
    simp only [lt_]
    rw [byteAt_lt T (by omega), see_lt U hkn hn, nI_o1, nI_1]
    by_cases hs : (T k).toInt = 32
    · rw [if_pos (show T k = 32 by rw [fz_eq, k32]; exact hs), if_pos (show U k = 32 by rw [fz_eq, k32]; omega)]
      obtain ⟨a, b, kd, key, w1, tk, w2, ns, x, M, g1, g2, g3, g4⟩ := ih (k + 1) f1 f2 (by omega) (by omega) (by omega) (by omega)
      exact ⟨a, b, kd, key, w1, tk, w2, ns, x, M, g1, g2, by omega, g4⟩
    · rw [if_neg (show ¬ T k = 32 by rw [fz_eq, k32]; exact hs), if_neg (show ¬ U k = 32 by rw [fz_eq, k32]; omega), if_pos (nI_lt hkn (by omega)), if_neg (show ¬ U k = -1 by rw [fz_eq, m1_int]; omega), isL_eq, isS_eq]
      by_cases hd : 97 ≤ (T k).toInt ∧ (T k).toInt ≤ 122
      · rw [if_pos hd, if_pos (show 97 ≤ (U k).toInt ∧ (U k).toInt ≤ 122 by omega), if_neg (show ¬ (1 : Int32) = 0 by decide), if_neg (show ¬ (1 : Int32) = 0 by decide), PX3_takeLetters_eq]
        have e0 : nI (k - k) = 0 := by rw [Nat.sub_self]; rfl
        obtain ⟨b, M, g1, g2, g3, g4, g5, g6, g7⟩ := let_sim (a := k) (key0 := -1) (keys := keys) hT hn (n - k) k ((2147483647 - (nI k).toInt).toNat + 1) ((900 - (nI k).toInt).toNat + 1) 0 L rfl (Nat.le_refl _) hk (by rw [nI_toInt (by omega)]; omega) (by rw [nI_toInt (by omega)]; omega) (fun i hi => absurd hi (by omega)) (fun i hi => absurd hi (by omega)) (by rw [Nat.sub_self]; rfl)
        rw [e0] at g5
        have hkb : k < b := g7 hkn hd
        rw [g4, g5]
        by_cases hc : b - k ≤ 8
        · rw [if_pos hc, if_pos hc]
          obtain ⟨key, q1, q2⟩ := key_sim (keys := keys) (z := nI b) (x := lcode (fun i => T (k + i)) (b - k)) 10 0 ((2147483647 - (0 : Int32).toInt).toNat + 1) (-1) rfl (by omega) (by rw [kc_0]; omega)
          rw [nI_0] at q1
          rw [q1]
          have eM : ∀ i : Nat, i < b - k → (fun i => T (k + i)) i = M i := fun i hi => (g6 i hi (by omega)).symm
          refine ⟨k, b, 1, key, wh, 2, 0, nI (b - k), lcode (fun i => T (k + i)) (b - k), M, rfl, rfl, Nat.le_refl _, g1, g2, Or.inr (Or.inr (Or.inl ⟨rfl, rfl, b - k, by omega, hc, rfl, g3.congr eM, lcode_congr eM, ?_⟩))⟩
          rcases q2 with ⟨q2, q3⟩ | ⟨j, q2, q3, q4, q5⟩
          · exact Or.inl ⟨q2, fun j hj => q3 j (Nat.zero_le _) hj⟩
          · exact Or.inr ⟨j, q3, q4, q5⟩
        · rw [if_neg hc, if_neg hc, HX3_takeLetters_1_eq, if_neg (show ¬ (10 : Int32) ≤ 0 by decide)]
          exact ⟨k, b, 5, -1, wh, 1, 0, nI (b - k), lcode (fun i => T (k + i)) (b - k), M, rfl, rfl, Nat.le_refl _, g1, g2, Or.inr (Or.inl ⟨rfl, rfl, rfl⟩)⟩
      · rw [if_neg hd, if_neg (show ¬ (97 ≤ (U k).toInt ∧ (U k).toInt ≤ 122) by omega), if_pos rfl, if_pos rfl, isD_eq, isD7_eq]
        by_cases hg : 48 ≤ (T k).toInt ∧ (T k).toInt ≤ 57
        · rw [if_pos hg, if_pos (show 48 ≤ (U k).toInt ∧ (U k).toInt ≤ 57 by omega), if_neg (show ¬ (1 : Int32) = 0 by decide), if_neg (show ¬ (1 : Int32) = 0 by decide), PX3_takeDigits_eq]
          have e0 : nI (k - k) = 0 := by rw [Nat.sub_self]; rfl
          obtain ⟨b, x, y, g1, g2, g3, g4, g5⟩ := dig_sim (a := k) (L := L) hT hn (n - k) k ((2147483647 - (nI k).toInt).toNat + 1) ((900 - (nI k).toInt).toNat + 1) 0 0 rfl (Nat.le_refl _) hk (by rw [nI_toInt (by omega)]; omega) (by rw [nI_toInt (by omega)]; omega) (fun _ => ⟨rfl, by decide, by decide, fun _ => by decide, fun _ => by decide, fun _ => by decide⟩)
          rw [e0] at g4
          rw [g3, g4]
          by_cases hc : b - k ≤ 3
          · rw [if_pos hc, if_pos hc]
            exact ⟨k, b, 2, -1, x, 3, y, 0, nm, L, rfl, rfl, Nat.le_refl _, g1, g2, Or.inr (Or.inr (Or.inr (Or.inl ⟨rfl, rfl, rfl, g5 hc⟩)))⟩
          · rw [if_neg hc, if_neg hc]
            exact ⟨k, b, 5, -1, x, 1, y, 0, nm, L, rfl, rfl, Nat.le_refl _, g1, g2, Or.inr (Or.inl ⟨rfl, rfl, rfl⟩)⟩
        · rw [if_neg hg, if_neg (show ¬ (48 ≤ (U k).toInt ∧ (U k).toInt ≤ 57) by omega), if_pos rfl, if_pos rfl]
          by_cases h59 : (T k).toInt = 59
          · rw [if_pos (show T k = 59 by rw [fz_eq, k59]; exact h59), if_pos (show U k = 59 by rw [fz_eq, k59]; omega)]
            exact ⟨k, k + 1, 3, -1, wh, U k, 0, 0, nm, L, rfl, rfl, Nat.le_refl _, by omega, by omega, Or.inr (Or.inr (Or.inr (Or.inr (Or.inl ⟨rfl, by rw [fz_eq, k59]; omega, rfl, by omega⟩))))⟩
          · rw [if_neg (show ¬ T k = 59 by rw [fz_eq, k59]; exact h59), if_neg (show ¬ U k = 59 by rw [fz_eq, k59]; omega)]
            by_cases h44 : (T k).toInt = 44
            · rw [if_pos (show T k = 44 by rw [fz_eq, k44]; exact h44), if_pos (show U k = 44 by rw [fz_eq, k44]; omega)]
              exact ⟨k, k + 1, 4, -1, wh, U k, 0, 0, nm, L, rfl, rfl, Nat.le_refl _, by omega, by omega, Or.inr (Or.inr (Or.inr (Or.inr (Or.inr ⟨rfl, by rw [fz_eq, k44]; omega, rfl, by omega⟩))))⟩
            · rw [if_neg (show ¬ T k = 44 by rw [fz_eq, k44]; exact h44), if_neg (show ¬ U k = 44 by rw [fz_eq, k44]; omega)]
              exact ⟨k, k + 1, 5, -1, wh, 1, 0, 0, nm, L, rfl, rfl, Nat.le_refl _, by omega, by omega, Or.inr (Or.inl ⟨rfl, rfl, rfl⟩)⟩
theorem tok_sim {T U : Nat → Int32} {n k : Nat} {keys : Nat → Int64} {nm : Int64} {wh : Int32} {L : Nat → Int32} (hT : TR T U n) (hn : n ≤ 900) (hk : k ≤ n) : TokR keys n k (PX3_nextToken T (nI n) (nI k) nm wh keys) (PX7_next U (nI n) (nI k) L) := by
  rw [PX3_nextToken_eq, PX7_next_eq]
  exact tok_sim0 hT hn (n - k) k _ _ rfl hk (by rw [nI_toInt (by omega)]; omega) (by rw [nI_toInt (by omega)]; omega)
end
section
/-! the keywords -/
theorem chr_id {c : Int32} (h : 97 ≤ c.toInt ∧ c.toInt ≤ 122) : chr_ c = c := by
  have e : c = Int32.ofInt c.toInt := (Int32.ofInt_toInt c).symm
  generalize c.toInt = z at e h
  subst e
  rcases (show z = 97 ∨ z = 98 ∨ z = 99 ∨ z = 100 ∨ z = 101 ∨ z = 102 ∨ z = 103 ∨ z = 104 ∨ z = 105 ∨ z = 106 ∨ z = 107 ∨ z = 108 ∨ z = 109 ∨ z = 110 ∨ z = 111 ∨ z = 112 ∨ z = 113 ∨ z = 114 ∨ z = 115 ∨ z = 116 ∨ z = 117 ∨ z = 118 ∨ z = 119 ∨ z = 120 ∨ z = 121 ∨ z = 122 by omega) with rfl | rfl | rfl | rfl | rfl | rfl | rfl | rfl | rfl | rfl | rfl | rfl | rfl | rfl | rfl | rfl | rfl | rfl | rfl | rfl | rfl | rfl | rfl | rfl | rfl | rfl <;> decide +kernel
/-- the words that lines begin with, and two more, as the class numbers them -/
def kwL (i : Nat) : List Int32 := ([[119, 111, 114, 100], [107, 105, 110, 103], [113, 117, 101, 101, 110], [99, 104, 97, 110, 99, 101], [99, 111, 117, 114, 116], [116, 104, 114, 111, 110, 101], [117, 110, 115, 117, 114, 101], [115, 97, 105, 100], [115, 108, 105, 112, 115], [119, 111, 114, 116, 104]] : List (List Int32)).getD i []
def kwF (i : Nat) : Nat → Int32 := fun j => (kwL i).getD j 0
def KwOk (keys : Nat → Int64) : Prop := ∀ i : Nat, i < 10 → keys i = lcode (kwF i) (kwL i).length
theorem kw_lets {i : Nat} (hi : i < 10) : Lets (kwF i) (kwL i).length ∧ 1 ≤ (kwL i).length ∧ (kwL i).length ≤ 8 := by
  unfold Lets
  rcases (show i = 0 ∨ i = 1 ∨ i = 2 ∨ i = 3 ∨ i = 4 ∨ i = 5 ∨ i = 6 ∨ i = 7 ∨ i = 8 ∨ i = 9 by omega) with rfl | rfl | rfl | rfl | rfl | rfl | rfl | rfl | rfl | rfl <;> decide +kernel
theorem kw_ne {i j : Nat} (hi : i < 10) (hj : j < 10) (h : lnum (kwF i) (kwL i).length = lnum (kwF j) (kwL j).length) : i = j := by
  have key : ∀ i : Nat, i < 10 → ∀ j : Nat, j < 10 → lnum (kwF i) (kwL i).length = lnum (kwF j) (kwL j).length → i = j := by decide +kernel
  exact key i hi j hj h
theorem kw_inj {keys : Nat → Int64} (hK : KwOk keys) {i j : Nat} (hi : i < 10) (hj : j < 10) (h : keys i = keys j) : i = j := by
  obtain ⟨a1, a2, a3⟩ := kw_lets hi
  obtain ⟨b1, b2, b3⟩ := kw_lets hj
  rw [hK i hi, hK j hj] at h
  have q := congrArg Int64.toInt h
  rw [lcode_int a3 a1, lcode_int b3 b1] at q
  exact kw_ne hi hj (by omega)
theorem kwc_iff {keys : Nat → Int64} (hK : KwOk keys) {x : Int64} {key : Int32} (h : KeyC keys x key) {i : Nat} (hi : i < 10) : key = nI i ↔ keys i = x := by
  rcases h with ⟨h1, h2⟩ | ⟨j, h1, h2, h3⟩
  · constructor
    · intro e
      have q := congrArg Int32.toInt (h1.symm.trans e)
      rw [nI_toInt (by omega), m1_int] at q
      omega
    · intro e; exact absurd e (h2 i hi)
  · constructor
    · intro e
      have q : j = i := (nI_eq (by omega) (by omega)).mp (h2.symm.trans e)
      rw [← q]; exact h3
    · intro e
      rw [h2, kw_inj hK hi h1 (e.trans h3.symm)]
theorem isW_loop {L sF : Nat → Int32} {len : Nat} (hl : len ≤ 8) : ∀ (m k f : Nat) (b : Int32), len - k = m → k ≤ len → m < f → (b = 0 ∨ b = 1) → ∃ r : Int32, HX7_isWord_0 (nI len) L sF f (nI k) b = r ∧ (r = 0 ∨ r = 1) ∧ (r = 1 ↔ b = 1 ∧ ∀ i : Nat, k ≤ i → i < len → L i = chr_ (sF i)) := by
  intro m
  induction m with
  | zero =>
    intro k f b hm hk hf hb
    obtain ⟨f, rfl⟩ : ∃ g, f = g + 1 := ⟨f - 1, by omega⟩
    refine ⟨b, ?_, hb, fun h => ⟨h, fun i h1 h2 => absurd h2 (by omega)⟩, fun h => h.1⟩
    rw [HX7_isWord_0_eq, if_pos (nI_le (by omega) (by omega))]
  | succ m ih =>
    intro k f b hm hk hf hb
    obtain ⟨f, rfl⟩ : ∃ g, f = g + 1 := ⟨f - 1, by omega⟩
    rw [HX7_isWord_0_eq, if_neg (by rw [nI_leI (by omega) (by omega)]; omega)]
    simp only [lt_]
    rw [nI_clamp (by omega), nI_o1]
    rcases hb with rfl | rfl
    · rw [if_pos rfl]
      obtain ⟨r, g1, g2, g3⟩ := ih (k + 1) f 0 (by omega) (by omega) (by omega) (Or.inl rfl)
      refine ⟨r, g1, g2, fun h => absurd (g3.mp h).1 (by decide), fun h => absurd h.1 (by decide)⟩
    · rw [if_neg (by decide)]
      by_cases he : L k = chr_ (sF k)
      · rw [if_pos he]
        obtain ⟨r, g1, g2, g3⟩ := ih (k + 1) f 1 (by omega) (by omega) (by omega) (Or.inr rfl)
        refine ⟨r, g1, g2, fun h => ⟨rfl, fun i h1 h2 => ?_⟩, fun h => g3.mpr ⟨rfl, fun i h1 h2 => h.2 i (by omega) h2⟩⟩
        by_cases hi : i = k
        · rw [hi]; exact he
        · exact (g3.mp h).2 i (by omega) h2
      · rw [if_neg he]
        obtain ⟨r, g1, g2, g3⟩ := ih (k + 1) f 0 (by omega) (by omega) (by omega) (Or.inl rfl)
        refine ⟨r, g1, g2, fun h => absurd (g3.mp h).1 (by decide), fun h => absurd (h.2 k (Nat.le_refl _) (by omega)) he⟩
theorem isW_iff {keys : Nat → Int64} (hK : KwOk keys) {a b : Nat} {kd key wh tk w2 ns : Int32} {x : Int64} {L : Nat → Int32} (hC : TokC keys a b kd key wh tk w2 ns x L) {i : Nat} (hi : i < 10) : PX7_isWord tk ns L 0 (kwL i).length (kwF i) = if key = nI i then 1 else 0 := by
  obtain ⟨k1, k2, k3⟩ := kw_lets hi
  have nk : ∀ {q : Int32}, q = -1 → ¬ q = nI i := fun {q} e1 e2 => by
    have h := congrArg Int32.toInt (e1.symm.trans e2)
    rw [nI_toInt (by omega), m1_int] at h
    omega
  rw [PX7_isWord_eq, if_pos rfl]
  rcases hC with ⟨-, h2, h3⟩ | ⟨-, h2, h3⟩ | ⟨-, h2, len, l1, l2, l3, l4, l5, l6⟩ | ⟨-, h2, h3, -⟩ | ⟨-, h2, h3, -⟩ | ⟨-, h2, h3, -⟩
  · rw [h2, if_neg (by decide), if_neg (nk h3)]
  · rw [h2, if_neg (by decide), if_neg (nk h3)]
  · rw [h2, if_pos rfl]
    simp only [lt_]
    rw [l3]
    by_cases he : nI len = nI (kwL i).length
    · rw [if_pos he]
      have hlen : len = (kwL i).length := (nI_eq (by omega) (by omega)).mp he
      obtain ⟨r, g1, g2, g3⟩ := isW_loop (L := L) (sF := kwF i) l2 len 0 (((nI len).toInt - (0 : Int32).toInt).toNat + 1) 1 rfl (by omega) (by rw [nI_toInt (by omega), kc_0]; omega) (Or.inr rfl)
      rw [nI_0] at g1
      rw [g1]
      by_cases hq : key = nI i
      · rw [if_pos hq]
        refine g3.mpr ⟨rfl, fun j _ hj => ?_⟩
        have e1 := (kwc_iff hK l6 hi).mp hq
        rw [hK i hi, l5] at e1
        obtain ⟨-, e2⟩ := lcode_inj k3 l2 k1 l4 e1
        have hj2 : j < (kwL i).length := by omega
        rw [chr_id (k1 j hj2), e2 j hj2]
      · rw [if_neg hq]
        rcases g2 with g2 | g2
        · exact g2
        · refine absurd ((kwc_iff hK l6 hi).mpr ?_) hq
          rw [hK i hi, l5, ← hlen]
          refine lcode_congr (fun j hj => ?_)
          rw [(g3.mp g2).2 j (Nat.zero_le _) hj, chr_id (k1 j (by omega))]
    · rw [if_neg he]
      by_cases hq : key = nI i
      · exfalso
        have e1 := (kwc_iff hK l6 hi).mp hq
        rw [hK i hi, l5] at e1
        obtain ⟨e2, -⟩ := lcode_inj k3 l2 k1 l4 e1
        exact he (by rw [e2])
      · rw [if_neg hq]
  · rw [h2, if_neg (by decide), if_neg (nk h3)]
  · rw [h2, if_neg (by decide), if_neg (nk h3)]
  · rw [h2, if_neg (by decide), if_neg (nk h3)]
theorem isW_0 {keys : Nat → Int64} (hK : KwOk keys) {a b : Nat} {kd key wh tk w2 ns : Int32} {x : Int64} {L : Nat → Int32} (hC : TokC keys a b kd key wh tk w2 ns x L) : PX7_isWord tk ns L 0 4 (fun j => ([119, 111, 114, 100] : List Int32).getD j 0) = if key = nI 0 then 1 else 0 := isW_iff hK hC (i := 0) (by decide)
theorem isW_1 {keys : Nat → Int64} (hK : KwOk keys) {a b : Nat} {kd key wh tk w2 ns : Int32} {x : Int64} {L : Nat → Int32} (hC : TokC keys a b kd key wh tk w2 ns x L) : PX7_isWord tk ns L 0 4 (fun j => ([107, 105, 110, 103] : List Int32).getD j 0) = if key = nI 1 then 1 else 0 := isW_iff hK hC (i := 1) (by decide)
theorem isW_2 {keys : Nat → Int64} (hK : KwOk keys) {a b : Nat} {kd key wh tk w2 ns : Int32} {x : Int64} {L : Nat → Int32} (hC : TokC keys a b kd key wh tk w2 ns x L) : PX7_isWord tk ns L 0 5 (fun j => ([113, 117, 101, 101, 110] : List Int32).getD j 0) = if key = nI 2 then 1 else 0 := isW_iff hK hC (i := 2) (by decide)
theorem isW_3 {keys : Nat → Int64} (hK : KwOk keys) {a b : Nat} {kd key wh tk w2 ns : Int32} {x : Int64} {L : Nat → Int32} (hC : TokC keys a b kd key wh tk w2 ns x L) : PX7_isWord tk ns L 0 6 (fun j => ([99, 104, 97, 110, 99, 101] : List Int32).getD j 0) = if key = nI 3 then 1 else 0 := isW_iff hK hC (i := 3) (by decide)
theorem isW_4 {keys : Nat → Int64} (hK : KwOk keys) {a b : Nat} {kd key wh tk w2 ns : Int32} {x : Int64} {L : Nat → Int32} (hC : TokC keys a b kd key wh tk w2 ns x L) : PX7_isWord tk ns L 0 5 (fun j => ([99, 111, 117, 114, 116] : List Int32).getD j 0) = if key = nI 4 then 1 else 0 := isW_iff hK hC (i := 4) (by decide)
theorem isW_5 {keys : Nat → Int64} (hK : KwOk keys) {a b : Nat} {kd key wh tk w2 ns : Int32} {x : Int64} {L : Nat → Int32} (hC : TokC keys a b kd key wh tk w2 ns x L) : PX7_isWord tk ns L 0 6 (fun j => ([116, 104, 114, 111, 110, 101] : List Int32).getD j 0) = if key = nI 5 then 1 else 0 := isW_iff hK hC (i := 5) (by decide)
theorem isW_6 {keys : Nat → Int64} (hK : KwOk keys) {a b : Nat} {kd key wh tk w2 ns : Int32} {x : Int64} {L : Nat → Int32} (hC : TokC keys a b kd key wh tk w2 ns x L) : PX7_isWord tk ns L 0 6 (fun j => ([117, 110, 115, 117, 114, 101] : List Int32).getD j 0) = if key = nI 6 then 1 else 0 := isW_iff hK hC (i := 6) (by decide)
theorem isW_7 {keys : Nat → Int64} (hK : KwOk keys) {a b : Nat} {kd key wh tk w2 ns : Int32} {x : Int64} {L : Nat → Int32} (hC : TokC keys a b kd key wh tk w2 ns x L) : PX7_isWord tk ns L 0 4 (fun j => ([115, 97, 105, 100] : List Int32).getD j 0) = if key = nI 7 then 1 else 0 := isW_iff hK hC (i := 7) (by decide)
theorem isW_8 {keys : Nat → Int64} (hK : KwOk keys) {a b : Nat} {kd key wh tk w2 ns : Int32} {x : Int64} {L : Nat → Int32} (hC : TokC keys a b kd key wh tk w2 ns x L) : PX7_isWord tk ns L 0 5 (fun j => ([115, 108, 105, 112, 115] : List Int32).getD j 0) = if key = nI 8 then 1 else 0 := isW_iff hK hC (i := 8) (by decide)
theorem isW_9 {keys : Nat → Int64} (hK : KwOk keys) {a b : Nat} {kd key wh tk w2 ns : Int32} {x : Int64} {L : Nat → Int32} (hC : TokC keys a b kd key wh tk w2 ns x L) : PX7_isWord tk ns L 0 5 (fun j => ([119, 111, 114, 116, 104] : List Int32).getD j 0) = if key = nI 9 then 1 else 0 := isW_iff hK hC (i := 9) (by decide)
theorem lk_eq (key : Int32) : PX3_isLineKey key = if 0 ≤ key.toInt ∧ key.toInt ≤ 7 then 1 else 0 := by
  rw [PX3_isLineKey_eq]
  by_cases h1 : key < 0
  · rw [if_pos h1, if_neg (by rw [fz_lt, kc_0] at h1; omega)]
  · rw [if_neg h1]
    by_cases h2 : 7 < key
    · rw [if_pos h2, if_neg (by rw [fz_lt, kc_7] at h2; omega)]
    · rw [if_neg h2, if_pos (by rw [fz_lt, kc_0] at h1; rw [fz_lt, kc_7] at h2; omega)]
theorem lk_nI {i : Nat} (hi : i < 8) : PX3_isLineKey (nI i) = 1 := by
  rw [lk_eq, if_pos (by rw [nI_toInt (by omega)]; omega)]
theorem lk_of {keys : Nat → Int64} {x : Int64} {key : Int32} (h : KeyC keys x key) (hn : ∀ i : Nat, i < 8 → ¬ key = nI i) : PX3_isLineKey key = 0 := by
  rw [lk_eq]
  rcases h with ⟨h1, -⟩ | ⟨j, h1, h2, -⟩
  · rw [h1, if_neg (by rw [m1_int]; omega)]
  · rw [h2, if_neg (by rw [nI_toInt (by omega)]; intro q; exact hn j (by omega) h2)]
theorem wr0 (fa pl q at' : Int32) : PX7_wrong fa pl 0 q at' = (q, at', 1) := by rw [PX7_wrong_eq, if_pos rfl]
theorem mn_eq {keys : Nat → Int64} (hK : KwOk keys) {a b : Nat} {kd key wh tk w2 ns : Int32} {x : Int64} {L : Nat → Int32} (hC : TokC keys a b kd key wh tk w2 ns x L) {fa pl at7 : Int32} : PX7_mustName at7 tk ns fa pl L 0 = if kd = 1 ∧ PX3_isLineKey key = 0 then (fa, pl, 0) else (1, at7, 1) := by
  have hC0 := hC
  rw [PX7_mustName_eq]
  rcases hC with ⟨h1, h2, h3⟩ | ⟨h1, h2, h3⟩ | ⟨h1, h2, len, l1, l2, l3, l4, l5, l6⟩ | ⟨h1, h2, h3, -⟩ | ⟨h1, h2, h3, -⟩ | ⟨h1, h2, h3, -⟩
  · rw [h2, if_neg (by decide), wr0, if_neg (by rw [h1]; intro q; exact absurd q.1 (by decide))]; rfl
  · rw [h2, if_neg (by decide), wr0, if_neg (by rw [h1]; intro q; exact absurd q.1 (by decide))]; rfl
  · rw [if_pos h2]
    simp only [lt_]
    rw [isW_4 hK hC0, isW_0 hK hC0, isW_1 hK hC0, isW_2 hK hC0, isW_3 hK hC0, isW_5 hK hC0, isW_6 hK hC0, isW_7 hK hC0]
    by_cases c4 : key = nI 4
    · rw [if_pos c4, if_neg (by decide), wr0, if_neg (by rw [c4, lk_nI (by decide)]; intro q; exact absurd q.2 (by decide))]; rfl
    rw [if_neg c4, if_pos rfl]
    by_cases c0 : key = nI 0
    · rw [if_pos c0, if_neg (by decide), wr0, if_neg (by rw [c0, lk_nI (by decide)]; intro q; exact absurd q.2 (by decide))]; rfl
    rw [if_neg c0, if_pos rfl]
    by_cases c1 : key = nI 1
    · rw [if_pos c1, if_neg (by decide), wr0, if_neg (by rw [c1, lk_nI (by decide)]; intro q; exact absurd q.2 (by decide))]; rfl
    rw [if_neg c1, if_pos rfl]
    by_cases c2 : key = nI 2
    · rw [if_pos c2, if_neg (by decide), wr0, if_neg (by rw [c2, lk_nI (by decide)]; intro q; exact absurd q.2 (by decide))]; rfl
    rw [if_neg c2, if_pos rfl]
    by_cases c3 : key = nI 3
    · rw [if_pos c3, if_neg (by decide), wr0, if_neg (by rw [c3, lk_nI (by decide)]; intro q; exact absurd q.2 (by decide))]; rfl
    rw [if_neg c3, if_pos rfl]
    by_cases c5 : key = nI 5
    · rw [if_pos c5, if_neg (by decide), wr0, if_neg (by rw [c5, lk_nI (by decide)]; intro q; exact absurd q.2 (by decide))]; rfl
    rw [if_neg c5, if_pos rfl]
    by_cases c6 : key = nI 6
    · rw [if_pos c6, if_neg (by decide), wr0, if_neg (by rw [c6, lk_nI (by decide)]; intro q; exact absurd q.2 (by decide))]; rfl
    rw [if_neg c6, if_pos rfl]
    by_cases c7 : key = nI 7
    · rw [if_pos c7, if_neg (by decide), wr0, if_neg (by rw [c7, lk_nI (by decide)]; intro q; exact absurd q.2 (by decide))]; rfl
    rw [if_neg c7, if_pos rfl]
    rw [if_pos ⟨h1, lk_of l6 (fun i hi => by rcases (show i = 0 ∨ i = 1 ∨ i = 2 ∨ i = 3 ∨ i = 4 ∨ i = 5 ∨ i = 6 ∨ i = 7 by omega) with rfl | rfl | rfl | rfl | rfl | rfl | rfl | rfl <;> assumption)⟩]
  · rw [h2, if_neg (by decide), wr0, if_neg (by rw [h1]; intro q; exact absurd q.1 (by decide))]; rfl
  · rw [h2, if_neg (by decide), wr0, if_neg (by rw [h1]; intro q; exact absurd q.1 (by decide))]; rfl
  · rw [h2, if_neg (by decide), wr0, if_neg (by rw [h1]; intro q; exact absurd q.1 (by decide))]; rfl
end
section
/-! the told names on both sides -/
theorem cl_add {c : Nat} {z : Int32} {k : Nat} (hz : z.toInt = (c : Int)) (h : c + k < 2 ^ 31) : (z + nI k).toNatClampNeg = c + k := by
  have e : (z + nI k).toInt = ((c + k : Nat) : Int) := by
    rw [fb_addI (by rw [hz, nI_toInt (by omega)]; omega) (by rw [hz, nI_toInt (by omega)]; omega), hz, nI_toInt (by omega)]
    omega
  have q := ti_cl e (by omega)
  omega
theorem cl_143 {k j : Nat} (hk : k < 18) (hj : j < 9) : ((143 : Int32) + (8 : Int32) * nI k + nI j).toNatClampNeg = 143 + 8 * k + j := by
  have e1 : ((8 : Int32) * nI k).toInt = 8 * (k : Int) := by
    rw [fb_mulI (by rw [kc_8, nI_toInt (by omega)]; omega) (by rw [kc_8, nI_toInt (by omega)]; omega), kc_8, nI_toInt (by omega)]
  have e2 : ((143 : Int32) + (8 : Int32) * nI k).toInt = ((143 + 8 * k : Nat) : Int) := by
    have h143 : (143 : Int32).toInt = 143 := by decide
    rw [fb_addI (by rw [h143, e1]; omega) (by rw [h143, e1]; omega), h143, e1]
    omega
  exact cl_add e2 (by omega)
theorem cl_125 {k : Nat} (hk : k < 18) : ((125 : Int32) + nI k).toNatClampNeg = 125 + k := cl_add (c := 125) (by decide) (by omega)
def NamesR (names : Nat → Int64) (fr : Nat → Int32) (N : Nat) : Prop := (∀ k : Nat, k < N → ∃ len : Nat, 1 ≤ len ∧ len ≤ 8 ∧ fr (125 + k) = nI len ∧ Lets (fun i => fr (143 + 8 * k + i)) len ∧ names k = lcode (fun i => fr (143 + 8 * k + i)) len) ∧ ∀ k : Nat, N ≤ k → k < 18 → fr (125 + k) = 0
theorem find1 {fr L : Nat → Int32} {len k : Nat} {K : Int32 → Int32} (hl : len ≤ 8) (hk : k < 18) : ∀ (m j f : Nat) (b : Int32), len - j = m → j ≤ len → m < f → (b = 0 → HX7_find_1 (nI len) L fr (nI k) K f (nI j) b = K (nI (k + 1))) ∧ (b = 1 → ((∀ i : Nat, j ≤ i → i < len → fr (143 + 8 * k + i) = L i) → HX7_find_1 (nI len) L fr (nI k) K f (nI j) b = nI k) ∧ ((¬ ∀ i : Nat, j ≤ i → i < len → fr (143 + 8 * k + i) = L i) → HX7_find_1 (nI len) L fr (nI k) K f (nI j) b = K (nI (k + 1)))) := by
  intro m
  induction m with
  | zero =>
    intro j f b hm hj hf
    obtain ⟨f, rfl⟩ : ∃ g, f = g + 1 := ⟨f - 1, by omega⟩
    rw [HX7_find_1_eq, if_pos (nI_le (by omega) (by omega))]
    simp only [lt_]
    rw [nI_o1]
    refine ⟨fun h => by rw [h, if_pos rfl], fun h => ⟨fun _ => by rw [h, if_neg (show ¬ (1 : Int32) = 0 by decide)], fun q => absurd (fun i h1 h2 => absurd h2 (by omega)) q⟩⟩
  | succ m ih =>
    intro j f b hm hj hf
    obtain ⟨f, rfl⟩ : ∃ g, f = g + 1 := ⟨f - 1, by omega⟩
    rw [HX7_find_1_eq, if_neg (by rw [nI_leI (by omega) (by omega)]; omega)]
    simp only [lt_]
    rw [cl_143 hk (by omega), nI_clamp (by omega), nI_o1, nI_o1]
    refine ⟨fun h => by rw [h, if_pos rfl, if_pos rfl], fun h => ?_⟩
    rw [h, if_neg (show ¬ (1 : Int32) = 0 by decide)]
    by_cases he : fr (143 + 8 * k + j) = L j
    · rw [if_pos he]
      obtain ⟨-, g⟩ := ih (j + 1) f 1 (by omega) (by omega) (by omega)
      obtain ⟨g1, g2⟩ := g rfl
      refine ⟨fun q => g1 (fun i h1 h2 => q i (by omega) h2), fun q => g2 (fun q2 => q (fun i h1 h2 => ?_))⟩
      by_cases hi : i = j
      · rw [hi]; exact he
      · exact q2 i (by omega) h2
    · rw [if_neg he]
      obtain ⟨g, -⟩ := ih (j + 1) f 0 (by omega) (by omega) (by omega)
      exact ⟨fun q => absurd (q j (Nat.le_refl _) (by omega)) he, fun _ => g rfl⟩
theorem find0 {names : Nat → Int64} {fr L : Nat → Int32} {len N : Nat} {x : Int64} (hN : N ≤ 18) (hR : NamesR names fr N) (l1 : 1 ≤ len) (l2 : len ≤ 8) (l4 : Lets L len) (l5 : x = lcode L len) : ∀ (m k f1 f2 : Nat), 18 - k = m → k ≤ 18 → m < f1 → m < f2 → HX7_find_0 (nI len) L fr f2 (nI k) = HX3_toldNode_0 x names (nI N) f1 (nI k) := by
  have k18 : (18 : Int32).toInt = 18 := by decide
  intro m
  induction m with
  | zero =>
    intro k f1 f2 hm hk h1 h2
    obtain ⟨f1, rfl⟩ : ∃ g, f1 = g + 1 := ⟨f1 - 1, by omega⟩
    obtain ⟨f2, rfl⟩ : ∃ g, f2 = g + 1 := ⟨f2 - 1, by omega⟩
    rw [HX7_find_0_eq, HX3_toldNode_0_eq, if_pos (show (18 : Int32) ≤ nI k by rw [fz_le, k18, nI_toInt (by omega)]; omega), if_pos (nI_le (by omega) (by omega))]
  | succ m ih =>
    intro k f1 f2 hm hk h1 h2
    obtain ⟨f1, rfl⟩ : ∃ g, f1 = g + 1 := ⟨f1 - 1, by omega⟩
    obtain ⟨f2, rfl⟩ : ∃ g, f2 = g + 1 := ⟨f2 - 1, by omega⟩
    have hk18 : k < 18 := by omega
    have hfu : len < ((nI len).toInt - (0 : Int32).toInt).toNat + 1 := by rw [nI_toInt (by omega), kc_0]; omega
    rw [HX7_find_0_eq, if_neg (show ¬ (18 : Int32) ≤ nI k by rw [fz_le, k18, nI_toInt (by omega)]; omega)]
    simp only [lt_]
    rw [cl_125 hk18]
    rcases Nat.lt_or_ge k N with hkN | hkN
    · obtain ⟨len2, n1, n2, n3, n4, n5⟩ := hR.1 k hkN
      rw [HX3_toldNode_0_eq, if_neg (show ¬ nI N ≤ nI k by rw [nI_leI (by omega) (by omega)]; omega)]
      simp only [lt_]
      rw [nI_clamp (by omega), nI_o1, n3, if_neg (nI_nle (by omega) (by omega))]
      by_cases he : nI len2 = nI len
      · rw [if_pos he]
        have hlen : len2 = len := (nI_eq (by omega) (by omega)).mp he
        obtain ⟨-, g⟩ := find1 (fr := fr) (L := L) (K := fun z => HX7_find_0 (nI len) L fr f2 z) l2 hk18 len 0 (((nI len).toInt - (0 : Int32).toInt).toNat + 1) 1 rfl (by omega) hfu
        obtain ⟨g1, g2⟩ := g rfl
        rw [nI_0] at g1 g2
        by_cases hq : names k = x
        · rw [if_pos ((lg_cmp0 _ _).mpr hq)]
          refine g1 (fun i _ hi => ?_)
          rw [n5, l5] at hq
          exact (lcode_inj n2 l2 n4 l4 hq).2 i (by omega)
        · rw [if_neg (fun q => hq ((lg_cmp0 _ _).mp q))]
          rw [← ih (k + 1) f1 f2 (by omega) (by omega) (by omega) (by omega)]
          refine g2 (fun q => hq ?_)
          rw [n5, l5, hlen]
          exact lcode_congr (fun i hi => q i (Nat.zero_le _) hi)
      · rw [if_neg he]
        obtain ⟨g, -⟩ := find1 (fr := fr) (L := L) (K := fun z => HX7_find_0 (nI len) L fr f2 z) l2 hk18 len 0 (((nI len).toInt - (0 : Int32).toInt).toNat + 1) 0 rfl (by omega) hfu
        have g := g rfl
        rw [nI_0] at g
        have hq : ¬ names k = x := fun hq => he (by rw [n5, l5] at hq; rw [(lcode_inj n2 l2 n4 l4 hq).1])
        rw [if_neg (fun q => hq ((lg_cmp0 _ _).mp q)), ← ih (k + 1) f1 f2 (by omega) (by omega) (by omega) (by omega)]
        exact g
    · rw [hR.2 k hkN hk18, if_pos (by decide)]
      obtain ⟨g, -⟩ := find1 (fr := fr) (L := L) (K := fun z => HX7_find_0 (nI len) L fr f2 z) l2 hk18 len 0 (((nI len).toInt - (0 : Int32).toInt).toNat + 1) 0 rfl (by omega) hfu
      have g := g rfl
      rw [nI_0] at g
      refine g.trans ?_
      show HX7_find_0 (nI len) L fr f2 (nI (k + 1)) = _
      rw [ih (k + 1) (f1 + 1) f2 (by omega) (by omega) (by omega) (by omega), HX3_toldNode_0_eq, HX3_toldNode_0_eq, if_pos (nI_le (by omega) (by omega)), if_pos (nI_le (by omega) (by omega))]
theorem find_eq {names : Nat → Int64} {fr L : Nat → Int32} {len N : Nat} {x : Int64} (hN : N ≤ 18) (hR : NamesR names fr N) (l1 : 1 ≤ len) (l2 : len ≤ 8) (l4 : Lets L len) (l5 : x = lcode L len) : PX7_find (nI len) L fr = PX3_toldNode x names (nI N) := by
  rw [PX7_find_eq, PX3_toldNode_eq]
  have h := find0 hN hR l1 l2 l4 l5 18 0 ((2147483647 - (0 : Int32).toInt).toNat + 1) ((18 - (0 : Int32).toInt).toNat + 1) rfl (by omega) (by rw [kc_0]; omega) (by rw [kc_0]; omega)
  rw [nI_0] at h
  exact h
/-- what the told node's number is -/
theorem told_val {names : Nat → Int64} {N : Nat} {x : Int64} (hN : N ≤ 18) : ∀ (m k f : Nat), N - k = m → k ≤ N → m < f → (HX3_toldNode_0 x names (nI N) f (nI k) = -1) ∨ ∃ j : Nat, k ≤ j ∧ j < N ∧ HX3_toldNode_0 x names (nI N) f (nI k) = nI j := by
  intro m
  induction m with
  | zero =>
    intro k f hm hk hf
    obtain ⟨f, rfl⟩ : ∃ g, f = g + 1 := ⟨f - 1, by omega⟩
    rw [HX3_toldNode_0_eq, if_pos (nI_le (by omega) (by omega))]
    exact Or.inl rfl
  | succ m ih =>
    intro k f hm hk hf
    obtain ⟨f, rfl⟩ : ∃ g, f = g + 1 := ⟨f - 1, by omega⟩
    rw [HX3_toldNode_0_eq, if_neg (by rw [nI_leI (by omega) (by omega)]; omega)]
    simp only [lt_]
    rw [nI_clamp (by omega), nI_o1]
    by_cases h : names k = x
    · rw [if_pos ((lg_cmp0 _ _).mpr h)]; exact Or.inr ⟨k, Nat.le_refl _, by omega, rfl⟩
    · rw [if_neg (fun q => h ((lg_cmp0 _ _).mp q))]
      rcases ih (k + 1) f (by omega) (by omega) (by omega) with g | ⟨j, g1, g2, g3⟩
      · exact Or.inl g
      · exact Or.inr ⟨j, by omega, g2, g3⟩
theorem told_num {names : Nat → Int64} {N : Nat} {x : Int64} (hN : N ≤ 18) : PX3_toldNode x names (nI N) = -1 ∨ ∃ j : Nat, j < N ∧ PX3_toldNode x names (nI N) = nI j := by
  rw [PX3_toldNode_eq]
  have h := told_val (names := names) (x := x) hN N 0 ((2147483647 - (0 : Int32).toInt).toNat + 1) rfl (by omega) (by rw [kc_0]; omega)
  rw [nI_0] at h
  rcases h with h | ⟨j, -, h1, h2⟩
  · exact Or.inl h
  · exact Or.inr ⟨j, h1, h2⟩
end
section
/-! one step of reading on both sides -/
def TS (keys : Nat → Int64) (n lo : Nat) (kd fr to : Int32) (x : Int64) (key wh at7 en tk w2 ns : Int32) (L : Nat → Int32) : Prop := ∃ a b : Nat, fr = nI a ∧ at7 = nI a ∧ to = nI b ∧ en = nI b ∧ (lo ≤ a ∧ a ≤ b) ∧ b ≤ n ∧ TokC keys a b kd key wh tk w2 ns x L
/-- the next token, wherever the last one ended -/
def NX (T U : Nat → Int32) (keys : Nat → Int64) (n lo : Nat) (to en : Int32) (nm : Int64) (w : Int32) (L9 : Nat → Int32) (kd fr to' : Int32) (x : Int64) (key wh at7 en' tk w2 ns : Int32) (L : Nat → Int32) : Prop := PX3_nextToken T (nI n) to nm w keys = (kd, fr, to', x, key, wh) ∧ PX7_next U (nI n) en L9 = (at7, en', tk, w2, ns, L) ∧ TS keys n lo kd fr to' x key wh at7 en' tk w2 ns L ∧ True
theorem ts_next {T U : Nat → Int32} {n lo b : Nat} {keys : Nat → Int64} (hT : TR T U n) (hn : n ≤ 900) (hb : b ≤ n) (hlo : lo ≤ b) (nm : Int64) (w : Int32) (L9 : Nat → Int32) : ∃ (kd fr to' : Int32) (x : Int64) (key wh at7 en' tk w2 ns : Int32) (L : Nat → Int32), NX T U keys n lo (nI b) (nI b) nm w L9 kd fr to' x key wh at7 en' tk w2 ns L := by
  obtain ⟨a, c, kd, key, wh, tk, w2, ns, x, L, h1, h2, h3, h4, h5, h6⟩ := tok_sim (keys := keys) (nm := nm) (wh := w) (L := L9) hT hn hb
  exact ⟨kd, nI a, nI c, x, key, wh, nI a, nI c, tk, w2, ns, L, h1, h2, ⟨a, c, rfl, rfl, rfl, rfl, ⟨by omega, h4⟩, h5, h6⟩, trivial⟩
theorem TS.next {T U : Nat → Int32} {n lo : Nat} {keys : Nat → Int64} {kd fr to : Int32} {x : Int64} {key wh at7 en tk w2 ns : Int32} {L : Nat → Int32} (h : TS keys n lo kd fr to x key wh at7 en tk w2 ns L) (hT : TR T U n) (hn : n ≤ 900) (nm : Int64) (w : Int32) (L9 : Nat → Int32) : ∃ (kd' fr' to' : Int32) (x' : Int64) (key' wh' at' en' tk' w2' ns' : Int32) (L' : Nat → Int32), NX T U keys n lo to en nm w L9 kd' fr' to' x' key' wh' at' en' tk' w2' ns' L' := by
  obtain ⟨a, b, -, -, h3, h4, h5, h6, -⟩ := h
  rw [h3, h4]
  exact ts_next hT hn h6 (by omega) nm w L9
/-- behind a semicolon one is farther -/
theorem TS.semi {T U : Nat → Int32} {n lo : Nat} {keys : Nat → Int64} {kd fr to : Int32} {x : Int64} {key wh at7 en tk w2 ns : Int32} {L : Nat → Int32} (h : TS keys n lo kd fr to x key wh at7 en tk w2 ns L) (hs : kd = 3) (hT : TR T U n) (hn : n ≤ 900) (nm : Int64) (w : Int32) (L9 : Nat → Int32) : lo < n ∧ ∃ (kd' fr' to' : Int32) (x' : Int64) (key' wh' at' en' tk' w2' ns' : Int32) (L' : Nat → Int32), NX T U keys n (lo + 1) to en nm w L9 kd' fr' to' x' key' wh' at' en' tk' w2' ns' L' := by
  obtain ⟨a, b, -, -, h3, h4, h5, h6, h7⟩ := h
  have hab : a < b := by
    rcases h7 with ⟨q, -⟩ | ⟨q, -⟩ | ⟨q, -⟩ | ⟨q, -⟩ | ⟨-, -, -, q⟩ | ⟨q, -⟩
    · exact absurd (q.symm.trans hs) (by decide)
    · exact absurd (q.symm.trans hs) (by decide)
    · exact absurd (q.symm.trans hs) (by decide)
    · exact absurd (q.symm.trans hs) (by decide)
    · omega
    · exact absurd (q.symm.trans hs) (by decide)
  rw [h3, h4]
  exact ⟨by omega, ts_next hT hn h6 (by omega) nm w L9⟩
theorem fl0 (fr q : Int32) : PX3_faulty fr q = (0, q, fr) := PX3_faulty_eq fr q
theorem in_eq (v lo hi : Int32) : PX7_in v lo hi = if lo.toInt ≤ v.toInt ∧ v.toInt ≤ hi.toInt then 1 else 0 := by
  rw [PX7_in_eq]
  by_cases h1 : v < lo
  · rw [if_pos h1, if_neg (by rw [fz_lt] at h1; omega)]
  · rw [if_neg h1]
    by_cases h2 : hi < v
    · rw [if_pos h2, if_neg (by rw [fz_lt] at h2; omega)]
    · rw [if_neg h2, if_pos (by rw [fz_lt] at h1 h2; omega)]
section NS
variable {T U : Nat → Int32} {n lo : Nat} {keys : Nat → Int64} {kd fr to : Int32} {x : Int64} {key wh at7 en tk w2 ns : Int32} {L : Nat → Int32}
theorem TS.frq (h : TS keys n lo kd fr to x key wh at7 en tk w2 ns L) : fr = at7 := by
  obtain ⟨a, b, h1, h2, -⟩ := h
  rw [h1, h2]
theorem TS.tok (h : TS keys n lo kd fr to x key wh at7 en tk w2 ns L) : ∃ a b : Nat, TokC keys a b kd key wh tk w2 ns x L := by
  obtain ⟨a, b, -, -, -, -, -, -, h⟩ := h
  exact ⟨a, b, h⟩
theorem TS.k2 (h : TS keys n lo kd fr to x key wh at7 en tk w2 ns L) : (kd = 2 ∧ tk = 3 ∧ wh = w2) ∨ (¬ kd = 2 ∧ ¬ tk = 3) := by
  obtain ⟨a, b, -, -, -, -, -, -, h⟩ := h
  rcases h with ⟨p, q, -⟩ | ⟨p, q, -⟩ | ⟨p, q, -⟩ | ⟨p, q, -, e⟩ | ⟨p, q, -⟩ | ⟨p, q, -⟩
  · exact Or.inr ⟨by rw [p]; decide, by rw [q]; decide⟩
  · exact Or.inr ⟨by rw [p]; decide, by rw [q]; decide⟩
  · exact Or.inr ⟨by rw [p]; decide, by rw [q]; decide⟩
  · exact Or.inl ⟨p, q, e⟩
  · exact Or.inr ⟨by rw [p]; decide, by rw [q]; decide⟩
  · exact Or.inr ⟨by rw [p]; decide, by rw [q]; decide⟩
/-- a whole number within bounds -/
theorem num_sim (h : TS keys n lo kd fr to x key wh at7 en tk w2 ns L) (hT : TR T U n) (hn : n ≤ 900) (lw hg fn fp fa pl : Int32) :
    (lw.toInt ≤ wh.toInt ∧ wh.toInt ≤ hg.toInt ∧ PX3_isWholeWithin fn fp kd fr wh lw hg = (1, fn, fp) ∧ ∃ (kd' fr' to' : Int32) (x' : Int64) (key' wh' at' en' tk' w2' ns' : Int32) (L' : Nat → Int32), NX T U keys n lo to en x wh L kd' fr' to' x' key' wh' at' en' tk' w2' ns' L' ∧ PX7_number U (nI n) at7 en tk w2 ns fa pl L 0 lw hg = (wh, at', en', tk', w2', ns', fa, pl, 0, L'))
    ∨ ∃ q : Int32, PX3_isWholeWithin fn fp kd fr wh lw hg = (0, q, at7) ∧ PX7_number U (nI n) at7 en tk w2 ns fa pl L 0 lw hg = (lw, at7, en, tk, w2, ns, q, at7, 1, L) := by
  have hfr := h.frq
  rw [PX3_isWholeWithin_eq, PX7_number_eq, if_pos rfl]
  rcases h.k2 with ⟨e1, e2, e3⟩ | ⟨e1, e2⟩
  · rw [if_pos e1, if_pos e2, in_eq]
    dsimp only [lt_]
    by_cases hb : lw.toInt ≤ w2.toInt ∧ w2.toInt ≤ hg.toInt
    · left
      obtain ⟨kd', fr', to', x', key', wh', at', en', tk', w2', ns', L', g⟩ := h.next hT hn x wh L
      refine ⟨by rw [e3]; exact hb.1, by rw [e3]; exact hb.2, ?_, kd', fr', to', x', key', wh', at', en', tk', w2', ns', L', g, ?_⟩
      · rw [if_neg (by rw [fz_lt, e3]; omega), if_pos (by rw [fz_le, e3]; omega)]
      · rw [if_pos hb, if_neg (show ¬ (1 : Int32) = 0 by decide), if_pos rfl, un6_eq g.2.1, e3]
    · right
      refine ⟨4, ?_, ?_⟩
      · by_cases h1 : wh < lw
        · rw [if_pos h1, fl0, hfr]; rfl
        · rw [if_neg h1, if_neg (by rw [fz_lt] at h1; rw [fz_le, e3]; rw [e3] at h1; omega), fl0, hfr]; rfl
      · rw [if_neg hb, if_pos rfl, wr0]; rfl
  · right
    refine ⟨1, ?_, ?_⟩
    · rw [if_neg e1, fl0, hfr]; rfl
    · rw [if_neg e2, wr0]; rfl
/-- a name that isn't told yet -/
theorem new_sim (hK : KwOk keys) (h : TS keys n lo kd fr to x key wh at7 en tk w2 ns L) (hT : TR T U n) (hn : n ≤ 900) {names : Nat → Int64} {fsh : Nat → Int32} {N : Nat} (hN : N ≤ 18) (hR : NamesR names fsh N) (fn fp fa pl fs : Int32) (fsr : Nat → Int32) :
    (PX3_isNewName fn fp kd fr x key names (nI N) = (1, fn, fp) ∧ (∃ len : Nat, 1 ≤ len ∧ len ≤ 8 ∧ ns = nI len ∧ Lets L len ∧ x = lcode L len) ∧ ∃ (kd' fr' to' : Int32) (x' : Int64) (key' wh' at' en' tk' w2' ns' : Int32) (L' : Nat → Int32), NX T U keys n lo to en x wh L kd' fr' to' x' key' wh' at' en' tk' w2' ns' L' ∧ PX7_newName U (nI n) at7 en tk w2 ns fa pl L 0 fsh fsr fs = (at', en', tk', w2', ns', fa, pl, 0, ns, L', cpF L fsr 0 0 8))
    ∨ ∃ q : Int32, PX3_isNewName fn fp kd fr x key names (nI N) = (0, q, at7) ∧ PX7_newName U (nI n) at7 en tk w2 ns fa pl L 0 fsh fsr fs = (at7, en, tk, w2, ns, q, at7, 1, fs, L, fsr) := by
  have hfr := h.frq
  obtain ⟨a, b, hC⟩ := h.tok
  rw [PX3_isNewName_eq, PX7_newName_eq, if_pos rfl, mn_eq hK hC]
  dsimp only [lt_]
  by_cases hq : kd = 1 ∧ PX3_isLineKey key = 0
  · obtain ⟨len, l1, l2, l3, l4, l5, -⟩ : ∃ len : Nat, 1 ≤ len ∧ len ≤ 8 ∧ ns = nI len ∧ Lets L len ∧ x = lcode L len ∧ KeyC keys x key := by
      have hk := hq.1
      rcases hC with ⟨p, -⟩ | ⟨p, -⟩ | ⟨-, -, q⟩ | ⟨p, -⟩ | ⟨p, -⟩ | ⟨p, -⟩
      · exact absurd (p.symm.trans hk) (by decide)
      · exact absurd (p.symm.trans hk) (by decide)
      · exact q
      · exact absurd (p.symm.trans hk) (by decide)
      · exact absurd (p.symm.trans hk) (by decide)
      · exact absurd (p.symm.trans hk) (by decide)
    have hf : PX7_find ns L fsh = PX3_toldNode x names (nI N) := by rw [l3]; exact find_eq hN hR l1 l2 l4 l5
    rw [if_pos hq.1, if_pos hq.2, if_pos hq]
    rcases told_num (names := names) (x := x) hN with g | ⟨j, g1, g2⟩
    · left
      obtain ⟨kd', fr', to', x', key', wh', at', en', tk', w2', ns', L', w⟩ := h.next hT hn x wh L
      refine ⟨?_, ⟨len, l1, l2, l3, l4, l5⟩, kd', fr', to', x', key', wh', at', en', tk', w2', ns', L', w, ?_⟩
      · rw [g, if_pos (show (-1 : Int32) < 0 by decide)]
      · rw [un3_eq (t := (fa, pl, 0)) rfl, if_pos rfl, hf, g, if_pos (show (-1 : Int32) < 0 by decide), if_pos rfl, un6_eq w.2.1]
        rfl
    · right
      refine ⟨3, ?_, ?_⟩
      · rw [g2, if_neg (nI_pos (by omega)), fl0, hfr]; rfl
      · rw [un3_eq (t := (fa, pl, 0)) rfl, if_pos rfl, hf, g2, if_neg (nI_pos (by omega)), wr0]; rfl
  · right
    rw [if_neg hq, un3_eq (t := (1, at7, 1)) rfl, if_neg (show ¬ (1 : Int32) = 0 by decide), if_neg (show ¬ (1 : Int32) = 0 by decide)]
    refine ⟨1, ?_, rfl⟩
    by_cases h1 : kd = 1
    · rw [if_pos h1, if_neg (fun h2 => hq ⟨h1, h2⟩), fl0, hfr]; rfl
    · rw [if_neg h1, fl0, hfr]; rfl
/-- a told name -/
theorem told_sim (hK : KwOk keys) (h : TS keys n lo kd fr to x key wh at7 en tk w2 ns L) {names : Nat → Int64} {fsh : Nat → Int32} {N : Nat} (hN : N ≤ 18) (hR : NamesR names fsh N) (fn fp fa pl : Int32) :
    (PX3_isToldName fn fp kd fr x key names (nI N) = (1, fn, fp) ∧ ∃ j : Nat, j < N ∧ PX3_toldNode x names (nI N) = nI j ∧ PX7_nodeHere at7 tk ns fa pl L 0 fsh = (nI j, fa, pl, 0))
    ∨ ∃ q : Int32, PX3_isToldName fn fp kd fr x key names (nI N) = (0, q, at7) ∧ PX7_nodeHere at7 tk ns fa pl L 0 fsh = (0, q, at7, 1) := by
  have hfr := h.frq
  obtain ⟨a, b, hC⟩ := h.tok
  rw [PX3_isToldName_eq, PX7_nodeHere_eq, if_pos rfl, mn_eq hK hC]
  dsimp only [lt_]
  by_cases hq : kd = 1 ∧ PX3_isLineKey key = 0
  · obtain ⟨len, l1, l2, l3, l4, l5, -⟩ : ∃ len : Nat, 1 ≤ len ∧ len ≤ 8 ∧ ns = nI len ∧ Lets L len ∧ x = lcode L len ∧ KeyC keys x key := by
      have hk := hq.1
      rcases hC with ⟨p, -⟩ | ⟨p, -⟩ | ⟨-, -, q⟩ | ⟨p, -⟩ | ⟨p, -⟩ | ⟨p, -⟩
      · exact absurd (p.symm.trans hk) (by decide)
      · exact absurd (p.symm.trans hk) (by decide)
      · exact q
      · exact absurd (p.symm.trans hk) (by decide)
      · exact absurd (p.symm.trans hk) (by decide)
      · exact absurd (p.symm.trans hk) (by decide)
    have hf : PX7_find ns L fsh = PX3_toldNode x names (nI N) := by rw [l3]; exact find_eq hN hR l1 l2 l4 l5
    rw [if_pos hq.1, if_pos hq.2, if_pos hq, un3_eq (t := (fa, pl, 0)) rfl, if_pos rfl, hf]
    rcases told_num (names := names) (x := x) hN with g | ⟨j, g1, g2⟩
    · right
      refine ⟨2, ?_, ?_⟩
      · rw [g, if_neg (show ¬ (0 : Int32) ≤ -1 by decide), fl0, hfr]; rfl
      · rw [g, if_neg (show ¬ (0 : Int32) ≤ -1 by decide), wr0]; rfl
    · left
      refine ⟨?_, j, g1, g2, ?_⟩
      · rw [g2, if_pos (nI_pos' (by omega))]
      · rw [g2, if_pos (nI_pos' (by omega)), if_pos rfl]
  · right
    rw [if_neg hq, un3_eq (t := (1, at7, 1)) rfl, if_neg (show ¬ (1 : Int32) = 0 by decide)]
    refine ⟨1, ?_, rfl⟩
    by_cases h1 : kd = 1
    · rw [if_pos h1, if_neg (fun h2 => hq ⟨h1, h2⟩), fl0, hfr]; rfl
    · rw [if_neg h1, fl0, hfr]; rfl
end NS
end
section
/-! lines begin -/
section BG
variable {T U : Nat → Int32} {n lo : Nat} {keys : Nat → Int64} {kd fr to : Int32} {x : Int64} {key wh at7 en tk w2 ns : Int32} {L : Nat → Int32}
theorem pass0 {fd : Int32} (hf : ¬ fd = 0) : PX7_pass U (nI n) at7 en tk w2 ns L fd = (at7, en, tk, w2, ns, L) := by rw [PX7_pass_eq, if_neg hf]
theorem pass1 {at8 en8 tk8 w8 ns8 : Int32} {L8 : Nat → Int32} (h : PX7_next U (nI n) en L = (at8, en8, tk8, w8, ns8, L8)) : PX7_pass U (nI n) at7 en tk w2 ns L 0 = (at8, en8, tk8, w8, ns8, L8) := by rw [PX7_pass_eq, if_pos rfl, un6_eq h]
theorem wr1 {fd : Int32} (hf : ¬ fd = 0) (fa pl q a : Int32) : PX7_wrong fa pl fd q a = (fa, pl, fd) := by rw [PX7_wrong_eq, if_neg hf]
theorem five_cl : (5 : Int32).toNatClampNeg = 5 := by decide
theorem isW_f {sN : Nat} {sF : Nat → Int32} {fd : Int32} (hf : ¬ fd = 0) : PX7_isWord tk ns L fd sN sF = 0 := by rw [PX7_isWord_eq, if_neg hf]
theorem beg_f {sN : Nat} {sF : Nat → Int32} {fd fa pl p0 : Int32} {fsh : Nat → Int32} (hf : ¬ fd = 0) : PX7_begins U (nI n) at7 en tk w2 ns fa pl L fd fsh p0 sN sF = (0, at7, en, tk, w2, ns, fa, pl, fd, L) := by
  rw [PX7_begins_eq, isW_f hf]
  rfl
theorem num_f {fd fa pl lw hg : Int32} (hf : ¬ fd = 0) : PX7_number U (nI n) at7 en tk w2 ns fa pl L fd lw hg = (lw, at7, en, tk, w2, ns, fa, pl, fd, L) := by rw [PX7_number_eq, if_neg hf]
theorem nh_f {fd fa pl : Int32} {fsh : Nat → Int32} (hf : ¬ fd = 0) : PX7_nodeHere at7 tk ns fa pl L fd fsh = (0, fa, pl, fd) := by rw [PX7_nodeHere_eq, if_neg hf]
theorem nn_f {fd fa pl fs : Int32} {fsh fsr : Nat → Int32} (hf : ¬ fd = 0) : PX7_newName U (nI n) at7 en tk w2 ns fa pl L fd fsh fsr fs = (at7, en, tk, w2, ns, fa, pl, fd, fs, L, fsr) := by rw [PX7_newName_eq, if_neg hf]
theorem beg_0 (hK : KwOk keys) {a b : Nat} (hC : TokC keys a b kd key wh tk w2 ns x L) {fa pl p0 : Int32} {fsh : Nat → Int32} : (¬ key = nI 0 → PX7_begins U (nI n) at7 en tk w2 ns fa pl L 0 fsh p0 4 (fun j => ([119, 111, 114, 100] : List Int32).getD j 0) = (0, at7, en, tk, w2, ns, fa, pl, 0, L)) ∧ (key = nI 0 → (p0 = 0 → PX7_begins U (nI n) at7 en tk w2 ns fa pl L 0 fsh p0 4 (fun j => ([119, 111, 114, 100] : List Int32).getD j 0) = (1, at7, en, tk, w2, ns, 5, at7, 1, L)) ∧ (¬ p0 = 0 → fsh 5 = 0 → PX7_begins U (nI n) at7 en tk w2 ns fa pl L 0 fsh p0 4 (fun j => ([119, 111, 114, 100] : List Int32).getD j 0) = (1, at7, en, tk, w2, ns, 6, at7, 1, L)) ∧ (¬ p0 = 0 → ¬ fsh 5 = 0 → ∀ {at8 en8 tk8 w8 ns8 : Int32} {L8 : Nat → Int32}, PX7_next U (nI n) en L = (at8, en8, tk8, w8, ns8, L8) → PX7_begins U (nI n) at7 en tk w2 ns fa pl L 0 fsh p0 4 (fun j => ([119, 111, 114, 100] : List Int32).getD j 0) = (1, at8, en8, tk8, w8, ns8, fa, pl, 0, L8))) := by
  rw [PX7_begins_eq, isW_0 hK hC]
  dsimp only [lt_]
  rw [five_cl]
  refine ⟨fun h => by rw [if_neg h, if_pos rfl], fun h => ?_⟩
  rw [if_pos h, if_neg (show ¬ (1 : Int32) = 0 by decide)]
  refine ⟨fun h0 => ?_, fun h0 h5 => ?_, fun h0 h5 at8 en8 tk8 w8 ns8 L8 hx => ?_⟩
  · rw [if_pos h0, wr0, un3_eq rfl]
    by_cases h5 : fsh 5 = 0
    · rw [if_pos h5, wr1 (by decide), un3_eq rfl, pass0 (by decide)]; rfl
    · rw [if_neg h5, pass0 (by decide)]; rfl
  · rw [if_neg h0, if_pos h5, wr0, un3_eq rfl, pass0 (by decide)]; rfl
  · rw [if_neg h0, if_neg h5, pass1 hx]; rfl
theorem beg_1 (hK : KwOk keys) {a b : Nat} (hC : TokC keys a b kd key wh tk w2 ns x L) {fa pl p0 : Int32} {fsh : Nat → Int32} : (¬ key = nI 1 → PX7_begins U (nI n) at7 en tk w2 ns fa pl L 0 fsh p0 4 (fun j => ([107, 105, 110, 103] : List Int32).getD j 0) = (0, at7, en, tk, w2, ns, fa, pl, 0, L)) ∧ (key = nI 1 → (p0 = 0 → PX7_begins U (nI n) at7 en tk w2 ns fa pl L 0 fsh p0 4 (fun j => ([107, 105, 110, 103] : List Int32).getD j 0) = (1, at7, en, tk, w2, ns, 5, at7, 1, L)) ∧ (¬ p0 = 0 → fsh 5 = 0 → PX7_begins U (nI n) at7 en tk w2 ns fa pl L 0 fsh p0 4 (fun j => ([107, 105, 110, 103] : List Int32).getD j 0) = (1, at7, en, tk, w2, ns, 6, at7, 1, L)) ∧ (¬ p0 = 0 → ¬ fsh 5 = 0 → ∀ {at8 en8 tk8 w8 ns8 : Int32} {L8 : Nat → Int32}, PX7_next U (nI n) en L = (at8, en8, tk8, w8, ns8, L8) → PX7_begins U (nI n) at7 en tk w2 ns fa pl L 0 fsh p0 4 (fun j => ([107, 105, 110, 103] : List Int32).getD j 0) = (1, at8, en8, tk8, w8, ns8, fa, pl, 0, L8))) := by
  rw [PX7_begins_eq, isW_1 hK hC]
  dsimp only [lt_]
  rw [five_cl]
  refine ⟨fun h => by rw [if_neg h, if_pos rfl], fun h => ?_⟩
  rw [if_pos h, if_neg (show ¬ (1 : Int32) = 0 by decide)]
  refine ⟨fun h0 => ?_, fun h0 h5 => ?_, fun h0 h5 at8 en8 tk8 w8 ns8 L8 hx => ?_⟩
  · rw [if_pos h0, wr0, un3_eq rfl]
    by_cases h5 : fsh 5 = 0
    · rw [if_pos h5, wr1 (by decide), un3_eq rfl, pass0 (by decide)]; rfl
    · rw [if_neg h5, pass0 (by decide)]; rfl
  · rw [if_neg h0, if_pos h5, wr0, un3_eq rfl, pass0 (by decide)]; rfl
  · rw [if_neg h0, if_neg h5, pass1 hx]; rfl
theorem beg_2 (hK : KwOk keys) {a b : Nat} (hC : TokC keys a b kd key wh tk w2 ns x L) {fa pl p0 : Int32} {fsh : Nat → Int32} : (¬ key = nI 2 → PX7_begins U (nI n) at7 en tk w2 ns fa pl L 0 fsh p0 5 (fun j => ([113, 117, 101, 101, 110] : List Int32).getD j 0) = (0, at7, en, tk, w2, ns, fa, pl, 0, L)) ∧ (key = nI 2 → (p0 = 0 → PX7_begins U (nI n) at7 en tk w2 ns fa pl L 0 fsh p0 5 (fun j => ([113, 117, 101, 101, 110] : List Int32).getD j 0) = (1, at7, en, tk, w2, ns, 5, at7, 1, L)) ∧ (¬ p0 = 0 → fsh 5 = 0 → PX7_begins U (nI n) at7 en tk w2 ns fa pl L 0 fsh p0 5 (fun j => ([113, 117, 101, 101, 110] : List Int32).getD j 0) = (1, at7, en, tk, w2, ns, 6, at7, 1, L)) ∧ (¬ p0 = 0 → ¬ fsh 5 = 0 → ∀ {at8 en8 tk8 w8 ns8 : Int32} {L8 : Nat → Int32}, PX7_next U (nI n) en L = (at8, en8, tk8, w8, ns8, L8) → PX7_begins U (nI n) at7 en tk w2 ns fa pl L 0 fsh p0 5 (fun j => ([113, 117, 101, 101, 110] : List Int32).getD j 0) = (1, at8, en8, tk8, w8, ns8, fa, pl, 0, L8))) := by
  rw [PX7_begins_eq, isW_2 hK hC]
  dsimp only [lt_]
  rw [five_cl]
  refine ⟨fun h => by rw [if_neg h, if_pos rfl], fun h => ?_⟩
  rw [if_pos h, if_neg (show ¬ (1 : Int32) = 0 by decide)]
  refine ⟨fun h0 => ?_, fun h0 h5 => ?_, fun h0 h5 at8 en8 tk8 w8 ns8 L8 hx => ?_⟩
  · rw [if_pos h0, wr0, un3_eq rfl]
    by_cases h5 : fsh 5 = 0
    · rw [if_pos h5, wr1 (by decide), un3_eq rfl, pass0 (by decide)]; rfl
    · rw [if_neg h5, pass0 (by decide)]; rfl
  · rw [if_neg h0, if_pos h5, wr0, un3_eq rfl, pass0 (by decide)]; rfl
  · rw [if_neg h0, if_neg h5, pass1 hx]; rfl
theorem beg_3 (hK : KwOk keys) {a b : Nat} (hC : TokC keys a b kd key wh tk w2 ns x L) {fa pl p0 : Int32} {fsh : Nat → Int32} : (¬ key = nI 3 → PX7_begins U (nI n) at7 en tk w2 ns fa pl L 0 fsh p0 6 (fun j => ([99, 104, 97, 110, 99, 101] : List Int32).getD j 0) = (0, at7, en, tk, w2, ns, fa, pl, 0, L)) ∧ (key = nI 3 → (p0 = 0 → PX7_begins U (nI n) at7 en tk w2 ns fa pl L 0 fsh p0 6 (fun j => ([99, 104, 97, 110, 99, 101] : List Int32).getD j 0) = (1, at7, en, tk, w2, ns, 5, at7, 1, L)) ∧ (¬ p0 = 0 → fsh 5 = 0 → PX7_begins U (nI n) at7 en tk w2 ns fa pl L 0 fsh p0 6 (fun j => ([99, 104, 97, 110, 99, 101] : List Int32).getD j 0) = (1, at7, en, tk, w2, ns, 6, at7, 1, L)) ∧ (¬ p0 = 0 → ¬ fsh 5 = 0 → ∀ {at8 en8 tk8 w8 ns8 : Int32} {L8 : Nat → Int32}, PX7_next U (nI n) en L = (at8, en8, tk8, w8, ns8, L8) → PX7_begins U (nI n) at7 en tk w2 ns fa pl L 0 fsh p0 6 (fun j => ([99, 104, 97, 110, 99, 101] : List Int32).getD j 0) = (1, at8, en8, tk8, w8, ns8, fa, pl, 0, L8))) := by
  rw [PX7_begins_eq, isW_3 hK hC]
  dsimp only [lt_]
  rw [five_cl]
  refine ⟨fun h => by rw [if_neg h, if_pos rfl], fun h => ?_⟩
  rw [if_pos h, if_neg (show ¬ (1 : Int32) = 0 by decide)]
  refine ⟨fun h0 => ?_, fun h0 h5 => ?_, fun h0 h5 at8 en8 tk8 w8 ns8 L8 hx => ?_⟩
  · rw [if_pos h0, wr0, un3_eq rfl]
    by_cases h5 : fsh 5 = 0
    · rw [if_pos h5, wr1 (by decide), un3_eq rfl, pass0 (by decide)]; rfl
    · rw [if_neg h5, pass0 (by decide)]; rfl
  · rw [if_neg h0, if_pos h5, wr0, un3_eq rfl, pass0 (by decide)]; rfl
  · rw [if_neg h0, if_neg h5, pass1 hx]; rfl
theorem beg_5 (hK : KwOk keys) {a b : Nat} (hC : TokC keys a b kd key wh tk w2 ns x L) {fa pl p0 : Int32} {fsh : Nat → Int32} : (¬ key = nI 5 → PX7_begins U (nI n) at7 en tk w2 ns fa pl L 0 fsh p0 6 (fun j => ([116, 104, 114, 111, 110, 101] : List Int32).getD j 0) = (0, at7, en, tk, w2, ns, fa, pl, 0, L)) ∧ (key = nI 5 → (p0 = 0 → PX7_begins U (nI n) at7 en tk w2 ns fa pl L 0 fsh p0 6 (fun j => ([116, 104, 114, 111, 110, 101] : List Int32).getD j 0) = (1, at7, en, tk, w2, ns, 5, at7, 1, L)) ∧ (¬ p0 = 0 → fsh 5 = 0 → PX7_begins U (nI n) at7 en tk w2 ns fa pl L 0 fsh p0 6 (fun j => ([116, 104, 114, 111, 110, 101] : List Int32).getD j 0) = (1, at7, en, tk, w2, ns, 6, at7, 1, L)) ∧ (¬ p0 = 0 → ¬ fsh 5 = 0 → ∀ {at8 en8 tk8 w8 ns8 : Int32} {L8 : Nat → Int32}, PX7_next U (nI n) en L = (at8, en8, tk8, w8, ns8, L8) → PX7_begins U (nI n) at7 en tk w2 ns fa pl L 0 fsh p0 6 (fun j => ([116, 104, 114, 111, 110, 101] : List Int32).getD j 0) = (1, at8, en8, tk8, w8, ns8, fa, pl, 0, L8))) := by
  rw [PX7_begins_eq, isW_5 hK hC]
  dsimp only [lt_]
  rw [five_cl]
  refine ⟨fun h => by rw [if_neg h, if_pos rfl], fun h => ?_⟩
  rw [if_pos h, if_neg (show ¬ (1 : Int32) = 0 by decide)]
  refine ⟨fun h0 => ?_, fun h0 h5 => ?_, fun h0 h5 at8 en8 tk8 w8 ns8 L8 hx => ?_⟩
  · rw [if_pos h0, wr0, un3_eq rfl]
    by_cases h5 : fsh 5 = 0
    · rw [if_pos h5, wr1 (by decide), un3_eq rfl, pass0 (by decide)]; rfl
    · rw [if_neg h5, pass0 (by decide)]; rfl
  · rw [if_neg h0, if_pos h5, wr0, un3_eq rfl, pass0 (by decide)]; rfl
  · rw [if_neg h0, if_neg h5, pass1 hx]; rfl
theorem beg_6 (hK : KwOk keys) {a b : Nat} (hC : TokC keys a b kd key wh tk w2 ns x L) {fa pl p0 : Int32} {fsh : Nat → Int32} : (¬ key = nI 6 → PX7_begins U (nI n) at7 en tk w2 ns fa pl L 0 fsh p0 6 (fun j => ([117, 110, 115, 117, 114, 101] : List Int32).getD j 0) = (0, at7, en, tk, w2, ns, fa, pl, 0, L)) ∧ (key = nI 6 → (p0 = 0 → PX7_begins U (nI n) at7 en tk w2 ns fa pl L 0 fsh p0 6 (fun j => ([117, 110, 115, 117, 114, 101] : List Int32).getD j 0) = (1, at7, en, tk, w2, ns, 5, at7, 1, L)) ∧ (¬ p0 = 0 → fsh 5 = 0 → PX7_begins U (nI n) at7 en tk w2 ns fa pl L 0 fsh p0 6 (fun j => ([117, 110, 115, 117, 114, 101] : List Int32).getD j 0) = (1, at7, en, tk, w2, ns, 6, at7, 1, L)) ∧ (¬ p0 = 0 → ¬ fsh 5 = 0 → ∀ {at8 en8 tk8 w8 ns8 : Int32} {L8 : Nat → Int32}, PX7_next U (nI n) en L = (at8, en8, tk8, w8, ns8, L8) → PX7_begins U (nI n) at7 en tk w2 ns fa pl L 0 fsh p0 6 (fun j => ([117, 110, 115, 117, 114, 101] : List Int32).getD j 0) = (1, at8, en8, tk8, w8, ns8, fa, pl, 0, L8))) := by
  rw [PX7_begins_eq, isW_6 hK hC]
  dsimp only [lt_]
  rw [five_cl]
  refine ⟨fun h => by rw [if_neg h, if_pos rfl], fun h => ?_⟩
  rw [if_pos h, if_neg (show ¬ (1 : Int32) = 0 by decide)]
  refine ⟨fun h0 => ?_, fun h0 h5 => ?_, fun h0 h5 at8 en8 tk8 w8 ns8 L8 hx => ?_⟩
  · rw [if_pos h0, wr0, un3_eq rfl]
    by_cases h5 : fsh 5 = 0
    · rw [if_pos h5, wr1 (by decide), un3_eq rfl, pass0 (by decide)]; rfl
    · rw [if_neg h5, pass0 (by decide)]; rfl
  · rw [if_neg h0, if_pos h5, wr0, un3_eq rfl, pass0 (by decide)]; rfl
  · rw [if_neg h0, if_neg h5, pass1 hx]; rfl
theorem beg_7 (hK : KwOk keys) {a b : Nat} (hC : TokC keys a b kd key wh tk w2 ns x L) {fa pl p0 : Int32} {fsh : Nat → Int32} : (¬ key = nI 7 → PX7_begins U (nI n) at7 en tk w2 ns fa pl L 0 fsh p0 4 (fun j => ([115, 97, 105, 100] : List Int32).getD j 0) = (0, at7, en, tk, w2, ns, fa, pl, 0, L)) ∧ (key = nI 7 → (p0 = 0 → PX7_begins U (nI n) at7 en tk w2 ns fa pl L 0 fsh p0 4 (fun j => ([115, 97, 105, 100] : List Int32).getD j 0) = (1, at7, en, tk, w2, ns, 5, at7, 1, L)) ∧ (¬ p0 = 0 → fsh 5 = 0 → PX7_begins U (nI n) at7 en tk w2 ns fa pl L 0 fsh p0 4 (fun j => ([115, 97, 105, 100] : List Int32).getD j 0) = (1, at7, en, tk, w2, ns, 6, at7, 1, L)) ∧ (¬ p0 = 0 → ¬ fsh 5 = 0 → ∀ {at8 en8 tk8 w8 ns8 : Int32} {L8 : Nat → Int32}, PX7_next U (nI n) en L = (at8, en8, tk8, w8, ns8, L8) → PX7_begins U (nI n) at7 en tk w2 ns fa pl L 0 fsh p0 4 (fun j => ([115, 97, 105, 100] : List Int32).getD j 0) = (1, at8, en8, tk8, w8, ns8, fa, pl, 0, L8))) := by
  rw [PX7_begins_eq, isW_7 hK hC]
  dsimp only [lt_]
  rw [five_cl]
  refine ⟨fun h => by rw [if_neg h, if_pos rfl], fun h => ?_⟩
  rw [if_pos h, if_neg (show ¬ (1 : Int32) = 0 by decide)]
  refine ⟨fun h0 => ?_, fun h0 h5 => ?_, fun h0 h5 at8 en8 tk8 w8 ns8 L8 hx => ?_⟩
  · rw [if_pos h0, wr0, un3_eq rfl]
    by_cases h5 : fsh 5 = 0
    · rw [if_pos h5, wr1 (by decide), un3_eq rfl, pass0 (by decide)]; rfl
    · rw [if_neg h5, pass0 (by decide)]; rfl
  · rw [if_neg h0, if_pos h5, wr0, un3_eq rfl, pass0 (by decide)]; rfl
  · rw [if_neg h0, if_neg h5, pass1 hx]; rfl
theorem must_8 (hK : KwOk keys) {a b : Nat} (hC : TokC keys a b kd key wh tk w2 ns x L) {fa pl : Int32} : (¬ key = nI 8 → PX7_must U (nI n) at7 en tk w2 ns fa pl L 0 5 (fun j => ([115, 108, 105, 112, 115] : List Int32).getD j 0) = (at7, en, tk, w2, ns, 1, at7, 1, L)) ∧ (key = nI 8 → ∀ {at8 en8 tk8 w8 ns8 : Int32} {L8 : Nat → Int32}, PX7_next U (nI n) en L = (at8, en8, tk8, w8, ns8, L8) → PX7_must U (nI n) at7 en tk w2 ns fa pl L 0 5 (fun j => ([115, 108, 105, 112, 115] : List Int32).getD j 0) = (at8, en8, tk8, w8, ns8, fa, pl, 0, L8)) := by
  rw [PX7_must_eq, if_pos rfl, PX7_takesWord_eq, isW_8 hK hC]
  dsimp only [lt_]
  refine ⟨fun h => ?_, fun h at8 en8 tk8 w8 ns8 L8 hx => ?_⟩
  · rw [if_neg h, if_pos rfl, un7_eq rfl, if_pos rfl, wr0]; rfl
  · rw [if_pos h, if_neg (show ¬ (1 : Int32) = 0 by decide), un6_eq hx, un7_eq rfl, if_neg (show ¬ (1 : Int32) = 0 by decide)]
theorem must_9 (hK : KwOk keys) {a b : Nat} (hC : TokC keys a b kd key wh tk w2 ns x L) {fa pl : Int32} : (¬ key = nI 9 → PX7_must U (nI n) at7 en tk w2 ns fa pl L 0 5 (fun j => ([119, 111, 114, 116, 104] : List Int32).getD j 0) = (at7, en, tk, w2, ns, 1, at7, 1, L)) ∧ (key = nI 9 → ∀ {at8 en8 tk8 w8 ns8 : Int32} {L8 : Nat → Int32}, PX7_next U (nI n) en L = (at8, en8, tk8, w8, ns8, L8) → PX7_must U (nI n) at7 en tk w2 ns fa pl L 0 5 (fun j => ([119, 111, 114, 116, 104] : List Int32).getD j 0) = (at8, en8, tk8, w8, ns8, fa, pl, 0, L8)) := by
  rw [PX7_must_eq, if_pos rfl, PX7_takesWord_eq, isW_9 hK hC]
  dsimp only [lt_]
  refine ⟨fun h => ?_, fun h at8 en8 tk8 w8 ns8 L8 hx => ?_⟩
  · rw [if_neg h, if_pos rfl, un7_eq rfl, if_pos rfl, wr0]; rfl
  · rw [if_pos h, if_neg (show ¬ (1 : Int32) = 0 by decide), un6_eq hx, un7_eq rfl, if_neg (show ¬ (1 : Int32) = 0 by decide)]
theorem after_8 (hK : KwOk keys) (h : TS keys n lo kd fr to x key wh at7 en tk w2 ns L) (hT : TR T U n) (hn : n ≤ 900) (lw hg fn fp fa pl : Int32) :
    (∃ (kd1 fr1 to1 : Int32) (x1 : Int64) (key1 wh1 : Int32) (kd2 fr2 to2 : Int32) (x2 : Int64) (key2 wh2 at8 en8 tk8 w8 ns8 : Int32) (L8 : Nat → Int32), key = nI 8 ∧ PX3_nextToken T (nI n) to x wh keys = (kd1, fr1, to1, x1, key1, wh1) ∧ PX3_isWholeWithin fn fp kd1 fr1 wh1 lw hg = (1, fn, fp) ∧ lw.toInt ≤ wh1.toInt ∧ wh1.toInt ≤ hg.toInt ∧ PX3_nextToken T (nI n) to1 x1 wh1 keys = (kd2, fr2, to2, x2, key2, wh2) ∧ TS keys n lo kd2 fr2 to2 x2 key2 wh2 at8 en8 tk8 w8 ns8 L8 ∧ PX7_after U (nI n) at7 en tk w2 ns fa pl L 0 lw hg 5 (fun j => ([115, 108, 105, 112, 115] : List Int32).getD j 0) = (wh1, at8, en8, tk8, w8, ns8, fa, pl, 0, L8))
    ∨ (¬ key = nI 8 ∧ PX7_after U (nI n) at7 en tk w2 ns fa pl L 0 lw hg 5 (fun j => ([115, 108, 105, 112, 115] : List Int32).getD j 0) = (lw, at7, en, tk, w2, ns, 1, at7, 1, L))
    ∨ (∃ (kd1 fr1 to1 : Int32) (x1 : Int64) (key1 wh1 q z at8 en8 tk8 w8 ns8 : Int32) (L8 : Nat → Int32), key = nI 8 ∧ PX3_nextToken T (nI n) to x wh keys = (kd1, fr1, to1, x1, key1, wh1) ∧ PX3_isWholeWithin fn fp kd1 fr1 wh1 lw hg = (0, q, z) ∧ PX7_after U (nI n) at7 en tk w2 ns fa pl L 0 lw hg 5 (fun j => ([115, 108, 105, 112, 115] : List Int32).getD j 0) = (lw, at8, en8, tk8, w8, ns8, q, z, 1, L8)) := by
  obtain ⟨a, b, hC⟩ := h.tok
  rw [PX7_after_eq]
  by_cases hk : key = nI 8
  · obtain ⟨kd1, fr1, to1, x1, key1, wh1, at8, en8, tk8, w8, ns8, L8, g1, g2, g3, -⟩ := h.next hT hn x wh L
    rw [(must_8 hK hC).2 hk g2, un9_eq rfl]
    rcases num_sim g3 hT hn lw hg fn fp fa pl with ⟨b1, b2, b3, kd2, fr2, to2, x2, key2, wh2, at9, en9, tk9, w9, ns9, L9, ⟨c1, c2, c3, -⟩, c4⟩ | ⟨q, c1, c2⟩
    · left
      exact ⟨kd1, fr1, to1, x1, key1, wh1, kd2, fr2, to2, x2, key2, wh2, at9, en9, tk9, w9, ns9, L9, hk, g1, b3, b1, b2, c1, c3, by rw [c4]; rfl⟩
    · right; right
      exact ⟨kd1, fr1, to1, x1, key1, wh1, q, at8, at8, en8, tk8, w8, ns8, L8, hk, g1, c1, by rw [c2]; rfl⟩
  · right; left
    rw [(must_8 hK hC).1 hk, un9_eq rfl, num_f (by decide)]
    exact ⟨hk, rfl⟩
theorem after_9 (hK : KwOk keys) (h : TS keys n lo kd fr to x key wh at7 en tk w2 ns L) (hT : TR T U n) (hn : n ≤ 900) (lw hg fn fp fa pl : Int32) :
    (∃ (kd1 fr1 to1 : Int32) (x1 : Int64) (key1 wh1 : Int32) (kd2 fr2 to2 : Int32) (x2 : Int64) (key2 wh2 at8 en8 tk8 w8 ns8 : Int32) (L8 : Nat → Int32), key = nI 9 ∧ PX3_nextToken T (nI n) to x wh keys = (kd1, fr1, to1, x1, key1, wh1) ∧ PX3_isWholeWithin fn fp kd1 fr1 wh1 lw hg = (1, fn, fp) ∧ lw.toInt ≤ wh1.toInt ∧ wh1.toInt ≤ hg.toInt ∧ PX3_nextToken T (nI n) to1 x1 wh1 keys = (kd2, fr2, to2, x2, key2, wh2) ∧ TS keys n lo kd2 fr2 to2 x2 key2 wh2 at8 en8 tk8 w8 ns8 L8 ∧ PX7_after U (nI n) at7 en tk w2 ns fa pl L 0 lw hg 5 (fun j => ([119, 111, 114, 116, 104] : List Int32).getD j 0) = (wh1, at8, en8, tk8, w8, ns8, fa, pl, 0, L8))
    ∨ (¬ key = nI 9 ∧ PX7_after U (nI n) at7 en tk w2 ns fa pl L 0 lw hg 5 (fun j => ([119, 111, 114, 116, 104] : List Int32).getD j 0) = (lw, at7, en, tk, w2, ns, 1, at7, 1, L))
    ∨ (∃ (kd1 fr1 to1 : Int32) (x1 : Int64) (key1 wh1 q z at8 en8 tk8 w8 ns8 : Int32) (L8 : Nat → Int32), key = nI 9 ∧ PX3_nextToken T (nI n) to x wh keys = (kd1, fr1, to1, x1, key1, wh1) ∧ PX3_isWholeWithin fn fp kd1 fr1 wh1 lw hg = (0, q, z) ∧ PX7_after U (nI n) at7 en tk w2 ns fa pl L 0 lw hg 5 (fun j => ([119, 111, 114, 116, 104] : List Int32).getD j 0) = (lw, at8, en8, tk8, w8, ns8, q, z, 1, L8)) := by
  obtain ⟨a, b, hC⟩ := h.tok
  rw [PX7_after_eq]
  by_cases hk : key = nI 9
  · obtain ⟨kd1, fr1, to1, x1, key1, wh1, at8, en8, tk8, w8, ns8, L8, g1, g2, g3, -⟩ := h.next hT hn x wh L
    rw [(must_9 hK hC).2 hk g2, un9_eq rfl]
    rcases num_sim g3 hT hn lw hg fn fp fa pl with ⟨b1, b2, b3, kd2, fr2, to2, x2, key2, wh2, at9, en9, tk9, w9, ns9, L9, ⟨c1, c2, c3, -⟩, c4⟩ | ⟨q, c1, c2⟩
    · left
      exact ⟨kd1, fr1, to1, x1, key1, wh1, kd2, fr2, to2, x2, key2, wh2, at9, en9, tk9, w9, ns9, L9, hk, g1, b3, b1, b2, c1, c3, by rw [c4]; rfl⟩
    · right; right
      exact ⟨kd1, fr1, to1, x1, key1, wh1, q, at8, at8, en8, tk8, w8, ns8, L8, hk, g1, c1, by rw [c2]; rfl⟩
  · right; left
    rw [(must_9 hK hC).1 hk, un9_eq rfl, num_f (by decide)]
    exact ⟨hk, rfl⟩
end BG
end
section
/-! the short lines on both sides -/
section LN
variable {T U : Nat → Int32} {n lo : Nat} {keys : Nat → Int64} {kd fr to : Int32} {x : Int64} {key wh at7 en tk w2 ns : Int32} {L : Nat → Int32}
theorem four_cl : (4 : Int32).toNatClampNeg = 4 := by decide
theorem six_cl : (6 : Int32).toNatClampNeg = 6 := by decide
theorem zero_cl : (0 : Int32).toNatClampNeg = 0 := by decide
theorem one_cl : (1 : Int32).toNatClampNeg = 1 := by decide
/-- what was said of a throne -/
theorem said_sim (hK : KwOk keys) (h : TS keys n lo kd fr to x key wh at7 en tk w2 ns L) (hT : TR T U n) (hn : n ≤ 900) (hk : key = nI 7) {fsh : Nat → Int32} (h5 : ¬ fsh 5 = 0) {sw : Int32} (hs : (fsh 4).toInt = sw.toInt + 1) (fn fp fa pl : Int32) :
    (∃ (kd8 fr8 to8 : Int32) (x8 : Int64) (key8 wh8 at8 en8 tk8 w8 ns8 : Int32) (L8 : Nat → Int32) (s8 : Int32), TS keys n lo kd8 fr8 to8 x8 key8 wh8 at8 en8 tk8 w8 ns8 L8 ∧ 0 ≤ s8.toInt ∧ s8.toInt ≤ 99 ∧ PX3_readSaid fn fp T (nI n) kd fr to x key wh keys sw = (1, fn, fp, kd8, fr8, to8, x8, key8, wh8, s8) ∧ PX7_saidLine U (nI n) at7 en tk w2 ns fa pl L 0 fsh = (at8, en8, tk8, w8, ns8, fa, pl, 0, L8, upd fsh 4 (s8 + 1)))
    ∨ ∃ (q z c1 c2 c3 : Int32) (c4 : Int64) (c5 c6 c7 d1 d2 d3 d4 d5 : Int32) (M F : Nat → Int32), PX3_readSaid fn fp T (nI n) kd fr to x key wh keys sw = (0, q, z, c1, c2, c3, c4, c5, c6, c7) ∧ PX7_saidLine U (nI n) at7 en tk w2 ns fa pl L 0 fsh = (d1, d2, d3, d4, d5, q, z, 1, M, F) := by
  have hfr := h.frq
  obtain ⟨a, b, hC⟩ := h.tok
  rw [PX3_readSaid_eq, PX7_saidLine_eq]
  dsimp only [lt_]
  rw [four_cl]
  by_cases hw : sw.toInt < 0
  · rw [if_pos (show sw < 0 by rw [fz_lt, kc_0]; exact hw), if_pos (show fsh 4 ≤ 0 by rw [fz_le, kc_0]; omega)]
    obtain ⟨kd1, fr1, to1, x1, key1, wh1, at1, en1, tk1, w1, ns1, L1, g1, g2, g3, -⟩ := h.next hT hn x wh L
    rw [un6_eq g1, ((beg_7 hK hC).2 hk).2.2 (by decide) h5 g2, un10_eq rfl]
    rcases num_sim g3 hT hn 0 99 fn fp fa pl with ⟨b1, b2, b3, kd2, fr2, to2, x2, key2, wh2, at9, en9, tk9, w9, ns9, L9, ⟨c1, c2, c3, -⟩, c4⟩ | ⟨q, c1, c2⟩
    · left
      refine ⟨kd2, fr2, to2, x2, key2, wh2, at9, en9, tk9, w9, ns9, L9, wh1, c3, by rw [kc_0] at b1; exact b1, by rw [kc_99] at b2; exact b2, ?_, ?_⟩
      · rw [un3_eq b3, if_neg (show ¬ (1 : Int32) = 0 by decide), un6_eq c1]
      · rw [un10_eq c4, if_pos rfl]
    · right
      rw [un3_eq c1, if_pos rfl, un10_eq c2, if_neg (show ¬ (1 : Int32) = 0 by decide)]
      exact ⟨_, _, _, _, _, _, _, _, _, _, _, _, _, _, _, _, rfl, rfl⟩
  · right
    rw [if_neg (show ¬ sw < 0 by rw [fz_lt, kc_0]; exact hw), if_neg (show ¬ fsh 4 ≤ 0 by rw [fz_le, kc_0]; omega), fl0, un3_eq rfl, wr0, un3_eq rfl, beg_f (by decide), un10_eq rfl, num_f (by decide), un10_eq rfl, if_neg (show ¬ (1 : Int32) = 0 by decide), hfr]
    exact ⟨_, _, _, _, _, _, _, _, _, _, _, _, _, _, _, _, rfl, rfl⟩
/-- the court's own line -/
theorem court_sim (hK : KwOk keys) (h : TS keys n lo kd fr to x key wh at7 en tk w2 ns L) (hT : TR T U n) (hn : n ≤ 900) {fsh : Nat → Int32} {told : Int32} (ht : told = 0 ∨ told = 1) (h5 : fsh 5 = told) (sl fn fp fa pl : Int32) :
    (∃ (kd8 fr8 to8 : Int32) (x8 : Int64) (key8 wh8 at8 en8 tk8 w8 ns8 : Int32) (L8 : Nat → Int32) (s8 : Int32), TS keys n lo kd8 fr8 to8 x8 key8 wh8 at8 en8 tk8 w8 ns8 L8 ∧ 0 ≤ s8.toInt ∧ s8.toInt ≤ 100 ∧ PX3_readCourt fn fp T (nI n) kd fr to x key wh told keys sl = (1, fn, fp, kd8, fr8, to8, x8, key8, wh8, 1, s8) ∧ PX7_courtLine U (nI n) at7 en tk w2 ns fa pl L 0 fsh = (at8, en8, tk8, w8, ns8, fa, pl, 0, L8, upd (upd fsh 0 s8) 5 1))
    ∨ ∃ (q z c1 c2 c3 : Int32) (c4 : Int64) (c5 c6 c7 c8 d1 d2 d3 d4 d5 : Int32) (M F : Nat → Int32), PX3_readCourt fn fp T (nI n) kd fr to x key wh told keys sl = (0, q, z, c1, c2, c3, c4, c5, c6, c7, c8) ∧ PX7_courtLine U (nI n) at7 en tk w2 ns fa pl L 0 fsh = (d1, d2, d3, d4, d5, q, z, 1, M, F) := by
  have hfr := h.frq
  rw [PX3_readCourt_eq, PX7_courtLine_eq]
  dsimp only [lt_]
  rw [five_cl, zero_cl, h5]
  rcases ht with rfl | rfl
  · rw [if_pos rfl, if_pos (show (0 : Int32) ≤ 0 by decide), if_pos rfl]
    obtain ⟨kd1, fr1, to1, x1, key1, wh1, at1, en1, tk1, w1, ns1, L1, g1, g2, g3, -⟩ := h.next hT hn x wh L
    rw [un6_eq g1, un6_eq g2]
    rcases after_8 hK g3 hT hn 0 100 fn fp fa pl with ⟨kd2, fr2, to2, x2, key2, wh2, kd3, fr3, to3, x3, key3, wh3, at8, en8, tk8, w8, ns8, L8, e1, e2, e3, e4, e5, e6, e7, e8⟩ | ⟨e1, e2⟩ | ⟨kd2, fr2, to2, x2, key2, wh2, q, z, at8, en8, tk8, w8, ns8, L8, e1, e2, e3, e4⟩
    · left
      refine ⟨kd3, fr3, to3, x3, key3, wh3, at8, en8, tk8, w8, ns8, L8, wh2, e7, by rw [kc_0] at e4; exact e4, by rw [kc_100] at e5; exact e5, ?_, ?_⟩
      · rw [if_pos (show key1 = 8 from e1), un6_eq e2, un3_eq e3, if_neg (show ¬ (1 : Int32) = 0 by decide), un6_eq e6]
      · rw [un10_eq e8, if_pos rfl]
    · right
      rw [if_neg (show ¬ key1 = 8 from e1), fl0, un3_eq rfl, un10_eq e2, if_neg (show ¬ (1 : Int32) = 0 by decide), g3.frq]
      exact ⟨_, _, _, _, _, _, _, _, _, _, _, _, _, _, _, _, _, rfl, rfl⟩
    · right
      rw [if_pos (show key1 = 8 from e1), un6_eq e2, un3_eq e3, if_pos rfl, un10_eq e4, if_neg (show ¬ (1 : Int32) = 0 by decide)]
      exact ⟨_, _, _, _, _, _, _, _, _, _, _, _, _, _, _, _, _, rfl, rfl⟩
  · right
    rw [if_neg (show ¬ (1 : Int32) = 0 by decide), if_neg (show ¬ (1 : Int32) ≤ 0 by decide), fl0, un3_eq rfl, wr0, un3_eq rfl, if_neg (show ¬ (1 : Int32) = 0 by decide), hfr]
    exact ⟨_, _, _, _, _, _, _, _, _, _, _, _, _, _, _, _, _, rfl, rfl⟩
/-- the throne's line -/
theorem throne_sim (hK : KwOk keys) (h : TS keys n lo kd fr to x key wh at7 en tk w2 ns L) (hT : TR T U n) (hn : n ≤ 900) (hk : key = nI 5) {fsh : Nat → Int32} (h5 : ¬ fsh 5 = 0) {names : Nat → Int64} {N : Nat} (hN : N ≤ 18) (hR : NamesR names fsh N) {th : Int32} (hth : fsh 6 = th) (fn fp fa pl : Int32) :
    (∃ (kd8 fr8 to8 : Int32) (x8 : Int64) (key8 wh8 at8 en8 tk8 w8 ns8 : Int32) (L8 : Nat → Int32) (j : Nat), TS keys n lo kd8 fr8 to8 x8 key8 wh8 at8 en8 tk8 w8 ns8 L8 ∧ j < N ∧ PX3_readThrone fn fp T (nI n) kd fr to x key wh names keys (nI N) th = (1, fn, fp, kd8, fr8, to8, x8, key8, wh8, nI j) ∧ PX7_throneLine U (nI n) at7 en tk w2 ns fa pl L 0 fsh = (at8, en8, tk8, w8, ns8, fa, pl, 0, L8, upd fsh 6 (nI j)))
    ∨ ∃ (q z c1 c2 c3 : Int32) (c4 : Int64) (c5 c6 c7 d1 d2 d3 d4 d5 : Int32) (M F : Nat → Int32), PX3_readThrone fn fp T (nI n) kd fr to x key wh names keys (nI N) th = (0, q, z, c1, c2, c3, c4, c5, c6, c7) ∧ PX7_throneLine U (nI n) at7 en tk w2 ns fa pl L 0 fsh = (d1, d2, d3, d4, d5, q, z, 1, M, F) := by
  have hfr := h.frq
  obtain ⟨a, b, hC⟩ := h.tok
  rw [PX3_readThrone_eq, PX7_throneLine_eq]
  dsimp only [lt_]
  rw [six_cl, hth]
  by_cases hw : th < 0
  · rw [if_pos hw, if_pos hw]
    obtain ⟨kd1, fr1, to1, x1, key1, wh1, at1, en1, tk1, w1, ns1, L1, g1, g2, g3, -⟩ := h.next hT hn x wh L
    rw [un6_eq g1, ((beg_5 hK hC).2 hk).2.2 (by decide) h5 g2, un10_eq rfl]
    rcases told_sim hK g3 hN hR fn fp fa pl with ⟨e1, j, e2, e3, e4⟩ | ⟨q, e1, e2⟩
    · left
      obtain ⟨kd2, fr2, to2, x2, key2, wh2, at9, en9, tk9, w9, ns9, L9, k1, k2, k3, -⟩ := g3.next hT hn x1 wh1 L1
      refine ⟨kd2, fr2, to2, x2, key2, wh2, at9, en9, tk9, w9, ns9, L9, j, k3, e2, ?_, ?_⟩
      · rw [un3_eq e1, if_neg (show ¬ (1 : Int32) = 0 by decide), e3, un6_eq k1]
      · rw [un4_eq e4, pass1 k2, un6_eq rfl, if_pos rfl]
    · right
      rw [un3_eq e1, if_pos rfl, un4_eq e2, pass0 (by decide), un6_eq rfl, if_neg (show ¬ (1 : Int32) = 0 by decide)]
      exact ⟨_, _, _, _, _, _, _, _, _, _, _, _, _, _, _, _, rfl, rfl⟩
  · right
    rw [if_neg hw, if_neg hw, fl0, un3_eq rfl, wr0, un3_eq rfl, beg_f (by decide), un10_eq rfl, nh_f (by decide), un4_eq rfl, pass0 (by decide), un6_eq rfl, if_neg (show ¬ (1 : Int32) = 0 by decide), hfr]
    exact ⟨_, _, _, _, _, _, _, _, _, _, _, _, _, _, _, _, rfl, rfl⟩
end LN
end
section
/-! what both sides have read so far -/
theorem upd_ne {f : Nat → Int32} {i j : Nat} {v : Int32} (h : ¬ j = i) : upd f i v j = f j := if_neg h
theorem upd_at (f : Nat → Int32) (i : Nat) (v : Int32) : upd f i v i = v := if_pos rfl
/-- the nodes: kinds, parts, weights, worths -/
def KR (N : Nat) (kind parts pn wt tw fsh rd : Nat → Int32) : Prop :=
  (∀ k : Nat, k < N → kind k = fsh (9 + k) ∧ parts k = fsh (27 + k) ∧ tw k = rd (72 + k) ∧ 0 ≤ (fsh (27 + k)).toInt ∧ (fsh (27 + k)).toInt ≤ 4 ∧ ∀ i : Nat, (i : Int) < (fsh (27 + k)).toInt → pn (4 * k + i) = rd (4 * k + i) ∧ wt (4 * k + i) = fsh (45 + 4 * k + i)) ∧ ∀ k : Nat, N ≤ k → k < 18 → fsh (27 + k) = 0 ∧ rd (72 + k) = 0
/-- the words of which nobody is sure -/
def UR (Q : Nat) (uw uo fsh : Nat → Int32) : Prop := ∀ j : Nat, j < Q → uw j = fsh (117 + 2 * j) ∧ uo j = fsh (118 + 2 * j)
theorem NamesR.congr {names : Nat → Int64} {f g : Nat → Int32} {N : Nat} (h : NamesR names f N) (hN : N ≤ 18) (e : ∀ j : Nat, 125 ≤ j → j < 287 → g j = f j) : NamesR names g N := by
  refine ⟨fun k hk => ?_, fun k h1 h2 => by rw [e _ (by omega) (by omega)]; exact h.2 k h1 h2⟩
  obtain ⟨len, l1, l2, l3, l4, l5⟩ := h.1 k hk
  refine ⟨len, l1, l2, by rw [e _ (by omega) (by omega)]; exact l3, fun i hi => ?_, ?_⟩
  · show 97 ≤ (g (143 + 8 * k + i)).toInt ∧ (g (143 + 8 * k + i)).toInt ≤ 122
    rw [e _ (by omega) (by omega)]; exact l4 i hi
  · rw [l5]
    exact lcode_congr (fun i hi => (e _ (by omega) (by omega)).symm)
theorem KR.congr {N : Nat} {kind parts pn wt tw f g rd : Nat → Int32} (h : KR N kind parts pn wt tw f rd) (hN : N ≤ 18) (e : ∀ j : Nat, 9 ≤ j → j < 117 → g j = f j) : KR N kind parts pn wt tw g rd := by
  refine ⟨fun k hk => ?_, fun k h1 h2 => by rw [e _ (by omega) (by omega)]; exact h.2 k h1 h2⟩
  obtain ⟨h1, h2, h3, h4, h5, h6⟩ := h.1 k hk
  rw [e (9 + k) (by omega) (by omega), e (27 + k) (by omega) (by omega)]
  refine ⟨h1, h2, h3, h4, h5, fun i hi => ?_⟩
  rw [e (45 + 4 * k + i) (by omega) (by omega)]
  exact h6 i hi
theorem UR.congr {Q : Nat} {uw uo f g : Nat → Int32} (h : UR Q uw uo f) (hQ : Q ≤ 4) (e : ∀ j : Nat, 117 ≤ j → j < 125 → g j = f j) : UR Q uw uo g := fun j hj => by
  rw [e _ (by omega) (by omega), e _ (by omega) (by omega)]
  exact h j hj
/-- the numbers ahead -/
def HR (N W C Q : Nat) (told nodes words chances unsures slips throne said : Int32) (fsh : Nat → Int32) : Prop :=
  nodes = nI N ∧ words = nI W ∧ chances = nI C ∧ unsures = nI Q ∧ W ≤ N ∧ W ≤ 10 ∧ N - W ≤ 8 ∧ C ≤ 2 ∧ Q ≤ 4 ∧ fsh 1 = nI N ∧ fsh 2 = nI W ∧ fsh 7 = nI (N - W) ∧ fsh 8 = nI C ∧ fsh 3 = nI Q ∧ (told = 0 ∨ told = 1) ∧ fsh 5 = told ∧ fsh 0 = slips ∧ fsh 6 = throne ∧ (fsh 4).toInt = said.toInt + 1 ∧ -1 ≤ throne.toInt ∧ throne.toInt < N ∧ -1 ≤ said.toInt ∧ said.toInt ≤ 99 ∧ (told = 0 → N = 0 ∧ Q = 0 ∧ throne.toInt = -1 ∧ said.toInt = -1 ∧ C = 0)
def SR (names : Nat → Int64) (told nodes words chances unsures slips throne said : Int32) (kind parts pn wt tw uw uo fsh rd : Nat → Int32) : Prop :=
  ∃ N W C Q : Nat, HR N W C Q told nodes words chances unsures slips throne said fsh ∧ KR N kind parts pn wt tw fsh rd ∧ UR Q uw uo fsh ∧ NamesR names fsh N
theorem HR.N18 {N W C Q : Nat} {told nodes words chances unsures slips throne said : Int32} {fsh : Nat → Int32} (h : HR N W C Q told nodes words chances unsures slips throne said fsh) : N ≤ 18 := by
  obtain ⟨-, -, -, -, h1, h2, h3, -⟩ := h
  omega
section SRS
variable {names : Nat → Int64} {told nodes words chances unsures slips throne said : Int32} {kind parts pn wt tw uw uo fsh rd : Nat → Int32}
theorem SR.saidP (h : SR names told nodes words chances unsures slips throne said kind parts pn wt tw uw uo fsh rd) (ht : ¬ told = 0) {s : Int32} (h0 : 0 ≤ s.toInt) (h1 : s.toInt ≤ 99) : SR names told nodes words chances unsures slips throne s kind parts pn wt tw uw uo (upd fsh 4 (s + 1)) rd := by
  obtain ⟨N, W, C, Q, hH, hKR, hUR, hNR⟩ := h
  have hN := hH.N18
  obtain ⟨a1, a2, a3, a4, a5, a6, a7, a8, a9, b1, b2, b3, b4, b5, b6, b7, b8, b9, c1, c2, c3, c4, c5, c6⟩ := hH
  refine ⟨N, W, C, Q, ⟨a1, a2, a3, a4, a5, a6, a7, a8, a9, by rw [upd_ne (by decide)]; exact b1, by rw [upd_ne (by decide)]; exact b2, by rw [upd_ne (by decide)]; exact b3, by rw [upd_ne (by decide)]; exact b4, by rw [upd_ne (by decide)]; exact b5, b6, by rw [upd_ne (by decide)]; exact b7, by rw [upd_ne (by decide)]; exact b8, by rw [upd_ne (by decide)]; exact b9, ?_, c2, c3, by omega, h1, fun q => absurd q ht⟩, hKR.congr hN (fun j q1 q2 => upd_ne (by omega)), hUR.congr a9 (fun j q1 q2 => upd_ne (by omega)), hNR.congr hN (fun j q1 q2 => upd_ne (by omega))⟩
  rw [upd_at, fb_addI (by rw [kc_1]; omega) (by rw [kc_1]; omega), kc_1]
theorem SR.court (h : SR names told nodes words chances unsures slips throne said kind parts pn wt tw uw uo fsh rd) (s : Int32) : SR names 1 nodes words chances unsures s throne said kind parts pn wt tw uw uo (upd (upd fsh 0 s) 5 1) rd := by
  obtain ⟨N, W, C, Q, hH, hKR, hUR, hNR⟩ := h
  have hN := hH.N18
  obtain ⟨a1, a2, a3, a4, a5, a6, a7, a8, a9, b1, b2, b3, b4, b5, b6, b7, b8, b9, c1, c2, c3, c4, c5, c6⟩ := hH
  refine ⟨N, W, C, Q, ⟨a1, a2, a3, a4, a5, a6, a7, a8, a9, by rw [upd_ne (by decide), upd_ne (by decide)]; exact b1, by rw [upd_ne (by decide), upd_ne (by decide)]; exact b2, by rw [upd_ne (by decide), upd_ne (by decide)]; exact b3, by rw [upd_ne (by decide), upd_ne (by decide)]; exact b4, by rw [upd_ne (by decide), upd_ne (by decide)]; exact b5, Or.inr rfl, upd_at _ _ _, by rw [upd_ne (by decide), upd_at], by rw [upd_ne (by decide), upd_ne (by decide)]; exact b9, by rw [upd_ne (by decide), upd_ne (by decide)]; exact c1, c2, c3, c4, c5, fun q => absurd q (by decide)⟩, hKR.congr hN (fun j q1 q2 => by rw [upd_ne (by omega), upd_ne (by omega)]), hUR.congr a9 (fun j q1 q2 => by rw [upd_ne (by omega), upd_ne (by omega)]), hNR.congr hN (fun j q1 q2 => by rw [upd_ne (by omega), upd_ne (by omega)])⟩
theorem SR.throneP (h : SR names told nodes words chances unsures slips throne said kind parts pn wt tw uw uo fsh rd) (ht : ¬ told = 0) {N j : Nat} (hN0 : nodes = nI N) (hN18 : N ≤ 18) (hj : j < N) : SR names told nodes words chances unsures slips (nI j) said kind parts pn wt tw uw uo (upd fsh 6 (nI j)) rd := by
  obtain ⟨M, W, C, Q, hH, hKR, hUR, hNR⟩ := h
  have hN := hH.N18
  obtain ⟨a1, a2, a3, a4, a5, a6, a7, a8, a9, b1, b2, b3, b4, b5, b6, b7, b8, b9, c1, c2, c3, c4, c5, c6⟩ := hH
  have hMN : M = N := (nI_eq (by omega) (by omega)).mp (a1.symm.trans hN0)
  refine ⟨M, W, C, Q, ⟨a1, a2, a3, a4, a5, a6, a7, a8, a9, by rw [upd_ne (by decide)]; exact b1, by rw [upd_ne (by decide)]; exact b2, by rw [upd_ne (by decide)]; exact b3, by rw [upd_ne (by decide)]; exact b4, by rw [upd_ne (by decide)]; exact b5, b6, by rw [upd_ne (by decide)]; exact b7, by rw [upd_ne (by decide)]; exact b8, upd_at _ _ _, by rw [upd_ne (by decide)]; exact c1, by rw [nI_toInt (by omega)]; omega, by rw [nI_toInt (by omega)]; omega, c4, c5, fun q => absurd q ht⟩, hKR.congr hN (fun j q1 q2 => upd_ne (by omega)), hUR.congr a9 (fun j q1 q2 => upd_ne (by omega)), hNR.congr hN (fun j q1 q2 => upd_ne (by omega))⟩
end SRS
end
