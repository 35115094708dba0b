/-! the same token on both sides -/
def TR (T U : Nat → Int32) (n : Nat) : Prop := ∀ j : Nat, j < n → -128 ≤ (T j).toInt ∧ (T j).toInt ≤ 127 ∧ ((0 ≤ (T j).toInt ∧ (U j).toInt = (T j).toInt) ∨ ((T j).toInt < 0 ∧ (U j).toInt = (T j).toInt + 256))
theorem isL_eq (c : Int32) : PX3_isLetter c = if 97 ≤ c.toInt ∧ c.toInt ≤ 122 then 1 else 0 := by
  have k1 : (97 : Int32).toInt = 97 := by decide
  have k2 : (122 : Int32).toInt = 122 := by decide
  rw [PX3_isLetter_eq]
  by_cases h1 : c < 97
  · rw [if_pos h1, if_neg (by rw [fz_lt, k1] at h1; omega)]
  · rw [if_neg h1]
    by_cases h2 : 122 < c
    · rw [if_pos h2, if_neg (by rw [fz_lt, k2] at h2; omega)]
    · rw [if_neg h2, if_pos (by rw [fz_lt, k1] at h1; rw [fz_lt, k2] at h2; omega)]
theorem isS_eq (c : Int32) : PX7_isSmall c = if 97 ≤ c.toInt ∧ c.toInt ≤ 122 then 1 else 0 := isL_eq c
theorem isD_eq (c : Int32) : PX3_isDigit c = if 48 ≤ c.toInt ∧ c.toInt ≤ 57 then 1 else 0 := by
  have k1 : (48 : Int32).toInt = 48 := by decide
  have k2 : (57 : Int32).toInt = 57 := by decide
  rw [PX3_isDigit_eq]
  by_cases h1 : c < 48
  · rw [if_pos h1, if_neg (by rw [fz_lt, k1] at h1; omega)]
  · rw [if_neg h1]
    by_cases h2 : 57 < c
    · rw [if_pos h2, if_neg (by rw [fz_lt, k2] at h2; omega)]
    · rw [if_neg h2, if_pos (by rw [fz_lt, k1] at h1; rw [fz_lt, k2] at h2; omega)]
theorem isD7_eq (c : Int32) : PX7_isDigit c = if 48 ≤ c.toInt ∧ c.toInt ≤ 57 then 1 else 0 := isD_eq c
theorem byteAt_lt (T : Nat → Int32) {k : Nat} (h : k < 900) : PX3_byteAt T (nI k) = T k := by
  rw [PX3_byteAt_eq, if_neg (nI_pos (by omega)), if_neg (show ¬ (900 : Int32) ≤ nI k by rw [fz_le, nI_toInt (by omega), kc_900]; omega)]
  show T (nI k).toNatClampNeg = T k
  rw [nI_clamp (by omega)]
theorem see_lt (U : Nat → Int32) {n k : Nat} (hk : k < n) (hn : n ≤ 900) : PX7_see_p U (nI n) (nI k) = U k := by
  rw [PX7_see_p_eq, if_neg (by rw [nI_leI (by omega) (by omega)]; omega)]
  show U (nI k).toNatClampNeg = U k
  rw [nI_clamp (by omega)]
theorem see_ge (U : Nat → Int32) {n k : Nat} (hk : n ≤ k) (hk2 : k < 2 ^ 31) : PX7_see_p U (nI n) (nI k) = -1 := by
  rw [PX7_see_p_eq, if_pos (by rw [nI_leI (by omega) (by omega)]; omega)]
theorem m1_int : (-1 : Int32).toInt = -1 := by decide
theorem isD7_m1 : PX7_isDigit (-1) = 0 := by rw [isD7_eq, if_neg (show ¬ (48 ≤ (-1 : Int32).toInt ∧ (-1 : Int32).toInt ≤ 57) by rw [m1_int]; omega)]
theorem isS_m1 : PX7_isSmall (-1) = 0 := by rw [isS_eq, if_neg (show ¬ (97 ≤ (-1 : Int32).toInt ∧ (-1 : Int32).toInt ≤ 122) by rw [m1_int]; omega)]
theorem dig_sim {T U : Nat → Int32} {n a : Nat} {L : Nat → Int32} (hT : TR T U n) (hn : n ≤ 900) : ∀ (m k f1 f2 : Nat) (w1 w2 : Int32), n - k = m → a ≤ k → k ≤ n → m < f1 → m < f2 → (k - a ≤ 3 → w1 = w2 ∧ 0 ≤ w1.toInt ∧ w1.toInt ≤ 999 ∧ (k - a ≤ 2 → w1.toInt ≤ 99) ∧ (k - a ≤ 1 → w1.toInt ≤ 9) ∧ (k - a = 0 → w1.toInt = 0)) → ∃ (b : Nat) (x y : Int32), k ≤ b ∧ b ≤ n ∧ HX3_takeDigits_0 T (nI n) (nI a) f1 (nI k) w1 = (if b - a ≤ 3 then 2 else 5, nI b, x) ∧ HX7_next_1 U (nI n) L (nI a) f2 (nI k) (nI (k - a)) w2 = (nI a, nI b, if b - a ≤ 3 then 3 else 1, y, 0, L) ∧ (b - a ≤ 3 → x = y) := by
  intro m
  induction m with
  | zero =>
    intro k f1 f2 w1 w2 hm ha hk h1 h2 hw
    obtain ⟨f1, rfl⟩ : ∃ g, f1 = g + 1 := ⟨f1 - 1, by omega⟩
    obtain ⟨f2, rfl⟩ : ∃ g, f2 = g + 1 := ⟨f2 - 1, by omega⟩
    refine ⟨k, w1, w2, Nat.le_refl _, hk, ?_, ?_, fun h => (hw h).1⟩
    · rw [HX3_takeDigits_0_eq, if_pos (nI_le (by omega) (by omega))]
      simp only [lt_]
      rw [nI_sub' ha (by omega)]
      by_cases hc : k - a ≤ 3
      · rw [if_neg (show ¬ (3 : Int32) < nI (k - a) by rw [fz_lt, nI_toInt (by omega), kc_3]; omega), if_pos hc]
      · rw [if_pos (show (3 : Int32) < nI (k - a) by rw [fz_lt, nI_toInt (by omega), kc_3]; omega), if_neg hc]
    · rw [HX7_next_1_eq]
      simp only [lt_]
      rw [see_ge U (by omega) (by omega), isD7_m1, if_pos rfl]
      by_cases hc : k - a ≤ 3
      · rw [if_pos (show nI (k - a) ≤ (3 : Int32) by rw [fz_le, nI_toInt (by omega), kc_3]; omega), if_pos hc]
      · rw [if_neg (show ¬ nI (k - a) ≤ (3 : Int32) by rw [fz_le, nI_toInt (by omega), kc_3]; omega), if_neg hc]
  | succ m ih =>
    intro k f1 f2 w1 w2 hm ha hk h1 h2 hw
    obtain ⟨f1, rfl⟩ : ∃ g, f1 = g + 1 := ⟨f1 - 1, by omega⟩
    obtain ⟨f2, rfl⟩ : ∃ g, f2 = g + 1 := ⟨f2 - 1, by omega⟩
    have hkn : k < n := by omega
    have hTk := hT k hkn
    by_cases hd : 48 ≤ (T k).toInt ∧ (T k).toInt ≤ 57
    · have hU : U k = T k := by rw [fz_eq]; omega
      have k48 : (48 : Int32).toInt = 48 := by decide
      have k10 : (10 : Int32).toInt = 10 := by decide
      obtain ⟨w2', hw2', hinv⟩ : ∃ w2' : Int32, (w2' = if (3 : Int32) ≤ nI (k - a) then w2 else 10 * w2 + T k - 48) ∧ (k + 1 - a ≤ 3 → w1 * 10 + (T k - 48) = w2' ∧ 0 ≤ (w1 * 10 + (T k - 48)).toInt ∧ (w1 * 10 + (T k - 48)).toInt ≤ 999 ∧ (k + 1 - a ≤ 2 → (w1 * 10 + (T k - 48)).toInt ≤ 99) ∧ (k + 1 - a ≤ 1 → (w1 * 10 + (T k - 48)).toInt ≤ 9) ∧ (k + 1 - a = 0 → (w1 * 10 + (T k - 48)).toInt = 0)) := by
        refine ⟨_, rfl, fun h3 => ?_⟩
        obtain ⟨q1, q2, q3, q4, q5, q6⟩ := hw (by omega)
        have q4 := q4 (by omega)
        subst q1
        have e1 : (w1 * 10).toInt = w1.toInt * 10 := by rw [fb_mulI (by rw [k10]; omega) (by rw [k10]; omega), k10]
        have e2 : (T k - 48).toInt = (T k).toInt - 48 := by rw [fb_subI (by rw [k48]; omega) (by rw [k48]; omega), k48]
        have e3 : (w1 * 10 + (T k - 48)).toInt = w1.toInt * 10 + ((T k).toInt - 48) := by rw [fb_addI (by rw [e1, e2]; omega) (by rw [e1, e2]; omega), e1, e2]
        have e4 : (10 * w1).toInt = 10 * w1.toInt := by rw [fb_mulI (by rw [k10]; omega) (by rw [k10]; omega), k10]
        have e5 : (10 * w1 + T k).toInt = 10 * w1.toInt + (T k).toInt := by rw [fb_addI (by rw [e4]; omega) (by rw [e4]; omega), e4]
        have e6 : (10 * w1 + T k - 48).toInt = 10 * w1.toInt + (T k).toInt - 48 := by rw [fb_subI (by rw [e5, k48]; omega) (by rw [e5, k48]; omega), e5, k48]
        rw [if_neg (show ¬ (3 : Int32) ≤ nI (k - a) by rw [fz_le, nI_toInt (by omega), kc_3]; omega), fz_eq, e3, e6]
        refine ⟨by omega, by omega, by omega, fun h => ?_, fun h => ?_, fun h => by omega⟩
        · have := q5 (by omega); omega
        · have := q6 (by omega); omega
      obtain ⟨b, x, y, g1, g2, g3, g4, g5⟩ := ih (k + 1) f1 f2 (w1 * 10 + (T k - 48)) w2' (by omega) (by omega) (by omega) (by omega) (by omega) hinv
      refine ⟨b, x, y, by omega, g2, ?_, ?_, g5⟩
      · rw [HX3_takeDigits_0_eq, if_neg (by rw [nI_leI (by omega) (by omega)]; omega)]
        simp only [lt_]
        rw [byteAt_lt T (by omega), isD_eq, if_pos hd, if_neg (show ¬ (1 : Int32) = 0 by decide), nI_o1]
        exact g3
      · rw [HX7_next_1_eq]
        simp only [lt_]
        rw [see_lt U hkn hn, hU, isD7_eq, if_pos hd, if_neg (show ¬ (1 : Int32) = 0 by decide), nI_o1, nI_o1, show k - a + 1 = k + 1 - a from by omega]
        by_cases h3 : (3 : Int32) ≤ nI (k - a)
        · rw [if_pos h3]
          rw [if_pos h3] at hw2'
          rw [← hw2']; exact g4
        · rw [if_neg h3]
          rw [if_neg h3] at hw2'
          rw [← hw2']; exact g4
    · have hdU : ¬ (48 ≤ (U k).toInt ∧ (U k).toInt ≤ 57) := by omega
      refine ⟨k, w1, w2, Nat.le_refl _, hk, ?_, ?_, fun h => (hw h).1⟩
      · rw [HX3_takeDigits_0_eq, if_neg (by rw [nI_leI (by omega) (by omega)]; omega)]
        simp only [lt_]
        rw [byteAt_lt T (by omega), isD_eq, if_neg hd, if_pos rfl, nI_sub' ha (by omega)]
        by_cases hc : k - a ≤ 3
        · rw [if_neg (show ¬ (3 : Int32) < nI (k - a) by rw [fz_lt, nI_toInt (by omega), kc_3]; omega), if_pos hc]
        · rw [if_pos (show (3 : Int32) < nI (k - a) by rw [fz_lt, nI_toInt (by omega), kc_3]; omega), if_neg hc]
      · rw [HX7_next_1_eq]
        simp only [lt_]
        rw [see_lt U hkn hn, isD7_eq, if_neg hdU, if_pos rfl]
        by_cases hc : k - a ≤ 3
        · rw [if_pos (show nI (k - a) ≤ (3 : Int32) by rw [fz_le, nI_toInt (by omega), kc_3]; omega), if_pos hc]
        · rw [if_neg (show ¬ nI (k - a) ≤ (3 : Int32) by rw [fz_le, nI_toInt (by omega), kc_3]; omega), if_neg hc]
