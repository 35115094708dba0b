def KeyC (keys : Nat → Int64) (x : Int64) (key : Int32) : Prop := (key = -1 ∧ ∀ j : Nat, j < 10 → keys j ≠ x) ∨ ∃ j : Nat, j < 10 ∧ key = nI j ∧ keys j = x
theorem key_sim {keys : Nat → Int64} {z : Int32} {x : Int64} : ∀ (m i f : Nat) (acc : Int32), 10 - i = m → i ≤ 10 → m < f → ∃ key, HX3_takeLetters_2 keys z x f (nI i) acc = (1, z, x, key) ∧ ((key = acc ∧ ∀ j : Nat, i ≤ j → j < 10 → keys j ≠ x) ∨ ∃ j : Nat, i ≤ j ∧ j < 10 ∧ key = nI j ∧ keys j = x) := by
  intro m
  induction m with
  | zero =>
    intro i f acc hm hi hf
    obtain ⟨f, rfl⟩ : ∃ g, f = g + 1 := ⟨f - 1, by omega⟩
    refine ⟨acc, ?_, Or.inl ⟨rfl, fun j h1 h2 => by omega⟩⟩
    rw [HX3_takeLetters_2_eq, if_pos (show (10 : Int32) ≤ nI i by rw [fz_le, nI_toInt (by omega), kc_10]; omega)]
  | succ m ih =>
    intro i f acc hm hi hf
    obtain ⟨f, rfl⟩ : ∃ g, f = g + 1 := ⟨f - 1, by omega⟩
    rw [HX3_takeLetters_2_eq, if_neg (show ¬ (10 : Int32) ≤ nI i by rw [fz_le, nI_toInt (by omega), kc_10]; omega)]
    simp only [lt_]
    rw [nI_clamp (by omega), nI_o1]
    by_cases h : keys i = x
    · rw [if_pos ((lg_cmp0 _ _).mpr h)]
      obtain ⟨key, g1, g2⟩ := ih (i + 1) f (nI i) (by omega) (by omega) (by omega)
      refine ⟨key, g1, Or.inr ?_⟩
      rcases g2 with ⟨g2, -⟩ | ⟨j, g2, g3, g4, g5⟩
      · exact ⟨i, Nat.le_refl _, by omega, g2, h⟩
      · exact ⟨j, by omega, g3, g4, g5⟩
    · rw [if_neg (fun q => h ((lg_cmp0 _ _).mp q))]
      obtain ⟨key, g1, g2⟩ := ih (i + 1) f acc (by omega) (by omega) (by omega)
      refine ⟨key, g1, ?_⟩
      rcases g2 with ⟨g2, g3⟩ | ⟨j, g2, g3, g4, g5⟩
      · refine Or.inl ⟨g2, fun j h1 h2 => ?_⟩
        by_cases hj : j = i
        · rw [hj]; exact h
        · exact g3 j (by omega) h2
      · exact Or.inr ⟨j, by omega, g3, g4, g5⟩
theorem let_sim {T U : Nat → Int32} {n a : Nat} {key0 : Int32} {keys : Nat → Int64} (hT : TR T U n) (hn : n ≤ 900) : ∀ (m k f1 f2 : Nat) (x : Int64) (L : Nat → Int32), n - k = m → a ≤ k → k ≤ n → m < f1 → m < f2 → Lets (fun i => T (a + i)) (k - a) → (∀ i : Nat, i < k - a → i < 8 → L i = T (a + i)) → x = lcode (fun i => T (a + i)) (k - a) → ∃ (b : Nat) (M : Nat → Int32), k ≤ b ∧ b ≤ n ∧ Lets (fun i => T (a + i)) (b - a) ∧ HX3_takeLetters_0 T (nI n) (nI a) key0 keys f1 (nI k) x = (if b - a ≤ 8 then HX3_takeLetters_2 keys (nI b) (lcode (fun i => T (a + i)) (b - a)) (((2147483647 - (0 : Int32).toInt).toNat) + 1) 0 key0 else HX3_takeLetters_1 (nI b) (lcode (fun i => T (a + i)) (b - a)) (((2147483647 - (0 : Int32).toInt).toNat) + 1) 0 key0) ∧ HX7_next_2 U (nI n) (nI a) f2 (nI k) (nI (k - a)) L = (nI a, nI b, if b - a ≤ 8 then 2 else 1, 0, nI (b - a), M) ∧ (∀ i : Nat, i < b - a → i < 8 → M i = T (a + i)) ∧ (k < n → 97 ≤ (T k).toInt ∧ (T k).toInt ≤ 122 → k < b) := by
  intro m
  induction m with
  | zero =>
    intro k f1 f2 x L hm ha hk h1 h2 hl hL hx
    obtain ⟨f1, rfl⟩ : ∃ g, f1 = g + 1 := ⟨f1 - 1, by omega⟩
    obtain ⟨f2, rfl⟩ : ∃ g, f2 = g + 1 := ⟨f2 - 1, by omega⟩
    refine ⟨k, L, Nat.le_refl _, hk, hl, ?_, ?_, hL, fun h => absurd h (by omega)⟩
    · rw [HX3_takeLetters_0_eq, if_pos (nI_le (by omega) (by omega))]
      simp only [lt_]
      rw [nI_sub' ha (by omega), ← hx]
      by_cases hc : k - a ≤ 8
      · rw [if_neg (show ¬ (8 : Int32) < nI (k - a) by rw [fz_lt, nI_toInt (by omega), kc_8]; omega), if_pos hc]
      · rw [if_pos (show (8 : Int32) < nI (k - a) by rw [fz_lt, nI_toInt (by omega), kc_8]; omega), if_neg hc]
    · rw [HX7_next_2_eq]
      simp only [lt_]
      rw [see_ge U (by omega) (by omega), isS_m1, if_pos rfl]
      by_cases hc : k - a ≤ 8
      · rw [if_pos (show nI (k - a) ≤ (8 : Int32) by rw [fz_le, nI_toInt (by omega), kc_8]; omega), if_pos hc]
      · rw [if_neg (show ¬ nI (k - a) ≤ (8 : Int32) by rw [fz_le, nI_toInt (by omega), kc_8]; omega), if_neg hc]
  | succ m ih =>
    intro k f1 f2 x L hm ha hk h1 h2 hl hL hx
    obtain ⟨f1, rfl⟩ : ∃ g, f1 = g + 1 := ⟨f1 - 1, by omega⟩
    obtain ⟨f2, rfl⟩ : ∃ g, f2 = g + 1 := ⟨f2 - 1, by omega⟩
    have hkn : k < n := by omega
    have hTk := hT k hkn
    by_cases hd : 97 ≤ (T k).toInt ∧ (T k).toInt ≤ 122
    · have hU : U k = T k := by rw [fz_eq]; omega
      have hka : a + (k - a) = k := by omega
      obtain ⟨L2, hL2, hinv⟩ : ∃ L2 : Nat → Int32, (L2 = if (8 : Int32) ≤ nI (k - a) then L else upd L (k - a) (T k)) ∧ ∀ i : Nat, i < k + 1 - a → i < 8 → L2 i = T (a + i) := by
        refine ⟨_, rfl, fun i hi h8 => ?_⟩
        by_cases h3 : 8 ≤ k - a
        · rw [if_pos (show (8 : Int32) ≤ nI (k - a) by rw [fz_le, nI_toInt (by omega), kc_8]; omega)]; exact hL i (by omega) h8
        · rw [if_neg (show ¬ (8 : Int32) ≤ nI (k - a) by rw [fz_le, nI_toInt (by omega), kc_8]; omega)]
          show (if i = k - a then T k else L i) = T (a + i)
          by_cases hik : i = k - a
          · rw [if_pos hik, hik, hka]
          · rw [if_neg hik]; exact hL i (by omega) h8
      have hl2 : Lets (fun i => T (a + i)) (k + 1 - a) := fun i hi => by
        by_cases hik : i = k - a
        · show 97 ≤ (T (a + i)).toInt ∧ (T (a + i)).toInt ≤ 122
          rw [hik, hka]; exact hd
        · exact hl i (by omega)
      have hx2 : PX3_withLetter x (T k) = lcode (fun i => T (a + i)) (k + 1 - a) := by
        rw [show k + 1 - a = (k - a) + 1 from by omega]
        show PX3_withLetter x (T k) = PX3_withLetter (lcode (fun i => T (a + i)) (k - a)) (T (a + (k - a)))
        rw [hka, hx]
      obtain ⟨b, M, g1, g2, g3, g4, g5, g6, -⟩ := ih (k + 1) f1 f2 (PX3_withLetter x (T k)) L2 (by omega) (by omega) (by omega) (by omega) (by omega) hl2 hinv hx2
      refine ⟨b, M, by omega, g2, g3, ?_, ?_, g6, fun _ _ => by omega⟩
      · rw [HX3_takeLetters_0_eq, if_neg (by rw [nI_leI (by omega) (by omega)]; omega)]
        simp only [lt_]
        rw [byteAt_lt T (by omega), isL_eq, if_pos hd, if_neg (show ¬ (1 : Int32) = 0 by decide), nI_o1]
        exact g4
      · rw [HX7_next_2_eq]
        simp only [lt_]
        rw [see_lt U hkn hn, hU, isS_eq, if_pos hd, if_neg (show ¬ (1 : Int32) = 0 by decide), nI_o1, nI_1, show k - a + 1 = k + 1 - a from by omega, nI_clamp (by omega)]
        by_cases h3 : (8 : Int32) ≤ nI (k - a)
        · rw [if_pos h3]
          rw [if_pos h3] at hL2
          rw [← hL2]; exact g5
        · rw [if_neg h3]
          rw [if_neg h3] at hL2
          rw [← hL2]; exact g5
    · have hdU : ¬ (97 ≤ (U k).toInt ∧ (U k).toInt ≤ 122) := by omega
      refine ⟨k, L, Nat.le_refl _, hk, hl, ?_, ?_, hL, fun _ h => absurd h hd⟩
      · rw [HX3_takeLetters_0_eq, if_neg (by rw [nI_leI (by omega) (by omega)]; omega)]
        simp only [lt_]
        rw [byteAt_lt T (by omega), isL_eq, if_neg hd, if_pos rfl, nI_sub' ha (by omega), ← hx]
        by_cases hc : k - a ≤ 8
        · rw [if_neg (show ¬ (8 : Int32) < nI (k - a) by rw [fz_lt, nI_toInt (by omega), kc_8]; omega), if_pos hc]
        · rw [if_pos (show (8 : Int32) < nI (k - a) by rw [fz_lt, nI_toInt (by omega), kc_8]; omega), if_neg hc]
      · rw [HX7_next_2_eq]
        simp only [lt_]
        rw [see_lt U hkn hn, isS_eq, if_neg hdU, if_pos rfl]
        by_cases hc : k - a ≤ 8
        · rw [if_pos (show nI (k - a) ≤ (8 : Int32) by rw [fz_le, nI_toInt (by omega), kc_8]; omega), if_pos hc]
        · rw [if_neg (show ¬ nI (k - a) ≤ (8 : Int32) by rw [fz_le, nI_toInt (by omega), kc_8]; omega), if_neg hc]
def TokC (keys : Nat → Int64) (a b : Nat) (kd key wh tk w2 ns : Int32) (x : Int64) (L : Nat → Int32) : Prop :=
  (kd = 0 ∧ tk = 0 ∧ key = -1) ∨ (kd = 5 ∧ tk = 1 ∧ key = -1) ∨ (kd = 1 ∧ tk = 2 ∧ ∃ len : Nat, 1 ≤ len ∧ len ≤ 8 ∧ ns = nI len ∧ Lets L len ∧ x = lcode L len ∧ KeyC keys x key) ∨ (kd = 2 ∧ tk = 3 ∧ key = -1 ∧ wh = w2) ∨ (kd = 3 ∧ tk = 59 ∧ key = -1 ∧ b = a + 1) ∨ (kd = 4 ∧ tk = 44 ∧ key = -1 ∧ b = a + 1)
def TokR (keys : Nat → Int64) (n k : Nat) (c : Int32 × Int32 × Int32 × Int64 × Int32 × Int32) (m : Int32 × Int32 × Int32 × Int32 × Int32 × (Nat → Int32)) : Prop := ∃ (a b : Nat) (kd key wh tk w2 ns : Int32) (x : Int64) (L : Nat → Int32), c = (kd, nI a, nI b, x, key, wh) ∧ m = (nI a, nI b, tk, w2, ns, L) ∧ k ≤ a ∧ a ≤ b ∧ b ≤ n ∧ TokC keys a b kd key wh tk w2 ns x L
theorem tok_sim0 {T U : Nat → Int32} {n : Nat} {keys : Nat → Int64} {nm : Int64} {wh : Int32} {L : Nat → Int32} (hT : TR T U n) (hn : n ≤ 900) : ∀ (m k f1 f2 : Nat), n - k = m → k ≤ n → m < f1 → m < f2 → TokR keys n k (HX3_nextToken_0 T (nI n) nm wh keys f1 (nI k)) (HX7_next_0 U (nI n) L f2 (nI k)) := by
  intro m
  induction m with
  | zero =>
    intro k f1 f2 hm hk h1 h2
    obtain ⟨f1, rfl⟩ : ∃ g, f1 = g + 1 := ⟨f1 - 1, by omega⟩
    obtain ⟨f2, rfl⟩ : ∃ g, f2 = g + 1 := ⟨f2 - 1, by omega⟩
    obtain rfl : k = n := by omega
    refine ⟨k, k, 0, -1, wh, 0, 0, 0, nm, L, ?_, ?_, Nat.le_refl _, Nat.le_refl _, Nat.le_refl _, Or.inl ⟨rfl, rfl, rfl⟩⟩
    · rw [HX3_nextToken_0_eq, if_pos (nI_le (by omega) (by omega))]
      simp only [lt_]
      rw [if_neg (by rw [nI_ltI (by omega) (by omega)]; omega)]
    · rw [HX7_next_0_eq]
      simp only [lt_]
      rw [see_ge U (by omega) (by omega), if_neg (show ¬ (-1 : Int32) = 32 by decide), if_pos rfl]
  | succ m ih =>
    intro k f1 f2 hm hk h1 h2
    obtain ⟨f1, rfl⟩ : ∃ g, f1 = g + 1 := ⟨f1 - 1, by omega⟩
    obtain ⟨f2, rfl⟩ : ∃ g, f2 = g + 1 := ⟨f2 - 1, by omega⟩
    have hkn : k < n := by omega
    have hTk := hT k hkn
    have k32 : (32 : Int32).toInt = 32 := by decide
    have k59 : (59 : Int32).toInt = 59 := by decide
    have k44 : (44 : Int32).toInt = 44 := by decide
    rw [HX3_nextToken_0_eq, HX7_next_0_eq, if_neg (by rw [nI_leI (by omega) (by omega)]; omega)]
    simp only [lt_]
    rw [byteAt_lt T (by omega), see_lt U hkn hn, nI_o1, nI_1]
    by_cases hs : (T k).toInt = 32
    · rw [if_pos (show T k = 32 by rw [fz_eq, k32]; exact hs), if_pos (show U k = 32 by rw [fz_eq, k32]; omega)]
      obtain ⟨a, b, kd, key, w1, tk, w2, ns, x, M, g1, g2, g3, g4⟩ := ih (k + 1) f1 f2 (by omega) (by omega) (by omega) (by omega)
      exact ⟨a, b, kd, key, w1, tk, w2, ns, x, M, g1, g2, by omega, g4⟩
    · rw [if_neg (show ¬ T k = 32 by rw [fz_eq, k32]; exact hs), if_neg (show ¬ U k = 32 by rw [fz_eq, k32]; omega), if_pos (nI_lt hkn (by omega)), if_neg (show ¬ U k = -1 by rw [fz_eq, m1_int]; omega), isL_eq, isS_eq]
      by_cases hd : 97 ≤ (T k).toInt ∧ (T k).toInt ≤ 122
      · rw [if_pos hd, if_pos (show 97 ≤ (U k).toInt ∧ (U k).toInt ≤ 122 by omega), if_neg (show ¬ (1 : Int32) = 0 by decide), if_neg (show ¬ (1 : Int32) = 0 by decide), PX3_takeLetters_eq]
        have e0 : nI (k - k) = 0 := by rw [Nat.sub_self]; rfl
        obtain ⟨b, M, g1, g2, g3, g4, g5, g6, g7⟩ := let_sim (a := k) (key0 := -1) (keys := keys) hT hn (n - k) k ((2147483647 - (nI k).toInt).toNat + 1) ((900 - (nI k).toInt).toNat + 1) 0 L rfl (Nat.le_refl _) hk (by rw [nI_toInt (by omega)]; omega) (by rw [nI_toInt (by omega)]; omega) (fun i hi => absurd hi (by omega)) (fun i hi => absurd hi (by omega)) (by rw [Nat.sub_self]; rfl)
        rw [e0] at g5
        have hkb : k < b := g7 hkn hd
        rw [g4, g5]
        by_cases hc : b - k ≤ 8
        · rw [if_pos hc, if_pos hc]
          obtain ⟨key, q1, q2⟩ := key_sim (keys := keys) (z := nI b) (x := lcode (fun i => T (k + i)) (b - k)) 10 0 ((2147483647 - (0 : Int32).toInt).toNat + 1) (-1) rfl (by omega) (by rw [kc_0]; omega)
          rw [nI_0] at q1
          rw [q1]
          have eM : ∀ i : Nat, i < b - k → (fun i => T (k + i)) i = M i := fun i hi => (g6 i hi (by omega)).symm
          refine ⟨k, b, 1, key, wh, 2, 0, nI (b - k), lcode (fun i => T (k + i)) (b - k), M, rfl, rfl, Nat.le_refl _, g1, g2, Or.inr (Or.inr (Or.inl ⟨rfl, rfl, b - k, by omega, hc, rfl, g3.congr eM, lcode_congr eM, ?_⟩))⟩
          rcases q2 with ⟨q2, q3⟩ | ⟨j, q2, q3, q4, q5⟩
          · exact Or.inl ⟨q2, fun j hj => q3 j (Nat.zero_le _) hj⟩
          · exact Or.inr ⟨j, q3, q4, q5⟩
        · rw [if_neg hc, if_neg hc, HX3_takeLetters_1_eq, if_neg (show ¬ (10 : Int32) ≤ 0 by decide)]
          exact ⟨k, b, 5, -1, wh, 1, 0, nI (b - k), lcode (fun i => T (k + i)) (b - k), M, rfl, rfl, Nat.le_refl _, g1, g2, Or.inr (Or.inl ⟨rfl, rfl, rfl⟩)⟩
      · rw [if_neg hd, if_neg (show ¬ (97 ≤ (U k).toInt ∧ (U k).toInt ≤ 122) by omega), if_pos rfl, if_pos rfl, isD_eq, isD7_eq]
        by_cases hg : 48 ≤ (T k).toInt ∧ (T k).toInt ≤ 57
        · rw [if_pos hg, if_pos (show 48 ≤ (U k).toInt ∧ (U k).toInt ≤ 57 by omega), if_neg (show ¬ (1 : Int32) = 0 by decide), if_neg (show ¬ (1 : Int32) = 0 by decide), PX3_takeDigits_eq]
          have e0 : nI (k - k) = 0 := by rw [Nat.sub_self]; rfl
          obtain ⟨b, x, y, g1, g2, g3, g4, g5⟩ := dig_sim (a := k) (L := L) hT hn (n - k) k ((2147483647 - (nI k).toInt).toNat + 1) ((900 - (nI k).toInt).toNat + 1) 0 0 rfl (Nat.le_refl _) hk (by rw [nI_toInt (by omega)]; omega) (by rw [nI_toInt (by omega)]; omega) (fun _ => ⟨rfl, by decide, by decide, fun _ => by decide, fun _ => by decide, fun _ => by decide⟩)
          rw [e0] at g4
          rw [g3, g4]
          by_cases hc : b - k ≤ 3
          · rw [if_pos hc, if_pos hc]
            exact ⟨k, b, 2, -1, x, 3, y, 0, nm, L, rfl, rfl, Nat.le_refl _, g1, g2, Or.inr (Or.inr (Or.inr (Or.inl ⟨rfl, rfl, rfl, g5 hc⟩)))⟩
          · rw [if_neg hc, if_neg hc]
            exact ⟨k, b, 5, -1, x, 1, y, 0, nm, L, rfl, rfl, Nat.le_refl _, g1, g2, Or.inr (Or.inl ⟨rfl, rfl, rfl⟩)⟩
        · rw [if_neg hg, if_neg (show ¬ (48 ≤ (U k).toInt ∧ (U k).toInt ≤ 57) by omega), if_pos rfl, if_pos rfl]
          by_cases h59 : (T k).toInt = 59
          · rw [if_pos (show T k = 59 by rw [fz_eq, k59]; exact h59), if_pos (show U k = 59 by rw [fz_eq, k59]; omega)]
            exact ⟨k, k + 1, 3, -1, wh, U k, 0, 0, nm, L, rfl, rfl, Nat.le_refl _, by omega, by omega, Or.inr (Or.inr (Or.inr (Or.inr (Or.inl ⟨rfl, by rw [fz_eq, k59]; omega, rfl, by omega⟩))))⟩
          · rw [if_neg (show ¬ T k = 59 by rw [fz_eq, k59]; exact h59), if_neg (show ¬ U k = 59 by rw [fz_eq, k59]; omega)]
            by_cases h44 : (T k).toInt = 44
            · rw [if_pos (show T k = 44 by rw [fz_eq, k44]; exact h44), if_pos (show U k = 44 by rw [fz_eq, k44]; omega)]
              exact ⟨k, k + 1, 4, -1, wh, U k, 0, 0, nm, L, rfl, rfl, Nat.le_refl _, by omega, by omega, Or.inr (Or.inr (Or.inr (Or.inr (Or.inr ⟨rfl, by rw [fz_eq, k44]; omega, rfl, by omega⟩))))⟩
            · rw [if_neg (show ¬ T k = 44 by rw [fz_eq, k44]; exact h44), if_neg (show ¬ U k = 44 by rw [fz_eq, k44]; omega)]
              exact ⟨k, k + 1, 5, -1, wh, 1, 0, 0, nm, L, rfl, rfl, Nat.le_refl _, by omega, by omega, Or.inr (Or.inl ⟨rfl, rfl, rfl⟩)⟩
theorem tok_sim {T U : Nat → Int32} {n k : Nat} {keys : Nat → Int64} {nm : Int64} {wh : Int32} {L : Nat → Int32} (hT : TR T U n) (hn : n ≤ 900) (hk : k ≤ n) : TokR keys n k (PX3_nextToken T (nI n) (nI k) nm wh keys) (PX7_next U (nI n) (nI k) L) := by
  rw [PX3_nextToken_eq, PX7_next_eq]
  exact tok_sim0 hT hn (n - k) k _ _ rfl hk (by rw [nI_toInt (by omega)]; omega) (by rw [nI_toInt (by omega)]; omega)
