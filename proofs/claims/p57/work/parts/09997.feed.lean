/-! feed on both sides -/
section FD
theorem and255 (x : Int32) : (x &&& 255).toInt = x.toInt % 256 := by
  have h1 : (x &&& 255).toBitVec.toNat = x.toBitVec.toNat % 256 := by
    rw [Int32.toBitVec_and, BitVec.toNat_and]
    exact Nat.and_two_pow_sub_one_eq_mod _ 8
  have h2 : (x &&& 255).toInt = ((x.toBitVec.toNat % 256 : Nat) : Int) := by
    rw [← Int32.toInt_toBitVec, BitVec.toInt_eq_toNat_of_lt (by rw [h1]; omega), h1]
  have h3 := BitVec.toInt_eq_toNat_cond x.toBitVec
  rw [Int32.toInt_toBitVec] at h3
  rw [h2, h3]
  by_cases h : 2 * x.toBitVec.toNat < 2 ^ 32
  · rw [if_pos h]; omega
  · rw [if_neg h]; omega
/-- the byte that a number has behind a shift, as the class keeps it and as the reference does -/
def bC (p s : Int32) : Int32 := vp_nar .byte ((p >>> (s &&& 31)).toInt8.toInt32)
def bM (p s : Int32) : Int32 := (p >>> (s &&& 31)) &&& 255
theorem byte_tr (p s : Int32) : -128 ≤ (bC p s).toInt ∧ (bC p s).toInt ≤ 127 ∧ ((0 ≤ (bC p s).toInt ∧ (bM p s).toInt = (bC p s).toInt) ∨ ((bC p s).toInt < 0 ∧ (bM p s).toInt = (bC p s).toInt + 256)) := by
  have e1 : (bC p s).toInt = ((p >>> (s &&& 31)).toInt.bmod 256).bmod 256 := by
    show ((((p >>> (s &&& 31)).toInt8.toInt32).toInt8.toInt32)).toInt = _
    rw [Int8.toInt_toInt32, Int32.toInt_toInt8, Int8.toInt_toInt32, Int32.toInt_toInt8]
  have e2 : (bM p s).toInt = (p >>> (s &&& 31)).toInt % 256 := and255 _
  rw [e1, e2, Int.bmod_def, Int.bmod_def]
  omega
/-- which number a byte of the twenty is of, and behind which shift -/
def fdP (p0 p1 p2 p3 p4 : Int32) (k : Nat) : Int32 := if k < 4 then p0 else if k < 8 then p1 else if k < 12 then p2 else if k < 16 then p3 else p4
def fdS (k : Nat) : Int32 := nI (24 - 8 * (k % 4))
theorem put4 (p : Int32) {t : Nat} (ht : t ≤ 896) (F : Nat → Int32) : PX3_putBytes (nI t) F p = (nI (t + 4), upd (upd (upd (upd F t (bC p 24)) (t + 1) (bC p 16)) (t + 2) (bC p 8)) (t + 3) (bC p 0)) := by
  have st : ∀ (g k : Nat) (s : Int32) (G : Nat → Int32), ¬ s < 0 → k < 900 → HX3_putBytes_0 p (g + 1) s (nI k) G = HX3_putBytes_0 p g (s + Int32.ofInt (-8)) (nI (k + 1)) (upd G k (bC p s)) := fun g k s G hs hk => by
    rw [HX3_putBytes_0_eq, if_neg hs, if_neg (show ¬ (900 : Int32) ≤ nI k by rw [fz_le, kc_900, nI_toInt (by omega)]; omega)]
    dsimp only [lt_]
    rw [nI_clamp (by omega), nI_1]
    rfl
  rw [PX3_putBytes_eq, show ((((24 : Int32).toInt + 8).toNat) + 1) = 28 + 1 + 1 + 1 + 1 + 1 from by decide, st _ _ _ _ (by decide) (by omega), st _ _ _ _ (by decide) (by omega), st _ _ _ _ (by decide) (by omega), st _ _ _ _ (by decide) (by omega), HX3_putBytes_0_eq, if_pos (by decide)]
  rfl
theorem mod4 {k : Nat} (hk : k < 20) : (24 : Int32) - (8 : Int32) * (nI k - nI k / (4 : Int32) * (4 : Int32)) = fdS k := by
  rcases (show k = 0 ∨ k = 1 ∨ k = 2 ∨ k = 3 ∨ k = 4 ∨ k = 5 ∨ k = 6 ∨ k = 7 ∨ k = 8 ∨ k = 9 ∨ k = 10 ∨ k = 11 ∨ k = 12 ∨ k = 13 ∨ k = 14 ∨ k = 15 ∨ k = 16 ∨ k = 17 ∨ k = 18 ∨ k = 19 by omega) with rfl | rfl | rfl | rfl | rfl | rfl | rfl | rfl | rfl | rfl | rfl | rfl | rfl | rfl | rfl | rfl | rfl | rfl | rfl | rfl <;> decide
theorem fd_loop {p0 p1 p2 p3 p4 : Int32} : ∀ (m k f t : Nat) (F : Nat → Int32), 20 - k = m → k ≤ 20 → m < f → t + m ≤ 900 → ∃ G : Nat → Int32, HX7_feed_0 p0 p1 p2 p3 p4 f (nI k) (nI t) F = (nI (t + m), 0, nI (t + m), G) ∧ (∀ j : Nat, j < t → G j = F j) ∧ ∀ i : Nat, i < m → G (t + i) = bM (fdP p0 p1 p2 p3 p4 (k + i)) (fdS (k + i)) := by
  have k20 : (20 : Int32).toInt = 20 := by decide
  have k12 : (12 : Int32).toInt = 12 := by decide
  have k16 : (16 : Int32).toInt = 16 := by decide
  intro m
  induction m with
  | zero =>
    intro k f t F hm hk hf ht
    obtain ⟨f, rfl⟩ : ∃ g, f = g + 1 := ⟨f - 1, by omega⟩
    refine ⟨F, ?_, fun _ _ => rfl, fun i hi => absurd hi (by omega)⟩
    rw [HX7_feed_0_eq, if_pos (show (20 : Int32) ≤ nI k by rw [fz_le, k20, nI_toInt (by omega)]; omega)]
    rfl
  | succ m ih =>
    intro k f t F hm hk hf ht
    obtain ⟨f, rfl⟩ : ∃ g, f = g + 1 := ⟨f - 1, by omega⟩
    have hst : HX7_feed_0 p0 p1 p2 p3 p4 (f + 1) (nI k) (nI t) F = HX7_feed_0 p0 p1 p2 p3 p4 f (nI (k + 1)) (nI (t + 1)) (upd F t (bM (fdP p0 p1 p2 p3 p4 k) (fdS k))) := by
      rw [HX7_feed_0_eq, if_neg (show ¬ (20 : Int32) ≤ nI k by rw [fz_le, k20, nI_toInt (by omega)]; omega)]
      dsimp only [lt_]
      rw [mod4 (by omega), nI_clamp (by omega), nI_o1, nI_1]
      unfold fdP bM
      by_cases h4 : k < 4
      · rw [if_neg (show ¬ (4 : Int32) ≤ nI k by rw [fz_le, kc_4, nI_toInt (by omega)]; omega), if_pos h4]
      · rw [if_pos (show (4 : Int32) ≤ nI k by rw [fz_le, kc_4, nI_toInt (by omega)]; omega), if_neg h4]
        by_cases h8 : k < 8
        · rw [if_neg (show ¬ (8 : Int32) ≤ nI k by rw [fz_le, kc_8, nI_toInt (by omega)]; omega), if_pos h8]
        · rw [if_pos (show (8 : Int32) ≤ nI k by rw [fz_le, kc_8, nI_toInt (by omega)]; omega), if_neg h8]
          by_cases h12 : k < 12
          · rw [if_neg (show ¬ (12 : Int32) ≤ nI k by rw [fz_le, k12, nI_toInt (by omega)]; omega), if_pos h12]
          · rw [if_pos (show (12 : Int32) ≤ nI k by rw [fz_le, k12, nI_toInt (by omega)]; omega), if_neg h12]
            by_cases h16 : k < 16
            · rw [if_neg (show ¬ (16 : Int32) ≤ nI k by rw [fz_le, k16, nI_toInt (by omega)]; omega), if_pos h16]
            · rw [if_pos (show (16 : Int32) ≤ nI k by rw [fz_le, k16, nI_toInt (by omega)]; omega), if_neg h16]
    obtain ⟨G, g1, g2, g3⟩ := ih (k + 1) f (t + 1) (upd F t (bM (fdP p0 p1 p2 p3 p4 k) (fdS k))) (by omega) (by omega) (by omega) (by omega)
    refine ⟨G, ?_, fun j hj => ?_, fun i hi => ?_⟩
    · rw [hst, g1, show t + 1 + m = t + (m + 1) from by omega]
    · rw [g2 j (by omega), upd_ne (by omega)]
    · by_cases hi0 : i = 0
      · subst hi0
        show G t = _
        rw [g2 t (by omega), upd_at]
        rfl
      · have q := g3 (i - 1) (by omega)
        rw [show t + 1 + (i - 1) = t + i from by omega, show k + 1 + (i - 1) = k + i from by omega] at q
        exact q
/-- after a feed both tapes still tell the same bytes -/
theorem feed_pure {T U : Nat → Int32} {t : Nat} (hT : TR T U t) (ht : t ≤ 880) (p0 p1 p2 p3 p4 : Int32) : ∃ T2 U2 : Nat → Int32, PX6_feed (nI t) T p0 p1 p2 p3 p4 = (nI (t + 20), nI (t + 20), T2) ∧ PX7_feed U (nI t) p0 p1 p2 p3 p4 = (nI (t + 20), 0, nI (t + 20), U2) ∧ TR T2 U2 (t + 20) := by
  have k880 : (880 : Int32).toInt = 880 := by decide
  obtain ⟨U2, u1, u2, u3⟩ := fd_loop (p0 := p0) (p1 := p1) (p2 := p2) (p3 := p3) (p4 := p4) 20 0 (((20 - (0 : Int32).toInt).toNat) + 1) t U rfl (by omega) (by rw [kc_0]; omega) (by omega)
  rw [nI_0] at u1
  refine ⟨?T2, U2, ?ga, ?gb, ?gc⟩
  case ga =>
    rw [PX6_feed_eq, if_pos (show nI t ≤ (880 : Int32) by rw [fz_le, k880, nI_toInt (by omega)]; omega), put4 p0 (by omega), un2_eq rfl, put4 p1 (by omega), un2_eq rfl, put4 p2 (by omega), un2_eq rfl, put4 p3 (by omega), un2_eq rfl, put4 p4 (by omega), un2_eq rfl]
    try exact rfl
  case gb =>
    rw [PX7_feed_eq]
    dsimp only [lt_]
    rw [show (20 : Int32) = nI 20 from rfl, nI_add, if_pos (show nI (t + 20) ≤ (900 : Int32) by rw [fz_le, kc_900, nI_toInt (by omega)]; omega)]
    exact u1
  case gc =>
    intro j hj
    by_cases h : j < t
    · have q := hT j h
      rw [u2 j h]
      simp only [upd]
      rw [if_neg (by omega), if_neg (by omega), if_neg (by omega), if_neg (by omega), if_neg (by omega), if_neg (by omega), if_neg (by omega), if_neg (by omega), if_neg (by omega), if_neg (by omega), if_neg (by omega), if_neg (by omega), if_neg (by omega), if_neg (by omega), if_neg (by omega), if_neg (by omega), if_neg (by omega), if_neg (by omega), if_neg (by omega), if_neg (by omega)]
      exact q
    · obtain ⟨i, hi, rfl⟩ : ∃ i : Nat, i < 20 ∧ j = t + i := ⟨j - t, by omega, by omega⟩
      rw [u3 i hi, Nat.zero_add]
      have key : ∀ (v : Int32), v = bC (fdP p0 p1 p2 p3 p4 i) (fdS i) → -128 ≤ v.toInt ∧ v.toInt ≤ 127 ∧ ((0 ≤ v.toInt ∧ (bM (fdP p0 p1 p2 p3 p4 i) (fdS i)).toInt = v.toInt) ∨ (v.toInt < 0 ∧ (bM (fdP p0 p1 p2 p3 p4 i) (fdS i)).toInt = v.toInt + 256)) := fun v hv => by rw [hv]; exact byte_tr _ _
      refine key _ ?_
      simp only [upd]
      rcases (show i = 0 ∨ i = 1 ∨ i = 2 ∨ i = 3 ∨ i = 4 ∨ i = 5 ∨ i = 6 ∨ i = 7 ∨ i = 8 ∨ i = 9 ∨ i = 10 ∨ i = 11 ∨ i = 12 ∨ i = 13 ∨ i = 14 ∨ i = 15 ∨ i = 16 ∨ i = 17 ∨ i = 18 ∨ i = 19 by omega) with rfl | rfl | rfl | rfl | rfl | rfl | rfl | rfl | rfl | rfl | rfl | rfl | rfl | rfl | rfl | rfl | rfl | rfl | rfl | rfl <;> (repeat (first | rw [if_pos (by omega)] | rw [if_neg (by omega)])) <;> rfl
end FD
theorem fd_join {T U T2 U2 : Nat → Int32} {t u6 u7 : Nat} {p0 p1 p2 p3 p4 a6 a7 th : Int32} (hT : TR T U t) (ht : t ≤ 900) (h6 : PX6_feed (nI t) T p0 p1 p2 p3 p4 = (Int32.ofNat u6, a6, T2)) (h7 : PX7_feed U (nI t) p0 p1 p2 p3 p4 = (Int32.ofNat u7, th, a7, U2)) : Int32.ofNat u6 = Int32.ofNat u7 ∧ ∃ t2 : Nat, t2 ≤ 900 ∧ a6 = nI t2 ∧ a7 = nI t2 ∧ TR T2 U2 t2 := by
  by_cases h : t ≤ 880
  · obtain ⟨T3, U3, g1, g2, g3⟩ := feed_pure hT h p0 p1 p2 p3 p4
    rw [g1] at h6
    rw [g2] at h7
    injection h6 with x1 x2
    injection x2 with x2 x3
    injection h7 with y1 y2
    injection y2 with y2 y3
    injection y3 with y3 y4
    rw [← x1, ← y1, ← x3, ← y4]
    exact ⟨rfl, t + 20, by omega, x2.symm, y3.symm, g3⟩
  · have k880 : (880 : Int32).toInt = 880 := by decide
    rw [PX6_feed_eq, if_neg (show ¬ nI t ≤ (880 : Int32) by rw [fz_le, k880, nI_toInt (by omega)]; omega)] at h6
    rw [PX7_feed_eq] at h7
    dsimp only [lt_] at h7
    rw [show (20 : Int32) = nI 20 from rfl, nI_add, if_neg (show ¬ nI (t + 20) ≤ (900 : Int32) by rw [fz_le, kc_900, nI_toInt (by omega)]; omega)] at h7
    injection h6 with x1 x2
    injection x2 with x2 x3
    injection h7 with y1 y2
    injection y2 with y2 y3
    injection y3 with y3 y4
    rw [← x1, ← y1, ← x3, ← y4]
    exact ⟨rfl, t, ht, x2.symm, y3.symm, hT⟩
