/-! wholes in lowest terms, on both sides -/
section F3
theorem lmod {x y : Int64} (hx : 0 ≤ x.toInt) (hy : 0 < y.toInt) : (x - x / y * y).toInt = x.toInt % y.toInt := by
  have hxr := fb_rngL x
  have hyr := fb_rngL y
  have key : (x - x / y * y).toInt = x.toInt.tmod y.toInt := by
    rw [Int64.toInt_sub, Int64.toInt_mul, Int64.toInt_div]
    have h1 : x.toInt.tmod y.toInt = x.toInt - y.toInt * x.toInt.tdiv y.toInt := Int.tmod_def _ _
    have h2 : (x.toInt.tmod y.toInt).natAbs < y.toInt.natAbs := by rw [Int.natAbs_tmod]; exact Nat.mod_lt _ (by omega)
    rw [← fb_bmodL (z := x.toInt.tmod y.toInt) (by omega) (by omega), h1]
    simp only [Int.sub_bmod_bmod, Int.bmod_mul_bmod, Int.mul_comm]
    rw [← Int.sub_bmod_bmod, Int.mul_bmod_bmod, Int.sub_bmod_bmod]
  rw [key, Int.tmod_eq_emod_of_nonneg hx]
theorem lz_i : (0 : Int64).toInt = 0 := by decide
theorem l_inj {x y : Int64} (h : x.toInt = y.toInt) : x = y := Int64.toInt_inj.mp h
theorem cmp_z {x : Int64} (h : x = 0) : lg_cmp x 0 = 0 := (lg_cmp0 x 0).mpr h
theorem cmp_n {x : Int64} (h : ¬ x = 0) : ¬ lg_cmp x 0 = 0 := fun q => h ((lg_cmp0 x 0).mp q)
/-- how many rounds a division chain takes -/
def egS : Nat → Nat → Nat → Bool
  | 0, _, b => b == 0
  | n + 1, a, b => b == 0 || egS n b (a % b)
theorem egS_0 (n a : Nat) : egS n a 0 = true := by
  cases n <;> rfl
theorem egS_mono : ∀ (n a b : Nat), egS n a b = true → egS (n + 1) a b = true
  | 0, a, b, h => by
    have h : (b == 0) = true := h
    show (b == 0 || egS 0 b (a % b)) = true
    rw [h]; rfl
  | n + 1, a, b, h => by
    have h : (b == 0 || egS n b (a % b)) = true := h
    show (b == 0 || egS (n + 1) b (a % b)) = true
    rcases Bool.or_eq_true_iff.mp h with q | q
    · rw [q]; rfl
    · rw [egS_mono n _ _ q, Bool.or_true]
theorem egS_le {n m : Nat} (h : n ≤ m) {a b : Nat} (e : egS n a b = true) : egS m a b = true := by
  obtain ⟨d, rfl⟩ : ∃ d, m = n + d := ⟨m - n, by omega⟩
  clear h
  induction d with
  | zero => exact e
  | succ d ih => exact egS_mono _ _ _ ih
theorem egS_pow : ∀ (n a b : Nat), b < 2 ^ n → egS (2 * n) a b = true
  | 0, a, b, h => by
    obtain rfl : b = 0 := by
      have : (2 : Nat) ^ 0 = 1 := rfl
      omega
    exact egS_0 _ _
  | n + 1, a, b, h => by
    by_cases h0 : b = 0
    · rw [h0]; exact egS_0 _ _
    · have e1 : 2 * (n + 1) = 2 * n + 1 + 1 := by omega
      rw [e1]
      show (b == 0 || (a % b == 0 || egS (2 * n) (a % b) (b % (a % b)))) = true
      by_cases h1 : a % b = 0
      · rw [h1]; simp
      · have l1 : a % b < b := Nat.mod_lt _ (by omega)
        have l2 : b % (a % b) < 2 ^ n := by
          have p : (2 : Nat) ^ (n + 1) = 2 * 2 ^ n := by rw [Nat.pow_succ]; omega
          by_cases c : a % b ≤ 2 ^ n
          · exact Nat.lt_of_lt_of_le (Nat.mod_lt _ (by omega)) c
          · have l3 : b % (a % b) = b - a % b := by
              rw [Nat.mod_eq_sub_mod (by omega), Nat.mod_eq_of_lt (by omega)]
            omega
        rw [egS_pow n _ _ l2, Bool.or_true, Bool.or_true]
/-- the class's chain ends at the greatest common divisor -/
theorem gc_loop : ∀ (n : Nat) (x y : Int64) (i f : Nat), 0 ≤ x.toInt → 0 ≤ y.toInt → egS n x.toInt.toNat y.toInt.toNat = true → i + n ≤ 999 → n < f → (HX6_greatestCommon_0 f x y (nI i)).toInt = (Nat.gcd x.toInt.toNat y.toInt.toNat : Int)
  | n, x, y, i, 0, _, _, _, _, hf => absurd hf (by omega)
  | n, x, y, i, f + 1, hx, hy, he, hi, hf => by
    have k1000 : (1000 : Int32).toInt = 1000 := by decide
    rw [HX6_greatestCommon_0_eq, if_neg (show ¬ (1000 : Int32) ≤ nI i by rw [fz_le, k1000, nI_toInt (by omega)]; omega)]
    simp only [lt_ap]
    by_cases h0 : y = 0
    · rw [if_pos (cmp_z h0), h0, lz_i]
      show x.toInt = (Nat.gcd x.toInt.toNat (0 : Int).toNat : Int)
      rw [show (0 : Int).toNat = 0 from rfl, Nat.gcd_zero_right]
      omega
    · have hy0 : 0 < y.toInt := by
        have : ¬ y.toInt = 0 := fun q => h0 (l_inj (by rw [q, lz_i]))
        omega
      rw [if_neg (cmp_n h0), nI_o1]
      have em := lmod hx hy0
      have en : (x - x / y * y).toInt.toNat = x.toInt.toNat % y.toInt.toNat := by
        rw [em]
        have := Int.toNat_emod hx (Int.le_of_lt hy0)
        exact this
      obtain ⟨n, rfl⟩ : ∃ g, n = g + 1 := by
        refine ⟨n - 1, ?_⟩
        cases n with
        | zero =>
          have he : (y.toInt.toNat == 0) = true := he
          have := beq_iff_eq.mp he
          omega
        | succ n => omega
      have he2 : egS n y.toInt.toNat (x.toInt.toNat % y.toInt.toNat) = true := by
        have he : (y.toInt.toNat == 0 || egS n y.toInt.toNat (x.toInt.toNat % y.toInt.toNat)) = true := he
        rcases Bool.or_eq_true_iff.mp he with q | q
        · have := beq_iff_eq.mp q
          omega
        · exact q
      rw [gc_loop n y (x - x / y * y) (i + 1) f hy (by rw [em]; exact Int.emod_nonneg _ (by omega)) (by rw [en]; exact he2) (by omega) (by omega), en, Nat.gcd_comm, ← Nat.gcd_rec, Nat.gcd_comm]
theorem lo_loop {p0 p1 : Int64} {p2 : Int32} : ∀ (f : Nat) (x y : Int64), 0 ≤ x.toInt → 0 ≤ y.toInt → y.toInt.natAbs < f → ∃ g : Int64, g.toInt = (Nat.gcd x.toInt.toNat y.toInt.toNat : Int) ∧ HX7_lowest_0 p0 p1 p2 f x y = if p2 = 0 then p0 / g else p1 / g
  | 0, x, y, _, _, h => absurd h (by omega)
  | f + 1, x, y, hx, hy, h => by
    rw [HX7_lowest_0_eq]
    simp only [lt_ap]
    by_cases h0 : y = 0
    · rw [if_pos (cmp_z h0)]
      refine ⟨x, ?_, rfl⟩
      rw [h0, lz_i, show (0 : Int).toNat = 0 from rfl, Nat.gcd_zero_right]
      omega
    · have hy0 : 0 < y.toInt := by
        have : ¬ y.toInt = 0 := fun q => h0 (l_inj (by rw [q, lz_i]))
        omega
      rw [if_neg (cmp_n h0)]
      have em := lmod hx hy0
      have ml := Int.emod_lt_of_pos x.toInt hy0
      have mn := Int.emod_nonneg x.toInt (show y.toInt ≠ 0 by omega)
      have en : (x - x / y * y).toInt.toNat = x.toInt.toNat % y.toInt.toNat := by
        rw [em]
        exact Int.toNat_emod hx (Int.le_of_lt hy0)
      obtain ⟨g, g1, g2⟩ := lo_loop (p0 := p0) (p1 := p1) (p2 := p2) f y (x - x / y * y) hy (by rw [em]; exact mn) (by rw [em]; omega)
      refine ⟨g, ?_, g2⟩
      rw [g1, en, Nat.gcd_comm, ← Nat.gcd_rec, Nat.gcd_comm]
/-- both sides put a whole by a whole in lowest terms alike -/
theorem lowest_eq {u d : Int64} (hu : 0 ≤ u.toInt) (hd : 1 ≤ d.toInt) (p : Int32) : PX6_inLowestTerms u d p = PX7_lowest u d p := by
  have hur := fb_rngL u
  have hdr := fb_rngL d
  obtain ⟨g, g1, g2⟩ := lo_loop (p0 := u) (p1 := d) (p2 := p) (u.toInt.natAbs + 1) d u (by omega) hu (by omega)
  have hp : d.toInt.toNat < 2 ^ 63 := by
    have : (2 : Nat) ^ 63 = 9223372036854775808 := by decide
    omega
  have e := gc_loop 126 u d 0 (((1000 - (0 : Int32).toInt).toNat) + 1) hu (by omega) (egS_pow 63 _ _ hp) (by omega) (by rw [kc_0]; omega)
  rw [nI_0] at e
  have eg : PX6_greatestCommon u d = g := by
    rw [PX6_greatestCommon_eq]
    refine l_inj ?_
    rw [e, g1, Nat.gcd_comm]
  have gp : 0 < Nat.gcd d.toInt.toNat u.toInt.toNat := Nat.gcd_pos_of_pos_left _ (by omega)
  have hc : (0 : Int32) < lg_cmp g 0 := by
    have : g > 0 := by
      show (0 : Int64) < g
      rw [Int64.lt_iff_toInt_lt, lz_i, g1]
      omega
    unfold lg_cmp
    rw [if_pos this]
    decide
  rw [PX6_inLowestTerms_eq, PX7_lowest_eq, g2, eg]
  simp only [lt_ap]
  rw [if_pos hc]
end F3
