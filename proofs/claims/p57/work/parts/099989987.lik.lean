/-! odds and mean: the likelihood of every set of slips -/
section F19
/-- the likelihood of the set s, the first j words of it done -/
def LKL (slips : Int32) (s : Nat) : Nat → Int64
  | 0 => 1
  | j + 1 => LKL slips s j * (if s.testBit j then slips.toInt64 else ((100 : Int32) - slips).toInt64)
/-- the same as a plain number -/
def LKn (a s : Nat) : Nat → Nat
  | 0 => 1
  | j + 1 => LKn a s j * (if s.testBit j then a else 100 - a)
def ALL : Nat → Int64
  | 0 => 1
  | j + 1 => ALL j * 100
def AAs (slips : Int32) (U : Nat) : Nat → Int64
  | 0 => 0
  | s + 1 => AAs slips U s + LKL slips s U
def EEs (slips : Int32) (U : Nat) (T : Nat → Int32) (x : Int32) : Nat → Int64
  | 0 => 0
  | s + 1 => if T s < x then EEs slips U T x s else EEs slips U T x s + LKL slips s U
def SSs (slips : Int32) (U : Nat) (T : Nat → Int32) : Nat → Int64
  | 0 => 0
  | s + 1 => SSs slips U T s + LKL slips s U * (T s).toInt64
theorem all_i : ∀ U : Nat, U ≤ 4 → (ALL U).toInt = ((100 ^ U : Nat) : Int) := by
  intro U hU
  obtain rfl | rfl | rfl | rfl | rfl : U = 0 ∨ U = 1 ∨ U = 2 ∨ U = 3 ∨ U = 4 := by omega
  all_goals decide
theorem p100 {U : Nat} (hU : U ≤ 4) : 1 ≤ 100 ^ U ∧ 100 ^ U ≤ 100000000 := by
  have h := Nat.pow_le_pow_right (n := 100) (by decide) hU
  exact ⟨Nat.pow_pos (by decide), h⟩
theorem LKn_le {a s : Nat} (ha : a ≤ 100) : ∀ j : Nat, LKn a s j ≤ 100 ^ j
  | 0 => Nat.le_refl _
  | j + 1 => by
    have ih := LKn_le (s := s) ha j
    rw [LKn, Nat.pow_succ]
    refine Nat.mul_le_mul ih ?_
    by_cases c : s.testBit j = true
    · rw [if_pos c]; exact ha
    · rw [if_neg c]; omega
theorem LKL_i {slips : Int32} {s : Nat} (h : 0 ≤ slips.toInt ∧ slips.toInt ≤ 100) : ∀ j : Nat, j ≤ 4 → (LKL slips s j).toInt = (LKn slips.toInt.toNat s j : Int)
  | 0, _ => by show (1 : Int64).toInt = 1; decide
  | j + 1, hj => by
    have ih := LKL_i (s := s) h j (by omega)
    have b := LKn_le (a := slips.toInt.toNat) (s := s) (by omega) j
    have b2 := LKn_le (a := slips.toInt.toNat) (s := s) (by omega) (j + 1)
    have q := p100 (show j ≤ 4 by omega)
    have q2 := p100 hj
    have e : ((if s.testBit j then slips.toInt64 else ((100 : Int32) - slips).toInt64)).toInt = ((if s.testBit j then slips.toInt.toNat else 100 - slips.toInt.toNat : Nat) : Int) := by
      by_cases c : s.testBit j = true
      · rw [if_pos c, if_pos c, Int32.toInt_toInt64]; omega
      · have k : (100 : Int32).toInt = 100 := by decide
        rw [if_neg c, if_neg c, Int32.toInt_toInt64, fb_subI (by rw [k]; omega) (by rw [k]; omega), k]; omega
    have m : ((LKn slips.toInt.toNat s j : Nat) : Int) * ((if s.testBit j then slips.toInt.toNat else 100 - slips.toInt.toNat : Nat) : Int) = ((LKn slips.toInt.toNat s (j + 1) : Nat) : Int) := by
      rw [LKn, Int.natCast_mul]
    rw [LKL, fb_mulL (by rw [ih, e, m]; omega) (by rw [ih, e, m]; omega), ih, e, m]
theorem sumN_congr {f g : Nat → Nat} : ∀ n : Nat, (∀ i : Nat, i < n → f i = g i) → sumN f n = sumN g n
  | 0, _ => rfl
  | n + 1, h => by rw [sumN, sumN, sumN_congr n (fun i hi => h i (by omega)), h n (by omega)]
theorem sumN_mul {f : Nat → Nat} {c : Nat} : ∀ n : Nat, sumN (fun i => f i * c) n = sumN f n * c
  | 0 => by rw [sumN, sumN, Nat.zero_mul]
  | n + 1 => by rw [sumN, sumN, sumN_mul n, Nat.add_mul]
theorem sumN_split {f : Nat → Nat} {n : Nat} : ∀ m : Nat, sumN f (n + m) = sumN f n + sumN (fun i => f (n + i)) m
  | 0 => by rw [Nat.add_zero, sumN, Nat.add_zero]
  | m + 1 => by rw [← Nat.add_assoc, sumN, sumN_split m, sumN, Nat.add_assoc]
theorem LKn_hi {a x U : Nat} : ∀ j : Nat, j ≤ U → LKn a (2 ^ U + x) j = LKn a x j
  | 0, _ => rfl
  | j + 1, h => by
    rw [LKn, LKn, LKn_hi j (by omega), Nat.testBit_two_pow_add_gt (by omega)]
theorem LKn_sum {a : Nat} (ha : a ≤ 100) : ∀ U : Nat, sumN (fun s => LKn a s U) (2 ^ U) = 100 ^ U
  | 0 => rfl
  | U + 1 => by
    have ih := LKn_sum ha U
    have e1 : sumN (fun s => LKn a s (U + 1)) (2 ^ U) = 100 ^ U * (100 - a) := by
      rw [← ih, ← sumN_mul]
      refine sumN_congr _ (fun s hs => ?_)
      show LKn a s (U + 1) = _
      rw [LKn, Nat.testBit_lt_two_pow hs, if_neg (by decide)]
    have e2 : sumN (fun s => LKn a (2 ^ U + s) (U + 1)) (2 ^ U) = 100 ^ U * a := by
      rw [← ih, ← sumN_mul]
      refine sumN_congr _ (fun s hs => ?_)
      show LKn a (2 ^ U + s) (U + 1) = _
      rw [LKn, LKn_hi U (Nat.le_refl _), if_pos (by rw [Nat.testBit_two_pow_add_eq, Nat.testBit_lt_two_pow hs]; rfl)]
    rw [Nat.pow_succ 2 U, Nat.mul_two, sumN_split, e1]
    show 100 ^ U * (100 - a) + sumN (fun s => LKn a (2 ^ U + s) (U + 1)) (2 ^ U) = _
    rw [e2, ← Nat.mul_add, Nat.sub_add_cancel ha, Nat.pow_succ]
theorem AAs_i {slips : Int32} {U : Nat} (h : 0 ≤ slips.toInt ∧ slips.toInt ≤ 100) (hU : U ≤ 4) : ∀ n : Nat, n ≤ 16 → (AAs slips U n).toInt = (sumN (fun s => LKn slips.toInt.toNat s U) n : Int) ∧ sumN (fun s => LKn slips.toInt.toNat s U) n ≤ n * 100000000
  | 0, _ => ⟨by show (0 : Int64).toInt = 0; decide, Nat.zero_le _⟩
  | n + 1, hn => by
    obtain ⟨i1, i2⟩ := AAs_i h hU n (by omega)
    have b := LKn_le (a := slips.toInt.toNat) (s := n) (by omega) U
    have q := p100 hU
    have e := LKL_i (s := n) h U hU
    refine ⟨?_, ?_⟩
    · rw [AAs, fb_addL (by rw [i1, e]; omega) (by rw [i1, e]; omega), i1, e, sumN]; omega
    · rw [sumN]; omega
theorem AAs_eq {slips : Int32} {U : Nat} (h : 0 ≤ slips.toInt ∧ slips.toInt ≤ 100) (hU : U ≤ 4) : AAs slips U (2 ^ U) = ALL U := by
  have h16 := u16 hU
  refine l_inj ?_
  rw [(AAs_i h hU _ h16.2).1, all_i U hU, LKn_sum (by omega)]
theorem EEs_in {slips : Int32} {U : Nat} {T : Nat → Int32} {x : Int32} (h : 0 ≤ slips.toInt ∧ slips.toInt ≤ 100) (hU : U ≤ 4) : ∀ n : Nat, n ≤ 16 → 0 ≤ (EEs slips U T x n).toInt ∧ (EEs slips U T x n).toInt ≤ n * 100000000
  | 0, _ => by show 0 ≤ (0 : Int64).toInt ∧ (0 : Int64).toInt ≤ _; rw [lz_i]; omega
  | n + 1, hn => by
    have ih := EEs_in (T := T) (x := x) h hU n (by omega)
    have b := LKn_le (a := slips.toInt.toNat) (s := n) (by omega) U
    have q := p100 hU
    have e := LKL_i (s := n) h U hU
    rw [EEs]
    by_cases c : T n < x
    · rw [if_pos c]; omega
    · rw [if_neg c, fb_addL (by rw [e]; omega) (by rw [e]; omega), e]; omega
theorem SSs_in {slips : Int32} {U : Nat} {T : Nat → Int32} (h : 0 ≤ slips.toInt ∧ slips.toInt ≤ 100) (hU : U ≤ 4) (hT : ∀ s : Nat, s < 16 → 0 ≤ (T s).toInt ∧ (T s).toInt ≤ 128304) : ∀ n : Nat, n ≤ 16 → 0 ≤ (SSs slips U T n).toInt ∧ (SSs slips U T n).toInt ≤ n * 12830400000000
  | 0, _ => by show 0 ≤ (0 : Int64).toInt ∧ (0 : Int64).toInt ≤ _; rw [lz_i]; omega
  | n + 1, hn => by
    have ih := SSs_in h hU hT n (by omega)
    have b := LKn_le (a := slips.toInt.toNat) (s := n) (by omega) U
    have q := p100 hU
    have e := LKL_i (s := n) h U hU
    obtain ⟨t1, t2⟩ := hT n (by omega)
    have p1 : 0 ≤ (LKL slips n U).toInt * (T n).toInt := Int.mul_nonneg (by omega) t1
    have p2 : (LKL slips n U).toInt * (T n).toInt ≤ 100000000 * 128304 := Int.mul_le_mul (by omega) t2 t1 (by decide)
    have e2 : (LKL slips n U * (T n).toInt64).toInt = (LKL slips n U).toInt * (T n).toInt := by
      rw [fb_mulL (by rw [Int32.toInt_toInt64]; omega) (by rw [Int32.toInt_toInt64]; omega), Int32.toInt_toInt64]
    rw [SSs, fb_addL (by rw [e2]; omega) (by rw [e2]; omega), e2]
    omega
theorem lk_loop {slips : Int32} {U s : Nat} (hU : U ≤ 4) (hs : s < 16) : ∀ (m j f : Nat), U - j = m → j ≤ U → m < f → HX1_likelihood_0 (nI U) slips (nI s) f (nI j) (LKL slips s j) = LKL slips s U := by
  intro m
  induction m with
  | zero =>
    intro j f hm hj hf
    obtain ⟨f, rfl⟩ : ∃ g, f = g + 1 := ⟨f - 1, by omega⟩
    obtain rfl : j = U := by omega
    rw [HX1_likelihood_0_eq, if_pos (nI_le (Nat.le_refl _) (by omega))]
  | succ m ih =>
    intro j f hm hj hf
    obtain ⟨f, rfl⟩ : ∃ g, f = g + 1 := ⟨f - 1, by omega⟩
    have hn := ih (j + 1) f (by omega) (by omega) (by omega)
    rw [HX1_likelihood_0_eq, if_neg (show ¬ nI U ≤ nI j by rw [nI_leI (by omega) (by omega)]; omega)]
    simp only [lt_ap]
    rw [nI_o1]
    by_cases c : s.testBit j = true
    · rw [if_pos ((bt_one (by omega) (by omega)).mpr c)]
      rw [LKL, if_pos c] at hn; exact hn
    · rw [if_neg (fun q => c ((bt_one (by omega) (by omega)).mp q))]
      rw [LKL, if_neg c] at hn; exact hn
theorem lkh_eq {slips : Int32} {U s : Nat} (hU : U ≤ 4) (hs : s < 16) : PX1_likelihood (nI U) slips (nI s) = LKL slips s U := by
  have e := lk_loop (slips := slips) hU hs U 0 (((2147483647 - (0 : Int32).toInt).toNat) + 1) rfl (by omega) (by rw [kc_0]; omega)
  rw [nI_0] at e
  rw [PX1_likelihood_eq]
  exact e
theorem al_loop {U : Nat} (hU : U ≤ 4) : ∀ (m j f : Nat), U - j = m → j ≤ U → m < f → HX1_allLikelihood_0 (nI U) f (nI j) (ALL j) = ALL U := by
  intro m
  induction m with
  | zero =>
    intro j f hm hj hf
    obtain ⟨f, rfl⟩ : ∃ g, f = g + 1 := ⟨f - 1, by omega⟩
    obtain rfl : j = U := by omega
    rw [HX1_allLikelihood_0_eq, if_pos (nI_le (Nat.le_refl _) (by omega))]
  | succ m ih =>
    intro j f hm hj hf
    obtain ⟨f, rfl⟩ : ∃ g, f = g + 1 := ⟨f - 1, by omega⟩
    have hn := ih (j + 1) f (by omega) (by omega) (by omega)
    rw [HX1_allLikelihood_0_eq, if_neg (show ¬ nI U ≤ nI j by rw [nI_leI (by omega) (by omega)]; omega)]
    simp only [lt_ap]
    rw [nI_o1]
    exact hn
theorem al_eq {U : Nat} (hU : U ≤ 4) : PX1_allLikelihood (nI U) = ALL U := by
  have e := al_loop hU U 0 (((2147483647 - (0 : Int32).toInt).toNat) + 1) rfl (by omega) (by rw [kc_0]; omega)
  rw [nI_0] at e
  rw [PX1_allLikelihood_eq]
  exact e
end F19
