/-! words of which nobody is sure: what the class asks of the set of those that fit; both sides together -/
section F17
theorem FB_0 {p : Nat → Bool} : ∀ n : Nat, FB p n = 0 ↔ cntB p n = 0
  | 0 => ⟨fun _ => rfl, fun _ => rfl⟩
  | n + 1 => by
    have ih := FB_0 (p := p) n
    by_cases c : p n = true
    · have b := FB_bit (p := p) (n + 1) n
      rw [c, decide_eq_true (show n < n + 1 by omega)] at b
      constructor
      · intro h; rw [h] at b; exact absurd b (by simp)
      · intro h; rw [cntB, if_pos c] at h; exact absurd h (by omega)
    · rw [FB, if_neg c, cntB, if_neg c]; exact ih
theorem FB_31 {p : Nat → Bool} {U : Nat} (hU : U ≤ 4) : FB p (2 ^ U) < 2 ^ 31 := by
  have h16 := u16 hU
  have h := FB_lt (p := p) (2 ^ U)
  have h2 : 2 ^ (2 ^ U) ≤ 2 ^ 16 := Nat.pow_le_pow_right (by decide) h16.2
  omega
theorem FB_at {p : Nat → Bool} {U s : Nat} (hU : U ≤ 4) (hs : s < 2 ^ U) : ((nI (FB p (2 ^ U)) >>> (nI s &&& 31)) &&& 1 = 1) ↔ p s = true := by
  have h16 := u16 hU
  rw [bt_one (FB_31 hU) (by omega), FB_bit, decide_eq_true hs, Bool.true_and]
theorem anB_0 {p : Nat → Bool} (n : Nat) : anB p 0 n = 0 := by have := anB_le (p := p) (a := 0) n; omega
theorem cntB_mono {p : Nat → Bool} {a : Nat} : ∀ d : Nat, cntB p a ≤ cntB p (a + d)
  | 0 => Nat.le_refl _
  | d + 1 => by
    have ih := cntB_mono (p := p) (a := a) d
    rw [← Nat.add_assoc, cntB]
    by_cases c : p (a + d) = true
    · rw [if_pos c]; omega
    · rw [if_neg c]; exact ih
theorem atB_keep {p : Nat → Bool} {i : Int32} {s : Nat} (h1 : p s = true) (h2 : nI (cntB p s) = i) : ∀ d : Nat, s + d < 1000 → atB p i (s + 1 + d) = nI s
  | 0, _ => by rw [Nat.add_zero, atB, if_pos ⟨h1, h2⟩]
  | d + 1, hd => by
    have ih := atB_keep h1 h2 d (by omega)
    have m := cntB_mono (p := p) (a := s + 1) d
    have k := cntB_le (p := p) (s + 1 + d)
    have k2 := cntB_le (p := p) s
    rw [cntB, if_pos h1] at m
    rw [← Nat.add_assoc, atB, if_neg (fun q => by
      have e := (nI_eq (show cntB p (s + 1 + d) < 2 ^ 31 by omega) (by omega)).mp (q.2.trans h2.symm)
      omega)]
    exact ih
theorem atB_lt {p : Nat → Bool} {i : Int32} : ∀ n : Nat, n ≤ 1000 → atB p i n = -1 ∨ ∃ s : Nat, s < n ∧ atB p i n = nI s
  | 0, _ => Or.inl rfl
  | n + 1, h => by
    rw [atB]
    by_cases c : p n = true ∧ nI (cntB p n) = i
    · rw [if_pos c]; exact Or.inr ⟨n, by omega, rfl⟩
    · rw [if_neg c]
      rcases atB_lt (p := p) (i := i) n (by omega) with q | ⟨s, q1, q2⟩
      · exact Or.inl q
      · exact Or.inr ⟨s, by omega, q2⟩
theorem atB_neg {p : Nat → Bool} {i : Int32} (hi : i.toInt < 0) : ∀ n : Nat, n ≤ 1000 → atB p i n = -1
  | 0, _ => rfl
  | n + 1, h => by
    have k := cntB_le (p := p) n
    rw [atB, if_neg (fun q => by
      have e := congrArg Int32.toInt q.2
      rw [nI_toInt (by omega)] at e
      omega)]
    exact atB_neg hi n (by omega)
def LVn (p : Nat → Bool) (j n : Nat) : Nat := if ofB p j n < cntB p n - ofB p j n then cntB p n - ofB p j n else ofB p j n
theorem LVn_le {p : Nat → Bool} {j n : Nat} : LVn p j n ≤ n := by
  have a := cntB_le (p := p) n
  have b := ofB_le (p := p) (j := j) n
  unfold LVn
  by_cases c : ofB p j n < cntB p n - ofB p j n
  · rw [if_pos c]; omega
  · rw [if_neg c]; omega
theorem co_loop {p : Nat → Bool} {U : Nat} (hU : U ≤ 4) {x : Int32} {fL fS : Nat → Int32} : ∀ (m s f : Nat), 2 ^ U - s = m → s ≤ 2 ^ U → m < f → HX6_could_0 (nI U) x fL fS (nI (FB p (2 ^ U))) f (nI s) (nI (orB p s)) = (nI (orB p (2 ^ U)), x, fL, fS) := by
  have h16 := u16 hU
  intro m
  induction m with
  | zero =>
    intro s f hm hs hf
    obtain ⟨f, rfl⟩ : ∃ g, f = g + 1 := ⟨f - 1, by omega⟩
    obtain rfl : s = 2 ^ U := by omega
    rw [HX6_could_0_eq, lt_ap, us_eq hU, if_pos (nI_le (Nat.le_refl _) (by omega))]
  | succ m ih =>
    intro s f hm hs hf
    obtain ⟨f, rfl⟩ : ∃ g, f = g + 1 := ⟨f - 1, by omega⟩
    have hn := ih (s + 1) f (by omega) (by omega) (by omega)
    rw [HX6_could_0_eq, lt_ap, us_eq hU, if_neg (show ¬ nI (2 ^ U) ≤ nI s by rw [nI_leI (by omega) (by omega)]; omega)]
    simp only [lt_ap]
    rw [bt_or, nI_o1]
    by_cases c : p s = true
    · rw [if_pos ((FB_at hU (by omega)).mpr c)]
      rw [orB, if_pos c] at hn; exact hn
    · rw [if_neg (fun q => c ((FB_at hU (by omega)).mp q))]
      rw [orB, if_neg c] at hn; exact hn
theorem su2_loop {p : Nat → Bool} {U a : Nat} (hU : U ≤ 4) {x : Int32} {fL fS : Nat → Int32} : ∀ (m s f : Nat), 2 ^ U - s = m → s ≤ 2 ^ U → m < f → HX6_surely_0 (nI U) x fL fS (nI (FB p (2 ^ U))) f (nI s) (nI (anB p a s)) = (nI (anB p a (2 ^ U)), x, fL, fS) := by
  have h16 := u16 hU
  intro m
  induction m with
  | zero =>
    intro s f hm hs hf
    obtain ⟨f, rfl⟩ : ∃ g, f = g + 1 := ⟨f - 1, by omega⟩
    obtain rfl : s = 2 ^ U := by omega
    rw [HX6_surely_0_eq, lt_ap, us_eq hU, if_pos (nI_le (Nat.le_refl _) (by omega))]
  | succ m ih =>
    intro s f hm hs hf
    obtain ⟨f, rfl⟩ : ∃ g, f = g + 1 := ⟨f - 1, by omega⟩
    have hn := ih (s + 1) f (by omega) (by omega) (by omega)
    rw [HX6_surely_0_eq, lt_ap, us_eq hU, if_neg (show ¬ nI (2 ^ U) ≤ nI s by rw [nI_leI (by omega) (by omega)]; omega)]
    simp only [lt_ap]
    rw [bt_and, nI_o1]
    by_cases c : p s = true
    · rw [if_pos ((FB_at hU (by omega)).mpr c)]
      rw [anB, if_pos c] at hn; exact hn
    · rw [if_neg (fun q => c ((FB_at hU (by omega)).mp q))]
      rw [anB, if_neg c] at hn; exact hn
theorem fa_loop {p : Nat → Bool} {U : Nat} (hU : U ≤ 4) {p0 x : Int32} {fL fS : Nat → Int32} : ∀ (m s f : Nat), 2 ^ U - s = m → s ≤ 2 ^ U → m < f → atB p p0 s = -1 → HX6_fitAt_0 (nI U) p0 x fL fS (nI (FB p (2 ^ U))) f (nI s) (nI (cntB p s)) = if atB p p0 (2 ^ U) = -1 then (-1, 1, fL, fS) else (atB p p0 (2 ^ U), x, fL, fS) := by
  have h16 := u16 hU
  intro m
  induction m with
  | zero =>
    intro s f hm hs hf ha
    obtain ⟨f, rfl⟩ : ∃ g, f = g + 1 := ⟨f - 1, by omega⟩
    obtain rfl : s = 2 ^ U := by omega
    rw [HX6_fitAt_0_eq, lt_ap, us_eq hU, if_pos (nI_le (Nat.le_refl _) (by omega)), PX6_refuse_eq, un2_eq rfl, if_pos ha]
  | succ m ih =>
    intro s f hm hs hf ha
    obtain ⟨f, rfl⟩ : ∃ g, f = g + 1 := ⟨f - 1, by omega⟩
    have hn := ih (s + 1) f (by omega) (by omega) (by omega)
    rw [HX6_fitAt_0_eq, lt_ap, us_eq hU, if_neg (show ¬ nI (2 ^ U) ≤ nI s by rw [nI_leI (by omega) (by omega)]; omega)]
    simp only [lt_ap]
    rw [nI_o1, nI_o1]
    by_cases c : p s = true
    · rw [if_pos ((FB_at hU (by omega)).mpr c)]
      by_cases d : nI (cntB p s) = p0
      · have e := atB_keep c d (2 ^ U - (s + 1)) (by omega)
        rw [show s + 1 + (2 ^ U - (s + 1)) = 2 ^ U by omega] at e
        rw [if_pos d, e, if_neg (nIm1 (by omega))]
      · rw [if_neg d]
        rw [atB, if_neg (fun q => d q.2), cntB, if_pos c] at hn
        exact hn ha
    · rw [if_neg (fun q => c ((FB_at hU (by omega)).mp q))]
      rw [atB, if_neg (fun q => c q.1), cntB, if_neg c] at hn
      exact hn ha
theorem la_loop {p : Nat → Bool} {U j : Nat} (hU : U ≤ 4) (hj : j < U) : ∀ (m s f : Nat), 2 ^ U - s = m → s ≤ 2 ^ U → m < f → HX6_leftAtMost_0 (nI U) (nI (FB p (2 ^ U))) (nI j) f (nI s) (nI (ofB p j s)) = nI (LVn p j (2 ^ U)) := by
  have h16 := u16 hU
  intro m
  induction m with
  | zero =>
    intro s f hm hs hf
    obtain ⟨f, rfl⟩ : ∃ g, f = g + 1 := ⟨f - 1, by omega⟩
    obtain rfl : s = 2 ^ U := by omega
    have a := cntB_le (p := p) (2 ^ U)
    have b := ofB_le (p := p) (j := j) (2 ^ U)
    rw [HX6_leftAtMost_0_eq, lt_ap, us_eq hU, if_pos (nI_le (Nat.le_refl _) (by omega))]
    simp only [lt_ap]
    rw [bitCount_FB h16.2, nI_sub' b (by omega)]
    unfold LVn
    by_cases c : ofB p j (2 ^ U) < cntB p (2 ^ U) - ofB p j (2 ^ U)
    · rw [if_pos (nI_lt c (by omega)), if_pos c]
    · rw [if_neg (nI_nlt (by omega) (by omega)), if_neg c]
  | succ m ih =>
    intro s f hm hs hf
    obtain ⟨f, rfl⟩ : ∃ g, f = g + 1 := ⟨f - 1, by omega⟩
    have hn := ih (s + 1) f (by omega) (by omega) (by omega)
    rw [HX6_leftAtMost_0_eq, lt_ap, us_eq hU, if_neg (show ¬ nI (2 ^ U) ≤ nI s by rw [nI_leI (by omega) (by omega)]; omega)]
    simp only [lt_ap]
    rw [nI_o1, nI_o1]
    by_cases c : p s = true
    · rw [if_pos ((FB_at hU (by omega)).mpr c)]
      rw [ofB, c, Bool.true_and] at hn
      by_cases d : s.testBit j = true
      · rw [if_pos ((bt_one (by omega) (by omega)).mpr d)]
        rw [if_pos d] at hn; exact hn
      · rw [if_neg (fun q => d ((bt_one (by omega) (by omega)).mp q))]
        rw [if_neg d] at hn; exact hn
    · rw [if_neg (fun q => c ((FB_at hU (by omega)).mp q))]
      rw [ofB, Bool.eq_false_iff.mpr c, Bool.false_and, if_neg (by decide)] at hn; exact hn
theorem la_eq {p : Nat → Bool} {U j : Nat} (hU : U ≤ 4) (hj : j < U) : PX6_leftAtMost (nI U) (nI (FB p (2 ^ U))) (nI j) = nI (LVn p j (2 ^ U)) := by
  have h16 := u16 hU
  have e := la_loop (p := p) hU hj (2 ^ U) 0 (((2147483647 - (0 : Int32).toInt).toNat) + 1) rfl (by omega) (by rw [kc_0]; omega)
  rw [PX6_leftAtMost_eq]
  rw [nI_0] at e
  show HX6_leftAtMost_0 _ _ _ _ 0 0 = _
  rw [show ofB p j 0 = 0 from rfl, nI_0] at e
  exact e
theorem lo_eq {p : Nat → Bool} {U j : Nat} {O : Nat → Int32} (hU : U ≤ 4) (hj : j < U) (hO : O j = nI (ofB p j (2 ^ U))) : PX7_leavesOf O (nI (cntB p (2 ^ U))) (nI j) = nI (LVn p j (2 ^ U)) := by
  have h16 := u16 hU
  have a := cntB_le (p := p) (2 ^ U)
  have b := ofB_le (p := p) (j := j) (2 ^ U)
  rw [PX7_leavesOf_eq]
  simp only [lt_ap]
  rw [nI_clamp (show j < 2 ^ 31 by omega), hO, nI_sub' b (by omega)]
  unfold LVn
  by_cases c : ofB p j (2 ^ U) ≤ cntB p (2 ^ U) - ofB p j (2 ^ U)
  · rw [if_pos (nI_le c (by omega))]
    by_cases d : ofB p j (2 ^ U) < cntB p (2 ^ U) - ofB p j (2 ^ U)
    · rw [if_pos d]
    · rw [if_neg d]; congr 1; omega
  · rw [if_neg (show ¬ nI (ofB p j (2 ^ U)) ≤ nI (cntB p (2 ^ U) - ofB p j (2 ^ U)) by rw [nI_leI (by omega) (by omega)]; exact c), if_neg (by omega)]
theorem ua_loop {p : Nat → Bool} {U : Nat} {r : Nat → Int32} (h3 : r 3 = nI U) (hU : U ≤ 4) (hc : ¬ cntB p (2 ^ U) = 0) {x2 x3 : Int32} {T O : Nat → Int32} (hO : ∀ j : Nat, j < U → O j = nI (ofB p j (2 ^ U))) : ∀ (m j f6 f7 : Nat) (c6 w6 c7 : Int32), U - j = m → j ≤ U → m < f6 → m < f7 → ((c6 = -1 ∧ c7 = -2) ∨ ∃ k : Nat, k < U ∧ c6 = nI k ∧ c7 = nI k ∧ w6 = nI (LVn p k (2 ^ U))) → ∃ R6 R7 : Int32, HX6_unsureToAsk_0 (nI U) (nI (FB p (2 ^ U))) f6 (nI j) c6 w6 = R6 ∧ HX7_askedFirst_0 r (nI (cntB p (2 ^ U))) x2 x3 T O f7 (nI j) c7 = (R7, nI (cntB p (2 ^ U)), x2, x3, T, O) ∧ ((R6 = -1 ∧ R7 = -2) ∨ ∃ k : Nat, k < U ∧ R6 = nI k ∧ R7 = nI k) := by
  have h16 := u16 hU
  have hcl := cntB_le (p := p) (2 ^ U)
  have hF : ¬ nI (FB p (2 ^ U)) = 0 := by
    rw [← nI_0, nI_eq (FB_31 hU) (by omega)]
    exact fun q => hc ((FB_0 _).mp q)
  have hC : ¬ nI (cntB p (2 ^ U)) ≤ 0 := nI_nle (by omega) (by omega)
  intro m
  induction m with
  | zero =>
    intro j f6 f7 c6 w6 c7 hm hj h6 h7 hi
    obtain ⟨f6, rfl⟩ : ∃ g, f6 = g + 1 := ⟨f6 - 1, by omega⟩
    obtain ⟨f7, rfl⟩ : ∃ g, f7 = g + 1 := ⟨f7 - 1, by omega⟩
    obtain rfl : j = U := by omega
    refine ⟨c6, c7, ?_, ?_, ?_⟩
    · rw [HX6_unsureToAsk_0_eq, if_neg hF, if_pos (nI_le (Nat.le_refl _) (by omega))]
    · rw [HX7_askedFirst_0_eq, lt_ap, three_cl, h3, if_pos (nI_le (Nat.le_refl _) (by omega))]
    · rcases hi with h | ⟨k, a, b, c, -⟩
      · exact Or.inl h
      · exact Or.inr ⟨k, a, b, c⟩
  | succ m ih =>
    intro j f6 f7 c6 w6 c7 hm hj h6 h7 hi
    obtain ⟨f6, rfl⟩ : ∃ g, f6 = g + 1 := ⟨f6 - 1, by omega⟩
    obtain ⟨f7, rfl⟩ : ∃ g, f7 = g + 1 := ⟨f7 - 1, by omega⟩
    have hjU : j < U := by omega
    have hl := LVn_le (p := p) (j := j) (n := 2 ^ U)
    rw [HX6_unsureToAsk_0_eq, if_neg hF, if_neg (show ¬ nI U ≤ nI j by rw [nI_leI (by omega) (by omega)]; omega), HX7_askedFirst_0_eq, lt_ap (r (3 : Int32).toNatClampNeg), three_cl, h3, if_neg (show ¬ nI U ≤ nI j by rw [nI_leI (by omega) (by omega)]; omega), if_neg hC]
    simp only [lt_ap]
    rw [la_eq hU hjU, lo_eq hU hjU (hO j hjU), nI_o1]
    rcases hi with ⟨rfl, rfl⟩ | ⟨k, a, rfl, rfl, rfl⟩
    · rw [if_pos (show (-1 : Int32) < 0 by decide), if_pos (show (-2 : Int32) < 0 by decide)]
      exact ih (j + 1) f6 f7 _ _ _ (by omega) (by omega) (by omega) (by omega) (Or.inr ⟨j, hjU, rfl, rfl, rfl⟩)
    · have hk := LVn_le (p := p) (j := k) (n := 2 ^ U)
      rw [if_neg (nI_pos (by omega)), if_neg (nI_pos (by omega)), lo_eq hU a (hO k a)]
      by_cases d : nI (LVn p k (2 ^ U)) ≤ nI (LVn p j (2 ^ U))
      · rw [if_pos d, if_pos d]
        exact ih (j + 1) f6 f7 _ _ _ (by omega) (by omega) (by omega) (by omega) (Or.inr ⟨k, a, rfl, rfl, rfl⟩)
      · rw [if_neg d, if_neg d]
        exact ih (j + 1) f6 f7 _ _ _ (by omega) (by omega) (by omega) (by omega) (Or.inr ⟨j, hjU, rfl, rfl, rfl⟩)
end F17
