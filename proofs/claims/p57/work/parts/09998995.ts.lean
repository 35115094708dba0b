/-! turns: on both sides -/
section F10
theorem nI_half (n : Nat) (h : n < 2 ^ 31) : nI n / 2 = nI (n / 2) := by
  have k2 : (2 : Int32).toInt = 2 := by decide
  rw [fz_eq, ti_divE (z := nI n / 2) rfl (nI_toInt h) k2 (by omega) (by omega), nI_toInt (by omega)]
  omega
/-- the least change within room by which the throne's worth is another one, or -2 -/
def LTs (A : Nat → Int32) (now : Int32) (room : Nat) (R : Int32) : Prop := (R = -2 ∧ ∀ c : Nat, 1 ≤ c → c ≤ room → A c = now) ∨ ∃ c0 : Nat, 1 ≤ c0 ∧ c0 ≤ room ∧ R = nI c0 ∧ ¬ A c0 = now ∧ ∀ c : Nat, 1 ≤ c → c < c0 → A c = now
def hitB (Au Ad : Nat → Int32) (now : Int32) (ru rd c : Nat) : Prop := (c ≤ ru ∧ ¬ Au c = now) ∨ (c ≤ rd ∧ ¬ Ad c = now)
def TSs (H : Nat → Prop) (R : Int32) : Prop := (R = -2 ∧ ∀ c : Nat, 1 ≤ c → c ≤ 99 → ¬ H c) ∨ ∃ c0 : Nat, 1 ≤ c0 ∧ c0 ≤ 99 ∧ R = nI c0 ∧ H c0 ∧ ∀ c : Nat, 1 ≤ c → c < c0 → ¬ H c
theorem TSs.one {H : Nat → Prop} {R R' : Int32} (h : TSs H R) (h' : TSs H R') : R = R' := by
  rcases h with ⟨e, n⟩ | ⟨c, c1, c2, e, hc, n⟩ <;> rcases h' with ⟨e', n'⟩ | ⟨c', c1', c2', e', hc', n'⟩
  · rw [e, e']
  · exact absurd hc' (n c' c1' c2')
  · exact absurd hc (n' c c1 c2)
  · rcases Nat.lt_trichotomy c c' with q | q | q
    · exact absurd hc (n' c c1 q)
    · rw [e, e', q]
    · exact absurd hc' (n c' c1' q)
theorem TSs.of {Au Ad : Nat → Int32} {now U D R : Int32} {ru rd : Nat} (hu : LTs Au now ru U) (hd : LTs Ad now rd D) (h1 : ru ≤ 99) (h2 : rd ≤ 99) (hR : R = if U < 0 then (if U < D then D else U) else if 0 ≤ D then (if D < U then D else U) else (if U < D then D else U)) : TSs (hitB Au Ad now ru rd) R := by
  have m2 : (-2 : Int32) < 0 := by decide
  rcases hu with ⟨rfl, nu⟩ | ⟨a, a1, a2, rfl, ha, nu⟩ <;> rcases hd with ⟨rfl, nd⟩ | ⟨b, b1, b2, rfl, hb, nd⟩
  · rw [if_pos m2, if_neg (show ¬ (-2 : Int32) < -2 by decide)] at hR
    refine Or.inl ⟨hR, fun c c1 _ q => ?_⟩
    rcases q with ⟨q1, q2⟩ | ⟨q1, q2⟩
    · exact q2 (nu c c1 q1)
    · exact q2 (nd c c1 q1)
  · rw [if_pos m2, if_pos (show (-2 : Int32) < nI b by rw [fz_lt, nI_toInt (by omega), show (-2 : Int32).toInt = -2 by decide]; omega)] at hR
    refine Or.inr ⟨b, b1, by omega, hR, Or.inr ⟨b2, hb⟩, fun c c1 c2 q => ?_⟩
    rcases q with ⟨q1, q2⟩ | ⟨q1, q2⟩
    · exact q2 (nu c c1 q1)
    · exact q2 (nd c c1 c2)
  · rw [if_neg (nI_pos (by omega)), if_neg (show ¬ (0 : Int32) ≤ -2 by decide), if_neg (show ¬ nI a < (-2 : Int32) by rw [fz_lt, nI_toInt (by omega), show (-2 : Int32).toInt = -2 by decide]; omega)] at hR
    refine Or.inr ⟨a, a1, by omega, hR, Or.inl ⟨a2, ha⟩, fun c c1 c2 q => ?_⟩
    rcases q with ⟨q1, q2⟩ | ⟨q1, q2⟩
    · exact q2 (nu c c1 c2)
    · exact q2 (nd c c1 q1)
  · rw [if_neg (nI_pos (by omega)), if_pos (nI_pos' (by omega))] at hR
    by_cases cc : b < a
    · rw [if_pos (nI_lt cc (by omega))] at hR
      refine Or.inr ⟨b, b1, by omega, hR, Or.inr ⟨b2, hb⟩, fun c c1 c2 q => ?_⟩
      rcases q with ⟨q1, q2⟩ | ⟨q1, q2⟩
      · exact q2 (nu c c1 (by omega))
      · exact q2 (nd c c1 c2)
    · rw [if_neg (nI_nlt (by omega) (by omega))] at hR
      refine Or.inr ⟨a, a1, by omega, hR, Or.inl ⟨a2, ha⟩, fun c c1 c2 q => ?_⟩
      rcases q with ⟨q1, q2⟩ | ⟨q1, q2⟩
      · exact q2 (nu c c1 c2)
      · exact q2 (nd c c1 (by omega))
section TL
variable {un throne now way : Int32} {kind parts pn wt ws w st r told : Nat → Int32} {N k room : Nat} {T : Int32 → Int32} {X : Nat → Int32}
theorem lt_loop (hk : k < 18) (hr : room ≤ 99) (h6 : ∀ (V S : Nat → Int32) (c : Nat), c ≤ room → ∃ V' S' : Nat → Int32, PX4_throneByWord V S (nI N) throne un kind parts pn wt ws w (nI k) (X c) = (T (X c), V', S')) (hX : ∀ c : Nat, c ≤ room → w k + way * nI c = X c) (hm : ∀ c c' : Nat, c ≤ c' → c' ≤ room → ¬ T (X c) = now → ¬ T (X c') = now) : ∀ (m a b i f : Nat) (V S : Nat → Int32), b - a ≤ m → 1 ≤ a → a ≤ b → b ≤ room → b - a + i ≤ 98 → m < f → ¬ T (X b) = now → (∀ c : Nat, 1 ≤ c → c < a → T (X c) = now) → ∃ (c0 : Nat) (V' S' : Nat → Int32), HX6_leastTurnTowards_0 (nI N) throne un kind parts pn wt ws w (nI k) way now f (nI i) (nI b) (nI a) V S = (nI c0, V', S') ∧ 1 ≤ c0 ∧ c0 ≤ room ∧ ¬ T (X c0) = now ∧ ∀ c : Nat, 1 ≤ c → c < c0 → T (X c) = now := by
  have k99 : (99 : Int32).toInt = 99 := by decide
  intro m
  induction m with
  | zero =>
    intro a b i f V S h1 h2 h3 h4 h5 hf hb ha
    obtain ⟨f, rfl⟩ : ∃ g, f = g + 1 := ⟨f - 1, by omega⟩
    obtain rfl : a = b := by omega
    refine ⟨a, V, S, ?_, h2, h4, hb, ha⟩
    rw [HX6_leastTurnTowards_0_eq, if_neg (show ¬ (99 : Int32) ≤ nI i by rw [fz_le, k99, nI_toInt (by omega)]; omega), if_pos (nI_le (Nat.le_refl _) (by omega))]
  | succ m ih =>
    intro a b i f V S h1 h2 h3 h4 h5 hf hb ha
    obtain ⟨f, rfl⟩ : ∃ g, f = g + 1 := ⟨f - 1, by omega⟩
    rw [HX6_leastTurnTowards_0_eq, if_neg (show ¬ (99 : Int32) ≤ nI i by rw [fz_le, k99, nI_toInt (by omega)]; omega)]
    by_cases c : b ≤ a
    · obtain rfl : a = b := by omega
      exact ⟨a, V, S, by rw [if_pos (nI_le (Nat.le_refl _) (by omega))], h2, h4, hb, ha⟩
    · rw [if_neg (show ¬ nI b ≤ nI a by rw [nI_leI (by omega) (by omega)]; omega)]
      simp only [lt_ap]
      rw [nI_add, nI_half _ (by omega), nI_clamp (show k < 2 ^ 31 by omega), hX ((a + b) / 2) (by omega)]
      obtain ⟨V', S', e⟩ := h6 V S ((a + b) / 2) (by omega)
      rw [un3_eq e]
      by_cases cT : T (X ((a + b) / 2)) = now
      · rw [if_pos cT, nI_o1, nI_1]
        exact ih ((a + b) / 2 + 1) b (i + 1) f V' S' (by omega) (by omega) (by omega) h4 (by omega) (by omega) hb (fun c c1 c2 => by
          by_cases q : T (X c) = now
          · exact q
          · exact absurd cT (hm c ((a + b) / 2) (by omega) (by omega) q))
      · rw [if_neg cT, nI_o1]
        exact ih a ((a + b) / 2) (i + 1) f V' S' (by omega) h2 (by omega) (by omega) (by omega) (by omega) cT ha
theorem lt_eq6 (hk : k < 18) (hr : room ≤ 99) (h6 : ∀ (V S : Nat → Int32) (c : Nat), c ≤ room → ∃ V' S' : Nat → Int32, PX4_throneByWord V S (nI N) throne un kind parts pn wt ws w (nI k) (X c) = (T (X c), V', S')) (hX : ∀ c : Nat, c ≤ room → w k + way * nI c = X c) (hm : ∀ c c' : Nat, c ≤ c' → c' ≤ room → ¬ T (X c) = now → ¬ T (X c') = now) (h0 : T (X 0) = now) (V S : Nat → Int32) : ∃ (R : Int32) (V' S' : Nat → Int32), PX6_leastTurnTowards (nI N) throne un kind parts pn wt ws w V S (nI k) way (nI room) now = (R, V', S') ∧ LTs (fun c => T (X c)) now room R := by
  obtain ⟨V', S', e⟩ := h6 V S room (Nat.le_refl _)
  have e1 : PX6_leastTurnTowards (nI N) throne un kind parts pn wt ws w V S (nI k) way (nI room) now = if T (X room) = now then (-2, V', S') else HX6_leastTurnTowards_0 (nI N) throne un kind parts pn wt ws w (nI k) way now (((2147483647 - (0 : Int32).toInt).toNat) + 1) 0 (nI room) 1 V' S' := by
    rw [PX6_leastTurnTowards_eq]
    simp only [lt_ap]
    rw [nI_clamp (show k < 2 ^ 31 by omega), hX room (Nat.le_refl _), un3_eq e]
  rw [e1]
  by_cases c : T (X room) = now
  · refine ⟨-2, V', S', by rw [if_pos c], Or.inl ⟨rfl, fun c' c1 c2 => ?_⟩⟩
    by_cases q : T (X c') = now
    · exact q
    · exact absurd c (hm c' room c2 (Nat.le_refl _) q)
  · have hr1 : 1 ≤ room := by
      by_cases q : room = 0
      · rw [q] at c; exact absurd h0 c
      · omega
    obtain ⟨c0, V2, S2, e2, a1, a2, a3, a4⟩ := lt_loop hk hr h6 hX hm 98 1 room 0 (((2147483647 - (0 : Int32).toInt).toNat) + 1) V' S' (by omega) (by omega) hr1 (Nat.le_refl _) (by omega) (by rw [kc_0]; omega) c (fun c c1 c2 => absurd c1 (by omega))
    rw [nI_0] at e2
    refine ⟨nI c0, V2, S2, by rw [if_neg c]; exact e2, Or.inr ⟨c0, a1, a2, rfl, a3, a4⟩⟩
/-- the reference's search -/
theorem t7_in {wk : Nat} {K : Int32 → (Nat → Int32) → Int32 × (Nat → Int32)} {off s : Int32} (hk : k < 18) (hs : ¬ (2 : Int32) ≤ s) (h7 : ∀ (g : Nat → Int32) (x : Int32), g (72 + k) = x → (∀ q : Nat, q < 90 → ¬ q = 72 + k → g q = st q) → PX7_throneBy r told un (-1) g = T x) (f : Nat) {F : Nat → Int32} (hF : ∀ q : Nat, q < 90 → ¬ q = 72 + k → F q = st q) : ∃ F' : Nat → Int32, (∀ q : Nat, q < 90 → ¬ q = 72 + k → F' q = st q) ∧ HX7_turnOf_1 r told st un (-1) (nI k) now off K (f + 1) s F = if (0 ≤ (st (72 + k) + s * off).toInt ∧ (st (72 + k) + s * off).toInt ≤ 99) ∧ ¬ T (st (72 + k) + s * off) = now then (off, F') else HX7_turnOf_1 r told st un (-1) (nI k) now off K f (s + Int32.ofInt 2) F' := by
  have k99 : (99 : Int32).toInt = 99 := by decide
  have hF2 : ∀ q : Nat, q < 90 → ¬ q = 72 + k → upd F (72 + k) (st (72 + k) + s * off) q = st q := fun q q1 q2 => by rw [upd_ne q2]; exact hF q q1 q2
  refine ⟨upd F (72 + k) (st (72 + k) + s * off), hF2, ?_⟩
  rw [HX7_turnOf_1_eq, if_neg hs]
  simp only [lt_ap]
  rw [show (72 : Int32) + nI k = nI (72 + k) from nI_add 72 k, nI_clamp (show 72 + k < 2 ^ 31 by omega), upd_at, in_eq, kc_0, k99, h7 _ _ (upd_at _ _ _) hF2]
  by_cases c : 0 ≤ (st (72 + k) + s * off).toInt ∧ (st (72 + k) + s * off).toInt ≤ 99
  · rw [if_pos c, if_neg (show ¬ (1 : Int32) = 0 by decide)]
    by_cases q : T (st (72 + k) + s * off) = now
    · rw [if_pos q, if_neg (fun z => z.2 q)]
    · rw [if_neg q, if_pos ⟨c, q⟩]
  · rw [if_neg c, if_pos rfl, if_neg (fun z => c z.1)]
theorem t7_loop {wk : Nat} (hk : k < 18) (hw : st (72 + k) = nI wk) (hwk : wk ≤ 99) (h7 : ∀ (g : Nat → Int32) (x : Int32), g (72 + k) = x → (∀ q : Nat, q < 90 → ¬ q = 72 + k → g q = st q) → PX7_throneBy r told un (-1) g = T x) : ∀ (m c f : Nat) (F : Nat → Int32), 100 - c = m → 1 ≤ c → c ≤ 100 → m < f → (∀ q : Nat, q < 90 → ¬ q = 72 + k → F q = st q) → (∀ c' : Nat, 1 ≤ c' → c' < c → ¬ hitB (fun c => T (nI (wk + c))) (fun c => T (nI (wk - c))) now (99 - wk) wk c') → ∃ (R : Int32) (F' : Nat → Int32), HX7_turnOf_0 r told st un (-1) (nI k) now f (nI c) F = (R, F') ∧ TSs (hitB (fun c => T (nI (wk + c))) (fun c => T (nI (wk - c))) now (99 - wk) wk) R := by
  have k100 : (100 : Int32).toInt = 100 := by decide
  have km1 : (-1 : Int32).toInt = -1 := by decide
  intro m
  induction m with
  | zero =>
    intro c f F hm h1 h2 hf hF hn
    obtain ⟨f, rfl⟩ : ∃ g, f = g + 1 := ⟨f - 1, by omega⟩
    obtain rfl : c = 100 := by omega
    refine ⟨-2, F, by rw [HX7_turnOf_0_eq, if_pos (show (100 : Int32) ≤ nI 100 by decide)], Or.inl ⟨rfl, fun c' c1 c2 => hn c' c1 (by omega)⟩⟩
  | succ m ih =>
    intro c f F hm h1 h2 hf hF hn
    obtain ⟨f, rfl⟩ : ∃ g, f = g + 1 := ⟨f - 1, by omega⟩
    have ev : (-1 : Int32) * nI c = nI wk * 0 + -1 * nI c := by
      rw [Int32.mul_zero, Int32.zero_add]
    have xd : (nI wk + -1 * nI c).toInt = (wk : Int) - c := by
      have e1 : ((-1 : Int32) * nI c).toInt = -(c : Int) := by
        rw [fb_mulI (by rw [km1, nI_toInt (by omega)]; omega) (by rw [km1, nI_toInt (by omega)]; omega), km1, nI_toInt (by omega)]
        omega
      rw [fb_addI (by rw [e1, nI_toInt (by omega)]; omega) (by rw [e1, nI_toInt (by omega)]; omega), e1, nI_toInt (by omega)]
      omega
    have xu : nI wk + 1 * nI c = nI (wk + c) := by rw [Int32.one_mul, nI_add]
    have xui : (nI wk + 1 * nI c).toInt = (wk : Int) + c := by
      rw [xu, nI_toInt (by omega)]
      omega
    have five : (((3 - (-1 : Int32).toInt).toNat) + 1) = 2 + 1 + 1 + 1 := by rw [km1]; rfl
    obtain ⟨F1, g1, e1⟩ := t7_in (wk := wk) (now := now) (K := fun a b => HX7_turnOf_0 r told st un (-1) (nI k) now f a b) (off := nI c) (s := -1) hk (by decide) h7 (2 + 1 + 1) hF
    obtain ⟨F2, g2, e2⟩ := t7_in (wk := wk) (now := now) (K := fun a b => HX7_turnOf_0 r told st un (-1) (nI k) now f a b) (off := nI c) (s := 1) hk (by decide) h7 (2 + 1) g1
    rw [HX7_turnOf_0_eq, if_neg (show ¬ (100 : Int32) ≤ nI c by rw [fz_le, k100, nI_toInt (by omega)]; omega), five, e1, hw, show (-1 : Int32) + Int32.ofInt 2 = 1 from by decide, e2, hw]
    by_cases cd : (0 ≤ (nI wk + -1 * nI c).toInt ∧ (nI wk + -1 * nI c).toInt ≤ 99) ∧ ¬ T (nI wk + -1 * nI c) = now
    · rw [if_pos cd]
      obtain ⟨⟨a1, a2⟩, a3⟩ := cd
      rw [xd] at a1 a2
      have ex : nI wk + -1 * nI c = nI (wk - c) := by rw [fz_eq, xd, nI_toInt (by omega)]; omega
      rw [ex] at a3
      exact ⟨_, _, rfl, Or.inr ⟨c, h1, by omega, rfl, Or.inr ⟨by omega, a3⟩, hn⟩⟩
    · rw [if_neg cd]
      by_cases cu : (0 ≤ (nI wk + 1 * nI c).toInt ∧ (nI wk + 1 * nI c).toInt ≤ 99) ∧ ¬ T (nI wk + 1 * nI c) = now
      · rw [if_pos cu]
        obtain ⟨⟨a1, a2⟩, a3⟩ := cu
        rw [xui] at a1 a2
        rw [xu] at a3
        exact ⟨_, _, rfl, Or.inr ⟨c, h1, by omega, rfl, Or.inl ⟨by omega, a3⟩, hn⟩⟩
      · rw [if_neg cu, HX7_turnOf_1_eq, if_pos (show (2 : Int32) ≤ 1 + Int32.ofInt 2 by decide)]
        simp only [lt_ap]
        rw [nI_o1]
        refine ih (c + 1) f F2 (by omega) (by omega) (by omega) (by omega) g2 (fun c' c1 c2 => ?_)
        by_cases q : c' = c
        · rw [q]
          intro hh
          rcases hh with ⟨a1, a2⟩ | ⟨a1, a2⟩
          · exact cu ⟨⟨by rw [xui]; omega, by rw [xui]; omega⟩, by rw [xu]; exact a2⟩
          · have ex : nI wk + -1 * nI c = nI (wk - c) := by rw [fz_eq, xd, nI_toInt (by omega)]; omega
            exact cd ⟨⟨by rw [xd]; omega, by rw [xd]; omega⟩, by rw [ex]; exact a2⟩
        · exact hn c' c1 (by omega)
end TL
end F10
