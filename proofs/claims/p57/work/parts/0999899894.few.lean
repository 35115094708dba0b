/-! proofs: the class finds the least set -/
section F25
section WQ
variable {N : Nat} {words unsures slips throne said unit : Int32} {kind parts pn wt tw uw uo r told W W' o Q w st ws steps below above : Nat → Int32}
theorem fw_in (hC : CR N words unsures slips throne said kind parts pn wt tw uw uo r told) (hI : CI N unit kind parts pn wt ws steps below above) (hR : ROk r) {M t : Nat} (hM : M < 2 ^ 18) (hW : ∀ k : Nat, k < N → kind k = 0 → 0 ≤ (W k).toInt ∧ (W k).toInt ≤ 99) (hun : 1 ≤ unit.toInt ∧ unit.toInt ≤ 1296) (hth : throne = nI t) (ht : t < N) {a b : Int32} {z : Nat} (hz : z < 32) {K : Int32 → (Nat → Int32) → (Nat → Int32) → Int32 × (Nat → Int32) × (Nat → Int32)} {p : Nat → Bool} (hp : p = PB unit kind parts pn wt ws W t a b) : ∀ (m i f S : Nat) (V G : Nat → Int32), 2 ^ pcw 32 M - i = m → i ≤ 2 ^ pcw 32 M → m < f → (i < 2 ^ pcw 32 M → Sm S M ∧ ext 32 M S = i) → (∀ X : Nat, Sm X M → ext 32 M X < i → pcw 32 X = z → p X = false) → S ≤ M → (∃ (R : Nat) (V' G' : Nat → Int32), HX6_fewestWords_1 (nI N) throne unit kind parts pn wt ws W a b (nI M) (nI (2 ^ pcw 32 M)) (nI z) K f (nI i) (nI S) V G = (nI R, V', G') ∧ Sm R M ∧ p R = true ∧ pcw 32 R = z ∧ ∀ X : Nat, Sm X M → pcw 32 X = z → p X = true → R ≤ X) ∨ ∃ V' G' : Nat → Int32, HX6_fewestWords_1 (nI N) throne unit kind parts pn wt ws W a b (nI M) (nI (2 ^ pcw 32 M)) (nI z) K f (nI i) (nI S) V G = K (nI (z + 1)) V' G' ∧ ∀ X : Nat, Sm X M → pcw 32 X = z → p X = false := by
  have hT : 2 ^ pcw 32 M ≤ 2 ^ 18 := Nat.pow_le_pow_right (by decide) (by
    rw [pcw_pcs, show (32 : Nat) = 18 + 14 from rfl, pcs_hi hM]
    exact pcs_le 18)
  intro m
  induction m with
  | zero =>
    intro i f S V G hm hi hf h1 h2 h3
    obtain ⟨f, rfl⟩ : ∃ g, f = g + 1 := ⟨f - 1, by omega⟩
    obtain rfl : i = 2 ^ pcw 32 M := by omega
    refine Or.inr ⟨V, G, ?_, fun X hX hz' => h2 X hX (ext_lt hX) hz'⟩
    rw [HX6_fewestWords_1_eq, if_pos (nI_le (Nat.le_refl _) (by omega)), lt_ap, nI_o1]
  | succ m ih =>
    intro i f S V G hm hi hf h1 h2 h3
    obtain ⟨f, rfl⟩ : ∃ g, f = g + 1 := ⟨f - 1, by omega⟩
    obtain ⟨s1, s2⟩ := h1 (by omega)
    have hS : S < 2 ^ 18 := by omega
    have hcS : pcw 32 S ≤ 18 := by
      rw [pcw_pcs, show (32 : Nat) = 18 + 14 from rfl, pcs_hi hS]
      exact pcs_le 18
    -- the next set
    have hnx : (i + 1 < 2 ^ pcw 32 M → Sm (nx 32 M S) M ∧ ext 32 M (nx 32 M S) = i + 1) ∧ nx 32 M S ≤ M := by
      refine ⟨fun hlt => ?_, Nat.and_le_right⟩
      have hne : ¬ S = M := fun q => by
        have := ext_top (w := 32) (M := M) (by omega)
        rw [q] at s2
        omega
      obtain ⟨n1, n2⟩ := nx_step (w := 32) (show M < 2 ^ 32 by omega) s1 hne
      exact ⟨n1, by rw [n2, s2]⟩
    have hfalse : ∀ (hno : pcw 32 S = z → p S = false), ∀ X : Nat, Sm X M → ext 32 M X < i + 1 → pcw 32 X = z → p X = false := fun hno X hX hl hz' => by
      by_cases c : ext 32 M X = i
      · have e := ext_inj (w := 32) (show M < 2 ^ 32 by omega) hX s1 (c.trans s2.symm)
        rw [e] at hz' ⊢
        exact hno hz'
      · exact h2 X hX (by omega) hz'
    rw [HX6_fewestWords_1_eq, if_neg (show ¬ nI (2 ^ pcw 32 M) ≤ nI i by rw [nI_leI (by omega) (by omega)]; omega), lt_ap, bitC hS]
    by_cases c : pcw 32 S = z
    · obtain ⟨V1, G1, e⟩ := sh6 hC hI hR hW (show S < 2 ^ 31 by omega) hun hth ht V G a b
      rw [← hp] at e
      rw [if_pos (by rw [c]), un3_eq e]
      by_cases d : p S = true
      · rw [if_pos d, if_neg (show ¬ (1 : Int32) = 0 by decide)]
        refine Or.inl ⟨S, V1, G1, rfl, s1, d, c, fun X hX hz' hX2 => ?_⟩
        refine ext_le (w := 32) (show M < 2 ^ 32 by omega) s1 hX ?_
        rw [s2]
        rcases Nat.lt_or_ge (ext 32 M X) i with q | q
        · have := h2 X hX q hz'
          rw [this] at hX2
          exact absurd hX2 (by decide)
        · exact q
      · rw [if_neg d, if_pos rfl]
        simp only [lt_ap]
        rw [nx_i (by omega) s1, nI_o1]
        exact ih (i + 1) f (nx 32 M S) V1 G1 (by omega) (by omega) (by omega) hnx.1 (hfalse (fun _ => Bool.eq_false_iff.mpr d)) hnx.2
    · rw [if_neg (show ¬ nI (pcw 32 S) = nI z by rw [nI_eq (by omega) (by omega)]; exact c)]
      simp only [lt_ap]
      rw [nx_i (by omega) s1, nI_o1]
      exact ih (i + 1) f (nx 32 M S) V G (by omega) (by omega) (by omega) hnx.1 (hfalse (fun q => absurd q c)) hnx.2
theorem fw_out (hC : CR N words unsures slips throne said kind parts pn wt tw uw uo r told) (hI : CI N unit kind parts pn wt ws steps below above) (hR : ROk r) {M t : Nat} (hM : M < 2 ^ 18) (hW : ∀ k : Nat, k < N → kind k = 0 → 0 ≤ (W k).toInt ∧ (W k).toInt ≤ 99) (hun : 1 ≤ unit.toInt ∧ unit.toInt ≤ 1296) (hth : throne = nI t) (ht : t < N) {a b : Int32} {p : Nat → Bool} (hp : p = PB unit kind parts pn wt ws W t a b) (hpM : p M = true) : ∀ (m z f : Nat) (V G : Nat → Int32), pcw 32 M - z = m → z ≤ pcw 32 M → m < f → (∀ X : Nat, Sm X M → pcw 32 X < z → p X = false) → ∃ (R : Nat) (V' G' : Nat → Int32), HX6_fewestWords_0 (nI N) throne unit kind parts pn wt ws W a b (nI M) (nI (pcw 32 M)) (nI (2 ^ pcw 32 M)) f (nI z) V G = (nI R, V', G') ∧ Best p M R := by
  have hc : pcw 32 M ≤ 18 := by
    rw [pcw_pcs, show (32 : Nat) = 18 + 14 from rfl, pcs_hi hM]
    exact pcs_le 18
  have hT : 2 ^ pcw 32 M ≤ 2 ^ 18 := Nat.pow_le_pow_right (by decide) hc
  have hpos := Nat.two_pow_pos (pcw 32 M)
  intro m
  induction m with
  | zero =>
    intro z f V G hm hz hf h
    obtain ⟨f, rfl⟩ : ∃ g, f = g + 1 := ⟨f - 1, by omega⟩
    obtain rfl : z = pcw 32 M := by omega
    refine ⟨M, V, G, by rw [HX6_fewestWords_0_eq, if_pos (nI_le (Nat.le_refl _) (by omega))], Sm.self M, hpM, fun X hX hX2 => ?_⟩
    have l := pcw_le (w := 32) hX
    rcases Nat.lt_or_ge (pcw 32 X) (pcw 32 M) with q | q
    · have := h X hX q
      rw [this] at hX2
      exact absurd hX2 (by decide)
    · have e := pcw_eq (w := 32) (show M < 2 ^ 32 by omega) hX (by omega)
      exact Or.inr ⟨by rw [e], by rw [e]; exact Nat.le_refl _⟩
  | succ m ih =>
    intro z f V G hm hz hf h
    obtain ⟨f, rfl⟩ : ∃ g, f = g + 1 := ⟨f - 1, by omega⟩
    rw [HX6_fewestWords_0_eq, if_neg (show ¬ nI (pcw 32 M) ≤ nI z by rw [nI_leI (by omega) (by omega)]; omega)]
    rcases fw_in hC hI hR hM hW hun hth ht (a := a) (b := b) (z := z) (by omega) (K := fun z_4841 f_4842 f_4843 => HX6_fewestWords_0 (nI N) throne unit kind parts pn wt ws W a b (nI M) (nI (pcw 32 M)) (nI (2 ^ pcw 32 M)) f z_4841 f_4842 f_4843) hp (2 ^ pcw 32 M) 0 (((2147483647 - (0 : Int32).toInt).toNat) + 1) 0 V G rfl (Nat.zero_le _) (by rw [kc_0]; generalize 2 ^ pcw 32 M = x at hT; omega) (fun _ => ⟨Sm.zero M, ext_0 32 M⟩) (fun X _ q _ => absurd q (by omega)) (by omega) with ⟨R, V', G', e, r1, r2, r3, r4⟩ | ⟨V', G', e, hno⟩
    · refine ⟨R, V', G', ?_, r1, r2, fun X hX hX2 => ?_⟩
      · rw [nI_0] at e
        exact e
      · rcases Nat.lt_trichotomy (pcw 32 X) z with q | q | q
        · have := h X hX q
          rw [this] at hX2
          exact absurd hX2 (by decide)
        · exact Or.inr ⟨by omega, r4 X hX q hX2⟩
        · exact Or.inl (by omega)
    · obtain ⟨R, V2, G2, e2, hB⟩ := ih (z + 1) f V' G' (by omega) (by omega) (by omega) (fun X hX q => by
        by_cases c : pcw 32 X = z
        · exact hno X hX c
        · exact h X hX (by omega))
      refine ⟨R, V2, G2, ?_, hB⟩
      rw [nI_0] at e
      exact e.trans e2
theorem fw6 (hC : CR N words unsures slips throne said kind parts pn wt tw uw uo r told) (hI : CI N unit kind parts pn wt ws steps below above) (hR : ROk r) {t : Nat} (hW : ∀ k : Nat, k < N → kind k = 0 → 0 ≤ (W k).toInt ∧ (W k).toInt ≤ 99) (hun : 1 ≤ unit.toInt ∧ unit.toInt ≤ 1296) (hth : throne = nI t) (ht : t < N) (a b : Int32) {p : Nat → Bool} (hp : p = PB unit kind parts pn wt ws W t a b) (V G : Nat → Int32) : ∃ (R : Int32) (V' G' : Nat → Int32), PX6_fewestWords (nI N) throne unit kind parts pn wt ws below W V G a b = (R, V', G') ∧ ((p (bm below t) = false ∧ R = -2) ∨ ∃ X : Nat, R = nI X ∧ Best p (bm below t) X) := by
  have hN := hI.1
  obtain ⟨hb, hM, -⟩ := bm_all hI t ht
  obtain ⟨V1, G1, e⟩ := sh6 hC hI hR hW (show bm below t < 2 ^ 31 by omega) hun hth ht V G a b
  rw [← hp] at e
  rw [PX6_fewestWords_eq, hth, nI_clamp (show t < 2 ^ 31 by omega), hb, lt_ap]
  rw [hth] at e
  by_cases d : p (bm below t) = true
  · obtain ⟨R, V', G', e2, hB⟩ := fw_out hC hI hR hM hW hun hth ht hp d (pcw 32 (bm below t)) 0 (((2147483647 - (0 : Int32).toInt).toNat) + 1) V1 G1 rfl (by omega) (by
      have : pcw 32 (bm below t) ≤ 18 := by
        rw [pcw_pcs, show (32 : Nat) = 18 + 14 from rfl, pcs_hi hM]
        exact pcs_le 18
      rw [kc_0]; omega) (fun X _ q => absurd q (by omega))
    have hc : pcw 32 (bm below t) ≤ 18 := by
      rw [pcw_pcs, show (32 : Nat) = 18 + 14 from rfl, pcs_hi hM]
      exact pcs_le 18
    refine ⟨nI R, V', G', ?_, Or.inr ⟨R, rfl, hB⟩⟩
    rw [un3_eq e, if_pos d, if_neg (show ¬ (1 : Int32) = 0 by decide)]
    simp only [lt_ap]
    rw [bitC hM, bt_shl _ (by omega)]
    rw [nI_0, hth] at e2
    exact e2
  · refine ⟨-2, V1, G1, ?_, Or.inl ⟨Bool.eq_false_iff.mpr d, rfl⟩⟩
    rw [un3_eq e, if_neg d, if_pos rfl]
end WQ
end F25
