/-! court(n) on both sides: the court that stands behind it -/
section D4
theorem sa_in {k : Nat} (hk : k < 18) {W : Nat → Int32} {K : Int32 → (Nat → Int32) → (Nat → Int32) → (Nat → Int32) × (Nat → Int32)} : ∀ (r i f : Nat) (F : Nat → Int32), 4 - i = r → i ≤ 4 → r < f → ∃ G : Nat → Int32, HX5_standAsTold_1 (nI k) W K f (nI i) F = K (nI (k + 1)) W G ∧ (∀ q : Nat, 4 * k + i ≤ q → q < 4 * k + 4 → G q = nI (q - 4 * k)) ∧ ∀ q : Nat, q < 4 * k + i ∨ 4 * k + 4 ≤ q → G q = F q := by
  intro r
  induction r with
  | zero =>
    intro i f F hr hi hf
    obtain ⟨f, rfl⟩ : ∃ g, f = g + 1 := ⟨f - 1, by omega⟩
    refine ⟨F, ?_, fun q q1 q2 => absurd q1 (by omega), fun q _ => rfl⟩
    rw [HX5_standAsTold_1_eq, if_pos (show (4 : Int32) ≤ nI i by rw [fz_le, kc_4, nI_toInt (by omega)]; omega)]
    dsimp only [lt_]
    rw [nI_o1]
  | succ r ih =>
    intro i f F hr hi hf
    obtain ⟨f, rfl⟩ : ∃ g, f = g + 1 := ⟨f - 1, by omega⟩
    rw [HX5_standAsTold_1_eq, if_neg (show ¬ (4 : Int32) ≤ nI i by rw [fz_le, kc_4, nI_toInt (by omega)]; omega)]
    dsimp only [lt_]
    rw [nI_m4 (by omega), nI_add, nI_clamp (by omega), nI_o1]
    obtain ⟨G, e, g1, g2⟩ := ih (i + 1) f (upd F (4 * k + i) (nI i)) (by omega) (by omega) (by omega)
    refine ⟨G, e, fun q q1 q2 => ?_, fun q hq => ?_⟩
    · by_cases h : q = 4 * k + i
      · rw [g2 q (by omega), h, upd_at, show 4 * k + i - 4 * k = i by omega]
      · exact g1 q (by omega) q2
    · rw [g2 q (by omega), upd_ne (by omega)]
theorem sa_out {tw : Nat → Int32} : ∀ (r k f : Nat) (W O : Nat → Int32), 18 - k = r → k ≤ 18 → r < f → ∃ W' O' : Nat → Int32, HX5_standAsTold_0 tw f (nI k) W O = (W', O') ∧ (∀ j : Nat, k ≤ j → j < 18 → W' j = tw j) ∧ (∀ j : Nat, j < k → W' j = W j) ∧ (∀ j i : Nat, k ≤ j → j < 18 → i < 4 → O' (4 * j + i) = nI i) ∧ ∀ q : Nat, q < 4 * k → O' q = O q := by
  have k18 : (18 : Int32).toInt = 18 := by decide
  intro r
  induction r with
  | zero =>
    intro k f W O hr hk hf
    obtain ⟨f, rfl⟩ : ∃ g, f = g + 1 := ⟨f - 1, by omega⟩
    refine ⟨W, O, ?_, fun j q1 q2 => absurd q1 (by omega), fun j _ => rfl, fun j i q1 q2 => absurd q1 (by omega), fun q _ => rfl⟩
    rw [HX5_standAsTold_0_eq, if_pos (show (18 : Int32) ≤ nI k by rw [fz_le, k18, nI_toInt (by omega)]; omega)]
  | succ r ih =>
    intro k f W O hr hk hf
    obtain ⟨f, rfl⟩ : ∃ g, f = g + 1 := ⟨f - 1, by omega⟩
    rw [HX5_standAsTold_0_eq, if_neg (show ¬ (18 : Int32) ≤ nI k by rw [fz_le, k18, nI_toInt (by omega)]; omega)]
    dsimp only [lt_]
    rw [nI_clamp (by omega)]
    obtain ⟨G, e, g1, g2⟩ := sa_in (k := k) (W := upd W k (tw k)) (K := fun z f1 f2 => HX5_standAsTold_0 tw f z f1 f2) (by omega) 4 0 (((2147483647 - (0 : Int32).toInt).toNat) + 1) O rfl (by omega) (by rw [kc_0]; omega)
    rw [nI_0] at e
    rw [e]
    obtain ⟨W', O', e2, a1, a2, a3, a4⟩ := ih (k + 1) f (upd W k (tw k)) G (by omega) (by omega) (by omega)
    refine ⟨W', O', e2, fun j q1 q2 => ?_, fun j q1 => ?_, fun j i q1 q2 q3 => ?_, fun q hq => ?_⟩
    · by_cases h : j = k
      · rw [a2 j (by omega), h, upd_at]
      · exact a1 j (by omega) q2
    · rw [a2 j (by omega), upd_ne (by omega)]
    · by_cases h : j = k
      · rw [a4 _ (by omega), h, g1 _ (by omega) (by omega), show 4 * k + i - 4 * k = i by omega]
      · exact a3 j i (by omega) q2 q3
    · rw [a4 q (by omega), g2 q (by omega)]
theorem sa_eq (W O tw : Nat → Int32) : ∃ W' O' : Nat → Int32, PX5_standAsTold W O tw = (W', O') ∧ (∀ j : Nat, j < 18 → W' j = tw j) ∧ ∀ j i : Nat, j < 18 → i < 4 → O' (4 * j + i) = nI i := by
  obtain ⟨W', O', e, a1, -, a3, -⟩ := sa_out (tw := tw) 18 0 (((2147483647 - (0 : Int32).toInt).toNat) + 1) W O rfl (by omega) (by rw [kc_0]; omega)
  rw [nI_0] at e
  exact ⟨W', O', by rw [PX5_standAsTold_eq]; exact e, fun j hj => a1 j (by omega) hj, fun j i hj hi => a3 j i (by omega) hj hi⟩
theorem StR_told {N : Nat} {words unsures slips throne said : Int32} {kind parts pn wt tw uw uo r told w o s : Nat → Int32} (h : CR N words unsures slips throne said kind parts pn wt tw uw uo r told) (hw : ∀ j : Nat, j < 18 → w j = tw j) (ho : ∀ j i : Nat, j < 18 → i < 4 → o (4 * j + i) = nI i) (hs : ∀ q : Nat, q < 90 → s q = told q) : StR N parts pn w o s := by
  obtain ⟨hN0, hN, -⟩ := h.N
  intro k hk
  obtain ⟨-, -, h0, h4, h5⟩ := h.k hk
  have htw : tw k = told (72 + k) := by
    obtain ⟨-, -, -, -, -, -, -, -, -, -, -, hK⟩ := h
    exact (hK.1 k hk).2.2.1
  refine ⟨by rw [hw k (by omega), htw, hs _ (by omega)], fun i hi => ?_, fun i j hi hj e => ?_⟩
  · rw [ho k i (by omega) (by omega), nI_toInt (by omega), hs _ (by omega), Int.toNat_natCast]
    exact ⟨by omega, hi, (h5 i hi).1⟩
  · rw [ho k i (by omega) (by omega), ho k j (by omega) (by omega)] at e
    exact (nI_eq (by omega) (by omega)).mp e
/-- what court has done: nothing but a refusal, or a new court stands -/
def CtD (C : Int32 × Int32 × Int32 × Int32 × Int32 × (Nat → Int32) × (Nat → Int32) × Int32 × Int32 × Int32 × Int32 × Int32 × Int32 × Int32 × Int32 × Int64 × Int32 × Int32 × Int32 × (Nat → Int64) × Int32 × Int32 × Int32 × Int32 × Int32 × Int32 × Int32 × Int32 × (Nat → Int32) × (Nat → Int32) × (Nat → Int32) × (Nat → Int32) × (Nat → Int32) × (Nat → Int32) × (Nat → Int32) × (Nat → Int32) × (Nat → Int32) × (Nat → Int32) × (Nat → Int32)) (M : Int32 × Int32 × Int32 × Int32 × Int32 × Int32 × Int32 × Int32 × Int32 × Int32 × Int32 × Int32 × Int32 × Int32 × Int32 × Int32 × Int32 × Int32 × (Nat → Int32) × (Nat → Int32) × (Nat → Int32) × (Nat → Int32) × (Nat → Int32) × (Nat → Int32) × (Nat → Int32)) (ic : Int32) (w o : Nat → Int32) (ac hc : Int32) (r9 t9 s9 : Nat → Int32) (und img : Int32) : Prop := (C.1 = -1 ∧ C.2.1 = ic ∧ C.2.2.2.2.2.1 = w ∧ C.2.2.2.2.2.2.1 = o ∧ C.2.2.2.2.2.2.2.1 = ac ∧ CtU M hc r9 t9 s9 und img) ∨ (¬ C.1 = -1 ∧ C.2.1 = 0 ∧ C.2.2.2.2.2.2.2.1 = 0 ∧ ∃ N : Nat, C.2.2.2.2.2.2.2.2.2.2.2.2.2.2.2.2.2.2.2.2.1 = nI N ∧ CR N C.2.2.2.2.2.2.2.2.2.2.2.2.2.2.2.2.2.2.2.2.2.1 C.2.2.2.2.2.2.2.2.2.2.2.2.2.2.2.2.2.2.2.2.2.2.2.1 C.2.2.2.2.2.2.2.2.2.2.2.2.2.2.2.2.2.2.2.2.2.2.2.2.1 C.2.2.2.2.2.2.2.2.2.2.2.2.2.2.2.2.2.2.2.2.2.2.2.2.2.1 C.2.2.2.2.2.2.2.2.2.2.2.2.2.2.2.2.2.2.2.2.2.2.2.2.2.2.1 C.2.2.2.2.2.2.2.2.2.2.2.2.2.2.2.2.2.2.2.2.2.2.2.2.2.2.2.2.1 C.2.2.2.2.2.2.2.2.2.2.2.2.2.2.2.2.2.2.2.2.2.2.2.2.2.2.2.2.2.1 C.2.2.2.2.2.2.2.2.2.2.2.2.2.2.2.2.2.2.2.2.2.2.2.2.2.2.2.2.2.2.1 C.2.2.2.2.2.2.2.2.2.2.2.2.2.2.2.2.2.2.2.2.2.2.2.2.2.2.2.2.2.2.2.1 C.2.2.2.2.2.2.2.2.2.2.2.2.2.2.2.2.2.2.2.2.2.2.2.2.2.2.2.2.2.2.2.2.2.1 C.2.2.2.2.2.2.2.2.2.2.2.2.2.2.2.2.2.2.2.2.2.2.2.2.2.2.2.2.2.2.2.2.2.2.2.2.2.1 C.2.2.2.2.2.2.2.2.2.2.2.2.2.2.2.2.2.2.2.2.2.2.2.2.2.2.2.2.2.2.2.2.2.2.2.2.2.2 M.2.2.2.2.2.2.2.2.2.2.2.2.2.2.2.2.2.2.2.1 M.2.2.2.2.2.2.2.2.2.2.2.2.2.2.2.2.2.2.2.2.2.1 ∧ StR N C.2.2.2.2.2.2.2.2.2.2.2.2.2.2.2.2.2.2.2.2.2.2.2.2.2.2.2.2.2.1 C.2.2.2.2.2.2.2.2.2.2.2.2.2.2.2.2.2.2.2.2.2.2.2.2.2.2.2.2.2.2.1 C.2.2.2.2.2.1 C.2.2.2.2.2.2.1 M.2.2.2.2.2.2.2.2.2.2.2.2.2.2.2.2.2.2.2.2.2.2.2.1 ∧ M.2.2.2.2.2.2.2.2.2.2.2.2.2.1 = 1 ∧ M.2.2.2.2.2.2.2.2.2.2.2.2.2.2.1 = 0 ∧ M.2.2.2.2.2.2.2.2.2.2.2.2.2.2.2.1 = 0 ∧ C.1 = C.2.2.2.2.2.2.2.2.2.2.2.2.2.2.2.2.2.2.2.2.1)
section CD
variable {T U : Nat → Int32} {t : Nat} {keys : Nat → Int64}
theorem court_pureX (hK : KwOk keys) (hT : TR T U t) (ht : t ≤ 900) (p lf ic ac hc undos images scale : Int32) (w o r told st : Nat → Int32) (iK_latestPlace : Int32) (iR_faultNumber : Int32) (iR_faultPlace : Int32) (iR_end : Int32) (iR_tokenKind : Int32) (iR_tokenFrom : Int32) (iR_tokenTo : Int32) (iR_tokenName : Int64) (iR_tokenKey : Int32) (iR_tokenWhole : Int32) (iR_courtTold : Int32) (fR_names : Nat → Int64) (iD_nodes : Int32) (iD_words : Int32) (iD_chances : Int32) (iD_unsures : Int32) (iD_slips : Int32) (iD_throneNode : Int32) (iD_saidWorth : Int32) (iD_unit : Int32) (fD_kind : Nat → Int32) (fD_parts : Nat → Int32) (fD_partNodes : Nat → Int32) (fD_weights : Nat → Int32) (fD_weightSums : Nat → Int32) (fD_toldWorths : Nat → Int32) (fD_steps : Nat → Int32) (fD_below : Nat → Int32) (fD_above : Nat → Int32) (fD_unsureWords : Nat → Int32) (fD_unsureWorths : Nat → Int32) (iM_size : Int32) (iM_at : Int32) (iM_end : Int32) (iM_token : Int32) (iM_whole : Int32) (iM_nameSize : Int32) (iM_place : Int32) (fM_letters : Nat → Int32) (iM_failed : Int32) (fM_fresh : Nat → Int32) (fM_read : Nat → Int32) (fM_fresher : Nat → Int32) (iM_fresherSize : Int32) : CtD (PX6_court ic lf iK_latestPlace w o ac iR_faultNumber iR_faultPlace (nI t) T iR_end iR_tokenKind iR_tokenFrom iR_tokenTo iR_tokenName iR_tokenKey iR_tokenWhole iR_courtTold fR_names keys iD_nodes iD_words iD_chances iD_unsures iD_slips iD_throneNode iD_saidWorth iD_unit fD_kind fD_parts fD_partNodes fD_weights fD_weightSums fD_toldWorths fD_steps fD_below fD_above fD_unsureWords fD_unsureWorths p) (PX7_court U (nI t) iM_size iM_at iM_end iM_token iM_whole iM_nameSize lf iM_place fM_letters iM_failed hc r fM_fresh told fM_read st undos images fM_fresher iM_fresherSize scale p) ic w o ac hc r told st undos images := by
  rw [PX6_court_eq, PX7_court_eq, PX7_good_eq, un2_eq (t := ((0 : Int32), (0 : Int32))) rfl, in_eq]
  dsimp only [lt_]
  rw [kc_0, nI_toInt (by omega)]
  have hrf : ∀ q : Int32, PX6_refuse q = (-1, q) := fun q => PX6_refuse_eq q
  by_cases h0 : p.toInt < 0
  · rw [if_pos (show p < 0 by rw [fz_lt, kc_0]; exact h0), if_neg (show ¬ ((0 : Int) ≤ p.toInt ∧ p.toInt ≤ (t : Int)) by omega), if_pos rfl, un2_eq (hrf 2), un2_eq (no_eq 2)]
    exact Or.inl ⟨rfl, rfl, rfl, rfl, rfl, rfl, rfl, rfl, rfl, rfl, rfl⟩
  · rw [if_neg (show ¬ p < 0 by rw [fz_lt, kc_0]; exact h0)]
    by_cases h1 : p.toInt ≤ t
    · obtain ⟨n, hn, rfl⟩ : ∃ n : Nat, n ≤ t ∧ p = nI n := ⟨p.toInt.toNat, by omega, by rw [fz_eq, nI_toInt (by omega)]; omega⟩
      rw [if_pos (show nI n ≤ nI t by rw [nI_leI (by omega) (by omega)]; exact hn), if_pos (show (0 : Int) ≤ (nI n).toInt ∧ (nI n).toInt ≤ (t : Int) by rw [nI_toInt (by omega)]; omega), if_neg (show ¬ (1 : Int32) = 0 by decide)]
      generalize hcq : PX3_reads _ _ _ _ _ _ _ _ _ _ _ _ _ _ _ _ _ = c
      generalize hm : HX7_court_0 _ _ _ _ _ _ _ _ _ _ _ _ _ _ _ _ _ _ _ = m
      have hz := text_simX hK (hT.le hn) (by omega) iR_tokenName iR_tokenWhole fR_names fD_kind fD_parts fD_partNodes fD_weights fD_weightSums fD_toldWorths fD_steps fD_below fD_above fD_unsureWords fD_unsureWorths iM_place hc undos images scale 0 0 iM_fresherSize fM_letters r told st fM_fresh fM_read fM_fresher
      rw [hcq, kc_0, hm] at hz
      obtain ⟨c0, c1, c2, c3, c4, c5, c6, c7, c8, c9, c10, c11, c12, c13, c14, c15, c16, c17, c18, c19, c20, c21, c22, c23, c24, c25, c26, c27, c28, c29, c30, c31⟩ := c
      rw [un32_eq rfl]
      obtain ⟨hz, hx, hu⟩ := hz
      rcases hz with ⟨z1, -⟩ | ⟨z1, -⟩
      · obtain rfl : c0 = 1 := z1
        rw [if_neg (show ¬ (1 : Int32) = 0 by decide)]
        obtain ⟨N, g1, g2, g3, g4, g5, g6⟩ := hx rfl
        have g1 : c13 = nI N := g1
        obtain ⟨W2, O2, e, s1, s2⟩ := sa_eq w o c26
        rw [un2_eq e]
        obtain ⟨hN0, hN, -⟩ := g2.N
        refine Or.inr ⟨fun q => ?_, rfl, rfl, N, g1, g2, StR_told g2 s1 s2 g3, g4, g5, g6, rfl⟩
        have q : c13 = -1 := q
        rw [g1, fz_eq, nI_toInt (by omega), m1_int] at q
        omega
      · obtain rfl : c0 = 0 := z1
        rw [if_pos rfl, un2_eq (hrf 4)]
        exact Or.inl ⟨rfl, rfl, rfl, rfl, rfl, hu rfl⟩
    · rw [if_neg (show ¬ p ≤ nI t by rw [fz_le, nI_toInt (by omega)]; exact h1), if_neg (show ¬ ((0 : Int) ≤ p.toInt ∧ p.toInt ≤ (t : Int)) by omega), if_pos rfl, un2_eq (hrf 2), un2_eq (no_eq 2)]
      exact Or.inl ⟨rfl, rfl, rfl, rfl, rfl, rfl, rfl, rfl, rfl, rfl, rfl⟩
end CD
def CtO6 (C : Int32 × Int32 × Int32 × Int32 × Int32 × (Nat → Int32) × (Nat → Int32) × Int32 × Int32 × Int32 × Int32 × Int32 × Int32 × Int32 × Int32 × Int64 × Int32 × Int32 × Int32 × (Nat → Int64) × Int32 × Int32 × Int32 × Int32 × Int32 × Int32 × Int32 × Int32 × (Nat → Int32) × (Nat → Int32) × (Nat → Int32) × (Nat → Int32) × (Nat → Int32) × (Nat → Int32) × (Nat → Int32) × (Nat → Int32) × (Nat → Int32) × (Nat → Int32) × (Nat → Int32)) (r6 : Int32) (a6 : Int32) (l6 : Int32) (ic6 : Int32) (w6 : Nat → Int32) (o6 : Nat → Int32) (ac6 : Int32) (f6 : Int32) (nodesD : Int32) (wordsD : Int32) (unsuresD : Int32) (slipsD : Int32) (throneD : Int32) (saidD : Int32) (kindD : Nat → Int32) (partsD : Nat → Int32) (pnD : Nat → Int32) (wtD : Nat → Int32) (twD : Nat → Int32) (uwD : Nat → Int32) (uoD : Nat → Int32) (unitD : Int32) (wsD : Nat → Int32) (stepsD : Nat → Int32) (belowD : Nat → Int32) (aboveD : Nat → Int32) : Prop := C.1 = r6 ∧ C.2.2.2.2.2.2.2.2.2.2.1 = a6 ∧ C.2.2.2.1 = l6 ∧ C.2.1 = ic6 ∧ C.2.2.2.2.2.1 = w6 ∧ C.2.2.2.2.2.2.1 = o6 ∧ C.2.2.2.2.2.2.2.1 = ac6 ∧ C.2.2.1 = f6 ∧ C.2.2.2.2.2.2.2.2.2.2.2.2.2.2.2.2.2.2.2.2.1 = nodesD ∧ C.2.2.2.2.2.2.2.2.2.2.2.2.2.2.2.2.2.2.2.2.2.1 = wordsD ∧ C.2.2.2.2.2.2.2.2.2.2.2.2.2.2.2.2.2.2.2.2.2.2.2.1 = unsuresD ∧ C.2.2.2.2.2.2.2.2.2.2.2.2.2.2.2.2.2.2.2.2.2.2.2.2.1 = slipsD ∧ C.2.2.2.2.2.2.2.2.2.2.2.2.2.2.2.2.2.2.2.2.2.2.2.2.2.1 = throneD ∧ C.2.2.2.2.2.2.2.2.2.2.2.2.2.2.2.2.2.2.2.2.2.2.2.2.2.2.1 = saidD ∧ C.2.2.2.2.2.2.2.2.2.2.2.2.2.2.2.2.2.2.2.2.2.2.2.2.2.2.2.2.1 = kindD ∧ C.2.2.2.2.2.2.2.2.2.2.2.2.2.2.2.2.2.2.2.2.2.2.2.2.2.2.2.2.2.1 = partsD ∧ C.2.2.2.2.2.2.2.2.2.2.2.2.2.2.2.2.2.2.2.2.2.2.2.2.2.2.2.2.2.2.1 = pnD ∧ C.2.2.2.2.2.2.2.2.2.2.2.2.2.2.2.2.2.2.2.2.2.2.2.2.2.2.2.2.2.2.2.1 = wtD ∧ C.2.2.2.2.2.2.2.2.2.2.2.2.2.2.2.2.2.2.2.2.2.2.2.2.2.2.2.2.2.2.2.2.2.1 = twD ∧ C.2.2.2.2.2.2.2.2.2.2.2.2.2.2.2.2.2.2.2.2.2.2.2.2.2.2.2.2.2.2.2.2.2.2.2.2.2.1 = uwD ∧ C.2.2.2.2.2.2.2.2.2.2.2.2.2.2.2.2.2.2.2.2.2.2.2.2.2.2.2.2.2.2.2.2.2.2.2.2.2.2 = uoD ∧ C.2.2.2.2.2.2.2.2.2.2.2.2.2.2.2.2.2.2.2.2.2.2.2.2.2.2.2.1 = unitD ∧ C.2.2.2.2.2.2.2.2.2.2.2.2.2.2.2.2.2.2.2.2.2.2.2.2.2.2.2.2.2.2.2.2.1 = wsD ∧ C.2.2.2.2.2.2.2.2.2.2.2.2.2.2.2.2.2.2.2.2.2.2.2.2.2.2.2.2.2.2.2.2.2.2.1 = stepsD ∧ C.2.2.2.2.2.2.2.2.2.2.2.2.2.2.2.2.2.2.2.2.2.2.2.2.2.2.2.2.2.2.2.2.2.2.2.1 = belowD ∧ C.2.2.2.2.2.2.2.2.2.2.2.2.2.2.2.2.2.2.2.2.2.2.2.2.2.2.2.2.2.2.2.2.2.2.2.2.1 = aboveD
def CtO7 (M : Int32 × Int32 × Int32 × Int32 × Int32 × Int32 × Int32 × Int32 × Int32 × Int32 × Int32 × Int32 × Int32 × Int32 × Int32 × Int32 × Int32 × Int32 × (Nat → Int32) × (Nat → Int32) × (Nat → Int32) × (Nat → Int32) × (Nat → Int32) × (Nat → Int32) × (Nat → Int32)) (r7 : Int32) (a7 : Int32) (l7 : Int32) (f7 : Int32) (hc7 : Int32) (rr7 : Nat → Int32) (told7 : Nat → Int32) (st7 : Nat → Int32) (undos7 : Int32) (images7 : Int32) (scale7 : Int32) : Prop := M.1 = r7 ∧ M.2.2.1 = a7 ∧ M.2.2.2.2.2.2.2.2.2.1 = l7 ∧ M.2.2.2.2.2.2.2.2.2.2.2.1 = f7 ∧ M.2.2.2.2.2.2.2.2.2.2.2.2.2.1 = hc7 ∧ M.2.2.2.2.2.2.2.2.2.2.2.2.2.2.2.2.2.2.2.1 = rr7 ∧ M.2.2.2.2.2.2.2.2.2.2.2.2.2.2.2.2.2.2.2.2.2.1 = told7 ∧ M.2.2.2.2.2.2.2.2.2.2.2.2.2.2.2.2.2.2.2.2.2.2.2.1 = st7 ∧ M.2.2.2.2.2.2.2.2.2.2.2.2.2.2.1 = undos7 ∧ M.2.2.2.2.2.2.2.2.2.2.2.2.2.2.2.1 = images7 ∧ M.2.2.2.2.2.2.2.2.2.2.2.2.2.2.2.2.2.1 = scale7
def CtCX (T : Nat → Int32) (keys : Nat → Int64) (ts lf ic : Int32) (w o : Nat → Int32) (ac p : Int32) (r6 : Int32) (a6 : Int32) (l6 : Int32) (ic6 : Int32) (w6 : Nat → Int32) (o6 : Nat → Int32) (ac6 : Int32) (f6 : Int32) (nodesD : Int32) (wordsD : Int32) (unsuresD : Int32) (slipsD : Int32) (throneD : Int32) (saidD : Int32) (kindD : Nat → Int32) (partsD : Nat → Int32) (pnD : Nat → Int32) (wtD : Nat → Int32) (twD : Nat → Int32) (uwD : Nat → Int32) (uoD : Nat → Int32) (unitD : Int32) (wsD : Nat → Int32) (stepsD : Nat → Int32) (belowD : Nat → Int32) (aboveD : Nat → Int32) : Prop := ∃ (iK_latestPlace : Int32) (iR_faultNumber : Int32) (iR_faultPlace : Int32) (iR_end : Int32) (iR_tokenKind : Int32) (iR_tokenFrom : Int32) (iR_tokenTo : Int32) (iR_tokenName : Int64) (iR_tokenKey : Int32) (iR_tokenWhole : Int32) (iR_courtTold : Int32) (fR_names : Nat → Int64) (iD_nodes : Int32) (iD_words : Int32) (iD_chances : Int32) (iD_unsures : Int32) (iD_slips : Int32) (iD_throneNode : Int32) (iD_saidWorth : Int32) (iD_unit : Int32) (fD_kind : Nat → Int32) (fD_parts : Nat → Int32) (fD_partNodes : Nat → Int32) (fD_weights : Nat → Int32) (fD_weightSums : Nat → Int32) (fD_toldWorths : Nat → Int32) (fD_steps : Nat → Int32) (fD_below : Nat → Int32) (fD_above : Nat → Int32) (fD_unsureWords : Nat → Int32) (fD_unsureWorths : Nat → Int32), CtO6 (PX6_court ic lf iK_latestPlace w o ac iR_faultNumber iR_faultPlace ts T iR_end iR_tokenKind iR_tokenFrom iR_tokenTo iR_tokenName iR_tokenKey iR_tokenWhole iR_courtTold fR_names keys iD_nodes iD_words iD_chances iD_unsures iD_slips iD_throneNode iD_saidWorth iD_unit fD_kind fD_parts fD_partNodes fD_weights fD_weightSums fD_toldWorths fD_steps fD_below fD_above fD_unsureWords fD_unsureWorths p) r6 a6 l6 ic6 w6 o6 ac6 f6 nodesD wordsD unsuresD slipsD throneD saidD kindD partsD pnD wtD twD uwD uoD unitD wsD stepsD belowD aboveD
def CtMX (U : Nat → Int32) (ts lf hc : Int32) (r told st : Nat → Int32) (undos images scale p : Int32) (r7 : Int32) (a7 : Int32) (l7 : Int32) (f7 : Int32) (hc7 : Int32) (rr7 : Nat → Int32) (told7 : Nat → Int32) (st7 : Nat → Int32) (undos7 : Int32) (images7 : Int32) (scale7 : Int32) : Prop := ∃ (iM_size : Int32) (iM_at : Int32) (iM_end : Int32) (iM_token : Int32) (iM_whole : Int32) (iM_nameSize : Int32) (iM_place : Int32) (fM_letters : Nat → Int32) (iM_failed : Int32) (fM_fresh : Nat → Int32) (fM_read : Nat → Int32) (fM_fresher : Nat → Int32) (iM_fresherSize : Int32), CtO7 (PX7_court U ts iM_size iM_at iM_end iM_token iM_whole iM_nameSize lf iM_place fM_letters iM_failed hc r fM_fresh told fM_read st undos images fM_fresher iM_fresherSize scale p) r7 a7 l7 f7 hc7 rr7 told7 st7 undos7 images7 scale7
def CtG (r6 : Int32) (nodes : Int32) (words : Int32) (unsures : Int32) (slips : Int32) (throne : Int32) (said : Int32) (kind : Nat → Int32) (parts : Nat → Int32) (pn : Nat → Int32) (wt : Nat → Int32) (tw : Nat → Int32) (uw : Nat → Int32) (uo : Nat → Int32) (unit : Int32) (ws : Nat → Int32) (steps : Nat → Int32) (below : Nat → Int32) (above : Nat → Int32) (nodesD : Int32) (wordsD : Int32) (unsuresD : Int32) (slipsD : Int32) (throneD : Int32) (saidD : Int32) (kindD : Nat → Int32) (partsD : Nat → Int32) (pnD : Nat → Int32) (wtD : Nat → Int32) (twD : Nat → Int32) (uwD : Nat → Int32) (uoD : Nat → Int32) (unitD : Int32) (wsD : Nat → Int32) (stepsD : Nat → Int32) (belowD : Nat → Int32) (aboveD : Nat → Int32) (nodesN : Int32) (wordsN : Int32) (unsuresN : Int32) (slipsN : Int32) (throneN : Int32) (saidN : Int32) (kindN : Nat → Int32) (partsN : Nat → Int32) (pnN : Nat → Int32) (wtN : Nat → Int32) (twN : Nat → Int32) (uwN : Nat → Int32) (uoN : Nat → Int32) (unitN : Int32) (wsN : Nat → Int32) (stepsN : Nat → Int32) (belowN : Nat → Int32) (aboveN : Nat → Int32) : Prop := (r6.toInt = -1 ∧ nodesN = nodes ∧ wordsN = words ∧ unsuresN = unsures ∧ slipsN = slips ∧ throneN = throne ∧ saidN = said ∧ kindN = kind ∧ partsN = parts ∧ pnN = pn ∧ wtN = wt ∧ twN = tw ∧ uwN = uw ∧ uoN = uo ∧ unitN = unit ∧ wsN = ws ∧ stepsN = steps ∧ belowN = below ∧ aboveN = above) ∨ (0 ≤ r6.toInt ∧ nodesN = nodesD ∧ wordsN = wordsD ∧ unsuresN = unsuresD ∧ slipsN = slipsD ∧ throneN = throneD ∧ saidN = saidD ∧ kindN = kindD ∧ partsN = partsD ∧ pnN = pnD ∧ wtN = wtD ∧ twN = twD ∧ uwN = uwD ∧ uoN = uoD ∧ unitN = unitD ∧ wsN = wsD ∧ stepsN = stepsD ∧ belowN = belowD ∧ aboveN = aboveD)
theorem ct_joinX {T U : Nat → Int32} {t : Nat} {keys : Nat → Int64} {nodes words unsures slips throne said : Int32} {kind parts pn wt tw uw uo w o : Nat → Int32} {ic : Int32} {iw0 io0 iw1 io1 iw2 io2 : Nat → Int32} {ac : Int32} {an ao as : Nat → Int32} {hc : Int32} {r told st und kept : Nat → Int32} {undos images : Int32} {scale : Int32} {unit : Int32} {ws : Nat → Int32} {steps : Nat → Int32} {below : Nat → Int32} {above : Nat → Int32} (h : Rel nodes words unsures slips throne said kind parts pn wt tw uw uo w o ic iw0 io0 iw1 io1 iw2 io2 ac an ao as hc r told st und kept undos images) (hK : KwOk keys) (hT : TR T U t) (ht : t ≤ 900) {lf p : Int32} {r6 : Int32} {a6 : Int32} {l6 : Int32} {ic6 : Int32} {w6 : Nat → Int32} {o6 : Nat → Int32} {ac6 : Int32} {f6 : Int32} {nodesD : Int32} {wordsD : Int32} {unsuresD : Int32} {slipsD : Int32} {throneD : Int32} {saidD : Int32} {kindD : Nat → Int32} {partsD : Nat → Int32} {pnD : Nat → Int32} {wtD : Nat → Int32} {twD : Nat → Int32} {uwD : Nat → Int32} {uoD : Nat → Int32} {unitD : Int32} {wsD : Nat → Int32} {stepsD : Nat → Int32} {belowD : Nat → Int32} {aboveD : Nat → Int32} {r7 : Int32} {a7 : Int32} {l7 : Int32} {f7 : Int32} {hc7 : Int32} {rr7 : Nat → Int32} {told7 : Nat → Int32} {st7 : Nat → Int32} {undos7 : Int32} {images7 : Int32} {scale7 : Int32} {nodesN : Int32} {wordsN : Int32} {unsuresN : Int32} {slipsN : Int32} {throneN : Int32} {saidN : Int32} {kindN : Nat → Int32} {partsN : Nat → Int32} {pnN : Nat → Int32} {wtN : Nat → Int32} {twN : Nat → Int32} {uwN : Nat → Int32} {uoN : Nat → Int32} {unitN : Int32} {wsN : Nat → Int32} {stepsN : Nat → Int32} {belowN : Nat → Int32} {aboveN : Nat → Int32} (h6 : CtCX T keys (nI t) lf ic w o ac p r6 a6 l6 ic6 w6 o6 ac6 f6 nodesD wordsD unsuresD slipsD throneD saidD kindD partsD pnD wtD twD uwD uoD unitD wsD stepsD belowD aboveD) (h7 : CtMX U (nI t) lf hc r told st undos images scale p r7 a7 l7 f7 hc7 rr7 told7 st7 undos7 images7 scale7) (hg : CtG r6 nodes words unsures slips throne said kind parts pn wt tw uw uo unit ws steps below above nodesD wordsD unsuresD slipsD throneD saidD kindD partsD pnD wtD twD uwD uoD unitD wsD stepsD belowD aboveD nodesN wordsN unsuresN slipsN throneN saidN kindN partsN pnN wtN twN uwN uoN unitN wsN stepsN belowN aboveN) : r6 = r7 ∧ l6 = l7 ∧ f6 = f7 ∧ (∃ t2 : Nat, t2 ≤ 900 ∧ a6 = nI t2 ∧ a7 = nI t2 ∧ TR T U t2) ∧ Rel nodesN wordsN unsuresN slipsN throneN saidN kindN partsN pnN wtN twN uwN uoN w6 o6 ic6 iw0 io0 iw1 io1 iw2 io2 ac6 an ao as hc7 rr7 told7 st7 und kept undos7 images7 ∧ ¬ r7 = 0 := by
  obtain ⟨x_iK_latestPlace, x_iR_faultNumber, x_iR_faultPlace, x_iR_end, x_iR_tokenKind, x_iR_tokenFrom, x_iR_tokenTo, x_iR_tokenName, x_iR_tokenKey, x_iR_tokenWhole, x_iR_courtTold, x_fR_names, x_iD_nodes, x_iD_words, x_iD_chances, x_iD_unsures, x_iD_slips, x_iD_throneNode, x_iD_saidWorth, x_iD_unit, x_fD_kind, x_fD_parts, x_fD_partNodes, x_fD_weights, x_fD_weightSums, x_fD_toldWorths, x_fD_steps, x_fD_below, x_fD_above, x_fD_unsureWords, x_fD_unsureWorths, x⟩ := h6
  obtain ⟨y_iM_size, y_iM_at, y_iM_end, y_iM_token, y_iM_whole, y_iM_nameSize, y_iM_place, y_fM_letters, y_iM_failed, y_fM_fresh, y_fM_read, y_fM_fresher, y_iM_fresherSize, y⟩ := h7
  obtain ⟨e1, e2, e3, e4, e5⟩ := court_pure hK hT ht p ic lf x_iK_latestPlace w o ac x_iR_faultNumber x_iR_faultPlace x_iR_end x_iR_tokenKind x_iR_tokenFrom x_iR_tokenTo x_iR_tokenName x_iR_tokenKey x_iR_tokenWhole x_iR_courtTold x_fR_names x_iD_nodes x_iD_words x_iD_chances x_iD_unsures x_iD_slips x_iD_throneNode x_iD_saidWorth x_iD_unit x_fD_kind x_fD_parts x_fD_partNodes x_fD_weights x_fD_weightSums x_fD_toldWorths x_fD_steps x_fD_below x_fD_above x_fD_unsureWords x_fD_unsureWorths y_iM_size y_iM_at y_iM_end y_iM_token y_iM_whole y_iM_nameSize lf y_iM_place y_fM_letters y_iM_failed hc r y_fM_fresh told y_fM_read st undos images y_fM_fresher y_iM_fresherSize scale
  have hd := court_pureX hK hT ht p lf ic ac hc undos images scale w o r told st x_iK_latestPlace x_iR_faultNumber x_iR_faultPlace x_iR_end x_iR_tokenKind x_iR_tokenFrom x_iR_tokenTo x_iR_tokenName x_iR_tokenKey x_iR_tokenWhole x_iR_courtTold x_fR_names x_iD_nodes x_iD_words x_iD_chances x_iD_unsures x_iD_slips x_iD_throneNode x_iD_saidWorth x_iD_unit x_fD_kind x_fD_parts x_fD_partNodes x_fD_weights x_fD_weightSums x_fD_toldWorths x_fD_steps x_fD_below x_fD_above x_fD_unsureWords x_fD_unsureWorths y_iM_size y_iM_at y_iM_end y_iM_token y_iM_whole y_iM_nameSize y_iM_place y_fM_letters y_iM_failed y_fM_fresh y_fM_read y_fM_fresher y_iM_fresherSize
  have e2 := e2 rfl
  generalize PX6_court ic lf x_iK_latestPlace w o ac x_iR_faultNumber x_iR_faultPlace (nI t) T x_iR_end x_iR_tokenKind x_iR_tokenFrom x_iR_tokenTo x_iR_tokenName x_iR_tokenKey x_iR_tokenWhole x_iR_courtTold x_fR_names keys x_iD_nodes x_iD_words x_iD_chances x_iD_unsures x_iD_slips x_iD_throneNode x_iD_saidWorth x_iD_unit x_fD_kind x_fD_parts x_fD_partNodes x_fD_weights x_fD_weightSums x_fD_toldWorths x_fD_steps x_fD_below x_fD_above x_fD_unsureWords x_fD_unsureWorths p = C at x e1 e2 e3 e4 e5 hd
  generalize PX7_court U (nI t) y_iM_size y_iM_at y_iM_end y_iM_token y_iM_whole y_iM_nameSize lf y_iM_place y_fM_letters y_iM_failed hc r y_fM_fresh told y_fM_read st undos images y_fM_fresher y_iM_fresherSize scale p = M at y e1 e2 e3 e4 e5 hd
  obtain ⟨x1, x11, x4, x2, x6, x7, x8, x3, x21, x22, x24, x25, x26, x27, x29, x30, x31, x32, x34, x38, x39, x28, x33, x35, x36, x37⟩ := x
  obtain ⟨y1, y3, y10, y12, y14, y20, y22, y24, y15, y16, y18⟩ := y
  rw [x1, y1] at e1
  rw [x4, y10] at e2
  rw [x3, y12] at e3
  rw [x11, y3] at e5
  refine ⟨e1, e2, e3, ?_, ?_, ?_⟩
  · rcases e5 with ⟨q1, q2⟩ | ⟨q1, q2⟩
    · exact ⟨t, ht, q1, q2, hT⟩
    · exact ⟨0, by omega, q1, q2, fun j hj => absurd hj (by omega)⟩
  · rcases hd with ⟨d1, d2, d3, d4, d5, d6, d7, d8, d9, d10, d11⟩ | ⟨d1, d2, d3, N, d4, d5, d6, d7, d8, d9, d10⟩
    · have hr : r6.toInt = -1 := by rw [← x1, d1]; exact m1_int
      rcases hg with ⟨-, rfl, rfl, rfl, rfl, rfl, rfl, rfl, rfl, rfl, rfl, rfl, rfl, rfl, rfl, rfl, rfl, rfl, rfl⟩ | ⟨q, -⟩
      · rw [← x2, ← x6, ← x7, ← x8, ← y14, ← y20, ← y22, ← y24, ← y15, ← y16, d2, d3, d4, d5, d6, d7, d8, d9, d10, d11]
        exact h
      · exact absurd q (by omega)
    · rcases hg with ⟨q, -⟩ | ⟨-, rfl, rfl, rfl, rfl, rfl, rfl, rfl, rfl, rfl, rfl, rfl, rfl, rfl, rfl, rfl, rfl, rfl, rfl⟩
      · exact absurd ((fz_eq _ _).mpr (by rw [x1, q, m1_int])) d1
      · rw [x22, x24, x25, x26, x27, x29, x30, x31, x32, x34, x38, x39] at d5
        rw [x30, x31, x6, x7] at d6
        rw [← y14, ← y15, ← y16, ← y20, ← y22, ← y24, ← x2, ← x8, ← x21]
        exact Or.inr ⟨N, 0, 0, d4, d7, d3.trans nI_0.symm, d8.trans nI_0.symm, by omega, d2.trans nI_0.symm, d9.trans nI_0.symm, by omega, d5, d6, trivial, fun q => absurd q (by omega), fun q => absurd q (by omega), fun q => absurd q (by omega)⟩
  · rcases hd with ⟨d1, -⟩ | ⟨d1, d2, d3, N, d4, d5, d6, d7, d8, d9, d10⟩
    · rw [← e1, ← x1, d1]; decide
    · rw [← e1, ← x1, d10, d4]; exact nI_ne0 d5.1 (by have := d5.2.1; omega)
end D4
