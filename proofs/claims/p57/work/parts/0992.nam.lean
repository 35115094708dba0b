/-! the told names on both sides -/
theorem cl_add {c : Nat} {z : Int32} {k : Nat} (hz : z.toInt = (c : Int)) (h : c + k < 2 ^ 31) : (z + nI k).toNatClampNeg = c + k := by
  have e : (z + nI k).toInt = ((c + k : Nat) : Int) := by
    rw [fb_addI (by rw [hz, nI_toInt (by omega)]; omega) (by rw [hz, nI_toInt (by omega)]; omega), hz, nI_toInt (by omega)]
    omega
  have q := ti_cl e (by omega)
  omega
theorem cl_143 {k j : Nat} (hk : k < 18) (hj : j < 9) : ((143 : Int32) + (8 : Int32) * nI k + nI j).toNatClampNeg = 143 + 8 * k + j := by
  have e1 : ((8 : Int32) * nI k).toInt = 8 * (k : Int) := by
    rw [fb_mulI (by rw [kc_8, nI_toInt (by omega)]; omega) (by rw [kc_8, nI_toInt (by omega)]; omega), kc_8, nI_toInt (by omega)]
  have e2 : ((143 : Int32) + (8 : Int32) * nI k).toInt = ((143 + 8 * k : Nat) : Int) := by
    have h143 : (143 : Int32).toInt = 143 := by decide
    rw [fb_addI (by rw [h143, e1]; omega) (by rw [h143, e1]; omega), h143, e1]
    omega
  exact cl_add e2 (by omega)
theorem cl_125 {k : Nat} (hk : k < 18) : ((125 : Int32) + nI k).toNatClampNeg = 125 + k := cl_add (c := 125) (by decide) (by omega)
def NamesR (names : Nat → Int64) (fr : Nat → Int32) (N : Nat) : Prop := (∀ k : Nat, k < N → ∃ len : Nat, 1 ≤ len ∧ len ≤ 8 ∧ fr (125 + k) = nI len ∧ Lets (fun i => fr (143 + 8 * k + i)) len ∧ names k = lcode (fun i => fr (143 + 8 * k + i)) len) ∧ ∀ k : Nat, N ≤ k → k < 18 → fr (125 + k) = 0
theorem find1 {fr L : Nat → Int32} {len k : Nat} {K : Int32 → Int32} (hl : len ≤ 8) (hk : k < 18) : ∀ (m j f : Nat) (b : Int32), len - j = m → j ≤ len → m < f → (b = 0 → HX7_find_1 (nI len) L fr (nI k) K f (nI j) b = K (nI (k + 1))) ∧ (b = 1 → ((∀ i : Nat, j ≤ i → i < len → fr (143 + 8 * k + i) = L i) → HX7_find_1 (nI len) L fr (nI k) K f (nI j) b = nI k) ∧ ((¬ ∀ i : Nat, j ≤ i → i < len → fr (143 + 8 * k + i) = L i) → HX7_find_1 (nI len) L fr (nI k) K f (nI j) b = K (nI (k + 1)))) := by
  intro m
  induction m with
  | zero =>
    intro j f b hm hj hf
    obtain ⟨f, rfl⟩ : ∃ g, f = g + 1 := ⟨f - 1, by omega⟩
    rw [HX7_find_1_eq, if_pos (nI_le (by omega) (by omega))]
    simp only [lt_]
    rw [nI_o1]
    refine ⟨fun h => by rw [h, if_pos rfl], fun h => ⟨fun _ => by rw [h, if_neg (show ¬ (1 : Int32) = 0 by decide)], fun q => absurd (fun i h1 h2 => absurd h2 (by omega)) q⟩⟩
  | succ m ih =>
    intro j f b hm hj hf
    obtain ⟨f, rfl⟩ : ∃ g, f = g + 1 := ⟨f - 1, by omega⟩
    rw [HX7_find_1_eq, if_neg (by rw [nI_leI (by omega) (by omega)]; omega)]
    simp only [lt_]
    rw [cl_143 hk (by omega), nI_clamp (by omega), nI_o1, nI_o1]
    refine ⟨fun h => by rw [h, if_pos rfl, if_pos rfl], fun h => ?_⟩
    rw [h, if_neg (show ¬ (1 : Int32) = 0 by decide)]
    by_cases he : fr (143 + 8 * k + j) = L j
    · rw [if_pos he]
      obtain ⟨-, g⟩ := ih (j + 1) f 1 (by omega) (by omega) (by omega)
      obtain ⟨g1, g2⟩ := g rfl
      refine ⟨fun q => g1 (fun i h1 h2 => q i (by omega) h2), fun q => g2 (fun q2 => q (fun i h1 h2 => ?_))⟩
      by_cases hi : i = j
      · rw [hi]; exact he
      · exact q2 i (by omega) h2
    · rw [if_neg he]
      obtain ⟨g, -⟩ := ih (j + 1) f 0 (by omega) (by omega) (by omega)
      exact ⟨fun q => absurd (q j (Nat.le_refl _) (by omega)) he, fun _ => g rfl⟩
theorem find0 {names : Nat → Int64} {fr L : Nat → Int32} {len N : Nat} {x : Int64} (hN : N ≤ 18) (hR : NamesR names fr N) (l1 : 1 ≤ len) (l2 : len ≤ 8) (l4 : Lets L len) (l5 : x = lcode L len) : ∀ (m k f1 f2 : Nat), 18 - k = m → k ≤ 18 → m < f1 → m < f2 → HX7_find_0 (nI len) L fr f2 (nI k) = HX3_toldNode_0 x names (nI N) f1 (nI k) := by
  have k18 : (18 : Int32).toInt = 18 := by decide
  intro m
  induction m with
  | zero =>
    intro k f1 f2 hm hk h1 h2
    obtain ⟨f1, rfl⟩ : ∃ g, f1 = g + 1 := ⟨f1 - 1, by omega⟩
    obtain ⟨f2, rfl⟩ : ∃ g, f2 = g + 1 := ⟨f2 - 1, by omega⟩
    rw [HX7_find_0_eq, HX3_toldNode_0_eq, if_pos (show (18 : Int32) ≤ nI k by rw [fz_le, k18, nI_toInt (by omega)]; omega), if_pos (nI_le (by omega) (by omega))]
  | succ m ih =>
    intro k f1 f2 hm hk h1 h2
    obtain ⟨f1, rfl⟩ : ∃ g, f1 = g + 1 := ⟨f1 - 1, by omega⟩
    obtain ⟨f2, rfl⟩ : ∃ g, f2 = g + 1 := ⟨f2 - 1, by omega⟩
    have hk18 : k < 18 := by omega
    have hfu : len < ((nI len).toInt - (0 : Int32).toInt).toNat + 1 := by rw [nI_toInt (by omega), kc_0]; omega
    rw [HX7_find_0_eq, if_neg (show ¬ (18 : Int32) ≤ nI k by rw [fz_le, k18, nI_toInt (by omega)]; omega)]
    simp only [lt_]
    rw [cl_125 hk18]
    rcases Nat.lt_or_ge k N with hkN | hkN
    · obtain ⟨len2, n1, n2, n3, n4, n5⟩ := hR.1 k hkN
      rw [HX3_toldNode_0_eq, if_neg (show ¬ nI N ≤ nI k by rw [nI_leI (by omega) (by omega)]; omega)]
      simp only [lt_]
      rw [nI_clamp (by omega), nI_o1, n3, if_neg (nI_nle (by omega) (by omega))]
      by_cases he : nI len2 = nI len
      · rw [if_pos he]
        have hlen : len2 = len := (nI_eq (by omega) (by omega)).mp he
        obtain ⟨-, g⟩ := find1 (fr := fr) (L := L) (K := fun z => HX7_find_0 (nI len) L fr f2 z) l2 hk18 len 0 (((nI len).toInt - (0 : Int32).toInt).toNat + 1) 1 rfl (by omega) hfu
        obtain ⟨g1, g2⟩ := g rfl
        rw [nI_0] at g1 g2
        by_cases hq : names k = x
        · rw [if_pos ((lg_cmp0 _ _).mpr hq)]
          refine g1 (fun i _ hi => ?_)
          rw [n5, l5] at hq
          exact (lcode_inj n2 l2 n4 l4 hq).2 i (by omega)
        · rw [if_neg (fun q => hq ((lg_cmp0 _ _).mp q))]
          rw [← ih (k + 1) f1 f2 (by omega) (by omega) (by omega) (by omega)]
          refine g2 (fun q => hq ?_)
          rw [n5, l5, hlen]
          exact lcode_congr (fun i hi => q i (Nat.zero_le _) hi)
      · rw [if_neg he]
        obtain ⟨g, -⟩ := find1 (fr := fr) (L := L) (K := fun z => HX7_find_0 (nI len) L fr f2 z) l2 hk18 len 0 (((nI len).toInt - (0 : Int32).toInt).toNat + 1) 0 rfl (by omega) hfu
        have g := g rfl
        rw [nI_0] at g
        have hq : ¬ names k = x := fun hq => he (by rw [n5, l5] at hq; rw [(lcode_inj n2 l2 n4 l4 hq).1])
        rw [if_neg (fun q => hq ((lg_cmp0 _ _).mp q)), ← ih (k + 1) f1 f2 (by omega) (by omega) (by omega) (by omega)]
        exact g
    · rw [hR.2 k hkN hk18, if_pos (by decide)]
      obtain ⟨g, -⟩ := find1 (fr := fr) (L := L) (K := fun z => HX7_find_0 (nI len) L fr f2 z) l2 hk18 len 0 (((nI len).toInt - (0 : Int32).toInt).toNat + 1) 0 rfl (by omega) hfu
      have g := g rfl
      rw [nI_0] at g
      refine g.trans ?_
      show HX7_find_0 (nI len) L fr f2 (nI (k + 1)) = _
      rw [ih (k + 1) (f1 + 1) f2 (by omega) (by omega) (by omega) (by omega), HX3_toldNode_0_eq, HX3_toldNode_0_eq, if_pos (nI_le (by omega) (by omega)), if_pos (nI_le (by omega) (by omega))]
theorem find_eq {names : Nat → Int64} {fr L : Nat → Int32} {len N : Nat} {x : Int64} (hN : N ≤ 18) (hR : NamesR names fr N) (l1 : 1 ≤ len) (l2 : len ≤ 8) (l4 : Lets L len) (l5 : x = lcode L len) : PX7_find (nI len) L fr = PX3_toldNode x names (nI N) := by
  rw [PX7_find_eq, PX3_toldNode_eq]
  have h := find0 hN hR l1 l2 l4 l5 18 0 ((2147483647 - (0 : Int32).toInt).toNat + 1) ((18 - (0 : Int32).toInt).toNat + 1) rfl (by omega) (by rw [kc_0]; omega) (by rw [kc_0]; omega)
  rw [nI_0] at h
  exact h
/-- what the told node's number is -/
theorem told_val {names : Nat → Int64} {N : Nat} {x : Int64} (hN : N ≤ 18) : ∀ (m k f : Nat), N - k = m → k ≤ N → m < f → (HX3_toldNode_0 x names (nI N) f (nI k) = -1) ∨ ∃ j : Nat, k ≤ j ∧ j < N ∧ HX3_toldNode_0 x names (nI N) f (nI k) = nI j := by
  intro m
  induction m with
  | zero =>
    intro k f hm hk hf
    obtain ⟨f, rfl⟩ : ∃ g, f = g + 1 := ⟨f - 1, by omega⟩
    rw [HX3_toldNode_0_eq, if_pos (nI_le (by omega) (by omega))]
    exact Or.inl rfl
  | succ m ih =>
    intro k f hm hk hf
    obtain ⟨f, rfl⟩ : ∃ g, f = g + 1 := ⟨f - 1, by omega⟩
    rw [HX3_toldNode_0_eq, if_neg (by rw [nI_leI (by omega) (by omega)]; omega)]
    simp only [lt_]
    rw [nI_clamp (by omega), nI_o1]
    by_cases h : names k = x
    · rw [if_pos ((lg_cmp0 _ _).mpr h)]; exact Or.inr ⟨k, Nat.le_refl _, by omega, rfl⟩
    · rw [if_neg (fun q => h ((lg_cmp0 _ _).mp q))]
      rcases ih (k + 1) f (by omega) (by omega) (by omega) with g | ⟨j, g1, g2, g3⟩
      · exact Or.inl g
      · exact Or.inr ⟨j, by omega, g2, g3⟩
theorem told_num {names : Nat → Int64} {N : Nat} {x : Int64} (hN : N ≤ 18) : PX3_toldNode x names (nI N) = -1 ∨ ∃ j : Nat, j < N ∧ PX3_toldNode x names (nI N) = nI j := by
  rw [PX3_toldNode_eq]
  have h := told_val (names := names) (x := x) hN N 0 ((2147483647 - (0 : Int32).toInt).toNat + 1) rfl (by omega) (by rw [kc_0]; omega)
  rw [nI_0] at h
  rcases h with h | ⟨j, -, h1, h2⟩
  · exact Or.inl h
  · exact Or.inr ⟨j, h1, h2⟩
