/-! the weight of a part of chance, on both sides -/
section E6
theorem pw_loop {parts pn wt r told : Nat → Int32} {k q : Nat} {v : Int32} (hk : k < 18) (hq : q ≤ 4) (hp : parts k = nI q) (hm : r (27 + k) = nI q) (he : ∀ i : Nat, i < q → pn (4 * k + i) = told (4 * k + i) ∧ wt (4 * k + i) = r (45 + 4 * k + i)) : ∀ (m i f g : Nat), q - i = m → i ≤ q → m < f → m < g → (∃ j : Nat, j < q ∧ pn (4 * k + j) = v ∧ HX1_placeOfPart_0 parts pn (nI k) v f (nI i) = nI j ∧ HX7_weightOf_0 r told (nI k) v g (nI i) = wt (4 * k + j)) ∨ (HX1_placeOfPart_0 parts pn (nI k) v f (nI i) = -1 ∧ HX7_weightOf_0 r told (nI k) v g (nI i) = 0) := by
  intro m
  induction m with
  | zero =>
    intro i f g hr hi hf hg
    obtain ⟨f, rfl⟩ : ∃ g, f = g + 1 := ⟨f - 1, by omega⟩
    obtain ⟨g, rfl⟩ : ∃ f, g = f + 1 := ⟨g - 1, by omega⟩
    obtain rfl : i = q := by omega
    refine Or.inr ⟨?_, ?_⟩
    · rw [HX1_placeOfPart_0_eq]
      dsimp only [lt_]
      rw [nI_clamp (by omega), hp, if_pos (nI_le (by omega) (by omega))]
    · rw [HX7_weightOf_0_eq]
      dsimp only [lt_]
      rw [show (27 : Int32) + nI k = nI (27 + k) from nI_add 27 k, nI_clamp (by omega), hm, if_pos (nI_le (by omega) (by omega))]
  | succ m ih =>
    intro i f g hr hi hf hg
    obtain ⟨f, rfl⟩ : ∃ g, f = g + 1 := ⟨f - 1, by omega⟩
    obtain ⟨g, rfl⟩ : ∃ f, g = f + 1 := ⟨g - 1, by omega⟩
    obtain ⟨e1, e2⟩ := he i (by omega)
    have a : HX1_placeOfPart_0 parts pn (nI k) v (f + 1) (nI i) = if pn (4 * k + i) = v then nI i else HX1_placeOfPart_0 parts pn (nI k) v f (nI (i + 1)) := by
      rw [HX1_placeOfPart_0_eq]
      dsimp only [lt_]
      rw [nI_clamp (show k < 2 ^ 31 by omega), hp, if_neg (by rw [nI_leI (by omega) (by omega)]; omega), nI_m4 (by omega), nI_add, nI_clamp (show 4 * k + i < 2 ^ 31 by omega), nI_o1]
    have b : HX7_weightOf_0 r told (nI k) v (g + 1) (nI i) = if pn (4 * k + i) = v then wt (4 * k + i) else HX7_weightOf_0 r told (nI k) v g (nI (i + 1)) := by
      rw [HX7_weightOf_0_eq]
      dsimp only [lt_]
      rw [show (27 : Int32) + nI k = nI (27 + k) from nI_add 27 k, nI_clamp (show 27 + k < 2 ^ 31 by omega), hm, if_neg (by rw [nI_leI (by omega) (by omega)]; omega), nI_m4' (by omega), show (45 : Int32) + nI (4 * k) = nI (45 + 4 * k) from nI_add 45 (4 * k), nI_add, nI_add, nI_clamp (show 4 * k + i < 2 ^ 31 by omega), nI_clamp (show 45 + 4 * k + i < 2 ^ 31 by omega), nI_o1, ← e1, ← e2]
    rw [a, b]
    by_cases c : pn (4 * k + i) = v
    · rw [if_pos c, if_pos c]
      exact Or.inl ⟨i, by omega, c, rfl, rfl⟩
    · rw [if_neg c, if_neg c]
      exact ih (i + 1) f g (by omega) (by omega) (by omega) (by omega)
theorem pw_eq {parts pn wt r told : Nat → Int32} {k q : Nat} {v : Int32} (hk : k < 18) (hq : q ≤ 4) (hp : parts k = nI q) (hm : r (27 + k) = nI q) (he : ∀ i : Nat, i < q → pn (4 * k + i) = told (4 * k + i) ∧ wt (4 * k + i) = r (45 + 4 * k + i)) : (∃ j : Nat, j < q ∧ pn (4 * k + j) = v ∧ PX1_placeOfPart parts pn (nI k) v = nI j ∧ PX7_weightOf r told (nI k) v = wt (4 * k + j)) ∨ (PX1_placeOfPart parts pn (nI k) v = -1 ∧ PX7_weightOf r told (nI k) v = 0) := by
  have k18 : (18 : Int32).toInt = 18 := by decide
  rw [PX1_placeOfPart_eq, if_neg (nI_pos (by omega)), if_pos (show nI k < 18 by rw [fz_lt, k18, nI_toInt (by omega)]; omega), PX7_weightOf_eq]
  have e := pw_loop (v := v) hk hq hp hm he q 0 (((2147483647 - (0 : Int32).toInt).toNat) + 1) (((2147483647 - (0 : Int32).toInt).toNat) + 1) rfl (by omega) (by rw [kc_0]; omega) (by rw [kc_0]; omega)
  rw [nI_0] at e
  exact e
section WJ
variable {nodes words unsures slips throne said : Int32} {kind parts pn wt tw uw uo w o : Nat → Int32} {ic : Int32} {iw0 io0 iw1 io1 iw2 io2 : Nat → Int32} {ac : Int32} {an ao as : Nat → Int32} {hc : Int32} {r told st und kept : Nat → Int32} {undos images : Int32} {unit : Int32} {ws steps below above : Nat → Int32}
theorem weight_join (h : Rel nodes words unsures slips throne said kind parts pn wt tw uw uo w o ic iw0 io0 iw1 io1 iw2 io2 ac an ao as hc r told st und kept undos images) (hx : CIS nodes unit kind parts pn wt ws steps below above) (hO : ∀ k i : Nat, (k : Int) < (r 1).toInt → (r (9 + k)).toInt = 3 → (i : Int) < (r (27 + k)).toInt → 1 ≤ (r (45 + 4 * k + i)).toInt) {p0 p1 q6 rf q7 t1 t2 : Int32} (e6 : PX6_weight nodes kind parts pn wt p0 p1 = (q6, rf)) (e7 : PX7_weight hc r told p0 p1 = (q7, t1, t2)) : q6 = q7 ∧ rf = t2 := by
  have key : ∃ q f t : Int32, PX6_weight nodes kind parts pn wt p0 p1 = (q, f) ∧ PX7_weight hc r told p0 p1 = (q, t, f) := by
    rcases h with ⟨rfl, h0⟩ | ⟨N, c, d, rfl, rfl, rfl, rfl, hc, rfl, rfl, hd, hC, hS, hU, hI⟩
    · obtain ⟨h2, h3, h4, h5, h6, h7, rfl, h8, h9⟩ := h0
      refine ⟨-1, 1, 0, ?_, ?_⟩
      · rw [PX6_weight_eq, PX6_lacksNode_eq]
        dsimp only [lt_]
        rw [hn_0, if_neg (show ¬ (0 : Int32) = 1 by decide), un2_eq rfl, if_neg (show ¬ (1 : Int32) = 0 by decide)]
      · rw [PX7_weight_eq, PX7_good_eq, un2_eq rfl]
        dsimp only [lt_]
        rw [rn_0, if_neg (show ¬ (0 : Int32) = 1 by decide), no_eq, un2_eq rfl]
    · obtain ⟨hN0, hN, hr⟩ := hC.N
      obtain ⟨M, hM, hX⟩ := hx
      obtain rfl : N = M := (nI_eq (by omega) (by have := hX.1; omega)).mp hM
      by_cases hn : 0 ≤ p0.toInt ∧ p0.toInt < (N : Int)
      · obtain ⟨k, hk, rfl⟩ := nd_of hN hn
        obtain ⟨q, hp, hD⟩ := hX.2.1 k hk
        have hq := hD.1
        have hm := many_q hC hk hp
        obtain ⟨hkd, -, -, -, hkw⟩ := hC.k hk
        have c0 : (nI k).toNatClampNeg = k := nI_clamp (by omega)
        have k9 : (9 : Int32) + nI k = nI (9 + k) := nI_add 9 k
        have he : ∀ i : Nat, i < q → pn (4 * k + i) = told (4 * k + i) ∧ wt (4 * k + i) = r (45 + 4 * k + i) := fun i hi => hkw i (by rw [hp, nI_toInt (by omega)]; omega)
        have e6 : PX6_weight (nI N) kind parts pn wt (nI k) p1 = if kind k = 3 then (if (0 : Int32) ≤ PX1_placeOfPart parts pn (nI k) p1 then (wt (nI k * (4 : Int32) + PX1_placeOfPart parts pn (nI k) p1).toNatClampNeg, 0) else (-1, 1)) else (-1, 1) := by
          rw [PX6_weight_eq, PX6_lacksNode_eq]
          dsimp only [lt_]
          rw [hn_eq hN, if_pos hn, if_pos rfl, un2_eq rfl, if_pos rfl, c0, PX6_refuse_eq, un2_eq rfl]
        have e7 : PX7_weight 1 r told (nI k) p1 = if PX7_isNode 1 r p1 = 1 then (if kind k = 3 then (if PX7_weightOf r told (nI k) p1 = 0 then (-1, 0, 1) else (PX7_weightOf r told (nI k) p1, 0, 0)) else (-1, 0, 1)) else (-1, 0, 1) := by
          rw [PX7_weight_eq, PX7_good_eq, un2_eq rfl]
          dsimp only [lt_]
          rw [rn_eq hN0 hN hr (nI k), if_pos hn, if_pos rfl, k9, nI_clamp (show 9 + k < 2 ^ 31 by omega), ← hkd, no_eq, un2_eq rfl]
        rw [e6, e7]
        rcases pw_eq (v := p1) (by omega) hq hp hm he with ⟨j, j1, j2, j3, j4⟩ | ⟨j3, j4⟩
        · obtain ⟨y, y1, y2⟩ := hD.2.2.2.2.1 j j1
          have hn1 : PX7_isNode 1 r p1 = 1 := by
            rw [rn_eq hN0 hN hr, if_pos (by rw [← j2, y2, nI_toInt (by omega)]; omega)]
          rw [if_pos hn1, j3, j4]
          by_cases h3 : kind k = 3
          · have hw : ¬ wt (4 * k + j) = 0 := fun e => by
              have z := hO k j (by rw [hr, nI_toInt (by omega)]; omega) (by rw [← hkd, h3]; exact kc_3) (by rw [hm, nI_toInt (by omega)]; omega)
              rw [← (he j j1).2, e, kc_0] at z
              omega
            rw [if_pos h3, if_pos h3, if_pos (show (0 : Int32) ≤ nI j by rw [fz_le, kc_0, nI_toInt (by omega)]; omega), if_neg hw, nI_m4 (by omega), nI_add, nI_clamp (by omega)]
            exact ⟨_, _, _, rfl, rfl⟩
          · rw [if_neg h3, if_neg h3]
            exact ⟨_, _, _, rfl, rfl⟩
        · rw [j3, j4, if_neg (show ¬ (0 : Int32) ≤ -1 by decide), if_pos rfl]
          refine ⟨-1, 1, 0, ?_, ?_⟩
          · by_cases h3 : kind k = 3
            · rw [if_pos h3]
            · rw [if_neg h3]
          · by_cases h1 : PX7_isNode 1 r p1 = 1
            · rw [if_pos h1]
              by_cases h3 : kind k = 3
              · rw [if_pos h3]
              · rw [if_neg h3]
            · rw [if_neg h1]
      · refine ⟨-1, 1, 0, ?_, ?_⟩
        · rw [PX6_weight_eq, PX6_lacksNode_eq]
          dsimp only [lt_]
          rw [hn_eq hN, if_neg hn, if_neg (show ¬ (0 : Int32) = 1 by decide), un2_eq rfl, if_neg (show ¬ (1 : Int32) = 0 by decide)]
        · rw [PX7_weight_eq, PX7_good_eq, un2_eq rfl]
          dsimp only [lt_]
          rw [rn_eq hN0 hN hr p0, if_neg hn, if_neg (show ¬ (0 : Int32) = 1 by decide), no_eq, un2_eq rfl]
  obtain ⟨q, f, t, g6, g7⟩ := key
  have x := g6.symm.trans e6
  have y := g7.symm.trans e7
  simp only [Prod.mk.injEq] at x y
  obtain ⟨rfl, rfl⟩ := x
  obtain ⟨rfl, -, rfl⟩ := y
  exact ⟨rfl, rfl⟩
end WJ
end E6
