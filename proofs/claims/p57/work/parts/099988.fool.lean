/-! a fool, a minister, on both sides -/
section D5
theorem why_0 (x : Int32) : PX7_why 0 x = 1 := by rw [PX7_why_eq, if_pos rfl]
theorem why_1 : PX7_why 1 1 = 0 := by rw [PX7_why_eq, if_neg (by decide), if_neg (by decide)]
theorem why_2 : PX7_why 1 0 = 2 := by rw [PX7_why_eq, if_neg (by decide), if_pos rfl]
theorem nine_i : (9 : Int32).toInt = 9 := by decide
theorem env_of {p : Int32} (h : 0 ≤ p.toInt ∧ p.toInt ≤ 9) : p = 0 ∨ p = 1 ∨ p = 2 ∨ p = 3 ∨ p = 4 ∨ p = 5 ∨ p = 6 ∨ p = 7 ∨ p = 8 ∨ p = 9 := by
  have e : p = nI p.toInt.toNat := by rw [fz_eq, nI_toInt (by omega)]; omega
  rcases (show p.toInt.toNat = 0 ∨ p.toInt.toNat = 1 ∨ p.toInt.toNat = 2 ∨ p.toInt.toNat = 3 ∨ p.toInt.toNat = 4 ∨ p.toInt.toNat = 5 ∨ p.toInt.toNat = 6 ∨ p.toInt.toNat = 7 ∨ p.toInt.toNat = 8 ∨ p.toInt.toNat = 9 by omega) with h | h | h | h | h | h | h | h | h | h <;> rw [h] at e <;> rw [e] <;> decide
theorem rests_dec {p : Int32} (h : 0 ≤ p.toInt ∧ p.toInt ≤ 9) : HX6_rests_0 p 0 (((2147483647 - (0 : Int32).toInt).toNat) + 1) 0 0 = ((PX7_seekRests p).1, 0) ∧ HX6_rest_0 p 0 (((2147483647 - (0 : Int32).toInt).toNat) + 1) 0 = ((PX7_seekRests p).2, 0) := by
  rcases env_of h with rfl | rfl | rfl | rfl | rfl | rfl | rfl | rfl | rfl | rfl <;> decide +kernel
section RL5
variable {nodes words unsures slips throne said : Int32} {kind parts pn wt tw uw uo w o : Nat → Int32} {ic : Int32} {iw0 io0 iw1 io1 iw2 io2 : Nat → Int32} {ac : Int32} {an ao as : Nat → Int32} {hc : Int32} {r told st und kept : Nat → Int32} {undos images : Int32}
theorem speaks_join (h : Rel nodes words unsures slips throne said kind parts pn wt tw uw uo w o ic iw0 io0 iw1 io1 iw2 io2 ac an ao as hc r told st und kept undos images) {p0 p1 p2 p3 q6 rf q7 t1 t2 : Int32} (e6 : PX6_speaks nodes p0 p1 p2 p3 = (q6, rf)) (e7 : PX7_speaks hc p0 p1 p2 p3 = (q7, t1, t2)) : q6 = q7 ∧ rf = t2 := by
  have key : ∃ q f t : Int32, PX6_speaks nodes p0 p1 p2 p3 = (q, f) ∧ PX7_speaks hc p0 p1 p2 p3 = (q, t, f) := by
    rcases h with ⟨rfl, hx⟩ | ⟨N, c, d, rfl, rfl, rfl, rfl, hc, rfl, rfl, hd, hC, hS, hU, hI⟩
    · obtain ⟨h2, h3, h4, h5, rfl, rfl, rfl, rfl, rfl⟩ := hx
      refine ⟨-100, 1, 0, ?_, ?_⟩
      · rw [PX6_speaks_eq, ln_0, un2_eq rfl, if_neg (show ¬ (1 : Int32) = 0 by decide)]
      · rw [PX7_speaks_eq, PX7_good_eq, un2_eq rfl]
        dsimp only [lt_]
        rw [why_0, if_neg (show ¬ (1 : Int32) = 0 by decide), if_pos rfl]
    · obtain ⟨hN0, hN, hr⟩ := hC.N
      by_cases hv : 0 ≤ p0.toInt ∧ p0.toInt ≤ 9
      · refine ⟨if p3 = 0 then PX6_shareOf p0 p1 p2 else PX6_shareOf p0 p2 p1, 0, 0, ?_, ?_⟩
        · rw [PX6_speaks_eq, ln_N hN0 hN, kc_0, nine_i, if_pos hv, un2_eq rfl, if_pos rfl]
          dsimp only [lt_]
          by_cases h3 : p3 = 0
          · rw [if_pos h3, if_pos h3]
          · rw [if_neg h3, if_neg h3]
        · rw [PX7_speaks_eq, PX7_good_eq, un2_eq rfl]
          dsimp only [lt_]
          rw [in_eq, kc_0, nine_i, if_pos hv, why_1, if_pos rfl]
          by_cases h3 : p3 = 0
          · rw [if_pos h3, if_pos h3]
            rfl
          · rw [if_neg h3, if_neg h3]
            rfl
      · refine ⟨-100, 2, 0, ?_, ?_⟩
        · rw [PX6_speaks_eq, ln_N hN0 hN, kc_0, nine_i, if_neg hv, un2_eq rfl, if_neg (show ¬ (1 : Int32) = 0 by decide)]
        · rw [PX7_speaks_eq, PX7_good_eq, un2_eq rfl]
          dsimp only [lt_]
          rw [in_eq, kc_0, nine_i, if_neg hv, why_2, if_neg (show ¬ (2 : Int32) = 0 by decide), if_neg (show ¬ (2 : Int32) = 1 by decide)]
  obtain ⟨_, _, _, g6, g7⟩ := key
  have x := g6.symm.trans e6
  have y := g7.symm.trans e7
  simp only [Prod.mk.injEq] at x y
  obtain ⟨rfl, rfl⟩ := x
  obtain ⟨rfl, -, rfl⟩ := y
  exact ⟨rfl, rfl⟩
theorem rests_join (h : Rel nodes words unsures slips throne said kind parts pn wt tw uw uo w o ic iw0 io0 iw1 io1 iw2 io2 ac an ao as hc r told st und kept undos images) {p0 fr q6 rf q7 t1 t2 f7 : Int32} (e6 : PX6_rests nodes p0 = (q6, rf)) (e7 : PX7_rests hc fr p0 = (q7, t1, t2, f7)) : q6 = q7 ∧ rf = t2 := by
  have key : ∃ q f t f2 : Int32, PX6_rests nodes p0 = (q, f) ∧ PX7_rests hc fr p0 = (q, t, f, f2) := by
    rcases h with ⟨rfl, hx⟩ | ⟨N, c, d, rfl, rfl, rfl, rfl, hc, rfl, rfl, hd, hC, hS, hU, hI⟩
    · obtain ⟨h2, h3, h4, h5, rfl, rfl, rfl, rfl, rfl⟩ := hx
      refine ⟨-1, 1, 0, fr, ?_, ?_⟩
      · rw [PX6_rests_eq, ln_0, un2_eq rfl, if_neg (show ¬ (1 : Int32) = 0 by decide)]
      · rw [PX7_rests_eq, PX7_good_eq, un2_eq rfl]
        dsimp only [lt_]
        rw [why_0, if_neg (show ¬ (1 : Int32) = 0 by decide), if_pos rfl, no_eq, un2_eq rfl]
    · obtain ⟨hN0, hN, hr⟩ := hC.N
      by_cases hv : 0 ≤ p0.toInt ∧ p0.toInt ≤ 9
      · refine ⟨(PX7_seekRests p0).1, 0, 0, (PX7_seekRests p0).2, ?_, ?_⟩
        · rw [PX6_rests_eq, ln_N hN0 hN, kc_0, nine_i, if_pos hv, un2_eq rfl, if_pos rfl]
          exact (rests_dec hv).1
        · rw [PX7_rests_eq, PX7_good_eq, un2_eq rfl]
          dsimp only [lt_]
          rw [in_eq, kc_0, nine_i, if_pos hv, why_1, if_pos rfl]
          rfl
      · refine ⟨-1, 2, 0, fr, ?_, ?_⟩
        · rw [PX6_rests_eq, ln_N hN0 hN, kc_0, nine_i, if_neg hv, un2_eq rfl, if_neg (show ¬ (1 : Int32) = 0 by decide)]
        · rw [PX7_rests_eq, PX7_good_eq, un2_eq rfl]
          dsimp only [lt_]
          rw [in_eq, kc_0, nine_i, if_neg hv, why_2, if_neg (show ¬ (2 : Int32) = 0 by decide), if_neg (show ¬ (2 : Int32) = 1 by decide), no_eq, un2_eq rfl]
  obtain ⟨_, _, _, _, g6, g7⟩ := key
  have x := g6.symm.trans e6
  have y := g7.symm.trans e7
  simp only [Prod.mk.injEq] at x y
  obtain ⟨rfl, rfl⟩ := x
  obtain ⟨rfl, -, rfl, -⟩ := y
  exact ⟨rfl, rfl⟩
theorem rest_join (h : Rel nodes words unsures slips throne said kind parts pn wt tw uw uo w o ic iw0 io0 iw1 io1 iw2 io2 ac an ao as hc r told st und kept undos images) {p0 fr q6 rf q7 t1 t2 f7 : Int32} (e6 : PX6_rest nodes p0 = (q6, rf)) (e7 : PX7_rest hc fr p0 = (q7, t1, t2, f7)) : q6 = q7 ∧ rf = t2 := by
  have key : ∃ q f t f2 : Int32, PX6_rest nodes p0 = (q, f) ∧ PX7_rest hc fr p0 = (q, t, f, f2) := by
    rcases h with ⟨rfl, hx⟩ | ⟨N, c, d, rfl, rfl, rfl, rfl, hc, rfl, rfl, hd, hC, hS, hU, hI⟩
    · obtain ⟨h2, h3, h4, h5, rfl, rfl, rfl, rfl, rfl⟩ := hx
      refine ⟨-1, 1, 0, fr, ?_, ?_⟩
      · rw [PX6_rest_eq, ln_0, un2_eq rfl, if_neg (show ¬ (1 : Int32) = 0 by decide)]
      · rw [PX7_rest_eq, PX7_good_eq, un2_eq rfl]
        dsimp only [lt_]
        rw [why_0, if_neg (show ¬ (1 : Int32) = 0 by decide), if_pos rfl, no_eq, un2_eq rfl]
    · obtain ⟨hN0, hN, hr⟩ := hC.N
      by_cases hv : 0 ≤ p0.toInt ∧ p0.toInt ≤ 9
      · refine ⟨(PX7_seekRests p0).2, 0, 0, (PX7_seekRests p0).2, ?_, ?_⟩
        · rw [PX6_rest_eq, ln_N hN0 hN, kc_0, nine_i, if_pos hv, un2_eq rfl, if_pos rfl]
          exact (rests_dec hv).2
        · rw [PX7_rest_eq, PX7_good_eq, un2_eq rfl]
          dsimp only [lt_]
          rw [in_eq, kc_0, nine_i, if_pos hv, why_1, if_pos rfl]
          rfl
      · refine ⟨-1, 2, 0, fr, ?_, ?_⟩
        · rw [PX6_rest_eq, ln_N hN0 hN, kc_0, nine_i, if_neg hv, un2_eq rfl, if_neg (show ¬ (1 : Int32) = 0 by decide)]
        · rw [PX7_rest_eq, PX7_good_eq, un2_eq rfl]
          dsimp only [lt_]
          rw [in_eq, kc_0, nine_i, if_neg hv, why_2, if_neg (show ¬ (2 : Int32) = 0 by decide), if_neg (show ¬ (2 : Int32) = 1 by decide), no_eq, un2_eq rfl]
  obtain ⟨_, _, _, _, g6, g7⟩ := key
  have x := g6.symm.trans e6
  have y := g7.symm.trans e7
  simp only [Prod.mk.injEq] at x y
  obtain ⟨rfl, rfl⟩ := x
  obtain ⟨rfl, -, rfl, -⟩ := y
  exact ⟨rfl, rfl⟩
end RL5
end D5
