/-! the short lines on both sides -/
section LN
variable {T U : Nat → Int32} {n lo : Nat} {keys : Nat → Int64} {kd fr to : Int32} {x : Int64} {key wh at7 en tk w2 ns : Int32} {L : Nat → Int32}
theorem four_cl : (4 : Int32).toNatClampNeg = 4 := by decide
theorem six_cl : (6 : Int32).toNatClampNeg = 6 := by decide
theorem zero_cl : (0 : Int32).toNatClampNeg = 0 := by decide
theorem one_cl : (1 : Int32).toNatClampNeg = 1 := by decide
/-- what was said of a throne -/
theorem said_sim (hK : KwOk keys) (h : TS keys n lo kd fr to x key wh at7 en tk w2 ns L) (hT : TR T U n) (hn : n ≤ 900) (hk : key = nI 7) {fsh : Nat → Int32} (h5 : ¬ fsh 5 = 0) {sw : Int32} (hs : (fsh 4).toInt = sw.toInt + 1) (fn fp fa pl : Int32) :
    (∃ (kd8 fr8 to8 : Int32) (x8 : Int64) (key8 wh8 at8 en8 tk8 w8 ns8 : Int32) (L8 : Nat → Int32) (s8 : Int32), TS keys n lo kd8 fr8 to8 x8 key8 wh8 at8 en8 tk8 w8 ns8 L8 ∧ 0 ≤ s8.toInt ∧ s8.toInt ≤ 99 ∧ PX3_readSaid fn fp T (nI n) kd fr to x key wh keys sw = (1, fn, fp, kd8, fr8, to8, x8, key8, wh8, s8) ∧ PX7_saidLine U (nI n) at7 en tk w2 ns fa pl L 0 fsh = (at8, en8, tk8, w8, ns8, fa, pl, 0, L8, upd fsh 4 (s8 + 1)))
    ∨ ∃ (q z c1 c2 c3 : Int32) (c4 : Int64) (c5 c6 c7 d1 d2 d3 d4 d5 : Int32) (M F : Nat → Int32), PX3_readSaid fn fp T (nI n) kd fr to x key wh keys sw = (0, q, z, c1, c2, c3, c4, c5, c6, c7) ∧ PX7_saidLine U (nI n) at7 en tk w2 ns fa pl L 0 fsh = (d1, d2, d3, d4, d5, q, z, 1, M, F) := by
  have hfr := h.frq
  obtain ⟨a, b, hC⟩ := h.tok
  rw [PX3_readSaid_eq, PX7_saidLine_eq]
  dsimp only [lt_]
  rw [four_cl]
  by_cases hw : sw.toInt < 0
  · rw [if_pos (show sw < 0 by rw [fz_lt, kc_0]; exact hw), if_pos (show fsh 4 ≤ 0 by rw [fz_le, kc_0]; omega)]
    obtain ⟨kd1, fr1, to1, x1, key1, wh1, at1, en1, tk1, w1, ns1, L1, g1, g2, g3, -⟩ := h.next hT hn x wh L
    rw [un6_eq g1, ((beg_7 hK hC).2 hk).2.2 (by decide) h5 g2, un10_eq rfl]
    rcases num_sim g3 hT hn 0 99 fn fp fa pl with ⟨b1, b2, b3, kd2, fr2, to2, x2, key2, wh2, at9, en9, tk9, w9, ns9, L9, ⟨c1, c2, c3, -⟩, c4⟩ | ⟨q, c1, c2⟩
    · left
      refine ⟨kd2, fr2, to2, x2, key2, wh2, at9, en9, tk9, w9, ns9, L9, wh1, c3, by rw [kc_0] at b1; exact b1, by rw [kc_99] at b2; exact b2, ?_, ?_⟩
      · rw [un3_eq b3, if_neg (show ¬ (1 : Int32) = 0 by decide), un6_eq c1]
      · rw [un10_eq c4, if_pos rfl]
    · right
      rw [un3_eq c1, if_pos rfl, un10_eq c2, if_neg (show ¬ (1 : Int32) = 0 by decide)]
      exact ⟨_, _, _, _, _, _, _, _, _, _, _, _, _, _, _, _, rfl, rfl⟩
  · right
    rw [if_neg (show ¬ sw < 0 by rw [fz_lt, kc_0]; exact hw), if_neg (show ¬ fsh 4 ≤ 0 by rw [fz_le, kc_0]; omega), fl0, un3_eq rfl, wr0, un3_eq rfl, beg_f (by decide), un10_eq rfl, num_f (by decide), un10_eq rfl, if_neg (show ¬ (1 : Int32) = 0 by decide), hfr]
    exact ⟨_, _, _, _, _, _, _, _, _, _, _, _, _, _, _, _, rfl, rfl⟩
/-- the court's own line -/
theorem court_sim (hK : KwOk keys) (h : TS keys n lo kd fr to x key wh at7 en tk w2 ns L) (hT : TR T U n) (hn : n ≤ 900) {fsh : Nat → Int32} {told : Int32} (ht : told = 0 ∨ told = 1) (h5 : fsh 5 = told) (sl fn fp fa pl : Int32) :
    (∃ (kd8 fr8 to8 : Int32) (x8 : Int64) (key8 wh8 at8 en8 tk8 w8 ns8 : Int32) (L8 : Nat → Int32) (s8 : Int32), TS keys n lo kd8 fr8 to8 x8 key8 wh8 at8 en8 tk8 w8 ns8 L8 ∧ 0 ≤ s8.toInt ∧ s8.toInt ≤ 100 ∧ PX3_readCourt fn fp T (nI n) kd fr to x key wh told keys sl = (1, fn, fp, kd8, fr8, to8, x8, key8, wh8, 1, s8) ∧ PX7_courtLine U (nI n) at7 en tk w2 ns fa pl L 0 fsh = (at8, en8, tk8, w8, ns8, fa, pl, 0, L8, upd (upd fsh 0 s8) 5 1))
    ∨ ∃ (q z c1 c2 c3 : Int32) (c4 : Int64) (c5 c6 c7 c8 d1 d2 d3 d4 d5 : Int32) (M F : Nat → Int32), PX3_readCourt fn fp T (nI n) kd fr to x key wh told keys sl = (0, q, z, c1, c2, c3, c4, c5, c6, c7, c8) ∧ PX7_courtLine U (nI n) at7 en tk w2 ns fa pl L 0 fsh = (d1, d2, d3, d4, d5, q, z, 1, M, F) := by
  have hfr := h.frq
  rw [PX3_readCourt_eq, PX7_courtLine_eq]
  dsimp only [lt_]
  rw [five_cl, zero_cl, h5]
  rcases ht with rfl | rfl
  · rw [if_pos rfl, if_pos (show (0 : Int32) ≤ 0 by decide), if_pos rfl]
    obtain ⟨kd1, fr1, to1, x1, key1, wh1, at1, en1, tk1, w1, ns1, L1, g1, g2, g3, -⟩ := h.next hT hn x wh L
    rw [un6_eq g1, un6_eq g2]
    rcases after_8 hK g3 hT hn 0 100 fn fp fa pl with ⟨kd2, fr2, to2, x2, key2, wh2, kd3, fr3, to3, x3, key3, wh3, at8, en8, tk8, w8, ns8, L8, e1, e2, e3, e4, e5, e6, e7, e8⟩ | ⟨e1, e2⟩ | ⟨kd2, fr2, to2, x2, key2, wh2, q, z, at8, en8, tk8, w8, ns8, L8, e1, e2, e3, e4⟩
    · left
      refine ⟨kd3, fr3, to3, x3, key3, wh3, at8, en8, tk8, w8, ns8, L8, wh2, e7, by rw [kc_0] at e4; exact e4, by rw [kc_100] at e5; exact e5, ?_, ?_⟩
      · rw [if_pos (show key1 = 8 from e1), un6_eq e2, un3_eq e3, if_neg (show ¬ (1 : Int32) = 0 by decide), un6_eq e6]
      · rw [un10_eq e8, if_pos rfl]
    · right
      rw [if_neg (show ¬ key1 = 8 from e1), fl0, un3_eq rfl, un10_eq e2, if_neg (show ¬ (1 : Int32) = 0 by decide), g3.frq]
      exact ⟨_, _, _, _, _, _, _, _, _, _, _, _, _, _, _, _, _, rfl, rfl⟩
    · right
      rw [if_pos (show key1 = 8 from e1), un6_eq e2, un3_eq e3, if_pos rfl, un10_eq e4, if_neg (show ¬ (1 : Int32) = 0 by decide)]
      exact ⟨_, _, _, _, _, _, _, _, _, _, _, _, _, _, _, _, _, rfl, rfl⟩
  · right
    rw [if_neg (show ¬ (1 : Int32) = 0 by decide), if_neg (show ¬ (1 : Int32) ≤ 0 by decide), fl0, un3_eq rfl, wr0, un3_eq rfl, if_neg (show ¬ (1 : Int32) = 0 by decide), hfr]
    exact ⟨_, _, _, _, _, _, _, _, _, _, _, _, _, _, _, _, _, rfl, rfl⟩
/-- the throne's line -/
theorem throne_sim (hK : KwOk keys) (h : TS keys n lo kd fr to x key wh at7 en tk w2 ns L) (hT : TR T U n) (hn : n ≤ 900) (hk : key = nI 5) {fsh : Nat → Int32} (h5 : ¬ fsh 5 = 0) {names : Nat → Int64} {N : Nat} (hN : N ≤ 18) (hR : NamesR names fsh N) {th : Int32} (hth : fsh 6 = th) (fn fp fa pl : Int32) :
    (∃ (kd8 fr8 to8 : Int32) (x8 : Int64) (key8 wh8 at8 en8 tk8 w8 ns8 : Int32) (L8 : Nat → Int32) (j : Nat), TS keys n lo kd8 fr8 to8 x8 key8 wh8 at8 en8 tk8 w8 ns8 L8 ∧ j < N ∧ PX3_readThrone fn fp T (nI n) kd fr to x key wh names keys (nI N) th = (1, fn, fp, kd8, fr8, to8, x8, key8, wh8, nI j) ∧ PX7_throneLine U (nI n) at7 en tk w2 ns fa pl L 0 fsh = (at8, en8, tk8, w8, ns8, fa, pl, 0, L8, upd fsh 6 (nI j)))
    ∨ ∃ (q z c1 c2 c3 : Int32) (c4 : Int64) (c5 c6 c7 d1 d2 d3 d4 d5 : Int32) (M F : Nat → Int32), PX3_readThrone fn fp T (nI n) kd fr to x key wh names keys (nI N) th = (0, q, z, c1, c2, c3, c4, c5, c6, c7) ∧ PX7_throneLine U (nI n) at7 en tk w2 ns fa pl L 0 fsh = (d1, d2, d3, d4, d5, q, z, 1, M, F) := by
  have hfr := h.frq
  obtain ⟨a, b, hC⟩ := h.tok
  rw [PX3_readThrone_eq, PX7_throneLine_eq]
  dsimp only [lt_]
  rw [six_cl, hth]
  by_cases hw : th < 0
  · rw [if_pos hw, if_pos hw]
    obtain ⟨kd1, fr1, to1, x1, key1, wh1, at1, en1, tk1, w1, ns1, L1, g1, g2, g3, -⟩ := h.next hT hn x wh L
    rw [un6_eq g1, ((beg_5 hK hC).2 hk).2.2 (by decide) h5 g2, un10_eq rfl]
    rcases told_sim hK g3 hN hR fn fp fa pl with ⟨e1, j, e2, e3, e4⟩ | ⟨q, e1, e2⟩
    · left
      obtain ⟨kd2, fr2, to2, x2, key2, wh2, at9, en9, tk9, w9, ns9, L9, k1, k2, k3, -⟩ := g3.next hT hn x1 wh1 L1
      refine ⟨kd2, fr2, to2, x2, key2, wh2, at9, en9, tk9, w9, ns9, L9, j, k3, e2, ?_, ?_⟩
      · rw [un3_eq e1, if_neg (show ¬ (1 : Int32) = 0 by decide), e3, un6_eq k1]
      · rw [un4_eq e4, pass1 k2, un6_eq rfl, if_pos rfl]
    · right
      rw [un3_eq e1, if_pos rfl, un4_eq e2, pass0 (by decide), un6_eq rfl, if_neg (show ¬ (1 : Int32) = 0 by decide)]
      exact ⟨_, _, _, _, _, _, _, _, _, _, _, _, _, _, _, _, rfl, rfl⟩
  · right
    rw [if_neg hw, if_neg hw, fl0, un3_eq rfl, wr0, un3_eq rfl, beg_f (by decide), un10_eq rfl, nh_f (by decide), un4_eq rfl, pass0 (by decide), un6_eq rfl, if_neg (show ¬ (1 : Int32) = 0 by decide), hfr]
    exact ⟨_, _, _, _, _, _, _, _, _, _, _, _, _, _, _, _, rfl, rfl⟩
end LN
