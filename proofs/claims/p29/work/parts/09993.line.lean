/-! a line on both sides -/
def LineOk (keys : Nat → Int64) (n lo : Nat) (fn fp fa pl : Int32) (c : Int32 × Int32 × Int32 × Int32 × Int32 × Int32 × Int64 × Int32 × Int32 × Int32 × (Nat → Int64) × Int32 × Int32 × Int32 × Int32 × Int32 × Int32 × Int32 × Int32 × (Nat → Int32) × (Nat → Int32) × (Nat → Int32) × (Nat → Int32) × (Nat → Int32) × (Nat → Int32) × (Nat → Int32) × (Nat → Int32) × (Nat → Int32) × (Nat → Int32) × (Nat → Int32)) (m : Int32 × Int32 × Int32 × Int32 × Int32 × Int32 × Int32 × Int32 × Int32 × (Nat → Int32) × (Nat → Int32) × (Nat → Int32) × (Nat → Int32)) : Prop :=
  ∃ (kd fr to : Int32) (x : Int64) (key wh told : Int32) (names : Nat → Int64) (nodes words chances unsures slips throne said unit : Int32) (kind parts pn wt ws tw steps below above uw uo : Nat → Int32) (at7 en tk w2 ns fs : Int32) (L fsh rd fsr : Nat → Int32), c = (1, fn, fp, kd, fr, to, x, key, wh, told, names, nodes, words, chances, unsures, slips, throne, said, unit, kind, parts, pn, wt, ws, tw, steps, below, above, uw, uo) ∧ m = (at7, en, tk, w2, ns, fa, pl, 0, fs, L, fsh, rd, fsr) ∧ TS keys n lo kd fr to x key wh at7 en tk w2 ns L ∧ SR names told nodes words chances unsures slips throne said kind parts pn wt tw uw uo fsh rd ∧ ¬ told = 0
def LineBad (c : Int32 × Int32 × Int32 × Int32 × Int32 × Int32 × Int64 × Int32 × Int32 × Int32 × (Nat → Int64) × Int32 × Int32 × Int32 × Int32 × Int32 × Int32 × Int32 × Int32 × (Nat → Int32) × (Nat → Int32) × (Nat → Int32) × (Nat → Int32) × (Nat → Int32) × (Nat → Int32) × (Nat → Int32) × (Nat → Int32) × (Nat → Int32) × (Nat → Int32) × (Nat → Int32)) (m : Int32 × Int32 × Int32 × Int32 × Int32 × Int32 × Int32 × Int32 × Int32 × (Nat → Int32) × (Nat → Int32) × (Nat → Int32) × (Nat → Int32)) : Prop :=
  c.1 = 0 ∧ m.2.2.2.2.2.2.2.1 = 1 ∧ c.2.1 = m.2.2.2.2.2.1 ∧ c.2.2.1 = m.2.2.2.2.2.2.1
/- made by pgen3 -/
section LS
variable {T U : Nat → Int32} {n lo : Nat} {keys : Nat → Int64} {kd fr to : Int32} {x : Int64} {key wh at7 en tk w2 ns : Int32} {L : Nat → Int32} {names : Nat → Int64} {told slips throne said : Int32} {N W C Q : Nat} {kind parts pn wt tw uw uo fsh rd : Nat → Int32}
theorem lk_tok {a b : Nat} (hC : TokC keys a b kd key wh tk w2 ns x L) (hn : ∀ i : Nat, i < 8 → ¬ key = nI i) : PX3_isLineKey key = 0 := by
  have m1 : ∀ {q : Int32}, q = -1 → PX3_isLineKey q = 0 := fun {q} e => by rw [e, lk_eq, if_neg (by rw [m1_int]; omega)]
  rcases hC with ⟨-, -, e⟩ | ⟨-, -, e⟩ | ⟨-, -, len, -, -, -, -, -, e⟩ | ⟨-, -, e, -⟩ | ⟨-, -, e, -⟩ | ⟨-, -, e, -⟩
  · exact m1 e
  · exact m1 e
  · exact lk_of e hn
  · exact m1 e
  · exact m1 e
  · exact m1 e
theorem line_no (hK : KwOk keys) (h : TS keys n lo kd fr to x key wh at7 en tk w2 ns L) (hT : TR T U n) (hn : n ≤ 900) (hH : HR N W C Q told (nI N) (nI W) (nI C) (nI Q) slips throne said fsh) (hKR : KR N kind parts pn wt tw fsh rd) (hUR : UR Q uw uo fsh) (hNR : NamesR names fsh N) (hno : ∀ i : Nat, i < 8 → ¬ key = nI i) (fn fp fa pl unit fs : Int32) (ws steps below above fsr : Nat → Int32) : LineBad (PX3_readLine fn fp T (nI n) kd fr to x key wh told names keys (nI N) (nI W) (nI C) (nI Q) slips throne said unit kind parts pn wt ws tw steps below above uw uo) (PX7_readLine U (nI n) at7 en tk w2 ns fa pl L 0 fsh rd fsr fs) := by
  have hfr := h.frq
  obtain ⟨ta, tb, hC⟩ := h.tok
  have hN18 := hH.N18
  obtain ⟨a1, a2, a3, a4, a5, a6, a7, a8, a9, b1, b2, b3, b4, b5, b6, b7, b8, b9, c1, c2, c3, c4, c5, c6⟩ := id hH
  rw [PX3_readLine_eq, PX7_readLine_eq]
  dsimp only [lt_]
  rw [lk_tok hC hno, if_pos rfl, fl0, un3_eq rfl, seven_cl, isW_4 hK hC, if_neg (hno 4 (by decide)), if_pos rfl, un10_eq ((beg_0 hK hC).1 (hno 0 (by decide))), if_pos rfl, un10_eq ((beg_1 hK hC).1 (hno 1 (by decide))), if_pos rfl, un10_eq ((beg_2 hK hC).1 (hno 2 (by decide))), if_pos rfl]
  by_cases h8 : (8 : Int32) ≤ fsh 7
  · rw [if_pos h8, un10_eq ((beg_3 hK hC).1 (hno 3 (by decide))), if_pos rfl, isW_5 hK hC, if_neg (hno 5 (by decide)), if_pos rfl, un10_eq ((beg_6 hK hC).1 (hno 6 (by decide))), if_pos rfl, isW_7 hK hC, if_neg (hno 7 (by decide)), if_pos rfl, wr0, un3_eq rfl]
    exact ⟨rfl, rfl, rfl, hfr⟩
  · rw [if_neg h8, un10_eq ((beg_3 hK hC).1 (hno 3 (by decide))), if_pos rfl, isW_5 hK hC, if_neg (hno 5 (by decide)), if_pos rfl, un10_eq ((beg_6 hK hC).1 (hno 6 (by decide))), if_pos rfl, isW_7 hK hC, if_neg (hno 7 (by decide)), if_pos rfl, wr0, un3_eq rfl]
    exact ⟨rfl, rfl, rfl, hfr⟩
theorem line_4 (hK : KwOk keys) (h : TS keys n lo kd fr to x key wh at7 en tk w2 ns L) (hT : TR T U n) (hn : n ≤ 900) (hH : HR N W C Q told (nI N) (nI W) (nI C) (nI Q) slips throne said fsh) (hKR : KR N kind parts pn wt tw fsh rd) (hUR : UR Q uw uo fsh) (hNR : NamesR names fsh N) (hk : key = nI 4) (fn fp fa pl unit fs : Int32) (ws steps below above fsr : Nat → Int32) : LineOk keys n lo fn fp fa pl (PX3_readLine fn fp T (nI n) kd fr to x key wh told names keys (nI N) (nI W) (nI C) (nI Q) slips throne said unit kind parts pn wt ws tw steps below above uw uo) (PX7_readLine U (nI n) at7 en tk w2 ns fa pl L 0 fsh rd fsr fs) ∨ LineBad (PX3_readLine fn fp T (nI n) kd fr to x key wh told names keys (nI N) (nI W) (nI C) (nI Q) slips throne said unit kind parts pn wt ws tw steps below above uw uo) (PX7_readLine U (nI n) at7 en tk w2 ns fa pl L 0 fsh rd fsr fs) := by
  have hfr := h.frq
  obtain ⟨ta, tb, hC⟩ := h.tok
  have hN18 := hH.N18
  obtain ⟨a1, a2, a3, a4, a5, a6, a7, a8, a9, b1, b2, b3, b4, b5, b6, b7, b8, b9, c1, c2, c3, c4, c5, c6⟩ := id hH
  have hsw : ∀ {β : Type} {l0 l1 l2 l3 l4 l5 l6 d : β}, sw_ key 0 [l0, l1, l2, l3, l4, l5, l6] d = l4 := fun {β l0 l1 l2 l3 l4 l5 l6 d} => sw_in (j := 4) (by rw [hk, nI_toInt (by decide)]; rfl) rfl
  rw [PX3_readLine_eq, PX7_readLine_eq]
  dsimp only [lt_]
  rw [show PX3_isLineKey key = 1 from by rw [hk]; exact lk_nI (by decide), if_neg (show ¬ (1 : Int32) = 0 by decide), isW_4 hK hC, if_pos hk, if_neg (show ¬ (1 : Int32) = 0 by decide), hsw, if_pos (show key = 4 from hk), ite_self]
  rcases court_sim hK h hT hn b6 b7 slips fn fp fa pl with ⟨kd8, fr8, to8, x8, key8, wh8, at8, en8, tk8, w8, ns8, L8, s8, e1, e2, e3, e4, e5⟩ | ⟨q, z, v1, v2, v3, v4, v5, v6, v7, v8, d1, d2, d3, d4, d5, M, F, e1, e2⟩
  · left
    rw [un11_eq e4, un10_eq e5]
    exact ⟨_, _, _, _, _, _, _, _, _, _, _, _, _, _, _, _, _, _, _, _, _, _, _, _, _, _, _, _, _, _, _, _, _, _, _, _, _, rfl, rfl, e1, SR.court ⟨N, W, C, Q, hH, hKR, hUR, hNR⟩ s8, by decide⟩
  · right
    rw [un11_eq e1, un10_eq e2]
    exact ⟨rfl, rfl, rfl, rfl⟩
theorem line_0 (hK : KwOk keys) (h : TS keys n lo kd fr to x key wh at7 en tk w2 ns L) (hT : TR T U n) (hn : n ≤ 900) (hH : HR N W C Q told (nI N) (nI W) (nI C) (nI Q) slips throne said fsh) (hKR : KR N kind parts pn wt tw fsh rd) (hUR : UR Q uw uo fsh) (hNR : NamesR names fsh N) (hk : key = nI 0) (fn fp fa pl unit fs : Int32) (ws steps below above fsr : Nat → Int32) : LineOk keys n lo fn fp fa pl (PX3_readLine fn fp T (nI n) kd fr to x key wh told names keys (nI N) (nI W) (nI C) (nI Q) slips throne said unit kind parts pn wt ws tw steps below above uw uo) (PX7_readLine U (nI n) at7 en tk w2 ns fa pl L 0 fsh rd fsr fs) ∨ LineBad (PX3_readLine fn fp T (nI n) kd fr to x key wh told names keys (nI N) (nI W) (nI C) (nI Q) slips throne said unit kind parts pn wt ws tw steps below above uw uo) (PX7_readLine U (nI n) at7 en tk w2 ns fa pl L 0 fsh rd fsr fs) := by
  have hfr := h.frq
  obtain ⟨ta, tb, hC⟩ := h.tok
  have hN18 := hH.N18
  obtain ⟨a1, a2, a3, a4, a5, a6, a7, a8, a9, b1, b2, b3, b4, b5, b6, b7, b8, b9, c1, c2, c3, c4, c5, c6⟩ := id hH
  have hno : ∀ j : Nat, j < 8 → ¬ j = 0 → ¬ key = nI j := fun j hj hji e => hji ((nI_eq (by omega) (by omega)).mp (e.symm.trans hk))
  have hsw : ∀ {β : Type} {l0 l1 l2 l3 l4 l5 l6 d : β}, sw_ key 0 [l0, l1, l2, l3, l4, l5, l6] d = l0 := fun {β l0 l1 l2 l3 l4 l5 l6 d} => sw_in (j := 0) (by rw [hk, nI_toInt (by decide)]; rfl) rfl
  rw [PX3_readLine_eq, PX7_readLine_eq]
  dsimp only [lt_]
  rw [show PX3_isLineKey key = 1 from by rw [hk]; exact lk_nI (by decide), if_neg (show ¬ (1 : Int32) = 0 by decide), hsw, if_neg (show ¬ key = 4 from (hno 4 (by decide) (by decide))), two_cl, three_cl, seven_cl, eight_cl, b2, b3, b4, b5]
  by_cases ht : told = 0
  · right
    obtain ⟨z1, z2, z3, z4⟩ := c6 ht
    rw [if_pos ht, fl0, un3_eq rfl]
    rw [isW_4 hK hC, if_neg (hno 4 (by decide) (by decide)), if_pos rfl, room_b 10 (b := 10) (by decide) (by omega), if_pos (show W < 10 by omega)]
    rw [un10_eq (((beg_0 hK hC).2 hk).2.1 (by decide) (b7.trans ht)), if_neg (show ¬ (1 : Int32) = 0 by decide), PX7_wordLine_eq, if_neg (show ¬ (1 : Int32) = 0 by decide), un13_eq rfl]
    exact ⟨rfl, rfl, rfl, hfr⟩
  · rw [if_neg ht]
    have h5 : ¬ fsh 5 = 0 := by rw [b7]; exact ht
    rw [isW_4 hK hC, if_neg (hno 4 (by decide) (by decide)), if_pos rfl, room_b 10 (b := 10) (by decide) (by omega)]
    by_cases hW : W < 10
    · rw [if_pos hW]
      obtain ⟨kd1, fr1, to1, x1, key1, wh1, at1, en1, tk1, w1, ns1, L1, g1, g2, g3, -⟩ := h.next hT hn x wh L
      rw [un10_eq (((beg_0 hK hC).2 hk).2.2 (by decide) h5 g2), if_neg (show ¬ (1 : Int32) = 0 by decide)]
      rcases word_sim hK h hT hn hH hKR hUR hNR hW ht ws steps below above unit fn fp fa pl fs (fsr := fsr) g1 g3 with ⟨kd8, fr8, to8, x8, key8, wh8, at8, en8, tk8, w8, ns8, f8, L8, sr8, nm8, k8, p8, s8, t8, e8, b8, a8, F8, R8, e1, e2, e3, e4⟩ | ⟨q, z, v1, v2, v3, v4, v5, v6, m1, v7, v8, v9, o1, m2, m3, m4, m5, m6, m7, m8, d1, d2, d3, d4, d5, d6, M, F, R, S, e1, e2⟩
      · left
        rw [un21_eq e3, un13_eq e4]
        exact ⟨_, _, _, _, _, _, _, _, _, _, _, _, _, _, _, _, _, _, _, _, _, _, _, _, _, _, _, _, _, _, _, _, _, _, _, _, _, rfl, rfl, e1, e2, ht⟩
      · right
        rw [un21_eq e1, un13_eq e2]
        exact ⟨rfl, rfl, rfl, rfl⟩
    · right
      rw [if_neg hW, un10_eq (((beg_0 hK hC).2 hk).1 rfl), if_neg (show ¬ (1 : Int32) = 0 by decide), PX7_wordLine_eq, if_neg (show ¬ (1 : Int32) = 0 by decide), un13_eq rfl, PX3_readWord_eq, room_w (by omega) a6 hN18, if_neg hW]
      dsimp only [lt_]
      rw [if_neg (show ¬ (0 : Int32) = 1 by decide), fl0, un3_eq rfl, un21_eq rfl]
      exact ⟨rfl, rfl, rfl, hfr⟩
theorem line_1 (hK : KwOk keys) (h : TS keys n lo kd fr to x key wh at7 en tk w2 ns L) (hT : TR T U n) (hn : n ≤ 900) (hH : HR N W C Q told (nI N) (nI W) (nI C) (nI Q) slips throne said fsh) (hKR : KR N kind parts pn wt tw fsh rd) (hUR : UR Q uw uo fsh) (hNR : NamesR names fsh N) (hk : key = nI 1) (fn fp fa pl unit fs : Int32) (ws steps below above fsr : Nat → Int32) : LineOk keys n lo fn fp fa pl (PX3_readLine fn fp T (nI n) kd fr to x key wh told names keys (nI N) (nI W) (nI C) (nI Q) slips throne said unit kind parts pn wt ws tw steps below above uw uo) (PX7_readLine U (nI n) at7 en tk w2 ns fa pl L 0 fsh rd fsr fs) ∨ LineBad (PX3_readLine fn fp T (nI n) kd fr to x key wh told names keys (nI N) (nI W) (nI C) (nI Q) slips throne said unit kind parts pn wt ws tw steps below above uw uo) (PX7_readLine U (nI n) at7 en tk w2 ns fa pl L 0 fsh rd fsr fs) := by
  have hfr := h.frq
  obtain ⟨ta, tb, hC⟩ := h.tok
  have hN18 := hH.N18
  obtain ⟨a1, a2, a3, a4, a5, a6, a7, a8, a9, b1, b2, b3, b4, b5, b6, b7, b8, b9, c1, c2, c3, c4, c5, c6⟩ := id hH
  have hno : ∀ j : Nat, j < 8 → ¬ j = 1 → ¬ key = nI j := fun j hj hji e => hji ((nI_eq (by omega) (by omega)).mp (e.symm.trans hk))
  have hsw : ∀ {β : Type} {l0 l1 l2 l3 l4 l5 l6 d : β}, sw_ key 0 [l0, l1, l2, l3, l4, l5, l6] d = l1 := fun {β l0 l1 l2 l3 l4 l5 l6 d} => sw_in (j := 1) (by rw [hk, nI_toInt (by decide)]; rfl) rfl
  rw [PX3_readLine_eq, PX7_readLine_eq]
  dsimp only [lt_]
  rw [show PX3_isLineKey key = 1 from by rw [hk]; exact lk_nI (by decide), if_neg (show ¬ (1 : Int32) = 0 by decide), hsw, if_neg (show ¬ key = 4 from (hno 4 (by decide) (by decide))), two_cl, three_cl, seven_cl, eight_cl, b2, b3, b4, b5]
  by_cases ht : told = 0
  · right
    obtain ⟨z1, z2, z3, z4⟩ := c6 ht
    rw [if_pos ht, fl0, un3_eq rfl]
    rw [isW_4 hK hC, if_neg (hno 4 (by decide) (by decide)), if_pos rfl, un10_eq ((beg_0 hK hC).1 (hno 0 (by decide) (by decide))), if_pos rfl, room_b 8 (b := 8) (by decide) (by omega), if_pos (show N - W < 8 by omega)]
    rw [un10_eq (((beg_1 hK hC).2 hk).2.1 (by decide) (b7.trans ht)), if_neg (show ¬ (1 : Int32) = 0 by decide), PX7_innerLine_eq, if_neg (show ¬ (1 : Int32) = 0 by decide), un13_eq rfl]
    exact ⟨rfl, rfl, rfl, hfr⟩
  · rw [if_neg ht]
    have h5 : ¬ fsh 5 = 0 := by rw [b7]; exact ht
    rw [isW_4 hK hC, if_neg (hno 4 (by decide) (by decide)), if_pos rfl, un10_eq ((beg_0 hK hC).1 (hno 0 (by decide) (by decide))), if_pos rfl, room_b 8 (b := 8) (by decide) (by omega)]
    by_cases hI : N - W < 8
    · rw [if_pos hI]
      obtain ⟨kd1, fr1, to1, x1, key1, wh1, at1, en1, tk1, w1, ns1, L1, g1, g2, g3, -⟩ := h.next hT hn x wh L
      rw [un10_eq (((beg_1 hK hC).2 hk).2.2 (by decide) h5 g2), if_neg (show ¬ (1 : Int32) = 0 by decide)]
      rcases ruler_sim (p0 := 1) (C2 := C) hK h hT hn hH hKR hUR hNR hI (by decide) (Or.inr ⟨by decide, rfl⟩) a8 ht ws steps below above unit fn fp fa pl fs (fsr := fsr) g1 g3 with ⟨kd8, fr8, to8, x8, key8, wh8, at8, en8, tk8, w8, ns8, u8, f8, L8, sr8, nm8, k8, p8, n8, v8, s8, t8, e8, b8, a8, F8, R8, e1, e2, e3, e4⟩ | ⟨q, z, v1, v2, v3, v4, v5, v6, m1, v7, v8, v9, o1, m2, m3, m4, m5, m6, m7, m8, m9, y1, d1, d2, d3, d4, d5, d6, M, F, R, S, e1, e2⟩
      · left
        rw [un23_eq e3, un13_eq e4]
        exact ⟨_, _, _, _, _, _, _, _, _, _, _, _, _, _, _, _, _, _, _, _, _, _, _, _, _, _, _, _, _, _, _, _, _, _, _, _, _, rfl, rfl, e1, e2, ht⟩
      · right
        rw [un23_eq e1, un13_eq e2]
        exact ⟨rfl, rfl, rfl, rfl⟩
    · right
      rw [if_neg hI, un10_eq (((beg_1 hK hC).2 hk).1 rfl), if_neg (show ¬ (1 : Int32) = 0 by decide), PX7_innerLine_eq, if_neg (show ¬ (1 : Int32) = 0 by decide), un13_eq rfl, PX3_readRuler_eq, (room_r a5 a6 a7 a8 (by decide)).2 (fun q => hI q.1)]
      dsimp only [lt_]
      rw [if_neg (show ¬ (0 : Int32) = 1 by decide), fl0, un3_eq rfl, un23_eq rfl]
      exact ⟨rfl, rfl, rfl, hfr⟩
theorem line_2 (hK : KwOk keys) (h : TS keys n lo kd fr to x key wh at7 en tk w2 ns L) (hT : TR T U n) (hn : n ≤ 900) (hH : HR N W C Q told (nI N) (nI W) (nI C) (nI Q) slips throne said fsh) (hKR : KR N kind parts pn wt tw fsh rd) (hUR : UR Q uw uo fsh) (hNR : NamesR names fsh N) (hk : key = nI 2) (fn fp fa pl unit fs : Int32) (ws steps below above fsr : Nat → Int32) : LineOk keys n lo fn fp fa pl (PX3_readLine fn fp T (nI n) kd fr to x key wh told names keys (nI N) (nI W) (nI C) (nI Q) slips throne said unit kind parts pn wt ws tw steps below above uw uo) (PX7_readLine U (nI n) at7 en tk w2 ns fa pl L 0 fsh rd fsr fs) ∨ LineBad (PX3_readLine fn fp T (nI n) kd fr to x key wh told names keys (nI N) (nI W) (nI C) (nI Q) slips throne said unit kind parts pn wt ws tw steps below above uw uo) (PX7_readLine U (nI n) at7 en tk w2 ns fa pl L 0 fsh rd fsr fs) := by
  have hfr := h.frq
  obtain ⟨ta, tb, hC⟩ := h.tok
  have hN18 := hH.N18
  obtain ⟨a1, a2, a3, a4, a5, a6, a7, a8, a9, b1, b2, b3, b4, b5, b6, b7, b8, b9, c1, c2, c3, c4, c5, c6⟩ := id hH
  have hno : ∀ j : Nat, j < 8 → ¬ j = 2 → ¬ key = nI j := fun j hj hji e => hji ((nI_eq (by omega) (by omega)).mp (e.symm.trans hk))
  have hsw : ∀ {β : Type} {l0 l1 l2 l3 l4 l5 l6 d : β}, sw_ key 0 [l0, l1, l2, l3, l4, l5, l6] d = l2 := fun {β l0 l1 l2 l3 l4 l5 l6 d} => sw_in (j := 2) (by rw [hk, nI_toInt (by decide)]; rfl) rfl
  rw [PX3_readLine_eq, PX7_readLine_eq]
  dsimp only [lt_]
  rw [show PX3_isLineKey key = 1 from by rw [hk]; exact lk_nI (by decide), if_neg (show ¬ (1 : Int32) = 0 by decide), hsw, if_neg (show ¬ key = 4 from (hno 4 (by decide) (by decide))), two_cl, three_cl, seven_cl, eight_cl, b2, b3, b4, b5]
  by_cases ht : told = 0
  · right
    obtain ⟨z1, z2, z3, z4⟩ := c6 ht
    rw [if_pos ht, fl0, un3_eq rfl]
    rw [isW_4 hK hC, if_neg (hno 4 (by decide) (by decide)), if_pos rfl, un10_eq ((beg_0 hK hC).1 (hno 0 (by decide) (by decide))), if_pos rfl, un10_eq ((beg_1 hK hC).1 (hno 1 (by decide) (by decide))), if_pos rfl, room_b 8 (b := 8) (by decide) (by omega), if_pos (show N - W < 8 by omega)]
    rw [un10_eq (((beg_2 hK hC).2 hk).2.1 (by decide) (b7.trans ht)), if_neg (show ¬ (1 : Int32) = 0 by decide), PX7_innerLine_eq, if_neg (show ¬ (1 : Int32) = 0 by decide), un13_eq rfl]
    exact ⟨rfl, rfl, rfl, hfr⟩
  · rw [if_neg ht]
    have h5 : ¬ fsh 5 = 0 := by rw [b7]; exact ht
    rw [isW_4 hK hC, if_neg (hno 4 (by decide) (by decide)), if_pos rfl, un10_eq ((beg_0 hK hC).1 (hno 0 (by decide) (by decide))), if_pos rfl, un10_eq ((beg_1 hK hC).1 (hno 1 (by decide) (by decide))), if_pos rfl, room_b 8 (b := 8) (by decide) (by omega)]
    by_cases hI : N - W < 8
    · rw [if_pos hI]
      obtain ⟨kd1, fr1, to1, x1, key1, wh1, at1, en1, tk1, w1, ns1, L1, g1, g2, g3, -⟩ := h.next hT hn x wh L
      rw [un10_eq (((beg_2 hK hC).2 hk).2.2 (by decide) h5 g2), if_neg (show ¬ (1 : Int32) = 0 by decide)]
      rcases ruler_sim (p0 := 2) (C2 := C) hK h hT hn hH hKR hUR hNR hI (by decide) (Or.inr ⟨by decide, rfl⟩) a8 ht ws steps below above unit fn fp fa pl fs (fsr := fsr) g1 g3 with ⟨kd8, fr8, to8, x8, key8, wh8, at8, en8, tk8, w8, ns8, u8, f8, L8, sr8, nm8, k8, p8, n8, v8, s8, t8, e8, b8, a8, F8, R8, e1, e2, e3, e4⟩ | ⟨q, z, v1, v2, v3, v4, v5, v6, m1, v7, v8, v9, o1, m2, m3, m4, m5, m6, m7, m8, m9, y1, d1, d2, d3, d4, d5, d6, M, F, R, S, e1, e2⟩
      · left
        rw [un23_eq e3, un13_eq e4]
        exact ⟨_, _, _, _, _, _, _, _, _, _, _, _, _, _, _, _, _, _, _, _, _, _, _, _, _, _, _, _, _, _, _, _, _, _, _, _, _, rfl, rfl, e1, e2, ht⟩
      · right
        rw [un23_eq e1, un13_eq e2]
        exact ⟨rfl, rfl, rfl, rfl⟩
    · right
      rw [if_neg hI, un10_eq (((beg_2 hK hC).2 hk).1 rfl), if_neg (show ¬ (1 : Int32) = 0 by decide), PX7_innerLine_eq, if_neg (show ¬ (1 : Int32) = 0 by decide), un13_eq rfl, PX3_readRuler_eq, (room_r a5 a6 a7 a8 (by decide)).2 (fun q => hI q.1)]
      dsimp only [lt_]
      rw [if_neg (show ¬ (0 : Int32) = 1 by decide), fl0, un3_eq rfl, un23_eq rfl]
      exact ⟨rfl, rfl, rfl, hfr⟩
theorem line_3 (hK : KwOk keys) (h : TS keys n lo kd fr to x key wh at7 en tk w2 ns L) (hT : TR T U n) (hn : n ≤ 900) (hH : HR N W C Q told (nI N) (nI W) (nI C) (nI Q) slips throne said fsh) (hKR : KR N kind parts pn wt tw fsh rd) (hUR : UR Q uw uo fsh) (hNR : NamesR names fsh N) (hk : key = nI 3) (fn fp fa pl unit fs : Int32) (ws steps below above fsr : Nat → Int32) : LineOk keys n lo fn fp fa pl (PX3_readLine fn fp T (nI n) kd fr to x key wh told names keys (nI N) (nI W) (nI C) (nI Q) slips throne said unit kind parts pn wt ws tw steps below above uw uo) (PX7_readLine U (nI n) at7 en tk w2 ns fa pl L 0 fsh rd fsr fs) ∨ LineBad (PX3_readLine fn fp T (nI n) kd fr to x key wh told names keys (nI N) (nI W) (nI C) (nI Q) slips throne said unit kind parts pn wt ws tw steps below above uw uo) (PX7_readLine U (nI n) at7 en tk w2 ns fa pl L 0 fsh rd fsr fs) := by
  have hfr := h.frq
  obtain ⟨ta, tb, hC⟩ := h.tok
  have hN18 := hH.N18
  obtain ⟨a1, a2, a3, a4, a5, a6, a7, a8, a9, b1, b2, b3, b4, b5, b6, b7, b8, b9, c1, c2, c3, c4, c5, c6⟩ := id hH
  have hno : ∀ j : Nat, j < 8 → ¬ j = 3 → ¬ key = nI j := fun j hj hji e => hji ((nI_eq (by omega) (by omega)).mp (e.symm.trans hk))
  have hsw : ∀ {β : Type} {l0 l1 l2 l3 l4 l5 l6 d : β}, sw_ key 0 [l0, l1, l2, l3, l4, l5, l6] d = l3 := fun {β l0 l1 l2 l3 l4 l5 l6 d} => sw_in (j := 3) (by rw [hk, nI_toInt (by decide)]; rfl) rfl
  rw [PX3_readLine_eq, PX7_readLine_eq]
  dsimp only [lt_]
  rw [show PX3_isLineKey key = 1 from by rw [hk]; exact lk_nI (by decide), if_neg (show ¬ (1 : Int32) = 0 by decide), hsw, if_neg (show ¬ key = 4 from (hno 4 (by decide) (by decide))), two_cl, three_cl, seven_cl, eight_cl, b2, b3, b4, b5]
  by_cases ht : told = 0
  · right
    obtain ⟨z1, z2, z3, z4⟩ := c6 ht
    rw [if_pos ht, fl0, un3_eq rfl]
    rw [isW_4 hK hC, if_neg (hno 4 (by decide) (by decide)), if_pos rfl, un10_eq ((beg_0 hK hC).1 (hno 0 (by decide) (by decide))), if_pos rfl, un10_eq ((beg_1 hK hC).1 (hno 1 (by decide) (by decide))), if_pos rfl, un10_eq ((beg_2 hK hC).1 (hno 2 (by decide) (by decide))), if_pos rfl, if_neg (show ¬ (8 : Int32) ≤ nI (N - W) by rw [fz_le, kc_8, nI_toInt (by omega)]; omega)]
    by_cases h2 : (if (2 : Int32) ≤ nI C then (0 : Int32) else 1) = 0
    · exfalso
      rw [room_b 2 (b := 2) (by decide) (by omega)] at h2
      by_cases hc : C < 2
      · rw [if_pos hc] at h2; exact absurd h2 (by decide)
      · exact hc (by omega)
    · rw [un10_eq (((beg_3 hK hC).2 hk).2.1 h2 (b7.trans ht)), if_neg (show ¬ (1 : Int32) = 0 by decide), PX7_innerLine_eq, if_neg (show ¬ (1 : Int32) = 0 by decide), un13_eq rfl]
      exact ⟨rfl, rfl, rfl, hfr⟩
  · rw [if_neg ht]
    have h5 : ¬ fsh 5 = 0 := by rw [b7]; exact ht
    by_cases hI : N - W < 8
    · rw [isW_4 hK hC, if_neg (hno 4 (by decide) (by decide)), if_pos rfl, un10_eq ((beg_0 hK hC).1 (hno 0 (by decide) (by decide))), if_pos rfl, un10_eq ((beg_1 hK hC).1 (hno 1 (by decide) (by decide))), if_pos rfl, un10_eq ((beg_2 hK hC).1 (hno 2 (by decide) (by decide))), if_pos rfl, if_neg (show ¬ (8 : Int32) ≤ nI (N - W) by rw [fz_le, kc_8, nI_toInt (by omega)]; omega), room_b 2 (b := 2) (by decide) (by omega)]
      by_cases hc : C < 2
      · rw [if_pos hc]
        obtain ⟨kd1, fr1, to1, x1, key1, wh1, at1, en1, tk1, w1, ns1, L1, g1, g2, g3, -⟩ := h.next hT hn x wh L
        rw [un10_eq (((beg_3 hK hC).2 hk).2.2 (by decide) h5 g2), if_neg (show ¬ (1 : Int32) = 0 by decide)]
        rcases ruler_sim (p0 := 3) (C2 := C + 1) hK h hT hn hH hKR hUR hNR hI (by decide) (Or.inl ⟨rfl, rfl⟩) (by omega) ht ws steps below above unit fn fp fa pl fs (fsr := fsr) g1 g3 with ⟨kd8, fr8, to8, x8, key8, wh8, at8, en8, tk8, w8, ns8, u8, f8, L8, sr8, nm8, k8, p8, n8, v8, s8, t8, e8, b8, a8, F8, R8, e1, e2, e3, e4⟩ | ⟨q, z, v1, v2, v3, v4, v5, v6, m1, v7, v8, v9, o1, m2, m3, m4, m5, m6, m7, m8, m9, y1, d1, d2, d3, d4, d5, d6, M, F, R, S, e1, e2⟩
        · left
          rw [un23_eq e3, un13_eq e4]
          exact ⟨_, _, _, _, _, _, _, _, _, _, _, _, _, _, _, _, _, _, _, _, _, _, _, _, _, _, _, _, _, _, _, _, _, _, _, _, _, rfl, rfl, e1, e2, ht⟩
        · right
          rw [un23_eq e1, un13_eq e2]
          exact ⟨rfl, rfl, rfl, rfl⟩
      · right
        rw [if_neg hc, un10_eq (((beg_3 hK hC).2 hk).1 rfl), if_neg (show ¬ (1 : Int32) = 0 by decide), PX7_innerLine_eq, if_neg (show ¬ (1 : Int32) = 0 by decide), un13_eq rfl, PX3_readRuler_eq, (room_r a5 a6 a7 a8 (by decide)).2 (fun q => hc (q.2 rfl))]
        dsimp only [lt_]
        rw [if_neg (show ¬ (0 : Int32) = 1 by decide), fl0, un3_eq rfl, un23_eq rfl]
        exact ⟨rfl, rfl, rfl, hfr⟩
    · right
      rw [isW_4 hK hC, if_neg (hno 4 (by decide) (by decide)), if_pos rfl, un10_eq ((beg_0 hK hC).1 (hno 0 (by decide) (by decide))), if_pos rfl, un10_eq ((beg_1 hK hC).1 (hno 1 (by decide) (by decide))), if_pos rfl, un10_eq ((beg_2 hK hC).1 (hno 2 (by decide) (by decide))), if_pos rfl, if_pos (show (8 : Int32) ≤ nI (N - W) by rw [fz_le, kc_8, nI_toInt (by omega)]; omega), un10_eq (((beg_3 hK hC).2 hk).1 rfl), if_neg (show ¬ (1 : Int32) = 0 by decide), PX7_innerLine_eq, if_neg (show ¬ (1 : Int32) = 0 by decide), un13_eq rfl, PX3_readRuler_eq, (room_r a5 a6 a7 a8 (by decide)).2 (fun q => hI q.1)]
      dsimp only [lt_]
      rw [if_neg (show ¬ (0 : Int32) = 1 by decide), fl0, un3_eq rfl, un23_eq rfl]
      exact ⟨rfl, rfl, rfl, hfr⟩
theorem line_5 (hK : KwOk keys) (h : TS keys n lo kd fr to x key wh at7 en tk w2 ns L) (hT : TR T U n) (hn : n ≤ 900) (hH : HR N W C Q told (nI N) (nI W) (nI C) (nI Q) slips throne said fsh) (hKR : KR N kind parts pn wt tw fsh rd) (hUR : UR Q uw uo fsh) (hNR : NamesR names fsh N) (hk : key = nI 5) (fn fp fa pl unit fs : Int32) (ws steps below above fsr : Nat → Int32) : LineOk keys n lo fn fp fa pl (PX3_readLine fn fp T (nI n) kd fr to x key wh told names keys (nI N) (nI W) (nI C) (nI Q) slips throne said unit kind parts pn wt ws tw steps below above uw uo) (PX7_readLine U (nI n) at7 en tk w2 ns fa pl L 0 fsh rd fsr fs) ∨ LineBad (PX3_readLine fn fp T (nI n) kd fr to x key wh told names keys (nI N) (nI W) (nI C) (nI Q) slips throne said unit kind parts pn wt ws tw steps below above uw uo) (PX7_readLine U (nI n) at7 en tk w2 ns fa pl L 0 fsh rd fsr fs) := by
  have hfr := h.frq
  obtain ⟨ta, tb, hC⟩ := h.tok
  have hN18 := hH.N18
  obtain ⟨a1, a2, a3, a4, a5, a6, a7, a8, a9, b1, b2, b3, b4, b5, b6, b7, b8, b9, c1, c2, c3, c4, c5, c6⟩ := id hH
  have hno : ∀ j : Nat, j < 8 → ¬ j = 5 → ¬ key = nI j := fun j hj hji e => hji ((nI_eq (by omega) (by omega)).mp (e.symm.trans hk))
  have hsw : ∀ {β : Type} {l0 l1 l2 l3 l4 l5 l6 d : β}, sw_ key 0 [l0, l1, l2, l3, l4, l5, l6] d = l5 := fun {β l0 l1 l2 l3 l4 l5 l6 d} => sw_in (j := 5) (by rw [hk, nI_toInt (by decide)]; rfl) rfl
  rw [PX3_readLine_eq, PX7_readLine_eq]
  dsimp only [lt_]
  rw [show PX3_isLineKey key = 1 from by rw [hk]; exact lk_nI (by decide), if_neg (show ¬ (1 : Int32) = 0 by decide), hsw, if_neg (show ¬ key = 4 from (hno 4 (by decide) (by decide))), two_cl, three_cl, seven_cl, eight_cl, b2, b3, b4, b5]
  by_cases ht : told = 0
  · right
    obtain ⟨z1, z2, z3, z4⟩ := c6 ht
    rw [if_pos ht, fl0, un3_eq rfl]
    rw [isW_4 hK hC, if_neg (hno 4 (by decide) (by decide)), if_pos rfl, un10_eq ((beg_0 hK hC).1 (hno 0 (by decide) (by decide))), if_pos rfl, un10_eq ((beg_1 hK hC).1 (hno 1 (by decide) (by decide))), if_pos rfl, un10_eq ((beg_2 hK hC).1 (hno 2 (by decide) (by decide))), if_pos rfl]
    by_cases h8 : (8 : Int32) ≤ nI (N - W)
    · rw [if_pos h8, un10_eq ((beg_3 hK hC).1 (hno 3 (by decide) (by decide))), if_pos rfl, isW_5 hK hC, if_pos hk, if_neg (show ¬ (1 : Int32) = 0 by decide), PX7_throneLine_eq]
      dsimp only [lt_]
      rw [six_cl, b9, if_pos (show throne < 0 by rw [fz_lt, kc_0]; omega), un10_eq (((beg_5 hK hC).2 hk).2.1 (by decide) (b7.trans ht)), nh_f (by decide), un4_eq rfl, pass0 (by decide), un6_eq rfl, if_neg (show ¬ (1 : Int32) = 0 by decide), un10_eq rfl]
      exact ⟨rfl, rfl, rfl, hfr⟩
    · rw [if_neg h8, un10_eq ((beg_3 hK hC).1 (hno 3 (by decide) (by decide))), if_pos rfl, isW_5 hK hC, if_pos hk, if_neg (show ¬ (1 : Int32) = 0 by decide), PX7_throneLine_eq]
      dsimp only [lt_]
      rw [six_cl, b9, if_pos (show throne < 0 by rw [fz_lt, kc_0]; omega), un10_eq (((beg_5 hK hC).2 hk).2.1 (by decide) (b7.trans ht)), nh_f (by decide), un4_eq rfl, pass0 (by decide), un6_eq rfl, if_neg (show ¬ (1 : Int32) = 0 by decide), un10_eq rfl]
      exact ⟨rfl, rfl, rfl, hfr⟩
  · rw [if_neg ht]
    have h5 : ¬ fsh 5 = 0 := by rw [b7]; exact ht
    rw [isW_4 hK hC, if_neg (hno 4 (by decide) (by decide)), if_pos rfl, un10_eq ((beg_0 hK hC).1 (hno 0 (by decide) (by decide))), if_pos rfl, un10_eq ((beg_1 hK hC).1 (hno 1 (by decide) (by decide))), if_pos rfl, un10_eq ((beg_2 hK hC).1 (hno 2 (by decide) (by decide))), if_pos rfl]
    by_cases h8 : (8 : Int32) ≤ nI (N - W)
    · rw [if_pos h8, un10_eq ((beg_3 hK hC).1 (hno 3 (by decide) (by decide))), if_pos rfl, isW_5 hK hC, if_pos hk, if_neg (show ¬ (1 : Int32) = 0 by decide)]
      rcases throne_sim hK h hT hn hk h5 hN18 hNR b9 fn fp fa pl with ⟨kd8, fr8, to8, x8, key8, wh8, at8, en8, tk8, w8, ns8, L8, j, e1, e2, e3, e4⟩ | ⟨q, z, v1, v2, v3, v4, v5, v6, v7, d1, d2, d3, d4, d5, M, F, e1, e2⟩
      · left
        rw [un10_eq e3, un10_eq e4]
        exact ⟨_, _, _, _, _, _, _, _, _, _, _, _, _, _, _, _, _, _, _, _, _, _, _, _, _, _, _, _, _, _, _, _, _, _, _, _, _, rfl, rfl, e1, SR.throneP ⟨N, W, C, Q, hH, hKR, hUR, hNR⟩ ht rfl hN18 e2, ht⟩
      · right
        rw [un10_eq e1, un10_eq e2]
        exact ⟨rfl, rfl, rfl, rfl⟩
    · rw [if_neg h8, un10_eq ((beg_3 hK hC).1 (hno 3 (by decide) (by decide))), if_pos rfl, isW_5 hK hC, if_pos hk, if_neg (show ¬ (1 : Int32) = 0 by decide)]
      rcases throne_sim hK h hT hn hk h5 hN18 hNR b9 fn fp fa pl with ⟨kd8, fr8, to8, x8, key8, wh8, at8, en8, tk8, w8, ns8, L8, j, e1, e2, e3, e4⟩ | ⟨q, z, v1, v2, v3, v4, v5, v6, v7, d1, d2, d3, d4, d5, M, F, e1, e2⟩
      · left
        rw [un10_eq e3, un10_eq e4]
        exact ⟨_, _, _, _, _, _, _, _, _, _, _, _, _, _, _, _, _, _, _, _, _, _, _, _, _, _, _, _, _, _, _, _, _, _, _, _, _, rfl, rfl, e1, SR.throneP ⟨N, W, C, Q, hH, hKR, hUR, hNR⟩ ht rfl hN18 e2, ht⟩
      · right
        rw [un10_eq e1, un10_eq e2]
        exact ⟨rfl, rfl, rfl, rfl⟩
theorem line_6 (hK : KwOk keys) (h : TS keys n lo kd fr to x key wh at7 en tk w2 ns L) (hT : TR T U n) (hn : n ≤ 900) (hH : HR N W C Q told (nI N) (nI W) (nI C) (nI Q) slips throne said fsh) (hKR : KR N kind parts pn wt tw fsh rd) (hUR : UR Q uw uo fsh) (hNR : NamesR names fsh N) (hk : key = nI 6) (fn fp fa pl unit fs : Int32) (ws steps below above fsr : Nat → Int32) : LineOk keys n lo fn fp fa pl (PX3_readLine fn fp T (nI n) kd fr to x key wh told names keys (nI N) (nI W) (nI C) (nI Q) slips throne said unit kind parts pn wt ws tw steps below above uw uo) (PX7_readLine U (nI n) at7 en tk w2 ns fa pl L 0 fsh rd fsr fs) ∨ LineBad (PX3_readLine fn fp T (nI n) kd fr to x key wh told names keys (nI N) (nI W) (nI C) (nI Q) slips throne said unit kind parts pn wt ws tw steps below above uw uo) (PX7_readLine U (nI n) at7 en tk w2 ns fa pl L 0 fsh rd fsr fs) := by
  have hfr := h.frq
  obtain ⟨ta, tb, hC⟩ := h.tok
  have hN18 := hH.N18
  obtain ⟨a1, a2, a3, a4, a5, a6, a7, a8, a9, b1, b2, b3, b4, b5, b6, b7, b8, b9, c1, c2, c3, c4, c5, c6⟩ := id hH
  have hno : ∀ j : Nat, j < 8 → ¬ j = 6 → ¬ key = nI j := fun j hj hji e => hji ((nI_eq (by omega) (by omega)).mp (e.symm.trans hk))
  have hsw : ∀ {β : Type} {l0 l1 l2 l3 l4 l5 l6 d : β}, sw_ key 0 [l0, l1, l2, l3, l4, l5, l6] d = l6 := fun {β l0 l1 l2 l3 l4 l5 l6 d} => sw_in (j := 6) (by rw [hk, nI_toInt (by decide)]; rfl) rfl
  rw [PX3_readLine_eq, PX7_readLine_eq]
  dsimp only [lt_]
  rw [show PX3_isLineKey key = 1 from by rw [hk]; exact lk_nI (by decide), if_neg (show ¬ (1 : Int32) = 0 by decide), hsw, if_neg (show ¬ key = 4 from (hno 4 (by decide) (by decide))), two_cl, three_cl, seven_cl, eight_cl, b2, b3, b4, b5]
  by_cases ht : told = 0
  · right
    obtain ⟨z1, z2, z3, z4⟩ := c6 ht
    rw [if_pos ht, fl0, un3_eq rfl]
    rw [isW_4 hK hC, if_neg (hno 4 (by decide) (by decide)), if_pos rfl, un10_eq ((beg_0 hK hC).1 (hno 0 (by decide) (by decide))), if_pos rfl, un10_eq ((beg_1 hK hC).1 (hno 1 (by decide) (by decide))), if_pos rfl, un10_eq ((beg_2 hK hC).1 (hno 2 (by decide) (by decide))), if_pos rfl]
    by_cases h8 : (8 : Int32) ≤ nI (N - W)
    · rw [if_pos h8, un10_eq ((beg_3 hK hC).1 (hno 3 (by decide) (by decide))), if_pos rfl, isW_5 hK hC, if_neg (hno 5 (by decide) (by decide)), if_pos rfl, room_b 4 (b := 4) (by decide) (by omega), if_pos (show Q < 4 by omega), un10_eq (((beg_6 hK hC).2 hk).2.1 (by decide) (b7.trans ht)), if_neg (show ¬ (1 : Int32) = 0 by decide), PX7_unsureLine_eq, if_neg (show ¬ (1 : Int32) = 0 by decide), un10_eq rfl]
      exact ⟨rfl, rfl, rfl, hfr⟩
    · rw [if_neg h8, un10_eq ((beg_3 hK hC).1 (hno 3 (by decide) (by decide))), if_pos rfl, isW_5 hK hC, if_neg (hno 5 (by decide) (by decide)), if_pos rfl, room_b 4 (b := 4) (by decide) (by omega), if_pos (show Q < 4 by omega), un10_eq (((beg_6 hK hC).2 hk).2.1 (by decide) (b7.trans ht)), if_neg (show ¬ (1 : Int32) = 0 by decide), PX7_unsureLine_eq, if_neg (show ¬ (1 : Int32) = 0 by decide), un10_eq rfl]
      exact ⟨rfl, rfl, rfl, hfr⟩
  · rw [if_neg ht]
    have h5 : ¬ fsh 5 = 0 := by rw [b7]; exact ht
    rw [isW_4 hK hC, if_neg (hno 4 (by decide) (by decide)), if_pos rfl, un10_eq ((beg_0 hK hC).1 (hno 0 (by decide) (by decide))), if_pos rfl, un10_eq ((beg_1 hK hC).1 (hno 1 (by decide) (by decide))), if_pos rfl, un10_eq ((beg_2 hK hC).1 (hno 2 (by decide) (by decide))), if_pos rfl]
    by_cases h8 : (8 : Int32) ≤ nI (N - W)
    · rw [if_pos h8, un10_eq ((beg_3 hK hC).1 (hno 3 (by decide) (by decide))), if_pos rfl, isW_5 hK hC, if_neg (hno 5 (by decide) (by decide)), if_pos rfl, room_b 4 (b := 4) (by decide) (by omega)]
      by_cases hQ : Q < 4
      · rw [if_pos hQ]
        obtain ⟨kd1, fr1, to1, x1, key1, wh1, at1, en1, tk1, w1, ns1, L1, g1, g2, g3, -⟩ := h.next hT hn x wh L
        rw [un10_eq (((beg_6 hK hC).2 hk).2.2 (by decide) h5 g2), if_neg (show ¬ (1 : Int32) = 0 by decide)]
        rcases unsure_sim hK h hT hn hH hKR hUR hNR hQ ht fn fp fa pl g1 g3 with ⟨kd8, fr8, to8, x8, key8, wh8, at8, en8, tk8, w8, ns8, L8, u8, o8, F8, e1, e2, e3, e4⟩ | ⟨q, z, v1, v2, v3, v4, v5, v6, v7, m1, m2, d1, d2, d3, d4, d5, M, F, e1, e2⟩
        · left
          rw [un12_eq e3, un10_eq e4]
          exact ⟨_, _, _, _, _, _, _, _, _, _, _, _, _, _, _, _, _, _, _, _, _, _, _, _, _, _, _, _, _, _, _, _, _, _, _, _, _, rfl, rfl, e1, e2, ht⟩
        · right
          rw [un12_eq e1, un10_eq e2]
          exact ⟨rfl, rfl, rfl, rfl⟩
      · right
        rw [if_neg hQ, un10_eq (((beg_6 hK hC).2 hk).1 rfl), if_neg (show ¬ (1 : Int32) = 0 by decide), PX7_unsureLine_eq, if_neg (show ¬ (1 : Int32) = 0 by decide), un10_eq rfl, PX3_readUnsure_eq, if_neg (show ¬ nI Q < (4 : Int32) by rw [fz_lt, kc_4, nI_toInt (by omega)]; omega), fl0, un3_eq rfl, un12_eq rfl]
        exact ⟨rfl, rfl, rfl, hfr⟩
    · rw [if_neg h8, un10_eq ((beg_3 hK hC).1 (hno 3 (by decide) (by decide))), if_pos rfl, isW_5 hK hC, if_neg (hno 5 (by decide) (by decide)), if_pos rfl, room_b 4 (b := 4) (by decide) (by omega)]
      by_cases hQ : Q < 4
      · rw [if_pos hQ]
        obtain ⟨kd1, fr1, to1, x1, key1, wh1, at1, en1, tk1, w1, ns1, L1, g1, g2, g3, -⟩ := h.next hT hn x wh L
        rw [un10_eq (((beg_6 hK hC).2 hk).2.2 (by decide) h5 g2), if_neg (show ¬ (1 : Int32) = 0 by decide)]
        rcases unsure_sim hK h hT hn hH hKR hUR hNR hQ ht fn fp fa pl g1 g3 with ⟨kd8, fr8, to8, x8, key8, wh8, at8, en8, tk8, w8, ns8, L8, u8, o8, F8, e1, e2, e3, e4⟩ | ⟨q, z, v1, v2, v3, v4, v5, v6, v7, m1, m2, d1, d2, d3, d4, d5, M, F, e1, e2⟩
        · left
          rw [un12_eq e3, un10_eq e4]
          exact ⟨_, _, _, _, _, _, _, _, _, _, _, _, _, _, _, _, _, _, _, _, _, _, _, _, _, _, _, _, _, _, _, _, _, _, _, _, _, rfl, rfl, e1, e2, ht⟩
        · right
          rw [un12_eq e1, un10_eq e2]
          exact ⟨rfl, rfl, rfl, rfl⟩
      · right
        rw [if_neg hQ, un10_eq (((beg_6 hK hC).2 hk).1 rfl), if_neg (show ¬ (1 : Int32) = 0 by decide), PX7_unsureLine_eq, if_neg (show ¬ (1 : Int32) = 0 by decide), un10_eq rfl, PX3_readUnsure_eq, if_neg (show ¬ nI Q < (4 : Int32) by rw [fz_lt, kc_4, nI_toInt (by omega)]; omega), fl0, un3_eq rfl, un12_eq rfl]
        exact ⟨rfl, rfl, rfl, hfr⟩
theorem line_7 (hK : KwOk keys) (h : TS keys n lo kd fr to x key wh at7 en tk w2 ns L) (hT : TR T U n) (hn : n ≤ 900) (hH : HR N W C Q told (nI N) (nI W) (nI C) (nI Q) slips throne said fsh) (hKR : KR N kind parts pn wt tw fsh rd) (hUR : UR Q uw uo fsh) (hNR : NamesR names fsh N) (hk : key = nI 7) (fn fp fa pl unit fs : Int32) (ws steps below above fsr : Nat → Int32) : LineOk keys n lo fn fp fa pl (PX3_readLine fn fp T (nI n) kd fr to x key wh told names keys (nI N) (nI W) (nI C) (nI Q) slips throne said unit kind parts pn wt ws tw steps below above uw uo) (PX7_readLine U (nI n) at7 en tk w2 ns fa pl L 0 fsh rd fsr fs) ∨ LineBad (PX3_readLine fn fp T (nI n) kd fr to x key wh told names keys (nI N) (nI W) (nI C) (nI Q) slips throne said unit kind parts pn wt ws tw steps below above uw uo) (PX7_readLine U (nI n) at7 en tk w2 ns fa pl L 0 fsh rd fsr fs) := by
  have hfr := h.frq
  obtain ⟨ta, tb, hC⟩ := h.tok
  have hN18 := hH.N18
  obtain ⟨a1, a2, a3, a4, a5, a6, a7, a8, a9, b1, b2, b3, b4, b5, b6, b7, b8, b9, c1, c2, c3, c4, c5, c6⟩ := id hH
  have hno : ∀ j : Nat, j < 8 → ¬ j = 7 → ¬ key = nI j := fun j hj hji e => hji ((nI_eq (by omega) (by omega)).mp (e.symm.trans hk))
  have hsw : ∀ {β : Type} {l0 l1 l2 l3 l4 l5 l6 d : β}, sw_ key 0 [l0, l1, l2, l3, l4, l5, l6] d = d := fun {β l0 l1 l2 l3 l4 l5 l6 d} => sw_out (Or.inr (by rw [hk, nI_toInt (by decide)]; show (0 : Int) + ((7 : Nat) : Int) ≤ ((7 : Nat) : Int); decide))
  rw [PX3_readLine_eq, PX7_readLine_eq]
  dsimp only [lt_]
  rw [show PX3_isLineKey key = 1 from by rw [hk]; exact lk_nI (by decide), if_neg (show ¬ (1 : Int32) = 0 by decide), hsw, if_neg (show ¬ key = 4 from (hno 4 (by decide) (by decide))), two_cl, three_cl, seven_cl, eight_cl, b2, b3, b4, b5]
  by_cases ht : told = 0
  · right
    obtain ⟨z1, z2, z3, z4⟩ := c6 ht
    rw [if_pos ht, fl0, un3_eq rfl]
    rw [isW_4 hK hC, if_neg (hno 4 (by decide) (by decide)), if_pos rfl, un10_eq ((beg_0 hK hC).1 (hno 0 (by decide) (by decide))), if_pos rfl, un10_eq ((beg_1 hK hC).1 (hno 1 (by decide) (by decide))), if_pos rfl, un10_eq ((beg_2 hK hC).1 (hno 2 (by decide) (by decide))), if_pos rfl]
    by_cases h8 : (8 : Int32) ≤ nI (N - W)
    · rw [if_pos h8, un10_eq ((beg_3 hK hC).1 (hno 3 (by decide) (by decide))), if_pos rfl, isW_5 hK hC, if_neg (hno 5 (by decide) (by decide)), if_pos rfl, un10_eq ((beg_6 hK hC).1 (hno 6 (by decide) (by decide))), if_pos rfl, isW_7 hK hC, if_pos hk, if_neg (show ¬ (1 : Int32) = 0 by decide), PX7_saidLine_eq]
      dsimp only [lt_]
      rw [four_cl, if_pos (show fsh 4 ≤ 0 by rw [fz_le, kc_0]; omega), un10_eq (((beg_7 hK hC).2 hk).2.1 (by decide) (b7.trans ht)), num_f (by decide), un10_eq (t := (0, at7, en, tk, w2, ns, 6, at7, 1, L)) rfl, if_neg (show ¬ (1 : Int32) = 0 by decide), un10_eq rfl]
      exact ⟨rfl, rfl, rfl, hfr⟩
    · rw [if_neg h8, un10_eq ((beg_3 hK hC).1 (hno 3 (by decide) (by decide))), if_pos rfl, isW_5 hK hC, if_neg (hno 5 (by decide) (by decide)), if_pos rfl, un10_eq ((beg_6 hK hC).1 (hno 6 (by decide) (by decide))), if_pos rfl, isW_7 hK hC, if_pos hk, if_neg (show ¬ (1 : Int32) = 0 by decide), PX7_saidLine_eq]
      dsimp only [lt_]
      rw [four_cl, if_pos (show fsh 4 ≤ 0 by rw [fz_le, kc_0]; omega), un10_eq (((beg_7 hK hC).2 hk).2.1 (by decide) (b7.trans ht)), num_f (by decide), un10_eq (t := (0, at7, en, tk, w2, ns, 6, at7, 1, L)) rfl, if_neg (show ¬ (1 : Int32) = 0 by decide), un10_eq rfl]
      exact ⟨rfl, rfl, rfl, hfr⟩
  · rw [if_neg ht]
    have h5 : ¬ fsh 5 = 0 := by rw [b7]; exact ht
    rw [isW_4 hK hC, if_neg (hno 4 (by decide) (by decide)), if_pos rfl, un10_eq ((beg_0 hK hC).1 (hno 0 (by decide) (by decide))), if_pos rfl, un10_eq ((beg_1 hK hC).1 (hno 1 (by decide) (by decide))), if_pos rfl, un10_eq ((beg_2 hK hC).1 (hno 2 (by decide) (by decide))), if_pos rfl]
    by_cases h8 : (8 : Int32) ≤ nI (N - W)
    · rw [if_pos h8, un10_eq ((beg_3 hK hC).1 (hno 3 (by decide) (by decide))), if_pos rfl, isW_5 hK hC, if_neg (hno 5 (by decide) (by decide)), if_pos rfl, un10_eq ((beg_6 hK hC).1 (hno 6 (by decide) (by decide))), if_pos rfl, isW_7 hK hC, if_pos hk, if_neg (show ¬ (1 : Int32) = 0 by decide)]
      rcases said_sim hK h hT hn hk h5 c1 fn fp fa pl with ⟨kd8, fr8, to8, x8, key8, wh8, at8, en8, tk8, w8, ns8, L8, s8, e1, e2, e3, e4, e5⟩ | ⟨q, z, v1, v2, v3, v4, v5, v6, v7, d1, d2, d3, d4, d5, M, F, e1, e2⟩
      · left
        rw [un10_eq e4, un10_eq e5]
        exact ⟨_, _, _, _, _, _, _, _, _, _, _, _, _, _, _, _, _, _, _, _, _, _, _, _, _, _, _, _, _, _, _, _, _, _, _, _, _, rfl, rfl, e1, SR.saidP ⟨N, W, C, Q, hH, hKR, hUR, hNR⟩ ht e2 e3, ht⟩
      · right
        rw [un10_eq e1, un10_eq e2]
        exact ⟨rfl, rfl, rfl, rfl⟩
    · rw [if_neg h8, un10_eq ((beg_3 hK hC).1 (hno 3 (by decide) (by decide))), if_pos rfl, isW_5 hK hC, if_neg (hno 5 (by decide) (by decide)), if_pos rfl, un10_eq ((beg_6 hK hC).1 (hno 6 (by decide) (by decide))), if_pos rfl, isW_7 hK hC, if_pos hk, if_neg (show ¬ (1 : Int32) = 0 by decide)]
      rcases said_sim hK h hT hn hk h5 c1 fn fp fa pl with ⟨kd8, fr8, to8, x8, key8, wh8, at8, en8, tk8, w8, ns8, L8, s8, e1, e2, e3, e4, e5⟩ | ⟨q, z, v1, v2, v3, v4, v5, v6, v7, d1, d2, d3, d4, d5, M, F, e1, e2⟩
      · left
        rw [un10_eq e4, un10_eq e5]
        exact ⟨_, _, _, _, _, _, _, _, _, _, _, _, _, _, _, _, _, _, _, _, _, _, _, _, _, _, _, _, _, _, _, _, _, _, _, _, _, rfl, rfl, e1, SR.saidP ⟨N, W, C, Q, hH, hKR, hUR, hNR⟩ ht e2 e3, ht⟩
      · right
        rw [un10_eq e1, un10_eq e2]
        exact ⟨rfl, rfl, rfl, rfl⟩
theorem line_sim (hK : KwOk keys) (h : TS keys n lo kd fr to x key wh at7 en tk w2 ns L) (hT : TR T U n) (hn : n ≤ 900) {nodes words chances unsures : Int32} (hS : SR names told nodes words chances unsures slips throne said kind parts pn wt tw uw uo fsh rd) (fn fp fa pl unit fs : Int32) (ws steps below above fsr : Nat → Int32) : LineOk keys n lo fn fp fa pl (PX3_readLine fn fp T (nI n) kd fr to x key wh told names keys nodes words chances unsures slips throne said unit kind parts pn wt ws tw steps below above uw uo) (PX7_readLine U (nI n) at7 en tk w2 ns fa pl L 0 fsh rd fsr fs) ∨ LineBad (PX3_readLine fn fp T (nI n) kd fr to x key wh told names keys nodes words chances unsures slips throne said unit kind parts pn wt ws tw steps below above uw uo) (PX7_readLine U (nI n) at7 en tk w2 ns fa pl L 0 fsh rd fsr fs) := by
  obtain ⟨N, W, C, Q, hH, hKR, hUR, hNR⟩ := hS
  obtain ⟨a1, a2, a3, a4, -⟩ := id hH
  subst a1 a2 a3 a4
  by_cases hx : ∃ i : Nat, i < 8 ∧ key = nI i
  · obtain ⟨i, hi, hk⟩ := hx
    rcases (show i = 0 ∨ i = 1 ∨ i = 2 ∨ i = 3 ∨ i = 4 ∨ i = 5 ∨ i = 6 ∨ i = 7 by omega) with rfl | rfl | rfl | rfl | rfl | rfl | rfl | rfl
    · exact line_0 hK h hT hn hH hKR hUR hNR hk fn fp fa pl unit fs ws steps below above fsr
    · exact line_1 hK h hT hn hH hKR hUR hNR hk fn fp fa pl unit fs ws steps below above fsr
    · exact line_2 hK h hT hn hH hKR hUR hNR hk fn fp fa pl unit fs ws steps below above fsr
    · exact line_3 hK h hT hn hH hKR hUR hNR hk fn fp fa pl unit fs ws steps below above fsr
    · exact line_4 hK h hT hn hH hKR hUR hNR hk fn fp fa pl unit fs ws steps below above fsr
    · exact line_5 hK h hT hn hH hKR hUR hNR hk fn fp fa pl unit fs ws steps below above fsr
    · exact line_6 hK h hT hn hH hKR hUR hNR hk fn fp fa pl unit fs ws steps below above fsr
    · exact line_7 hK h hT hn hH hKR hUR hNR hk fn fp fa pl unit fs ws steps below above fsr
  · exact Or.inr (line_no hK h hT hn hH hKR hUR hNR (fun i hi e => hx ⟨i, hi, e⟩) fn fp fa pl unit fs ws steps below above fsr)
end LS
