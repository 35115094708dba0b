section
/-! the whole text on both sides -/
section CT
variable {T U : Nat → Int32} {n : Nat} {keys : Nat → Int64}
theorem TS.k0 {lo : Nat} {kd fr to : Int32} {x : Int64} {key wh at7 en tk w2 ns : Int32} {L : Nat → Int32} (h : TS keys n lo kd fr to x key wh at7 en tk w2 ns L) : (kd = 0 ∧ tk = 0) ∨ (¬ kd = 0 ∧ ¬ tk = 0) := by
  obtain ⟨a, b, -, -, -, -, -, -, h⟩ := h
  rcases h with ⟨p, q, -⟩ | ⟨p, q, -⟩ | ⟨p, q, -⟩ | ⟨p, q, -⟩ | ⟨p, q, -⟩ | ⟨p, q, -⟩
  · exact Or.inl ⟨p, q⟩
  · exact Or.inr ⟨by rw [p]; decide, by rw [q]; decide⟩
  · exact Or.inr ⟨by rw [p]; decide, by rw [q]; decide⟩
  · exact Or.inr ⟨by rw [p]; decide, by rw [q]; decide⟩
  · exact Or.inr ⟨by rw [p]; decide, by rw [q]; decide⟩
  · exact Or.inr ⟨by rw [p]; decide, by rw [q]; decide⟩
theorem TS.k3 {lo : Nat} {kd fr to : Int32} {x : Int64} {key wh at7 en tk w2 ns : Int32} {L : Nat → Int32} (h : TS keys n lo kd fr to x key wh at7 en tk w2 ns L) : (kd = 3 ∧ tk = 59) ∨ (¬ kd = 3 ∧ ¬ tk = 59) := by
  obtain ⟨a, b, -, -, -, -, -, -, h⟩ := h
  rcases h with ⟨p, q, -⟩ | ⟨p, q, -⟩ | ⟨p, q, -⟩ | ⟨p, q, -⟩ | ⟨p, q, -⟩ | ⟨p, q, -⟩
  · exact Or.inr ⟨by rw [p]; decide, by rw [q]; decide⟩
  · exact Or.inr ⟨by rw [p]; decide, by rw [q]; decide⟩
  · exact Or.inr ⟨by rw [p]; decide, by rw [q]; decide⟩
  · exact Or.inr ⟨by rw [p]; decide, by rw [q]; decide⟩
  · exact Or.inl ⟨p, q⟩
  · exact Or.inr ⟨by rw [p]; decide, by rw [q]; decide⟩
/-- what both sides make of a text: read, with the same number of nodes; or a fault, the same at the same place -/
def EndOk (c : Int32 × Int32 × Int32 × Int32 × Int32 × Int32 × Int32 × Int32 × Int64 × Int32 × Int32 × Int32 × (Nat → Int64) × Int32 × Int32 × Int32 × Int32 × Int32 × Int32 × Int32 × Int32 × (Nat → Int32) × (Nat → Int32) × (Nat → Int32) × (Nat → Int32) × (Nat → Int32) × (Nat → Int32) × (Nat → Int32) × (Nat → Int32) × (Nat → Int32) × (Nat → Int32) × (Nat → Int32)) (m : Int32 × Int32 × Int32 × Int32 × Int32 × Int32 × Int32 × Int32 × Int32 × Int32 × Int32 × Int32 × Int32 × Int32 × Int32 × Int32 × Int32 × Int32 × (Nat → Int32) × (Nat → Int32) × (Nat → Int32) × (Nat → Int32) × (Nat → Int32) × (Nat → Int32) × (Nat → Int32)) (fn fa tr : Int32) : Prop :=
  (c.1 = 1 ∧ c.2.1 = fn ∧ m.1 = c.2.2.2.2.2.2.2.2.2.2.2.2.2.1 ∧ m.2.2.2.2.2.2.2.2.2.1 = fa ∧ m.2.2.2.2.2.2.2.2.2.2.2.1 = tr ∧ c.2.2.2.1 = 0 ∧ m.2.2.1 = 0) ∨ (c.1 = 0 ∧ m.1 = -1 ∧ m.2.2.2.2.2.2.2.2.2.1 = c.2.1 ∧ m.2.2.2.2.2.2.2.2.2.2.1 = c.2.2.1 ∧ m.2.2.2.2.2.2.2.2.2.2.2.1 = 4 ∧ c.2.2.2.1 = 0 ∧ m.2.2.1 = 0)
theorem no_eq (q : Int32) : PX7_no q = (-1, q) := PX7_no_eq q
/- made by pgen4 -/
theorem LineBad.ex {c : Int32 × Int32 × Int32 × Int32 × Int32 × Int32 × Int64 × Int32 × Int32 × Int32 × (Nat → Int64) × Int32 × Int32 × Int32 × Int32 × Int32 × Int32 × Int32 × Int32 × (Nat → Int32) × (Nat → Int32) × (Nat → Int32) × (Nat → Int32) × (Nat → Int32) × (Nat → Int32) × (Nat → Int32) × (Nat → Int32) × (Nat → Int32) × (Nat → Int32) × (Nat → Int32)} {m : Int32 × Int32 × Int32 × Int32 × Int32 × Int32 × Int32 × Int32 × Int32 × (Nat → Int32) × (Nat → Int32) × (Nat → Int32) × (Nat → Int32)} (h : LineBad c m) : ∃ (c1 c2 : Int32) (c3 : Int32) (c4 : Int32) (c5 : Int32) (c6 : Int64) (c7 : Int32) (c8 : Int32) (c9 : Int32) (c10 : Nat → Int64) (c11 : Int32) (c12 : Int32) (c13 : Int32) (c14 : Int32) (c15 : Int32) (c16 : Int32) (c17 : Int32) (c18 : Int32) (c19 : Nat → Int32) (c20 : Nat → Int32) (c21 : Nat → Int32) (c22 : Nat → Int32) (c23 : Nat → Int32) (c24 : Nat → Int32) (c25 : Nat → Int32) (c26 : Nat → Int32) (c27 : Nat → Int32) (c28 : Nat → Int32) (c29 : Nat → Int32) (m0 : Int32) (m1 : Int32) (m2 : Int32) (m3 : Int32) (m4 : Int32) (m8 : Int32) (m9 : Nat → Int32) (m10 : Nat → Int32) (m11 : Nat → Int32) (m12 : Nat → Int32), c = (0, c1, c2, c3, c4, c5, c6, c7, c8, c9, c10, c11, c12, c13, c14, c15, c16, c17, c18, c19, c20, c21, c22, c23, c24, c25, c26, c27, c28, c29) ∧ m = (m0, m1, m2, m3, m4, c1, c2, 1, m8, m9, m10, m11, m12) := by
  obtain ⟨c0, c1, c2, c3, c4, c5, c6, c7, c8, c9, c10, c11, c12, c13, c14, c15, c16, c17, c18, c19, c20, c21, c22, c23, c24, c25, c26, c27, c28, c29⟩ := c
  obtain ⟨m0, m1, m2, m3, m4, m5, m6, m7, m8, m9, m10, m11, m12⟩ := m
  obtain ⟨h1, h2, h3, h4⟩ := h
  obtain rfl : c0 = 0 := h1
  obtain rfl : m7 = 1 := h2
  obtain rfl : c1 = m5 := h3
  obtain rfl : c2 = m6 := h4
  exact ⟨c1, c2, c3, c4, c5, c6, c7, c8, c9, c10, c11, c12, c13, c14, c15, c16, c17, c18, c19, c20, c21, c22, c23, c24, c25, c26, c27, c28, c29, m0, m1, m2, m3, m4, m8, m9, m10, m11, m12, rfl, rfl⟩
theorem rd_bad {fn fp : Int32} {f i : Nat} (kd fr to : Int32) (x : Int64) (key wh told nodes words chances unsures slips throne said unit : Int32) (names : Nat → Int64) (kind parts pn wt ws tw steps below above uw uo : Nat → Int32) : (HX3_reads_0 T keys (nI n) (f + 1) (nI i) 0 fn fp kd fr to x key wh told nodes words chances unsures slips throne said unit names kind parts pn wt ws tw steps below above uw uo).1 = 0 ∧ (HX3_reads_0 T keys (nI n) (f + 1) (nI i) 0 fn fp kd fr to x key wh told nodes words chances unsures slips throne said unit names kind parts pn wt ws tw steps below above uw uo).2.1 = fn ∧ (HX3_reads_0 T keys (nI n) (f + 1) (nI i) 0 fn fp kd fr to x key wh told nodes words chances unsures slips throne said unit names kind parts pn wt ws tw steps below above uw uo).2.2.1 = fp ∧ (HX3_reads_0 T keys (nI n) (f + 1) (nI i) 0 fn fp kd fr to x key wh told nodes words chances unsures slips throne said unit names kind parts pn wt ws tw steps below above uw uo).2.2.2.1 = 0 := by
  rw [HX3_reads_0_eq]
  by_cases h : (900 : Int32) ≤ nI i
  · rw [if_pos h, if_pos rfl]; exact ⟨rfl, rfl, rfl, rfl⟩
  · rw [if_neg h, if_pos rfl, if_pos rfl]; exact ⟨rfl, rfl, rfl, rfl⟩
theorem ct_bad {hc und img sc x1 x2 fa pl : Int32} {r9 t9 s9 : Nat → Int32} {f : Nat} (at7 en tk w2 ns fs : Int32) (L fsh rd fsr : Nat → Int32) : ∃ (y1 y3 y4 y5 y6 y7 y8 y9 z1 z2 z3 z4 z5 : Int32) (Y1 Y2 Y3 Y4 Y5 Y6 Y7 : Nat → Int32), HX7_court_2 U hc r9 t9 s9 und img sc (nI n) x1 x2 (f + 1) at7 en tk w2 ns fa pl 1 fs L fsh rd fsr = (-1, y1, 0, y3, y4, y5, y6, y7, y8, fa, pl, 4, y9, z1, z2, z3, z4, z5, Y1, Y2, Y3, Y4, Y5, Y6, Y7) := by
  rw [HX7_court_2_eq, if_neg (show ¬ (1 : Int32) = 0 by decide), if_neg (show ¬ (1 : Int32) = 0 by decide), if_neg (show ¬ (1 : Int32) = 0 by decide), if_neg (show ¬ (1 : Int32) = 0 by decide), no_eq, un2_eq rfl]
  exact ⟨_, _, _, _, _, _, _, _, _, _, _, _, _, _, _, _, _, _, _, _, rfl⟩
theorem reads_end {hc und img sc x1 x2 fn fa pl fp : Int32} {r9 t9 s9 : Nat → Int32} {lo i f1 f2 : Nat} {kd fr to : Int32} {x : Int64} {key wh told nodes words chances unsures slips throne said unit : Int32} {names : Nat → Int64} {kind parts pn wt ws tw steps below above uw uo : Nat → Int32} {at7 en tk w2 ns fs : Int32} {L fsh rd fsr : Nat → Int32} (hf1 : 1 ≤ f1) (hf2 : 1 ≤ f2) (k1 : ¬ kd = 3) (k2 : ¬ tk = 59) (hTS : TS keys n lo kd fr to x key wh at7 en tk w2 ns L) (hSR : SR names told nodes words chances unsures slips throne said kind parts pn wt tw uw uo fsh rd) (ht : ¬ told = 0) : EndOk (HX3_reads_0 T keys (nI n) f1 (nI i) 1 fn fp kd fr to x key wh told nodes words chances unsures slips throne said unit names kind parts pn wt ws tw steps below above uw uo) (HX7_court_2 U hc r9 t9 s9 und img sc (nI n) x1 x2 f2 at7 en tk w2 ns fa pl 0 fs L fsh rd fsr) fn fa x2 := by
  obtain ⟨f1, rfl⟩ : ∃ g, f1 = g + 1 := ⟨f1 - 1, by omega⟩
  obtain ⟨f2, rfl⟩ : ∃ g, f2 = g + 1 := ⟨f2 - 1, by omega⟩
  have hfr := hTS.frq
  obtain ⟨N, W, C, Q, hH, -, -, -⟩ := hSR
  have hN18 := hH.N18
  obtain ⟨a1, a2, a3, a4, a5, a6, a7, a8, a9, b1, b2, b3, b4, b5, b6, b7, b8, b9, c1, c2, c3, c4, c5, c6⟩ := id hH
  have hcl : HX3_reads_0 T keys (nI n) (f1 + 1) (nI i) 1 fn fp kd fr to x key wh told nodes words chances unsures slips throne said unit names kind parts pn wt ws tw steps below above uw uo = un4_ (PX3_readEnd fn fp kd fr nodes words throne) (fun r q z t => if r = 0 then (0, q, z, 0, nI n, kd, fr, to, x, key, wh, told, names, nodes, words, chances, unsures, slips, t, said, unit, kind, parts, pn, wt, ws, tw, steps, below, above, uw, uo) else (1, q, z, 0, nI n, kd, fr, to, x, key, wh, told, names, nodes, words, chances, unsures, slips, t, said, unit, kind, parts, pn, wt, ws, tw, steps, below, above, uw, uo)) := by
    rw [HX3_reads_0_eq]
    by_cases h : (900 : Int32) ≤ nI i
    · rw [if_pos h, if_neg (show ¬ (1 : Int32) = 0 by decide)]
    · rw [if_neg h, if_neg (show ¬ (1 : Int32) = 0 by decide), if_neg k1, if_neg (show ¬ (1 : Int32) = 0 by decide)]
  rw [hcl, HX7_court_2_eq, if_pos rfl, if_neg k2, if_pos rfl, PX3_readEnd_eq]
  dsimp only [lt_]
  rcases hTS.k0 with ⟨e1, e2⟩ | ⟨e1, e2⟩
  · rw [if_pos e1, if_pos e2, if_pos rfl, five_cl, b7, if_neg ht, two_cl, b2, a2]
    by_cases hW : W = 0
    · have hW0 : nI W = 0 := by rw [hW]; rfl
      rw [if_pos hW0, fl0, un3_eq rfl, un4_eq rfl, if_pos rfl, if_pos hW0, wr0, un3_eq rfl, if_neg (show ¬ (1 : Int32) = 0 by decide), no_eq, un2_eq rfl]
      exact Or.inr ⟨rfl, rfl, rfl, hfr.symm, rfl, rfl, rfl⟩
    · have hW0 : ¬ nI W = 0 := nI_ne0 (by omega) (by omega)
      rw [if_neg hW0, if_neg hW0, if_pos rfl, six_cl, b9, one_cl]
      have cp1 : ∀ (f g : Nat → Int32), cpF f g (0 : Int32).toNatClampNeg (0 : Int32).toNatClampNeg (287 : Int32).toNatClampNeg 1 = f 1 := fun f g => rfl
      by_cases hth : (0 : Int32) ≤ throne
      · rw [if_pos hth, un4_eq rfl, if_neg (show ¬ (1 : Int32) = 0 by decide), if_pos hth, cp1, b1, a1]
        exact Or.inl ⟨rfl, rfl, rfl, rfl, rfl, rfl, rfl⟩
      · rw [if_neg hth, un4_eq rfl, if_neg (show ¬ (1 : Int32) = 0 by decide), if_neg hth, cp1, upd_ne (by decide), b1, a1]
        exact Or.inl ⟨rfl, rfl, rfl, rfl, rfl, rfl, rfl⟩
  · rw [if_neg e1, fl0, un3_eq rfl, un4_eq rfl, if_pos rfl, if_neg e2, wr0, un3_eq rfl, if_neg (show ¬ (1 : Int32) = 0 by decide), if_neg (show ¬ (1 : Int32) = 0 by decide), no_eq, un2_eq rfl]
    exact Or.inr ⟨rfl, rfl, rfl, hfr.symm, rfl, rfl, rfl⟩
/- end of pgen4 -/
theorem reads_loop (hK : KwOk keys) (hT : TR T U n) (hn : n ≤ 900) {hc und img sc x1 x2 fn fa pl : Int32} {fp : Int32} {r9 t9 s9 : Nat → Int32} : ∀ (r lo i f1 f2 : Nat) (kd fr to : Int32) (x : Int64) (key wh told nodes words chances unsures slips throne said unit : Int32) (names : Nat → Int64) (kind parts pn wt ws tw steps below above uw uo : Nat → Int32) (at7 en tk w2 ns fs : Int32) (L fsh rd fsr : Nat → Int32), n - lo = r → lo ≤ n → i ≤ lo → n - lo + 2 ≤ f1 → 1 ≤ f2 → (tk = 59 → 902 - lo ≤ f2) → TS keys n lo kd fr to x key wh at7 en tk w2 ns L → SR names told nodes words chances unsures slips throne said kind parts pn wt tw uw uo fsh rd → ¬ told = 0 → EndOk (HX3_reads_0 T keys (nI n) f1 (nI i) 1 fn fp kd fr to x key wh told nodes words chances unsures slips throne said unit names kind parts pn wt ws tw steps below above uw uo) (HX7_court_2 U hc r9 t9 s9 und img sc (nI n) x1 x2 f2 at7 en tk w2 ns fa pl 0 fs L fsh rd fsr) fn fa x2 := by
  intro r
  induction r with
  | zero =>
    intro lo i f1 f2 kd fr to x key wh told nodes words chances unsures slips throne said unit names kind parts pn wt ws tw steps below above uw uo at7 en tk w2 ns fs L fsh rd fsr hr hlo hi hf1 hf2 hf3 hTS hSR ht
    rcases hTS.k3 with ⟨k1, k2⟩ | ⟨k1, k2⟩
    · exact absurd (hTS.semi k1 hT hn 0 0 L).1 (by omega)
    · exact reads_end (by omega) hf2 k1 k2 hTS hSR ht
  | succ r ih =>
    intro lo i f1 f2 kd fr to x key wh told nodes words chances unsures slips throne said unit names kind parts pn wt ws tw steps below above uw uo at7 en tk w2 ns fs L fsh rd fsr hr hlo hi hf1 hf2 hf3 hTS hSR ht
    rcases hTS.k3 with ⟨k1, k2⟩ | ⟨k1, k2⟩
    · obtain ⟨hln, kd1, fr1, to1, y1, key1, wh1, at1, en1, tk1, w1, ns1, L1, g1, g2, g3, -⟩ := hTS.semi k1 hT hn x wh L
      obtain ⟨f1, rfl⟩ : ∃ g, f1 = g + 1 := ⟨f1 - 1, by omega⟩
      have hf3 := hf3 k2
      obtain ⟨f2, rfl⟩ : ∃ g, f2 = g + 1 := ⟨f2 - 1, by omega⟩
      rw [HX3_reads_0_eq, if_neg (show ¬ (900 : Int32) ≤ nI i by rw [fz_le, kc_900, nI_toInt (by omega)]; omega), if_neg (show ¬ (1 : Int32) = 0 by decide), if_pos k1, un6_eq g1, HX7_court_2_eq, if_pos rfl, if_pos k2, un6_eq g2]
      rcases line_sim hK g3 hT hn hSR fn fp fa pl unit fs ws steps below above fsr with hok | hbad
      · obtain ⟨kd2, fr2, to2, y2, key2, wh2, told2, names2, nodes2, words2, ch2, un2, sl2, th2, sd2, u2, q1, q2, q3, q4, q5, q6, q7, q8, q9, p1, p2, at2, en2, tk2, w3, ns2, fs2, L2, F2, R2, S2, e1, e2, e3, e4, e5⟩ := hok
        rw [un30_eq e1, un13_eq e2]
        dsimp only [lt_]
        rw [nI_o1]
        exact ih (lo + 1) (i + 1) f1 f2 _ _ _ _ _ _ _ _ _ _ _ _ _ _ _ _ _ _ _ _ _ _ _ _ _ _ _ _ _ _ _ _ _ _ _ _ _ (by omega) (by omega) (by omega) (by omega) (by omega) (fun _ => by omega) e3 e4 e5
      · obtain ⟨c1, c2, c3, c4, c5, c6, c7, c8, c9, c10, c11, c12, c13, c14, c15, c16, c17, c18, c19, c20, c21, c22, c23, c24, c25, c26, c27, c28, c29, m0, m1, m2, m3, m4, m8, m9, m10, m11, m12, e1, e2⟩ := hbad.ex
        obtain ⟨f1, rfl⟩ : ∃ g, f1 = g + 1 := ⟨f1 - 1, by omega⟩
        obtain ⟨f2, rfl⟩ : ∃ g, f2 = g + 1 := ⟨f2 - 1, by omega⟩
        rw [un30_eq e1, un13_eq e2]
        dsimp only [lt_]
        rw [nI_o1]
        obtain ⟨y1, y3, y4, y5, y6, y7, y8, y9, z1, z2, z3, z4, z5, Y1, Y2, Y3, Y4, Y5, Y6, Y7, hY⟩ := ct_bad (U := U) (n := n) (hc := hc) (und := und) (img := img) (sc := sc) (x1 := x1) (x2 := x2) (fa := c1) (pl := c2) (r9 := r9) (t9 := t9) (s9 := s9) (f := f2) m0 m1 m2 m3 m4 m8 m9 m10 m11 m12
        obtain ⟨v1, v2, v3, v4⟩ := rd_bad (T := T) (keys := keys) (n := n) (fn := c1) (fp := c2) (f := f1) (i := i + 1) c3 c4 c5 c6 c7 c8 c9 c11 c12 c13 c14 c15 c16 c17 c18 c10 c19 c20 c21 c22 c23 c24 c25 c26 c27 c28 c29
        rw [hY]
        exact Or.inr ⟨v1, rfl, v2.symm, v3.symm, rfl, v4, rfl⟩
    · exact reads_end (by omega) hf2 k1 k2 hTS hSR ht
end CT
end
section
/-! a court's text from its start on both sides -/
section CA
variable {T U : Nat → Int32} {n : Nat} {keys : Nat → Int64}
theorem z0_loop {pl hc und img sc p0 x1 x2 fs : Int32} {L r9 t9 s9 rd fsr : Nat → Int32} : ∀ (m i f : Nat) (F : Nat → Int32), 287 - i = m → i ≤ 287 → m < f → (∀ j : Nat, j < i → F j = 0) → ∃ G : Nat → Int32, (∀ j : Nat, j < 287 → G j = 0) ∧ HX7_court_0 U pl L hc r9 t9 rd s9 und img fsr fs sc p0 x1 x2 f (nI i) F = HX7_court_1 U pl L hc r9 t9 s9 und img fsr fs sc p0 x1 x2 G (((90 - (0 : Int32).toInt).toNat) + 1) 0 rd := by
  have k : (287 : Int32).toInt = 287 := by decide
  intro m
  induction m with
  | zero =>
    intro i f F hm hi hf hF
    obtain ⟨f, rfl⟩ : ∃ g, f = g + 1 := ⟨f - 1, by omega⟩
    refine ⟨F, fun j hj => hF j (by omega), ?_⟩
    rw [HX7_court_0_eq, if_pos (show (287 : Int32) ≤ nI i by rw [fz_le, k, nI_toInt (by omega)]; omega)]
  | succ m ih =>
    intro i f F hm hi hf hF
    obtain ⟨f, rfl⟩ : ∃ g, f = g + 1 := ⟨f - 1, by omega⟩
    rw [HX7_court_0_eq, if_neg (show ¬ (287 : Int32) ≤ nI i by rw [fz_le, k, nI_toInt (by omega)]; omega)]
    dsimp only [lt_]
    rw [nI_clamp (by omega), nI_o1]
    refine ih (i + 1) f _ (by omega) (by omega) (by omega) (fun j hj => ?_)
    by_cases h : j = i
    · rw [h, upd_at]
    · rw [upd_ne h]; exact hF j (by omega)
theorem z1_loop {pl hc und img sc p0 x1 x2 fs : Int32} {L r9 t9 s9 fsr G : Nat → Int32} : ∀ (m i f : Nat) (F : Nat → Int32), 90 - i = m → i ≤ 90 → m < f → (∀ j : Nat, j < i → F j = 0) → ∃ (R : Nat → Int32) (g : Nat), (∀ j : Nat, j < 90 → R j = 0) ∧ HX7_court_1 U pl L hc r9 t9 s9 und img fsr fs sc p0 x1 x2 G f (nI i) F = HX7_court_1 U pl L hc r9 t9 s9 und img fsr fs sc p0 x1 x2 G (g + 1) (nI 90) R := by
  intro m
  induction m with
  | zero =>
    intro i f F hm hi hf hF
    obtain ⟨f, rfl⟩ : ∃ g, f = g + 1 := ⟨f - 1, by omega⟩
    obtain rfl : i = 90 := by omega
    exact ⟨F, f, hF, rfl⟩
  | succ m ih =>
    intro i f F hm hi hf hF
    obtain ⟨f, rfl⟩ : ∃ g, f = g + 1 := ⟨f - 1, by omega⟩
    rw [HX7_court_1_eq, if_neg (show ¬ (90 : Int32) ≤ nI i by rw [fz_le, kc_90, nI_toInt (by omega)]; omega)]
    dsimp only [lt_]
    rw [nI_clamp (by omega), nI_o1]
    refine ih (i + 1) f _ (by omega) (by omega) (by omega) (fun j hj => ?_)
    by_cases h : j = i
    · rw [h, upd_at]
    · rw [upd_ne h]; exact hF j (by omega)
theorem SR_zero {names : Nat → Int64} {kind parts pn wt tw uw uo G R : Nat → Int32} (hG : ∀ j : Nat, j < 287 → G j = 0) (hR : ∀ j : Nat, j < 90 → R j = 0) : SR names 0 0 0 0 0 0 (-1) (-1) kind parts pn wt tw uw uo (upd G 6 (-1)) R := by
  have e : ∀ j : Nat, j < 287 → ¬ j = 6 → upd G 6 (-1) j = 0 := fun j h1 h2 => by rw [upd_ne h2]; exact hG j h1
  refine ⟨0, 0, 0, 0, ⟨rfl, rfl, rfl, rfl, by omega, by omega, by omega, by omega, by omega, e 1 (by decide) (by decide), e 2 (by decide) (by decide), e 7 (by decide) (by decide), e 8 (by decide) (by decide), e 3 (by decide) (by decide), Or.inl rfl, e 5 (by decide) (by decide), e 0 (by decide) (by decide), upd_at _ _ _, ?_, by decide, by decide, by decide, by decide, fun _ => ⟨rfl, rfl, by decide, by decide, rfl⟩⟩, ⟨fun k hk => absurd hk (by omega), fun k _ h2 => ⟨e _ (by omega) (by omega), hR _ (by omega)⟩⟩, fun j hj => absurd hj (by omega), ⟨fun k hk => absurd hk (by omega), fun k _ h2 => e _ (by omega) (by omega)⟩⟩
  rw [e 4 (by decide) (by decide)]
  decide
theorem TS.self {lo : Nat} {kd fr to : Int32} {x : Int64} {key wh at7 en tk w2 ns : Int32} {L : Nat → Int32} (h : TS keys n lo kd fr to x key wh at7 en tk w2 ns L) : ∃ a : Nat, a ≤ n ∧ TS keys n a kd fr to x key wh at7 en tk w2 ns L ∧ (tk = 59 → en = nI (a + 1) ∧ a < n) := by
  obtain ⟨a, b, h1, h2, h3, h4, h5, h6, h7⟩ := h
  refine ⟨a, by omega, ⟨a, b, h1, h2, h3, h4, ⟨Nat.le_refl _, h5.2⟩, h6, h7⟩, fun ht => ?_⟩
  rcases h7 with ⟨-, q, -⟩ | ⟨-, q, -⟩ | ⟨-, q, -⟩ | ⟨-, q, -⟩ | ⟨-, -, -, q⟩ | ⟨-, q, -⟩
  · exact absurd (q.symm.trans ht) (by decide)
  · exact absurd (q.symm.trans ht) (by decide)
  · exact absurd (q.symm.trans ht) (by decide)
  · exact absurd (q.symm.trans ht) (by decide)
  · rw [← q]; exact ⟨h4, by omega⟩
  · exact absurd (q.symm.trans ht) (by decide)
theorem text_sim (hK : KwOk keys) (hT : TR T U n) (hn : n ≤ 900) (nm : Int64) (w : Int32) (names : Nat → Int64) (kind parts pn wt ws tw steps below above uw uo : Nat → Int32) (pl hc und img sc x1 x2 fs : Int32) (L r9 t9 s9 fsh rd fsr : Nat → Int32) : EndOk (PX3_reads T nm w names keys kind parts pn wt ws tw steps below above uw uo (nI n)) (HX7_court_0 U pl L hc r9 t9 rd s9 und img fsr fs sc (nI n) x1 x2 (((287 - (0 : Int32).toInt).toNat) + 1) 0 fsh) 0 0 x2 := by
  obtain ⟨G, hG, e0⟩ := z0_loop (U := U) (pl := pl) (hc := hc) (und := und) (img := img) (sc := sc) (p0 := nI n) (x1 := x1) (x2 := x2) (fs := fs) (L := L) (r9 := r9) (t9 := t9) (s9 := s9) (rd := rd) (fsr := fsr) 287 0 (((287 - (0 : Int32).toInt).toNat) + 1) fsh rfl (by omega) (by rw [kc_0]; omega) (fun j hj => absurd hj (by omega))
  obtain ⟨R, g, hR, e1⟩ := z1_loop (U := U) (pl := pl) (hc := hc) (und := und) (img := img) (sc := sc) (p0 := nI n) (x1 := x1) (x2 := x2) (fs := fs) (L := L) (r9 := r9) (t9 := t9) (s9 := s9) (fsr := fsr) (G := G) 90 0 (((90 - (0 : Int32).toInt).toNat) + 1) rd rfl (by omega) (by rw [kc_0]; omega) (fun j hj => absurd hj (by omega))
  rw [nI_0] at e0 e1
  rw [e0, e1, HX7_court_1_eq, if_pos (show (90 : Int32) ≤ nI 90 from by decide), PX3_reads_eq]
  dsimp only [lt_]
  rw [PX1_clear_eq, un8_eq rfl, six_cl]
  obtain ⟨kd1, fr1, to1, y1, key1, wh1, at1, en1, tk1, w1, ns1, L1, g1, g2, g3, -⟩ := ts_next (keys := keys) (lo := 0) (b := 0) hT hn (Nat.zero_le _) (Nat.le_refl _) nm w L
  rw [nI_0] at g1 g2
  rw [un6_eq g1, un6_eq g2]
  rcases line_sim hK g3 hT hn (SR_zero (names := names) (kind := kind) (parts := parts) (pn := pn) (wt := wt) (tw := tw) (uw := uw) (uo := uo) hG hR) 0 (-1) 0 pl 1 fs ws steps below above fsr with hok | hbad
  · obtain ⟨kd2, fr2, to2, y2, key2, wh2, told2, names2, nodes2, words2, ch2, un2, sl2, th2, sd2, u2, q1, q2, q3, q4, q5, q6, q7, q8, q9, p1, p2, at2, en2, tk2, w3, ns2, fs2, L2, F2, R2, S2, v1, v2, v3, v4, v5⟩ := hok
    rw [un30_eq v1, un13_eq v2]
    obtain ⟨a, ha, hTa, hen⟩ := v3.self
    have hz := reads_loop (hc := hc) (und := und) (img := img) (sc := sc) (x1 := x1) (x2 := x2) (fn := 0) (fa := 0) (pl := pl) (fp := -1) (r9 := r9) (t9 := t9) (s9 := s9) hK hT hn (n - a) a 0 (((2147483647 - (0 : Int32).toInt).toNat) + 1) ((crtM (0 : Int32).toInt tk2.toInt en2.toInt) + 1) kd2 fr2 to2 y2 key2 wh2 told2 nodes2 words2 ch2 un2 sl2 th2 sd2 u2 names2 q1 q2 q3 q4 q5 q6 q7 q8 q9 p1 p2 at2 en2 tk2 w3 ns2 fs2 L2 F2 R2 S2 rfl ha (Nat.zero_le _) (by rw [kc_0]; omega) (by omega) (fun ht => by
      obtain ⟨h1, h2⟩ := hen ht
      unfold crtM
      rw [kc_0, ht, h1, nI_toInt (by omega), if_pos ⟨by omega, by decide⟩]
      omega) hTa v4 v5
    rw [nI_0] at hz
    exact hz
  · obtain ⟨c1, c2, c3, c4, c5, c6, c7, c8, c9, c10, c11, c12, c13, c14, c15, c16, c17, c18, c19, c20, c21, c22, c23, c24, c25, c26, c27, c28, c29, m0, m1, m2, m3, m4, m8, m9, m10, m11, m12, v1, v2⟩ := hbad.ex
    rw [un30_eq v1, un13_eq v2]
    obtain ⟨y1, y3, y4, y5, y6, y7, y8, y9, z1, z2, z3, z4, z5, Y1, Y2, Y3, Y4, Y5, Y6, Y7, hY⟩ := ct_bad (U := U) (n := n) (hc := hc) (und := und) (img := img) (sc := sc) (x1 := x1) (x2 := x2) (fa := c1) (pl := c2) (r9 := r9) (t9 := t9) (s9 := s9) (f := crtM (1 : Int32).toInt m2.toInt m1.toInt) m0 m1 m2 m3 m4 m8 m9 m10 m11 m12
    obtain ⟨v1, v2, v3, v4⟩ := rd_bad (T := T) (keys := keys) (n := n) (fn := c1) (fp := c2) (f := ((2147483647 - (0 : Int32).toInt).toNat)) (i := 0) c3 c4 c5 c6 c7 c8 c9 c11 c12 c13 c14 c15 c16 c17 c18 c10 c19 c20 c21 c22 c23 c24 c25 c26 c27 c28 c29
    rw [nI_0] at v1 v2 v3 v4
    rw [hY]
    exact Or.inr ⟨v1, rfl, v2.symm, v3.symm, rfl, v4, rfl⟩
end CA
end
section
/-! court(n) on both sides -/
section CC
variable {T U : Nat → Int32} {t : Nat} {keys : Nat → Int64}
theorem TR.le {a b : Nat} (h : TR T U b) (hab : a ≤ b) : TR T U a := fun j hj => h j (by omega)
theorem court_pure (hK : KwOk keys) (hT : TR T U t) (ht : t ≤ 900) (p : Int32) (iK_imageCount : Int32) (iK_latestFault : Int32) (iK_latestPlace : Int32) (fS_worths : Nat → Int32) (fS_order : Nat → Int32) (iA_count : Int32) (iR_faultNumber : Int32) (iR_faultPlace : Int32) (iR_end : Int32) (iR_tokenKind : Int32) (iR_tokenFrom : Int32) (iR_tokenTo : Int32) (iR_tokenName : Int64) (iR_tokenKey : Int32) (iR_tokenWhole : Int32) (iR_courtTold : Int32) (fR_names : Nat → Int64) (iD_nodes : Int32) (iD_words : Int32) (iD_chances : Int32) (iD_unsures : Int32) (iD_slips : Int32) (iD_throneNode : Int32) (iD_saidWorth : Int32) (iD_unit : Int32) (fD_kind : Nat → Int32) (fD_parts : Nat → Int32) (fD_partNodes : Nat → Int32) (fD_weights : Nat → Int32) (fD_weightSums : Nat → Int32) (fD_toldWorths : Nat → Int32) (fD_steps : Nat → Int32) (fD_below : Nat → Int32) (fD_above : Nat → Int32) (fD_unsureWords : Nat → Int32) (fD_unsureWorths : Nat → Int32) (iM_size : Int32) (iM_at : Int32) (iM_end : Int32) (iM_token : Int32) (iM_whole : Int32) (iM_nameSize : Int32) (iM_fault : Int32) (iM_place : Int32) (fM_letters : Nat → Int32) (iM_failed : Int32) (iM_hasCourt : Int32) (fM_r : Nat → Int32) (fM_fresh : Nat → Int32) (fM_told : Nat → Int32) (fM_read : Nat → Int32) (fM_st : Nat → Int32) (iM_undos : Int32) (iM_images : Int32) (fM_fresher : Nat → Int32) (iM_fresherSize : Int32) (iM_scale : Int32) : (PX6_court iK_imageCount iK_latestFault iK_latestPlace fS_worths fS_order iA_count iR_faultNumber iR_faultPlace (nI t) T iR_end iR_tokenKind iR_tokenFrom iR_tokenTo iR_tokenName iR_tokenKey iR_tokenWhole iR_courtTold fR_names keys iD_nodes iD_words iD_chances iD_unsures iD_slips iD_throneNode iD_saidWorth iD_unit fD_kind fD_parts fD_partNodes fD_weights fD_weightSums fD_toldWorths fD_steps fD_below fD_above fD_unsureWords fD_unsureWorths p).1 = (PX7_court U (nI t) iM_size iM_at iM_end iM_token iM_whole iM_nameSize iM_fault iM_place fM_letters iM_failed iM_hasCourt fM_r fM_fresh fM_told fM_read fM_st iM_undos iM_images fM_fresher iM_fresherSize iM_scale p).1 ∧ (iK_latestFault = iM_fault → (PX6_court iK_imageCount iK_latestFault iK_latestPlace fS_worths fS_order iA_count iR_faultNumber iR_faultPlace (nI t) T iR_end iR_tokenKind iR_tokenFrom iR_tokenTo iR_tokenName iR_tokenKey iR_tokenWhole iR_courtTold fR_names keys iD_nodes iD_words iD_chances iD_unsures iD_slips iD_throneNode iD_saidWorth iD_unit fD_kind fD_parts fD_partNodes fD_weights fD_weightSums fD_toldWorths fD_steps fD_below fD_above fD_unsureWords fD_unsureWorths p).2.2.2.1 = (PX7_court U (nI t) iM_size iM_at iM_end iM_token iM_whole iM_nameSize iM_fault iM_place fM_letters iM_failed iM_hasCourt fM_r fM_fresh fM_told fM_read fM_st iM_undos iM_images fM_fresher iM_fresherSize iM_scale p).2.2.2.2.2.2.2.2.2.1) ∧ (PX6_court iK_imageCount iK_latestFault iK_latestPlace fS_worths fS_order iA_count iR_faultNumber iR_faultPlace (nI t) T iR_end iR_tokenKind iR_tokenFrom iR_tokenTo iR_tokenName iR_tokenKey iR_tokenWhole iR_courtTold fR_names keys iD_nodes iD_words iD_chances iD_unsures iD_slips iD_throneNode iD_saidWorth iD_unit fD_kind fD_parts fD_partNodes fD_weights fD_weightSums fD_toldWorths fD_steps fD_below fD_above fD_unsureWords fD_unsureWorths p).2.2.1 = (PX7_court U (nI t) iM_size iM_at iM_end iM_token iM_whole iM_nameSize iM_fault iM_place fM_letters iM_failed iM_hasCourt fM_r fM_fresh fM_told fM_read fM_st iM_undos iM_images fM_fresher iM_fresherSize iM_scale p).2.2.2.2.2.2.2.2.2.2.2.1 ∧ ((PX6_court iK_imageCount iK_latestFault iK_latestPlace fS_worths fS_order iA_count iR_faultNumber iR_faultPlace (nI t) T iR_end iR_tokenKind iR_tokenFrom iR_tokenTo iR_tokenName iR_tokenKey iR_tokenWhole iR_courtTold fR_names keys iD_nodes iD_words iD_chances iD_unsures iD_slips iD_throneNode iD_saidWorth iD_unit fD_kind fD_parts fD_partNodes fD_weights fD_weightSums fD_toldWorths fD_steps fD_below fD_above fD_unsureWords fD_unsureWorths p).2.2.1 = 4 → (PX6_court iK_imageCount iK_latestFault iK_latestPlace fS_worths fS_order iA_count iR_faultNumber iR_faultPlace (nI t) T iR_end iR_tokenKind iR_tokenFrom iR_tokenTo iR_tokenName iR_tokenKey iR_tokenWhole iR_courtTold fR_names keys iD_nodes iD_words iD_chances iD_unsures iD_slips iD_throneNode iD_saidWorth iD_unit fD_kind fD_parts fD_partNodes fD_weights fD_weightSums fD_toldWorths fD_steps fD_below fD_above fD_unsureWords fD_unsureWorths p).2.2.2.2.1 = (PX7_court U (nI t) iM_size iM_at iM_end iM_token iM_whole iM_nameSize iM_fault iM_place fM_letters iM_failed iM_hasCourt fM_r fM_fresh fM_told fM_read fM_st iM_undos iM_images fM_fresher iM_fresherSize iM_scale p).2.2.2.2.2.2.2.2.2.2.1) ∧ (((PX6_court iK_imageCount iK_latestFault iK_latestPlace fS_worths fS_order iA_count iR_faultNumber iR_faultPlace (nI t) T iR_end iR_tokenKind iR_tokenFrom iR_tokenTo iR_tokenName iR_tokenKey iR_tokenWhole iR_courtTold fR_names keys iD_nodes iD_words iD_chances iD_unsures iD_slips iD_throneNode iD_saidWorth iD_unit fD_kind fD_parts fD_partNodes fD_weights fD_weightSums fD_toldWorths fD_steps fD_below fD_above fD_unsureWords fD_unsureWorths p).2.2.2.2.2.2.2.2.2.2.1 = nI t ∧ (PX7_court U (nI t) iM_size iM_at iM_end iM_token iM_whole iM_nameSize iM_fault iM_place fM_letters iM_failed iM_hasCourt fM_r fM_fresh fM_told fM_read fM_st iM_undos iM_images fM_fresher iM_fresherSize iM_scale p).2.2.1 = nI t) ∨ ((PX6_court iK_imageCount iK_latestFault iK_latestPlace fS_worths fS_order iA_count iR_faultNumber iR_faultPlace (nI t) T iR_end iR_tokenKind iR_tokenFrom iR_tokenTo iR_tokenName iR_tokenKey iR_tokenWhole iR_courtTold fR_names keys iD_nodes iD_words iD_chances iD_unsures iD_slips iD_throneNode iD_saidWorth iD_unit fD_kind fD_parts fD_partNodes fD_weights fD_weightSums fD_toldWorths fD_steps fD_below fD_above fD_unsureWords fD_unsureWorths p).2.2.2.2.2.2.2.2.2.2.1 = 0 ∧ (PX7_court U (nI t) iM_size iM_at iM_end iM_token iM_whole iM_nameSize iM_fault iM_place fM_letters iM_failed iM_hasCourt fM_r fM_fresh fM_told fM_read fM_st iM_undos iM_images fM_fresher iM_fresherSize iM_scale p).2.2.1 = 0)) := by
  rw [PX6_court_eq, PX7_court_eq, PX7_good_eq, un2_eq (t := ((0 : Int32), (0 : Int32))) rfl, in_eq]
  dsimp only [lt_]
  rw [kc_0, nI_toInt (by omega)]
  have hrf : ∀ q : Int32, PX6_refuse q = (-1, q) := fun q => PX6_refuse_eq q
  by_cases h0 : p.toInt < 0
  · rw [if_pos (show p < 0 by rw [fz_lt, kc_0]; exact h0), if_neg (show ¬ ((0 : Int) ≤ p.toInt ∧ p.toInt ≤ (t : Int)) by omega), if_pos rfl, un2_eq (hrf 2), un2_eq (no_eq 2)]
    exact ⟨rfl, fun e => e, rfl, fun e => absurd e (by show ¬ (2 : Int32) = 4; decide), Or.inl ⟨rfl, rfl⟩⟩
  · rw [if_neg (show ¬ p < 0 by rw [fz_lt, kc_0]; exact h0)]
    by_cases h1 : p.toInt ≤ t
    · obtain ⟨n, hn, rfl⟩ : ∃ n : Nat, n ≤ t ∧ p = nI n := ⟨p.toInt.toNat, by omega, by rw [fz_eq, nI_toInt (by omega)]; omega⟩
      rw [if_pos (show nI n ≤ nI t by rw [nI_leI (by omega) (by omega)]; exact hn), if_pos (show (0 : Int) ≤ (nI n).toInt ∧ (nI n).toInt ≤ (t : Int) by rw [nI_toInt (by omega)]; omega), if_neg (show ¬ (1 : Int32) = 0 by decide)]
      generalize hc : PX3_reads _ _ _ _ _ _ _ _ _ _ _ _ _ _ _ _ _ = c
      generalize hm : HX7_court_0 _ _ _ _ _ _ _ _ _ _ _ _ _ _ _ _ _ _ _ = m
      have hz := text_sim hK (hT.le hn) (by omega) iR_tokenName iR_tokenWhole fR_names fD_kind fD_parts fD_partNodes fD_weights fD_weightSums fD_toldWorths fD_steps fD_below fD_above fD_unsureWords fD_unsureWorths iM_place iM_hasCourt iM_undos iM_images iM_scale 0 0 iM_fresherSize fM_letters fM_r fM_told fM_st fM_fresh fM_read fM_fresher
      rw [hc, kc_0, hm] at hz
      obtain ⟨c0, c1, c2, c3, c4, c5, c6, c7, c8, c9, c10, c11, c12, c13, c14, c15, c16, c17, c18, c19, c20, c21, c22, c23, c24, c25, c26, c27, c28, c29, c30, c31⟩ := c
      rw [un32_eq rfl]
      rcases hz with ⟨z1, z2, z3, z4, z5, z6, z7⟩ | ⟨z1, z2, z3, z4, z5, z6, z7⟩
      · obtain rfl : c0 = 1 := z1
        rw [if_neg (show ¬ (1 : Int32) = 0 by decide)]
        generalize PX5_standAsTold _ _ _ = d
        obtain ⟨d1, d2⟩ := d
        rw [un2_eq rfl]
        refine ⟨z3.symm, fun _ => ?_, ?_, fun e => absurd e (by show ¬ (0 : Int32) = 4; decide), Or.inr ⟨z6, z7⟩⟩
        · exact (show c1 = 0 from z2).trans z4.symm
        · exact z5.symm
      · obtain rfl : c0 = 0 := z1
        rw [if_pos rfl, un2_eq (hrf 4)]
        exact ⟨z2.symm, fun _ => z3.symm, z5.symm, fun _ => z4.symm, Or.inr ⟨z6, z7⟩⟩
    · rw [if_neg (show ¬ p ≤ nI t by rw [fz_le, nI_toInt (by omega)]; exact h1), if_neg (show ¬ ((0 : Int) ≤ p.toInt ∧ p.toInt ≤ (t : Int)) by omega), if_pos rfl, un2_eq (hrf 2), un2_eq (no_eq 2)]
      exact ⟨rfl, fun e => e, rfl, fun e => absurd e (by show ¬ (2 : Int32) = 4; decide), Or.inl ⟨rfl, rfl⟩⟩
end CC
/-- what court does to the tape, the fault and the answer, whatever else lies there -/
def CtC (T : Nat → Int32) (keys : Nat → Int64) (iR_tapeSize iK_latestFault p r ts lf : Int32) : Prop := ∃ (iK_imageCount : Int32) (iK_latestPlace : Int32) (fS_worths : Nat → Int32) (fS_order : Nat → Int32) (iA_count : Int32) (iR_faultNumber : Int32) (iR_faultPlace : Int32) (iR_end : Int32) (iR_tokenKind : Int32) (iR_tokenFrom : Int32) (iR_tokenTo : Int32) (iR_tokenName : Int64) (iR_tokenKey : Int32) (iR_tokenWhole : Int32) (iR_courtTold : Int32) (fR_names : Nat → Int64) (iD_nodes : Int32) (iD_words : Int32) (iD_chances : Int32) (iD_unsures : Int32) (iD_slips : Int32) (iD_throneNode : Int32) (iD_saidWorth : Int32) (iD_unit : Int32) (fD_kind : Nat → Int32) (fD_parts : Nat → Int32) (fD_partNodes : Nat → Int32) (fD_weights : Nat → Int32) (fD_weightSums : Nat → Int32) (fD_toldWorths : Nat → Int32) (fD_steps : Nat → Int32) (fD_below : Nat → Int32) (fD_above : Nat → Int32) (fD_unsureWords : Nat → Int32) (fD_unsureWorths : Nat → Int32), (PX6_court iK_imageCount iK_latestFault iK_latestPlace fS_worths fS_order iA_count iR_faultNumber iR_faultPlace iR_tapeSize T iR_end iR_tokenKind iR_tokenFrom iR_tokenTo iR_tokenName iR_tokenKey iR_tokenWhole iR_courtTold fR_names keys iD_nodes iD_words iD_chances iD_unsures iD_slips iD_throneNode iD_saidWorth iD_unit fD_kind fD_parts fD_partNodes fD_weights fD_weightSums fD_toldWorths fD_steps fD_below fD_above fD_unsureWords fD_unsureWorths p).1 = r ∧ (PX6_court iK_imageCount iK_latestFault iK_latestPlace fS_worths fS_order iA_count iR_faultNumber iR_faultPlace iR_tapeSize T iR_end iR_tokenKind iR_tokenFrom iR_tokenTo iR_tokenName iR_tokenKey iR_tokenWhole iR_courtTold fR_names keys iD_nodes iD_words iD_chances iD_unsures iD_slips iD_throneNode iD_saidWorth iD_unit fD_kind fD_parts fD_partNodes fD_weights fD_weightSums fD_toldWorths fD_steps fD_below fD_above fD_unsureWords fD_unsureWorths p).2.2.2.2.2.2.2.2.2.2.1 = ts ∧ (PX6_court iK_imageCount iK_latestFault iK_latestPlace fS_worths fS_order iA_count iR_faultNumber iR_faultPlace iR_tapeSize T iR_end iR_tokenKind iR_tokenFrom iR_tokenTo iR_tokenName iR_tokenKey iR_tokenWhole iR_courtTold fR_names keys iD_nodes iD_words iD_chances iD_unsures iD_slips iD_throneNode iD_saidWorth iD_unit fD_kind fD_parts fD_partNodes fD_weights fD_weightSums fD_toldWorths fD_steps fD_below fD_above fD_unsureWords fD_unsureWorths p).2.2.2.1 = lf
def CtM (U : Nat → Int32) (iM_taped iM_fault p r ts lf : Int32) : Prop := ∃ (iM_size : Int32) (iM_at : Int32) (iM_end : Int32) (iM_token : Int32) (iM_whole : Int32) (iM_nameSize : Int32) (iM_place : Int32) (fM_letters : Nat → Int32) (iM_failed : Int32) (iM_hasCourt : Int32) (fM_r : Nat → Int32) (fM_fresh : Nat → Int32) (fM_told : Nat → Int32) (fM_read : Nat → Int32) (fM_st : Nat → Int32) (iM_undos : Int32) (iM_images : Int32) (fM_fresher : Nat → Int32) (iM_fresherSize : Int32) (iM_scale : Int32), (PX7_court U iM_taped iM_size iM_at iM_end iM_token iM_whole iM_nameSize iM_fault iM_place fM_letters iM_failed iM_hasCourt fM_r fM_fresh fM_told fM_read fM_st iM_undos iM_images fM_fresher iM_fresherSize iM_scale p).1 = r ∧ (PX7_court U iM_taped iM_size iM_at iM_end iM_token iM_whole iM_nameSize iM_fault iM_place fM_letters iM_failed iM_hasCourt fM_r fM_fresh fM_told fM_read fM_st iM_undos iM_images fM_fresher iM_fresherSize iM_scale p).2.2.1 = ts ∧ (PX7_court U iM_taped iM_size iM_at iM_end iM_token iM_whole iM_nameSize iM_fault iM_place fM_letters iM_failed iM_hasCourt fM_r fM_fresh fM_told fM_read fM_st iM_undos iM_images fM_fresher iM_fresherSize iM_scale p).2.2.2.2.2.2.2.2.2.1 = lf
theorem ct_join {T U : Nat → Int32} {t : Nat} {keys : Nat → Int64} (hK : KwOk keys) (hT : TR T U t) (ht : t ≤ 900) {lf p r6 a6 l6 r7 a7 l7 : Int32} (h6 : CtC T keys (nI t) lf p r6 a6 l6) (h7 : CtM U (nI t) lf p r7 a7 l7) : r6 = r7 ∧ l6 = l7 ∧ ∃ t2 : Nat, t2 ≤ 900 ∧ a6 = nI t2 ∧ a7 = nI t2 ∧ TR T U t2 := by
  obtain ⟨x_iK_imageCount, x_iK_latestPlace, x_fS_worths, x_fS_order, x_iA_count, x_iR_faultNumber, x_iR_faultPlace, x_iR_end, x_iR_tokenKind, x_iR_tokenFrom, x_iR_tokenTo, x_iR_tokenName, x_iR_tokenKey, x_iR_tokenWhole, x_iR_courtTold, x_fR_names, x_iD_nodes, x_iD_words, x_iD_chances, x_iD_unsures, x_iD_slips, x_iD_throneNode, x_iD_saidWorth, x_iD_unit, x_fD_kind, x_fD_parts, x_fD_partNodes, x_fD_weights, x_fD_weightSums, x_fD_toldWorths, x_fD_steps, x_fD_below, x_fD_above, x_fD_unsureWords, x_fD_unsureWorths, x1, x2, x3⟩ := h6
  obtain ⟨y_iM_size, y_iM_at, y_iM_end, y_iM_token, y_iM_whole, y_iM_nameSize, y_iM_place, y_fM_letters, y_iM_failed, y_iM_hasCourt, y_fM_r, y_fM_fresh, y_fM_told, y_fM_read, y_fM_st, y_iM_undos, y_iM_images, y_fM_fresher, y_iM_fresherSize, y_iM_scale, y1, y2, y3⟩ := h7
  obtain ⟨e1, e2, -, -, e5⟩ := court_pure hK hT ht p x_iK_imageCount lf x_iK_latestPlace x_fS_worths x_fS_order x_iA_count x_iR_faultNumber x_iR_faultPlace x_iR_end x_iR_tokenKind x_iR_tokenFrom x_iR_tokenTo x_iR_tokenName x_iR_tokenKey x_iR_tokenWhole x_iR_courtTold x_fR_names x_iD_nodes x_iD_words x_iD_chances x_iD_unsures x_iD_slips x_iD_throneNode x_iD_saidWorth x_iD_unit x_fD_kind x_fD_parts x_fD_partNodes x_fD_weights x_fD_weightSums x_fD_toldWorths x_fD_steps x_fD_below x_fD_above x_fD_unsureWords x_fD_unsureWorths y_iM_size y_iM_at y_iM_end y_iM_token y_iM_whole y_iM_nameSize lf y_iM_place y_fM_letters y_iM_failed y_iM_hasCourt y_fM_r y_fM_fresh y_fM_told y_fM_read y_fM_st y_iM_undos y_iM_images y_fM_fresher y_iM_fresherSize y_iM_scale
  have e2 := e2 rfl
  rw [x1, y1] at e1
  rw [x3, y3] at e2
  rw [x2, y2] at e5
  refine ⟨e1, e2, ?_⟩
  rcases e5 with ⟨q1, q2⟩ | ⟨q1, q2⟩
  · exact ⟨t, ht, q1, q2, hT⟩
  · exact ⟨0, by omega, q1, q2, fun j hj => absurd hj (by omega)⟩
end
section
/-! feed on both sides -/
section FD
theorem and255 (x : Int32) : (x &&& 255).toInt = x.toInt % 256 := by
  have h1 : (x &&& 255).toBitVec.toNat = x.toBitVec.toNat % 256 := by
    rw [Int32.toBitVec_and, BitVec.toNat_and]
    exact Nat.and_two_pow_sub_one_eq_mod _ 8
  have h2 : (x &&& 255).toInt = ((x.toBitVec.toNat % 256 : Nat) : Int) := by
    rw [← Int32.toInt_toBitVec, BitVec.toInt_eq_toNat_of_lt (by rw [h1]; omega), h1]
  have h3 := BitVec.toInt_eq_toNat_cond x.toBitVec
  rw [Int32.toInt_toBitVec] at h3
  rw [h2, h3]
  by_cases h : 2 * x.toBitVec.toNat < 2 ^ 32
  · rw [if_pos h]; omega
  · rw [if_neg h]; omega
/-- the byte that a number has behind a shift, as the class keeps it and as the reference does -/
def bC (p s : Int32) : Int32 := vp_nar .byte ((p >>> (s &&& 31)).toInt8.toInt32)
def bM (p s : Int32) : Int32 := (p >>> (s &&& 31)) &&& 255
theorem byte_tr (p s : Int32) : -128 ≤ (bC p s).toInt ∧ (bC p s).toInt ≤ 127 ∧ ((0 ≤ (bC p s).toInt ∧ (bM p s).toInt = (bC p s).toInt) ∨ ((bC p s).toInt < 0 ∧ (bM p s).toInt = (bC p s).toInt + 256)) := by
  have e1 : (bC p s).toInt = ((p >>> (s &&& 31)).toInt.bmod 256).bmod 256 := by
    show ((((p >>> (s &&& 31)).toInt8.toInt32).toInt8.toInt32)).toInt = _
    rw [Int8.toInt_toInt32, Int32.toInt_toInt8, Int8.toInt_toInt32, Int32.toInt_toInt8]
  have e2 : (bM p s).toInt = (p >>> (s &&& 31)).toInt % 256 := and255 _
  rw [e1, e2, Int.bmod_def, Int.bmod_def]
  omega
/-- which number a byte of the twenty is of, and behind which shift -/
def fdP (p0 p1 p2 p3 p4 : Int32) (k : Nat) : Int32 := if k < 4 then p0 else if k < 8 then p1 else if k < 12 then p2 else if k < 16 then p3 else p4
def fdS (k : Nat) : Int32 := nI (24 - 8 * (k % 4))
theorem put4 (p : Int32) {t : Nat} (ht : t ≤ 896) (F : Nat → Int32) : PX3_putBytes (nI t) F p = (nI (t + 4), upd (upd (upd (upd F t (bC p 24)) (t + 1) (bC p 16)) (t + 2) (bC p 8)) (t + 3) (bC p 0)) := by
  have st : ∀ (g k : Nat) (s : Int32) (G : Nat → Int32), ¬ s < 0 → k < 900 → HX3_putBytes_0 p (g + 1) s (nI k) G = HX3_putBytes_0 p g (s + Int32.ofInt (-8)) (nI (k + 1)) (upd G k (bC p s)) := fun g k s G hs hk => by
    rw [HX3_putBytes_0_eq, if_neg hs, if_neg (show ¬ (900 : Int32) ≤ nI k by rw [fz_le, kc_900, nI_toInt (by omega)]; omega)]
    dsimp only [lt_]
    rw [nI_clamp (by omega), nI_1]
    rfl
  rw [PX3_putBytes_eq, show ((((24 : Int32).toInt + 8).toNat) + 1) = 28 + 1 + 1 + 1 + 1 + 1 from by decide, st _ _ _ _ (by decide) (by omega), st _ _ _ _ (by decide) (by omega), st _ _ _ _ (by decide) (by omega), st _ _ _ _ (by decide) (by omega), HX3_putBytes_0_eq, if_pos (by decide)]
  rfl
theorem mod4 {k : Nat} (hk : k < 20) : (24 : Int32) - (8 : Int32) * (nI k - nI k / (4 : Int32) * (4 : Int32)) = fdS k := by
  rcases (show k = 0 ∨ k = 1 ∨ k = 2 ∨ k = 3 ∨ k = 4 ∨ k = 5 ∨ k = 6 ∨ k = 7 ∨ k = 8 ∨ k = 9 ∨ k = 10 ∨ k = 11 ∨ k = 12 ∨ k = 13 ∨ k = 14 ∨ k = 15 ∨ k = 16 ∨ k = 17 ∨ k = 18 ∨ k = 19 by omega) with rfl | rfl | rfl | rfl | rfl | rfl | rfl | rfl | rfl | rfl | rfl | rfl | rfl | rfl | rfl | rfl | rfl | rfl | rfl | rfl <;> decide
theorem fd_loop {p0 p1 p2 p3 p4 : Int32} : ∀ (m k f t : Nat) (F : Nat → Int32), 20 - k = m → k ≤ 20 → m < f → t + m ≤ 900 → ∃ G : Nat → Int32, HX7_feed_0 p0 p1 p2 p3 p4 f (nI k) (nI t) F = (nI (t + m), 0, nI (t + m), G) ∧ (∀ j : Nat, j < t → G j = F j) ∧ ∀ i : Nat, i < m → G (t + i) = bM (fdP p0 p1 p2 p3 p4 (k + i)) (fdS (k + i)) := by
  have k20 : (20 : Int32).toInt = 20 := by decide
  have k12 : (12 : Int32).toInt = 12 := by decide
  have k16 : (16 : Int32).toInt = 16 := by decide
  intro m
  induction m with
  | zero =>
    intro k f t F hm hk hf ht
    obtain ⟨f, rfl⟩ : ∃ g, f = g + 1 := ⟨f - 1, by omega⟩
    refine ⟨F, ?_, fun _ _ => rfl, fun i hi => absurd hi (by omega)⟩
    rw [HX7_feed_0_eq, if_pos (show (20 : Int32) ≤ nI k by rw [fz_le, k20, nI_toInt (by omega)]; omega)]
    rfl
  | succ m ih =>
    intro k f t F hm hk hf ht
    obtain ⟨f, rfl⟩ : ∃ g, f = g + 1 := ⟨f - 1, by omega⟩
    have hst : HX7_feed_0 p0 p1 p2 p3 p4 (f + 1) (nI k) (nI t) F = HX7_feed_0 p0 p1 p2 p3 p4 f (nI (k + 1)) (nI (t + 1)) (upd F t (bM (fdP p0 p1 p2 p3 p4 k) (fdS k))) := by
      rw [HX7_feed_0_eq, if_neg (show ¬ (20 : Int32) ≤ nI k by rw [fz_le, k20, nI_toInt (by omega)]; omega)]
      dsimp only [lt_]
      rw [mod4 (by omega), nI_clamp (by omega), nI_o1, nI_1]
      unfold fdP bM
      by_cases h4 : k < 4
      · rw [if_neg (show ¬ (4 : Int32) ≤ nI k by rw [fz_le, kc_4, nI_toInt (by omega)]; omega), if_pos h4]
      · rw [if_pos (show (4 : Int32) ≤ nI k by rw [fz_le, kc_4, nI_toInt (by omega)]; omega), if_neg h4]
        by_cases h8 : k < 8
        · rw [if_neg (show ¬ (8 : Int32) ≤ nI k by rw [fz_le, kc_8, nI_toInt (by omega)]; omega), if_pos h8]
        · rw [if_pos (show (8 : Int32) ≤ nI k by rw [fz_le, kc_8, nI_toInt (by omega)]; omega), if_neg h8]
          by_cases h12 : k < 12
          · rw [if_neg (show ¬ (12 : Int32) ≤ nI k by rw [fz_le, k12, nI_toInt (by omega)]; omega), if_pos h12]
          · rw [if_pos (show (12 : Int32) ≤ nI k by rw [fz_le, k12, nI_toInt (by omega)]; omega), if_neg h12]
            by_cases h16 : k < 16
            · rw [if_neg (show ¬ (16 : Int32) ≤ nI k by rw [fz_le, k16, nI_toInt (by omega)]; omega), if_pos h16]
            · rw [if_pos (show (16 : Int32) ≤ nI k by rw [fz_le, k16, nI_toInt (by omega)]; omega), if_neg h16]
    obtain ⟨G, g1, g2, g3⟩ := ih (k + 1) f (t + 1) (upd F t (bM (fdP p0 p1 p2 p3 p4 k) (fdS k))) (by omega) (by omega) (by omega) (by omega)
    refine ⟨G, ?_, fun j hj => ?_, fun i hi => ?_⟩
    · rw [hst, g1, show t + 1 + m = t + (m + 1) from by omega]
    · rw [g2 j (by omega), upd_ne (by omega)]
    · by_cases hi0 : i = 0
      · subst hi0
        show G t = _
        rw [g2 t (by omega), upd_at]
        rfl
      · have q := g3 (i - 1) (by omega)
        rw [show t + 1 + (i - 1) = t + i from by omega, show k + 1 + (i - 1) = k + i from by omega] at q
        exact q
/-- after a feed both tapes still tell the same bytes -/
theorem feed_pure {T U : Nat → Int32} {t : Nat} (hT : TR T U t) (ht : t ≤ 880) (p0 p1 p2 p3 p4 : Int32) : ∃ T2 U2 : Nat → Int32, PX6_feed (nI t) T p0 p1 p2 p3 p4 = (nI (t + 20), nI (t + 20), T2) ∧ PX7_feed U (nI t) p0 p1 p2 p3 p4 = (nI (t + 20), 0, nI (t + 20), U2) ∧ TR T2 U2 (t + 20) := by
  have k880 : (880 : Int32).toInt = 880 := by decide
  obtain ⟨U2, u1, u2, u3⟩ := fd_loop (p0 := p0) (p1 := p1) (p2 := p2) (p3 := p3) (p4 := p4) 20 0 (((20 - (0 : Int32).toInt).toNat) + 1) t U rfl (by omega) (by rw [kc_0]; omega) (by omega)
  rw [nI_0] at u1
  refine ⟨?T2, U2, ?ga, ?gb, ?gc⟩
  case ga =>
    rw [PX6_feed_eq, if_pos (show nI t ≤ (880 : Int32) by rw [fz_le, k880, nI_toInt (by omega)]; omega), put4 p0 (by omega), un2_eq rfl, put4 p1 (by omega), un2_eq rfl, put4 p2 (by omega), un2_eq rfl, put4 p3 (by omega), un2_eq rfl, put4 p4 (by omega), un2_eq rfl]
    try exact rfl
  case gb =>
    rw [PX7_feed_eq]
    dsimp only [lt_]
    rw [show (20 : Int32) = nI 20 from rfl, nI_add, if_pos (show nI (t + 20) ≤ (900 : Int32) by rw [fz_le, kc_900, nI_toInt (by omega)]; omega)]
    exact u1
  case gc =>
    intro j hj
    by_cases h : j < t
    · have q := hT j h
      rw [u2 j h]
      simp only [upd]
      rw [if_neg (by omega), if_neg (by omega), if_neg (by omega), if_neg (by omega), if_neg (by omega), if_neg (by omega), if_neg (by omega), if_neg (by omega), if_neg (by omega), if_neg (by omega), if_neg (by omega), if_neg (by omega), if_neg (by omega), if_neg (by omega), if_neg (by omega), if_neg (by omega), if_neg (by omega), if_neg (by omega), if_neg (by omega), if_neg (by omega)]
      exact q
    · obtain ⟨i, hi, rfl⟩ : ∃ i : Nat, i < 20 ∧ j = t + i := ⟨j - t, by omega, by omega⟩
      rw [u3 i hi, Nat.zero_add]
      have key : ∀ (v : Int32), v = bC (fdP p0 p1 p2 p3 p4 i) (fdS i) → -128 ≤ v.toInt ∧ v.toInt ≤ 127 ∧ ((0 ≤ v.toInt ∧ (bM (fdP p0 p1 p2 p3 p4 i) (fdS i)).toInt = v.toInt) ∨ (v.toInt < 0 ∧ (bM (fdP p0 p1 p2 p3 p4 i) (fdS i)).toInt = v.toInt + 256)) := fun v hv => by rw [hv]; exact byte_tr _ _
      refine key _ ?_
      simp only [upd]
      rcases (show i = 0 ∨ i = 1 ∨ i = 2 ∨ i = 3 ∨ i = 4 ∨ i = 5 ∨ i = 6 ∨ i = 7 ∨ i = 8 ∨ i = 9 ∨ i = 10 ∨ i = 11 ∨ i = 12 ∨ i = 13 ∨ i = 14 ∨ i = 15 ∨ i = 16 ∨ i = 17 ∨ i = 18 ∨ i = 19 by omega) with rfl | rfl | rfl | rfl | rfl | rfl | rfl | rfl | rfl | rfl | rfl | rfl | rfl | rfl | rfl | rfl | rfl | rfl | rfl | rfl <;> (repeat (first | rw [if_pos (by omega)] | rw [if_neg (by omega)])) <;> rfl
end FD
theorem fd_join {T U T2 U2 : Nat → Int32} {t u6 u7 : Nat} {p0 p1 p2 p3 p4 a6 a7 th : Int32} (hT : TR T U t) (ht : t ≤ 900) (h6 : PX6_feed (nI t) T p0 p1 p2 p3 p4 = (Int32.ofNat u6, a6, T2)) (h7 : PX7_feed U (nI t) p0 p1 p2 p3 p4 = (Int32.ofNat u7, th, a7, U2)) : Int32.ofNat u6 = Int32.ofNat u7 ∧ ∃ t2 : Nat, t2 ≤ 900 ∧ a6 = nI t2 ∧ a7 = nI t2 ∧ TR T2 U2 t2 := by
  by_cases h : t ≤ 880
  · obtain ⟨T3, U3, g1, g2, g3⟩ := feed_pure hT h p0 p1 p2 p3 p4
    rw [g1] at h6
    rw [g2] at h7
    injection h6 with x1 x2
    injection x2 with x2 x3
    injection h7 with y1 y2
    injection y2 with y2 y3
    injection y3 with y3 y4
    rw [← x1, ← y1, ← x3, ← y4]
    exact ⟨rfl, t + 20, by omega, x2.symm, y3.symm, g3⟩
  · have k880 : (880 : Int32).toInt = 880 := by decide
    rw [PX6_feed_eq, if_neg (show ¬ nI t ≤ (880 : Int32) by rw [fz_le, k880, nI_toInt (by omega)]; omega)] at h6
    rw [PX7_feed_eq] at h7
    dsimp only [lt_] at h7
    rw [show (20 : Int32) = nI 20 from rfl, nI_add, if_neg (show ¬ nI (t + 20) ≤ (900 : Int32) by rw [fz_le, kc_900, nI_toInt (by omega)]; omega)] at h7
    injection h6 with x1 x2
    injection x2 with x2 x3
    injection h7 with y1 y2
    injection y2 with y2 y3
    injection y3 with y3 y4
    rw [← x1, ← y1, ← x3, ← y4]
    exact ⟨rfl, t, ht, x2.symm, y3.symm, hT⟩
end
section
/-! stands: a part brought first, sent back; what acts leave behind, on both sides -/
section D1
def bfF (o : Nat → Int32) (k i q : Nat) : Int32 := if q = 4 * k then o (4 * k + i) else if 4 * k < q ∧ q ≤ 4 * k + i then o (q - 1) else o q
def sbF (o : Nat → Int32) (k i q : Nat) : Int32 := if q = 4 * k + i then o (4 * k) else if 4 * k ≤ q ∧ q < 4 * k + i then o (q + 1) else o q
theorem sb_bf (o : Nat → Int32) (k i : Nat) : sbF (bfF o k i) k i = o := by
  funext q
  unfold sbF bfF
  by_cases h1 : q = 4 * k + i
  · rw [if_pos h1, if_pos rfl, h1]
  · rw [if_neg h1]
    by_cases h2 : 4 * k ≤ q ∧ q < 4 * k + i
    · rw [if_pos h2, if_neg (by omega), if_pos (by omega), Nat.add_sub_cancel]
    · rw [if_neg h2, if_neg (by omega), if_neg (by omega)]
theorem nI_m4 {k : Nat} (hk : k < 1000) : nI k * (4 : Int32) = nI (4 * k) := (fz_eq _ _).mpr ((mul4 hk).trans (nI_toInt (by omega)).symm)
theorem nI_m4' {k : Nat} (hk : k < 1000) : (4 : Int32) * nI k = nI (4 * k) := (fz_eq _ _).mpr ((mul4' hk).trans (nI_toInt (by omega)).symm)
theorem nI_om1 (k : Nat) : nI (k + 1) + Int32.ofInt (-1) = nI k := by
  rw [← nI_pred k]
  show nI (k + 1) + Int32.ofInt (-1) = nI (k + 1) - 1
  rw [Int32.sub_eq_add_neg]
  congr 1
theorem bf_loop {k : Nat} (hk : k < 18) (m : Int32) (q : Nat) : ∀ (j f : Nat) (F : Nat → Int32), j ≤ 3 → j < f → HX5_bringFirst_0 (nI (4 * k)) m f (nI j) F q = if q = 4 * k then m else if 4 * k < q ∧ q ≤ 4 * k + j then F (q - 1) else F q := by
  intro j
  induction j with
  | zero =>
    intro f F hj hf
    obtain ⟨f, rfl⟩ : ∃ g, f = g + 1 := ⟨f - 1, by omega⟩
    rw [HX5_bringFirst_0_eq, if_pos (show nI 0 ≤ (0 : Int32) from by decide)]
    dsimp only [lt_]
    rw [nI_clamp (by omega)]
    by_cases h : q = 4 * k
    · rw [if_pos h, h, upd_at]
    · rw [upd_ne h, if_neg h, if_neg (by omega)]
  | succ j ih =>
    intro f F hj hf
    obtain ⟨f, rfl⟩ : ∃ g, f = g + 1 := ⟨f - 1, by omega⟩
    rw [HX5_bringFirst_0_eq, if_neg (nI_nle (by omega) (by omega))]
    dsimp only [lt_]
    rw [nI_add, show nI (4 * k + (j + 1)) - (1 : Int32) = nI (4 * k + j) from nI_pred (4 * k + j), nI_clamp (show 4 * k + (j + 1) < 2 ^ 31 by omega), nI_clamp (show 4 * k + j < 2 ^ 31 by omega), nI_om1, ih f _ (by omega) (by omega)]
    by_cases h1 : q = 4 * k
    · rw [if_pos h1, if_pos h1]
    · rw [if_neg h1, if_neg h1]
      by_cases h2 : 4 * k < q ∧ q ≤ 4 * k + j
      · rw [if_pos h2, if_pos (by omega), upd_ne (by omega)]
      · rw [if_neg h2]
        by_cases h3 : q = 4 * k + (j + 1)
        · rw [if_pos (by omega), h3, upd_at]
          rfl
        · rw [if_neg (by omega), upd_ne h3]
theorem bf_eq (o : Nat → Int32) {k i : Nat} (hk : k < 18) (hi : i ≤ 3) : PX5_bringFirst o (nI k) (nI i) = bfF o k i := by
  funext q
  rw [PX5_bringFirst_eq]
  dsimp only [lt_]
  rw [nI_m4 (by omega), nI_add, nI_clamp (by omega), bf_loop hk _ q i _ o hi (by rw [nI_toInt (by omega)]; omega)]
  rfl
theorem fr_loop {k : Nat} (hk : k < 18) (m : Int32) (q : Nat) : ∀ (j f : Nat) (F : Nat → Int32), j ≤ 3 → j < f → HX7_frontOf_0 (nI k) m f (nI j) F q = if q = 4 * k then m else if 4 * k < q ∧ q ≤ 4 * k + j then F (q - 1) else F q := by
  intro j
  induction j with
  | zero =>
    intro f F hj hf
    obtain ⟨f, rfl⟩ : ∃ g, f = g + 1 := ⟨f - 1, by omega⟩
    rw [HX7_frontOf_0_eq, if_pos (show nI 0 ≤ (0 : Int32) from by decide)]
    dsimp only [lt_]
    rw [nI_m4' (by omega), nI_clamp (by omega)]
    by_cases h : q = 4 * k
    · rw [if_pos h, h, upd_at]
    · rw [upd_ne h, if_neg h, if_neg (by omega)]
  | succ j ih =>
    intro f F hj hf
    obtain ⟨f, rfl⟩ : ∃ g, f = g + 1 := ⟨f - 1, by omega⟩
    rw [HX7_frontOf_0_eq, if_neg (nI_nle (by omega) (by omega))]
    dsimp only [lt_]
    rw [nI_m4' (by omega), nI_add, show nI (4 * k + (j + 1)) - (1 : Int32) = nI (4 * k + j) from nI_pred (4 * k + j), nI_clamp (show 4 * k + (j + 1) < 2 ^ 31 by omega), nI_clamp (show 4 * k + j < 2 ^ 31 by omega), nI_om1, ih f _ (by omega) (by omega)]
    by_cases h1 : q = 4 * k
    · rw [if_pos h1, if_pos h1]
    · rw [if_neg h1, if_neg h1]
      by_cases h2 : 4 * k < q ∧ q ≤ 4 * k + j
      · rw [if_pos h2, if_pos (by omega), upd_ne (by omega)]
      · rw [if_neg h2]
        by_cases h3 : q = 4 * k + (j + 1)
        · rw [if_pos (by omega), h3, upd_at]
          rfl
        · rw [if_neg (by omega), upd_ne h3]
theorem fr_eq (s : Nat → Int32) {k i : Nat} (hk : k < 18) (hi : i ≤ 3) : PX7_frontOf s (nI k) (nI i) = bfF s k i := by
  funext q
  rw [PX7_frontOf_eq]
  dsimp only [lt_]
  rw [nI_m4' (by omega), nI_add, nI_clamp (by omega), fr_loop hk _ q i _ s hi (by rw [nI_toInt (by omega)]; omega)]
  rfl
theorem sb_loop {k i : Nat} (hk : k < 18) (hi : i ≤ 3) (m : Int32) (q : Nat) : ∀ (r j f : Nat) (F : Nat → Int32), i - j = r → j ≤ i → r < f → HX5_sendBack_0 (nI i) (nI (4 * k)) m f (nI j) F q = if q = 4 * k + i then m else if 4 * k + j ≤ q ∧ q < 4 * k + i then F (q + 1) else F q := by
  intro r
  induction r with
  | zero =>
    intro j f F hr hj hf
    obtain ⟨f, rfl⟩ : ∃ g, f = g + 1 := ⟨f - 1, by omega⟩
    obtain rfl : j = i := by omega
    rw [HX5_sendBack_0_eq, if_pos (nI_le (Nat.le_refl _) (by omega))]
    dsimp only [lt_]
    rw [nI_add, nI_clamp (by omega)]
    by_cases h : q = 4 * k + j
    · rw [if_pos h, h, upd_at]
    · rw [upd_ne h, if_neg h, if_neg (by omega)]
  | succ r ih =>
    intro j f F hr hj hf
    obtain ⟨f, rfl⟩ : ∃ g, f = g + 1 := ⟨f - 1, by omega⟩
    rw [HX5_sendBack_0_eq, if_neg (nI_ge (by omega) (by omega))]
    dsimp only [lt_]
    rw [nI_add, nI_1, nI_clamp (show 4 * k + j < 2 ^ 31 by omega), nI_clamp (show 4 * k + j + 1 < 2 ^ 31 by omega), nI_o1, ih (j + 1) f _ (by omega) (by omega) (by omega)]
    by_cases h1 : q = 4 * k + i
    · rw [if_pos h1, if_pos h1]
    · rw [if_neg h1, if_neg h1]
      by_cases h2 : 4 * k + (j + 1) ≤ q ∧ q < 4 * k + i
      · rw [if_pos h2, if_pos (by omega), upd_ne (by omega)]
      · rw [if_neg h2]
        by_cases h3 : q = 4 * k + j
        · rw [if_pos (by omega), h3, upd_at]
        · rw [if_neg (by omega), upd_ne h3]
theorem sb_eq (o : Nat → Int32) {k i : Nat} (hk : k < 18) (hi : i ≤ 3) : PX5_sendBack o (nI k) (nI i) = sbF o k i := by
  funext q
  rw [PX5_sendBack_eq]
  dsimp only [lt_]
  rw [nI_m4 (by omega), nI_clamp (by omega), ← nI_0, sb_loop hk hi _ q i 0 _ o rfl (by omega) (by rw [nI_0, kc_0]; omega)]
  rfl
/-- where a place's part came from when the i-th was brought first -/
def sgF (i j : Nat) : Nat := if j = 0 then i else if j ≤ i then j - 1 else j
theorem bf_sg (f : Nat → Int32) (k i j : Nat) : bfF f k i (4 * k + j) = f (4 * k + sgF i j) := by
  unfold bfF sgF
  by_cases h0 : j = 0
  · rw [if_pos (by omega), if_pos h0]
  · rw [if_neg (by omega), if_neg h0]
    by_cases hi : j ≤ i
    · rw [if_pos (by omega), if_pos hi, show 4 * k + j - 1 = 4 * k + (j - 1) by omega]
    · rw [if_neg (by omega), if_neg hi]
theorem sg_lt {i j m : Nat} (hi : i < m) (hj : j < m) : sgF i j < m := by
  unfold sgF
  by_cases h0 : j = 0
  · rw [if_pos h0]; exact hi
  · rw [if_neg h0]
    by_cases h1 : j ≤ i
    · rw [if_pos h1]; omega
    · rw [if_neg h1]; exact hj
theorem sg_inj {i a b : Nat} (h : sgF i a = sgF i b) : a = b := by
  unfold sgF at h
  by_cases a0 : a = 0
  · rw [if_pos a0] at h
    by_cases b0 : b = 0
    · omega
    · rw [if_neg b0] at h
      by_cases bi : b ≤ i
      · rw [if_pos bi] at h; omega
      · rw [if_neg bi] at h; omega
  · rw [if_neg a0] at h
    by_cases ai : a ≤ i
    · rw [if_pos ai] at h
      by_cases b0 : b = 0
      · rw [if_pos b0] at h; omega
      · rw [if_neg b0] at h
        by_cases bi : b ≤ i
        · rw [if_pos bi] at h; omega
        · rw [if_neg bi] at h; omega
    · rw [if_neg ai] at h
      by_cases b0 : b = 0
      · rw [if_pos b0] at h; omega
      · rw [if_neg b0] at h
        by_cases bi : b ≤ i
        · rw [if_pos bi] at h; omega
        · rw [if_neg bi] at h; omega
/-- a stand: worths, and which part stands at each place, each once -/
def StR (N : Nat) (parts pn w o s : Nat → Int32) : Prop := ∀ k : Nat, k < N → w k = s (72 + k) ∧ (∀ i : Nat, (i : Int) < (parts k).toInt → 0 ≤ (o (4 * k + i)).toInt ∧ (o (4 * k + i)).toInt < (parts k).toInt ∧ pn (4 * k + (o (4 * k + i)).toInt.toNat) = s (4 * k + i)) ∧ ∀ i j : Nat, (i : Int) < (parts k).toInt → (j : Int) < (parts k).toInt → o (4 * k + i) = o (4 * k + j) → i = j
variable {N : Nat} {parts pn : Nat → Int32}
theorem StR.congr {w o s w' o' s' : Nat → Int32} (h : StR N parts pn w o s) (hN : N ≤ 18) (hp : ∀ k : Nat, k < N → (parts k).toInt ≤ 4) (hw : ∀ k : Nat, k < 18 → w' k = w k) (ho : ∀ q : Nat, q < 72 → o' q = o q) (hs : ∀ q : Nat, q < 90 → s' q = s q) : StR N parts pn w' o' s' := by
  intro k hk
  obtain ⟨h1, h2, h3⟩ := h k hk
  have hp' := hp k hk
  refine ⟨by rw [hw k (by omega), hs _ (by omega)]; exact h1, fun i hi => ?_, fun i j hi hj e => ?_⟩
  · rw [ho _ (by omega), hs _ (by omega)]
    exact h2 i hi
  · rw [ho _ (by omega), ho _ (by omega)] at e
    exact h3 i j hi hj e
theorem StR.front {w o s : Nat → Int32} (h : StR N parts pn w o s) (hN : N ≤ 18) (hp : ∀ k : Nat, k < N → (parts k).toInt ≤ 4) {k i : Nat} (hk : k < N) (hi : (i : Int) < (parts k).toInt) : StR N parts pn w (bfF o k i) (bfF s k i) := by
  intro k' hk'
  obtain ⟨h1, h2, h3⟩ := h k' hk'
  have q1 := hp k hk
  have q2 := hp k' hk'
  refine ⟨by rw [h1]; unfold bfF; rw [if_neg (by omega), if_neg (by omega)], ?_⟩
  by_cases hkk : k' = k
  · subst hkk
    have hlt : ∀ j : Nat, (j : Int) < (parts k').toInt → ((sgF i j : Nat) : Int) < (parts k').toInt := fun j hj => by
      have q := sg_lt (i := i) (j := j) (m := (parts k').toInt.toNat) (by omega) (by omega)
      omega
    refine ⟨fun j hj => ?_, fun a b ha hb e => ?_⟩
    · rw [bf_sg, bf_sg]
      exact h2 _ (hlt j hj)
    · rw [bf_sg, bf_sg] at e
      exact sg_inj (h3 _ _ (hlt a ha) (hlt b hb) e)
  · have e : ∀ (f : Nat → Int32) (j : Nat), (j : Int) < (parts k').toInt → bfF f k i (4 * k' + j) = f (4 * k' + j) := fun f j hj => by unfold bfF; rw [if_neg (by omega), if_neg (by omega)]
    refine ⟨fun j hj => ?_, fun a b ha hb q => ?_⟩
    · rw [e o j hj, e s j hj]
      exact h2 j hj
    · rw [e o a ha, e o b hb] at q
      exact h3 a b ha hb q
theorem StR.say {w o s : Nat → Int32} (h : StR N parts pn w o s) (hN : N ≤ 18) (hp : ∀ k : Nat, k < N → (parts k).toInt ≤ 4) {k : Nat} (hk : k < N) (v : Int32) : StR N parts pn (upd w k v) o (upd s (72 + k) v) := by
  intro k' hk'
  obtain ⟨h1, h2, h3⟩ := h k' hk'
  have q2 := hp k' hk'
  refine ⟨?_, fun i hi => by rw [upd_ne (show ¬ 4 * k' + i = 72 + k by omega)]; exact h2 i hi, h3⟩
  by_cases e : k' = k
  · rw [e, upd_at, upd_at]
  · rw [upd_ne e, upd_ne (by omega)]
    exact h1
/-- one act taken back -/
noncomputable def tbW (an ao as w : Nat → Int32) (j : Nat) : Nat → Int32 := if as j = 0 then w else upd w (an j).toNatClampNeg (ao j)
noncomputable def tbO (an ao as o : Nat → Int32) (j : Nat) : Nat → Int32 := if as j = 0 then PX5_sendBack o (an j) (ao j) else o
/-- the acts that can be undone: each step back is what the reference has kept -/
def UnR (N : Nat) (parts pn an ao as und : Nat → Int32) : Nat → (Nat → Int32) → (Nat → Int32) → Prop
  | 0, _, _ => True
  | j + 1, w, o => (as j = 0 ∨ as j = 1) ∧ StR N parts pn (tbW an ao as w j) (tbO an ao as o j) (fun q => und (90 * j + q)) ∧ UnR N parts pn an ao as und j (tbW an ao as w j) (tbO an ao as o j)
theorem UnR_s {an ao as und w o : Nat → Int32} {j : Nat} : UnR N parts pn an ao as und (j + 1) w o ↔ (as j = 0 ∨ as j = 1) ∧ StR N parts pn (tbW an ao as w j) (tbO an ao as o j) (fun q => und (90 * j + q)) ∧ UnR N parts pn an ao as und j (tbW an ao as w j) (tbO an ao as o j) := Iff.rfl
theorem UnR.congr (hN : N ≤ 18) (hp : ∀ k : Nat, k < N → (parts k).toInt ≤ 4) {an ao as und an' ao' as' und' : Nat → Int32} : ∀ (c : Nat) (w o : Nat → Int32), (∀ j : Nat, j < c → an' j = an j ∧ ao' j = ao j ∧ as' j = as j) → (∀ q : Nat, q < 90 * c → und' q = und q) → UnR N parts pn an ao as und c w o → UnR N parts pn an' ao' as' und' c w o := by
  intro c
  induction c with
  | zero => intro w o _ _ _; trivial
  | succ c ih =>
    intro w o h1 h2 h
    obtain ⟨a, b, d⟩ := UnR_s.mp h
    obtain ⟨e1, e2, e3⟩ := h1 c (by omega)
    have ew : tbW an' ao' as' w c = tbW an ao as w c := by unfold tbW; rw [e1, e2, e3]
    have eo : tbO an' ao' as' o c = tbO an ao as o c := by unfold tbO; rw [e1, e2, e3]
    refine UnR_s.mpr ⟨by rw [e3]; exact a, ?_, ?_⟩
    · rw [ew, eo]
      exact b.congr hN hp (fun _ _ => rfl) (fun _ _ => rfl) (fun q hq => h2 _ (by omega))
    · rw [ew, eo]
      exact ih _ _ (fun j hj => h1 j (by omega)) (fun q hq => h2 q (by omega)) d
theorem UnR.shift (hN : N ≤ 18) (hp : ∀ k : Nat, k < N → (parts k).toInt ≤ 4) {an ao as und : Nat → Int32} : ∀ (c : Nat) (w o : Nat → Int32), UnR N parts pn an ao as und (c + 1) w o → UnR N parts pn (fun q => an (q + 1)) (fun q => ao (q + 1)) (fun q => as (q + 1)) (fun q => und (q + 90)) c w o := by
  intro c
  induction c with
  | zero => intro w o _; trivial
  | succ c ih =>
    intro w o h
    obtain ⟨a, b, d⟩ := UnR_s.mp h
    refine UnR_s.mpr ⟨a, ?_, ih _ _ d⟩
    refine StR.congr b hN hp (fun _ _ => rfl) (fun _ _ => rfl) (fun q hq => ?_)
    show und (90 * c + q + 90) = und (90 * (c + 1) + q)
    rw [show 90 * c + q + 90 = 90 * (c + 1) + q by omega]
theorem UnR.bool {an ao as und : Nat → Int32} : ∀ (c : Nat) (w o : Nat → Int32), UnR N parts pn an ao as und c w o → ∀ j : Nat, j < c → as j = 0 ∨ as j = 1 := by
  intro c
  induction c with
  | zero => intro w o _ j hj; exact absurd hj (by omega)
  | succ c ih =>
    intro w o h j hj
    obtain ⟨a, b, d⟩ := UnR_s.mp h
    by_cases e : j = c
    · rw [e]; exact a
    · exact ih _ _ d j (by omega)
theorem nar01 {b : Int32} (hb : b = 0 ∨ b = 1) : vp_nar .boolean b = b := zb_nar (by rcases hb with rfl | rfl <;> decide)
theorem drop_loop : ∀ (r j f : Nat) (A O S : Nat → Int32), 16 - j = r → 1 ≤ j → j ≤ 16 → r < f → ∃ A' O' S' : Nat → Int32, HX0_dropOldest_0 f (nI j) O S A = (15, A', O', S') ∧ (∀ q : Nat, q < j - 1 → A' q = A q ∧ O' q = O q ∧ S' q = S q) ∧ ∀ q : Nat, j - 1 ≤ q → q < 15 → A' q = A (q + 1) ∧ O' q = O (q + 1) ∧ S' q = vp_nar .boolean (S (q + 1)) := by
  have k16 : (16 : Int32).toInt = 16 := by decide
  intro r
  induction r with
  | zero =>
    intro j f A O S hr h1 h2 hf
    obtain ⟨f, rfl⟩ : ∃ g, f = g + 1 := ⟨f - 1, by omega⟩
    refine ⟨A, O, S, ?_, fun q hq => ⟨rfl, rfl, rfl⟩, fun q q1 q2 => absurd q1 (by omega)⟩
    rw [HX0_dropOldest_0_eq, if_pos (show (16 : Int32) ≤ nI j by rw [fz_le, k16, nI_toInt (by omega)]; omega)]
  | succ r ih =>
    intro j f A O S hr h1 h2 hf
    obtain ⟨f, rfl⟩ : ∃ g, f = g + 1 := ⟨f - 1, by omega⟩
    obtain ⟨j, rfl⟩ : ∃ g, j = g + 1 := ⟨j - 1, by omega⟩
    rw [HX0_dropOldest_0_eq, if_neg (show ¬ (16 : Int32) ≤ nI (j + 1) by rw [fz_le, k16, nI_toInt (by omega)]; omega)]
    dsimp only [lt_]
    rw [nI_pred, nI_clamp (show j + 1 < 2 ^ 31 by omega), nI_clamp (show j < 2 ^ 31 by omega), nI_o1]
    obtain ⟨A', O', S', e, g1, g2⟩ := ih (j + 1 + 1) f (upd A j (A (j + 1))) (upd O j (O (j + 1))) (upd S j (vp_nar .boolean (S (j + 1)))) (by omega) (by omega) (by omega) (by omega)
    refine ⟨A', O', S', e, fun q hq => ?_, fun q q1 q2 => ?_⟩
    · obtain ⟨a, b, c⟩ := g1 q (by omega)
      rw [a, b, c, upd_ne (by omega), upd_ne (by omega), upd_ne (by omega)]
      exact ⟨rfl, rfl, rfl⟩
    · by_cases h : q = j
      · obtain ⟨a, b, c⟩ := g1 q (by omega)
        rw [a, b, c, h, upd_at, upd_at, upd_at]
        exact ⟨rfl, rfl, rfl⟩
      · obtain ⟨a, b, c⟩ := g2 q (by omega) q2
        rw [a, b, c, upd_ne (by omega), upd_ne (by omega), upd_ne (by omega)]
        exact ⟨rfl, rfl, rfl⟩
theorem keep_eq {c : Nat} (hc : c ≤ 16) (an ao as : Nat → Int32) (p0 p1 b : Int32) (hb : b = 0 ∨ b = 1) : ∃ (d : Nat) (an' ao' as' : Nat → Int32), PX0_keep (nI c) an ao as p0 p1 b = (nI (d + 1), upd an' d p0, upd ao' d p1, upd as' d b) ∧ ((c < 16 ∧ d = c ∧ an' = an ∧ ao' = ao ∧ as' = as) ∨ (c = 16 ∧ d = 15 ∧ ∀ q : Nat, q < 15 → an' q = an (q + 1) ∧ ao' q = ao (q + 1) ∧ as' q = vp_nar .boolean (as (q + 1)))) := by
  have k16 : (16 : Int32).toInt = 16 := by decide
  rw [PX0_keep_eq, nar01 hb]
  by_cases h : c = 16
  · subst h
    obtain ⟨A', O', S', e, g1, g2⟩ := drop_loop 15 1 (((16 - (1 : Int32).toInt).toNat) + 1) an ao as rfl (by omega) (by omega) (by rw [kc_1]; omega)
    refine ⟨15, A', O', S', ?_, Or.inr ⟨rfl, rfl, fun q hq => g2 q (by omega) hq⟩⟩
    rw [show nI 1 = (1 : Int32) from rfl] at e
    rw [if_pos (show nI 16 = (16 : Int32) from rfl), PX0_dropOldest_eq, un4_eq e]
    dsimp only [lt_]
    rfl
  · refine ⟨c, an, ao, as, ?_, Or.inl ⟨by omega, rfl, rfl, rfl, rfl⟩⟩
    rw [if_neg (show ¬ nI c = (16 : Int32) by rw [fz_eq, k16, nI_toInt (by omega)]; omega)]
    dsimp only [lt_]
    rw [nI_clamp (by omega), nI_1]
theorem nI_m90 {k : Nat} (hk : k < 1000) : (90 : Int32) * nI k = nI (90 * k) := (fz_eq _ _).mpr (by
  rw [fb_mulI (by rw [kc_90, nI_toInt (by omega)]; omega) (by rw [kc_90, nI_toInt (by omega)]; omega), kc_90, nI_toInt (by omega), nI_toInt (by omega)]
  omega)
theorem ninety_cl : (90 : Int32).toNatClampNeg = 90 := by decide
theorem note_loop (s : Nat → Int32) : ∀ (r j f : Nat) (F : Nat → Int32), 1350 - j = r → j ≤ 1350 → r < f → ∃ G : Nat → Int32, HX7_note_0 s (nI 16) f (nI j) F = (nI 16, cpF s G 0 1350 90) ∧ (∀ q : Nat, q < j → G q = F q) ∧ ∀ q : Nat, j ≤ q → q < 1350 → G q = F (q + 90) := by
  intro r
  induction r with
  | zero =>
    intro j f F hr h2 hf
    obtain ⟨f, rfl⟩ : ∃ g, f = g + 1 := ⟨f - 1, by omega⟩
    refine ⟨F, ?_, fun q hq => rfl, fun q q1 q2 => absurd q1 (by omega)⟩
    rw [HX7_note_0_eq, if_pos (show (1350 : Int32) ≤ nI j by rw [fz_le, kc_1350, nI_toInt (by omega)]; omega)]
    rfl
  | succ r ih =>
    intro j f F hr h2 hf
    obtain ⟨f, rfl⟩ : ∃ g, f = g + 1 := ⟨f - 1, by omega⟩
    rw [HX7_note_0_eq, if_neg (show ¬ (1350 : Int32) ≤ nI j by rw [fz_le, kc_1350, nI_toInt (by omega)]; omega)]
    dsimp only [lt_]
    rw [show nI j + (90 : Int32) = nI (j + 90) from nI_add j 90, nI_clamp (show j + 90 < 2 ^ 31 by omega), nI_clamp (show j < 2 ^ 31 by omega), nI_o1]
    obtain ⟨G, e, g1, g2⟩ := ih (j + 1) f (upd F j (F (j + 90))) (by omega) (by omega) (by omega)
    refine ⟨G, e, fun q hq => ?_, fun q q1 q2 => ?_⟩
    · rw [g1 q (by omega), upd_ne (by omega)]
    · by_cases h : q = j
      · rw [g1 q (by omega), h, upd_at]
      · rw [g2 q (by omega) q2, upd_ne (by omega)]
theorem note_eq {c : Nat} (hc : c ≤ 16) (s und : Nat → Int32) : ∃ (d : Nat) (und' : Nat → Int32), PX7_note s und (nI c) = (nI (d + 1), cpF s und' 0 (90 * d) 90) ∧ ((c < 16 ∧ d = c ∧ und' = und) ∨ (c = 16 ∧ d = 15 ∧ ∀ q : Nat, q < 1350 → und' q = und (q + 90))) := by
  have k16 : (16 : Int32).toInt = 16 := by decide
  rw [PX7_note_eq]
  by_cases h : c = 16
  · subst h
    obtain ⟨G, e, g1, g2⟩ := note_loop s 1350 0 (((1350 - (0 : Int32).toInt).toNat) + 1) und rfl (by omega) (by rw [kc_0]; omega)
    refine ⟨15, G, ?_, Or.inr ⟨rfl, rfl, fun q hq => g2 q (by omega) hq⟩⟩
    rw [nI_0] at e
    rw [if_pos (show nI 16 = (16 : Int32) from rfl), e]
  · refine ⟨c, und, ?_, Or.inl ⟨by omega, rfl, rfl⟩⟩
    rw [if_neg (show ¬ nI c = (16 : Int32) by rw [fz_eq, k16, nI_toInt (by omega)]; omega)]
    dsimp only [lt_]
    rw [nI_m90 (by omega), nI_clamp (by omega), nI_1, zero_cl, ninety_cl]
theorem act_sim (hN : N ≤ 18) (hp : ∀ k : Nat, k < N → (parts k).toInt ≤ 4) {an ao as und w o s : Nat → Int32} {c : Nat} (hc : c ≤ 16) (hU : UnR N parts pn an ao as und c w o) (hS : StR N parts pn w o s) {w2 o2 : Nat → Int32} {p0 p1 b : Int32} (hb : b = 0 ∨ b = 1) (e1 : (if b = 0 then w2 else upd w2 p0.toNatClampNeg p1) = w) (e2 : (if b = 0 then PX5_sendBack o2 p0 p1 else o2) = o) : ∃ (d : Nat) (an' ao' as' und' : Nat → Int32), d + 1 ≤ 16 ∧ PX0_keep (nI c) an ao as p0 p1 b = (nI (d + 1), an', ao', as') ∧ PX7_note s und (nI c) = (nI (d + 1), und') ∧ UnR N parts pn an' ao' as' und' (d + 1) w2 o2 := by
  obtain ⟨d, A, O, S, hk, hk2⟩ := keep_eq hc an ao as p0 p1 b hb
  obtain ⟨d', V, hn, hn2⟩ := note_eq hc s und
  obtain rfl : d' = d := by omega
  refine ⟨d', _, _, _, _, by omega, hk, hn, UnR_s.mpr ?_⟩
  have ew : tbW (upd A d' p0) (upd O d' p1) (upd S d' b) w2 d' = w := by unfold tbW; rw [upd_at, upd_at, upd_at]; exact e1
  have eo : tbO (upd A d' p0) (upd O d' p1) (upd S d' b) o2 d' = o := by unfold tbO; rw [upd_at, upd_at, upd_at]; exact e2
  rw [ew, eo, upd_at]
  refine ⟨hb, hS.congr hN hp (fun _ _ => rfl) (fun _ _ => rfl) (fun q hq => ?_), ?_⟩
  · show cpF s V 0 (90 * d') 90 (90 * d' + q) = s q
    unfold cpF
    rw [if_pos (by omega), show 0 + (90 * d' + q - 90 * d') = q by omega]
  · have hcp : ∀ q : Nat, q < 90 * d' → cpF s V 0 (90 * d') 90 q = V q := fun q hq => by unfold cpF; rw [if_neg (by omega)]
    rcases hk2 with ⟨h1, h2, h3, h4, h5⟩ | ⟨h1, h2, h3⟩
    · rcases hn2 with ⟨-, -, n3⟩ | ⟨n1, -, -⟩
      · subst h3 h4 h5 n3
        subst h2
        exact UnR.congr hN hp _ _ _ (fun j hj => ⟨upd_ne (by omega), upd_ne (by omega), upd_ne (by omega)⟩) hcp hU
      · exact absurd n1 (by omega)
    · rcases hn2 with ⟨n1, -, -⟩ | ⟨-, -, n3⟩
      · exact absurd n1 (by omega)
      · subst h1
        have hbo := UnR.bool _ _ _ hU
        have hU := UnR.shift hN hp 15 _ _ hU
        subst h2
        refine UnR.congr hN hp _ _ _ (fun j hj => ?_) (fun q hq => ?_) hU
        · obtain ⟨a1, a2, a3⟩ := h3 j hj
          rw [upd_ne (by omega), upd_ne (by omega), upd_ne (by omega), a1, a2, a3, nar01 (hbo (j + 1) (by omega))]
          exact ⟨rfl, rfl, rfl⟩
        · rw [hcp q hq]
          exact n3 q (by omega)
end D1
end
