/-! the whole text on both sides -/
section CT
variable {T U : Nat → Int32} {n : Nat} {keys : Nat → Int64}
theorem TS.k0 {lo : Nat} {kd fr to : Int32} {x : Int64} {key wh at7 en tk w2 ns : Int32} {L : Nat → Int32} (h : TS keys n lo kd fr to x key wh at7 en tk w2 ns L) : (kd = 0 ∧ tk = 0) ∨ (¬ kd = 0 ∧ ¬ tk = 0) := by
  obtain ⟨a, b, -, -, -, -, -, -, h⟩ := h
  rcases h with ⟨p, q, -⟩ | ⟨p, q, -⟩ | ⟨p, q, -⟩ | ⟨p, q, -⟩ | ⟨p, q, -⟩ | ⟨p, q, -⟩
  · exact Or.inl ⟨p, q⟩
  · exact Or.inr ⟨by rw [p]; decide, by rw [q]; decide⟩
  · exact Or.inr ⟨by rw [p]; decide, by rw [q]; decide⟩
  · exact Or.inr ⟨by rw [p]; decide, by rw [q]; decide⟩
  · exact Or.inr ⟨by rw [p]; decide, by rw [q]; decide⟩
  · exact Or.inr ⟨by rw [p]; decide, by rw [q]; decide⟩
theorem TS.k3 {lo : Nat} {kd fr to : Int32} {x : Int64} {key wh at7 en tk w2 ns : Int32} {L : Nat → Int32} (h : TS keys n lo kd fr to x key wh at7 en tk w2 ns L) : (kd = 3 ∧ tk = 59) ∨ (¬ kd = 3 ∧ ¬ tk = 59) := by
  obtain ⟨a, b, -, -, -, -, -, -, h⟩ := h
  rcases h with ⟨p, q, -⟩ | ⟨p, q, -⟩ | ⟨p, q, -⟩ | ⟨p, q, -⟩ | ⟨p, q, -⟩ | ⟨p, q, -⟩
  · exact Or.inr ⟨by rw [p]; decide, by rw [q]; decide⟩
  · exact Or.inr ⟨by rw [p]; decide, by rw [q]; decide⟩
  · exact Or.inr ⟨by rw [p]; decide, by rw [q]; decide⟩
  · exact Or.inr ⟨by rw [p]; decide, by rw [q]; decide⟩
  · exact Or.inl ⟨p, q⟩
  · exact Or.inr ⟨by rw [p]; decide, by rw [q]; decide⟩
/-- what both sides make of a text: read, with the same number of nodes; or a fault, the same at the same place -/
def EndOk (c : Int32 × Int32 × Int32 × Int32 × Int32 × Int32 × Int32 × Int32 × Int64 × Int32 × Int32 × Int32 × (Nat → Int64) × Int32 × Int32 × Int32 × Int32 × Int32 × Int32 × Int32 × Int32 × (Nat → Int32) × (Nat → Int32) × (Nat → Int32) × (Nat → Int32) × (Nat → Int32) × (Nat → Int32) × (Nat → Int32) × (Nat → Int32) × (Nat → Int32) × (Nat → Int32) × (Nat → Int32)) (m : Int32 × Int32 × Int32 × Int32 × Int32 × Int32 × Int32 × Int32 × Int32 × Int32 × Int32 × Int32 × Int32 × Int32 × Int32 × Int32 × Int32 × Int32 × (Nat → Int32) × (Nat → Int32) × (Nat → Int32) × (Nat → Int32) × (Nat → Int32) × (Nat → Int32) × (Nat → Int32)) (fn fa tr : Int32) : Prop :=
  (c.1 = 1 ∧ c.2.1 = fn ∧ m.1 = c.2.2.2.2.2.2.2.2.2.2.2.2.2.1 ∧ m.2.2.2.2.2.2.2.2.2.1 = fa ∧ m.2.2.2.2.2.2.2.2.2.2.2.1 = tr ∧ c.2.2.2.1 = 0 ∧ m.2.2.1 = 0) ∨ (c.1 = 0 ∧ m.1 = -1 ∧ m.2.2.2.2.2.2.2.2.2.1 = c.2.1 ∧ m.2.2.2.2.2.2.2.2.2.2.1 = c.2.2.1 ∧ m.2.2.2.2.2.2.2.2.2.2.2.1 = 4 ∧ c.2.2.2.1 = 0 ∧ m.2.2.1 = 0)
theorem no_eq (q : Int32) : PX7_no q = (-1, q) := PX7_no_eq q
/- made by pgen4 -/
theorem LineBad.ex {c : Int32 × Int32 × Int32 × Int32 × Int32 × Int32 × Int64 × Int32 × Int32 × Int32 × (Nat → Int64) × Int32 × Int32 × Int32 × Int32 × Int32 × Int32 × Int32 × Int32 × (Nat → Int32) × (Nat → Int32) × (Nat → Int32) × (Nat → Int32) × (Nat → Int32) × (Nat → Int32) × (Nat → Int32) × (Nat → Int32) × (Nat → Int32) × (Nat → Int32) × (Nat → Int32)} {m : Int32 × Int32 × Int32 × Int32 × Int32 × Int32 × Int32 × Int32 × Int32 × (Nat → Int32) × (Nat → Int32) × (Nat → Int32) × (Nat → Int32)} (h : LineBad c m) : ∃ (c1 c2 : Int32) (c3 : Int32) (c4 : Int32) (c5 : Int32) (c6 : Int64) (c7 : Int32) (c8 : Int32) (c9 : Int32) (c10 : Nat → Int64) (c11 : Int32) (c12 : Int32) (c13 : Int32) (c14 : Int32) (c15 : Int32) (c16 : Int32) (c17 : Int32) (c18 : Int32) (c19 : Nat → Int32) (c20 : Nat → Int32) (c21 : Nat → Int32) (c22 : Nat → Int32) (c23 : Nat → Int32) (c24 : Nat → Int32) (c25 : Nat → Int32) (c26 : Nat → Int32) (c27 : Nat → Int32) (c28 : Nat → Int32) (c29 : Nat → Int32) (m0 : Int32) (m1 : Int32) (m2 : Int32) (m3 : Int32) (m4 : Int32) (m8 : Int32) (m9 : Nat → Int32) (m10 : Nat → Int32) (m11 : Nat → Int32) (m12 : Nat → Int32), c = (0, c1, c2, c3, c4, c5, c6, c7, c8, c9, c10, c11, c12, c13, c14, c15, c16, c17, c18, c19, c20, c21, c22, c23, c24, c25, c26, c27, c28, c29) ∧ m = (m0, m1, m2, m3, m4, c1, c2, 1, m8, m9, m10, m11, m12) := by
  obtain ⟨c0, c1, c2, c3, c4, c5, c6, c7, c8, c9, c10, c11, c12, c13, c14, c15, c16, c17, c18, c19, c20, c21, c22, c23, c24, c25, c26, c27, c28, c29⟩ := c
  obtain ⟨m0, m1, m2, m3, m4, m5, m6, m7, m8, m9, m10, m11, m12⟩ := m
  obtain ⟨h1, h2, h3, h4⟩ := h
  obtain rfl : c0 = 0 := h1
  obtain rfl : m7 = 1 := h2
  obtain rfl : c1 = m5 := h3
  obtain rfl : c2 = m6 := h4
  exact ⟨c1, c2, c3, c4, c5, c6, c7, c8, c9, c10, c11, c12, c13, c14, c15, c16, c17, c18, c19, c20, c21, c22, c23, c24, c25, c26, c27, c28, c29, m0, m1, m2, m3, m4, m8, m9, m10, m11, m12, rfl, rfl⟩
theorem rd_bad {fn fp : Int32} {f i : Nat} (kd fr to : Int32) (x : Int64) (key wh told nodes words chances unsures slips throne said unit : Int32) (names : Nat → Int64) (kind parts pn wt ws tw steps below above uw uo : Nat → Int32) : (HX3_reads_0 T keys (nI n) (f + 1) (nI i) 0 fn fp kd fr to x key wh told nodes words chances unsures slips throne said unit names kind parts pn wt ws tw steps below above uw uo).1 = 0 ∧ (HX3_reads_0 T keys (nI n) (f + 1) (nI i) 0 fn fp kd fr to x key wh told nodes words chances unsures slips throne said unit names kind parts pn wt ws tw steps below above uw uo).2.1 = fn ∧ (HX3_reads_0 T keys (nI n) (f + 1) (nI i) 0 fn fp kd fr to x key wh told nodes words chances unsures slips throne said unit names kind parts pn wt ws tw steps below above uw uo).2.2.1 = fp ∧ (HX3_reads_0 T keys (nI n) (f + 1) (nI i) 0 fn fp kd fr to x key wh told nodes words chances unsures slips throne said unit names kind parts pn wt ws tw steps below above uw uo).2.2.2.1 = 0 := by
  rw [HX3_reads_0_eq]
  by_cases h : (900 : Int32) ≤ nI i
  · rw [if_pos h, if_pos rfl]; exact ⟨rfl, rfl, rfl, rfl⟩
  · rw [if_neg h, if_pos rfl, if_pos rfl]; exact ⟨rfl, rfl, rfl, rfl⟩
theorem ct_bad {hc und img sc x1 x2 fa pl : Int32} {r9 t9 s9 : Nat → Int32} {f : Nat} (at7 en tk w2 ns fs : Int32) (L fsh rd fsr : Nat → Int32) : ∃ (y1 y3 y4 y5 y6 y7 y8 y9 z1 z2 z3 z4 z5 : Int32) (Y1 Y2 Y3 Y4 Y5 Y6 Y7 : Nat → Int32), HX7_court_2 U hc r9 t9 s9 und img sc (nI n) x1 x2 (f + 1) at7 en tk w2 ns fa pl 1 fs L fsh rd fsr = (-1, y1, 0, y3, y4, y5, y6, y7, y8, fa, pl, 4, y9, z1, z2, z3, z4, z5, Y1, Y2, Y3, Y4, Y5, Y6, Y7) := by
  rw [HX7_court_2_eq, if_neg (show ¬ (1 : Int32) = 0 by decide), if_neg (show ¬ (1 : Int32) = 0 by decide), if_neg (show ¬ (1 : Int32) = 0 by decide), if_neg (show ¬ (1 : Int32) = 0 by decide), no_eq, un2_eq rfl]
  exact ⟨_, _, _, _, _, _, _, _, _, _, _, _, _, _, _, _, _, _, _, _, rfl⟩
theorem reads_end {hc und img sc x1 x2 fn fa pl fp : Int32} {r9 t9 s9 : Nat → Int32} {lo i f1 f2 : Nat} {kd fr to : Int32} {x : Int64} {key wh told nodes words chances unsures slips throne said unit : Int32} {names : Nat → Int64} {kind parts pn wt ws tw steps below above uw uo : Nat → Int32} {at7 en tk w2 ns fs : Int32} {L fsh rd fsr : Nat → Int32} (hf1 : 1 ≤ f1) (hf2 : 1 ≤ f2) (k1 : ¬ kd = 3) (k2 : ¬ tk = 59) (hTS : TS keys n lo kd fr to x key wh at7 en tk w2 ns L) (hSR : SR names told nodes words chances unsures slips throne said kind parts pn wt tw uw uo fsh rd) (ht : ¬ told = 0) : EndOk (HX3_reads_0 T keys (nI n) f1 (nI i) 1 fn fp kd fr to x key wh told nodes words chances unsures slips throne said unit names kind parts pn wt ws tw steps below above uw uo) (HX7_court_2 U hc r9 t9 s9 und img sc (nI n) x1 x2 f2 at7 en tk w2 ns fa pl 0 fs L fsh rd fsr) fn fa x2 := by
  obtain ⟨f1, rfl⟩ : ∃ g, f1 = g + 1 := ⟨f1 - 1, by omega⟩
  obtain ⟨f2, rfl⟩ : ∃ g, f2 = g + 1 := ⟨f2 - 1, by omega⟩
  have hfr := hTS.frq
  obtain ⟨N, W, C, Q, hH, -, -, -⟩ := hSR
  have hN18 := hH.N18
  obtain ⟨a1, a2, a3, a4, a5, a6, a7, a8, a9, b1, b2, b3, b4, b5, b6, b7, b8, b9, c1, c2, c3, c4, c5, c6⟩ := id hH
  have hcl : HX3_reads_0 T keys (nI n) (f1 + 1) (nI i) 1 fn fp kd fr to x key wh told nodes words chances unsures slips throne said unit names kind parts pn wt ws tw steps below above uw uo = un4_ (PX3_readEnd fn fp kd fr nodes words throne) (fun r q z t => if r = 0 then (0, q, z, 0, nI n, kd, fr, to, x, key, wh, told, names, nodes, words, chances, unsures, slips, t, said, unit, kind, parts, pn, wt, ws, tw, steps, below, above, uw, uo) else (1, q, z, 0, nI n, kd, fr, to, x, key, wh, told, names, nodes, words, chances, unsures, slips, t, said, unit, kind, parts, pn, wt, ws, tw, steps, below, above, uw, uo)) := by
    rw [HX3_reads_0_eq]
    by_cases h : (900 : Int32) ≤ nI i
    · rw [if_pos h, if_neg (show ¬ (1 : Int32) = 0 by decide)]
    · rw [if_neg h, if_neg (show ¬ (1 : Int32) = 0 by decide), if_neg k1, if_neg (show ¬ (1 : Int32) = 0 by decide)]
  rw [hcl, HX7_court_2_eq, if_pos rfl, if_neg k2, if_pos rfl, PX3_readEnd_eq]
  dsimp only [lt_]
  rcases hTS.k0 with ⟨e1, e2⟩ | ⟨e1, e2⟩
  · rw [if_pos e1, if_pos e2, if_pos rfl, five_cl, b7, if_neg ht, two_cl, b2, a2]
    by_cases hW : W = 0
    · have hW0 : nI W = 0 := by rw [hW]; rfl
      rw [if_pos hW0, fl0, un3_eq rfl, un4_eq rfl, if_pos rfl, if_pos hW0, wr0, un3_eq rfl, if_neg (show ¬ (1 : Int32) = 0 by decide), no_eq, un2_eq rfl]
      exact Or.inr ⟨rfl, rfl, rfl, hfr.symm, rfl, rfl, rfl⟩
    · have hW0 : ¬ nI W = 0 := nI_ne0 (by omega) (by omega)
      rw [if_neg hW0, if_neg hW0, if_pos rfl, six_cl, b9, one_cl]
      have cp1 : ∀ (f g : Nat → Int32), cpF f g (0 : Int32).toNatClampNeg (0 : Int32).toNatClampNeg (287 : Int32).toNatClampNeg 1 = f 1 := fun f g => rfl
      by_cases hth : (0 : Int32) ≤ throne
      · rw [if_pos hth, un4_eq rfl, if_neg (show ¬ (1 : Int32) = 0 by decide), if_pos hth, cp1, b1, a1]
        exact Or.inl ⟨rfl, rfl, rfl, rfl, rfl, rfl, rfl⟩
      · rw [if_neg hth, un4_eq rfl, if_neg (show ¬ (1 : Int32) = 0 by decide), if_neg hth, cp1, upd_ne (by decide), b1, a1]
        exact Or.inl ⟨rfl, rfl, rfl, rfl, rfl, rfl, rfl⟩
  · rw [if_neg e1, fl0, un3_eq rfl, un4_eq rfl, if_pos rfl, if_neg e2, wr0, un3_eq rfl, if_neg (show ¬ (1 : Int32) = 0 by decide), if_neg (show ¬ (1 : Int32) = 0 by decide), no_eq, un2_eq rfl]
    exact Or.inr ⟨rfl, rfl, rfl, hfr.symm, rfl, rfl, rfl⟩
/- end of pgen4 -/
theorem reads_loop (hK : KwOk keys) (hT : TR T U n) (hn : n ≤ 900) {hc und img sc x1 x2 fn fa pl : Int32} {fp : Int32} {r9 t9 s9 : Nat → Int32} : ∀ (r lo i f1 f2 : Nat) (kd fr to : Int32) (x : Int64) (key wh told nodes words chances unsures slips throne said unit : Int32) (names : Nat → Int64) (kind parts pn wt ws tw steps below above uw uo : Nat → Int32) (at7 en tk w2 ns fs : Int32) (L fsh rd fsr : Nat → Int32), n - lo = r → lo ≤ n → i ≤ lo → n - lo + 2 ≤ f1 → 1 ≤ f2 → (tk = 59 → 902 - lo ≤ f2) → TS keys n lo kd fr to x key wh at7 en tk w2 ns L → SR names told nodes words chances unsures slips throne said kind parts pn wt tw uw uo fsh rd → ¬ told = 0 → EndOk (HX3_reads_0 T keys (nI n) f1 (nI i) 1 fn fp kd fr to x key wh told nodes words chances unsures slips throne said unit names kind parts pn wt ws tw steps below above uw uo) (HX7_court_2 U hc r9 t9 s9 und img sc (nI n) x1 x2 f2 at7 en tk w2 ns fa pl 0 fs L fsh rd fsr) fn fa x2 := by
  intro r
  induction r with
  | zero =>
    intro lo i f1 f2 kd fr to x key wh told nodes words chances unsures slips throne said unit names kind parts pn wt ws tw steps below above uw uo at7 en tk w2 ns fs L fsh rd fsr hr hlo hi hf1 hf2 hf3 hTS hSR ht
    rcases hTS.k3 with ⟨k1, k2⟩ | ⟨k1, k2⟩
    · exact absurd (hTS.semi k1 hT hn 0 0 L).1 (by omega)
    · exact reads_end (by omega) hf2 k1 k2 hTS hSR ht
  | succ r ih =>
    intro lo i f1 f2 kd fr to x key wh told nodes words chances unsures slips throne said unit names kind parts pn wt ws tw steps below above uw uo at7 en tk w2 ns fs L fsh rd fsr hr hlo hi hf1 hf2 hf3 hTS hSR ht
    rcases hTS.k3 with ⟨k1, k2⟩ | ⟨k1, k2⟩
    · obtain ⟨hln, kd1, fr1, to1, y1, key1, wh1, at1, en1, tk1, w1, ns1, L1, g1, g2, g3, -⟩ := hTS.semi k1 hT hn x wh L
      obtain ⟨f1, rfl⟩ : ∃ g, f1 = g + 1 := ⟨f1 - 1, by omega⟩
      have hf3 := hf3 k2
      obtain ⟨f2, rfl⟩ : ∃ g, f2 = g + 1 := ⟨f2 - 1, by omega⟩
      rw [HX3_reads_0_eq, if_neg (show ¬ (900 : Int32) ≤ nI i by rw [fz_le, kc_900, nI_toInt (by omega)]; omega), if_neg (show ¬ (1 : Int32) = 0 by decide), if_pos k1, un6_eq g1, HX7_court_2_eq, if_pos rfl, if_pos k2, un6_eq g2]
      rcases line_sim hK g3 hT hn hSR fn fp fa pl unit fs ws steps below above fsr with hok | hbad
      · obtain ⟨kd2, fr2, to2, y2, key2, wh2, told2, names2, nodes2, words2, ch2, un2, sl2, th2, sd2, u2, q1, q2, q3, q4, q5, q6, q7, q8, q9, p1, p2, at2, en2, tk2, w3, ns2, fs2, L2, F2, R2, S2, e1, e2, e3, e4, e5⟩ := hok
        rw [un30_eq e1, un13_eq e2]
        dsimp only [lt_]
        rw [nI_o1]
        exact ih (lo + 1) (i + 1) f1 f2 _ _ _ _ _ _ _ _ _ _ _ _ _ _ _ _ _ _ _ _ _ _ _ _ _ _ _ _ _ _ _ _ _ _ _ _ _ (by omega) (by omega) (by omega) (by omega) (by omega) (fun _ => by omega) e3 e4 e5
      · obtain ⟨c1, c2, c3, c4, c5, c6, c7, c8, c9, c10, c11, c12, c13, c14, c15, c16, c17, c18, c19, c20, c21, c22, c23, c24, c25, c26, c27, c28, c29, m0, m1, m2, m3, m4, m8, m9, m10, m11, m12, e1, e2⟩ := hbad.ex
        obtain ⟨f1, rfl⟩ : ∃ g, f1 = g + 1 := ⟨f1 - 1, by omega⟩
        obtain ⟨f2, rfl⟩ : ∃ g, f2 = g + 1 := ⟨f2 - 1, by omega⟩
        rw [un30_eq e1, un13_eq e2]
        dsimp only [lt_]
        rw [nI_o1]
        obtain ⟨y1, y3, y4, y5, y6, y7, y8, y9, z1, z2, z3, z4, z5, Y1, Y2, Y3, Y4, Y5, Y6, Y7, hY⟩ := ct_bad (U := U) (n := n) (hc := hc) (und := und) (img := img) (sc := sc) (x1 := x1) (x2 := x2) (fa := c1) (pl := c2) (r9 := r9) (t9 := t9) (s9 := s9) (f := f2) m0 m1 m2 m3 m4 m8 m9 m10 m11 m12
        obtain ⟨v1, v2, v3, v4⟩ := rd_bad (T := T) (keys := keys) (n := n) (fn := c1) (fp := c2) (f := f1) (i := i + 1) c3 c4 c5 c6 c7 c8 c9 c11 c12 c13 c14 c15 c16 c17 c18 c10 c19 c20 c21 c22 c23 c24 c25 c26 c27 c28 c29
        rw [hY]
        exact Or.inr ⟨v1, rfl, v2.symm, v3.symm, rfl, v4, rfl⟩
    · exact reads_end (by omega) hf2 k1 k2 hTS hSR ht
end CT
