/-! a court's text and what stands behind it -/
section D3
theorem KR.rd {N : Nat} {kind parts pn wt tw f rd g : Nat → Int32} (h : KR N kind parts pn wt tw f rd) (hN : N ≤ 18) (e : ∀ j : Nat, j < 90 → g j = rd j) : KR N kind parts pn wt tw f g := by
  refine ⟨fun k hk => ?_, fun k h1 h2 => by rw [e _ (by omega)]; exact h.2 k h1 h2⟩
  obtain ⟨h1, h2, h3, h4, h5, h6⟩ := h.1 k hk
  refine ⟨h1, h2, by rw [e _ (by omega)]; exact h3, h4, h5, fun i hi => ?_⟩
  rw [e _ (by omega)]
  exact h6 i hi
theorem CR_of {N W C Q : Nat} {told nodes words chances unsures slips throne said : Int32} {kind parts pn wt tw uw uo fsh rd : Nat → Int32} (hH : HR N W C Q told nodes words chances unsures slips throne said fsh) (hKR : KR N kind parts pn wt tw fsh rd) (hUR : UR Q uw uo fsh) (hW : ¬ W = 0) {th : Int32} (hth : 0 ≤ th.toInt ∧ th.toInt < (N : Int)) {r t : Nat → Int32} (hr : ∀ j : Nat, j < 287 → ¬ j = 6 → r j = fsh j) (hr6 : r 6 = th) (ht : ∀ j : Nat, j < 90 → t j = rd j) : CR N (nI W) unsures slips th said kind parts pn wt tw uw uo r t := by
  have hN := hH.N18
  obtain ⟨a1, a2, a3, a4, a5, a6, a7, a8, a9, b1, b2, b3, b4, b5, b6, b7, b8, b9, c1, c2, c3, c4, c5, c6⟩ := hH
  refine ⟨by omega, hN, by rw [hr 1 (by decide) (by decide)]; exact b1, by rw [hr 2 (by decide) (by decide)]; exact b2, by rw [hr 3 (by decide) (by decide)]; exact b5.trans a4.symm, by rw [hr 0 (by decide) (by decide)]; exact b8, hr6, by rw [hr 4 (by decide) (by decide)]; exact c1, hth, ⟨c4, c5⟩, ⟨Q, a9, a4, hUR.congr a9 (fun j q1 q2 => hr j (by omega) (by omega))⟩, (hKR.congr hN (fun j q1 q2 => hr j (by omega) (by omega))).rd hN ht⟩
theorem cpc {f g : Nat → Int32} {n : Nat} {M : Int32} (hM : M.toNatClampNeg = n) {j : Nat} (h : j < n) : cpF f g (0 : Int32).toNatClampNeg (0 : Int32).toNatClampNeg M.toNatClampNeg j = f j := by
  rw [zero_cl, hM]
  unfold cpF
  rw [if_pos (by omega), Nat.sub_zero, Nat.zero_add]
theorem c287_cl : (287 : Int32).toNatClampNeg = 287 := by decide
/-- the court that was read, as it stands on both sides -/
def CtX (c : Int32 × Int32 × Int32 × Int32 × Int32 × Int32 × Int32 × Int32 × Int64 × Int32 × Int32 × Int32 × (Nat → Int64) × Int32 × Int32 × Int32 × Int32 × Int32 × Int32 × Int32 × Int32 × (Nat → Int32) × (Nat → Int32) × (Nat → Int32) × (Nat → Int32) × (Nat → Int32) × (Nat → Int32) × (Nat → Int32) × (Nat → Int32) × (Nat → Int32) × (Nat → Int32) × (Nat → Int32)) (m : Int32 × Int32 × Int32 × Int32 × Int32 × Int32 × Int32 × Int32 × Int32 × Int32 × Int32 × Int32 × Int32 × Int32 × Int32 × Int32 × Int32 × Int32 × (Nat → Int32) × (Nat → Int32) × (Nat → Int32) × (Nat → Int32) × (Nat → Int32) × (Nat → Int32) × (Nat → Int32)) : Prop := ∃ N : Nat, c.2.2.2.2.2.2.2.2.2.2.2.2.2.1 = nI N ∧ CR N c.2.2.2.2.2.2.2.2.2.2.2.2.2.2.1 c.2.2.2.2.2.2.2.2.2.2.2.2.2.2.2.2.1 c.2.2.2.2.2.2.2.2.2.2.2.2.2.2.2.2.2.1 c.2.2.2.2.2.2.2.2.2.2.2.2.2.2.2.2.2.2.1 c.2.2.2.2.2.2.2.2.2.2.2.2.2.2.2.2.2.2.2.1 c.2.2.2.2.2.2.2.2.2.2.2.2.2.2.2.2.2.2.2.2.2.1 c.2.2.2.2.2.2.2.2.2.2.2.2.2.2.2.2.2.2.2.2.2.2.1 c.2.2.2.2.2.2.2.2.2.2.2.2.2.2.2.2.2.2.2.2.2.2.2.1 c.2.2.2.2.2.2.2.2.2.2.2.2.2.2.2.2.2.2.2.2.2.2.2.2.1 c.2.2.2.2.2.2.2.2.2.2.2.2.2.2.2.2.2.2.2.2.2.2.2.2.2.2.1 c.2.2.2.2.2.2.2.2.2.2.2.2.2.2.2.2.2.2.2.2.2.2.2.2.2.2.2.2.2.2.1 c.2.2.2.2.2.2.2.2.2.2.2.2.2.2.2.2.2.2.2.2.2.2.2.2.2.2.2.2.2.2.2 m.2.2.2.2.2.2.2.2.2.2.2.2.2.2.2.2.2.2.2.1 m.2.2.2.2.2.2.2.2.2.2.2.2.2.2.2.2.2.2.2.2.2.1 ∧ (∀ q : Nat, q < 90 → m.2.2.2.2.2.2.2.2.2.2.2.2.2.2.2.2.2.2.2.2.2.2.2.1 q = m.2.2.2.2.2.2.2.2.2.2.2.2.2.2.2.2.2.2.2.2.2.1 q) ∧ m.2.2.2.2.2.2.2.2.2.2.2.2.2.1 = 1 ∧ m.2.2.2.2.2.2.2.2.2.2.2.2.2.2.1 = 0 ∧ m.2.2.2.2.2.2.2.2.2.2.2.2.2.2.2.1 = 0
/-- nothing has changed -/
def CtU (m : Int32 × Int32 × Int32 × Int32 × Int32 × Int32 × Int32 × Int32 × Int32 × Int32 × Int32 × Int32 × Int32 × Int32 × Int32 × Int32 × Int32 × Int32 × (Nat → Int32) × (Nat → Int32) × (Nat → Int32) × (Nat → Int32) × (Nat → Int32) × (Nat → Int32) × (Nat → Int32)) (hc : Int32) (r9 t9 s9 : Nat → Int32) (und img : Int32) : Prop := m.2.2.2.2.2.2.2.2.2.2.2.2.2.1 = hc ∧ m.2.2.2.2.2.2.2.2.2.2.2.2.2.2.1 = und ∧ m.2.2.2.2.2.2.2.2.2.2.2.2.2.2.2.1 = img ∧ m.2.2.2.2.2.2.2.2.2.2.2.2.2.2.2.2.2.2.2.1 = r9 ∧ m.2.2.2.2.2.2.2.2.2.2.2.2.2.2.2.2.2.2.2.2.2.1 = t9 ∧ m.2.2.2.2.2.2.2.2.2.2.2.2.2.2.2.2.2.2.2.2.2.2.2.1 = s9
def EndX (c : Int32 × Int32 × Int32 × Int32 × Int32 × Int32 × Int32 × Int32 × Int64 × Int32 × Int32 × Int32 × (Nat → Int64) × Int32 × Int32 × Int32 × Int32 × Int32 × Int32 × Int32 × Int32 × (Nat → Int32) × (Nat → Int32) × (Nat → Int32) × (Nat → Int32) × (Nat → Int32) × (Nat → Int32) × (Nat → Int32) × (Nat → Int32) × (Nat → Int32) × (Nat → Int32) × (Nat → Int32)) (m : Int32 × Int32 × Int32 × Int32 × Int32 × Int32 × Int32 × Int32 × Int32 × Int32 × Int32 × Int32 × Int32 × Int32 × Int32 × Int32 × Int32 × Int32 × (Nat → Int32) × (Nat → Int32) × (Nat → Int32) × (Nat → Int32) × (Nat → Int32) × (Nat → Int32) × (Nat → Int32)) (fn fa tr hc : Int32) (r9 t9 s9 : Nat → Int32) (und img : Int32) : Prop := EndOk c m fn fa tr ∧ (c.1 = 1 → CtX c m) ∧ (c.1 = 0 → CtU m hc r9 t9 s9 und img)
section CTX
variable {T U : Nat → Int32} {n : Nat} {keys : Nat → Int64}
theorem ct_badX {hc und img sc x1 x2 fa pl : Int32} {r9 t9 s9 : Nat → Int32} {f : Nat} (at7 en tk w2 ns fs : Int32) (L fsh rd fsr : Nat → Int32) : ∃ (y1 y3 y4 y5 y6 y7 y8 y9 z4 : Int32) (Y1 Y3 Y5 Y7 : Nat → Int32), HX7_court_2 U hc r9 t9 s9 und img sc (nI n) x1 x2 (f + 1) at7 en tk w2 ns fa pl 1 fs L fsh rd fsr = (-1, y1, 0, y3, y4, y5, y6, y7, y8, fa, pl, 4, y9, hc, und, img, z4, sc, Y1, r9, Y3, t9, Y5, s9, Y7) := by
  rw [HX7_court_2_eq, if_neg (show ¬ (1 : Int32) = 0 by decide), if_neg (show ¬ (1 : Int32) = 0 by decide), if_neg (show ¬ (1 : Int32) = 0 by decide), if_neg (show ¬ (1 : Int32) = 0 by decide), no_eq, un2_eq rfl]
  exact ⟨_, _, _, _, _, _, _, _, _, _, _, _, _, rfl⟩
theorem reads_endX {hc und img sc x1 x2 fn fa pl fp : Int32} {r9 t9 s9 : Nat → Int32} {lo i f1 f2 : Nat} {kd fr to : Int32} {x : Int64} {key wh told nodes words chances unsures slips throne said unit : Int32} {names : Nat → Int64} {kind parts pn wt ws tw steps below above uw uo : Nat → Int32} {at7 en tk w2 ns fs : Int32} {L fsh rd fsr : Nat → Int32} (hf1 : 1 ≤ f1) (hf2 : 1 ≤ f2) (k1 : ¬ kd = 3) (k2 : ¬ tk = 59) (hTS : TS keys n lo kd fr to x key wh at7 en tk w2 ns L) (hSR : SR names told nodes words chances unsures slips throne said kind parts pn wt tw uw uo fsh rd) (ht : ¬ told = 0) : EndX (HX3_reads_0 T keys (nI n) f1 (nI i) 1 fn fp kd fr to x key wh told nodes words chances unsures slips throne said unit names kind parts pn wt ws tw steps below above uw uo) (HX7_court_2 U hc r9 t9 s9 und img sc (nI n) x1 x2 f2 at7 en tk w2 ns fa pl 0 fs L fsh rd fsr) fn fa x2 hc r9 t9 s9 und img := by
  obtain ⟨f1, rfl⟩ : ∃ g, f1 = g + 1 := ⟨f1 - 1, by omega⟩
  obtain ⟨f2, rfl⟩ : ∃ g, f2 = g + 1 := ⟨f2 - 1, by omega⟩
  have hfr := hTS.frq
  obtain ⟨N, W, C, Q, hH, hKR, hUR, -⟩ := hSR
  have hN18 := hH.N18
  obtain ⟨a1, a2, a3, a4, a5, a6, a7, a8, a9, b1, b2, b3, b4, b5, b6, b7, b8, b9, c1, c2, c3, c4, c5, c6⟩ := id hH
  have hcl : HX3_reads_0 T keys (nI n) (f1 + 1) (nI i) 1 fn fp kd fr to x key wh told nodes words chances unsures slips throne said unit names kind parts pn wt ws tw steps below above uw uo = un4_ (PX3_readEnd fn fp kd fr nodes words throne) (fun r q z t => if r = 0 then (0, q, z, 0, nI n, kd, fr, to, x, key, wh, told, names, nodes, words, chances, unsures, slips, t, said, unit, kind, parts, pn, wt, ws, tw, steps, below, above, uw, uo) else (1, q, z, 0, nI n, kd, fr, to, x, key, wh, told, names, nodes, words, chances, unsures, slips, t, said, unit, kind, parts, pn, wt, ws, tw, steps, below, above, uw, uo)) := by
    rw [HX3_reads_0_eq]
    by_cases h : (900 : Int32) ≤ nI i
    · rw [if_pos h, if_neg (show ¬ (1 : Int32) = 0 by decide)]
    · rw [if_neg h, if_neg (show ¬ (1 : Int32) = 0 by decide), if_neg k1, if_neg (show ¬ (1 : Int32) = 0 by decide)]
  rw [hcl, HX7_court_2_eq, if_pos rfl, if_neg k2, if_pos rfl, PX3_readEnd_eq]
  dsimp only [lt_]
  rcases hTS.k0 with ⟨e1, e2⟩ | ⟨e1, e2⟩
  · rw [if_pos e1, if_pos e2, if_pos rfl, five_cl, b7, if_neg ht, two_cl, b2, a2]
    by_cases hW : W = 0
    · have hW0 : nI W = 0 := by rw [hW]; rfl
      rw [if_pos hW0, fl0, un3_eq rfl, un4_eq rfl, if_pos rfl, if_pos hW0, wr0, un3_eq rfl, if_neg (show ¬ (1 : Int32) = 0 by decide), no_eq, un2_eq rfl]
      exact ⟨Or.inr ⟨rfl, rfl, rfl, hfr.symm, rfl, rfl, rfl⟩, fun e => absurd e (show ¬ (0 : Int32) = 1 by decide), fun _ => ⟨rfl, rfl, rfl, rfl, rfl, rfl⟩⟩
    · have hW0 : ¬ nI W = 0 := nI_ne0 (by omega) (by omega)
      rw [if_neg hW0, if_neg hW0, if_pos rfl, six_cl, b9, one_cl]
      have cp1 : ∀ (f g : Nat → Int32), cpF f g (0 : Int32).toNatClampNeg (0 : Int32).toNatClampNeg (287 : Int32).toNatClampNeg 1 = f 1 := fun f g => rfl
      by_cases hth : (0 : Int32) ≤ throne
      · rw [if_pos hth, un4_eq rfl, if_neg (show ¬ (1 : Int32) = 0 by decide), if_pos hth, cp1, b1, a1]
        refine ⟨Or.inl ⟨rfl, rfl, rfl, rfl, rfl, rfl, rfl⟩, fun _ => ⟨N, rfl, CR_of hH hKR hUR hW (th := throne) (r := cpF fsh r9 (0 : Int32).toNatClampNeg (0 : Int32).toNatClampNeg (287 : Int32).toNatClampNeg) ⟨by have q := (fz_le _ _).mp hth; rw [kc_0] at q; exact q, c3⟩ (fun j q1 q2 => cpc c287_cl q1) ((cpc (f := fsh) (g := r9) c287_cl (j := 6) (by decide)).trans b9) (fun j q => cpc ninety_cl q), fun q hq => (cpc ninety_cl hq).trans (cpc ninety_cl hq).symm, rfl, rfl, rfl⟩, fun e => absurd e (show ¬ (1 : Int32) = 0 by decide)⟩
      · rw [if_neg hth, un4_eq rfl, if_neg (show ¬ (1 : Int32) = 0 by decide), if_neg hth, cp1, upd_ne (by decide), b1, a1]
        refine ⟨Or.inl ⟨rfl, rfl, rfl, rfl, rfl, rfl, rfl⟩, fun _ => ⟨N, rfl, CR_of hH hKR hUR hW (th := nI N - 1) (r := cpF (upd fsh 6 (nI N - 1)) r9 (0 : Int32).toNatClampNeg (0 : Int32).toNatClampNeg (287 : Int32).toNatClampNeg) (by rw [nI_m1 (by omega), nI_toInt (by omega)]; omega) (fun j q1 q2 => (cpc c287_cl q1).trans (upd_ne q2)) ((cpc (f := upd fsh 6 (nI N - 1)) (g := r9) c287_cl (j := 6) (by decide)).trans (upd_at _ _ _)) (fun j q => cpc ninety_cl q), fun q hq => (cpc ninety_cl hq).trans (cpc ninety_cl hq).symm, rfl, rfl, rfl⟩, fun e => absurd e (show ¬ (1 : Int32) = 0 by decide)⟩
  · rw [if_neg e1, fl0, un3_eq rfl, un4_eq rfl, if_pos rfl, if_neg e2, wr0, un3_eq rfl, if_neg (show ¬ (1 : Int32) = 0 by decide), if_neg (show ¬ (1 : Int32) = 0 by decide), no_eq, un2_eq rfl]
    exact ⟨Or.inr ⟨rfl, rfl, rfl, hfr.symm, rfl, rfl, rfl⟩, fun e => absurd e (show ¬ (0 : Int32) = 1 by decide), fun _ => ⟨rfl, rfl, rfl, rfl, rfl, rfl⟩⟩
theorem reads_loopX (hK : KwOk keys) (hT : TR T U n) (hn : n ≤ 900) {hc und img sc x1 x2 fn fa pl : Int32} {fp : Int32} {r9 t9 s9 : Nat → Int32} : ∀ (r lo i f1 f2 : Nat) (kd fr to : Int32) (x : Int64) (key wh told nodes words chances unsures slips throne said unit : Int32) (names : Nat → Int64) (kind parts pn wt ws tw steps below above uw uo : Nat → Int32) (at7 en tk w2 ns fs : Int32) (L fsh rd fsr : Nat → Int32), n - lo = r → lo ≤ n → i ≤ lo → n - lo + 2 ≤ f1 → 1 ≤ f2 → (tk = 59 → 902 - lo ≤ f2) → TS keys n lo kd fr to x key wh at7 en tk w2 ns L → SR names told nodes words chances unsures slips throne said kind parts pn wt tw uw uo fsh rd → ¬ told = 0 → EndX (HX3_reads_0 T keys (nI n) f1 (nI i) 1 fn fp kd fr to x key wh told nodes words chances unsures slips throne said unit names kind parts pn wt ws tw steps below above uw uo) (HX7_court_2 U hc r9 t9 s9 und img sc (nI n) x1 x2 f2 at7 en tk w2 ns fa pl 0 fs L fsh rd fsr) fn fa x2 hc r9 t9 s9 und img := by
  intro r
  induction r with
  | zero =>
    intro lo i f1 f2 kd fr to x key wh told nodes words chances unsures slips throne said unit names kind parts pn wt ws tw steps below above uw uo at7 en tk w2 ns fs L fsh rd fsr hr hlo hi hf1 hf2 hf3 hTS hSR ht
    rcases hTS.k3 with ⟨k1, k2⟩ | ⟨k1, k2⟩
    · exact absurd (hTS.semi k1 hT hn 0 0 L).1 (by omega)
    · exact reads_endX (by omega) hf2 k1 k2 hTS hSR ht
  | succ r ih =>
    intro lo i f1 f2 kd fr to x key wh told nodes words chances unsures slips throne said unit names kind parts pn wt ws tw steps below above uw uo at7 en tk w2 ns fs L fsh rd fsr hr hlo hi hf1 hf2 hf3 hTS hSR ht
    rcases hTS.k3 with ⟨k1, k2⟩ | ⟨k1, k2⟩
    · obtain ⟨hln, kd1, fr1, to1, y1, key1, wh1, at1, en1, tk1, w1, ns1, L1, g1, g2, g3, -⟩ := hTS.semi k1 hT hn x wh L
      obtain ⟨f1, rfl⟩ : ∃ g, f1 = g + 1 := ⟨f1 - 1, by omega⟩
      have hf3 := hf3 k2
      obtain ⟨f2, rfl⟩ : ∃ g, f2 = g + 1 := ⟨f2 - 1, by omega⟩
      rw [HX3_reads_0_eq, if_neg (show ¬ (900 : Int32) ≤ nI i by rw [fz_le, kc_900, nI_toInt (by omega)]; omega), if_neg (show ¬ (1 : Int32) = 0 by decide), if_pos k1, un6_eq g1, HX7_court_2_eq, if_pos rfl, if_pos k2, un6_eq g2]
      rcases line_sim hK g3 hT hn hSR fn fp fa pl unit fs ws steps below above fsr with hok | hbad
      · obtain ⟨kd2, fr2, to2, y2, key2, wh2, told2, names2, nodes2, words2, ch2, un2, sl2, th2, sd2, u2, q1, q2, q3, q4, q5, q6, q7, q8, q9, p1, p2, at2, en2, tk2, w3, ns2, fs2, L2, F2, R2, S2, e1, e2, e3, e4, e5⟩ := hok
        rw [un30_eq e1, un13_eq e2]
        dsimp only [lt_]
        rw [nI_o1]
        exact ih (lo + 1) (i + 1) f1 f2 _ _ _ _ _ _ _ _ _ _ _ _ _ _ _ _ _ _ _ _ _ _ _ _ _ _ _ _ _ _ _ _ _ _ _ _ _ (by omega) (by omega) (by omega) (by omega) (by omega) (fun _ => by omega) e3 e4 e5
      · obtain ⟨c1, c2, c3, c4, c5, c6, c7, c8, c9, c10, c11, c12, c13, c14, c15, c16, c17, c18, c19, c20, c21, c22, c23, c24, c25, c26, c27, c28, c29, m0, m1, m2, m3, m4, m8, m9, m10, m11, m12, e1, e2⟩ := hbad.ex
        obtain ⟨f1, rfl⟩ : ∃ g, f1 = g + 1 := ⟨f1 - 1, by omega⟩
        obtain ⟨f2, rfl⟩ : ∃ g, f2 = g + 1 := ⟨f2 - 1, by omega⟩
        rw [un30_eq e1, un13_eq e2]
        dsimp only [lt_]
        rw [nI_o1]
        obtain ⟨y1, y3, y4, y5, y6, y7, y8, y9, z4, Y1, Y3, Y5, Y7, hY⟩ := ct_badX (U := U) (n := n) (hc := hc) (und := und) (img := img) (sc := sc) (x1 := x1) (x2 := x2) (fa := c1) (pl := c2) (r9 := r9) (t9 := t9) (s9 := s9) (f := f2) m0 m1 m2 m3 m4 m8 m9 m10 m11 m12
        obtain ⟨v1, v2, v3, v4⟩ := rd_bad (T := T) (keys := keys) (n := n) (fn := c1) (fp := c2) (f := f1) (i := i + 1) c3 c4 c5 c6 c7 c8 c9 c11 c12 c13 c14 c15 c16 c17 c18 c10 c19 c20 c21 c22 c23 c24 c25 c26 c27 c28 c29
        rw [hY]
        exact ⟨Or.inr ⟨v1, rfl, v2.symm, v3.symm, rfl, v4, rfl⟩, fun e => absurd (v1.symm.trans e) (show ¬ (0 : Int32) = 1 by decide), fun _ => ⟨rfl, rfl, rfl, rfl, rfl, rfl⟩⟩
    · exact reads_endX (by omega) hf2 k1 k2 hTS hSR ht
theorem text_simX (hK : KwOk keys) (hT : TR T U n) (hn : n ≤ 900) (nm : Int64) (w : Int32) (names : Nat → Int64) (kind parts pn wt ws tw steps below above uw uo : Nat → Int32) (pl hc und img sc x1 x2 fs : Int32) (L r9 t9 s9 fsh rd fsr : Nat → Int32) : EndX (PX3_reads T nm w names keys kind parts pn wt ws tw steps below above uw uo (nI n)) (HX7_court_0 U pl L hc r9 t9 rd s9 und img fsr fs sc (nI n) x1 x2 (((287 - (0 : Int32).toInt).toNat) + 1) 0 fsh) 0 0 x2 hc r9 t9 s9 und img := by
  obtain ⟨G, hG, e0⟩ := z0_loop (U := U) (pl := pl) (hc := hc) (und := und) (img := img) (sc := sc) (p0 := nI n) (x1 := x1) (x2 := x2) (fs := fs) (L := L) (r9 := r9) (t9 := t9) (s9 := s9) (rd := rd) (fsr := fsr) 287 0 (((287 - (0 : Int32).toInt).toNat) + 1) fsh rfl (by omega) (by rw [kc_0]; omega) (fun j hj => absurd hj (by omega))
  obtain ⟨R, g, hR, e1⟩ := z1_loop (U := U) (pl := pl) (hc := hc) (und := und) (img := img) (sc := sc) (p0 := nI n) (x1 := x1) (x2 := x2) (fs := fs) (L := L) (r9 := r9) (t9 := t9) (s9 := s9) (fsr := fsr) (G := G) 90 0 (((90 - (0 : Int32).toInt).toNat) + 1) rd rfl (by omega) (by rw [kc_0]; omega) (fun j hj => absurd hj (by omega))
  rw [nI_0] at e0 e1
  rw [e0, e1, HX7_court_1_eq, if_pos (show (90 : Int32) ≤ nI 90 from by decide), PX3_reads_eq]
  dsimp only [lt_]
  rw [PX1_clear_eq, un8_eq rfl, six_cl]
  obtain ⟨kd1, fr1, to1, y1, key1, wh1, at1, en1, tk1, w1, ns1, L1, g1, g2, g3, -⟩ := ts_next (keys := keys) (lo := 0) (b := 0) hT hn (Nat.zero_le _) (Nat.le_refl _) nm w L
  rw [nI_0] at g1 g2
  rw [un6_eq g1, un6_eq g2]
  rcases line_sim hK g3 hT hn (SR_zero (names := names) (kind := kind) (parts := parts) (pn := pn) (wt := wt) (tw := tw) (uw := uw) (uo := uo) hG hR) 0 (-1) 0 pl 1 fs ws steps below above fsr with hok | hbad
  · obtain ⟨kd2, fr2, to2, y2, key2, wh2, told2, names2, nodes2, words2, ch2, un2, sl2, th2, sd2, u2, q1, q2, q3, q4, q5, q6, q7, q8, q9, p1, p2, at2, en2, tk2, w3, ns2, fs2, L2, F2, R2, S2, v1, v2, v3, v4, v5⟩ := hok
    rw [un30_eq v1, un13_eq v2]
    obtain ⟨a, ha, hTa, hen⟩ := v3.self
    have hz := reads_loopX (hc := hc) (und := und) (img := img) (sc := sc) (x1 := x1) (x2 := x2) (fn := 0) (fa := 0) (pl := pl) (fp := -1) (r9 := r9) (t9 := t9) (s9 := s9) hK hT hn (n - a) a 0 (((2147483647 - (0 : Int32).toInt).toNat) + 1) ((crtM (0 : Int32).toInt tk2.toInt en2.toInt) + 1) kd2 fr2 to2 y2 key2 wh2 told2 nodes2 words2 ch2 un2 sl2 th2 sd2 u2 names2 q1 q2 q3 q4 q5 q6 q7 q8 q9 p1 p2 at2 en2 tk2 w3 ns2 fs2 L2 F2 R2 S2 rfl ha (Nat.zero_le _) (by rw [kc_0]; omega) (by omega) (fun ht => by
      obtain ⟨h1, h2⟩ := hen ht
      unfold crtM
      rw [kc_0, ht, h1, nI_toInt (by omega), if_pos ⟨by omega, by decide⟩]
      omega) hTa v4 v5
    rw [nI_0] at hz
    exact hz
  · obtain ⟨c1, c2, c3, c4, c5, c6, c7, c8, c9, c10, c11, c12, c13, c14, c15, c16, c17, c18, c19, c20, c21, c22, c23, c24, c25, c26, c27, c28, c29, m0, m1, m2, m3, m4, m8, m9, m10, m11, m12, v1, v2⟩ := hbad.ex
    rw [un30_eq v1, un13_eq v2]
    obtain ⟨y1, y3, y4, y5, y6, y7, y8, y9, z4, Y1, Y3, Y5, Y7, hY⟩ := ct_badX (U := U) (n := n) (hc := hc) (und := und) (img := img) (sc := sc) (x1 := x1) (x2 := x2) (fa := c1) (pl := c2) (r9 := r9) (t9 := t9) (s9 := s9) (f := crtM (1 : Int32).toInt m2.toInt m1.toInt) m0 m1 m2 m3 m4 m8 m9 m10 m11 m12
    obtain ⟨v1, v2, v3, v4⟩ := rd_bad (T := T) (keys := keys) (n := n) (fn := c1) (fp := c2) (f := ((2147483647 - (0 : Int32).toInt).toNat)) (i := 0) c3 c4 c5 c6 c7 c8 c9 c11 c12 c13 c14 c15 c16 c17 c18 c10 c19 c20 c21 c22 c23 c24 c25 c26 c27 c28 c29
    rw [nI_0] at v1 v2 v3 v4
    rw [hY]
    exact ⟨Or.inr ⟨v1, rfl, v2.symm, v3.symm, rfl, v4, rfl⟩, fun e => absurd (v1.symm.trans e) (show ¬ (0 : Int32) = 1 by decide), fun _ => ⟨rfl, rfl, rfl, rfl, rfl, rfl⟩⟩
end CTX
end D3
