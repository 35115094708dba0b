section
/-! a court's text and what stands behind it -/
section D3
theorem KR.rd {N : Nat} {kind parts pn wt tw f rd g : Nat → Int32} (h : KR N kind parts pn wt tw f rd) (hN : N ≤ 18) (e : ∀ j : Nat, j < 90 → g j = rd j) : KR N kind parts pn wt tw f g := by
  refine ⟨fun k hk => ?_, fun k h1 h2 => by rw [e _ (by omega)]; exact h.2 k h1 h2⟩
  obtain ⟨h1, h2, h3, h4, h5, h6⟩ := h.1 k hk
  refine ⟨h1, h2, by rw [e _ (by omega)]; exact h3, h4, h5, fun i hi => ?_⟩
  rw [e _ (by omega)]
  exact h6 i hi
theorem CR_of {N W C Q : Nat} {told nodes words chances unsures slips throne said : Int32} {kind parts pn wt tw uw uo fsh rd : Nat → Int32} (hH : HR N W C Q told nodes words chances unsures slips throne said fsh) (hKR : KR N kind parts pn wt tw fsh rd) (hUR : UR Q uw uo fsh) (hW : ¬ W = 0) {th : Int32} (hth : 0 ≤ th.toInt ∧ th.toInt < (N : Int)) {r t : Nat → Int32} (hr : ∀ j : Nat, j < 287 → ¬ j = 6 → r j = fsh j) (hr6 : r 6 = th) (ht : ∀ j : Nat, j < 90 → t j = rd j) : CR N (nI W) unsures slips th said kind parts pn wt tw uw uo r t := by
  have hN := hH.N18
  obtain ⟨a1, a2, a3, a4, a5, a6, a7, a8, a9, b1, b2, b3, b4, b5, b6, b7, b8, b9, c1, c2, c3, c4, c5, c6⟩ := hH
  refine ⟨by omega, hN, by rw [hr 1 (by decide) (by decide)]; exact b1, by rw [hr 2 (by decide) (by decide)]; exact b2, by rw [hr 3 (by decide) (by decide)]; exact b5.trans a4.symm, by rw [hr 0 (by decide) (by decide)]; exact b8, hr6, by rw [hr 4 (by decide) (by decide)]; exact c1, hth, ⟨c4, c5⟩, ⟨Q, a9, a4, hUR.congr a9 (fun j q1 q2 => hr j (by omega) (by omega))⟩, (hKR.congr hN (fun j q1 q2 => hr j (by omega) (by omega))).rd hN ht⟩
theorem cpc {f g : Nat → Int32} {n : Nat} {M : Int32} (hM : M.toNatClampNeg = n) {j : Nat} (h : j < n) : cpF f g (0 : Int32).toNatClampNeg (0 : Int32).toNatClampNeg M.toNatClampNeg j = f j := by
  rw [zero_cl, hM]
  unfold cpF
  rw [if_pos (by omega), Nat.sub_zero, Nat.zero_add]
theorem c287_cl : (287 : Int32).toNatClampNeg = 287 := by decide
/-- the court that was read, as it stands on both sides -/
def CtX (c : Int32 × Int32 × Int32 × Int32 × Int32 × Int32 × Int32 × Int32 × Int64 × Int32 × Int32 × Int32 × (Nat → Int64) × Int32 × Int32 × Int32 × Int32 × Int32 × Int32 × Int32 × Int32 × (Nat → Int32) × (Nat → Int32) × (Nat → Int32) × (Nat → Int32) × (Nat → Int32) × (Nat → Int32) × (Nat → Int32) × (Nat → Int32) × (Nat → Int32) × (Nat → Int32) × (Nat → Int32)) (m : Int32 × Int32 × Int32 × Int32 × Int32 × Int32 × Int32 × Int32 × Int32 × Int32 × Int32 × Int32 × Int32 × Int32 × Int32 × Int32 × Int32 × Int32 × (Nat → Int32) × (Nat → Int32) × (Nat → Int32) × (Nat → Int32) × (Nat → Int32) × (Nat → Int32) × (Nat → Int32)) : Prop := ∃ N : Nat, c.2.2.2.2.2.2.2.2.2.2.2.2.2.1 = nI N ∧ CR N c.2.2.2.2.2.2.2.2.2.2.2.2.2.2.1 c.2.2.2.2.2.2.2.2.2.2.2.2.2.2.2.2.1 c.2.2.2.2.2.2.2.2.2.2.2.2.2.2.2.2.2.1 c.2.2.2.2.2.2.2.2.2.2.2.2.2.2.2.2.2.2.1 c.2.2.2.2.2.2.2.2.2.2.2.2.2.2.2.2.2.2.2.1 c.2.2.2.2.2.2.2.2.2.2.2.2.2.2.2.2.2.2.2.2.2.1 c.2.2.2.2.2.2.2.2.2.2.2.2.2.2.2.2.2.2.2.2.2.2.1 c.2.2.2.2.2.2.2.2.2.2.2.2.2.2.2.2.2.2.2.2.2.2.2.1 c.2.2.2.2.2.2.2.2.2.2.2.2.2.2.2.2.2.2.2.2.2.2.2.2.1 c.2.2.2.2.2.2.2.2.2.2.2.2.2.2.2.2.2.2.2.2.2.2.2.2.2.2.1 c.2.2.2.2.2.2.2.2.2.2.2.2.2.2.2.2.2.2.2.2.2.2.2.2.2.2.2.2.2.2.1 c.2.2.2.2.2.2.2.2.2.2.2.2.2.2.2.2.2.2.2.2.2.2.2.2.2.2.2.2.2.2.2 m.2.2.2.2.2.2.2.2.2.2.2.2.2.2.2.2.2.2.2.1 m.2.2.2.2.2.2.2.2.2.2.2.2.2.2.2.2.2.2.2.2.2.1 ∧ (∀ q : Nat, q < 90 → m.2.2.2.2.2.2.2.2.2.2.2.2.2.2.2.2.2.2.2.2.2.2.2.1 q = m.2.2.2.2.2.2.2.2.2.2.2.2.2.2.2.2.2.2.2.2.2.1 q) ∧ m.2.2.2.2.2.2.2.2.2.2.2.2.2.1 = 1 ∧ m.2.2.2.2.2.2.2.2.2.2.2.2.2.2.1 = 0 ∧ m.2.2.2.2.2.2.2.2.2.2.2.2.2.2.2.1 = 0
/-- nothing has changed -/
def CtU (m : Int32 × Int32 × Int32 × Int32 × Int32 × Int32 × Int32 × Int32 × Int32 × Int32 × Int32 × Int32 × Int32 × Int32 × Int32 × Int32 × Int32 × Int32 × (Nat → Int32) × (Nat → Int32) × (Nat → Int32) × (Nat → Int32) × (Nat → Int32) × (Nat → Int32) × (Nat → Int32)) (hc : Int32) (r9 t9 s9 : Nat → Int32) (und img : Int32) : Prop := m.2.2.2.2.2.2.2.2.2.2.2.2.2.1 = hc ∧ m.2.2.2.2.2.2.2.2.2.2.2.2.2.2.1 = und ∧ m.2.2.2.2.2.2.2.2.2.2.2.2.2.2.2.1 = img ∧ m.2.2.2.2.2.2.2.2.2.2.2.2.2.2.2.2.2.2.2.1 = r9 ∧ m.2.2.2.2.2.2.2.2.2.2.2.2.2.2.2.2.2.2.2.2.2.1 = t9 ∧ m.2.2.2.2.2.2.2.2.2.2.2.2.2.2.2.2.2.2.2.2.2.2.2.1 = s9
def EndX (c : Int32 × Int32 × Int32 × Int32 × Int32 × Int32 × Int32 × Int32 × Int64 × Int32 × Int32 × Int32 × (Nat → Int64) × Int32 × Int32 × Int32 × Int32 × Int32 × Int32 × Int32 × Int32 × (Nat → Int32) × (Nat → Int32) × (Nat → Int32) × (Nat → Int32) × (Nat → Int32) × (Nat → Int32) × (Nat → Int32) × (Nat → Int32) × (Nat → Int32) × (Nat → Int32) × (Nat → Int32)) (m : Int32 × Int32 × Int32 × Int32 × Int32 × Int32 × Int32 × Int32 × Int32 × Int32 × Int32 × Int32 × Int32 × Int32 × Int32 × Int32 × Int32 × Int32 × (Nat → Int32) × (Nat → Int32) × (Nat → Int32) × (Nat → Int32) × (Nat → Int32) × (Nat → Int32) × (Nat → Int32)) (fn fa tr hc : Int32) (r9 t9 s9 : Nat → Int32) (und img : Int32) : Prop := EndOk c m fn fa tr ∧ (c.1 = 1 → CtX c m) ∧ (c.1 = 0 → CtU m hc r9 t9 s9 und img)
section CTX
variable {T U : Nat → Int32} {n : Nat} {keys : Nat → Int64}
theorem ct_badX {hc und img sc x1 x2 fa pl : Int32} {r9 t9 s9 : Nat → Int32} {f : Nat} (at7 en tk w2 ns fs : Int32) (L fsh rd fsr : Nat → Int32) : ∃ (y1 y3 y4 y5 y6 y7 y8 y9 z4 : Int32) (Y1 Y3 Y5 Y7 : Nat → Int32), HX7_court_2 U hc r9 t9 s9 und img sc (nI n) x1 x2 (f + 1) at7 en tk w2 ns fa pl 1 fs L fsh rd fsr = (-1, y1, 0, y3, y4, y5, y6, y7, y8, fa, pl, 4, y9, hc, und, img, z4, sc, Y1, r9, Y3, t9, Y5, s9, Y7) := by
  rw [HX7_court_2_eq, if_neg (show ¬ (1 : Int32) = 0 by decide), if_neg (show ¬ (1 : Int32) = 0 by decide), if_neg (show ¬ (1 : Int32) = 0 by decide), if_neg (show ¬ (1 : Int32) = 0 by decide), no_eq, un2_eq rfl]
  exact ⟨_, _, _, _, _, _, _, _, _, _, _, _, _, rfl⟩
theorem reads_endX {hc und img sc x1 x2 fn fa pl fp : Int32} {r9 t9 s9 : Nat → Int32} {lo i f1 f2 : Nat} {kd fr to : Int32} {x : Int64} {key wh told nodes words chances unsures slips throne said unit : Int32} {names : Nat → Int64} {kind parts pn wt ws tw steps below above uw uo : Nat → Int32} {at7 en tk w2 ns fs : Int32} {L fsh rd fsr : Nat → Int32} (hf1 : 1 ≤ f1) (hf2 : 1 ≤ f2) (k1 : ¬ kd = 3) (k2 : ¬ tk = 59) (hTS : TS keys n lo kd fr to x key wh at7 en tk w2 ns L) (hSR : SR names told nodes words chances unsures slips throne said kind parts pn wt tw uw uo fsh rd) (ht : ¬ told = 0) : EndX (HX3_reads_0 T keys (nI n) f1 (nI i) 1 fn fp kd fr to x key wh told nodes words chances unsures slips throne said unit names kind parts pn wt ws tw steps below above uw uo) (HX7_court_2 U hc r9 t9 s9 und img sc (nI n) x1 x2 f2 at7 en tk w2 ns fa pl 0 fs L fsh rd fsr) fn fa x2 hc r9 t9 s9 und img := by
  obtain ⟨f1, rfl⟩ : ∃ g, f1 = g + 1 := ⟨f1 - 1, by omega⟩
  obtain ⟨f2, rfl⟩ : ∃ g, f2 = g + 1 := ⟨f2 - 1, by omega⟩
  have hfr := hTS.frq
  obtain ⟨N, W, C, Q, hH, hKR, hUR, -⟩ := hSR
  have hN18 := hH.N18
  obtain ⟨a1, a2, a3, a4, a5, a6, a7, a8, a9, b1, b2, b3, b4, b5, b6, b7, b8, b9, c1, c2, c3, c4, c5, c6⟩ := id hH
  have hcl : HX3_reads_0 T keys (nI n) (f1 + 1) (nI i) 1 fn fp kd fr to x key wh told nodes words chances unsures slips throne said unit names kind parts pn wt ws tw steps below above uw uo = un4_ (PX3_readEnd fn fp kd fr nodes words throne) (fun r q z t => if r = 0 then (0, q, z, 0, nI n, kd, fr, to, x, key, wh, told, names, nodes, words, chances, unsures, slips, t, said, unit, kind, parts, pn, wt, ws, tw, steps, below, above, uw, uo) else (1, q, z, 0, nI n, kd, fr, to, x, key, wh, told, names, nodes, words, chances, unsures, slips, t, said, unit, kind, parts, pn, wt, ws, tw, steps, below, above, uw, uo)) := by
    rw [HX3_reads_0_eq]
    by_cases h : (900 : Int32) ≤ nI i
    · rw [if_pos h, if_neg (show ¬ (1 : Int32) = 0 by decide)]
    · rw [if_neg h, if_neg (show ¬ (1 : Int32) = 0 by decide), if_neg k1, if_neg (show ¬ (1 : Int32) = 0 by decide)]
  rw [hcl, HX7_court_2_eq, if_pos rfl, if_neg k2, if_pos rfl, PX3_readEnd_eq]
  dsimp only [lt_]
  rcases hTS.k0 with ⟨e1, e2⟩ | ⟨e1, e2⟩
  · rw [if_pos e1, if_pos e2, if_pos rfl, five_cl, b7, if_neg ht, two_cl, b2, a2]
    by_cases hW : W = 0
    · have hW0 : nI W = 0 := by rw [hW]; rfl
      rw [if_pos hW0, fl0, un3_eq rfl, un4_eq rfl, if_pos rfl, if_pos hW0, wr0, un3_eq rfl, if_neg (show ¬ (1 : Int32) = 0 by decide), no_eq, un2_eq rfl]
      exact ⟨Or.inr ⟨rfl, rfl, rfl, hfr.symm, rfl, rfl, rfl⟩, fun e => absurd e (show ¬ (0 : Int32) = 1 by decide), fun _ => ⟨rfl, rfl, rfl, rfl, rfl, rfl⟩⟩
    · have hW0 : ¬ nI W = 0 := nI_ne0 (by omega) (by omega)
      rw [if_neg hW0, if_neg hW0, if_pos rfl, six_cl, b9, one_cl]
      have cp1 : ∀ (f g : Nat → Int32), cpF f g (0 : Int32).toNatClampNeg (0 : Int32).toNatClampNeg (287 : Int32).toNatClampNeg 1 = f 1 := fun f g => rfl
      by_cases hth : (0 : Int32) ≤ throne
      · rw [if_pos hth, un4_eq rfl, if_neg (show ¬ (1 : Int32) = 0 by decide), if_pos hth, cp1, b1, a1]
        refine ⟨Or.inl ⟨rfl, rfl, rfl, rfl, rfl, rfl, rfl⟩, fun _ => ⟨N, rfl, CR_of hH hKR hUR hW (th := throne) (r := cpF fsh r9 (0 : Int32).toNatClampNeg (0 : Int32).toNatClampNeg (287 : Int32).toNatClampNeg) ⟨by have q := (fz_le _ _).mp hth; rw [kc_0] at q; exact q, c3⟩ (fun j q1 q2 => cpc c287_cl q1) ((cpc (f := fsh) (g := r9) c287_cl (j := 6) (by decide)).trans b9) (fun j q => cpc ninety_cl q), fun q hq => (cpc ninety_cl hq).trans (cpc ninety_cl hq).symm, rfl, rfl, rfl⟩, fun e => absurd e (show ¬ (1 : Int32) = 0 by decide)⟩
      · rw [if_neg hth, un4_eq rfl, if_neg (show ¬ (1 : Int32) = 0 by decide), if_neg hth, cp1, upd_ne (by decide), b1, a1]
        refine ⟨Or.inl ⟨rfl, rfl, rfl, rfl, rfl, rfl, rfl⟩, fun _ => ⟨N, rfl, CR_of hH hKR hUR hW (th := nI N - 1) (r := cpF (upd fsh 6 (nI N - 1)) r9 (0 : Int32).toNatClampNeg (0 : Int32).toNatClampNeg (287 : Int32).toNatClampNeg) (by rw [nI_m1 (by omega), nI_toInt (by omega)]; omega) (fun j q1 q2 => (cpc c287_cl q1).trans (upd_ne q2)) ((cpc (f := upd fsh 6 (nI N - 1)) (g := r9) c287_cl (j := 6) (by decide)).trans (upd_at _ _ _)) (fun j q => cpc ninety_cl q), fun q hq => (cpc ninety_cl hq).trans (cpc ninety_cl hq).symm, rfl, rfl, rfl⟩, fun e => absurd e (show ¬ (1 : Int32) = 0 by decide)⟩
  · rw [if_neg e1, fl0, un3_eq rfl, un4_eq rfl, if_pos rfl, if_neg e2, wr0, un3_eq rfl, if_neg (show ¬ (1 : Int32) = 0 by decide), if_neg (show ¬ (1 : Int32) = 0 by decide), no_eq, un2_eq rfl]
    exact ⟨Or.inr ⟨rfl, rfl, rfl, hfr.symm, rfl, rfl, rfl⟩, fun e => absurd e (show ¬ (0 : Int32) = 1 by decide), fun _ => ⟨rfl, rfl, rfl, rfl, rfl, rfl⟩⟩
theorem reads_loopX (hK : KwOk keys) (hT : TR T U n) (hn : n ≤ 900) {hc und img sc x1 x2 fn fa pl : Int32} {fp : Int32} {r9 t9 s9 : Nat → Int32} : ∀ (r lo i f1 f2 : Nat) (kd fr to : Int32) (x : Int64) (key wh told nodes words chances unsures slips throne said unit : Int32) (names : Nat → Int64) (kind parts pn wt ws tw steps below above uw uo : Nat → Int32) (at7 en tk w2 ns fs : Int32) (L fsh rd fsr : Nat → Int32), n - lo = r → lo ≤ n → i ≤ lo → n - lo + 2 ≤ f1 → 1 ≤ f2 → (tk = 59 → 902 - lo ≤ f2) → TS keys n lo kd fr to x key wh at7 en tk w2 ns L → SR names told nodes words chances unsures slips throne said kind parts pn wt tw uw uo fsh rd → ¬ told = 0 → EndX (HX3_reads_0 T keys (nI n) f1 (nI i) 1 fn fp kd fr to x key wh told nodes words chances unsures slips throne said unit names kind parts pn wt ws tw steps below above uw uo) (HX7_court_2 U hc r9 t9 s9 und img sc (nI n) x1 x2 f2 at7 en tk w2 ns fa pl 0 fs L fsh rd fsr) fn fa x2 hc r9 t9 s9 und img := by
  intro r
  induction r with
  | zero =>
    intro lo i f1 f2 kd fr to x key wh told nodes words chances unsures slips throne said unit names kind parts pn wt ws tw steps below above uw uo at7 en tk w2 ns fs L fsh rd fsr hr hlo hi hf1 hf2 hf3 hTS hSR ht
    rcases hTS.k3 with ⟨k1, k2⟩ | ⟨k1, k2⟩
    · exact absurd (hTS.semi k1 hT hn 0 0 L).1 (by omega)
    · exact reads_endX (by omega) hf2 k1 k2 hTS hSR ht
  | succ r ih =>
    intro lo i f1 f2 kd fr to x key wh told nodes words chances unsures slips throne said unit names kind parts pn wt ws tw steps below above uw uo at7 en tk w2 ns fs L fsh rd fsr hr hlo hi hf1 hf2 hf3 hTS hSR ht
    rcases hTS.k3 with ⟨k1, k2⟩ | ⟨k1, k2⟩
    · obtain ⟨hln, kd1, fr1, to1, y1, key1, wh1, at1, en1, tk1, w1, ns1, L1, g1, g2, g3, -⟩ := hTS.semi k1 hT hn x wh L
      obtain ⟨f1, rfl⟩ : ∃ g, f1 = g + 1 := ⟨f1 - 1, by omega⟩
      have hf3 := hf3 k2
      obtain ⟨f2, rfl⟩ : ∃ g, f2 = g + 1 := ⟨f2 - 1, by omega⟩
      rw [HX3_reads_0_eq, if_neg (show ¬ (900 : Int32) ≤ nI i by rw [fz_le, kc_900, nI_toInt (by omega)]; omega), if_neg (show ¬ (1 : Int32) = 0 by decide), if_pos k1, un6_eq g1, HX7_court_2_eq, if_pos rfl, if_pos k2, un6_eq g2]
      rcases line_sim hK g3 hT hn hSR fn fp fa pl unit fs ws steps below above fsr with hok | hbad
      · obtain ⟨kd2, fr2, to2, y2, key2, wh2, told2, names2, nodes2, words2, ch2, un2, sl2, th2, sd2, u2, q1, q2, q3, q4, q5, q6, q7, q8, q9, p1, p2, at2, en2, tk2, w3, ns2, fs2, L2, F2, R2, S2, e1, e2, e3, e4, e5⟩ := hok
        rw [un30_eq e1, un13_eq e2]
        dsimp only [lt_]
        rw [nI_o1]
        exact ih (lo + 1) (i + 1) f1 f2 _ _ _ _ _ _ _ _ _ _ _ _ _ _ _ _ _ _ _ _ _ _ _ _ _ _ _ _ _ _ _ _ _ _ _ _ _ (by omega) (by omega) (by omega) (by omega) (by omega) (fun _ => by omega) e3 e4 e5
      · obtain ⟨c1, c2, c3, c4, c5, c6, c7, c8, c9, c10, c11, c12, c13, c14, c15, c16, c17, c18, c19, c20, c21, c22, c23, c24, c25, c26, c27, c28, c29, m0, m1, m2, m3, m4, m8, m9, m10, m11, m12, e1, e2⟩ := hbad.ex
        obtain ⟨f1, rfl⟩ : ∃ g, f1 = g + 1 := ⟨f1 - 1, by omega⟩
        obtain ⟨f2, rfl⟩ : ∃ g, f2 = g + 1 := ⟨f2 - 1, by omega⟩
        rw [un30_eq e1, un13_eq e2]
        dsimp only [lt_]
        rw [nI_o1]
        obtain ⟨y1, y3, y4, y5, y6, y7, y8, y9, z4, Y1, Y3, Y5, Y7, hY⟩ := ct_badX (U := U) (n := n) (hc := hc) (und := und) (img := img) (sc := sc) (x1 := x1) (x2 := x2) (fa := c1) (pl := c2) (r9 := r9) (t9 := t9) (s9 := s9) (f := f2) m0 m1 m2 m3 m4 m8 m9 m10 m11 m12
        obtain ⟨v1, v2, v3, v4⟩ := rd_bad (T := T) (keys := keys) (n := n) (fn := c1) (fp := c2) (f := f1) (i := i + 1) c3 c4 c5 c6 c7 c8 c9 c11 c12 c13 c14 c15 c16 c17 c18 c10 c19 c20 c21 c22 c23 c24 c25 c26 c27 c28 c29
        rw [hY]
        exact ⟨Or.inr ⟨v1, rfl, v2.symm, v3.symm, rfl, v4, rfl⟩, fun e => absurd (v1.symm.trans e) (show ¬ (0 : Int32) = 1 by decide), fun _ => ⟨rfl, rfl, rfl, rfl, rfl, rfl⟩⟩
    · exact reads_endX (by omega) hf2 k1 k2 hTS hSR ht
theorem text_simX (hK : KwOk keys) (hT : TR T U n) (hn : n ≤ 900) (nm : Int64) (w : Int32) (names : Nat → Int64) (kind parts pn wt ws tw steps below above uw uo : Nat → Int32) (pl hc und img sc x1 x2 fs : Int32) (L r9 t9 s9 fsh rd fsr : Nat → Int32) : EndX (PX3_reads T nm w names keys kind parts pn wt ws tw steps below above uw uo (nI n)) (HX7_court_0 U pl L hc r9 t9 rd s9 und img fsr fs sc (nI n) x1 x2 (((287 - (0 : Int32).toInt).toNat) + 1) 0 fsh) 0 0 x2 hc r9 t9 s9 und img := by
  obtain ⟨G, hG, e0⟩ := z0_loop (U := U) (pl := pl) (hc := hc) (und := und) (img := img) (sc := sc) (p0 := nI n) (x1 := x1) (x2 := x2) (fs := fs) (L := L) (r9 := r9) (t9 := t9) (s9 := s9) (rd := rd) (fsr := fsr) 287 0 (((287 - (0 : Int32).toInt).toNat) + 1) fsh rfl (by omega) (by rw [kc_0]; omega) (fun j hj => absurd hj (by omega))
  obtain ⟨R, g, hR, e1⟩ := z1_loop (U := U) (pl := pl) (hc := hc) (und := und) (img := img) (sc := sc) (p0 := nI n) (x1 := x1) (x2 := x2) (fs := fs) (L := L) (r9 := r9) (t9 := t9) (s9 := s9) (fsr := fsr) (G := G) 90 0 (((90 - (0 : Int32).toInt).toNat) + 1) rd rfl (by omega) (by rw [kc_0]; omega) (fun j hj => absurd hj (by omega))
  rw [nI_0] at e0 e1
  rw [e0, e1, HX7_court_1_eq, if_pos (show (90 : Int32) ≤ nI 90 from by decide), PX3_reads_eq]
  dsimp only [lt_]
  rw [PX1_clear_eq, un8_eq rfl, six_cl]
  obtain ⟨kd1, fr1, to1, y1, key1, wh1, at1, en1, tk1, w1, ns1, L1, g1, g2, g3, -⟩ := ts_next (keys := keys) (lo := 0) (b := 0) hT hn (Nat.zero_le _) (Nat.le_refl _) nm w L
  rw [nI_0] at g1 g2
  rw [un6_eq g1, un6_eq g2]
  rcases line_sim hK g3 hT hn (SR_zero (names := names) (kind := kind) (parts := parts) (pn := pn) (wt := wt) (tw := tw) (uw := uw) (uo := uo) hG hR) 0 (-1) 0 pl 1 fs ws steps below above fsr with hok | hbad
  · obtain ⟨kd2, fr2, to2, y2, key2, wh2, told2, names2, nodes2, words2, ch2, un2, sl2, th2, sd2, u2, q1, q2, q3, q4, q5, q6, q7, q8, q9, p1, p2, at2, en2, tk2, w3, ns2, fs2, L2, F2, R2, S2, v1, v2, v3, v4, v5⟩ := hok
    rw [un30_eq v1, un13_eq v2]
    obtain ⟨a, ha, hTa, hen⟩ := v3.self
    have hz := reads_loopX (hc := hc) (und := und) (img := img) (sc := sc) (x1 := x1) (x2 := x2) (fn := 0) (fa := 0) (pl := pl) (fp := -1) (r9 := r9) (t9 := t9) (s9 := s9) hK hT hn (n - a) a 0 (((2147483647 - (0 : Int32).toInt).toNat) + 1) ((crtM (0 : Int32).toInt tk2.toInt en2.toInt) + 1) kd2 fr2 to2 y2 key2 wh2 told2 nodes2 words2 ch2 un2 sl2 th2 sd2 u2 names2 q1 q2 q3 q4 q5 q6 q7 q8 q9 p1 p2 at2 en2 tk2 w3 ns2 fs2 L2 F2 R2 S2 rfl ha (Nat.zero_le _) (by rw [kc_0]; omega) (by omega) (fun ht => by
      obtain ⟨h1, h2⟩ := hen ht
      unfold crtM
      rw [kc_0, ht, h1, nI_toInt (by omega), if_pos ⟨by omega, by decide⟩]
      omega) hTa v4 v5
    rw [nI_0] at hz
    exact hz
  · obtain ⟨c1, c2, c3, c4, c5, c6, c7, c8, c9, c10, c11, c12, c13, c14, c15, c16, c17, c18, c19, c20, c21, c22, c23, c24, c25, c26, c27, c28, c29, m0, m1, m2, m3, m4, m8, m9, m10, m11, m12, v1, v2⟩ := hbad.ex
    rw [un30_eq v1, un13_eq v2]
    obtain ⟨y1, y3, y4, y5, y6, y7, y8, y9, z4, Y1, Y3, Y5, Y7, hY⟩ := ct_badX (U := U) (n := n) (hc := hc) (und := und) (img := img) (sc := sc) (x1 := x1) (x2 := x2) (fa := c1) (pl := c2) (r9 := r9) (t9 := t9) (s9 := s9) (f := crtM (1 : Int32).toInt m2.toInt m1.toInt) m0 m1 m2 m3 m4 m8 m9 m10 m11 m12
    obtain ⟨v1, v2, v3, v4⟩ := rd_bad (T := T) (keys := keys) (n := n) (fn := c1) (fp := c2) (f := ((2147483647 - (0 : Int32).toInt).toNat)) (i := 0) c3 c4 c5 c6 c7 c8 c9 c11 c12 c13 c14 c15 c16 c17 c18 c10 c19 c20 c21 c22 c23 c24 c25 c26 c27 c28 c29
    rw [nI_0] at v1 v2 v3 v4
    rw [hY]
    exact ⟨Or.inr ⟨v1, rfl, v2.symm, v3.symm, rfl, v4, rfl⟩, fun e => absurd (v1.symm.trans e) (show ¬ (0 : Int32) = 1 by decide), fun _ => ⟨rfl, rfl, rfl, rfl, rfl, rfl⟩⟩
end CTX
end D3
end
section
/-! court(n) on both sides: the court that stands behind it -/
section D4
theorem sa_in {k : Nat} (hk : k < 18) {W : Nat → Int32} {K : Int32 → (Nat → Int32) → (Nat → Int32) → (Nat → Int32) × (Nat → Int32)} : ∀ (r i f : Nat) (F : Nat → Int32), 4 - i = r → i ≤ 4 → r < f → ∃ G : Nat → Int32, HX5_standAsTold_1 (nI k) W K f (nI i) F = K (nI (k + 1)) W G ∧ (∀ q : Nat, 4 * k + i ≤ q → q < 4 * k + 4 → G q = nI (q - 4 * k)) ∧ ∀ q : Nat, q < 4 * k + i ∨ 4 * k + 4 ≤ q → G q = F q := by
  intro r
  induction r with
  | zero =>
    intro i f F hr hi hf
    obtain ⟨f, rfl⟩ : ∃ g, f = g + 1 := ⟨f - 1, by omega⟩
    refine ⟨F, ?_, fun q q1 q2 => absurd q1 (by omega), fun q _ => rfl⟩
    rw [HX5_standAsTold_1_eq, if_pos (show (4 : Int32) ≤ nI i by rw [fz_le, kc_4, nI_toInt (by omega)]; omega)]
    dsimp only [lt_]
    rw [nI_o1]
  | succ r ih =>
    intro i f F hr hi hf
    obtain ⟨f, rfl⟩ : ∃ g, f = g + 1 := ⟨f - 1, by omega⟩
    rw [HX5_standAsTold_1_eq, if_neg (show ¬ (4 : Int32) ≤ nI i by rw [fz_le, kc_4, nI_toInt (by omega)]; omega)]
    dsimp only [lt_]
    rw [nI_m4 (by omega), nI_add, nI_clamp (by omega), nI_o1]
    obtain ⟨G, e, g1, g2⟩ := ih (i + 1) f (upd F (4 * k + i) (nI i)) (by omega) (by omega) (by omega)
    refine ⟨G, e, fun q q1 q2 => ?_, fun q hq => ?_⟩
    · by_cases h : q = 4 * k + i
      · rw [g2 q (by omega), h, upd_at, show 4 * k + i - 4 * k = i by omega]
      · exact g1 q (by omega) q2
    · rw [g2 q (by omega), upd_ne (by omega)]
theorem sa_out {tw : Nat → Int32} : ∀ (r k f : Nat) (W O : Nat → Int32), 18 - k = r → k ≤ 18 → r < f → ∃ W' O' : Nat → Int32, HX5_standAsTold_0 tw f (nI k) W O = (W', O') ∧ (∀ j : Nat, k ≤ j → j < 18 → W' j = tw j) ∧ (∀ j : Nat, j < k → W' j = W j) ∧ (∀ j i : Nat, k ≤ j → j < 18 → i < 4 → O' (4 * j + i) = nI i) ∧ ∀ q : Nat, q < 4 * k → O' q = O q := by
  have k18 : (18 : Int32).toInt = 18 := by decide
  intro r
  induction r with
  | zero =>
    intro k f W O hr hk hf
    obtain ⟨f, rfl⟩ : ∃ g, f = g + 1 := ⟨f - 1, by omega⟩
    refine ⟨W, O, ?_, fun j q1 q2 => absurd q1 (by omega), fun j _ => rfl, fun j i q1 q2 => absurd q1 (by omega), fun q _ => rfl⟩
    rw [HX5_standAsTold_0_eq, if_pos (show (18 : Int32) ≤ nI k by rw [fz_le, k18, nI_toInt (by omega)]; omega)]
  | succ r ih =>
    intro k f W O hr hk hf
    obtain ⟨f, rfl⟩ : ∃ g, f = g + 1 := ⟨f - 1, by omega⟩
    rw [HX5_standAsTold_0_eq, if_neg (show ¬ (18 : Int32) ≤ nI k by rw [fz_le, k18, nI_toInt (by omega)]; omega)]
    dsimp only [lt_]
    rw [nI_clamp (by omega)]
    obtain ⟨G, e, g1, g2⟩ := sa_in (k := k) (W := upd W k (tw k)) (K := fun z f1 f2 => HX5_standAsTold_0 tw f z f1 f2) (by omega) 4 0 (((2147483647 - (0 : Int32).toInt).toNat) + 1) O rfl (by omega) (by rw [kc_0]; omega)
    rw [nI_0] at e
    rw [e]
    obtain ⟨W', O', e2, a1, a2, a3, a4⟩ := ih (k + 1) f (upd W k (tw k)) G (by omega) (by omega) (by omega)
    refine ⟨W', O', e2, fun j q1 q2 => ?_, fun j q1 => ?_, fun j i q1 q2 q3 => ?_, fun q hq => ?_⟩
    · by_cases h : j = k
      · rw [a2 j (by omega), h, upd_at]
      · exact a1 j (by omega) q2
    · rw [a2 j (by omega), upd_ne (by omega)]
    · by_cases h : j = k
      · rw [a4 _ (by omega), h, g1 _ (by omega) (by omega), show 4 * k + i - 4 * k = i by omega]
      · exact a3 j i (by omega) q2 q3
    · rw [a4 q (by omega), g2 q (by omega)]
theorem sa_eq (W O tw : Nat → Int32) : ∃ W' O' : Nat → Int32, PX5_standAsTold W O tw = (W', O') ∧ (∀ j : Nat, j < 18 → W' j = tw j) ∧ ∀ j i : Nat, j < 18 → i < 4 → O' (4 * j + i) = nI i := by
  obtain ⟨W', O', e, a1, -, a3, -⟩ := sa_out (tw := tw) 18 0 (((2147483647 - (0 : Int32).toInt).toNat) + 1) W O rfl (by omega) (by rw [kc_0]; omega)
  rw [nI_0] at e
  exact ⟨W', O', by rw [PX5_standAsTold_eq]; exact e, fun j hj => a1 j (by omega) hj, fun j i hj hi => a3 j i (by omega) hj hi⟩
theorem StR_told {N : Nat} {words unsures slips throne said : Int32} {kind parts pn wt tw uw uo r told w o s : Nat → Int32} (h : CR N words unsures slips throne said kind parts pn wt tw uw uo r told) (hw : ∀ j : Nat, j < 18 → w j = tw j) (ho : ∀ j i : Nat, j < 18 → i < 4 → o (4 * j + i) = nI i) (hs : ∀ q : Nat, q < 90 → s q = told q) : StR N parts pn w o s := by
  obtain ⟨hN0, hN, -⟩ := h.N
  intro k hk
  obtain ⟨-, -, h0, h4, h5⟩ := h.k hk
  have htw : tw k = told (72 + k) := by
    obtain ⟨-, -, -, -, -, -, -, -, -, -, -, hK⟩ := h
    exact (hK.1 k hk).2.2.1
  refine ⟨by rw [hw k (by omega), htw, hs _ (by omega)], fun i hi => ?_, fun i j hi hj e => ?_⟩
  · rw [ho k i (by omega) (by omega), nI_toInt (by omega), hs _ (by omega), Int.toNat_natCast]
    exact ⟨by omega, hi, (h5 i hi).1⟩
  · rw [ho k i (by omega) (by omega), ho k j (by omega) (by omega)] at e
    exact (nI_eq (by omega) (by omega)).mp e
/-- what court has done: nothing but a refusal, or a new court stands -/
def CtD (C : Int32 × Int32 × Int32 × Int32 × Int32 × (Nat → Int32) × (Nat → Int32) × Int32 × Int32 × Int32 × Int32 × Int32 × Int32 × Int32 × Int32 × Int64 × Int32 × Int32 × Int32 × (Nat → Int64) × Int32 × Int32 × Int32 × Int32 × Int32 × Int32 × Int32 × Int32 × (Nat → Int32) × (Nat → Int32) × (Nat → Int32) × (Nat → Int32) × (Nat → Int32) × (Nat → Int32) × (Nat → Int32) × (Nat → Int32) × (Nat → Int32) × (Nat → Int32) × (Nat → Int32)) (M : Int32 × Int32 × Int32 × Int32 × Int32 × Int32 × Int32 × Int32 × Int32 × Int32 × Int32 × Int32 × Int32 × Int32 × Int32 × Int32 × Int32 × Int32 × (Nat → Int32) × (Nat → Int32) × (Nat → Int32) × (Nat → Int32) × (Nat → Int32) × (Nat → Int32) × (Nat → Int32)) (ic : Int32) (w o : Nat → Int32) (ac hc : Int32) (r9 t9 s9 : Nat → Int32) (und img : Int32) : Prop := (C.1 = -1 ∧ C.2.1 = ic ∧ C.2.2.2.2.2.1 = w ∧ C.2.2.2.2.2.2.1 = o ∧ C.2.2.2.2.2.2.2.1 = ac ∧ CtU M hc r9 t9 s9 und img) ∨ (¬ C.1 = -1 ∧ C.2.1 = 0 ∧ C.2.2.2.2.2.2.2.1 = 0 ∧ ∃ N : Nat, C.2.2.2.2.2.2.2.2.2.2.2.2.2.2.2.2.2.2.2.2.1 = nI N ∧ CR N C.2.2.2.2.2.2.2.2.2.2.2.2.2.2.2.2.2.2.2.2.2.1 C.2.2.2.2.2.2.2.2.2.2.2.2.2.2.2.2.2.2.2.2.2.2.2.1 C.2.2.2.2.2.2.2.2.2.2.2.2.2.2.2.2.2.2.2.2.2.2.2.2.1 C.2.2.2.2.2.2.2.2.2.2.2.2.2.2.2.2.2.2.2.2.2.2.2.2.2.1 C.2.2.2.2.2.2.2.2.2.2.2.2.2.2.2.2.2.2.2.2.2.2.2.2.2.2.1 C.2.2.2.2.2.2.2.2.2.2.2.2.2.2.2.2.2.2.2.2.2.2.2.2.2.2.2.2.1 C.2.2.2.2.2.2.2.2.2.2.2.2.2.2.2.2.2.2.2.2.2.2.2.2.2.2.2.2.2.1 C.2.2.2.2.2.2.2.2.2.2.2.2.2.2.2.2.2.2.2.2.2.2.2.2.2.2.2.2.2.2.1 C.2.2.2.2.2.2.2.2.2.2.2.2.2.2.2.2.2.2.2.2.2.2.2.2.2.2.2.2.2.2.2.1 C.2.2.2.2.2.2.2.2.2.2.2.2.2.2.2.2.2.2.2.2.2.2.2.2.2.2.2.2.2.2.2.2.2.1 C.2.2.2.2.2.2.2.2.2.2.2.2.2.2.2.2.2.2.2.2.2.2.2.2.2.2.2.2.2.2.2.2.2.2.2.2.2.1 C.2.2.2.2.2.2.2.2.2.2.2.2.2.2.2.2.2.2.2.2.2.2.2.2.2.2.2.2.2.2.2.2.2.2.2.2.2.2 M.2.2.2.2.2.2.2.2.2.2.2.2.2.2.2.2.2.2.2.1 M.2.2.2.2.2.2.2.2.2.2.2.2.2.2.2.2.2.2.2.2.2.1 ∧ StR N C.2.2.2.2.2.2.2.2.2.2.2.2.2.2.2.2.2.2.2.2.2.2.2.2.2.2.2.2.2.1 C.2.2.2.2.2.2.2.2.2.2.2.2.2.2.2.2.2.2.2.2.2.2.2.2.2.2.2.2.2.2.1 C.2.2.2.2.2.1 C.2.2.2.2.2.2.1 M.2.2.2.2.2.2.2.2.2.2.2.2.2.2.2.2.2.2.2.2.2.2.2.1 ∧ M.2.2.2.2.2.2.2.2.2.2.2.2.2.1 = 1 ∧ M.2.2.2.2.2.2.2.2.2.2.2.2.2.2.1 = 0 ∧ M.2.2.2.2.2.2.2.2.2.2.2.2.2.2.2.1 = 0 ∧ C.1 = C.2.2.2.2.2.2.2.2.2.2.2.2.2.2.2.2.2.2.2.2.1)
section CD
variable {T U : Nat → Int32} {t : Nat} {keys : Nat → Int64}
theorem court_pureX (hK : KwOk keys) (hT : TR T U t) (ht : t ≤ 900) (p lf ic ac hc undos images scale : Int32) (w o r told st : Nat → Int32) (iK_latestPlace : Int32) (iR_faultNumber : Int32) (iR_faultPlace : Int32) (iR_end : Int32) (iR_tokenKind : Int32) (iR_tokenFrom : Int32) (iR_tokenTo : Int32) (iR_tokenName : Int64) (iR_tokenKey : Int32) (iR_tokenWhole : Int32) (iR_courtTold : Int32) (fR_names : Nat → Int64) (iD_nodes : Int32) (iD_words : Int32) (iD_chances : Int32) (iD_unsures : Int32) (iD_slips : Int32) (iD_throneNode : Int32) (iD_saidWorth : Int32) (iD_unit : Int32) (fD_kind : Nat → Int32) (fD_parts : Nat → Int32) (fD_partNodes : Nat → Int32) (fD_weights : Nat → Int32) (fD_weightSums : Nat → Int32) (fD_toldWorths : Nat → Int32) (fD_steps : Nat → Int32) (fD_below : Nat → Int32) (fD_above : Nat → Int32) (fD_unsureWords : Nat → Int32) (fD_unsureWorths : Nat → Int32) (iM_size : Int32) (iM_at : Int32) (iM_end : Int32) (iM_token : Int32) (iM_whole : Int32) (iM_nameSize : Int32) (iM_place : Int32) (fM_letters : Nat → Int32) (iM_failed : Int32) (fM_fresh : Nat → Int32) (fM_read : Nat → Int32) (fM_fresher : Nat → Int32) (iM_fresherSize : Int32) : CtD (PX6_court ic lf iK_latestPlace w o ac iR_faultNumber iR_faultPlace (nI t) T iR_end iR_tokenKind iR_tokenFrom iR_tokenTo iR_tokenName iR_tokenKey iR_tokenWhole iR_courtTold fR_names keys iD_nodes iD_words iD_chances iD_unsures iD_slips iD_throneNode iD_saidWorth iD_unit fD_kind fD_parts fD_partNodes fD_weights fD_weightSums fD_toldWorths fD_steps fD_below fD_above fD_unsureWords fD_unsureWorths p) (PX7_court U (nI t) iM_size iM_at iM_end iM_token iM_whole iM_nameSize lf iM_place fM_letters iM_failed hc r fM_fresh told fM_read st undos images fM_fresher iM_fresherSize scale p) ic w o ac hc r told st undos images := by
  rw [PX6_court_eq, PX7_court_eq, PX7_good_eq, un2_eq (t := ((0 : Int32), (0 : Int32))) rfl, in_eq]
  dsimp only [lt_]
  rw [kc_0, nI_toInt (by omega)]
  have hrf : ∀ q : Int32, PX6_refuse q = (-1, q) := fun q => PX6_refuse_eq q
  by_cases h0 : p.toInt < 0
  · rw [if_pos (show p < 0 by rw [fz_lt, kc_0]; exact h0), if_neg (show ¬ ((0 : Int) ≤ p.toInt ∧ p.toInt ≤ (t : Int)) by omega), if_pos rfl, un2_eq (hrf 2), un2_eq (no_eq 2)]
    exact Or.inl ⟨rfl, rfl, rfl, rfl, rfl, rfl, rfl, rfl, rfl, rfl, rfl⟩
  · rw [if_neg (show ¬ p < 0 by rw [fz_lt, kc_0]; exact h0)]
    by_cases h1 : p.toInt ≤ t
    · obtain ⟨n, hn, rfl⟩ : ∃ n : Nat, n ≤ t ∧ p = nI n := ⟨p.toInt.toNat, by omega, by rw [fz_eq, nI_toInt (by omega)]; omega⟩
      rw [if_pos (show nI n ≤ nI t by rw [nI_leI (by omega) (by omega)]; exact hn), if_pos (show (0 : Int) ≤ (nI n).toInt ∧ (nI n).toInt ≤ (t : Int) by rw [nI_toInt (by omega)]; omega), if_neg (show ¬ (1 : Int32) = 0 by decide)]
      generalize hcq : PX3_reads _ _ _ _ _ _ _ _ _ _ _ _ _ _ _ _ _ = c
      generalize hm : HX7_court_0 _ _ _ _ _ _ _ _ _ _ _ _ _ _ _ _ _ _ _ = m
      have hz := text_simX hK (hT.le hn) (by omega) iR_tokenName iR_tokenWhole fR_names fD_kind fD_parts fD_partNodes fD_weights fD_weightSums fD_toldWorths fD_steps fD_below fD_above fD_unsureWords fD_unsureWorths iM_place hc undos images scale 0 0 iM_fresherSize fM_letters r told st fM_fresh fM_read fM_fresher
      rw [hcq, kc_0, hm] at hz
      obtain ⟨c0, c1, c2, c3, c4, c5, c6, c7, c8, c9, c10, c11, c12, c13, c14, c15, c16, c17, c18, c19, c20, c21, c22, c23, c24, c25, c26, c27, c28, c29, c30, c31⟩ := c
      rw [un32_eq rfl]
      obtain ⟨hz, hx, hu⟩ := hz
      rcases hz with ⟨z1, -⟩ | ⟨z1, -⟩
      · obtain rfl : c0 = 1 := z1
        rw [if_neg (show ¬ (1 : Int32) = 0 by decide)]
        obtain ⟨N, g1, g2, g3, g4, g5, g6⟩ := hx rfl
        have g1 : c13 = nI N := g1
        obtain ⟨W2, O2, e, s1, s2⟩ := sa_eq w o c26
        rw [un2_eq e]
        obtain ⟨hN0, hN, -⟩ := g2.N
        refine Or.inr ⟨fun q => ?_, rfl, rfl, N, g1, g2, StR_told g2 s1 s2 g3, g4, g5, g6, rfl⟩
        have q : c13 = -1 := q
        rw [g1, fz_eq, nI_toInt (by omega), m1_int] at q
        omega
      · obtain rfl : c0 = 0 := z1
        rw [if_pos rfl, un2_eq (hrf 4)]
        exact Or.inl ⟨rfl, rfl, rfl, rfl, rfl, hu rfl⟩
    · rw [if_neg (show ¬ p ≤ nI t by rw [fz_le, nI_toInt (by omega)]; exact h1), if_neg (show ¬ ((0 : Int) ≤ p.toInt ∧ p.toInt ≤ (t : Int)) by omega), if_pos rfl, un2_eq (hrf 2), un2_eq (no_eq 2)]
      exact Or.inl ⟨rfl, rfl, rfl, rfl, rfl, rfl, rfl, rfl, rfl, rfl, rfl⟩
end CD
def CtO6 (C : Int32 × Int32 × Int32 × Int32 × Int32 × (Nat → Int32) × (Nat → Int32) × Int32 × Int32 × Int32 × Int32 × Int32 × Int32 × Int32 × Int32 × Int64 × Int32 × Int32 × Int32 × (Nat → Int64) × Int32 × Int32 × Int32 × Int32 × Int32 × Int32 × Int32 × Int32 × (Nat → Int32) × (Nat → Int32) × (Nat → Int32) × (Nat → Int32) × (Nat → Int32) × (Nat → Int32) × (Nat → Int32) × (Nat → Int32) × (Nat → Int32) × (Nat → Int32) × (Nat → Int32)) (r6 : Int32) (a6 : Int32) (l6 : Int32) (ic6 : Int32) (w6 : Nat → Int32) (o6 : Nat → Int32) (ac6 : Int32) (f6 : Int32) (nodesD : Int32) (wordsD : Int32) (unsuresD : Int32) (slipsD : Int32) (throneD : Int32) (saidD : Int32) (kindD : Nat → Int32) (partsD : Nat → Int32) (pnD : Nat → Int32) (wtD : Nat → Int32) (twD : Nat → Int32) (uwD : Nat → Int32) (uoD : Nat → Int32) (unitD : Int32) (wsD : Nat → Int32) (stepsD : Nat → Int32) (belowD : Nat → Int32) (aboveD : Nat → Int32) : Prop := C.1 = r6 ∧ C.2.2.2.2.2.2.2.2.2.2.1 = a6 ∧ C.2.2.2.1 = l6 ∧ C.2.1 = ic6 ∧ C.2.2.2.2.2.1 = w6 ∧ C.2.2.2.2.2.2.1 = o6 ∧ C.2.2.2.2.2.2.2.1 = ac6 ∧ C.2.2.1 = f6 ∧ C.2.2.2.2.2.2.2.2.2.2.2.2.2.2.2.2.2.2.2.2.1 = nodesD ∧ C.2.2.2.2.2.2.2.2.2.2.2.2.2.2.2.2.2.2.2.2.2.1 = wordsD ∧ C.2.2.2.2.2.2.2.2.2.2.2.2.2.2.2.2.2.2.2.2.2.2.2.1 = unsuresD ∧ C.2.2.2.2.2.2.2.2.2.2.2.2.2.2.2.2.2.2.2.2.2.2.2.2.1 = slipsD ∧ C.2.2.2.2.2.2.2.2.2.2.2.2.2.2.2.2.2.2.2.2.2.2.2.2.2.1 = throneD ∧ C.2.2.2.2.2.2.2.2.2.2.2.2.2.2.2.2.2.2.2.2.2.2.2.2.2.2.1 = saidD ∧ C.2.2.2.2.2.2.2.2.2.2.2.2.2.2.2.2.2.2.2.2.2.2.2.2.2.2.2.2.1 = kindD ∧ C.2.2.2.2.2.2.2.2.2.2.2.2.2.2.2.2.2.2.2.2.2.2.2.2.2.2.2.2.2.1 = partsD ∧ C.2.2.2.2.2.2.2.2.2.2.2.2.2.2.2.2.2.2.2.2.2.2.2.2.2.2.2.2.2.2.1 = pnD ∧ C.2.2.2.2.2.2.2.2.2.2.2.2.2.2.2.2.2.2.2.2.2.2.2.2.2.2.2.2.2.2.2.1 = wtD ∧ C.2.2.2.2.2.2.2.2.2.2.2.2.2.2.2.2.2.2.2.2.2.2.2.2.2.2.2.2.2.2.2.2.2.1 = twD ∧ C.2.2.2.2.2.2.2.2.2.2.2.2.2.2.2.2.2.2.2.2.2.2.2.2.2.2.2.2.2.2.2.2.2.2.2.2.2.1 = uwD ∧ C.2.2.2.2.2.2.2.2.2.2.2.2.2.2.2.2.2.2.2.2.2.2.2.2.2.2.2.2.2.2.2.2.2.2.2.2.2.2 = uoD ∧ C.2.2.2.2.2.2.2.2.2.2.2.2.2.2.2.2.2.2.2.2.2.2.2.2.2.2.2.1 = unitD ∧ C.2.2.2.2.2.2.2.2.2.2.2.2.2.2.2.2.2.2.2.2.2.2.2.2.2.2.2.2.2.2.2.2.1 = wsD ∧ C.2.2.2.2.2.2.2.2.2.2.2.2.2.2.2.2.2.2.2.2.2.2.2.2.2.2.2.2.2.2.2.2.2.2.1 = stepsD ∧ C.2.2.2.2.2.2.2.2.2.2.2.2.2.2.2.2.2.2.2.2.2.2.2.2.2.2.2.2.2.2.2.2.2.2.2.1 = belowD ∧ C.2.2.2.2.2.2.2.2.2.2.2.2.2.2.2.2.2.2.2.2.2.2.2.2.2.2.2.2.2.2.2.2.2.2.2.2.1 = aboveD
def CtO7 (M : Int32 × Int32 × Int32 × Int32 × Int32 × Int32 × Int32 × Int32 × Int32 × Int32 × Int32 × Int32 × Int32 × Int32 × Int32 × Int32 × Int32 × Int32 × (Nat → Int32) × (Nat → Int32) × (Nat → Int32) × (Nat → Int32) × (Nat → Int32) × (Nat → Int32) × (Nat → Int32)) (r7 : Int32) (a7 : Int32) (l7 : Int32) (f7 : Int32) (hc7 : Int32) (rr7 : Nat → Int32) (told7 : Nat → Int32) (st7 : Nat → Int32) (undos7 : Int32) (images7 : Int32) (scale7 : Int32) : Prop := M.1 = r7 ∧ M.2.2.1 = a7 ∧ M.2.2.2.2.2.2.2.2.2.1 = l7 ∧ M.2.2.2.2.2.2.2.2.2.2.2.1 = f7 ∧ M.2.2.2.2.2.2.2.2.2.2.2.2.2.1 = hc7 ∧ M.2.2.2.2.2.2.2.2.2.2.2.2.2.2.2.2.2.2.2.1 = rr7 ∧ M.2.2.2.2.2.2.2.2.2.2.2.2.2.2.2.2.2.2.2.2.2.1 = told7 ∧ M.2.2.2.2.2.2.2.2.2.2.2.2.2.2.2.2.2.2.2.2.2.2.2.1 = st7 ∧ M.2.2.2.2.2.2.2.2.2.2.2.2.2.2.1 = undos7 ∧ M.2.2.2.2.2.2.2.2.2.2.2.2.2.2.2.1 = images7 ∧ M.2.2.2.2.2.2.2.2.2.2.2.2.2.2.2.2.2.1 = scale7
def CtCX (T : Nat → Int32) (keys : Nat → Int64) (ts lf ic : Int32) (w o : Nat → Int32) (ac p : Int32) (r6 : Int32) (a6 : Int32) (l6 : Int32) (ic6 : Int32) (w6 : Nat → Int32) (o6 : Nat → Int32) (ac6 : Int32) (f6 : Int32) (nodesD : Int32) (wordsD : Int32) (unsuresD : Int32) (slipsD : Int32) (throneD : Int32) (saidD : Int32) (kindD : Nat → Int32) (partsD : Nat → Int32) (pnD : Nat → Int32) (wtD : Nat → Int32) (twD : Nat → Int32) (uwD : Nat → Int32) (uoD : Nat → Int32) (unitD : Int32) (wsD : Nat → Int32) (stepsD : Nat → Int32) (belowD : Nat → Int32) (aboveD : Nat → Int32) : Prop := ∃ (iK_latestPlace : Int32) (iR_faultNumber : Int32) (iR_faultPlace : Int32) (iR_end : Int32) (iR_tokenKind : Int32) (iR_tokenFrom : Int32) (iR_tokenTo : Int32) (iR_tokenName : Int64) (iR_tokenKey : Int32) (iR_tokenWhole : Int32) (iR_courtTold : Int32) (fR_names : Nat → Int64) (iD_nodes : Int32) (iD_words : Int32) (iD_chances : Int32) (iD_unsures : Int32) (iD_slips : Int32) (iD_throneNode : Int32) (iD_saidWorth : Int32) (iD_unit : Int32) (fD_kind : Nat → Int32) (fD_parts : Nat → Int32) (fD_partNodes : Nat → Int32) (fD_weights : Nat → Int32) (fD_weightSums : Nat → Int32) (fD_toldWorths : Nat → Int32) (fD_steps : Nat → Int32) (fD_below : Nat → Int32) (fD_above : Nat → Int32) (fD_unsureWords : Nat → Int32) (fD_unsureWorths : Nat → Int32), CtO6 (PX6_court ic lf iK_latestPlace w o ac iR_faultNumber iR_faultPlace ts T iR_end iR_tokenKind iR_tokenFrom iR_tokenTo iR_tokenName iR_tokenKey iR_tokenWhole iR_courtTold fR_names keys iD_nodes iD_words iD_chances iD_unsures iD_slips iD_throneNode iD_saidWorth iD_unit fD_kind fD_parts fD_partNodes fD_weights fD_weightSums fD_toldWorths fD_steps fD_below fD_above fD_unsureWords fD_unsureWorths p) r6 a6 l6 ic6 w6 o6 ac6 f6 nodesD wordsD unsuresD slipsD throneD saidD kindD partsD pnD wtD twD uwD uoD unitD wsD stepsD belowD aboveD
def CtMX (U : Nat → Int32) (ts lf hc : Int32) (r told st : Nat → Int32) (undos images scale p : Int32) (r7 : Int32) (a7 : Int32) (l7 : Int32) (f7 : Int32) (hc7 : Int32) (rr7 : Nat → Int32) (told7 : Nat → Int32) (st7 : Nat → Int32) (undos7 : Int32) (images7 : Int32) (scale7 : Int32) : Prop := ∃ (iM_size : Int32) (iM_at : Int32) (iM_end : Int32) (iM_token : Int32) (iM_whole : Int32) (iM_nameSize : Int32) (iM_place : Int32) (fM_letters : Nat → Int32) (iM_failed : Int32) (fM_fresh : Nat → Int32) (fM_read : Nat → Int32) (fM_fresher : Nat → Int32) (iM_fresherSize : Int32), CtO7 (PX7_court U ts iM_size iM_at iM_end iM_token iM_whole iM_nameSize lf iM_place fM_letters iM_failed hc r fM_fresh told fM_read st undos images fM_fresher iM_fresherSize scale p) r7 a7 l7 f7 hc7 rr7 told7 st7 undos7 images7 scale7
def CtG (r6 : Int32) (nodes : Int32) (words : Int32) (unsures : Int32) (slips : Int32) (throne : Int32) (said : Int32) (kind : Nat → Int32) (parts : Nat → Int32) (pn : Nat → Int32) (wt : Nat → Int32) (tw : Nat → Int32) (uw : Nat → Int32) (uo : Nat → Int32) (unit : Int32) (ws : Nat → Int32) (steps : Nat → Int32) (below : Nat → Int32) (above : Nat → Int32) (nodesD : Int32) (wordsD : Int32) (unsuresD : Int32) (slipsD : Int32) (throneD : Int32) (saidD : Int32) (kindD : Nat → Int32) (partsD : Nat → Int32) (pnD : Nat → Int32) (wtD : Nat → Int32) (twD : Nat → Int32) (uwD : Nat → Int32) (uoD : Nat → Int32) (unitD : Int32) (wsD : Nat → Int32) (stepsD : Nat → Int32) (belowD : Nat → Int32) (aboveD : Nat → Int32) (nodesN : Int32) (wordsN : Int32) (unsuresN : Int32) (slipsN : Int32) (throneN : Int32) (saidN : Int32) (kindN : Nat → Int32) (partsN : Nat → Int32) (pnN : Nat → Int32) (wtN : Nat → Int32) (twN : Nat → Int32) (uwN : Nat → Int32) (uoN : Nat → Int32) (unitN : Int32) (wsN : Nat → Int32) (stepsN : Nat → Int32) (belowN : Nat → Int32) (aboveN : Nat → Int32) : Prop := (r6.toInt = -1 ∧ nodesN = nodes ∧ wordsN = words ∧ unsuresN = unsures ∧ slipsN = slips ∧ throneN = throne ∧ saidN = said ∧ kindN = kind ∧ partsN = parts ∧ pnN = pn ∧ wtN = wt ∧ twN = tw ∧ uwN = uw ∧ uoN = uo ∧ unitN = unit ∧ wsN = ws ∧ stepsN = steps ∧ belowN = below ∧ aboveN = above) ∨ (0 ≤ r6.toInt ∧ nodesN = nodesD ∧ wordsN = wordsD ∧ unsuresN = unsuresD ∧ slipsN = slipsD ∧ throneN = throneD ∧ saidN = saidD ∧ kindN = kindD ∧ partsN = partsD ∧ pnN = pnD ∧ wtN = wtD ∧ twN = twD ∧ uwN = uwD ∧ uoN = uoD ∧ unitN = unitD ∧ wsN = wsD ∧ stepsN = stepsD ∧ belowN = belowD ∧ aboveN = aboveD)
theorem ct_joinX {T U : Nat → Int32} {t : Nat} {keys : Nat → Int64} {nodes words unsures slips throne said : Int32} {kind parts pn wt tw uw uo w o : Nat → Int32} {ic : Int32} {iw0 io0 iw1 io1 iw2 io2 : Nat → Int32} {ac : Int32} {an ao as : Nat → Int32} {hc : Int32} {r told st und kept : Nat → Int32} {undos images : Int32} {scale : Int32} {unit : Int32} {ws : Nat → Int32} {steps : Nat → Int32} {below : Nat → Int32} {above : Nat → Int32} (h : Rel nodes words unsures slips throne said kind parts pn wt tw uw uo w o ic iw0 io0 iw1 io1 iw2 io2 ac an ao as hc r told st und kept undos images) (hK : KwOk keys) (hT : TR T U t) (ht : t ≤ 900) {lf p : Int32} {r6 : Int32} {a6 : Int32} {l6 : Int32} {ic6 : Int32} {w6 : Nat → Int32} {o6 : Nat → Int32} {ac6 : Int32} {f6 : Int32} {nodesD : Int32} {wordsD : Int32} {unsuresD : Int32} {slipsD : Int32} {throneD : Int32} {saidD : Int32} {kindD : Nat → Int32} {partsD : Nat → Int32} {pnD : Nat → Int32} {wtD : Nat → Int32} {twD : Nat → Int32} {uwD : Nat → Int32} {uoD : Nat → Int32} {unitD : Int32} {wsD : Nat → Int32} {stepsD : Nat → Int32} {belowD : Nat → Int32} {aboveD : Nat → Int32} {r7 : Int32} {a7 : Int32} {l7 : Int32} {f7 : Int32} {hc7 : Int32} {rr7 : Nat → Int32} {told7 : Nat → Int32} {st7 : Nat → Int32} {undos7 : Int32} {images7 : Int32} {scale7 : Int32} {nodesN : Int32} {wordsN : Int32} {unsuresN : Int32} {slipsN : Int32} {throneN : Int32} {saidN : Int32} {kindN : Nat → Int32} {partsN : Nat → Int32} {pnN : Nat → Int32} {wtN : Nat → Int32} {twN : Nat → Int32} {uwN : Nat → Int32} {uoN : Nat → Int32} {unitN : Int32} {wsN : Nat → Int32} {stepsN : Nat → Int32} {belowN : Nat → Int32} {aboveN : Nat → Int32} (h6 : CtCX T keys (nI t) lf ic w o ac p r6 a6 l6 ic6 w6 o6 ac6 f6 nodesD wordsD unsuresD slipsD throneD saidD kindD partsD pnD wtD twD uwD uoD unitD wsD stepsD belowD aboveD) (h7 : CtMX U (nI t) lf hc r told st undos images scale p r7 a7 l7 f7 hc7 rr7 told7 st7 undos7 images7 scale7) (hg : CtG r6 nodes words unsures slips throne said kind parts pn wt tw uw uo unit ws steps below above nodesD wordsD unsuresD slipsD throneD saidD kindD partsD pnD wtD twD uwD uoD unitD wsD stepsD belowD aboveD nodesN wordsN unsuresN slipsN throneN saidN kindN partsN pnN wtN twN uwN uoN unitN wsN stepsN belowN aboveN) : r6 = r7 ∧ l6 = l7 ∧ f6 = f7 ∧ (∃ t2 : Nat, t2 ≤ 900 ∧ a6 = nI t2 ∧ a7 = nI t2 ∧ TR T U t2) ∧ Rel nodesN wordsN unsuresN slipsN throneN saidN kindN partsN pnN wtN twN uwN uoN w6 o6 ic6 iw0 io0 iw1 io1 iw2 io2 ac6 an ao as hc7 rr7 told7 st7 und kept undos7 images7 ∧ ¬ r7 = 0 := by
  obtain ⟨x_iK_latestPlace, x_iR_faultNumber, x_iR_faultPlace, x_iR_end, x_iR_tokenKind, x_iR_tokenFrom, x_iR_tokenTo, x_iR_tokenName, x_iR_tokenKey, x_iR_tokenWhole, x_iR_courtTold, x_fR_names, x_iD_nodes, x_iD_words, x_iD_chances, x_iD_unsures, x_iD_slips, x_iD_throneNode, x_iD_saidWorth, x_iD_unit, x_fD_kind, x_fD_parts, x_fD_partNodes, x_fD_weights, x_fD_weightSums, x_fD_toldWorths, x_fD_steps, x_fD_below, x_fD_above, x_fD_unsureWords, x_fD_unsureWorths, x⟩ := h6
  obtain ⟨y_iM_size, y_iM_at, y_iM_end, y_iM_token, y_iM_whole, y_iM_nameSize, y_iM_place, y_fM_letters, y_iM_failed, y_fM_fresh, y_fM_read, y_fM_fresher, y_iM_fresherSize, y⟩ := h7
  obtain ⟨e1, e2, e3, e4, e5⟩ := court_pure hK hT ht p ic lf x_iK_latestPlace w o ac x_iR_faultNumber x_iR_faultPlace x_iR_end x_iR_tokenKind x_iR_tokenFrom x_iR_tokenTo x_iR_tokenName x_iR_tokenKey x_iR_tokenWhole x_iR_courtTold x_fR_names x_iD_nodes x_iD_words x_iD_chances x_iD_unsures x_iD_slips x_iD_throneNode x_iD_saidWorth x_iD_unit x_fD_kind x_fD_parts x_fD_partNodes x_fD_weights x_fD_weightSums x_fD_toldWorths x_fD_steps x_fD_below x_fD_above x_fD_unsureWords x_fD_unsureWorths y_iM_size y_iM_at y_iM_end y_iM_token y_iM_whole y_iM_nameSize lf y_iM_place y_fM_letters y_iM_failed hc r y_fM_fresh told y_fM_read st undos images y_fM_fresher y_iM_fresherSize scale
  have hd := court_pureX hK hT ht p lf ic ac hc undos images scale w o r told st x_iK_latestPlace x_iR_faultNumber x_iR_faultPlace x_iR_end x_iR_tokenKind x_iR_tokenFrom x_iR_tokenTo x_iR_tokenName x_iR_tokenKey x_iR_tokenWhole x_iR_courtTold x_fR_names x_iD_nodes x_iD_words x_iD_chances x_iD_unsures x_iD_slips x_iD_throneNode x_iD_saidWorth x_iD_unit x_fD_kind x_fD_parts x_fD_partNodes x_fD_weights x_fD_weightSums x_fD_toldWorths x_fD_steps x_fD_below x_fD_above x_fD_unsureWords x_fD_unsureWorths y_iM_size y_iM_at y_iM_end y_iM_token y_iM_whole y_iM_nameSize y_iM_place y_fM_letters y_iM_failed y_fM_fresh y_fM_read y_fM_fresher y_iM_fresherSize
  have e2 := e2 rfl
  generalize PX6_court ic lf x_iK_latestPlace w o ac x_iR_faultNumber x_iR_faultPlace (nI t) T x_iR_end x_iR_tokenKind x_iR_tokenFrom x_iR_tokenTo x_iR_tokenName x_iR_tokenKey x_iR_tokenWhole x_iR_courtTold x_fR_names keys x_iD_nodes x_iD_words x_iD_chances x_iD_unsures x_iD_slips x_iD_throneNode x_iD_saidWorth x_iD_unit x_fD_kind x_fD_parts x_fD_partNodes x_fD_weights x_fD_weightSums x_fD_toldWorths x_fD_steps x_fD_below x_fD_above x_fD_unsureWords x_fD_unsureWorths p = C at x e1 e2 e3 e4 e5 hd
  generalize PX7_court U (nI t) y_iM_size y_iM_at y_iM_end y_iM_token y_iM_whole y_iM_nameSize lf y_iM_place y_fM_letters y_iM_failed hc r y_fM_fresh told y_fM_read st undos images y_fM_fresher y_iM_fresherSize scale p = M at y e1 e2 e3 e4 e5 hd
  obtain ⟨x1, x11, x4, x2, x6, x7, x8, x3, x21, x22, x24, x25, x26, x27, x29, x30, x31, x32, x34, x38, x39, x28, x33, x35, x36, x37⟩ := x
  obtain ⟨y1, y3, y10, y12, y14, y20, y22, y24, y15, y16, y18⟩ := y
  rw [x1, y1] at e1
  rw [x4, y10] at e2
  rw [x3, y12] at e3
  rw [x11, y3] at e5
  refine ⟨e1, e2, e3, ?_, ?_, ?_⟩
  · rcases e5 with ⟨q1, q2⟩ | ⟨q1, q2⟩
    · exact ⟨t, ht, q1, q2, hT⟩
    · exact ⟨0, by omega, q1, q2, fun j hj => absurd hj (by omega)⟩
  · rcases hd with ⟨d1, d2, d3, d4, d5, d6, d7, d8, d9, d10, d11⟩ | ⟨d1, d2, d3, N, d4, d5, d6, d7, d8, d9, d10⟩
    · have hr : r6.toInt = -1 := by rw [← x1, d1]; exact m1_int
      rcases hg with ⟨-, rfl, rfl, rfl, rfl, rfl, rfl, rfl, rfl, rfl, rfl, rfl, rfl, rfl, rfl, rfl, rfl, rfl, rfl⟩ | ⟨q, -⟩
      · rw [← x2, ← x6, ← x7, ← x8, ← y14, ← y20, ← y22, ← y24, ← y15, ← y16, d2, d3, d4, d5, d6, d7, d8, d9, d10, d11]
        exact h
      · exact absurd q (by omega)
    · rcases hg with ⟨q, -⟩ | ⟨-, rfl, rfl, rfl, rfl, rfl, rfl, rfl, rfl, rfl, rfl, rfl, rfl, rfl, rfl, rfl, rfl, rfl, rfl⟩
      · exact absurd ((fz_eq _ _).mpr (by rw [x1, q, m1_int])) d1
      · rw [x22, x24, x25, x26, x27, x29, x30, x31, x32, x34, x38, x39] at d5
        rw [x30, x31, x6, x7] at d6
        rw [← y14, ← y15, ← y16, ← y20, ← y22, ← y24, ← x2, ← x8, ← x21]
        exact Or.inr ⟨N, 0, 0, d4, d7, d3.trans nI_0.symm, d8.trans nI_0.symm, by omega, d2.trans nI_0.symm, d9.trans nI_0.symm, by omega, d5, d6, trivial, fun q => absurd q (by omega), fun q => absurd q (by omega), fun q => absurd q (by omega)⟩
  · rcases hd with ⟨d1, -⟩ | ⟨d1, d2, d3, N, d4, d5, d6, d7, d8, d9, d10⟩
    · rw [← e1, ← x1, d1]; decide
    · rw [← e1, ← x1, d10, d4]; exact nI_ne0 d5.1 (by have := d5.2.1; omega)
end D4
end
section
/-! a fool, a minister, on both sides -/
section D5
theorem why_0 (x : Int32) : PX7_why 0 x = 1 := by rw [PX7_why_eq, if_pos rfl]
theorem why_1 : PX7_why 1 1 = 0 := by rw [PX7_why_eq, if_neg (by decide), if_neg (by decide)]
theorem why_2 : PX7_why 1 0 = 2 := by rw [PX7_why_eq, if_neg (by decide), if_pos rfl]
theorem nine_i : (9 : Int32).toInt = 9 := by decide
theorem env_of {p : Int32} (h : 0 ≤ p.toInt ∧ p.toInt ≤ 9) : p = 0 ∨ p = 1 ∨ p = 2 ∨ p = 3 ∨ p = 4 ∨ p = 5 ∨ p = 6 ∨ p = 7 ∨ p = 8 ∨ p = 9 := by
  have e : p = nI p.toInt.toNat := by rw [fz_eq, nI_toInt (by omega)]; omega
  rcases (show p.toInt.toNat = 0 ∨ p.toInt.toNat = 1 ∨ p.toInt.toNat = 2 ∨ p.toInt.toNat = 3 ∨ p.toInt.toNat = 4 ∨ p.toInt.toNat = 5 ∨ p.toInt.toNat = 6 ∨ p.toInt.toNat = 7 ∨ p.toInt.toNat = 8 ∨ p.toInt.toNat = 9 by omega) with h | h | h | h | h | h | h | h | h | h <;> rw [h] at e <;> rw [e] <;> decide
theorem rests_dec {p : Int32} (h : 0 ≤ p.toInt ∧ p.toInt ≤ 9) : HX6_rests_0 p 0 (((2147483647 - (0 : Int32).toInt).toNat) + 1) 0 0 = ((PX7_seekRests p).1, 0) ∧ HX6_rest_0 p 0 (((2147483647 - (0 : Int32).toInt).toNat) + 1) 0 = ((PX7_seekRests p).2, 0) := by
  rcases env_of h with rfl | rfl | rfl | rfl | rfl | rfl | rfl | rfl | rfl | rfl <;> decide +kernel
section RL5
variable {nodes words unsures slips throne said : Int32} {kind parts pn wt tw uw uo w o : Nat → Int32} {ic : Int32} {iw0 io0 iw1 io1 iw2 io2 : Nat → Int32} {ac : Int32} {an ao as : Nat → Int32} {hc : Int32} {r told st und kept : Nat → Int32} {undos images : Int32}
theorem speaks_join (h : Rel nodes words unsures slips throne said kind parts pn wt tw uw uo w o ic iw0 io0 iw1 io1 iw2 io2 ac an ao as hc r told st und kept undos images) {p0 p1 p2 p3 q6 rf q7 t1 t2 : Int32} (e6 : PX6_speaks nodes p0 p1 p2 p3 = (q6, rf)) (e7 : PX7_speaks hc p0 p1 p2 p3 = (q7, t1, t2)) : q6 = q7 ∧ rf = t2 := by
  have key : ∃ q f t : Int32, PX6_speaks nodes p0 p1 p2 p3 = (q, f) ∧ PX7_speaks hc p0 p1 p2 p3 = (q, t, f) := by
    rcases h with ⟨rfl, hx⟩ | ⟨N, c, d, rfl, rfl, rfl, rfl, hc, rfl, rfl, hd, hC, hS, hU, hI⟩
    · obtain ⟨h2, h3, h4, h5, rfl, rfl, rfl, rfl, rfl⟩ := hx
      refine ⟨-100, 1, 0, ?_, ?_⟩
      · rw [PX6_speaks_eq, ln_0, un2_eq rfl, if_neg (show ¬ (1 : Int32) = 0 by decide)]
      · rw [PX7_speaks_eq, PX7_good_eq, un2_eq rfl]
        dsimp only [lt_]
        rw [why_0, if_neg (show ¬ (1 : Int32) = 0 by decide), if_pos rfl]
    · obtain ⟨hN0, hN, hr⟩ := hC.N
      by_cases hv : 0 ≤ p0.toInt ∧ p0.toInt ≤ 9
      · refine ⟨if p3 = 0 then PX6_shareOf p0 p1 p2 else PX6_shareOf p0 p2 p1, 0, 0, ?_, ?_⟩
        · rw [PX6_speaks_eq, ln_N hN0 hN, kc_0, nine_i, if_pos hv, un2_eq rfl, if_pos rfl]
          dsimp only [lt_]
          by_cases h3 : p3 = 0
          · rw [if_pos h3, if_pos h3]
          · rw [if_neg h3, if_neg h3]
        · rw [PX7_speaks_eq, PX7_good_eq, un2_eq rfl]
          dsimp only [lt_]
          rw [in_eq, kc_0, nine_i, if_pos hv, why_1, if_pos rfl]
          by_cases h3 : p3 = 0
          · rw [if_pos h3, if_pos h3]
            rfl
          · rw [if_neg h3, if_neg h3]
            rfl
      · refine ⟨-100, 2, 0, ?_, ?_⟩
        · rw [PX6_speaks_eq, ln_N hN0 hN, kc_0, nine_i, if_neg hv, un2_eq rfl, if_neg (show ¬ (1 : Int32) = 0 by decide)]
        · rw [PX7_speaks_eq, PX7_good_eq, un2_eq rfl]
          dsimp only [lt_]
          rw [in_eq, kc_0, nine_i, if_neg hv, why_2, if_neg (show ¬ (2 : Int32) = 0 by decide), if_neg (show ¬ (2 : Int32) = 1 by decide)]
  obtain ⟨_, _, _, g6, g7⟩ := key
  have x := g6.symm.trans e6
  have y := g7.symm.trans e7
  simp only [Prod.mk.injEq] at x y
  obtain ⟨rfl, rfl⟩ := x
  obtain ⟨rfl, -, rfl⟩ := y
  exact ⟨rfl, rfl⟩
theorem rests_join (h : Rel nodes words unsures slips throne said kind parts pn wt tw uw uo w o ic iw0 io0 iw1 io1 iw2 io2 ac an ao as hc r told st und kept undos images) {p0 fr q6 rf q7 t1 t2 f7 : Int32} (e6 : PX6_rests nodes p0 = (q6, rf)) (e7 : PX7_rests hc fr p0 = (q7, t1, t2, f7)) : q6 = q7 ∧ rf = t2 := by
  have key : ∃ q f t f2 : Int32, PX6_rests nodes p0 = (q, f) ∧ PX7_rests hc fr p0 = (q, t, f, f2) := by
    rcases h with ⟨rfl, hx⟩ | ⟨N, c, d, rfl, rfl, rfl, rfl, hc, rfl, rfl, hd, hC, hS, hU, hI⟩
    · obtain ⟨h2, h3, h4, h5, rfl, rfl, rfl, rfl, rfl⟩ := hx
      refine ⟨-1, 1, 0, fr, ?_, ?_⟩
      · rw [PX6_rests_eq, ln_0, un2_eq rfl, if_neg (show ¬ (1 : Int32) = 0 by decide)]
      · rw [PX7_rests_eq, PX7_good_eq, un2_eq rfl]
        dsimp only [lt_]
        rw [why_0, if_neg (show ¬ (1 : Int32) = 0 by decide), if_pos rfl, no_eq, un2_eq rfl]
    · obtain ⟨hN0, hN, hr⟩ := hC.N
      by_cases hv : 0 ≤ p0.toInt ∧ p0.toInt ≤ 9
      · refine ⟨(PX7_seekRests p0).1, 0, 0, (PX7_seekRests p0).2, ?_, ?_⟩
        · rw [PX6_rests_eq, ln_N hN0 hN, kc_0, nine_i, if_pos hv, un2_eq rfl, if_pos rfl]
          exact (rests_dec hv).1
        · rw [PX7_rests_eq, PX7_good_eq, un2_eq rfl]
          dsimp only [lt_]
          rw [in_eq, kc_0, nine_i, if_pos hv, why_1, if_pos rfl]
          rfl
      · refine ⟨-1, 2, 0, fr, ?_, ?_⟩
        · rw [PX6_rests_eq, ln_N hN0 hN, kc_0, nine_i, if_neg hv, un2_eq rfl, if_neg (show ¬ (1 : Int32) = 0 by decide)]
        · rw [PX7_rests_eq, PX7_good_eq, un2_eq rfl]
          dsimp only [lt_]
          rw [in_eq, kc_0, nine_i, if_neg hv, why_2, if_neg (show ¬ (2 : Int32) = 0 by decide), if_neg (show ¬ (2 : Int32) = 1 by decide), no_eq, un2_eq rfl]
  obtain ⟨_, _, _, _, g6, g7⟩ := key
  have x := g6.symm.trans e6
  have y := g7.symm.trans e7
  simp only [Prod.mk.injEq] at x y
  obtain ⟨rfl, rfl⟩ := x
  obtain ⟨rfl, -, rfl, -⟩ := y
  exact ⟨rfl, rfl⟩
theorem rest_join (h : Rel nodes words unsures slips throne said kind parts pn wt tw uw uo w o ic iw0 io0 iw1 io1 iw2 io2 ac an ao as hc r told st und kept undos images) {p0 fr q6 rf q7 t1 t2 f7 : Int32} (e6 : PX6_rest nodes p0 = (q6, rf)) (e7 : PX7_rest hc fr p0 = (q7, t1, t2, f7)) : q6 = q7 ∧ rf = t2 := by
  have key : ∃ q f t f2 : Int32, PX6_rest nodes p0 = (q, f) ∧ PX7_rest hc fr p0 = (q, t, f, f2) := by
    rcases h with ⟨rfl, hx⟩ | ⟨N, c, d, rfl, rfl, rfl, rfl, hc, rfl, rfl, hd, hC, hS, hU, hI⟩
    · obtain ⟨h2, h3, h4, h5, rfl, rfl, rfl, rfl, rfl⟩ := hx
      refine ⟨-1, 1, 0, fr, ?_, ?_⟩
      · rw [PX6_rest_eq, ln_0, un2_eq rfl, if_neg (show ¬ (1 : Int32) = 0 by decide)]
      · rw [PX7_rest_eq, PX7_good_eq, un2_eq rfl]
        dsimp only [lt_]
        rw [why_0, if_neg (show ¬ (1 : Int32) = 0 by decide), if_pos rfl, no_eq, un2_eq rfl]
    · obtain ⟨hN0, hN, hr⟩ := hC.N
      by_cases hv : 0 ≤ p0.toInt ∧ p0.toInt ≤ 9
      · refine ⟨(PX7_seekRests p0).2, 0, 0, (PX7_seekRests p0).2, ?_, ?_⟩
        · rw [PX6_rest_eq, ln_N hN0 hN, kc_0, nine_i, if_pos hv, un2_eq rfl, if_pos rfl]
          exact (rests_dec hv).2
        · rw [PX7_rest_eq, PX7_good_eq, un2_eq rfl]
          dsimp only [lt_]
          rw [in_eq, kc_0, nine_i, if_pos hv, why_1, if_pos rfl]
          rfl
      · refine ⟨-1, 2, 0, fr, ?_, ?_⟩
        · rw [PX6_rest_eq, ln_N hN0 hN, kc_0, nine_i, if_neg hv, un2_eq rfl, if_neg (show ¬ (1 : Int32) = 0 by decide)]
        · rw [PX7_rest_eq, PX7_good_eq, un2_eq rfl]
          dsimp only [lt_]
          rw [in_eq, kc_0, nine_i, if_neg hv, why_2, if_neg (show ¬ (2 : Int32) = 0 by decide), if_neg (show ¬ (2 : Int32) = 1 by decide), no_eq, un2_eq rfl]
  obtain ⟨_, _, _, _, g6, g7⟩ := key
  have x := g6.symm.trans e6
  have y := g7.symm.trans e7
  simp only [Prod.mk.injEq] at x y
  obtain ⟨rfl, rfl⟩ := x
  obtain ⟨rfl, -, rfl, -⟩ := y
  exact ⟨rfl, rfl⟩
end RL5
end D5
end
section
/-! what a court that was read keeps by itself -/
section E1
theorem lt_ap {α β : Type} (a : α) (f : α → β) : lt_ a f = f a := lt_eq rfl
theorem lt_Q {α β : Type} {Q : β → Prop} {v : α} {f : α → β} (h : ∀ x, v = x → Q (f x)) : Q (lt_ v f) := h v rfl
theorem ite_Q {β : Type} {Q : β → Prop} {c : Prop} {d : Decidable c} {a b : β} (ha : c → Q a) (hb : ¬ c → Q b) : Q (@ite β c d a b) := by
  by_cases h : c
  · rw [if_pos h]; exact ha h
  · rw [if_neg h]; exact hb h
theorem un2_Q {A0 A1 B : Type} {Q : B → Prop} {t : A0 × A1} {f : A0 → A1 → B} (h : ∀ a0 a1, t = (a0, a1) → Q (f a0 a1)) : Q (un2_ t f) := h _ _ rfl
theorem un3_Q {A0 A1 A2 B : Type} {Q : B → Prop} {t : A0 × A1 × A2} {f : A0 → A1 → A2 → B} (h : ∀ a0 a1 a2, t = (a0, a1, a2) → Q (f a0 a1 a2)) : Q (un3_ t f) := h _ _ _ rfl
theorem un4_Q {A0 A1 A2 A3 B : Type} {Q : B → Prop} {t : A0 × A1 × A2 × A3} {f : A0 → A1 → A2 → A3 → B} (h : ∀ a0 a1 a2 a3, t = (a0, a1, a2, a3) → Q (f a0 a1 a2 a3)) : Q (un4_ t f) := h _ _ _ _ rfl
theorem un5_Q {A0 A1 A2 A3 A4 B : Type} {Q : B → Prop} {t : A0 × A1 × A2 × A3 × A4} {f : A0 → A1 → A2 → A3 → A4 → B} (h : ∀ a0 a1 a2 a3 a4, t = (a0, a1, a2, a3, a4) → Q (f a0 a1 a2 a3 a4)) : Q (un5_ t f) := h _ _ _ _ _ rfl
theorem un6_Q {A0 A1 A2 A3 A4 A5 B : Type} {Q : B → Prop} {t : A0 × A1 × A2 × A3 × A4 × A5} {f : A0 → A1 → A2 → A3 → A4 → A5 → B} (h : ∀ a0 a1 a2 a3 a4 a5, t = (a0, a1, a2, a3, a4, a5) → Q (f a0 a1 a2 a3 a4 a5)) : Q (un6_ t f) := h _ _ _ _ _ _ rfl
theorem un7_Q {A0 A1 A2 A3 A4 A5 A6 B : Type} {Q : B → Prop} {t : A0 × A1 × A2 × A3 × A4 × A5 × A6} {f : A0 → A1 → A2 → A3 → A4 → A5 → A6 → B} (h : ∀ a0 a1 a2 a3 a4 a5 a6, t = (a0, a1, a2, a3, a4, a5, a6) → Q (f a0 a1 a2 a3 a4 a5 a6)) : Q (un7_ t f) := h _ _ _ _ _ _ _ rfl
theorem un8_Q {A0 A1 A2 A3 A4 A5 A6 A7 B : Type} {Q : B → Prop} {t : A0 × A1 × A2 × A3 × A4 × A5 × A6 × A7} {f : A0 → A1 → A2 → A3 → A4 → A5 → A6 → A7 → B} (h : ∀ a0 a1 a2 a3 a4 a5 a6 a7, t = (a0, a1, a2, a3, a4, a5, a6, a7) → Q (f a0 a1 a2 a3 a4 a5 a6 a7)) : Q (un8_ t f) := h _ _ _ _ _ _ _ _ rfl
theorem un9_Q {A0 A1 A2 A3 A4 A5 A6 A7 A8 B : Type} {Q : B → Prop} {t : A0 × A1 × A2 × A3 × A4 × A5 × A6 × A7 × A8} {f : A0 → A1 → A2 → A3 → A4 → A5 → A6 → A7 → A8 → B} (h : ∀ a0 a1 a2 a3 a4 a5 a6 a7 a8, t = (a0, a1, a2, a3, a4, a5, a6, a7, a8) → Q (f a0 a1 a2 a3 a4 a5 a6 a7 a8)) : Q (un9_ t f) := h _ _ _ _ _ _ _ _ _ rfl
theorem un10_Q {A0 A1 A2 A3 A4 A5 A6 A7 A8 A9 B : Type} {Q : B → Prop} {t : A0 × A1 × A2 × A3 × A4 × A5 × A6 × A7 × A8 × A9} {f : A0 → A1 → A2 → A3 → A4 → A5 → A6 → A7 → A8 → A9 → B} (h : ∀ a0 a1 a2 a3 a4 a5 a6 a7 a8 a9, t = (a0, a1, a2, a3, a4, a5, a6, a7, a8, a9) → Q (f a0 a1 a2 a3 a4 a5 a6 a7 a8 a9)) : Q (un10_ t f) := h _ _ _ _ _ _ _ _ _ _ rfl
theorem un11_Q {A0 A1 A2 A3 A4 A5 A6 A7 A8 A9 A10 B : Type} {Q : B → Prop} {t : A0 × A1 × A2 × A3 × A4 × A5 × A6 × A7 × A8 × A9 × A10} {f : A0 → A1 → A2 → A3 → A4 → A5 → A6 → A7 → A8 → A9 → A10 → B} (h : ∀ a0 a1 a2 a3 a4 a5 a6 a7 a8 a9 a10, t = (a0, a1, a2, a3, a4, a5, a6, a7, a8, a9, a10) → Q (f a0 a1 a2 a3 a4 a5 a6 a7 a8 a9 a10)) : Q (un11_ t f) := h _ _ _ _ _ _ _ _ _ _ _ rfl
theorem un12_Q {A0 A1 A2 A3 A4 A5 A6 A7 A8 A9 A10 A11 B : Type} {Q : B → Prop} {t : A0 × A1 × A2 × A3 × A4 × A5 × A6 × A7 × A8 × A9 × A10 × A11} {f : A0 → A1 → A2 → A3 → A4 → A5 → A6 → A7 → A8 → A9 → A10 → A11 → B} (h : ∀ a0 a1 a2 a3 a4 a5 a6 a7 a8 a9 a10 a11, t = (a0, a1, a2, a3, a4, a5, a6, a7, a8, a9, a10, a11) → Q (f a0 a1 a2 a3 a4 a5 a6 a7 a8 a9 a10 a11)) : Q (un12_ t f) := h _ _ _ _ _ _ _ _ _ _ _ _ rfl
theorem un13_Q {A0 A1 A2 A3 A4 A5 A6 A7 A8 A9 A10 A11 A12 B : Type} {Q : B → Prop} {t : A0 × A1 × A2 × A3 × A4 × A5 × A6 × A7 × A8 × A9 × A10 × A11 × A12} {f : A0 → A1 → A2 → A3 → A4 → A5 → A6 → A7 → A8 → A9 → A10 → A11 → A12 → B} (h : ∀ a0 a1 a2 a3 a4 a5 a6 a7 a8 a9 a10 a11 a12, t = (a0, a1, a2, a3, a4, a5, a6, a7, a8, a9, a10, a11, a12) → Q (f a0 a1 a2 a3 a4 a5 a6 a7 a8 a9 a10 a11 a12)) : Q (un13_ t f) := h _ _ _ _ _ _ _ _ _ _ _ _ _ rfl
theorem un16_Q {A0 A1 A2 A3 A4 A5 A6 A7 A8 A9 A10 A11 A12 A13 A14 A15 B : Type} {Q : B → Prop} {t : A0 × A1 × A2 × A3 × A4 × A5 × A6 × A7 × A8 × A9 × A10 × A11 × A12 × A13 × A14 × A15} {f : A0 → A1 → A2 → A3 → A4 → A5 → A6 → A7 → A8 → A9 → A10 → A11 → A12 → A13 → A14 → A15 → B} (h : ∀ a0 a1 a2 a3 a4 a5 a6 a7 a8 a9 a10 a11 a12 a13 a14 a15, t = (a0, a1, a2, a3, a4, a5, a6, a7, a8, a9, a10, a11, a12, a13, a14, a15) → Q (f a0 a1 a2 a3 a4 a5 a6 a7 a8 a9 a10 a11 a12 a13 a14 a15)) : Q (un16_ t f) := h _ _ _ _ _ _ _ _ _ _ _ _ _ _ _ _ rfl
theorem un21_Q {A0 A1 A2 A3 A4 A5 A6 A7 A8 A9 A10 A11 A12 A13 A14 A15 A16 A17 A18 A19 A20 B : Type} {Q : B → Prop} {t : A0 × A1 × A2 × A3 × A4 × A5 × A6 × A7 × A8 × A9 × A10 × A11 × A12 × A13 × A14 × A15 × A16 × A17 × A18 × A19 × A20} {f : A0 → A1 → A2 → A3 → A4 → A5 → A6 → A7 → A8 → A9 → A10 → A11 → A12 → A13 → A14 → A15 → A16 → A17 → A18 → A19 → A20 → B} (h : ∀ a0 a1 a2 a3 a4 a5 a6 a7 a8 a9 a10 a11 a12 a13 a14 a15 a16 a17 a18 a19 a20, t = (a0, a1, a2, a3, a4, a5, a6, a7, a8, a9, a10, a11, a12, a13, a14, a15, a16, a17, a18, a19, a20) → Q (f a0 a1 a2 a3 a4 a5 a6 a7 a8 a9 a10 a11 a12 a13 a14 a15 a16 a17 a18 a19 a20)) : Q (un21_ t f) := h _ _ _ _ _ _ _ _ _ _ _ _ _ _ _ _ _ _ _ _ _ rfl
theorem un23_Q {A0 A1 A2 A3 A4 A5 A6 A7 A8 A9 A10 A11 A12 A13 A14 A15 A16 A17 A18 A19 A20 A21 A22 B : Type} {Q : B → Prop} {t : A0 × A1 × A2 × A3 × A4 × A5 × A6 × A7 × A8 × A9 × A10 × A11 × A12 × A13 × A14 × A15 × A16 × A17 × A18 × A19 × A20 × A21 × A22} {f : A0 → A1 → A2 → A3 → A4 → A5 → A6 → A7 → A8 → A9 → A10 → A11 → A12 → A13 → A14 → A15 → A16 → A17 → A18 → A19 → A20 → A21 → A22 → B} (h : ∀ a0 a1 a2 a3 a4 a5 a6 a7 a8 a9 a10 a11 a12 a13 a14 a15 a16 a17 a18 a19 a20 a21 a22, t = (a0, a1, a2, a3, a4, a5, a6, a7, a8, a9, a10, a11, a12, a13, a14, a15, a16, a17, a18, a19, a20, a21, a22) → Q (f a0 a1 a2 a3 a4 a5 a6 a7 a8 a9 a10 a11 a12 a13 a14 a15 a16 a17 a18 a19 a20 a21 a22)) : Q (un23_ t f) := h _ _ _ _ _ _ _ _ _ _ _ _ _ _ _ _ _ _ _ _ _ _ _ rfl
theorem un30_Q {A0 A1 A2 A3 A4 A5 A6 A7 A8 A9 A10 A11 A12 A13 A14 A15 A16 A17 A18 A19 A20 A21 A22 A23 A24 A25 A26 A27 A28 A29 B : Type} {Q : B → Prop} {t : A0 × A1 × A2 × A3 × A4 × A5 × A6 × A7 × A8 × A9 × A10 × A11 × A12 × A13 × A14 × A15 × A16 × A17 × A18 × A19 × A20 × A21 × A22 × A23 × A24 × A25 × A26 × A27 × A28 × A29} {f : A0 → A1 → A2 → A3 → A4 → A5 → A6 → A7 → A8 → A9 → A10 → A11 → A12 → A13 → A14 → A15 → A16 → A17 → A18 → A19 → A20 → A21 → A22 → A23 → A24 → A25 → A26 → A27 → A28 → A29 → B} (h : ∀ a0 a1 a2 a3 a4 a5 a6 a7 a8 a9 a10 a11 a12 a13 a14 a15 a16 a17 a18 a19 a20 a21 a22 a23 a24 a25 a26 a27 a28 a29, t = (a0, a1, a2, a3, a4, a5, a6, a7, a8, a9, a10, a11, a12, a13, a14, a15, a16, a17, a18, a19, a20, a21, a22, a23, a24, a25, a26, a27, a28, a29) → Q (f a0 a1 a2 a3 a4 a5 a6 a7 a8 a9 a10 a11 a12 a13 a14 a15 a16 a17 a18 a19 a20 a21 a22 a23 a24 a25 a26 a27 a28 a29)) : Q (un30_ t f) := h _ _ _ _ _ _ _ _ _ _ _ _ _ _ _ _ _ _ _ _ _ _ _ _ _ _ _ _ _ _ rfl
theorem un32_Q {A0 A1 A2 A3 A4 A5 A6 A7 A8 A9 A10 A11 A12 A13 A14 A15 A16 A17 A18 A19 A20 A21 A22 A23 A24 A25 A26 A27 A28 A29 A30 A31 B : Type} {Q : B → Prop} {t : A0 × A1 × A2 × A3 × A4 × A5 × A6 × A7 × A8 × A9 × A10 × A11 × A12 × A13 × A14 × A15 × A16 × A17 × A18 × A19 × A20 × A21 × A22 × A23 × A24 × A25 × A26 × A27 × A28 × A29 × A30 × A31} {f : A0 → A1 → A2 → A3 → A4 → A5 → A6 → A7 → A8 → A9 → A10 → A11 → A12 → A13 → A14 → A15 → A16 → A17 → A18 → A19 → A20 → A21 → A22 → A23 → A24 → A25 → A26 → A27 → A28 → A29 → A30 → A31 → B} (h : ∀ a0 a1 a2 a3 a4 a5 a6 a7 a8 a9 a10 a11 a12 a13 a14 a15 a16 a17 a18 a19 a20 a21 a22 a23 a24 a25 a26 a27 a28 a29 a30 a31, t = (a0, a1, a2, a3, a4, a5, a6, a7, a8, a9, a10, a11, a12, a13, a14, a15, a16, a17, a18, a19, a20, a21, a22, a23, a24, a25, a26, a27, a28, a29, a30, a31) → Q (f a0 a1 a2 a3 a4 a5 a6 a7 a8 a9 a10 a11 a12 a13 a14 a15 a16 a17 a18 a19 a20 a21 a22 a23 a24 a25 a26 a27 a28 a29 a30 a31)) : Q (un32_ t f) := h _ _ _ _ _ _ _ _ _ _ _ _ _ _ _ _ _ _ _ _ _ _ _ _ _ _ _ _ _ _ _ _ rfl
/-- sums, the greatest, what is joined: over the parts as told -/
def sI (f : Nat → Int32) (b : Nat) : Nat → Int32
  | 0 => 0
  | m + 1 => sI f b m + f (b + m)
def sT (steps pn : Nat → Int32) (b : Nat) : Nat → Int32
  | 0 => 0
  | m + 1 => if sT steps pn b m < steps (pn (b + m)).toNatClampNeg + 1 then steps (pn (b + m)).toNatClampNeg + 1 else sT steps pn b m
def sB (below pn : Nat → Int32) (b : Nat) (z : Int32) : Nat → Int32
  | 0 => z
  | m + 1 => sB below pn b z m ||| below (pn (b + m)).toNatClampNeg
def sA1 (pn : Nat → Int32) (k n : Nat) (v : Int32) : Nat → Int32
  | 0 => v
  | m + 1 => if pn (4 * n + m) = nI k then sA1 pn k n v m ||| ((1 : Int32) <<< (nI n &&& 31)) else sA1 pn k n v m
def sA (parts pn : Nat → Int32) (k : Nat) : Nat → Int32
  | 0 => 0
  | n + 1 => sA1 pn k n (sA parts pn k n) (parts n).toNatClampNeg
def uI (kind ws : Nat → Int32) : Nat → Int32
  | 0 => 1
  | k + 1 => if kind k = 3 then uI kind ws k * ws k else uI kind ws k
theorem sI_congr {f g : Nat → Int32} {b : Nat} : ∀ (m : Nat), (∀ i : Nat, i < m → g (b + i) = f (b + i)) → sI g b m = sI f b m
  | 0, _ => rfl
  | m + 1, h => by rw [sI, sI, sI_congr m (fun i hi => h i (by omega)), h m (by omega)]
theorem sT_congr {s t f g : Nat → Int32} {b : Nat} : ∀ (m : Nat), (∀ i : Nat, i < m → g (b + i) = f (b + i) ∧ t (f (b + i)).toNatClampNeg = s (f (b + i)).toNatClampNeg) → sT t g b m = sT s f b m
  | 0, _ => rfl
  | m + 1, h => by rw [sT, sT, sT_congr m (fun i hi => h i (by omega)), (h m (by omega)).1, (h m (by omega)).2]
theorem sB_congr {s t f g : Nat → Int32} {b : Nat} {z : Int32} : ∀ (m : Nat), (∀ i : Nat, i < m → g (b + i) = f (b + i) ∧ t (f (b + i)).toNatClampNeg = s (f (b + i)).toNatClampNeg) → sB t g b z m = sB s f b z m
  | 0, _ => rfl
  | m + 1, h => by rw [sB, sB, sB_congr m (fun i hi => h i (by omega)), (h m (by omega)).1, (h m (by omega)).2]
theorem sA1_congr {f g : Nat → Int32} {k n : Nat} {v : Int32} : ∀ (m : Nat), (∀ i : Nat, i < m → g (4 * n + i) = f (4 * n + i)) → sA1 g k n v m = sA1 f k n v m
  | 0, _ => rfl
  | m + 1, h => by rw [sA1, sA1, sA1_congr m (fun i hi => h i (by omega)), h m (by omega)]
theorem sA_congr {p q f g : Nat → Int32} {k : Nat} : ∀ (n : Nat), (∀ j : Nat, j < n → q j = p j ∧ ∀ i : Nat, i < (p j).toNatClampNeg → g (4 * j + i) = f (4 * j + i)) → sA q g k n = sA p f k n
  | 0, _ => rfl
  | n + 1, h => by rw [sA, sA, sA_congr n (fun j hj => h j (by omega)), (h n (by omega)).1, sA1_congr _ (h n (by omega)).2]
theorem uI_congr {a b f g : Nat → Int32} : ∀ (n : Nat), (∀ j : Nat, j < n → b j = a j ∧ g j = f j) → uI b g n = uI a f n
  | 0, _ => rfl
  | n + 1, h => by rw [uI, uI, uI_congr n (fun j hj => h j (by omega)), (h n (by omega)).1, (h n (by omega)).2]
theorem sA1_none {pn : Nat → Int32} {k n : Nat} {v : Int32} : ∀ (m : Nat), (∀ i : Nat, i < m → ¬ pn (4 * n + i) = nI k) → sA1 pn k n v m = v
  | 0, _ => rfl
  | m + 1, h => by rw [sA1, if_neg (h m (by omega)), sA1_none m (fun i hi => h i (by omega))]
theorem sA_none {parts pn : Nat → Int32} {k : Nat} : ∀ (n : Nat), (∀ j : Nat, j < n → ∀ i : Nat, i < (parts j).toNatClampNeg → ¬ pn (4 * j + i) = nI k) → sA parts pn k n = 0
  | 0, _ => rfl
  | n + 1, h => by rw [sA, sA_none n (fun j hj => h j (by omega)), sA1_none _ (h n (by omega))]
/-- a node with q parts -/
def ND (k q : Nat) (kind pn wt ws steps below : Nat → Int32) : Prop := q ≤ 4 ∧ ws k = sI wt (4 * k) q ∧ steps k = sT steps pn (4 * k) q ∧ below k = sB below pn (4 * k) (if kind k = 0 then (1 : Int32) <<< (nI k &&& 31) else 0) q ∧ (∀ i : Nat, i < q → ∃ j : Nat, j < k ∧ pn (4 * k + i) = nI j) ∧ (∀ i j : Nat, i < j → j < q → ¬ pn (4 * k + i) = pn (4 * k + j))
def CI (N : Nat) (unit : Int32) (kind parts pn wt ws steps below above : Nat → Int32) : Prop := N ≤ 18 ∧ (∀ k : Nat, k < N → ∃ q : Nat, parts k = nI q ∧ ND k q kind pn wt ws steps below) ∧ unit = uI kind ws N ∧ ∀ k : Nat, k < N → above k = sA parts pn k N
/-- between two lines -/
def CIS (nodes unit : Int32) (kind parts pn wt ws steps below above : Nat → Int32) : Prop := ∃ N : Nat, nodes = nI N ∧ CI N unit kind parts pn wt ws steps below above
/-- within a line: the node N is begun and has m parts -/
def CP (N m : Nat) (unit : Int32) (kind parts pn wt ws steps below above : Nat → Int32) : Prop := N < 18 ∧ parts N = nI m ∧ ND N m kind pn wt ws steps below ∧ (∀ k : Nat, k < N → ∃ q : Nat, parts k = nI q ∧ ND k q kind pn wt ws steps below) ∧ unit = uI kind ws N ∧ (∀ k : Nat, k < N → above k = sA1 pn k N (sA parts pn k N) m) ∧ above N = 0
section NDS
variable {kind parts pn wt ws steps below above : Nat → Int32}
theorem ND.congr {k q : Nat} {kind' pn' wt' ws' steps' below' : Nat → Int32} (hk : k < 18) (h : ND k q kind pn wt ws steps below) (e1 : kind' k = kind k) (e2 : ∀ i : Nat, i < q → pn' (4 * k + i) = pn (4 * k + i)) (e3 : ∀ i : Nat, i < q → wt' (4 * k + i) = wt (4 * k + i)) (e4 : ws' k = ws k) (e5 : ∀ j : Nat, j ≤ k → steps' j = steps j) (e6 : ∀ j : Nat, j ≤ k → below' j = below j) : ND k q kind' pn' wt' ws' steps' below' := by
  obtain ⟨h1, h2, h3, h4, h5, h6⟩ := h
  have hj : ∀ i : Nat, i < q → ∀ f g : Nat → Int32, (∀ j : Nat, j ≤ k → g j = f j) → g (pn (4 * k + i)).toNatClampNeg = f (pn (4 * k + i)).toNatClampNeg := fun i hi f g e => by
    obtain ⟨j, q1, q2⟩ := h5 i hi
    rw [q2, nI_clamp (by omega)]
    exact e j (by omega)
  refine ⟨h1, ?_, ?_, ?_, fun i hi => ?_, fun i j a b => ?_⟩
  · rw [e4, h2]; exact (sI_congr q (fun i hi => e3 i hi)).symm
  · rw [e5 k (Nat.le_refl _), h3]; exact (sT_congr q (fun i hi => ⟨e2 i hi, hj i hi _ _ e5⟩)).symm
  · rw [e6 k (Nat.le_refl _), h4, e1]; exact (sB_congr q (fun i hi => ⟨e2 i hi, hj i hi _ _ e6⟩)).symm
  · rw [e2 i hi]; exact h5 i hi
  · rw [e2 i (by omega), e2 j b]; exact h6 i j a b
theorem CI.beg {N : Nat} {unit p0 : Int32} (h : CI N unit kind parts pn wt ws steps below above) (hN : N < 18) : CP N 0 unit (upd kind N p0) (upd parts N 0) pn wt (upd ws N 0) (upd steps N 0) (upd below N (if p0 = 0 then (1 : Int32) <<< (nI N &&& 31) else 0)) (upd above N 0) := by
  obtain ⟨-, h2, h3, h4⟩ := h
  refine ⟨hN, upd_at _ _ _, ⟨Nat.zero_le _, upd_at _ _ _, upd_at _ _ _, ?_, fun i hi => absurd hi (by omega), fun i j _ hj => absurd hj (by omega)⟩, fun k hk => ?_, ?_, fun k hk => ?_, upd_at _ _ _⟩
  · rw [upd_at, upd_at]; rfl
  · obtain ⟨q, q1, q2⟩ := h2 k hk
    exact ⟨q, by rw [upd_ne (by omega)]; exact q1, q2.congr (by omega) (upd_ne (by omega)) (fun _ _ => rfl) (fun _ _ => rfl) (upd_ne (by omega)) (fun j hj => upd_ne (by omega)) (fun j hj => upd_ne (by omega))⟩
  · rw [h3]
    exact (uI_congr N (fun j hj => ⟨upd_ne (by omega), upd_ne (by omega)⟩)).symm
  · rw [upd_ne (by omega), h4 k hk]
    exact (sA_congr N (fun j hj => ⟨upd_ne (by omega), fun _ _ => rfl⟩)).symm
theorem CP.add {N m j : Nat} {unit w : Int32} (h : CP N m unit kind parts pn wt ws steps below above) (hm : m < 4) (hj : j < N) (hn : ¬ ∃ i : Nat, i < m ∧ pn (4 * N + i) = nI j) : CP N (m + 1) unit kind (upd parts N (nI (m + 1))) (upd pn (4 * N + m) (nI j)) (upd wt (4 * N + m) w) (upd ws N (ws N + w)) (upd steps N (if steps N < steps j + 1 then steps j + 1 else steps N)) (upd below N (below N ||| below j)) (upd above j (above j ||| ((1 : Int32) <<< (nI N &&& 31)))) := by
  obtain ⟨hN, h1, ⟨d1, d2, d3, d4, d5, d6⟩, h3, h4, h5, h6⟩ := h
  have hpn : ∀ i : Nat, i < m → upd pn (4 * N + m) (nI j) (4 * N + i) = pn (4 * N + i) := fun i hi => upd_ne (by omega)
  have hlow : ∀ k : Nat, k < N → ∀ i : Nat, i < 4 → upd pn (4 * N + m) (nI j) (4 * k + i) = pn (4 * k + i) := fun k hk i hi => upd_ne (by omega)
  have hcl : (nI j).toNatClampNeg = j := nI_clamp (by omega)
  refine ⟨hN, upd_at _ _ _, ⟨by omega, ?_, ?_, ?_, fun i hi => ?_, fun i k a b => ?_⟩, fun k hk => ?_, ?_, fun k hk => ?_, ?_⟩
  · rw [upd_at, sI, sI_congr m (fun i hi => upd_ne (by omega)), upd_at, d2]
  · rw [upd_at, sT, upd_at, hcl, upd_ne (show ¬ j = N by omega), d3]
    rw [sT_congr m (s := steps) (f := pn) (fun i hi => ⟨hpn i hi, by obtain ⟨q, q1, q2⟩ := d5 i hi; rw [q2, nI_clamp (by omega)]; exact upd_ne (by omega)⟩)]
  · rw [upd_at, sB, upd_at, hcl, upd_ne (show ¬ j = N by omega), d4]
    rw [sB_congr m (s := below) (f := pn) (fun i hi => ⟨hpn i hi, by obtain ⟨q, q1, q2⟩ := d5 i hi; rw [q2, nI_clamp (by omega)]; exact upd_ne (by omega)⟩)]
  · by_cases e : i = m
    · rw [e, upd_at]; exact ⟨j, hj, rfl⟩
    · rw [hpn i (by omega)]; exact d5 i (by omega)
  · by_cases e : k = m
    · rw [e, upd_at, hpn i (by omega)]; exact fun c => hn ⟨i, by omega, c⟩
    · rw [hpn i (by omega), hpn k (by omega)]; exact d6 i k a (by omega)
  · obtain ⟨q, q1, q2⟩ := h3 k hk
    exact ⟨q, by rw [upd_ne (by omega)]; exact q1, q2.congr (by omega) rfl (fun i hi => hlow k hk i (by have := q2.1; omega)) (fun i hi => upd_ne (by have := q2.1; omega)) (upd_ne (by omega)) (fun i hi => upd_ne (by omega)) (fun i hi => upd_ne (by omega))⟩
  · rw [h4]
    exact (uI_congr N (fun i hi => ⟨rfl, upd_ne (by omega)⟩)).symm
  · have ep : sA (upd parts N (nI (m + 1))) (upd pn (4 * N + m) (nI j)) k N = sA parts pn k N := sA_congr N (fun i hi => ⟨upd_ne (by omega), fun i2 hi2 => by
      obtain ⟨q, q1, q2⟩ := h3 i hi
      rw [q1, nI_clamp (by have := q2.1; omega)] at hi2
      exact hlow i hi i2 (by have := q2.1; omega)⟩)
    rw [sA1, upd_at, sA1_congr m hpn, ep]
    by_cases e : k = j
    · rw [e, upd_at, if_pos rfl, ← e, h5 k hk]
    · rw [upd_ne e, if_neg (fun c => e ((nI_eq (by omega) (by omega)).mp c).symm), h5 k hk]
  · rw [upd_ne (by omega)]; exact h6
theorem CP.fin {N m : Nat} {unit : Int32} (h : CP N m unit kind parts pn wt ws steps below above) : CI (N + 1) (if kind N = 3 then unit * ws N else unit) kind parts pn wt ws steps below above := by
  obtain ⟨hN, h1, hD, h3, h4, h5, h6⟩ := h
  have hm := hD.1
  refine ⟨by omega, fun k hk => ?_, ?_, fun k hk => ?_⟩
  · by_cases e : k = N
    · rw [e]; exact ⟨m, h1, hD⟩
    · exact h3 k (by omega)
  · rw [h4]; rfl
  · rw [sA, h1, nI_clamp (by omega)]
    by_cases e : k = N
    · rw [e, h6]
      have hz : ∀ i : Nat, i < m → ¬ pn (4 * N + i) = nI N := fun i hi c => by
        obtain ⟨q, q1, q2⟩ := hD.2.2.2.2.1 i hi
        have := (nI_eq (by omega) (by omega)).mp (q2.symm.trans c)
        omega
      rw [sA1_none m hz]
      refine (sA_none N (fun j hj i hi c => ?_)).symm
      obtain ⟨q, q1, q2⟩ := h3 j hj
      rw [q1, nI_clamp (by have := q2.1; omega)] at hi
      obtain ⟨z, z1, z2⟩ := q2.2.2.2.2.1 i hi
      have := (nI_eq (by omega) (by omega)).mp (z2.symm.trans c)
      omega
    · exact h5 k (by omega)
end NDS
end E1
end
