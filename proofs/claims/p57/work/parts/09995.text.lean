/-! a court's text from its start on both sides -/
section CA
variable {T U : Nat → Int32} {n : Nat} {keys : Nat → Int64}
theorem z0_loop {pl hc und img sc p0 x1 x2 fs : Int32} {L r9 t9 s9 rd fsr : Nat → Int32} : ∀ (m i f : Nat) (F : Nat → Int32), 287 - i = m → i ≤ 287 → m < f → (∀ j : Nat, j < i → F j = 0) → ∃ G : Nat → Int32, (∀ j : Nat, j < 287 → G j = 0) ∧ HX7_court_0 U pl L hc r9 t9 rd s9 und img fsr fs sc p0 x1 x2 f (nI i) F = HX7_court_1 U pl L hc r9 t9 s9 und img fsr fs sc p0 x1 x2 G (((90 - (0 : Int32).toInt).toNat) + 1) 0 rd := by
  have k : (287 : Int32).toInt = 287 := by decide
  intro m
  induction m with
  | zero =>
    intro i f F hm hi hf hF
    obtain ⟨f, rfl⟩ : ∃ g, f = g + 1 := ⟨f - 1, by omega⟩
    refine ⟨F, fun j hj => hF j (by omega), ?_⟩
    rw [HX7_court_0_eq, if_pos (show (287 : Int32) ≤ nI i by rw [fz_le, k, nI_toInt (by omega)]; omega)]
  | succ m ih =>
    intro i f F hm hi hf hF
    obtain ⟨f, rfl⟩ : ∃ g, f = g + 1 := ⟨f - 1, by omega⟩
    rw [HX7_court_0_eq, if_neg (show ¬ (287 : Int32) ≤ nI i by rw [fz_le, k, nI_toInt (by omega)]; omega)]
    dsimp only [lt_]
    rw [nI_clamp (by omega), nI_o1]
    refine ih (i + 1) f _ (by omega) (by omega) (by omega) (fun j hj => ?_)
    by_cases h : j = i
    · rw [h, upd_at]
    · rw [upd_ne h]; exact hF j (by omega)
theorem z1_loop {pl hc und img sc p0 x1 x2 fs : Int32} {L r9 t9 s9 fsr G : Nat → Int32} : ∀ (m i f : Nat) (F : Nat → Int32), 90 - i = m → i ≤ 90 → m < f → (∀ j : Nat, j < i → F j = 0) → ∃ (R : Nat → Int32) (g : Nat), (∀ j : Nat, j < 90 → R j = 0) ∧ HX7_court_1 U pl L hc r9 t9 s9 und img fsr fs sc p0 x1 x2 G f (nI i) F = HX7_court_1 U pl L hc r9 t9 s9 und img fsr fs sc p0 x1 x2 G (g + 1) (nI 90) R := by
  intro m
  induction m with
  | zero =>
    intro i f F hm hi hf hF
    obtain ⟨f, rfl⟩ : ∃ g, f = g + 1 := ⟨f - 1, by omega⟩
    obtain rfl : i = 90 := by omega
    exact ⟨F, f, hF, rfl⟩
  | succ m ih =>
    intro i f F hm hi hf hF
    obtain ⟨f, rfl⟩ : ∃ g, f = g + 1 := ⟨f - 1, by omega⟩
    rw [HX7_court_1_eq, if_neg (show ¬ (90 : Int32) ≤ nI i by rw [fz_le, kc_90, nI_toInt (by omega)]; omega)]
    dsimp only [lt_]
    rw [nI_clamp (by omega), nI_o1]
    refine ih (i + 1) f _ (by omega) (by omega) (by omega) (fun j hj => ?_)
    by_cases h : j = i
    · rw [h, upd_at]
    · rw [upd_ne h]; exact hF j (by omega)
theorem SR_zero {names : Nat → Int64} {kind parts pn wt tw uw uo G R : Nat → Int32} (hG : ∀ j : Nat, j < 287 → G j = 0) (hR : ∀ j : Nat, j < 90 → R j = 0) : SR names 0 0 0 0 0 0 (-1) (-1) kind parts pn wt tw uw uo (upd G 6 (-1)) R := by
  have e : ∀ j : Nat, j < 287 → ¬ j = 6 → upd G 6 (-1) j = 0 := fun j h1 h2 => by rw [upd_ne h2]; exact hG j h1
  refine ⟨0, 0, 0, 0, ⟨rfl, rfl, rfl, rfl, by omega, by omega, by omega, by omega, by omega, e 1 (by decide) (by decide), e 2 (by decide) (by decide), e 7 (by decide) (by decide), e 8 (by decide) (by decide), e 3 (by decide) (by decide), Or.inl rfl, e 5 (by decide) (by decide), e 0 (by decide) (by decide), upd_at _ _ _, ?_, by decide, by decide, by decide, by decide, fun _ => ⟨rfl, rfl, by decide, by decide, rfl⟩⟩, ⟨fun k hk => absurd hk (by omega), fun k _ h2 => ⟨e _ (by omega) (by omega), hR _ (by omega)⟩⟩, fun j hj => absurd hj (by omega), ⟨fun k hk => absurd hk (by omega), fun k _ h2 => e _ (by omega) (by omega)⟩⟩
  rw [e 4 (by decide) (by decide)]
  decide
theorem TS.self {lo : Nat} {kd fr to : Int32} {x : Int64} {key wh at7 en tk w2 ns : Int32} {L : Nat → Int32} (h : TS keys n lo kd fr to x key wh at7 en tk w2 ns L) : ∃ a : Nat, a ≤ n ∧ TS keys n a kd fr to x key wh at7 en tk w2 ns L ∧ (tk = 59 → en = nI (a + 1) ∧ a < n) := by
  obtain ⟨a, b, h1, h2, h3, h4, h5, h6, h7⟩ := h
  refine ⟨a, by omega, ⟨a, b, h1, h2, h3, h4, ⟨Nat.le_refl _, h5.2⟩, h6, h7⟩, fun ht => ?_⟩
  rcases h7 with ⟨-, q, -⟩ | ⟨-, q, -⟩ | ⟨-, q, -⟩ | ⟨-, q, -⟩ | ⟨-, -, -, q⟩ | ⟨-, q, -⟩
  · exact absurd (q.symm.trans ht) (by decide)
  · exact absurd (q.symm.trans ht) (by decide)
  · exact absurd (q.symm.trans ht) (by decide)
  · exact absurd (q.symm.trans ht) (by decide)
  · rw [← q]; exact ⟨h4, by omega⟩
  · exact absurd (q.symm.trans ht) (by decide)
theorem text_sim (hK : KwOk keys) (hT : TR T U n) (hn : n ≤ 900) (nm : Int64) (w : Int32) (names : Nat → Int64) (kind parts pn wt ws tw steps below above uw uo : Nat → Int32) (pl hc und img sc x1 x2 fs : Int32) (L r9 t9 s9 fsh rd fsr : Nat → Int32) : EndOk (PX3_reads T nm w names keys kind parts pn wt ws tw steps below above uw uo (nI n)) (HX7_court_0 U pl L hc r9 t9 rd s9 und img fsr fs sc (nI n) x1 x2 (((287 - (0 : Int32).toInt).toNat) + 1) 0 fsh) 0 0 x2 := by
  obtain ⟨G, hG, e0⟩ := z0_loop (U := U) (pl := pl) (hc := hc) (und := und) (img := img) (sc := sc) (p0 := nI n) (x1 := x1) (x2 := x2) (fs := fs) (L := L) (r9 := r9) (t9 := t9) (s9 := s9) (rd := rd) (fsr := fsr) 287 0 (((287 - (0 : Int32).toInt).toNat) + 1) fsh rfl (by omega) (by rw [kc_0]; omega) (fun j hj => absurd hj (by omega))
  obtain ⟨R, g, hR, e1⟩ := z1_loop (U := U) (pl := pl) (hc := hc) (und := und) (img := img) (sc := sc) (p0 := nI n) (x1 := x1) (x2 := x2) (fs := fs) (L := L) (r9 := r9) (t9 := t9) (s9 := s9) (fsr := fsr) (G := G) 90 0 (((90 - (0 : Int32).toInt).toNat) + 1) rd rfl (by omega) (by rw [kc_0]; omega) (fun j hj => absurd hj (by omega))
  rw [nI_0] at e0 e1
  rw [e0, e1, HX7_court_1_eq, if_pos (show (90 : Int32) ≤ nI 90 from by decide), PX3_reads_eq]
  dsimp only [lt_]
  rw [PX1_clear_eq, un8_eq rfl, six_cl]
  obtain ⟨kd1, fr1, to1, y1, key1, wh1, at1, en1, tk1, w1, ns1, L1, g1, g2, g3, -⟩ := ts_next (keys := keys) (lo := 0) (b := 0) hT hn (Nat.zero_le _) (Nat.le_refl _) nm w L
  rw [nI_0] at g1 g2
  rw [un6_eq g1, un6_eq g2]
  rcases line_sim hK g3 hT hn (SR_zero (names := names) (kind := kind) (parts := parts) (pn := pn) (wt := wt) (tw := tw) (uw := uw) (uo := uo) hG hR) 0 (-1) 0 pl 1 fs ws steps below above fsr with hok | hbad
  · obtain ⟨kd2, fr2, to2, y2, key2, wh2, told2, names2, nodes2, words2, ch2, un2, sl2, th2, sd2, u2, q1, q2, q3, q4, q5, q6, q7, q8, q9, p1, p2, at2, en2, tk2, w3, ns2, fs2, L2, F2, R2, S2, v1, v2, v3, v4, v5⟩ := hok
    rw [un30_eq v1, un13_eq v2]
    obtain ⟨a, ha, hTa, hen⟩ := v3.self
    have hz := reads_loop (hc := hc) (und := und) (img := img) (sc := sc) (x1 := x1) (x2 := x2) (fn := 0) (fa := 0) (pl := pl) (fp := -1) (r9 := r9) (t9 := t9) (s9 := s9) hK hT hn (n - a) a 0 (((2147483647 - (0 : Int32).toInt).toNat) + 1) ((crtM (0 : Int32).toInt tk2.toInt en2.toInt) + 1) kd2 fr2 to2 y2 key2 wh2 told2 nodes2 words2 ch2 un2 sl2 th2 sd2 u2 names2 q1 q2 q3 q4 q5 q6 q7 q8 q9 p1 p2 at2 en2 tk2 w3 ns2 fs2 L2 F2 R2 S2 rfl ha (Nat.zero_le _) (by rw [kc_0]; omega) (by omega) (fun ht => by
      obtain ⟨h1, h2⟩ := hen ht
      unfold crtM
      rw [kc_0, ht, h1, nI_toInt (by omega), if_pos ⟨by omega, by decide⟩]
      omega) hTa v4 v5
    rw [nI_0] at hz
    exact hz
  · obtain ⟨c1, c2, c3, c4, c5, c6, c7, c8, c9, c10, c11, c12, c13, c14, c15, c16, c17, c18, c19, c20, c21, c22, c23, c24, c25, c26, c27, c28, c29, m0, m1, m2, m3, m4, m8, m9, m10, m11, m12, v1, v2⟩ := hbad.ex
    rw [un30_eq v1, un13_eq v2]
    obtain ⟨y1, y3, y4, y5, y6, y7, y8, y9, z1, z2, z3, z4, z5, Y1, Y2, Y3, Y4, Y5, Y6, Y7, hY⟩ := ct_bad (U := U) (n := n) (hc := hc) (und := und) (img := img) (sc := sc) (x1 := x1) (x2 := x2) (fa := c1) (pl := c2) (r9 := r9) (t9 := t9) (s9 := s9) (f := crtM (1 : Int32).toInt m2.toInt m1.toInt) m0 m1 m2 m3 m4 m8 m9 m10 m11 m12
    obtain ⟨v1, v2, v3, v4⟩ := rd_bad (T := T) (keys := keys) (n := n) (fn := c1) (fp := c2) (f := ((2147483647 - (0 : Int32).toInt).toNat)) (i := 0) c3 c4 c5 c6 c7 c8 c9 c11 c12 c13 c14 c15 c16 c17 c18 c10 c19 c20 c21 c22 c23 c24 c25 c26 c27 c28 c29
    rw [nI_0] at v1 v2 v3 v4
    rw [hY]
    exact Or.inr ⟨v1, rfl, v2.symm, v3.symm, rfl, v4, rfl⟩
end CA
