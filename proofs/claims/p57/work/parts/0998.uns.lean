/-! a line of a word of which nobody is sure -/
section UN
variable {T U : Nat → Int32} {n lo : Nat} {keys : Nat → Int64} {kd fr to : Int32} {x : Int64} {key wh at7 en tk w2 ns : Int32} {L : Nat → Int32}
theorem mul2 {k : Nat} (hk : k < 1000) : ((2 : Int32) * nI k).toInt = 2 * (k : Int) := by
  rw [fb_mulI (by rw [kc_2, nI_toInt (by omega)]; omega) (by rw [kc_2, nI_toInt (by omega)]; omega), kc_2, nI_toInt (by omega)]
theorem i117 {k : Nat} (hk : k < 8) : ((117 : Int32) + (2 : Int32) * nI k).toInt = ((117 + 2 * k : Nat) : Int) := by
  have h117 : (117 : Int32).toInt = 117 := by decide
  rw [fb_addI (by rw [h117, mul2 (by omega)]; omega) (by rw [h117, mul2 (by omega)]; omega), h117, mul2 (by omega)]
  omega
theorem cl_117 {k : Nat} (hk : k < 8) : ((117 : Int32) + (2 : Int32) * nI k).toNatClampNeg = 117 + 2 * k := by
  have q := ti_cl (i117 hk) (by omega)
  omega
theorem cl_118 {k : Nat} (hk : k < 8) : ((117 : Int32) + (2 : Int32) * nI k + 1).toNatClampNeg = 118 + 2 * k := by
  have e : ((117 : Int32) + (2 : Int32) * nI k + 1).toInt = ((118 + 2 * k : Nat) : Int) := by
    rw [fb_addI (by rw [i117 hk, kc_1]; omega) (by rw [i117 hk, kc_1]; omega), i117 hk, kc_1]
    omega
  have q := ti_cl e (by omega)
  omega
theorem isU {Q : Nat} {uw : Nat → Int32} {v : Int32} (hQ : Q ≤ 4) : ∀ (m k f : Nat), Q - k = m → k ≤ Q → m < f → ((∃ i : Nat, k ≤ i ∧ i < Q ∧ uw i = v) → HX1_isUnsure_0 (nI Q) uw v f (nI k) = 1) ∧ ((¬ ∃ i : Nat, k ≤ i ∧ i < Q ∧ uw i = v) → HX1_isUnsure_0 (nI Q) uw v f (nI k) = 0) := by
  intro m
  induction m with
  | zero =>
    intro k f hm hk hf
    obtain ⟨f, rfl⟩ : ∃ g, f = g + 1 := ⟨f - 1, by omega⟩
    rw [HX1_isUnsure_0_eq, if_pos (nI_le (by omega) (by omega))]
    exact ⟨fun ⟨i, h1, h2, _⟩ => absurd h2 (by omega), fun _ => rfl⟩
  | succ m ih =>
    intro k f hm hk hf
    obtain ⟨f, rfl⟩ : ∃ g, f = g + 1 := ⟨f - 1, by omega⟩
    rw [HX1_isUnsure_0_eq, if_neg (by rw [nI_leI (by omega) (by omega)]; omega)]
    dsimp only [lt_]
    rw [nI_clamp (by omega), nI_o1]
    by_cases h : uw k = v
    · rw [if_pos h]
      exact ⟨fun _ => rfl, fun q => absurd ⟨k, Nat.le_refl _, by omega, h⟩ q⟩
    · rw [if_neg h]
      obtain ⟨g1, g2⟩ := ih (k + 1) f (by omega) (by omega) (by omega)
      refine ⟨fun ⟨i, h1, h2, h3⟩ => g1 ⟨i, ?_, h2, h3⟩, fun q => g2 (fun ⟨i, h1, h2, h3⟩ => q ⟨i, by omega, h2, h3⟩)⟩
      rcases Nat.lt_or_ge k i with c | c
      · exact c
      · exact absurd ((show i = k by omega) ▸ h3) h
theorem isU_eq {Q : Nat} {uw : Nat → Int32} {v : Int32} (hQ : Q ≤ 4) : ((∃ i : Nat, i < Q ∧ uw i = v) → PX1_isUnsure (nI Q) uw v = 1) ∧ ((¬ ∃ i : Nat, i < Q ∧ uw i = v) → PX1_isUnsure (nI Q) uw v = 0) := by
  rw [PX1_isUnsure_eq]
  obtain ⟨g1, g2⟩ := isU (uw := uw) (v := v) hQ Q 0 ((2147483647 - (0 : Int32).toInt).toNat + 1) rfl (by omega) (by rw [kc_0]; omega)
  rw [nI_0] at g1 g2
  exact ⟨fun ⟨i, h1, h2⟩ => g1 ⟨i, Nat.zero_le _, h1, h2⟩, fun q => g2 (fun ⟨i, _, h1, h2⟩ => q ⟨i, h1, h2⟩)⟩
theorem un_f {fsh : Nat → Int32} {Q : Nat} (hQ : Q ≤ 4) (h3 : fsh 3 = nI Q) {i0 v q z : Int32} : ∀ (m k f : Nat), Q - k = m → k ≤ Q → m < f → HX7_unsureLine_0 U (nI n) at7 en tk w2 ns L fsh i0 v f (nI k) 1 q z = (at7, en, tk, w2, ns, q, z, 1, L, fsh) := by
  intro m
  induction m with
  | zero =>
    intro k f hm hk hf
    obtain ⟨f, rfl⟩ : ∃ g, f = g + 1 := ⟨f - 1, by omega⟩
    rw [HX7_unsureLine_0_eq]
    dsimp only [lt_]
    rw [three_cl, h3, if_pos (nI_le (by omega) (by omega)), pass0 (by decide), un6_eq rfl, num_f (by decide), un10_eq rfl, if_neg (show ¬ (1 : Int32) = 0 by decide)]
  | succ m ih =>
    intro k f hm hk hf
    obtain ⟨f, rfl⟩ : ∃ g, f = g + 1 := ⟨f - 1, by omega⟩
    rw [HX7_unsureLine_0_eq]
    dsimp only [lt_]
    rw [three_cl, h3, if_neg (by rw [nI_leI (by omega) (by omega)]; omega), if_neg (show ¬ (1 : Int32) = 0 by decide), nI_o1]
    exact ih (k + 1) f (by omega) (by omega) (by omega)
theorem un_f1 {fsh : Nat → Int32} {Q : Nat} (hQ : Q ≤ 4) (h3 : fsh 3 = nI Q) {q z : Int32} : ∀ (m k f : Nat), Q - k = m → k ≤ Q → m < f → HX7_unsureLine_1 U (nI n) at7 en tk w2 ns L fsh f (nI k) 1 q z = (at7, en, tk, w2, ns, q, z, 1, L, fsh) := by
  intro m
  induction m with
  | zero =>
    intro k f hm hk hf
    obtain ⟨f, rfl⟩ : ∃ g, f = g + 1 := ⟨f - 1, by omega⟩
    rw [HX7_unsureLine_1_eq]
    dsimp only [lt_]
    rw [three_cl, h3, if_pos (nI_le (by omega) (by omega)), pass0 (by decide), un6_eq rfl, num_f (by decide), un10_eq rfl, if_neg (show ¬ (1 : Int32) = 0 by decide)]
  | succ m ih =>
    intro k f hm hk hf
    obtain ⟨f, rfl⟩ : ∃ g, f = g + 1 := ⟨f - 1, by omega⟩
    rw [HX7_unsureLine_1_eq]
    dsimp only [lt_]
    rw [three_cl, h3, if_neg (by rw [nI_leI (by omega) (by omega)]; omega), if_neg (show ¬ (1 : Int32) = 0 by decide), nI_o1]
    exact ih (k + 1) f (by omega) (by omega) (by omega)
theorem un_loop {fsh : Nat → Int32} {Q : Nat} (hQ : Q ≤ 4) (h3 : fsh 3 = nI Q) {i0 v fa pl : Int32} : ∀ (m k f : Nat), Q - k = m → k ≤ Q → m < f → ((∃ i : Nat, k ≤ i ∧ i < Q ∧ fsh (117 + 2 * i) = v) → HX7_unsureLine_0 U (nI n) at7 en tk w2 ns L fsh i0 v f (nI k) 0 fa pl = (at7, en, tk, w2, ns, 3, at7, 1, L, fsh)) ∧ ((¬ ∃ i : Nat, k ≤ i ∧ i < Q ∧ fsh (117 + 2 * i) = v) → ∃ g : Nat, HX7_unsureLine_0 U (nI n) at7 en tk w2 ns L fsh i0 v f (nI k) 0 fa pl = HX7_unsureLine_0 U (nI n) at7 en tk w2 ns L fsh i0 v (g + 1) (nI Q) 0 fa pl) := by
  intro m
  induction m with
  | zero =>
    intro k f hm hk hf
    obtain ⟨f, rfl⟩ : ∃ g, f = g + 1 := ⟨f - 1, by omega⟩
    obtain rfl : k = Q := by omega
    exact ⟨fun ⟨i, h1, h2, _⟩ => absurd h2 (by omega), fun _ => ⟨f, rfl⟩⟩
  | succ m ih =>
    intro k f hm hk hf
    obtain ⟨f, rfl⟩ : ∃ g, f = g + 1 := ⟨f - 1, by omega⟩
    have hst : HX7_unsureLine_0 U (nI n) at7 en tk w2 ns L fsh i0 v (f + 1) (nI k) 0 fa pl = if fsh (117 + 2 * k) = v then HX7_unsureLine_0 U (nI n) at7 en tk w2 ns L fsh i0 v f (nI (k + 1)) 1 3 at7 else HX7_unsureLine_0 U (nI n) at7 en tk w2 ns L fsh i0 v f (nI (k + 1)) 0 fa pl := by
      rw [HX7_unsureLine_0_eq]
      dsimp only [lt_]
      rw [three_cl, h3, if_neg (by rw [nI_leI (by omega) (by omega)]; omega), if_pos rfl, nI_o1, cl_117 (by omega), wr0, un3_eq rfl]
    obtain ⟨g1, g2⟩ := ih (k + 1) f (by omega) (by omega) (by omega)
    by_cases h : fsh (117 + 2 * k) = v
    · rw [if_pos h] at hst
      clear g1 g2
      have hkQ : k < Q := by omega
      have hh := hst.trans (un_f hQ h3 m (k + 1) f (by omega) (by omega) (by omega))
      refine ⟨fun _ => hh, fun q => absurd ⟨k, Nat.le_refl _, hkQ, h⟩ q⟩
    · rw [if_neg h] at hst
      refine ⟨fun ⟨i, h1, h2, h3⟩ => hst.trans (g1 ⟨i, ?_, h2, h3⟩), fun q => ?_⟩
      · rcases Nat.lt_or_ge k i with c | c
        · exact c
        · exact absurd ((show i = k by omega) ▸ h3) h
      · obtain ⟨g, hg⟩ := g2 (fun ⟨i, h1, h2, h3⟩ => q ⟨i, by omega, h2, h3⟩)
        exact ⟨g, hst.trans hg⟩
theorem hasW {N j : Nat} (hN : N ≤ 18) (hj : j < N) (kind : Nat → Int32) : PX1_hasWord (nI N) kind (nI j) = if kind j = 0 then 1 else 0 := by
  rw [PX1_hasWord_eq, PX1_hasNode_eq]
  dsimp only [lt_]
  rw [if_neg (nI_pos (by omega)), if_neg (show ¬ nI N ≤ nI j by rw [nI_leI (by omega) (by omega)]; omega), if_pos rfl, nI_clamp (by omega)]
/-- the line, once its first word is passed -/
theorem unsure_sim (hK : KwOk keys) (h : TS keys n lo kd fr to x key wh at7 en tk w2 ns L) (hT : TR T U n) (hn : n ≤ 900) {names : Nat → Int64} {told slips throne said : Int32} {N W C Q : Nat} {kind parts pn wt tw uw uo fsh rd : Nat → Int32} (hH : HR N W C Q told (nI N) (nI W) (nI C) (nI Q) slips throne said fsh) (hKR : KR N kind parts pn wt tw fsh rd) (hUR : UR Q uw uo fsh) (hNR : NamesR names fsh N) (hQ : Q < 4) (ht : ¬ told = 0) (fn fp fa pl : Int32) {kd1 fr1 to1 : Int32} {x1 : Int64} {key1 wh1 at1 en1 tk1 w1 ns1 : Int32} {L1 : Nat → Int32} (g1 : PX3_nextToken T (nI n) to x wh keys = (kd1, fr1, to1, x1, key1, wh1)) (g3 : TS keys n lo kd1 fr1 to1 x1 key1 wh1 at1 en1 tk1 w1 ns1 L1) :
    (∃ (kd8 fr8 to8 : Int32) (x8 : Int64) (key8 wh8 at8 en8 tk8 w8 ns8 : Int32) (L8 u8 o8 F8 : Nat → Int32), TS keys n lo kd8 fr8 to8 x8 key8 wh8 at8 en8 tk8 w8 ns8 L8 ∧ SR names told (nI N) (nI W) (nI C) (nI (Q + 1)) slips throne said kind parts pn wt tw u8 o8 F8 rd ∧ PX3_readUnsure fn fp T (nI n) kd fr to x key wh names keys (nI N) (nI Q) kind uw uo = (1, fn, fp, kd8, fr8, to8, x8, key8, wh8, nI (Q + 1), u8, o8) ∧ PX7_unsureLine U (nI n) at1 en1 tk1 w1 ns1 fa pl L1 0 fsh = (at8, en8, tk8, w8, ns8, fa, pl, 0, L8, F8))
    ∨ ∃ (q z c1 c2 c3 : Int32) (c4 : Int64) (c5 c6 c7 : Int32) (m1 m2 : Nat → Int32) (d1 d2 d3 d4 d5 : Int32) (M F : Nat → Int32), PX3_readUnsure fn fp T (nI n) kd fr to x key wh names keys (nI N) (nI Q) kind uw uo = (0, q, z, c1, c2, c3, c4, c5, c6, c7, m1, m2) ∧ PX7_unsureLine U (nI n) at1 en1 tk1 w1 ns1 fa pl L1 0 fsh = (d1, d2, d3, d4, d5, q, z, 1, M, F) := by
  have hN18 := hH.N18
  obtain ⟨a1, a2, a3, a4, a5, a6, a7, a8, a9, b1, b2, b3, b4, b5, b6, b7, b8, b9, c1, c2, c3, c4, c5, c6⟩ := id hH
  have k4 : (4 : Int32).toInt = 4 := by decide
  have hfu : Q < (4 - (0 : Int32).toInt).toNat + 1 := by rw [kc_0]; omega
  rw [PX3_readUnsure_eq, if_pos (show nI Q < 4 by rw [fz_lt, k4, nI_toInt (by omega)]; omega), un6_eq g1, PX7_unsureLine_eq, if_pos rfl]
  dsimp only [lt_]
  rw [three_cl, b5]
  rcases told_sim hK g3 hN18 hNR fn fp fa pl with ⟨e1, j, e2, e3, e4⟩ | ⟨q, e1, e2⟩
  · rw [un3_eq e1, if_neg (show ¬ (1 : Int32) = 0 by decide), e3, hasW hN18 e2, un4_eq e4, if_pos rfl, cl_add (c := 9) (by decide) (by omega)]
    have ek := (hKR.1 j e2).1
    rw [← ek]
    by_cases hk : kind j = 0
    · rw [if_pos hk, if_pos rfl, if_pos hk]
      have hu : (∃ i : Nat, i < Q ∧ uw i = nI j) ↔ ∃ i : Nat, 0 ≤ i ∧ i < Q ∧ fsh (117 + 2 * i) = nI j := by
        constructor
        · rintro ⟨i, i1, i2⟩
          exact ⟨i, Nat.zero_le _, i1, by rw [← (hUR i i1).1]; exact i2⟩
        · rintro ⟨i, -, i1, i2⟩
          exact ⟨i, i1, by rw [(hUR i i1).1]; exact i2⟩
      obtain ⟨v1, v2⟩ := un_loop (U := U) (n := n) (at7 := at1) (en := en1) (tk := tk1) (w2 := w1) (ns := ns1) (L := L1) (fsh := fsh) (i0 := 117 + 2 * nI Q) (v := nI j) (fa := fa) (pl := pl) (by omega) b5 Q 0 ((4 - (0 : Int32).toInt).toNat + 1) rfl (by omega) hfu
      rw [nI_0] at v1 v2
      by_cases hx : ∃ i : Nat, i < Q ∧ uw i = nI j
      · right
        rw [(isU_eq (by omega)).1 hx, if_neg (show ¬ (1 : Int32) = 0 by decide), fl0, un3_eq rfl, v1 (hu.mp hx), g3.frq]
        exact ⟨_, _, _, _, _, _, _, _, _, _, _, _, _, _, _, _, _, _, rfl, rfl⟩
      · rw [(isU_eq (by omega)).2 hx, if_pos rfl]
        obtain ⟨g, hg⟩ := v2 (fun q => hx (hu.mpr q))
        obtain ⟨kd2, fr2, to2, x2, key2, wh2, at2, en2, tk2, w3, ns2, L2, k1, k2, k3, -⟩ := g3.next hT hn x1 wh1 L1
        rw [un6_eq k1, hg, HX7_unsureLine_0_eq]
        dsimp only [lt_]
        rw [three_cl, b5, if_pos (nI_le (Nat.le_refl _) (by omega)), pass1 k2, un6_eq rfl]
        rcases num_sim k3 hT hn 0 99 fn fp fa pl with ⟨q1, q2, q3, kd4, fr4, to4, x4, key4, wh4, at9, en9, tk9, w9, ns9, L9, ⟨r1, r2, r3, -⟩, r4⟩ | ⟨q, r1, r2⟩
        · left
          have hadd : PX1_addUnsure (nI Q) uw uo (nI j) wh2 = (nI (Q + 1), upd uw Q (nI j), upd uo Q wh2) := by
            rw [PX1_addUnsure_eq, if_neg (show ¬ (4 : Int32) ≤ nI Q by rw [fz_le, k4, nI_toInt (by omega)]; omega)]
            dsimp only [lt_]
            rw [nI_clamp (by omega), nI_1]
          have hq3 : upd (upd fsh (117 + 2 * Q) (nI j)) (118 + 2 * Q) wh2 3 = nI Q := by rw [upd_ne (by omega), upd_ne (by omega)]; exact b5
          rw [un3_eq q3, if_neg (show ¬ (1 : Int32) = 0 by decide), un3_eq hadd, un6_eq r1, un10_eq r4, if_pos rfl, cl_117 (by omega), cl_118 (by omega), hq3, nI_1]
          refine ⟨kd4, fr4, to4, x4, key4, wh4, at9, en9, tk9, w9, ns9, L9, upd uw Q (nI j), upd uo Q wh2, upd (upd (upd fsh (117 + 2 * Q) (nI j)) (118 + 2 * Q) wh2) 3 (nI (Q + 1)), r3, ⟨N, W, C, Q + 1, ⟨rfl, rfl, rfl, rfl, a5, a6, a7, a8, by omega, ?_, ?_, ?_, ?_, upd_at _ _ _, b6, ?_, ?_, ?_, ?_, c2, c3, c4, c5, fun q => absurd q ht⟩, hKR.congr hN18 (fun i z1 z2 => by rw [upd_ne (by omega), upd_ne (by omega), upd_ne (by omega)]), fun i hi => ?_, hNR.congr hN18 (fun i z1 z2 => by rw [upd_ne (by omega), upd_ne (by omega), upd_ne (by omega)])⟩, rfl, rfl⟩
          · rw [upd_ne (by omega), upd_ne (by omega), upd_ne (by omega)]; exact b1
          · rw [upd_ne (by omega), upd_ne (by omega), upd_ne (by omega)]; exact b2
          · rw [upd_ne (by omega), upd_ne (by omega), upd_ne (by omega)]; exact b3
          · rw [upd_ne (by omega), upd_ne (by omega), upd_ne (by omega)]; exact b4
          · rw [upd_ne (by omega), upd_ne (by omega), upd_ne (by omega)]; exact b7
          · rw [upd_ne (by omega), upd_ne (by omega), upd_ne (by omega)]; exact b8
          · rw [upd_ne (by omega), upd_ne (by omega), upd_ne (by omega)]; exact b9
          · rw [upd_ne (by omega), upd_ne (by omega), upd_ne (by omega)]; exact c1
          · by_cases hiQ : i = Q
            · subst hiQ
              rw [upd_at, upd_at, upd_ne (show ¬ 117 + 2 * i = 3 by omega), upd_ne (show ¬ 117 + 2 * i = 118 + 2 * i by omega), upd_at, upd_ne (show ¬ 118 + 2 * i = 3 by omega), upd_at]
              exact ⟨rfl, rfl⟩
            · rw [upd_ne hiQ, upd_ne hiQ, upd_ne (show ¬ 117 + 2 * i = 3 by omega), upd_ne (show ¬ 117 + 2 * i = 118 + 2 * Q by omega), upd_ne (show ¬ 117 + 2 * i = 117 + 2 * Q by omega), upd_ne (show ¬ 118 + 2 * i = 3 by omega), upd_ne (show ¬ 118 + 2 * i = 118 + 2 * Q by omega), upd_ne (show ¬ 118 + 2 * i = 117 + 2 * Q by omega)]
              exact hUR i (by omega)
        · right
          rw [un3_eq r1, if_pos rfl, un10_eq r2, if_neg (show ¬ (1 : Int32) = 0 by decide)]
          exact ⟨_, _, _, _, _, _, _, _, _, _, _, _, _, _, _, _, _, _, rfl, rfl⟩
    · right
      have u1 := un_f1 (U := U) (n := n) (at7 := at1) (en := en1) (tk := tk1) (w2 := w1) (ns := ns1) (L := L1) (fsh := fsh) (q := 2) (z := at1) (show Q ≤ 4 by omega) b5 Q 0 ((4 - (0 : Int32).toInt).toNat + 1) rfl (by omega) hfu
      rw [nI_0] at u1
      rw [if_neg hk, if_neg (show ¬ (0 : Int32) = 1 by decide), fl0, un3_eq rfl, if_neg hk, wr0, un3_eq rfl, u1, g3.frq]
      exact ⟨_, _, _, _, _, _, _, _, _, _, _, _, _, _, _, _, _, _, rfl, rfl⟩
  · right
    have u1 := un_f1 (U := U) (n := n) (at7 := at1) (en := en1) (tk := tk1) (w2 := w1) (ns := ns1) (L := L1) (fsh := fsh) (q := q) (z := at1) (show Q ≤ 4 by omega) b5 Q 0 ((4 - (0 : Int32).toInt).toNat + 1) rfl (by omega) hfu
    rw [nI_0] at u1
    rw [un3_eq e1, if_pos rfl, un4_eq e2, if_neg (show ¬ (1 : Int32) = 0 by decide), u1]
    exact ⟨_, _, _, _, _, _, _, _, _, _, _, _, _, _, _, _, _, _, rfl, rfl⟩
end UN
