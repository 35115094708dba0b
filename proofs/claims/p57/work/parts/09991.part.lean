/-! one part of a counsel on both sides -/
section PT
variable {T U : Nat → Int32} {n lo : Nat} {keys : Nat → Int64} {kd fr to : Int32} {x : Int64} {key wh at7 en tk w2 ns : Int32} {L : Nat → Int32}
theorem mul4 {k : Nat} (hk : k < 1000) : (nI k * (4 : Int32)).toInt = ((4 * k : Nat) : Int) := by
  rw [fb_mulI (by rw [kc_4, nI_toInt (by omega)]; omega) (by rw [kc_4, nI_toInt (by omega)]; omega), kc_4, nI_toInt (by omega)]
  omega
theorem mul4' {k : Nat} (hk : k < 1000) : ((4 : Int32) * nI k).toInt = ((4 * k : Nat) : Int) := by
  rw [fb_mulI (by rw [kc_4, nI_toInt (by omega)]; omega) (by rw [kc_4, nI_toInt (by omega)]; omega), kc_4, nI_toInt (by omega)]
  omega
theorem add45 {k : Nat} (hk : k < 1000) : ((45 : Int32) + (4 : Int32) * nI k).toInt = ((45 + 4 * k : Nat) : Int) := by
  rw [fb_addI (by rw [kc_45, mul4' hk]; omega) (by rw [kc_45, mul4' hk]; omega), kc_45, mul4' hk]
  omega
theorem place_loop {N m : Nat} {parts pn : Nat → Int32} {v : Int32} (hN : N < 18) (hm : m ≤ 4) (hp : parts N = nI m) : ∀ (r i f : Nat), m - i = r → i ≤ m → r < f → ((∃ j : Nat, i ≤ j ∧ j < m ∧ pn (4 * N + j) = v) → ¬ HX1_placeOfPart_0 parts pn (nI N) v f (nI i) < 0) ∧ ((¬ ∃ j : Nat, i ≤ j ∧ j < m ∧ pn (4 * N + j) = v) → HX1_placeOfPart_0 parts pn (nI N) v f (nI i) < 0) := by
  intro r
  induction r with
  | zero =>
    intro i f hr hi hf
    obtain ⟨f, rfl⟩ : ∃ g, f = g + 1 := ⟨f - 1, by omega⟩
    rw [HX1_placeOfPart_0_eq]
    dsimp only [lt_]
    rw [nI_clamp (by omega), hp, if_pos (nI_le (by omega) (by omega))]
    exact ⟨fun ⟨j, h1, h2, _⟩ => absurd h2 (by omega), fun _ => by decide⟩
  | succ r ih =>
    intro i f hr hi hf
    obtain ⟨f, rfl⟩ : ∃ g, f = g + 1 := ⟨f - 1, by omega⟩
    rw [HX1_placeOfPart_0_eq]
    dsimp only [lt_]
    rw [cl_add (mul4 (by omega)) (by omega), nI_clamp (by omega), hp, if_neg (by rw [nI_leI (by omega) (by omega)]; omega), nI_o1]
    by_cases h : pn (4 * N + i) = v
    · rw [if_pos h]
      exact ⟨fun _ => nI_pos (by omega), fun q => absurd ⟨i, Nat.le_refl _, by omega, h⟩ q⟩
    · rw [if_neg h]
      obtain ⟨g1, g2⟩ := ih (i + 1) f (by omega) (by omega) (by omega)
      refine ⟨fun ⟨j, h1, h2, h3⟩ => g1 ⟨j, ?_, h2, h3⟩, fun q => g2 (fun ⟨j, h1, h2, h3⟩ => q ⟨j, by omega, h2, h3⟩)⟩
      rcases Nat.lt_or_ge i j with c | c
      · exact c
      · exact absurd ((show j = i by omega) ▸ h3) h
theorem place_eq {N m : Nat} {parts pn : Nat → Int32} {v : Int32} (hN : N < 18) (hm : m ≤ 4) (hp : parts N = nI m) : ((∃ j : Nat, j < m ∧ pn (4 * N + j) = v) → ¬ PX1_placeOfPart parts pn (nI N) v < 0) ∧ ((¬ ∃ j : Nat, j < m ∧ pn (4 * N + j) = v) → PX1_placeOfPart parts pn (nI N) v < 0) := by
  have k18 : (18 : Int32).toInt = 18 := by decide
  rw [PX1_placeOfPart_eq, if_neg (nI_pos (by omega)), if_pos (show nI N < 18 by rw [fz_lt, k18, nI_toInt (by omega)]; omega)]
  obtain ⟨g1, g2⟩ := place_loop (pn := pn) (v := v) hN hm hp m 0 ((2147483647 - (0 : Int32).toInt).toNat + 1) rfl (by omega) (by rw [kc_0]; omega)
  rw [nI_0] at g1 g2
  exact ⟨fun ⟨j, h1, h2⟩ => g1 ⟨j, Nat.zero_le _, h1, h2⟩, fun q => g2 (fun ⟨j, _, h1, h2⟩ => q ⟨j, h1, h2⟩)⟩
theorem room_p {N m : Nat} {parts : Nat → Int32} (hN : N < 18) (hm : m ≤ 4) (hp : parts N = nI m) : PX1_hasRoomForPart (nI N) parts = if m < 4 then 1 else 0 := by
  have k18 : (18 : Int32).toInt = 18 := by decide
  rw [PX1_hasRoomForPart_eq, if_neg (show ¬ (18 : Int32) ≤ nI N by rw [fz_le, k18, nI_toInt (by omega)]; omega)]
  dsimp only [lt_]
  rw [nI_clamp (by omega), hp]
  by_cases h : m < 4
  · rw [if_neg (show ¬ (4 : Int32) ≤ nI m by rw [fz_le, kc_4, nI_toInt (by omega)]; omega), if_pos h]
  · rw [if_pos (show (4 : Int32) ≤ nI m by rw [fz_le, kc_4, nI_toInt (by omega)]; omega), if_neg h]
theorem add_p {N m j : Nat} {parts : Nat → Int32} (hN : N < 18) (hm : m < 4) (hp : parts N = nI m) (hj : j < N) (pn wt ws steps below above : Nat → Int32) (w : Int32) : ∃ s8 e8 b8 a8 : Nat → Int32, PX1_addPart (nI N) parts pn wt ws steps below above (nI j) w = (upd parts N (nI (m + 1)), upd pn (4 * N + m) (nI j), upd wt (4 * N + m) w, s8, e8, b8, a8) := by
  rw [PX1_addPart_eq, room_p hN (by omega) hp, if_pos hm, PX1_hasNode_eq, if_neg (nI_pos (by omega)), if_neg (show ¬ nI N ≤ nI j by rw [nI_leI (by omega) (by omega)]; omega)]
  dsimp only [lt_]
  rw [if_pos rfl, if_pos rfl, nI_clamp (by omega), hp, cl_add (mul4 (by omega)) (by omega), nI_1]
  exact ⟨_, _, _, _, rfl⟩
theorem in_f {p0 fs q z : Int32} {fsr fsh rd : Nat → Int32} {N m : Nat} {v : Int32} {K : Int32 → Int32 → Int32 → Int32 → Int32 → Int32 → Int32 → Int32 → Int32 → Int32 → (Nat → Int32) → (Nat → Int32) → (Nat → Int32) → Int32 × Int32 × Int32 × Int32 × Int32 × Int32 × Int32 × Int32 × Int32 × (Nat → Int32) × (Nat → Int32) × (Nat → Int32) × (Nat → Int32)} (hm : m ≤ 4) : ∀ (r i f : Nat), m - i = r → i ≤ m → r < f → HX7_innerLine_1 U (nI n) p0 fs fsr (nI N) (nI m) at7 en tk w2 ns L fsh rd v K f (nI i) 1 q z = (at7, en, tk, w2, ns, q, z, 1, fs, L, fsh, rd, fsr) := by
  intro r
  induction r with
  | zero =>
    intro i f hr hi hf
    obtain ⟨f, rfl⟩ : ∃ g, f = g + 1 := ⟨f - 1, by omega⟩
    rw [HX7_innerLine_1_eq, if_pos (nI_le (by omega) (by omega)), if_neg (show ¬ (1 : Int32) = 0 by decide), pass0 (by decide), un6_eq rfl]
    by_cases h3 : p0 = 3
    · rw [if_pos h3, num_f (by decide), un10_eq rfl, if_neg (show ¬ (1 : Int32) = 0 by decide)]
    · rw [if_neg h3, if_neg (show ¬ (1 : Int32) = 0 by decide)]
  | succ r ih =>
    intro i f hr hi hf
    obtain ⟨f, rfl⟩ : ∃ g, f = g + 1 := ⟨f - 1, by omega⟩
    rw [HX7_innerLine_1_eq, if_neg (by rw [nI_leI (by omega) (by omega)]; omega), if_neg (show ¬ (1 : Int32) = 0 by decide)]
    dsimp only [lt_]
    rw [nI_o1]
    exact ih (i + 1) f (by omega) (by omega) (by omega)
theorem in_loop {p0 fs fa pl : Int32} {fsr fsh rd : Nat → Int32} {N m : Nat} {v : Int32} {K : Int32 → Int32 → Int32 → Int32 → Int32 → Int32 → Int32 → Int32 → Int32 → Int32 → (Nat → Int32) → (Nat → Int32) → (Nat → Int32) → Int32 × Int32 × Int32 × Int32 × Int32 × Int32 × Int32 × Int32 × Int32 × (Nat → Int32) × (Nat → Int32) × (Nat → Int32) × (Nat → Int32)} (hN : N < 18) (hm : m ≤ 4) : ∀ (r i f : Nat), m - i = r → i ≤ m → r < f → ((∃ j : Nat, i ≤ j ∧ j < m ∧ rd (4 * N + j) = v) → HX7_innerLine_1 U (nI n) p0 fs fsr (nI N) (nI m) at7 en tk w2 ns L fsh rd v K f (nI i) 0 fa pl = (at7, en, tk, w2, ns, 3, at7, 1, fs, L, fsh, rd, fsr)) ∧ ((¬ ∃ j : Nat, i ≤ j ∧ j < m ∧ rd (4 * N + j) = v) → ∃ g : Nat, HX7_innerLine_1 U (nI n) p0 fs fsr (nI N) (nI m) at7 en tk w2 ns L fsh rd v K f (nI i) 0 fa pl = HX7_innerLine_1 U (nI n) p0 fs fsr (nI N) (nI m) at7 en tk w2 ns L fsh rd v K (g + 1) (nI m) 0 fa pl) := by
  intro r
  induction r with
  | zero =>
    intro i f hr hi hf
    obtain ⟨f, rfl⟩ : ∃ g, f = g + 1 := ⟨f - 1, by omega⟩
    obtain rfl : i = m := by omega
    exact ⟨fun ⟨j, h1, h2, _⟩ => absurd h2 (by omega), fun _ => ⟨f, rfl⟩⟩
  | succ r ih =>
    intro i f hr hi hf
    obtain ⟨f, rfl⟩ : ∃ g, f = g + 1 := ⟨f - 1, by omega⟩
    have hst : HX7_innerLine_1 U (nI n) p0 fs fsr (nI N) (nI m) at7 en tk w2 ns L fsh rd v K (f + 1) (nI i) 0 fa pl = if rd (4 * N + i) = v then HX7_innerLine_1 U (nI n) p0 fs fsr (nI N) (nI m) at7 en tk w2 ns L fsh rd v K f (nI (i + 1)) 1 3 at7 else HX7_innerLine_1 U (nI n) p0 fs fsr (nI N) (nI m) at7 en tk w2 ns L fsh rd v K f (nI (i + 1)) 0 fa pl := by
      rw [HX7_innerLine_1_eq, if_neg (by rw [nI_leI (by omega) (by omega)]; omega), if_pos rfl]
      dsimp only [lt_]
      rw [nI_o1, cl_add (mul4' (by omega)) (by omega), wr0, un3_eq rfl]
    obtain ⟨g1, g2⟩ := ih (i + 1) f (by omega) (by omega) (by omega)
    by_cases h : rd (4 * N + i) = v
    · rw [if_pos h] at hst
      clear g1 g2
      have him : i < m := by omega
      have hh := hst.trans (in_f hm r (i + 1) f (by omega) (by omega) (by omega))
      refine ⟨fun _ => hh, fun q => absurd ⟨i, Nat.le_refl _, him, h⟩ q⟩
    · rw [if_neg h] at hst
      refine ⟨fun ⟨j, h1, h2, h3⟩ => hst.trans (g1 ⟨j, ?_, h2, h3⟩), fun q => ?_⟩
      · rcases Nat.lt_or_ge i j with c | c
        · exact c
        · exact absurd ((show j = i by omega) ▸ h3) h
      · obtain ⟨g, hg⟩ := g2 (fun ⟨j, h1, h2, h3⟩ => q ⟨j, by omega, h2, h3⟩)
        exact ⟨g, hst.trans hg⟩
/-- one part: the class's reading of it, and the reference's way to its loop's next turn -/
theorem part_sim (hK : KwOk keys) (h : TS keys n lo kd fr to x key wh at7 en tk w2 ns L) (hT : TR T U n) (hn : n ≤ 900) {names : Nat → Int64} {N m : Nat} {parts pn fsh rd fsr : Nat → Int32} (hN : N < 18) (hm : m ≤ 4) (hp : parts N = nI m) (hE : ∀ i : Nat, i < m → pn (4 * N + i) = rd (4 * N + i)) (hNR : NamesR names fsh N) (wt ws steps below above : Nat → Int32) (p0 fn fp fa pl fs : Int32) (K : Int32 → Int32 → Int32 → Int32 → Int32 → Int32 → Int32 → Int32 → Int32 → Int32 → (Nat → Int32) → (Nat → Int32) → (Nat → Int32) → Int32 × Int32 × Int32 × Int32 × Int32 × Int32 × Int32 × Int32 × Int32 × (Nat → Int32) × (Nat → Int32) × (Nat → Int32) × (Nat → Int32)) :
    (∃ (kd8 fr8 to8 : Int32) (x8 : Int64) (key8 wh8 at8 en8 tk8 w8 ns8 : Int32) (L8 : Nat → Int32) (j : Nat) (w : Int32) (s8 e8 b8 a8 : Nat → Int32), m < 4 ∧ TS keys n lo kd8 fr8 to8 x8 key8 wh8 at8 en8 tk8 w8 ns8 L8 ∧ PX3_readPart fn fp T (nI n) kd fr to x key wh names keys (nI N) parts pn wt ws steps below above p0 = (1, fn, fp, kd8, fr8, to8, x8, key8, wh8, upd parts N (nI (m + 1)), upd pn (4 * N + m) (nI j), upd wt (4 * N + m) w, s8, e8, b8, a8) ∧ un4_ (PX7_nodeHere at7 tk ns fa pl L 0 fsh) (fun v f1 p1 fd => HX7_innerLine_1 U (nI n) p0 fs fsr (nI N) (nI m) at7 en tk w2 ns L fsh rd v K (((nI m).toInt - (0 : Int32).toInt).toNat + 1) 0 fd f1 p1) = (if tk8 = 44 then un6_ (PX7_next U (nI n) en8 L8) (fun a b c d e M => K (nI (m + 1)) 1 a b c d e fa pl 0 M (upd fsh (45 + 4 * N + m) w) (upd rd (4 * N + m) (nI j))) else K (nI (m + 1)) 0 at8 en8 tk8 w8 ns8 fa pl 0 L8 (upd fsh (45 + 4 * N + m) w) (upd rd (4 * N + m) (nI j))))
    ∨ ∃ (q z c1 c2 c3 : Int32) (c4 : Int64) (c5 c6 : Int32) (m1 m2 m3 m4 m5 m6 m7 : Nat → Int32) (d1 d2 d3 d4 d5 : Int32) (M : Nat → Int32), PX3_readPart fn fp T (nI n) kd fr to x key wh names keys (nI N) parts pn wt ws steps below above p0 = (0, q, z, c1, c2, c3, c4, c5, c6, m1, m2, m3, m4, m5, m6, m7) ∧ un4_ (PX7_nodeHere at7 tk ns fa pl L 0 fsh) (fun v f1 p1 fd => HX7_innerLine_1 U (nI n) p0 fs fsr (nI N) (nI m) at7 en tk w2 ns L fsh rd v K (((nI m).toInt - (0 : Int32).toInt).toNat + 1) 0 fd f1 p1) = (d1, d2, d3, d4, d5, q, z, 1, fs, M, fsh, rd, fsr) := by
  have hfu : m < ((nI m).toInt - (0 : Int32).toInt).toNat + 1 := by rw [nI_toInt (by omega), kc_0]; omega
  rw [PX3_readPart_eq]
  rcases told_sim hK h (by omega) hNR fn fp fa pl with ⟨e1, j, e2, e3, e4⟩ | ⟨q, e1, e2⟩
  · rw [un3_eq e1, if_neg (show ¬ (1 : Int32) = 0 by decide), e3, un4_eq e4]
    dsimp only [lt_]
    obtain ⟨v1, v2⟩ := in_loop (U := U) (n := n) (p0 := p0) (fs := fs) (fa := fa) (pl := pl) (fsr := fsr) (fsh := fsh) (rd := rd) (v := nI j) (K := K) (at7 := at7) (en := en) (tk := tk) (w2 := w2) (ns := ns) (L := L) hN hm m 0 (((nI m).toInt - (0 : Int32).toInt).toNat + 1) rfl (by omega) hfu
    rw [nI_0] at v1 v2
    have hu : (∃ i : Nat, i < m ∧ pn (4 * N + i) = nI j) ↔ ∃ i : Nat, 0 ≤ i ∧ i < m ∧ rd (4 * N + i) = nI j := by
      constructor
      · rintro ⟨i, i1, i2⟩
        exact ⟨i, Nat.zero_le _, i1, by rw [← hE i i1]; exact i2⟩
      · rintro ⟨i, -, i1, i2⟩
        exact ⟨i, i1, by rw [hE i i1]; exact i2⟩
    by_cases hx : ∃ i : Nat, i < m ∧ pn (4 * N + i) = nI j
    · right
      rw [if_neg ((place_eq hN hm hp).1 hx), fl0, un3_eq rfl, v1 (hu.mp hx), h.frq]
      exact ⟨_, _, _, _, _, _, _, _, _, _, _, _, _, _, _, _, _, _, _, _, _, rfl, rfl⟩
    · rw [if_pos ((place_eq hN hm hp).2 hx), room_p hN hm hp]
      obtain ⟨g, hg⟩ := v2 (fun q => hx (hu.mpr q))
      rw [hg, HX7_innerLine_1_eq, if_pos (nI_le (Nat.le_refl _) (by omega)), if_pos rfl]
      dsimp only [lt_]
      by_cases h4 : m < 4
      · rw [if_pos h4, if_pos rfl, if_neg (show ¬ nI m = 4 from fun q => absurd ((nI_eq (a := m) (b := 4) (by omega) (by omega)).mp q) (by omega))]
        obtain ⟨kd1, fr1, to1, x1, key1, wh1, at1, en1, tk1, w1, ns1, L1, g1, g2, g3, -⟩ := h.next hT hn x wh L
        rw [un6_eq g1, pass1 g2, un6_eq rfl]
        by_cases h3 : p0 = 3
        · rw [if_pos h3, if_pos h3]
          rcases num_sim g3 hT hn 1 9 fn fp fa pl with ⟨b1, b2, b3, kd2, fr2, to2, x2, key2, wh2, at9, en9, tk9, w9, ns9, L9, ⟨c1, c2, c3, -⟩, c4⟩ | ⟨q, c1, c2⟩
          · left
            obtain ⟨s8, e8, b8, a8, ha⟩ := add_p hN h4 hp e2 pn wt ws steps below above wh1
            refine ⟨kd2, fr2, to2, x2, key2, wh2, at9, en9, tk9, w9, ns9, L9, j, wh1, s8, e8, b8, a8, h4, c3, ?_, ?_⟩
            · rw [un3_eq b3, if_neg (show ¬ (1 : Int32) = 0 by decide), un6_eq c1, un7_eq ha]
            · rw [un10_eq c4, if_pos rfl, cl_add (mul4' (by omega)) (by omega), cl_add (add45 (by omega)) (by omega), nI_o1]
          · right
            rw [un3_eq c1, if_pos rfl, un10_eq c2, if_neg (show ¬ (1 : Int32) = 0 by decide)]
            exact ⟨_, _, _, _, _, _, _, _, _, _, _, _, _, _, _, _, _, _, _, _, _, rfl, rfl⟩
        · left
          rw [if_neg h3, if_neg h3, if_pos rfl]
          obtain ⟨s8, e8, b8, a8, ha⟩ := add_p hN h4 hp e2 pn wt ws steps below above 0
          refine ⟨kd1, fr1, to1, x1, key1, wh1, at1, en1, tk1, w1, ns1, L1, j, 0, s8, e8, b8, a8, h4, g3, ?_, ?_⟩
          · rw [un7_eq ha]
          · rw [cl_add (mul4' (by omega)) (by omega), cl_add (add45 (by omega)) (by omega), nI_o1]
      · right
        have hm4 : m = 4 := by omega
        rw [if_neg h4, if_neg (show ¬ (0 : Int32) = 1 by decide), fl0, un3_eq rfl, if_pos (show nI m = 4 by rw [hm4]; rfl), wr0, un3_eq rfl, pass0 (by decide), un6_eq rfl, h.frq]
        by_cases h3 : p0 = 3
        · rw [if_pos h3, num_f (by decide), un10_eq rfl, if_neg (show ¬ (1 : Int32) = 0 by decide)]
          exact ⟨_, _, _, _, _, _, _, _, _, _, _, _, _, _, _, _, _, _, _, _, _, rfl, rfl⟩
        · rw [if_neg h3, if_neg (show ¬ (1 : Int32) = 0 by decide)]
          exact ⟨_, _, _, _, _, _, _, _, _, _, _, _, _, _, _, _, _, _, _, _, _, rfl, rfl⟩
  · right
    have u1 := in_f (U := U) (n := n) (p0 := p0) (fs := fs) (q := q) (z := at7) (fsr := fsr) (fsh := fsh) (rd := rd) (N := N) (v := 0) (K := K) (at7 := at7) (en := en) (tk := tk) (w2 := w2) (ns := ns) (L := L) hm m 0 (((nI m).toInt - (0 : Int32).toInt).toNat + 1) rfl (by omega) hfu
    rw [nI_0] at u1
    rw [un3_eq e1, if_pos rfl, un4_eq e2, u1]
    exact ⟨_, _, _, _, _, _, _, _, _, _, _, _, _, _, _, _, _, _, _, _, _, rfl, rfl⟩
end PT
