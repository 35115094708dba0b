/-! odds and mean on both sides -/
section F20
section WQ
variable {N : Nat} {words unsures slips throne said unit : Int32} {kind parts pn wt tw uw uo r told st W W' o Q w ws steps below above : Nat → Int32}
theorem ts1_loop (hC : CR N words unsures slips throne said kind parts pn wt tw uw uo r told) (hS : StR N parts pn w o st) (hI : CI N unit kind parts pn wt ws steps below above) (hR : ROk r) {U s t : Nat} (hU : U ≤ 4) (hu : unsures = nI U) (hs : s < 16) (hth : r 6 = nI t) (ht : t < N) {p0 : Int32} {A E S : Int64} {T : Nat → Int32} {K : Int32 → Int64 → Int64 → Int64 → (Nat → Int32) → Int64 × Int64 × Int64 × (Nat → Int32)} : ∀ (m j f : Nat), U - j = m → j ≤ U → m < f → ∃ T' : Nat → Int32, HX7_trySlips_1 r told st unit (-1) p0 (nI s) A E S T K f (nI j) (LKL slips s j) = K (nI (s + 1)) (A + LKL slips s U) (if TU unit kind parts pn wt ws uw uo w U t s < p0 * unit then E else E + LKL slips s U) (S + LKL slips s U * (TU unit kind parts pn wt ws uw uo w U t s).toInt64) T' := by
  have h3 : r 3 = nI U := hC.2.2.2.2.1.trans hu
  have h0 : r 0 = slips := hC.2.2.2.2.2.1
  have z0 : (0 : Int32).toNatClampNeg = 0 := by decide
  intro m
  induction m with
  | zero =>
    intro j f hm hj hf
    obtain ⟨f, rfl⟩ : ∃ g, f = g + 1 := ⟨f - 1, by omega⟩
    obtain rfl : j = U := by omega
    obtain ⟨Q', e, hQ'⟩ := tu7 hC hR hU hu hs hS T
    have hv : PX7_throneBy r told unit (-1) Q' = TU unit kind parts pn wt ws uw uo w j t s := tv_eq hC hQ' hI hR ht hth
    refine ⟨Q', ?_⟩
    rw [HX7_trySlips_1_eq, lt_ap, three_cl, h3, if_pos (nI_le (Nat.le_refl _) (by omega)), e]
    simp only [lt_ap]
    rw [hv, nI_o1]
    by_cases c : TU unit kind parts pn wt ws uw uo w j t s < p0 * unit
    · rw [if_pos c, if_pos c, Int64.add_zero]
    · rw [if_neg c, if_neg c]
  | succ m ih =>
    intro j f hm hj hf
    obtain ⟨f, rfl⟩ : ∃ g, f = g + 1 := ⟨f - 1, by omega⟩
    obtain ⟨T', hn⟩ := ih (j + 1) f (by omega) (by omega) (by omega)
    refine ⟨T', ?_⟩
    rw [HX7_trySlips_1_eq, lt_ap, three_cl, h3, if_neg (show ¬ nI U ≤ nI j by rw [nI_leI (by omega) (by omega)]; omega)]
    simp only [lt_ap]
    rw [hasBit_eq (by omega) (by omega), nI_o1, z0, h0]
    by_cases c : s.testBit j = true
    · rw [if_pos c, if_neg (show ¬ (1 : Int32) = 0 by decide)]
      rw [LKL, if_pos c] at hn; exact hn
    · rw [if_neg c, if_pos rfl]
      rw [LKL, if_neg c] at hn; exact hn
theorem ts0_loop (hC : CR N words unsures slips throne said kind parts pn wt tw uw uo r told) (hS : StR N parts pn w o st) (hI : CI N unit kind parts pn wt ws steps below above) (hR : ROk r) {U t : Nat} (hU : U ≤ 4) (hu : unsures = nI U) (hth : r 6 = nI t) (ht : t < N) {p0 : Int32} : ∀ (m s f : Nat) (T : Nat → Int32), 2 ^ U - s = m → s ≤ 2 ^ U → m < f → ∃ T' : Nat → Int32, HX7_trySlips_0 r told st unit (-1) p0 f (nI s) (AAs slips U s) (EEs slips U (TU unit kind parts pn wt ws uw uo w U t) (p0 * unit) s) (SSs slips U (TU unit kind parts pn wt ws uw uo w U t) s) T = (AAs slips U (2 ^ U), EEs slips U (TU unit kind parts pn wt ws uw uo w U t) (p0 * unit) (2 ^ U), SSs slips U (TU unit kind parts pn wt ws uw uo w U t) (2 ^ U), T') := by
  have h16 := u16 hU
  have h3 : r 3 = nI U := hC.2.2.2.2.1.trans hu
  intro m
  induction m with
  | zero =>
    intro s f T hm hs hf
    obtain ⟨f, rfl⟩ : ∃ g, f = g + 1 := ⟨f - 1, by omega⟩
    obtain rfl : s = 2 ^ U := by omega
    refine ⟨T, ?_⟩
    rw [HX7_trySlips_0_eq]
    simp only [lt_ap]
    rw [three_cl, h3, bt_shl U (by omega), if_pos (nI_le (Nat.le_refl _) (by omega))]
  | succ m ih =>
    intro s f T hm hs hf
    obtain ⟨f, rfl⟩ : ∃ g, f = g + 1 := ⟨f - 1, by omega⟩
    obtain ⟨T1, e1⟩ := ts1_loop hC hS hI hR hU hu (show s < 16 by omega) hth ht (p0 := p0) (A := AAs slips U s) (E := EEs slips U (TU unit kind parts pn wt ws uw uo w U t) (p0 * unit) s) (S := SSs slips U (TU unit kind parts pn wt ws uw uo w U t) s) (T := T) (K := fun z_11205 z_11206 z_11207 z_11208 f_11209 => HX7_trySlips_0 r told st unit (-1) p0 f z_11205 z_11206 z_11207 z_11208 f_11209) U 0 ((((r 3).toInt - (0 : Int32).toInt).toNat) + 1) rfl (by omega) (by rw [h3, nI_toInt (by omega), kc_0]; omega)
    obtain ⟨T2, e2⟩ := ih (s + 1) f T1 (by omega) (by omega) (by omega)
    refine ⟨T2, ?_⟩
    rw [HX7_trySlips_0_eq]
    simp only [lt_ap]
    rw [three_cl, h3, bt_shl U (by omega), if_neg (show ¬ nI (2 ^ U) ≤ nI s by rw [nI_leI (by omega) (by omega)]; omega)]
    rw [h3, nI_0] at e1
    rw [AAs, EEs, SSs] at e2
    exact e1.trans e2
theorem ts_eq (hC : CR N words unsures slips throne said kind parts pn wt tw uw uo r told) (hS : StR N parts pn w o st) (hI : CI N unit kind parts pn wt ws steps below above) (hR : ROk r) {U t : Nat} (hU : U ≤ 4) (hu : unsures = nI U) (hth : r 6 = nI t) (ht : t < N) (p0 : Int32) (T : Nat → Int32) : ∃ T' : Nat → Int32, PX7_trySlips r told st unit (-1) T p0 = (AAs slips U (2 ^ U), EEs slips U (TU unit kind parts pn wt ws uw uo w U t) (p0 * unit) (2 ^ U), SSs slips U (TU unit kind parts pn wt ws uw uo w U t) (2 ^ U), T') := by
  have h16 := u16 hU
  have h3 : r 3 = nI U := hC.2.2.2.2.1.trans hu
  have hp : ((2 : Int) ^ (r 3).toInt.toNat - (0 : Int32).toInt).toNat = 2 ^ U := by
    rw [h3, nI_toInt (by omega), kc_0, Int.toNat_natCast, Int.sub_zero, show (2 : Int) ^ U = ((2 ^ U : Nat) : Int) by rw [Int.natCast_pow]; rfl, Int.toNat_natCast]
  obtain ⟨T', e⟩ := ts0_loop hC hS hI hR hU hu hth ht (p0 := p0) (2 ^ U) 0 (2 ^ U + 1) T rfl (by omega) (by omega)
  refine ⟨T', ?_⟩
  rw [PX7_trySlips_eq, hp]
  rw [nI_0] at e
  exact e
theorem od_loop (hC : CR N words unsures slips throne said kind parts pn wt tw uw uo r told) (hI : CI N unit kind parts pn wt ws steps below above) (hR : ROk r) {U t : Nat} (hU : U ≤ 4) (hu : ∀ j : Nat, j < U → 0 ≤ (uo j).toInt ∧ (uo j).toInt ≤ 99) (hd : ∀ j : Nat, j < U → (uw j).toNatClampNeg < 18) (hW : ∀ k : Nat, k < N → kind k = 0 → 0 ≤ (w k).toInt ∧ (w k).toInt ≤ 99) (hun : 1 ≤ unit.toInt ∧ unit.toInt ≤ 1296) (hth : throne = nI t) (ht : t < N) {p0 p1 x : Int32} : ∀ (m s f : Nat) (V S : Nat → Int32), 2 ^ U - s = m → s ≤ 2 ^ U → m < f → ∃ L' G' : Nat → Int32, HX6_odds_0 (nI N) (nI U) slips throne unit kind parts pn wt ws uw uo w p0 p1 x f (nI s) (EEs slips U (TU unit kind parts pn wt ws uw uo w U t) (p0 * unit) s) V S = (PX6_inLowestTerms (EEs slips U (TU unit kind parts pn wt ws uw uo w U t) (p0 * unit) (2 ^ U)) (ALL U) p1, x, L', G') := by
  have h16 := u16 hU
  intro m
  induction m with
  | zero =>
    intro s f V S hm hs hf
    obtain ⟨f, rfl⟩ : ∃ g, f = g + 1 := ⟨f - 1, by omega⟩
    obtain rfl : s = 2 ^ U := by omega
    refine ⟨V, S, ?_⟩
    rw [HX6_odds_0_eq, lt_ap, us_eq hU, if_pos (nI_le (Nat.le_refl _) (by omega))]
    simp only [lt_ap]
    rw [al_eq hU]
  | succ m ih =>
    intro s f V S hm hs hf
    obtain ⟨f, rfl⟩ : ∃ g, f = g + 1 := ⟨f - 1, by omega⟩
    obtain ⟨L1, G1, e⟩ := tu6 hC hI hR hU hu hd hW (show s < 16 by omega) hun hth ht V S
    obtain ⟨L', G', hn⟩ := ih (s + 1) f L1 G1 (by omega) (by omega) (by omega)
    refine ⟨L', G', ?_⟩
    rw [HX6_odds_0_eq, lt_ap, us_eq hU, if_neg (show ¬ nI (2 ^ U) ≤ nI s by rw [nI_leI (by omega) (by omega)]; omega), un3_eq e]
    simp only [lt_ap]
    rw [lkh_eq hU (by omega), nI_o1]
    rw [EEs] at hn
    by_cases c : TU unit kind parts pn wt ws uw uo w U t s < p0 * unit
    · rw [if_pos c] at hn ⊢; exact hn
    · rw [if_neg c] at hn ⊢; exact hn
theorem me_loop (hC : CR N words unsures slips throne said kind parts pn wt tw uw uo r told) (hI : CI N unit kind parts pn wt ws steps below above) (hR : ROk r) {U t : Nat} (hU : U ≤ 4) (hu : ∀ j : Nat, j < U → 0 ≤ (uo j).toInt ∧ (uo j).toInt ≤ 99) (hd : ∀ j : Nat, j < U → (uw j).toNatClampNeg < 18) (hW : ∀ k : Nat, k < N → kind k = 0 → 0 ≤ (w k).toInt ∧ (w k).toInt ≤ 99) (hun : 1 ≤ unit.toInt ∧ unit.toInt ≤ 1296) (hth : throne = nI t) (ht : t < N) {p0 x : Int32} : ∀ (m s f : Nat) (V S : Nat → Int32), 2 ^ U - s = m → s ≤ 2 ^ U → m < f → ∃ L' G' : Nat → Int32, HX6_mean_0 (nI N) (nI U) slips throne unit kind parts pn wt ws uw uo w p0 x f (nI s) (SSs slips U (TU unit kind parts pn wt ws uw uo w U t) s) V S = (PX6_inLowestTerms (SSs slips U (TU unit kind parts pn wt ws uw uo w U t) (2 ^ U)) (ALL U * unit.toInt64) p0, x, L', G') := by
  have h16 := u16 hU
  intro m
  induction m with
  | zero =>
    intro s f V S hm hs hf
    obtain ⟨f, rfl⟩ : ∃ g, f = g + 1 := ⟨f - 1, by omega⟩
    obtain rfl : s = 2 ^ U := by omega
    refine ⟨V, S, ?_⟩
    rw [HX6_mean_0_eq, lt_ap, us_eq hU, if_pos (nI_le (Nat.le_refl _) (by omega))]
    simp only [lt_ap]
    rw [al_eq hU]
  | succ m ih =>
    intro s f V S hm hs hf
    obtain ⟨f, rfl⟩ : ∃ g, f = g + 1 := ⟨f - 1, by omega⟩
    obtain ⟨L1, G1, e⟩ := tu6 hC hI hR hU hu hd hW (show s < 16 by omega) hun hth ht V S
    obtain ⟨L', G', hn⟩ := ih (s + 1) f L1 G1 (by omega) (by omega) (by omega)
    refine ⟨L', G', ?_⟩
    rw [HX6_mean_0_eq, lt_ap, us_eq hU, if_neg (show ¬ nI (2 ^ U) ≤ nI s by rw [nI_leI (by omega) (by omega)]; omega), lt_ap, lkh_eq hU (by omega), un3_eq e]
    simp only [lt_ap]
    rw [nI_o1]
    rw [SSs] at hn
    exact hn
theorem TU_in (hC : CR N words unsures slips throne said kind parts pn wt tw uw uo r told) (hI : CI N unit kind parts pn wt ws steps below above) (hR : ROk r) {U t : Nat} (hU : U ≤ 4) (hu : ∀ j : Nat, j < U → 0 ≤ (uo j).toInt ∧ (uo j).toInt ≤ 99) (hW : ∀ k : Nat, k < N → kind k = 0 → 0 ≤ (w k).toInt ∧ (w k).toInt ≤ 99) (hun : 1 ≤ unit.toInt ∧ unit.toInt ≤ 1296) (ht : t < N) (s : Nat) : 0 ≤ (TU unit kind parts pn wt ws uw uo w U t s).toInt ∧ (TU unit kind parts pn wt ws uw uo w U t s).toInt ≤ 128304 := by
  have hN := hI.1
  exact VV_in hC hI hR (SW_in (uw := uw) (s := s) hU hu hW U (Nat.le_refl _)) hun t 18 (by omega) ht
end WQ
section FJ
variable {nodes words unsures slips throne said : Int32} {kind parts pn wt tw uw uo w o : Nat → Int32} {ic : Int32} {iw0 io0 iw1 io1 iw2 io2 : Nat → Int32} {ac : Int32} {an ao as : Nat → Int32} {hc : Int32} {r told st und kept : Nat → Int32} {undos images : Int32} {unit : Int32} {ws steps below above : Nat → Int32} {scale night : Int32}
theorem odds_join (h : Rel nodes words unsures slips throne said kind parts pn wt tw uw uo w o ic iw0 io0 iw1 io1 iw2 io2 ac an ao as hc r told st und kept undos images) (hx : CIS nodes unit kind parts pn wt ws steps below above) (hs : PX7_layScale r = scale) (hM : ROk r ∧ RowOk r st ∧ RowOk r told ∧ WorOk st ∧ night.toInt = -1 ∧ 1 ≤ scale.toInt ∧ scale.toInt ≤ 1296) (hT : WorOk told) (hu9 : ∀ j : Nat, j < 4 → 0 ≤ (r (118 + 2 * j)).toInt ∧ (r (118 + 2 * j)).toInt ≤ 99) {lv lv' lu lu' T T' : Nat → Int32} {p0 p1 rf t1 t2 : Int32} {q6 q7 aw ew sm aw' ew' sm' : Int64} (e6 : PX6_odds nodes unsures slips throne unit kind parts pn wt ws uw uo w lv lu p0 p1 = (q6, rf, lv', lu')) (e7 : PX7_odds hc r told st scale night T aw ew sm p0 p1 = (q7, t1, t2, aw', ew', sm', T')) : q6 = q7 ∧ rf = t2 := by
  obtain ⟨hR, hQ, hQt, hW, hnt, hsc⟩ := hM
  obtain rfl : night = -1 := (fz_eq _ _).mpr (hnt.trans (by decide))
  have k99 : (99 : Int32).toInt = 99 := by decide
  have key : ∃ (q : Int64) (f t : Int32) (a1 a2 a3 : Int64) (a b c : Nat → Int32), PX6_odds nodes unsures slips throne unit kind parts pn wt ws uw uo w lv lu p0 p1 = (q, f, a, b) ∧ PX7_odds hc r told st scale (-1) T aw ew sm p0 p1 = (q, t, f, a1, a2, a3, c) := by
    rcases h with ⟨rfl, h0⟩ | ⟨N, c, d, rfl, rfl, rfl, rfl, hc, rfl, rfl, hd, hC, hS, hU, hI⟩
    · obtain ⟨h2, h3, h4, h5, h6, h7, rfl, h8, h9⟩ := h0
      refine ⟨-1, 1, 0, aw, ew, sm, lv, lu, T, ?_, ?_⟩
      · rw [PX6_odds_eq, ln_0, un2_eq rfl, if_neg (show ¬ (1 : Int32) = 0 by decide)]
      · rw [PX7_odds_eq, PX7_good_eq, un2_eq rfl]
        simp only [lt_ap]
        rw [why_0, if_neg (show ¬ (1 : Int32) = 0 by decide), if_pos rfl, no_eq, un2_eq rfl, l2_no]
    · obtain ⟨hN0, hN, hr⟩ := hC.N
      obtain ⟨M, hM, hX⟩ := hx
      obtain rfl : N = M := (nI_eq (by omega) (by have := hX.1; omega)).mp hM
      obtain rfl : unit = scale := (ls_eq hC hX).symm.trans hs
      obtain ⟨U, t, p, hU4, hu, h3, t1, t2, ht6, hu0, hd0, -, -⟩ := us_pre hC hX hR hsc hT hu9
      have h16 := u16 hU4
      have hsl : 0 ≤ slips.toInt ∧ slips.toInt ≤ 100 := by have q := hR.slips; rw [hC.2.2.2.2.2.1] at q; exact q
      have hWw := w_in hC hS hW
      by_cases c0 : 0 ≤ p0.toInt ∧ p0.toInt ≤ 99
      · obtain ⟨T', e7'⟩ := ts_eq hC hS hX hR hU4 hu ht6 t1 p0 T
        obtain ⟨L', G', e6'⟩ := od_loop (slips := slips) hC hX hR hU4 hu0 hd0 hWw hsc t2 t1 (p0 := p0) (p1 := p1) (x := 0) (2 ^ U) 0 (((2147483647 - (0 : Int32).toInt).toNat) + 1) lv lu rfl (by omega) (by rw [kc_0]; omega)
        rw [nI_0] at e6'
        have hE := EEs_in (T := TU unit kind parts pn wt ws uw uo w U t) (x := p0 * unit) hsl hU4 (2 ^ U) h16.2
        have hA := all_i U hU4
        have q := p100 hU4
        refine ⟨PX6_inLowestTerms (EEs slips U (TU unit kind parts pn wt ws uw uo w U t) (p0 * unit) (2 ^ U)) (ALL U) p1, 0, 0, AAs slips U (2 ^ U), EEs slips U (TU unit kind parts pn wt ws uw uo w U t) (p0 * unit) (2 ^ U), SSs slips U (TU unit kind parts pn wt ws uw uo w U t) (2 ^ U), L', G', T', ?_, ?_⟩
        · rw [PX6_odds_eq, ln_N hN0 hN, kc_0, k99, if_pos c0, un2_eq rfl, if_pos rfl, hu]
          exact e6'
        · rw [PX7_odds_eq, PX7_good_eq, un2_eq rfl]
          simp only [lt_ap]
          rw [in_eq, kc_0, k99, if_pos c0, why_n, if_neg (show ¬ (1 : Int32) = 0 by decide), if_pos rfl, un4_eq e7', AAs_eq hsl hU4, lowest_eq hE.1 (by rw [hA]; omega)]
      · refine ⟨-1, 2, 0, aw, ew, sm, lv, lu, T, ?_, ?_⟩
        · rw [PX6_odds_eq, ln_N hN0 hN, kc_0, k99, if_neg c0, un2_eq rfl, if_neg (show ¬ (1 : Int32) = 0 by decide)]
        · rw [PX7_odds_eq, PX7_good_eq, un2_eq rfl]
          simp only [lt_ap]
          rw [in_eq, kc_0, k99, if_neg c0, why_n, if_pos rfl, if_neg (show ¬ (2 : Int32) = 0 by decide), if_neg (show ¬ (2 : Int32) = 1 by decide), no_eq, un2_eq rfl, l2_no]
  obtain ⟨q, f, t, a1, a2, a3, a, b, c, g6, g7⟩ := key
  have x := g6.symm.trans e6
  have y := g7.symm.trans e7
  simp only [Prod.mk.injEq] at x y
  obtain ⟨rfl, rfl, -⟩ := x
  obtain ⟨rfl, -, rfl, -⟩ := y
  exact ⟨rfl, rfl⟩
theorem mean_join (h : Rel nodes words unsures slips throne said kind parts pn wt tw uw uo w o ic iw0 io0 iw1 io1 iw2 io2 ac an ao as hc r told st und kept undos images) (hx : CIS nodes unit kind parts pn wt ws steps below above) (hs : PX7_layScale r = scale) (hM : ROk r ∧ RowOk r st ∧ RowOk r told ∧ WorOk st ∧ night.toInt = -1 ∧ 1 ≤ scale.toInt ∧ scale.toInt ≤ 1296) (hT : WorOk told) (hu9 : ∀ j : Nat, j < 4 → 0 ≤ (r (118 + 2 * j)).toInt ∧ (r (118 + 2 * j)).toInt ≤ 99) {lv lv' lu lu' T T' : Nat → Int32} {p0 rf t1 t2 : Int32} {q6 q7 aw ew sm aw' ew' sm' : Int64} (e6 : PX6_mean nodes unsures slips throne unit kind parts pn wt ws uw uo w lv lu p0 = (q6, rf, lv', lu')) (e7 : PX7_mean hc r told st scale night T aw ew sm p0 = (q7, t1, t2, aw', ew', sm', T')) : q6 = q7 ∧ rf = t2 := by
  obtain ⟨hR, hQ, hQt, hW, hnt, hsc⟩ := hM
  obtain rfl : night = -1 := (fz_eq _ _).mpr (hnt.trans (by decide))
  have key : ∃ (q : Int64) (f t : Int32) (a1 a2 a3 : Int64) (a b c : Nat → Int32), PX6_mean nodes unsures slips throne unit kind parts pn wt ws uw uo w lv lu p0 = (q, f, a, b) ∧ PX7_mean hc r told st scale (-1) T aw ew sm p0 = (q, t, f, a1, a2, a3, c) := by
    rcases h with ⟨rfl, h0⟩ | ⟨N, c, d, rfl, rfl, rfl, rfl, hc, rfl, rfl, hd, hC, hS, hU, hI⟩
    · obtain ⟨h2, h3, h4, h5, h6, h7, rfl, h8, h9⟩ := h0
      refine ⟨-1, 1, 0, aw, ew, sm, lv, lu, T, ?_, ?_⟩
      · rw [PX6_mean_eq, lc_0, un2_eq rfl, if_neg (show ¬ (1 : Int32) = 0 by decide)]
      · rw [PX7_mean_eq, PX7_good_eq, un2_eq rfl, if_pos rfl, no_eq, un2_eq rfl, lt_ap, l2_no]
    · obtain ⟨hN0, hN, hr⟩ := hC.N
      obtain ⟨M, hM, hX⟩ := hx
      obtain rfl : N = M := (nI_eq (by omega) (by have := hX.1; omega)).mp hM
      obtain rfl : unit = scale := (ls_eq hC hX).symm.trans hs
      obtain ⟨U, t, p, hU4, hu, h3, t1, t2, ht6, hu0, hd0, -, -⟩ := us_pre hC hX hR hsc hT hu9
      have h16 := u16 hU4
      have hsl : 0 ≤ slips.toInt ∧ slips.toInt ≤ 100 := by have q := hR.slips; rw [hC.2.2.2.2.2.1] at q; exact q
      have hWw := w_in hC hS hW
      obtain ⟨T', e7'⟩ := ts_eq hC hS hX hR hU4 hu ht6 t1 0 T
      obtain ⟨L', G', e6'⟩ := me_loop (slips := slips) hC hX hR hU4 hu0 hd0 hWw hsc t2 t1 (p0 := p0) (x := 0) (2 ^ U) 0 (((2147483647 - (0 : Int32).toInt).toNat) + 1) lv lu rfl (by omega) (by rw [kc_0]; omega)
      rw [nI_0] at e6'
      have hE := SSs_in (T := TU unit kind parts pn wt ws uw uo w U t) hsl hU4 (fun s _ => TU_in hC hX hR hU4 hu0 hWw hsc t1 s) (2 ^ U) h16.2
      have hA := all_i U hU4
      have q := p100 hU4
      have hD : (ALL U * unit.toInt64).toInt = ((100 ^ U : Nat) : Int) * unit.toInt := by
        have m1 : ((100 ^ U : Nat) : Int) * unit.toInt ≤ 100000000 * 1296 := Int.mul_le_mul (by omega) hsc.2 (by omega) (by decide)
        have m0 : 0 ≤ ((100 ^ U : Nat) : Int) * unit.toInt := Int.mul_nonneg (by omega) (by omega)
        rw [fb_mulL (by rw [hA, Int32.toInt_toInt64]; omega) (by rw [hA, Int32.toInt_toInt64]; omega), hA, Int32.toInt_toInt64]
      have hD1 : 1 ≤ (ALL U * unit.toInt64).toInt := by
        rw [hD]
        exact Int.le_trans (show (1 : Int) ≤ 1 * 1 by decide) (Int.mul_le_mul (by omega) hsc.1 (by decide) (by omega))
      refine ⟨PX6_inLowestTerms (SSs slips U (TU unit kind parts pn wt ws uw uo w U t) (2 ^ U)) (ALL U * unit.toInt64) p0, 0, 0, AAs slips U (2 ^ U), EEs slips U (TU unit kind parts pn wt ws uw uo w U t) (0 * unit) (2 ^ U), SSs slips U (TU unit kind parts pn wt ws uw uo w U t) (2 ^ U), L', G', T', ?_, ?_⟩
      · rw [PX6_mean_eq, lc_N hN0 hN, un2_eq rfl, if_pos rfl, hu]
        exact e6'
      · rw [PX7_mean_eq, PX7_good_eq, un2_eq rfl, if_neg (show ¬ (1 : Int32) = 0 by decide), un4_eq e7']
        simp only [lt_ap]
        rw [AAs_eq hsl hU4, lowest_eq hE.1 hD1]
  obtain ⟨q, f, t, a1, a2, a3, a, b, c, g6, g7⟩ := key
  have x := g6.symm.trans e6
  have y := g7.symm.trans e7
  simp only [Prod.mk.injEq] at x y
  obtain ⟨rfl, rfl, -⟩ := x
  obtain ⟨rfl, -, rfl, -⟩ := y
  exact ⟨rfl, rfl⟩
end FJ
end F20
