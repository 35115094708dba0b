/-! hearing on both sides -/
section G4
theorem hs_loop {B C : Int32} {hr cr : Nat → Int32} {b : Nat} (hb : b < 2 ^ 31) : ∀ (m i f : Nat), b - i = m → i ≤ b → m < f → HX7_heardSet_0 B C hr cr (nI b) f (nI i) (hO hr i) = (hO hr b, B, C, hr, cr) := by
  intro m
  induction m with
  | zero =>
    intro i f hm hi hf
    obtain ⟨f, rfl⟩ : ∃ g, f = g + 1 := ⟨f - 1, by omega⟩
    obtain rfl : i = b := by omega
    rw [HX7_heardSet_0_eq, if_pos (nI_le (Nat.le_refl _) (by omega))]
  | succ m ih =>
    intro i f hm hi hf
    obtain ⟨f, rfl⟩ : ∃ g, f = g + 1 := ⟨f - 1, by omega⟩
    rw [HX7_heardSet_0_eq, if_neg (show ¬ nI b ≤ nI i by rw [nI_leI (by omega) (by omega)]; omega)]
    simp only [lt_ap]
    rw [nI_clamp (show i < 2 ^ 31 by omega), nI_o1]
    exact ih (i + 1) f (by omega) (by omega) (by omega)
theorem nI_m1i {b : Nat} (hb : b < 2 ^ 31) : (nI b - (1 : Int32)).toInt = (b : Int) - 1 := by
  have e : (1 : Int32).toInt = 1 := by decide
  rw [fb_subI (by rw [nI_toInt hb, e]; omega) (by rw [nI_toInt hb, e]; omega), nI_toInt hb, e]
theorem lb_0 (p0 p1 : Int32) : PX6_lacksBounds 0 p0 p1 = (1, 1) := by rw [PX6_lacksBounds_eq, lc_0, un2_eq rfl, if_neg (show ¬ (1 : Int32) = 0 by decide)]
theorem lb_N {N : Nat} (hN0 : 0 < N) (hN : N ≤ 18) (p0 p1 : Int32) : PX6_lacksBounds (nI N) p0 p1 = if 0 ≤ p0.toInt ∧ p0.toInt < p1.toInt ∧ p1.toInt ≤ 99 then (0, 0) else (1, 2) := by
  have k99 : (99 : Int32).toInt = 99 := by decide
  rw [PX6_lacksBounds_eq, lc_N hN0 hN, un2_eq rfl, if_pos rfl]
  by_cases a : p0 < 0
  · rw [if_pos a, if_neg (fun q => by rw [fz_lt, kc_0] at a; omega)]
  · rw [if_neg a]
    by_cases b : (99 : Int32) < p1
    · rw [if_pos b, if_neg (fun q => by rw [fz_lt, k99] at b; omega)]
    · rw [if_neg b]
      by_cases c : p0 < p1
      · rw [if_pos c, if_pos rfl, if_pos (by rw [fz_lt, kc_0] at a; rw [fz_lt, k99] at b; rw [fz_lt] at c; omega)]
      · rw [if_neg c, if_neg (fun q => by rw [fz_lt] at c; omega)]
theorem bw_0 (p0 p1 : Int32) : PX7_boundWhy 0 p0 p1 = 1 := by rw [PX7_boundWhy_eq, if_pos rfl]
theorem bw_1 (p0 p1 : Int32) : PX7_boundWhy 1 p0 p1 = if 0 ≤ p0.toInt ∧ p0.toInt < p1.toInt ∧ p1.toInt ≤ 99 then 0 else 2 := by
  have k99 : (99 : Int32).toInt = 99 := by decide
  rw [PX7_boundWhy_eq, if_neg (show ¬ (1 : Int32) = 0 by decide), in_eq, in_eq, kc_0, k99]
  simp only [lt_ap]
  by_cases a : 0 ≤ p0.toInt ∧ p0.toInt ≤ 99
  · rw [if_pos a, if_neg (show ¬ (1 : Int32) = 0 by decide)]
    by_cases b : 0 ≤ p1.toInt ∧ p1.toInt ≤ 99
    · rw [if_pos b, if_neg (show ¬ (1 : Int32) = 0 by decide)]
      by_cases c : p1 ≤ p0
      · rw [if_pos c, if_neg (fun q => by rw [fz_le] at c; omega)]
      · rw [if_neg c, if_pos (by rw [fz_le] at c; omega)]
    · rw [if_neg b, if_pos rfl, if_neg (fun q => by omega)]
  · rw [if_neg a, if_pos rfl, if_neg (fun q => by omega)]
section FJ
variable {nodes words unsures slips throne said : Int32} {kind parts pn wt tw uw uo w o : Nat → Int32} {ic : Int32} {iw0 io0 iw1 io1 iw2 io2 : Nat → Int32} {ac : Int32} {an ao as : Nat → Int32} {hc : Int32} {r told st und kept : Nat → Int32} {undos images : Int32} {unit : Int32} {ws steps below above : Nat → Int32} {scale night : Int32}
theorem hears_join (h : Rel nodes words unsures slips throne said kind parts pn wt tw uw uo w o ic iw0 io0 iw1 io1 iw2 io2 ac an ao as hc r told st und kept undos images) (hx : CIS nodes unit kind parts pn wt ws steps below above) (hs : PX7_layScale r = scale) (hM : ROk r ∧ RowOk r st ∧ RowOk r told ∧ WorOk st ∧ night.toInt = -1 ∧ 1 ≤ scale.toInt ∧ scale.toInt ≤ 1296) {hb hg hn br cm : Int32} {hw cp hr cr : Nat → Int32} {hb' hg' hn' br' cm' : Int32} {hw' cp' hr' cr' : Nat → Int32} {q6 q7 : Int32} {rf t1 t2 : Int32} (e6 : PX6_hears nodes throne unit kind parts pn wt ws w o hb hg hn hw cp = (q6, rf, hb', hg', hn', hw', cp')) (e7 : PX7_hears hc r told st scale hr cr br cm = (q7, t1, t2, br', cm', hr', cr')) : q6 = q7 ∧ rf = t2 := by
  obtain ⟨hR, hQ, hQt, hW, hnt, hsc⟩ := hM
  have k99 : (99 : Int32).toInt = 99 := by decide
  have key : ∃ (q : Int32) (f t x0 x1 x2 : Int32) (xh xc : Nat → Int32) (y0 y1 : Int32) (yh yc : Nat → Int32), PX6_hears nodes throne unit kind parts pn wt ws w o hb hg hn hw cp = (q, f, x0, x1, x2, xh, xc) ∧ PX7_hears hc r told st scale hr cr br cm = (q, t, f, y0, y1, yh, yc) := by
    rcases h with ⟨rfl, h0⟩ | ⟨N, c, d, rfl, rfl, rfl, rfl, hc, rfl, rfl, hd, hC, hS, hU, hI⟩
    · obtain ⟨h2, h3, h4, h5, h6, h7, rfl, h8, h9⟩ := h0
      refine ⟨-1, 1, 0, hb, hg, hn, hw, cp, br, cm, hr, cr, ?_, ?_⟩
      · rw [PX6_hears_eq, lc_0, un2_eq rfl, if_neg (show ¬ (1 : Int32) = 0 by decide)]
      · rw [PX7_hears_eq, PX7_good_eq, un2_eq rfl, if_pos rfl, no_eq, un2_eq rfl]
    · obtain ⟨hN0, hN, hr1⟩ := hC.N
      obtain ⟨M, hM, hX⟩ := hx
      obtain rfl : N = M := (nI_eq (by omega) (by have := hX.1; omega)).mp hM
      obtain rfl : unit = scale := (ls_eq hC hX).symm.trans hs
      have hth : r 6 = throne := hC.2.2.2.2.2.2.1
      obtain ⟨t, t1, t2⟩ := nd_of hN hC.2.2.2.2.2.2.2.2.1
      have hWw := w_in hC hS hW
      obtain ⟨b, c, bits, hw', cp', hr', cr', e6', e7', hbc, hH⟩ := free_sim hC hS hX hR hWw hsc t2 (hth.trans t2) t1 hw cp hr cr
      refine ⟨nI b, 0, 0, nI b, bits, nI c, hw', cp', nI b, nI c, hr', cr', ?_, ?_⟩
      · rw [PX6_hears_eq, lc_N hN0 hN, un2_eq rfl, if_pos rfl, un6_eq e6']
      · rw [PX7_hears_eq, PX7_good_eq, un2_eq rfl, if_neg (show ¬ (1 : Int32) = 0 by decide), un5_eq e7']
  obtain ⟨q, f, t, x0, x1, x2, xh, xc, y0, y1, yh, yc, g6, g7⟩ := key
  have x := g6.symm.trans e6
  have y := g7.symm.trans e7
  simp only [Prod.mk.injEq] at x y
  obtain ⟨rfl, rfl, -⟩ := x
  obtain ⟨rfl, -, rfl, -⟩ := y
  exact ⟨rfl, rfl⟩
theorem heard_join (h : Rel nodes words unsures slips throne said kind parts pn wt tw uw uo w o ic iw0 io0 iw1 io1 iw2 io2 ac an ao as hc r told st und kept undos images) (hx : CIS nodes unit kind parts pn wt ws steps below above) (hs : PX7_layScale r = scale) (hM : ROk r ∧ RowOk r st ∧ RowOk r told ∧ WorOk st ∧ night.toInt = -1 ∧ 1 ≤ scale.toInt ∧ scale.toInt ≤ 1296) {hb hg hn br cm : Int32} {hw cp hr cr : Nat → Int32} {hb' hg' hn' br' cm' : Int32} {hw' cp' hr' cr' : Nat → Int32} {q6 q7 : Int32} {rf t1 t2 : Int32} (e6 : PX6_heard nodes throne unit kind parts pn wt ws w o hb hg hn hw cp = (q6, rf, hb', hg', hn', hw', cp')) (e7 : PX7_heard hc r told st scale hr cr br cm = (q7, t1, t2, br', cm', hr', cr')) : q6 = q7 ∧ rf = t2 := by
  obtain ⟨hR, hQ, hQt, hW, hnt, hsc⟩ := hM
  have k99 : (99 : Int32).toInt = 99 := by decide
  have key : ∃ (q : Int32) (f t x0 x1 x2 : Int32) (xh xc : Nat → Int32) (y0 y1 : Int32) (yh yc : Nat → Int32), PX6_heard nodes throne unit kind parts pn wt ws w o hb hg hn hw cp = (q, f, x0, x1, x2, xh, xc) ∧ PX7_heard hc r told st scale hr cr br cm = (q, t, f, y0, y1, yh, yc) := by
    rcases h with ⟨rfl, h0⟩ | ⟨N, c, d, rfl, rfl, rfl, rfl, hc, rfl, rfl, hd, hC, hS, hU, hI⟩
    · obtain ⟨h2, h3, h4, h5, h6, h7, rfl, h8, h9⟩ := h0
      refine ⟨-1, 1, 0, hb, hg, hn, hw, cp, br, cm, hr, cr, ?_, ?_⟩
      · rw [PX6_heard_eq, lc_0, un2_eq rfl, if_neg (show ¬ (1 : Int32) = 0 by decide)]
      · rw [PX7_heard_eq, PX7_good_eq, un2_eq rfl, if_pos rfl, no_eq, un2_eq rfl]
    · obtain ⟨hN0, hN, hr1⟩ := hC.N
      obtain ⟨M, hM, hX⟩ := hx
      obtain rfl : N = M := (nI_eq (by omega) (by have := hX.1; omega)).mp hM
      obtain rfl : unit = scale := (ls_eq hC hX).symm.trans hs
      have hth : r 6 = throne := hC.2.2.2.2.2.2.1
      obtain ⟨t, t1, t2⟩ := nd_of hN hC.2.2.2.2.2.2.2.2.1
      have hWw := w_in hC hS hW
      obtain ⟨b, c, bits, hw', cp', hr', cr', e6', e7', hbc, hH⟩ := free_sim hC hS hX hR hWw hsc t2 (hth.trans t2) t1 hw cp hr cr
      have e := hs_loop (B := nI b) (C := nI c) (hr := hr') (cr := cr') (b := b) (by omega) b 0 (((2147483647 - (0 : Int32).toInt).toNat) + 1) rfl (by omega) (by rw [kc_0]; omega)
      rw [nI_0, show hO hr' 0 = 0 from rfl] at e
      refine ⟨bits, 0, 0, nI b, bits, nI c, hw', cp', nI b, nI c, hr', cr', ?_, ?_⟩
      · rw [PX6_heard_eq, lc_N hN0 hN, un2_eq rfl, if_pos rfl, un6_eq e6']
      · rw [PX7_heard_eq, PX7_good_eq, un2_eq rfl, if_neg (show ¬ (1 : Int32) = 0 by decide), un5_eq (show PX7_heardSet r told st unit hr cr = (bits, nI b, nI c, hr', cr') by rw [PX7_heardSet_eq, un5_eq e7', hH.2.2]; exact e)]
  obtain ⟨q, f, t, x0, x1, x2, xh, xc, y0, y1, yh, yc, g6, g7⟩ := key
  have x := g6.symm.trans e6
  have y := g7.symm.trans e7
  simp only [Prod.mk.injEq] at x y
  obtain ⟨rfl, rfl, -⟩ := x
  obtain ⟨rfl, -, rfl, -⟩ := y
  exact ⟨rfl, rfl⟩
theorem cuts_join (h : Rel nodes words unsures slips throne said kind parts pn wt tw uw uo w o ic iw0 io0 iw1 io1 iw2 io2 ac an ao as hc r told st und kept undos images) (hx : CIS nodes unit kind parts pn wt ws steps below above) (hs : PX7_layScale r = scale) (hM : ROk r ∧ RowOk r st ∧ RowOk r told ∧ WorOk st ∧ night.toInt = -1 ∧ 1 ≤ scale.toInt ∧ scale.toInt ≤ 1296) {hb hg hn br cm : Int32} {hw cp hr cr : Nat → Int32} {hb' hg' hn' br' cm' : Int32} {hw' cp' hr' cr' : Nat → Int32} {q6 q7 : Int32} {rf t1 t2 : Int32} (e6 : PX6_cuts nodes throne unit kind parts pn wt ws w o hb hg hn hw cp = (q6, rf, hb', hg', hn', hw', cp')) (e7 : PX7_cuts hc r told st scale hr cr br cm = (q7, t1, t2, br', cm', hr', cr')) : q6 = q7 ∧ rf = t2 := by
  obtain ⟨hR, hQ, hQt, hW, hnt, hsc⟩ := hM
  have k99 : (99 : Int32).toInt = 99 := by decide
  have key : ∃ (q : Int32) (f t x0 x1 x2 : Int32) (xh xc : Nat → Int32) (y0 y1 : Int32) (yh yc : Nat → Int32), PX6_cuts nodes throne unit kind parts pn wt ws w o hb hg hn hw cp = (q, f, x0, x1, x2, xh, xc) ∧ PX7_cuts hc r told st scale hr cr br cm = (q, t, f, y0, y1, yh, yc) := by
    rcases h with ⟨rfl, h0⟩ | ⟨N, c, d, rfl, rfl, rfl, rfl, hc, rfl, rfl, hd, hC, hS, hU, hI⟩
    · obtain ⟨h2, h3, h4, h5, h6, h7, rfl, h8, h9⟩ := h0
      refine ⟨-1, 1, 0, hb, hg, hn, hw, cp, br, cm, hr, cr, ?_, ?_⟩
      · rw [PX6_cuts_eq, lc_0, un2_eq rfl, if_neg (show ¬ (1 : Int32) = 0 by decide)]
      · rw [PX7_cuts_eq, PX7_good_eq, un2_eq rfl, if_pos rfl, no_eq, un2_eq rfl]
    · obtain ⟨hN0, hN, hr1⟩ := hC.N
      obtain ⟨M, hM, hX⟩ := hx
      obtain rfl : N = M := (nI_eq (by omega) (by have := hX.1; omega)).mp hM
      obtain rfl : unit = scale := (ls_eq hC hX).symm.trans hs
      have hth : r 6 = throne := hC.2.2.2.2.2.2.1
      obtain ⟨t, t1, t2⟩ := nd_of hN hC.2.2.2.2.2.2.2.2.1
      have hWw := w_in hC hS hW
      obtain ⟨b, c, bits, hw', cp', hr', cr', e6', e7', hbc, hH⟩ := free_sim hC hS hX hR hWw hsc t2 (hth.trans t2) t1 hw cp hr cr
      refine ⟨nI c, 0, 0, nI b, bits, nI c, hw', cp', nI b, nI c, hr', cr', ?_, ?_⟩
      · rw [PX6_cuts_eq, lc_N hN0 hN, un2_eq rfl, if_pos rfl, un6_eq e6']
      · rw [PX7_cuts_eq, PX7_good_eq, un2_eq rfl, if_neg (show ¬ (1 : Int32) = 0 by decide), un5_eq e7']
  obtain ⟨q, f, t, x0, x1, x2, xh, xc, y0, y1, yh, yc, g6, g7⟩ := key
  have x := g6.symm.trans e6
  have y := g7.symm.trans e7
  simp only [Prod.mk.injEq] at x y
  obtain ⟨rfl, rfl, -⟩ := x
  obtain ⟨rfl, -, rfl, -⟩ := y
  exact ⟨rfl, rfl⟩
theorem heardAt_join (h : Rel nodes words unsures slips throne said kind parts pn wt tw uw uo w o ic iw0 io0 iw1 io1 iw2 io2 ac an ao as hc r told st und kept undos images) (hx : CIS nodes unit kind parts pn wt ws steps below above) (hs : PX7_layScale r = scale) (hM : ROk r ∧ RowOk r st ∧ RowOk r told ∧ WorOk st ∧ night.toInt = -1 ∧ 1 ≤ scale.toInt ∧ scale.toInt ≤ 1296) {hb hg hn br cm : Int32} {hw cp hr cr : Nat → Int32} {hb' hg' hn' br' cm' : Int32} {hw' cp' hr' cr' : Nat → Int32} {p0 : Int32} {q6 q7 : Int32} {rf t1 t2 : Int32} (e6 : PX6_heardAt nodes throne unit kind parts pn wt ws w o hb hg hn hw cp p0 = (q6, rf, hb', hg', hn', hw', cp')) (e7 : PX7_heardAt hc r told st scale hr cr br cm p0 = (q7, t1, t2, br', cm', hr', cr')) : q6 = q7 ∧ rf = t2 := by
  obtain ⟨hR, hQ, hQt, hW, hnt, hsc⟩ := hM
  have k99 : (99 : Int32).toInt = 99 := by decide
  have key : ∃ (q : Int32) (f t x0 x1 x2 : Int32) (xh xc : Nat → Int32) (y0 y1 : Int32) (yh yc : Nat → Int32), PX6_heardAt nodes throne unit kind parts pn wt ws w o hb hg hn hw cp p0 = (q, f, x0, x1, x2, xh, xc) ∧ PX7_heardAt hc r told st scale hr cr br cm p0 = (q, t, f, y0, y1, yh, yc) := by
    rcases h with ⟨rfl, h0⟩ | ⟨N, c, d, rfl, rfl, rfl, rfl, hc, rfl, rfl, hd, hC, hS, hU, hI⟩
    · obtain ⟨h2, h3, h4, h5, h6, h7, rfl, h8, h9⟩ := h0
      refine ⟨-1, 1, 0, hb, hg, hn, hw, cp, br, cm, hr, cr, ?_, ?_⟩
      · rw [PX6_heardAt_eq, lc_0, un2_eq rfl, if_neg (show ¬ (1 : Int32) = 0 by decide)]
      · rw [PX7_heardAt_eq, PX7_good_eq, un2_eq rfl, if_pos rfl, no_eq, un2_eq rfl]
    · obtain ⟨hN0, hN, hr1⟩ := hC.N
      obtain ⟨M, hM, hX⟩ := hx
      obtain rfl : N = M := (nI_eq (by omega) (by have := hX.1; omega)).mp hM
      obtain rfl : unit = scale := (ls_eq hC hX).symm.trans hs
      have hth : r 6 = throne := hC.2.2.2.2.2.2.1
      obtain ⟨t, t1, t2⟩ := nd_of hN hC.2.2.2.2.2.2.2.2.1
      have hWw := w_in hC hS hW
      obtain ⟨b, c, bits, hw', cp', hr', cr', e6', e7', hbc, hH⟩ := free_sim hC hS hX hR hWw hsc t2 (hth.trans t2) t1 hw cp hr cr
      have hrf : ∀ q : Int32, PX6_refuse q = (-1, q) := fun q => PX6_refuse_eq q
      by_cases hp : p0 < 0
      · refine ⟨-1, 1, 0, hb, hg, hn, hw, cp, nI b, nI c, hr', cr', ?_, ?_⟩
        · rw [PX6_heardAt_eq, lc_N hN0 hN, un2_eq rfl, if_pos rfl, if_pos hp, hrf, un2_eq rfl]
        · rw [PX7_heardAt_eq, PX7_good_eq, un2_eq rfl, if_neg (show ¬ (1 : Int32) = 0 by decide), un5_eq e7']
          simp only [lt_ap]
          rw [in_eq, kc_0, if_neg (show ¬ (0 ≤ p0.toInt ∧ p0.toInt ≤ (nI b - (1 : Int32)).toInt) by rw [fz_lt, kc_0] at hp; omega), if_pos rfl, no_eq, un2_eq rfl]
      · obtain ⟨P, hP, rfl⟩ := nI_of hp
        by_cases hPb : P < b
        · refine ⟨hr' P, 0, 0, nI b, bits, nI c, hw', cp', nI b, nI c, hr', cr', ?_, ?_⟩
          · rw [PX6_heardAt_eq, lc_N hN0 hN, un2_eq rfl, if_pos rfl, if_neg hp, un6_eq e6', if_pos (nI_lt hPb (by omega)), PX2_wordAt_eq, if_neg hp, if_neg (show ¬ nI b ≤ nI P by rw [nI_leI (by omega) (by omega)]; omega), if_neg (show ¬ (512 : Int32) ≤ nI P by rw [show (512 : Int32) = nI 512 by decide, nI_leI (by omega) (by omega)]; omega)]
            simp only [lt_ap]
            rw [nI_clamp hP, hH.1 P hPb]
          · rw [PX7_heardAt_eq, PX7_good_eq, un2_eq rfl, if_neg (show ¬ (1 : Int32) = 0 by decide), un5_eq e7']
            simp only [lt_ap]
            rw [in_eq, kc_0, nI_m1i (by omega), nI_toInt hP, if_pos (show (0 : Int) ≤ (P : Int) ∧ (P : Int) ≤ (b : Int) - 1 by omega), if_neg (show ¬ (1 : Int32) = 0 by decide), nI_clamp hP]
        · refine ⟨-1, 1, 0, nI b, bits, nI c, hw', cp', nI b, nI c, hr', cr', ?_, ?_⟩
          · rw [PX6_heardAt_eq, lc_N hN0 hN, un2_eq rfl, if_pos rfl, if_neg hp, un6_eq e6', if_neg (nI_nlt (by omega) hP), hrf, un2_eq rfl]
          · rw [PX7_heardAt_eq, PX7_good_eq, un2_eq rfl, if_neg (show ¬ (1 : Int32) = 0 by decide), un5_eq e7']
            simp only [lt_ap]
            rw [in_eq, kc_0, nI_m1i (by omega), nI_toInt hP, if_neg (show ¬ ((0 : Int) ≤ (P : Int) ∧ (P : Int) ≤ (b : Int) - 1) by omega), if_pos rfl, no_eq, un2_eq rfl]
  obtain ⟨q, f, t, x0, x1, x2, xh, xc, y0, y1, yh, yc, g6, g7⟩ := key
  have x := g6.symm.trans e6
  have y := g7.symm.trans e7
  simp only [Prod.mk.injEq] at x y
  obtain ⟨rfl, rfl, -⟩ := x
  obtain ⟨rfl, -, rfl, -⟩ := y
  exact ⟨rfl, rfl⟩
theorem cutAt_join (h : Rel nodes words unsures slips throne said kind parts pn wt tw uw uo w o ic iw0 io0 iw1 io1 iw2 io2 ac an ao as hc r told st und kept undos images) (hx : CIS nodes unit kind parts pn wt ws steps below above) (hs : PX7_layScale r = scale) (hM : ROk r ∧ RowOk r st ∧ RowOk r told ∧ WorOk st ∧ night.toInt = -1 ∧ 1 ≤ scale.toInt ∧ scale.toInt ≤ 1296) {hb hg hn br cm : Int32} {hw cp hr cr : Nat → Int32} {hb' hg' hn' br' cm' : Int32} {hw' cp' hr' cr' : Nat → Int32} {p0 : Int32} {q6 q7 : Int32} {rf t1 t2 : Int32} (e6 : PX6_cutAt nodes throne unit kind parts pn wt ws w o hb hg hn hw cp p0 = (q6, rf, hb', hg', hn', hw', cp')) (e7 : PX7_cutAt hc r told st scale hr cr br cm p0 = (q7, t1, t2, br', cm', hr', cr')) : q6 = q7 ∧ rf = t2 := by
  obtain ⟨hR, hQ, hQt, hW, hnt, hsc⟩ := hM
  have k99 : (99 : Int32).toInt = 99 := by decide
  have key : ∃ (q : Int32) (f t x0 x1 x2 : Int32) (xh xc : Nat → Int32) (y0 y1 : Int32) (yh yc : Nat → Int32), PX6_cutAt nodes throne unit kind parts pn wt ws w o hb hg hn hw cp p0 = (q, f, x0, x1, x2, xh, xc) ∧ PX7_cutAt hc r told st scale hr cr br cm p0 = (q, t, f, y0, y1, yh, yc) := by
    rcases h with ⟨rfl, h0⟩ | ⟨N, c, d, rfl, rfl, rfl, rfl, hc, rfl, rfl, hd, hC, hS, hU, hI⟩
    · obtain ⟨h2, h3, h4, h5, h6, h7, rfl, h8, h9⟩ := h0
      refine ⟨-1, 1, 0, hb, hg, hn, hw, cp, br, cm, hr, cr, ?_, ?_⟩
      · rw [PX6_cutAt_eq, lc_0, un2_eq rfl, if_neg (show ¬ (1 : Int32) = 0 by decide)]
      · rw [PX7_cutAt_eq, PX7_good_eq, un2_eq rfl, if_pos rfl, no_eq, un2_eq rfl]
    · obtain ⟨hN0, hN, hr1⟩ := hC.N
      obtain ⟨M, hM, hX⟩ := hx
      obtain rfl : N = M := (nI_eq (by omega) (by have := hX.1; omega)).mp hM
      obtain rfl : unit = scale := (ls_eq hC hX).symm.trans hs
      have hth : r 6 = throne := hC.2.2.2.2.2.2.1
      obtain ⟨t, t1, t2⟩ := nd_of hN hC.2.2.2.2.2.2.2.2.1
      have hWw := w_in hC hS hW
      obtain ⟨b, c, bits, hw', cp', hr', cr', e6', e7', hbc, hH⟩ := free_sim hC hS hX hR hWw hsc t2 (hth.trans t2) t1 hw cp hr cr
      have hrf : ∀ q : Int32, PX6_refuse q = (-1, q) := fun q => PX6_refuse_eq q
      by_cases hp : p0 < 0
      · refine ⟨-1, 1, 0, nI b, bits, nI c, hw', cp', nI b, nI c, hr', cr', ?_, ?_⟩
        · rw [PX6_cutAt_eq, lc_N hN0 hN, un2_eq rfl, if_pos rfl, un6_eq e6', if_pos hp, hrf, un2_eq rfl]
        · rw [PX7_cutAt_eq, PX7_good_eq, un2_eq rfl, if_neg (show ¬ (1 : Int32) = 0 by decide), un5_eq e7']
          simp only [lt_ap]
          rw [in_eq, kc_0, if_neg (show ¬ (0 ≤ p0.toInt ∧ p0.toInt ≤ (nI c - (1 : Int32)).toInt) by rw [fz_lt, kc_0] at hp; omega), if_pos rfl, no_eq, un2_eq rfl]
      · obtain ⟨P, hP, rfl⟩ := nI_of hp
        by_cases hPb : P < c
        · refine ⟨cr' P, 0, 0, nI b, bits, nI c, hw', cp', nI b, nI c, hr', cr', ?_, ?_⟩
          · rw [PX6_cutAt_eq, lc_N hN0 hN, un2_eq rfl, if_pos rfl, un6_eq e6', if_neg hp, if_pos (nI_lt hPb (by omega)), PX2_cutPartAt_eq, if_neg hp, if_neg (show ¬ nI c ≤ nI P by rw [nI_leI (by omega) (by omega)]; omega), if_neg (show ¬ (512 : Int32) ≤ nI P by rw [show (512 : Int32) = nI 512 by decide, nI_leI (by omega) (by omega)]; omega)]
            simp only [lt_ap]
            rw [nI_clamp hP, hH.2.1 P hPb]
          · rw [PX7_cutAt_eq, PX7_good_eq, un2_eq rfl, if_neg (show ¬ (1 : Int32) = 0 by decide), un5_eq e7']
            simp only [lt_ap]
            rw [in_eq, kc_0, nI_m1i (by omega), nI_toInt hP, if_pos (show (0 : Int) ≤ (P : Int) ∧ (P : Int) ≤ (c : Int) - 1 by omega), if_neg (show ¬ (1 : Int32) = 0 by decide), nI_clamp hP]
        · refine ⟨-1, 1, 0, nI b, bits, nI c, hw', cp', nI b, nI c, hr', cr', ?_, ?_⟩
          · rw [PX6_cutAt_eq, lc_N hN0 hN, un2_eq rfl, if_pos rfl, un6_eq e6', if_neg hp, if_neg (nI_nlt (by omega) hP), hrf, un2_eq rfl]
          · rw [PX7_cutAt_eq, PX7_good_eq, un2_eq rfl, if_neg (show ¬ (1 : Int32) = 0 by decide), un5_eq e7']
            simp only [lt_ap]
            rw [in_eq, kc_0, nI_m1i (by omega), nI_toInt hP, if_neg (show ¬ ((0 : Int) ≤ (P : Int) ∧ (P : Int) ≤ (c : Int) - 1) by omega), if_pos rfl, no_eq, un2_eq rfl]
  obtain ⟨q, f, t, x0, x1, x2, xh, xc, y0, y1, yh, yc, g6, g7⟩ := key
  have x := g6.symm.trans e6
  have y := g7.symm.trans e7
  simp only [Prod.mk.injEq] at x y
  obtain ⟨rfl, rfl, -⟩ := x
  obtain ⟨rfl, -, rfl, -⟩ := y
  exact ⟨rfl, rfl⟩
theorem hearsIn_join (h : Rel nodes words unsures slips throne said kind parts pn wt tw uw uo w o ic iw0 io0 iw1 io1 iw2 io2 ac an ao as hc r told st und kept undos images) (hx : CIS nodes unit kind parts pn wt ws steps below above) (hs : PX7_layScale r = scale) (hM : ROk r ∧ RowOk r st ∧ RowOk r told ∧ WorOk st ∧ night.toInt = -1 ∧ 1 ≤ scale.toInt ∧ scale.toInt ≤ 1296) {hb hg hn br cm : Int32} {hw cp hr cr : Nat → Int32} {hb' hg' hn' br' cm' : Int32} {hw' cp' hr' cr' : Nat → Int32} {p0 p1 : Int32} {q6 q7 : Int32} {rf t1 t2 : Int32} (e6 : PX6_hearsIn nodes throne unit kind parts pn wt ws w o hb hg hn hw cp p0 p1 = (q6, rf, hb', hg', hn', hw', cp')) (e7 : PX7_hearsIn hc r told st scale hr cr br cm p0 p1 = (q7, t1, t2, br', cm', hr', cr')) : q6 = q7 ∧ rf = t2 := by
  obtain ⟨hR, hQ, hQt, hW, hnt, hsc⟩ := hM
  have k99 : (99 : Int32).toInt = 99 := by decide
  have key : ∃ (q : Int32) (f t x0 x1 x2 : Int32) (xh xc : Nat → Int32) (y0 y1 : Int32) (yh yc : Nat → Int32), PX6_hearsIn nodes throne unit kind parts pn wt ws w o hb hg hn hw cp p0 p1 = (q, f, x0, x1, x2, xh, xc) ∧ PX7_hearsIn hc r told st scale hr cr br cm p0 p1 = (q, t, f, y0, y1, yh, yc) := by
    rcases h with ⟨rfl, h0⟩ | ⟨N, c, d, rfl, rfl, rfl, rfl, hc, rfl, rfl, hd, hC, hS, hU, hI⟩
    · obtain ⟨h2, h3, h4, h5, h6, h7, rfl, h8, h9⟩ := h0
      refine ⟨-1, 1, 0, hb, hg, hn, hw, cp, br, cm, hr, cr, ?_, ?_⟩
      · rw [PX6_hearsIn_eq, lb_0, un2_eq rfl, if_neg (show ¬ (1 : Int32) = 0 by decide)]
      · rw [PX7_hearsIn_eq, PX7_good_eq, un2_eq rfl]
        simp only [lt_ap]
        rw [bw_0, if_neg (show ¬ (1 : Int32) = 0 by decide), if_pos rfl, no_eq, un2_eq rfl]
    · obtain ⟨hN0, hN, hr1⟩ := hC.N
      obtain ⟨M, hM, hX⟩ := hx
      obtain rfl : N = M := (nI_eq (by omega) (by have := hX.1; omega)).mp hM
      obtain rfl : unit = scale := (ls_eq hC hX).symm.trans hs
      have hth : r 6 = throne := hC.2.2.2.2.2.2.1
      obtain ⟨t, t1, t2⟩ := nd_of hN hC.2.2.2.2.2.2.2.2.1
      have hWw := w_in hC hS hW
      by_cases c0 : 0 ≤ p0.toInt ∧ p0.toInt < p1.toInt ∧ p1.toInt ≤ 99
      · obtain ⟨v, b, c, bits, hw', cp', hr', cr', e6', e7', hv, hbc, hH⟩ := within_sim hC hS hX hR hWw hsc t2 (hth.trans t2) t1 c0.1 c0.2.1 c0.2.2 hw cp hr cr
        refine ⟨nI b, 0, 0, nI b, bits, nI c, hw', cp', nI b, nI c, hr', cr', ?_, ?_⟩
        · rw [PX6_hearsIn_eq, lb_N hN0 hN, if_pos c0, un2_eq rfl, if_pos rfl, un6_eq e6']
        · rw [PX7_hearsIn_eq, PX7_good_eq, un2_eq rfl]
          simp only [lt_ap]
          rw [bw_1, if_pos c0, if_pos rfl, un5_eq e7']
      · refine ⟨-1, 2, 0, hb, hg, hn, hw, cp, br, cm, hr, cr, ?_, ?_⟩
        · rw [PX6_hearsIn_eq, lb_N hN0 hN, if_neg c0, un2_eq rfl, if_neg (show ¬ (1 : Int32) = 0 by decide)]
        · rw [PX7_hearsIn_eq, PX7_good_eq, un2_eq rfl]
          simp only [lt_ap]
          rw [bw_1, if_neg c0, if_neg (show ¬ (2 : Int32) = 0 by decide), if_neg (show ¬ (2 : Int32) = 1 by decide), no_eq, un2_eq rfl]
  obtain ⟨q, f, t, x0, x1, x2, xh, xc, y0, y1, yh, yc, g6, g7⟩ := key
  have x := g6.symm.trans e6
  have y := g7.symm.trans e7
  simp only [Prod.mk.injEq] at x y
  obtain ⟨rfl, rfl, -⟩ := x
  obtain ⟨rfl, -, rfl, -⟩ := y
  exact ⟨rfl, rfl⟩
theorem handed_join (h : Rel nodes words unsures slips throne said kind parts pn wt tw uw uo w o ic iw0 io0 iw1 io1 iw2 io2 ac an ao as hc r told st und kept undos images) (hx : CIS nodes unit kind parts pn wt ws steps below above) (hs : PX7_layScale r = scale) (hM : ROk r ∧ RowOk r st ∧ RowOk r told ∧ WorOk st ∧ night.toInt = -1 ∧ 1 ≤ scale.toInt ∧ scale.toInt ≤ 1296) {hb hg hn br cm : Int32} {hw cp hr cr : Nat → Int32} {hb' hg' hn' br' cm' : Int32} {hw' cp' hr' cr' : Nat → Int32} {p0 p1 p2 : Int32} {q6 q7 : Int64} {rf t1 t2 : Int32} (e6 : PX6_handed nodes throne unit kind parts pn wt ws w o hb hg hn hw cp p0 p1 p2 = (q6, rf, hb', hg', hn', hw', cp')) (e7 : PX7_handed hc r told st scale hr cr br cm p0 p1 p2 = (q7, t1, t2, br', cm', hr', cr')) : q6 = q7 ∧ rf = t2 := by
  obtain ⟨hR, hQ, hQt, hW, hnt, hsc⟩ := hM
  have k99 : (99 : Int32).toInt = 99 := by decide
  have key : ∃ (q : Int64) (f t x0 x1 x2 : Int32) (xh xc : Nat → Int32) (y0 y1 : Int32) (yh yc : Nat → Int32), PX6_handed nodes throne unit kind parts pn wt ws w o hb hg hn hw cp p0 p1 p2 = (q, f, x0, x1, x2, xh, xc) ∧ PX7_handed hc r told st scale hr cr br cm p0 p1 p2 = (q, t, f, y0, y1, yh, yc) := by
    rcases h with ⟨rfl, h0⟩ | ⟨N, c, d, rfl, rfl, rfl, rfl, hc, rfl, rfl, hd, hC, hS, hU, hI⟩
    · obtain ⟨h2, h3, h4, h5, h6, h7, rfl, h8, h9⟩ := h0
      refine ⟨-1, 1, 0, hb, hg, hn, hw, cp, br, cm, hr, cr, ?_, ?_⟩
      · rw [PX6_handed_eq, lb_0, un2_eq rfl, if_neg (show ¬ (1 : Int32) = 0 by decide)]
      · rw [PX7_handed_eq, PX7_good_eq, un2_eq rfl]
        simp only [lt_ap]
        rw [bw_0, if_neg (show ¬ (1 : Int32) = 0 by decide), if_pos rfl, no_eq, un2_eq rfl, l2_no]
    · obtain ⟨hN0, hN, hr1⟩ := hC.N
      obtain ⟨M, hM, hX⟩ := hx
      obtain rfl : N = M := (nI_eq (by omega) (by have := hX.1; omega)).mp hM
      obtain rfl : unit = scale := (ls_eq hC hX).symm.trans hs
      have hth : r 6 = throne := hC.2.2.2.2.2.2.1
      obtain ⟨t, t1, t2⟩ := nd_of hN hC.2.2.2.2.2.2.2.2.1
      have hWw := w_in hC hS hW
      by_cases c0 : 0 ≤ p0.toInt ∧ p0.toInt < p1.toInt ∧ p1.toInt ≤ 99
      · obtain ⟨v, b, c, bits, hw', cp', hr', cr', e6', e7', hv, hbc, hH⟩ := within_sim hC hS hX hR hWw hsc t2 (hth.trans t2) t1 c0.1 c0.2.1 c0.2.2 hw cp hr cr
        refine ⟨PX7_lowest v.toInt64 unit.toInt64 p2, 0, 0, nI b, bits, nI c, hw', cp', nI b, nI c, hr', cr', ?_, ?_⟩
        · rw [PX6_handed_eq, lb_N hN0 hN, if_pos c0, un2_eq rfl, if_pos rfl, un6_eq e6']
          simp only [lt_ap]
          rw [lowest_eq (by rw [Int32.toInt_toInt64]; exact hv.1) (by rw [Int32.toInt_toInt64]; exact hsc.1)]
        · rw [PX7_handed_eq, PX7_good_eq, un2_eq rfl]
          simp only [lt_ap]
          rw [bw_1, if_pos c0, if_pos rfl, un5_eq e7']
      · refine ⟨-1, 2, 0, hb, hg, hn, hw, cp, br, cm, hr, cr, ?_, ?_⟩
        · rw [PX6_handed_eq, lb_N hN0 hN, if_neg c0, un2_eq rfl, if_neg (show ¬ (1 : Int32) = 0 by decide)]
        · rw [PX7_handed_eq, PX7_good_eq, un2_eq rfl]
          simp only [lt_ap]
          rw [bw_1, if_neg c0, if_neg (show ¬ (2 : Int32) = 0 by decide), if_neg (show ¬ (2 : Int32) = 1 by decide), no_eq, un2_eq rfl, l2_no]
  obtain ⟨q, f, t, x0, x1, x2, xh, xc, y0, y1, yh, yc, g6, g7⟩ := key
  have x := g6.symm.trans e6
  have y := g7.symm.trans e7
  simp only [Prod.mk.injEq] at x y
  obtain ⟨rfl, rfl, -⟩ := x
  obtain ⟨rfl, -, rfl, -⟩ := y
  exact ⟨rfl, rfl⟩
theorem asks_join (h : Rel nodes words unsures slips throne said kind parts pn wt tw uw uo w o ic iw0 io0 iw1 io1 iw2 io2 ac an ao as hc r told st und kept undos images) (hx : CIS nodes unit kind parts pn wt ws steps below above) (hs : PX7_layScale r = scale) (hM : ROk r ∧ RowOk r st ∧ RowOk r told ∧ WorOk st ∧ night.toInt = -1 ∧ 1 ≤ scale.toInt ∧ scale.toInt ≤ 1296) {hb hg hn br cm : Int32} {hw cp hr cr : Nat → Int32} {hb' hg' hn' br' cm' : Int32} {hw' cp' hr' cr' : Nat → Int32} {p0 : Int32} {q6 q7 : Int32} {rf t1 t2 : Int32} (e6 : PX6_asks nodes throne unit kind parts pn wt ws w o hb hg hn hw cp p0 = (q6, rf, hb', hg', hn', hw', cp')) (e7 : PX7_asks hc r told st scale hr cr br cm p0 = (q7, t1, t2, br', cm', hr', cr')) : q6 = q7 ∧ rf = t2 := by
  obtain ⟨hR, hQ, hQt, hW, hnt, hsc⟩ := hM
  have k99 : (99 : Int32).toInt = 99 := by decide
  have key : ∃ (q : Int32) (f t x0 x1 x2 : Int32) (xh xc : Nat → Int32) (y0 y1 : Int32) (yh yc : Nat → Int32), PX6_asks nodes throne unit kind parts pn wt ws w o hb hg hn hw cp p0 = (q, f, x0, x1, x2, xh, xc) ∧ PX7_asks hc r told st scale hr cr br cm p0 = (q, t, f, y0, y1, yh, yc) := by
    rcases h with ⟨rfl, h0⟩ | ⟨N, c, d, rfl, rfl, rfl, rfl, hc, rfl, rfl, hd, hC, hS, hU, hI⟩
    · obtain ⟨h2, h3, h4, h5, h6, h7, rfl, h8, h9⟩ := h0
      refine ⟨-1, 1, 0, hb, hg, hn, hw, cp, br, cm, hr, cr, ?_, ?_⟩
      · rw [PX6_asks_eq, ln_0, un2_eq rfl, if_neg (show ¬ (1 : Int32) = 0 by decide)]
      · rw [PX7_asks_eq, PX7_good_eq, un2_eq rfl]
        simp only [lt_ap]
        rw [why_0, if_neg (show ¬ (1 : Int32) = 0 by decide), if_pos rfl, no_eq, un2_eq rfl]
    · obtain ⟨hN0, hN, hr1⟩ := hC.N
      obtain ⟨M, hM, hX⟩ := hx
      obtain rfl : N = M := (nI_eq (by omega) (by have := hX.1; omega)).mp hM
      obtain rfl : unit = scale := (ls_eq hC hX).symm.trans hs
      have hth : r 6 = throne := hC.2.2.2.2.2.2.1
      obtain ⟨t, t1, t2⟩ := nd_of hN hC.2.2.2.2.2.2.2.2.1
      have hWw := w_in hC hS hW
      by_cases c0 : 0 ≤ p0.toInt ∧ p0.toInt ≤ 99
      · obtain ⟨v, b, c, bits, hw', cp', hr', cr', e6', e7'⟩ := asked_sim hC hS hX hR hWw hsc t2 (hth.trans t2) t1 p0 hw cp hr cr
        by_cases y : v = 0
        · refine ⟨0, 0, 0, nI b, bits, nI c, hw', cp', nI b, nI c, hr', cr', ?_, ?_⟩
          · rw [PX6_asks_eq, ln_N hN0 hN, kc_0, k99, if_pos c0, un2_eq rfl, if_pos rfl, un6_eq e6', if_pos y]
          · rw [PX7_asks_eq, PX7_good_eq, un2_eq rfl]
            simp only [lt_ap]
            rw [in_eq, kc_0, k99, if_pos c0, why_n, if_neg (show ¬ (1 : Int32) = 0 by decide), if_pos rfl, un5_eq e7', if_pos y]
        · refine ⟨1, 0, 0, nI b, bits, nI c, hw', cp', nI b, nI c, hr', cr', ?_, ?_⟩
          · rw [PX6_asks_eq, ln_N hN0 hN, kc_0, k99, if_pos c0, un2_eq rfl, if_pos rfl, un6_eq e6', if_neg y]
          · rw [PX7_asks_eq, PX7_good_eq, un2_eq rfl]
            simp only [lt_ap]
            rw [in_eq, kc_0, k99, if_pos c0, why_n, if_neg (show ¬ (1 : Int32) = 0 by decide), if_pos rfl, un5_eq e7', if_neg y]
      · refine ⟨-1, 2, 0, hb, hg, hn, hw, cp, br, cm, hr, cr, ?_, ?_⟩
        · rw [PX6_asks_eq, ln_N hN0 hN, kc_0, k99, if_neg c0, un2_eq rfl, if_neg (show ¬ (1 : Int32) = 0 by decide)]
        · rw [PX7_asks_eq, PX7_good_eq, un2_eq rfl]
          simp only [lt_ap]
          rw [in_eq, kc_0, k99, if_neg c0, why_n, if_pos rfl, if_neg (show ¬ (2 : Int32) = 0 by decide), if_neg (show ¬ (2 : Int32) = 1 by decide), no_eq, un2_eq rfl]
  obtain ⟨q, f, t, x0, x1, x2, xh, xc, y0, y1, yh, yc, g6, g7⟩ := key
  have x := g6.symm.trans e6
  have y := g7.symm.trans e7
  simp only [Prod.mk.injEq] at x y
  obtain ⟨rfl, rfl, -⟩ := x
  obtain ⟨rfl, -, rfl, -⟩ := y
  exact ⟨rfl, rfl⟩
theorem askBreaths_join (h : Rel nodes words unsures slips throne said kind parts pn wt tw uw uo w o ic iw0 io0 iw1 io1 iw2 io2 ac an ao as hc r told st und kept undos images) (hx : CIS nodes unit kind parts pn wt ws steps below above) (hs : PX7_layScale r = scale) (hM : ROk r ∧ RowOk r st ∧ RowOk r told ∧ WorOk st ∧ night.toInt = -1 ∧ 1 ≤ scale.toInt ∧ scale.toInt ≤ 1296) {hb hg hn br cm : Int32} {hw cp hr cr : Nat → Int32} {hb' hg' hn' br' cm' : Int32} {hw' cp' hr' cr' : Nat → Int32} {p0 : Int32} {q6 q7 : Int32} {rf t1 t2 : Int32} (e6 : PX6_askBreaths nodes throne unit kind parts pn wt ws w o hb hg hn hw cp p0 = (q6, rf, hb', hg', hn', hw', cp')) (e7 : PX7_askBreaths hc r told st scale hr cr br cm p0 = (q7, t1, t2, br', cm', hr', cr')) : q6 = q7 ∧ rf = t2 := by
  obtain ⟨hR, hQ, hQt, hW, hnt, hsc⟩ := hM
  have k99 : (99 : Int32).toInt = 99 := by decide
  have key : ∃ (q : Int32) (f t x0 x1 x2 : Int32) (xh xc : Nat → Int32) (y0 y1 : Int32) (yh yc : Nat → Int32), PX6_askBreaths nodes throne unit kind parts pn wt ws w o hb hg hn hw cp p0 = (q, f, x0, x1, x2, xh, xc) ∧ PX7_askBreaths hc r told st scale hr cr br cm p0 = (q, t, f, y0, y1, yh, yc) := by
    rcases h with ⟨rfl, h0⟩ | ⟨N, c, d, rfl, rfl, rfl, rfl, hc, rfl, rfl, hd, hC, hS, hU, hI⟩
    · obtain ⟨h2, h3, h4, h5, h6, h7, rfl, h8, h9⟩ := h0
      refine ⟨-1, 1, 0, hb, hg, hn, hw, cp, br, cm, hr, cr, ?_, ?_⟩
      · rw [PX6_askBreaths_eq, ln_0, un2_eq rfl, if_neg (show ¬ (1 : Int32) = 0 by decide)]
      · rw [PX7_askBreaths_eq, PX7_good_eq, un2_eq rfl]
        simp only [lt_ap]
        rw [why_0, if_neg (show ¬ (1 : Int32) = 0 by decide), if_pos rfl, no_eq, un2_eq rfl]
    · obtain ⟨hN0, hN, hr1⟩ := hC.N
      obtain ⟨M, hM, hX⟩ := hx
      obtain rfl : N = M := (nI_eq (by omega) (by have := hX.1; omega)).mp hM
      obtain rfl : unit = scale := (ls_eq hC hX).symm.trans hs
      have hth : r 6 = throne := hC.2.2.2.2.2.2.1
      obtain ⟨t, t1, t2⟩ := nd_of hN hC.2.2.2.2.2.2.2.2.1
      have hWw := w_in hC hS hW
      by_cases c0 : 0 ≤ p0.toInt ∧ p0.toInt ≤ 99
      · obtain ⟨v, b, c, bits, hw', cp', hr', cr', e6', e7'⟩ := asked_sim hC hS hX hR hWw hsc t2 (hth.trans t2) t1 p0 hw cp hr cr
        refine ⟨nI b, 0, 0, nI b, bits, nI c, hw', cp', nI b, nI c, hr', cr', ?_, ?_⟩
        · rw [PX6_askBreaths_eq, ln_N hN0 hN, kc_0, k99, if_pos c0, un2_eq rfl, if_pos rfl, un6_eq e6']
        · rw [PX7_askBreaths_eq, PX7_good_eq, un2_eq rfl]
          simp only [lt_ap]
          rw [in_eq, kc_0, k99, if_pos c0, why_n, if_neg (show ¬ (1 : Int32) = 0 by decide), if_pos rfl, un5_eq e7']
      · refine ⟨-1, 2, 0, hb, hg, hn, hw, cp, br, cm, hr, cr, ?_, ?_⟩
        · rw [PX6_askBreaths_eq, ln_N hN0 hN, kc_0, k99, if_neg c0, un2_eq rfl, if_neg (show ¬ (1 : Int32) = 0 by decide)]
        · rw [PX7_askBreaths_eq, PX7_good_eq, un2_eq rfl]
          simp only [lt_ap]
          rw [in_eq, kc_0, k99, if_neg c0, why_n, if_pos rfl, if_neg (show ¬ (2 : Int32) = 0 by decide), if_neg (show ¬ (2 : Int32) = 1 by decide), no_eq, un2_eq rfl]
  obtain ⟨q, f, t, x0, x1, x2, xh, xc, y0, y1, yh, yc, g6, g7⟩ := key
  have x := g6.symm.trans e6
  have y := g7.symm.trans e7
  simp only [Prod.mk.injEq] at x y
  obtain ⟨rfl, rfl, -⟩ := x
  obtain ⟨rfl, -, rfl, -⟩ := y
  exact ⟨rfl, rfl⟩
theorem halves_join (h : Rel nodes words unsures slips throne said kind parts pn wt tw uw uo w o ic iw0 io0 iw1 io1 iw2 io2 ac an ao as hc r told st und kept undos images) (hx : CIS nodes unit kind parts pn wt ws steps below above) (hs : PX7_layScale r = scale) (hM : ROk r ∧ RowOk r st ∧ RowOk r told ∧ WorOk st ∧ night.toInt = -1 ∧ 1 ≤ scale.toInt ∧ scale.toInt ≤ 1296) {hb hg hn ha hq br cm ab : Int32} {hw cp hr cr : Nat → Int32} {hb' hg' hn' ha' hq' br' cm' ab' : Int32} {hw' cp' hr' cr' : Nat → Int32} {q6 q7 : Int32} {rf t1 t2 : Int32} (e6 : PX6_halves nodes throne unit kind parts pn wt ws w o hb hg hn ha hq hw cp = (q6, rf, hb', hg', hn', ha', hq', hw', cp')) (e7 : PX7_halves hc r told st scale hr cr br cm ab = (q7, t1, t2, br', cm', ab', hr', cr')) : q6 = q7 ∧ rf = t2 := by
  obtain ⟨hR, hQ, hQt, hW, hnt, hsc⟩ := hM
  have k99 : (99 : Int32).toInt = 99 := by decide
  have key : ∃ (q : Int32) (f t x0 x1 x2 x3 x4 : Int32) (xh xc : Nat → Int32) (y0 y1 y2 : Int32) (yh yc : Nat → Int32), PX6_halves nodes throne unit kind parts pn wt ws w o hb hg hn ha hq hw cp = (q, f, x0, x1, x2, x3, x4, xh, xc) ∧ PX7_halves hc r told st scale hr cr br cm ab = (q, t, f, y0, y1, y2, yh, yc) := by
    rcases h with ⟨rfl, h0⟩ | ⟨N, c, d, rfl, rfl, rfl, rfl, hc, rfl, rfl, hd, hC, hS, hU, hI⟩
    · obtain ⟨h2, h3, h4, h5, h6, h7, rfl, h8, h9⟩ := h0
      refine ⟨-1, 1, 0, hb, hg, hn, ha, hq, hw, cp, br, cm, ab, hr, cr, ?_, ?_⟩
      · rw [PX6_halves_eq, lc_0, un2_eq rfl, if_neg (show ¬ (1 : Int32) = 0 by decide)]
      · rw [PX7_halves_eq, PX7_good_eq, un2_eq rfl, if_pos rfl, no_eq, un2_eq rfl]
    · obtain ⟨hN0, hN, hr1⟩ := hC.N
      obtain ⟨M, hM, hX⟩ := hx
      obtain rfl : N = M := (nI_eq (by omega) (by have := hX.1; omega)).mp hM
      obtain rfl : unit = scale := (ls_eq hC hX).symm.trans hs
      have hth : r 6 = throne := hC.2.2.2.2.2.2.1
      obtain ⟨t, t1, t2⟩ := nd_of hN hC.2.2.2.2.2.2.2.2.1
      have hWw := w_in hC hS hW
      obtain ⟨I, A, b6, bits, c6, b7, c7, hw', cp', hr', cr', e6', e7'⟩ := hv_loop hC hS hX hR hWw hsc t2 (hth.trans t2) t1 99 0 99 0 (((2147483647 - (0 : Int32).toInt).toNat) + 1) ((((99 : Int32).toInt - (0 : Int32).toInt).toNat) + 1) hb hg hn br cm 0 hw cp hr cr (by omega) (by omega) (by omega) (by omega) (by rw [kc_0]; omega) (by rw [kc_0, k99]; omega)
      rw [nI_0, show nI 99 = (99 : Int32) by decide] at e6' e7'
      refine ⟨A, 0, 0, b6, bits, c6, A, nI I, hw', cp', b7, c7, A, hr', cr', ?_, ?_⟩
      · rw [PX6_halves_eq, lc_N hN0 hN, un2_eq rfl, if_pos rfl, un7_eq (show PX2_askByHalves hb hg hn hw cp (nI N) throne unit kind parts pn wt ws w o = _ from (PX2_askByHalves_eq hb hg hn hw cp (nI N) throne unit kind parts pn wt ws w o).trans e6')]
      · rw [PX7_halves_eq, PX7_good_eq, un2_eq rfl, if_neg (show ¬ (1 : Int32) = 0 by decide), un6_eq (show PX7_halve r told st unit hr cr br cm = _ from (PX7_halve_eq r told st unit hr cr br cm).trans e7')]
  obtain ⟨q, f, t, x0, x1, x2, x3, x4, xh, xc, y0, y1, y2, yh, yc, g6, g7⟩ := key
  have x := g6.symm.trans e6
  have y := g7.symm.trans e7
  simp only [Prod.mk.injEq] at x y
  obtain ⟨rfl, rfl, -⟩ := x
  obtain ⟨rfl, -, rfl, -⟩ := y
  exact ⟨rfl, rfl⟩
theorem questions_join (h : Rel nodes words unsures slips throne said kind parts pn wt tw uw uo w o ic iw0 io0 iw1 io1 iw2 io2 ac an ao as hc r told st und kept undos images) (hx : CIS nodes unit kind parts pn wt ws steps below above) (hs : PX7_layScale r = scale) (hM : ROk r ∧ RowOk r st ∧ RowOk r told ∧ WorOk st ∧ night.toInt = -1 ∧ 1 ≤ scale.toInt ∧ scale.toInt ≤ 1296) {hb hg hn ha hq br cm ab : Int32} {hw cp hr cr : Nat → Int32} {hb' hg' hn' ha' hq' br' cm' ab' : Int32} {hw' cp' hr' cr' : Nat → Int32} {q6 q7 : Int32} {rf t1 t2 : Int32} (e6 : PX6_questions nodes throne unit kind parts pn wt ws w o hb hg hn ha hq hw cp = (q6, rf, hb', hg', hn', ha', hq', hw', cp')) (e7 : PX7_questions hc r told st scale hr cr br cm ab = (q7, t1, t2, br', cm', ab', hr', cr')) : q6 = q7 ∧ rf = t2 := by
  obtain ⟨hR, hQ, hQt, hW, hnt, hsc⟩ := hM
  have k99 : (99 : Int32).toInt = 99 := by decide
  have key : ∃ (q : Int32) (f t x0 x1 x2 x3 x4 : Int32) (xh xc : Nat → Int32) (y0 y1 y2 : Int32) (yh yc : Nat → Int32), PX6_questions nodes throne unit kind parts pn wt ws w o hb hg hn ha hq hw cp = (q, f, x0, x1, x2, x3, x4, xh, xc) ∧ PX7_questions hc r told st scale hr cr br cm ab = (q, t, f, y0, y1, y2, yh, yc) := by
    rcases h with ⟨rfl, h0⟩ | ⟨N, c, d, rfl, rfl, rfl, rfl, hc, rfl, rfl, hd, hC, hS, hU, hI⟩
    · obtain ⟨h2, h3, h4, h5, h6, h7, rfl, h8, h9⟩ := h0
      refine ⟨-1, 1, 0, hb, hg, hn, ha, hq, hw, cp, br, cm, ab, hr, cr, ?_, ?_⟩
      · rw [PX6_questions_eq, lc_0, un2_eq rfl, if_neg (show ¬ (1 : Int32) = 0 by decide)]
      · rw [PX7_questions_eq, PX7_good_eq, un2_eq rfl, if_pos rfl, no_eq, un2_eq rfl]
    · obtain ⟨hN0, hN, hr1⟩ := hC.N
      obtain ⟨M, hM, hX⟩ := hx
      obtain rfl : N = M := (nI_eq (by omega) (by have := hX.1; omega)).mp hM
      obtain rfl : unit = scale := (ls_eq hC hX).symm.trans hs
      have hth : r 6 = throne := hC.2.2.2.2.2.2.1
      obtain ⟨t, t1, t2⟩ := nd_of hN hC.2.2.2.2.2.2.2.2.1
      have hWw := w_in hC hS hW
      obtain ⟨I, A, b6, bits, c6, b7, c7, hw', cp', hr', cr', e6', e7'⟩ := hv_loop hC hS hX hR hWw hsc t2 (hth.trans t2) t1 99 0 99 0 (((2147483647 - (0 : Int32).toInt).toNat) + 1) ((((99 : Int32).toInt - (0 : Int32).toInt).toNat) + 1) hb hg hn br cm 0 hw cp hr cr (by omega) (by omega) (by omega) (by omega) (by rw [kc_0]; omega) (by rw [kc_0, k99]; omega)
      rw [nI_0, show nI 99 = (99 : Int32) by decide] at e6' e7'
      refine ⟨nI I, 0, 0, b6, bits, c6, A, nI I, hw', cp', b7, c7, A, hr', cr', ?_, ?_⟩
      · rw [PX6_questions_eq, lc_N hN0 hN, un2_eq rfl, if_pos rfl, un7_eq (show PX2_askByHalves hb hg hn hw cp (nI N) throne unit kind parts pn wt ws w o = _ from (PX2_askByHalves_eq hb hg hn hw cp (nI N) throne unit kind parts pn wt ws w o).trans e6')]
      · rw [PX7_questions_eq, PX7_good_eq, un2_eq rfl, if_neg (show ¬ (1 : Int32) = 0 by decide), un6_eq (show PX7_halve r told st unit hr cr br cm = _ from (PX7_halve_eq r told st unit hr cr br cm).trans e7')]
  obtain ⟨q, f, t, x0, x1, x2, x3, x4, xh, xc, y0, y1, y2, yh, yc, g6, g7⟩ := key
  have x := g6.symm.trans e6
  have y := g7.symm.trans e7
  simp only [Prod.mk.injEq] at x y
  obtain ⟨rfl, rfl, -⟩ := x
  obtain ⟨rfl, -, rfl, -⟩ := y
  exact ⟨rfl, rfl⟩
end FJ
end G4
