/-! proofs on both sides: proof, disproof, sure -/
section F27
section FJ
variable {nodes words unsures slips throne said : Int32} {kind parts pn wt tw uw uo w o : Nat → Int32} {ic : Int32} {iw0 io0 iw1 io1 iw2 io2 : Nat → Int32} {ac : Int32} {an ao as : Nat → Int32} {hc : Int32} {r told st und kept : Nat → Int32} {undos images : Int32} {unit : Int32} {ws steps below above : Nat → Int32} {scale night : Int32}
theorem proof_join (h : Rel nodes words unsures slips throne said kind parts pn wt tw uw uo w o ic iw0 io0 iw1 io1 iw2 io2 ac an ao as hc r told st und kept undos images) (hx : CIS nodes unit kind parts pn wt ws steps below above) (hs : PX7_layScale r = scale) (hM : ROk r ∧ RowOk r st ∧ RowOk r told ∧ WorOk st ∧ night.toInt = -1 ∧ 1 ≤ scale.toInt ∧ scale.toInt ≤ 1296) {lv lu lv' lu' T O T' O' : Nat → Int32} {p0 q6 q7 rf t1 t2 : Int32} (e6 : PX6_proof nodes throne unit kind parts pn wt ws below w lv lu p0 = (q6, rf, lv', lu')) (e7 : PX7_proof hc r told st scale night T O p0 = (q7, t1, t2, T', O')) : q6 = q7 ∧ rf = t2 := by
  obtain ⟨hR, hQ, hQt, hW, hnt, hsc⟩ := hM
  obtain rfl : night = -1 := (fz_eq _ _).mpr (hnt.trans (by decide))
  have k100 : (100 : Int32).toInt = 100 := by decide
  have key : ∃ (q f t : Int32) (a b c d : Nat → Int32), PX6_proof nodes throne unit kind parts pn wt ws below w lv lu p0 = (q, f, a, b) ∧ PX7_proof hc r told st scale (-1) T O p0 = (q, t, f, c, d) := by
    rcases h with ⟨rfl, h0⟩ | ⟨N, c, d, rfl, rfl, rfl, rfl, hc, rfl, rfl, hd, hC, hS, hU, hI⟩
    · obtain ⟨h2, h3, h4, h5, h6, h7, rfl, h8, h9⟩ := h0
      refine ⟨-1, 1, 0, lv, lu, T, O, ?_, ?_⟩
      · rw [PX6_proof_eq, ln_0, un2_eq rfl, if_neg (show ¬ (1 : Int32) = 0 by decide)]
      · rw [PX7_proof_eq, PX7_good_eq, un2_eq rfl]
        simp only [lt_ap]
        rw [why_0, if_neg (show ¬ (1 : Int32) = 0 by decide), if_pos rfl, no_eq, un2_eq rfl]
    · obtain ⟨hN0, hN, hr⟩ := hC.N
      obtain ⟨M, hM, hX⟩ := hx
      obtain rfl : N = M := (nI_eq (by omega) (by have := hX.1; omega)).mp hM
      obtain rfl : unit = scale := (ls_eq hC hX).symm.trans hs
      have hth : r 6 = throne := hC.2.2.2.2.2.2.1
      obtain ⟨t, t1, t2⟩ := nd_of hN hC.2.2.2.2.2.2.2.2.1
      obtain ⟨R, V', G', T', O', f6, f7⟩ := few_same hC hS hX hR (w_in hC hS hW) hsc t2 (hth.trans t2) t1 0 p0 lv lu T O
      by_cases c0 : 0 ≤ p0.toInt ∧ p0.toInt ≤ 100
      · refine ⟨R, 0, 0, V', G', T', O', ?_, ?_⟩
        · rw [PX6_proof_eq, ln_N hN0 hN, kc_0, k100, if_pos c0, un2_eq rfl, if_pos rfl, un3_eq f6]
        · rw [PX7_proof_eq, PX7_good_eq, un2_eq rfl]
          simp only [lt_ap]
          rw [in_eq, kc_0, k100, if_pos c0, why_n, if_neg (show ¬ (1 : Int32) = 0 by decide), if_pos rfl, un3_eq f7]
      · refine ⟨-1, 2, 0, lv, lu, T, O, ?_, ?_⟩
        · rw [PX6_proof_eq, ln_N hN0 hN, kc_0, k100, if_neg c0, un2_eq rfl, if_neg (show ¬ (1 : Int32) = 0 by decide)]
        · rw [PX7_proof_eq, PX7_good_eq, un2_eq rfl]
          simp only [lt_ap]
          rw [in_eq, kc_0, k100, if_neg c0, why_n, if_pos rfl, if_neg (show ¬ (2 : Int32) = 0 by decide), if_neg (show ¬ (2 : Int32) = 1 by decide), no_eq, un2_eq rfl]
  obtain ⟨q, f, t, a, b, c, d, g6, g7⟩ := key
  have x := g6.symm.trans e6
  have y := g7.symm.trans e7
  simp only [Prod.mk.injEq] at x y
  obtain ⟨rfl, rfl, -⟩ := x
  obtain ⟨rfl, -, rfl, -⟩ := y
  exact ⟨rfl, rfl⟩
theorem disproof_join (h : Rel nodes words unsures slips throne said kind parts pn wt tw uw uo w o ic iw0 io0 iw1 io1 iw2 io2 ac an ao as hc r told st und kept undos images) (hx : CIS nodes unit kind parts pn wt ws steps below above) (hs : PX7_layScale r = scale) (hM : ROk r ∧ RowOk r st ∧ RowOk r told ∧ WorOk st ∧ night.toInt = -1 ∧ 1 ≤ scale.toInt ∧ scale.toInt ≤ 1296) {lv lu lv' lu' T O T' O' : Nat → Int32} {p0 q6 q7 rf t1 t2 : Int32} (e6 : PX6_disproof nodes throne unit kind parts pn wt ws below w lv lu p0 = (q6, rf, lv', lu')) (e7 : PX7_disproof hc r told st scale night T O p0 = (q7, t1, t2, T', O')) : q6 = q7 ∧ rf = t2 := by
  obtain ⟨hR, hQ, hQt, hW, hnt, hsc⟩ := hM
  obtain rfl : night = -1 := (fz_eq _ _).mpr (hnt.trans (by decide))
  have k100 : (100 : Int32).toInt = 100 := by decide
  have key : ∃ (q f t : Int32) (a b c d : Nat → Int32), PX6_disproof nodes throne unit kind parts pn wt ws below w lv lu p0 = (q, f, a, b) ∧ PX7_disproof hc r told st scale (-1) T O p0 = (q, t, f, c, d) := by
    rcases h with ⟨rfl, h0⟩ | ⟨N, c, d, rfl, rfl, rfl, rfl, hc, rfl, rfl, hd, hC, hS, hU, hI⟩
    · obtain ⟨h2, h3, h4, h5, h6, h7, rfl, h8, h9⟩ := h0
      refine ⟨-1, 1, 0, lv, lu, T, O, ?_, ?_⟩
      · rw [PX6_disproof_eq, ln_0, un2_eq rfl, if_neg (show ¬ (1 : Int32) = 0 by decide)]
      · rw [PX7_disproof_eq, PX7_good_eq, un2_eq rfl]
        simp only [lt_ap]
        rw [why_0, if_neg (show ¬ (1 : Int32) = 0 by decide), if_pos rfl, no_eq, un2_eq rfl]
    · obtain ⟨hN0, hN, hr⟩ := hC.N
      obtain ⟨M, hM, hX⟩ := hx
      obtain rfl : N = M := (nI_eq (by omega) (by have := hX.1; omega)).mp hM
      obtain rfl : unit = scale := (ls_eq hC hX).symm.trans hs
      have hth : r 6 = throne := hC.2.2.2.2.2.2.1
      obtain ⟨t, t1, t2⟩ := nd_of hN hC.2.2.2.2.2.2.2.2.1
      obtain ⟨R, V', G', T', O', f6, f7⟩ := few_same hC hS hX hR (w_in hC hS hW) hsc t2 (hth.trans t2) t1 1 p0 lv lu T O
      by_cases c0 : 0 ≤ p0.toInt ∧ p0.toInt ≤ 100
      · refine ⟨R, 0, 0, V', G', T', O', ?_, ?_⟩
        · rw [PX6_disproof_eq, ln_N hN0 hN, kc_0, k100, if_pos c0, un2_eq rfl, if_pos rfl, un3_eq f6]
        · rw [PX7_disproof_eq, PX7_good_eq, un2_eq rfl]
          simp only [lt_ap]
          rw [in_eq, kc_0, k100, if_pos c0, why_n, if_neg (show ¬ (1 : Int32) = 0 by decide), if_pos rfl, un3_eq f7]
      · refine ⟨-1, 2, 0, lv, lu, T, O, ?_, ?_⟩
        · rw [PX6_disproof_eq, ln_N hN0 hN, kc_0, k100, if_neg c0, un2_eq rfl, if_neg (show ¬ (1 : Int32) = 0 by decide)]
        · rw [PX7_disproof_eq, PX7_good_eq, un2_eq rfl]
          simp only [lt_ap]
          rw [in_eq, kc_0, k100, if_neg c0, why_n, if_pos rfl, if_neg (show ¬ (2 : Int32) = 0 by decide), if_neg (show ¬ (2 : Int32) = 1 by decide), no_eq, un2_eq rfl]
  obtain ⟨q, f, t, a, b, c, d, g6, g7⟩ := key
  have x := g6.symm.trans e6
  have y := g7.symm.trans e7
  simp only [Prod.mk.injEq] at x y
  obtain ⟨rfl, rfl, -⟩ := x
  obtain ⟨rfl, -, rfl, -⟩ := y
  exact ⟨rfl, rfl⟩
theorem sure_join (h : Rel nodes words unsures slips throne said kind parts pn wt tw uw uo w o ic iw0 io0 iw1 io1 iw2 io2 ac an ao as hc r told st und kept undos images) (hx : CIS nodes unit kind parts pn wt ws steps below above) (hs : PX7_layScale r = scale) (hM : ROk r ∧ RowOk r st ∧ RowOk r told ∧ WorOk st ∧ night.toInt = -1 ∧ 1 ≤ scale.toInt ∧ scale.toInt ≤ 1296) {lv lu lv' lu' T O T' O' : Nat → Int32} {q6 q7 rf t1 t2 : Int32} (e6 : PX6_sure nodes throne unit kind parts pn wt ws below w lv lu = (q6, rf, lv', lu')) (e7 : PX7_sure hc r told st scale night T O = (q7, t1, t2, T', O')) : q6 = q7 ∧ rf = t2 := by
  obtain ⟨hR, hQ, hQt, hW, hnt, hsc⟩ := hM
  obtain rfl : night = -1 := (fz_eq _ _).mpr (hnt.trans (by decide))
  have k100 : (100 : Int32).toInt = 100 := by decide
  have key : ∃ (q f t : Int32) (a b c d : Nat → Int32), PX6_sure nodes throne unit kind parts pn wt ws below w lv lu = (q, f, a, b) ∧ PX7_sure hc r told st scale (-1) T O = (q, t, f, c, d) := by
    rcases h with ⟨rfl, h0⟩ | ⟨N, c, d, rfl, rfl, rfl, rfl, hc, rfl, rfl, hd, hC, hS, hU, hI⟩
    · obtain ⟨h2, h3, h4, h5, h6, h7, rfl, h8, h9⟩ := h0
      refine ⟨-1, 1, 0, lv, lu, T, O, ?_, ?_⟩
      · rw [PX6_sure_eq, lc_0, un2_eq rfl, if_neg (show ¬ (1 : Int32) = 0 by decide)]
      · rw [PX7_sure_eq, PX7_good_eq, un2_eq rfl, if_pos rfl, no_eq, un2_eq rfl]
    · obtain ⟨hN0, hN, hr⟩ := hC.N
      obtain ⟨M, hM, hX⟩ := hx
      obtain rfl : N = M := (nI_eq (by omega) (by have := hX.1; omega)).mp hM
      obtain rfl : unit = scale := (ls_eq hC hX).symm.trans hs
      have hth : r 6 = throne := hC.2.2.2.2.2.2.1
      obtain ⟨t, t1, t2⟩ := nd_of hN hC.2.2.2.2.2.2.2.2.1
      obtain ⟨R, V', G', T', O', f6, f7⟩ := few_same hC hS hX hR (w_in hC hS hW) hsc t2 (hth.trans t2) t1 2 0 lv lu T O
      refine ⟨R, 0, 0, V', G', T', O', ?_, ?_⟩
      · rw [PX6_sure_eq, lc_N hN0 hN, un2_eq rfl, if_pos rfl, un3_eq f6]
      · rw [PX7_sure_eq, PX7_good_eq, un2_eq rfl, if_neg (show ¬ (1 : Int32) = 0 by decide), un3_eq f7]
  obtain ⟨q, f, t, a, b, c, d, g6, g7⟩ := key
  have x := g6.symm.trans e6
  have y := g7.symm.trans e7
  simp only [Prod.mk.injEq] at x y
  obtain ⟨rfl, rfl, -⟩ := x
  obtain ⟨rfl, -, rfl, -⟩ := y
  exact ⟨rfl, rfl⟩
end FJ
end F27
