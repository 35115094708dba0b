/-! best, line, lineAt: on both sides -/
section F7
section FJ
variable {nodes words unsures slips throne said : Int32} {kind parts pn wt tw uw uo w o : Nat → Int32} {ic : Int32} {iw0 io0 iw1 io1 iw2 io2 : Nat → Int32} {ac : Int32} {an ao as : Nat → Int32} {hc : Int32} {r told st und kept : Nat → Int32} {undos images : Int32} {unit : Int32} {ws steps below above : Nat → Int32} {scale night : Int32}
theorem best_join (h : Rel nodes words unsures slips throne said kind parts pn wt tw uw uo w o ic iw0 io0 iw1 io1 iw2 io2 ac an ao as hc r told st und kept undos images) (hx : CIS nodes unit kind parts pn wt ws steps below above) (hs : PX7_layScale r = scale) (hM : ROk r ∧ RowOk r st ∧ RowOk r told ∧ WorOk st ∧ night.toInt = -1 ∧ 1 ≤ scale.toInt ∧ scale.toInt ≤ 1296) {lv lv' : Nat → Int32} {p0 : Int32} {q6 q7 : Int32} {rf t1 t2 : Int32} (e6 : PX6_best nodes throne unit kind parts pn wt ws w o lv p0 = (q6, rf, lv')) (e7 : PX7_best hc r told st scale night p0 = (q7, t1, t2)) : q6 = q7 ∧ rf = t2 := by
  obtain ⟨hR, hQ, hQt, hW, hnt, hsc⟩ := hM
  obtain rfl : night = -1 := (fz_eq _ _).mpr (hnt.trans (by decide))
  have key : ∃ (q : Int32) (f t : Int32) (v : Nat → Int32), PX6_best nodes throne unit kind parts pn wt ws w o lv p0 = (q, f, v) ∧ PX7_best hc r told st scale (-1) p0 = (q, t, f) := by
    rcases h with ⟨rfl, h0⟩ | ⟨N, c, d, rfl, rfl, rfl, rfl, hc, rfl, rfl, hd, hC, hS, hU, hI⟩
    · obtain ⟨h2, h3, h4, h5, h6, h7, rfl, h8, h9⟩ := h0
      refine ⟨-1, 1, 0, lv, ?_, ?_⟩
      · rw [PX6_best_eq, PX6_lacksNode_eq]
        simp only [lt_ap]
        rw [hn_0, if_neg (show ¬ (0 : Int32) = 1 by decide), un2_eq rfl, if_neg (show ¬ (1 : Int32) = 0 by decide)]
      · rw [PX7_best_eq, PX7_good_eq, un2_eq rfl]
        simp only [lt_ap]
        rw [rn_0, if_neg (show ¬ (0 : Int32) = 1 by decide), no_eq, un2_eq rfl]
    · obtain ⟨hN0, hN, hr⟩ := hC.N
      obtain ⟨M, hM, hX⟩ := hx
      obtain rfl : N = M := (nI_eq (by omega) (by have := hX.1; omega)).mp hM
      obtain rfl : unit = scale := (ls_eq hC hX).symm.trans hs
      by_cases hn : 0 ≤ p0.toInt ∧ p0.toInt < (N : Int)
      · obtain ⟨k, hk, rfl⟩ := nd_of hN hn
        obtain ⟨G', e, hG⟩ := weigh_eq hC hS hX hR (w_in hC hS hW) hsc lv
        have hb := (best_eq hC hS hX hR (w_in hC hS hW) hsc hG hk).1
        refine ⟨PX7_bestOf r told st unit (-1) (nI k), 0, 0, G', ?_, ?_⟩
        · rw [PX6_best_eq, PX6_lacksNode_eq]
          simp only [lt_ap]
          rw [hn_eq hN, if_pos hn, if_pos rfl, un2_eq rfl, if_pos rfl, un2_eq e, hb]
        · rw [PX7_best_eq, PX7_good_eq, un2_eq rfl]
          simp only [lt_ap]
          rw [rn_eq hN0 hN hr, if_pos hn, if_pos rfl]
      · refine ⟨-1, 1, 0, lv, ?_, ?_⟩
        · rw [PX6_best_eq, PX6_lacksNode_eq]
          simp only [lt_ap]
          rw [hn_eq hN, if_neg hn, if_neg (show ¬ (0 : Int32) = 1 by decide), un2_eq rfl, if_neg (show ¬ (1 : Int32) = 0 by decide)]
        · rw [PX7_best_eq, PX7_good_eq, un2_eq rfl]
          simp only [lt_ap]
          rw [rn_eq hN0 hN hr, if_neg hn, if_neg (show ¬ (0 : Int32) = 1 by decide), no_eq, un2_eq rfl]
  obtain ⟨q, f, t, v, g6, g7⟩ := key
  have x := g6.symm.trans e6
  have y := g7.symm.trans e7
  simp only [Prod.mk.injEq] at x y
  obtain ⟨rfl, rfl, -⟩ := x
  obtain ⟨rfl, -, rfl⟩ := y
  exact ⟨rfl, rfl⟩
/-- the line's length, on both sides; each of its nodes -/
theorem line_both {N : Nat} (hC : CR N words unsures slips throne said kind parts pn wt tw uw uo r told) (hS : StR N parts pn w o st) (hX : CI N unit kind parts pn wt ws steps below above) (hR : ROk r) (hW : WorOk st) (hsc : 1 ≤ unit.toInt ∧ unit.toInt ≤ 1296) (lv : Nat → Int32) : ∃ (G : Nat → Int32) (B : Nat → Int32) (t : Nat), t < N ∧ throne = nI t ∧ r 6 = nI t ∧ lnOk B N ∧ (∀ k : Nat, k < N → PX6_bestPart kind parts pn o G (nI k) = B k) ∧ (∀ k : Nat, k < N → PX7_bestOf r told st unit (-1) (nI k) = B k) ∧ PX6_lineLength (nI N) throne unit kind parts pn wt ws w o lv = (nI (1 + lnX B 20 (B t)), G) := by
  have hN := hX.1
  obtain ⟨G, e, hG⟩ := weigh_eq hC hS hX hR (w_in hC hS hW) hsc lv
  have hth : r 6 = throne := hC.2.2.2.2.2.2.1
  have ht := hC.2.2.2.2.2.2.2.2.1
  obtain ⟨t, t1, t2⟩ := nd_of hN ht
  have h6 : ∀ k : Nat, k < N → PX6_bestPart kind parts pn o G (nI k) = PX7_bestOf r told st unit (-1) (nI k) := fun k hk => (best_eq hC hS hX hR (w_in hC hS hW) hsc hG hk).1
  have hB : lnOk (fun k => PX7_bestOf r told st unit (-1) (nI k)) N := fun k hk => (best_eq hC hS hX hR (w_in hC hS hW) hsc hG hk).2
  refine ⟨G, fun k => PX7_bestOf r told st unit (-1) (nI k), t, t1, t2, hth.trans t2, hB, h6, fun k hk => rfl, ?_⟩
  have hx : PX7_bestOf r told st unit (-1) (nI t) = -2 ∨ ∃ j : Nat, j < N ∧ j + 0 < 18 ∧ j + 2 ≤ 20 ∧ PX7_bestOf r told st unit (-1) (nI t) = nI j := by
    rcases hB t t1 with q | ⟨j, q1, q2⟩
    · exact Or.inl q
    · exact Or.inr ⟨j, by omega, by omega, by omega, q2⟩
  have e2 := ln6 (G := G) (kind := kind) (parts := parts) (pn := pn) (o := o) hN hB h6 20 (PX7_bestOf r told st unit (-1) (nI t)) 0 1 (((18 - (0 : Int32).toInt).toNat) + 1) hx (by rw [kc_0]; omega)
  rw [nI_0] at e2
  rw [PX6_lineLength_eq, un2_eq e]
  simp only [lt_ap]
  rw [t2, h6 t t1]
  exact e2
theorem line_join (h : Rel nodes words unsures slips throne said kind parts pn wt tw uw uo w o ic iw0 io0 iw1 io1 iw2 io2 ac an ao as hc r told st und kept undos images) (hx : CIS nodes unit kind parts pn wt ws steps below above) (hs : PX7_layScale r = scale) (hM : ROk r ∧ RowOk r st ∧ RowOk r told ∧ WorOk st ∧ night.toInt = -1 ∧ 1 ≤ scale.toInt ∧ scale.toInt ≤ 1296) {lv lv' : Nat → Int32} {q6 q7 : Int32} {rf t1 t2 : Int32} (e6 : PX6_line nodes throne unit kind parts pn wt ws w o lv = (q6, rf, lv')) (e7 : PX7_line hc r told st scale night = (q7, t1, t2)) : q6 = q7 ∧ rf = t2 := by
  obtain ⟨hR, hQ, hQt, hW, hnt, hsc⟩ := hM
  obtain rfl : night = -1 := (fz_eq _ _).mpr (hnt.trans (by decide))
  have key : ∃ (q : Int32) (f t : Int32) (v : Nat → Int32), PX6_line nodes throne unit kind parts pn wt ws w o lv = (q, f, v) ∧ PX7_line hc r told st scale (-1) = (q, t, f) := by
    rcases h with ⟨rfl, h0⟩ | ⟨N, c, d, rfl, rfl, rfl, rfl, hc, rfl, rfl, hd, hC, hS, hU, hI⟩
    · obtain ⟨h2, h3, h4, h5, h6, h7, rfl, h8, h9⟩ := h0
      refine ⟨-1, 1, 0, lv, ?_, ?_⟩
      · rw [PX6_line_eq, lc_0, un2_eq rfl, if_neg (show ¬ (1 : Int32) = 0 by decide)]
      · rw [PX7_line_eq, PX7_good_eq, un2_eq rfl, if_pos rfl, no_eq, un2_eq rfl]
    · obtain ⟨hN0, hN, hr⟩ := hC.N
      obtain ⟨M, hM, hX⟩ := hx
      obtain rfl : N = M := (nI_eq (by omega) (by have := hX.1; omega)).mp hM
      obtain rfl : unit = scale := (ls_eq hC hX).symm.trans hs
      obtain ⟨G, B, t, q1, q2, q3, q4, q5, q6, q7⟩ := line_both hC hS hX hR hW hsc lv
      refine ⟨nI (1 + lnX B 20 (B t)), 0, 0, G, ?_, ?_⟩
      · rw [PX6_line_eq, lc_N hN0 hN, un2_eq rfl, if_pos rfl, un2_eq q7]
      · rw [PX7_line_eq, PX7_good_eq, un2_eq rfl, if_neg (show ¬ (1 : Int32) = 0 by decide)]
        simp only [lt_ap]
        rw [six_cl, q3, q6 t q1]
        have hxx : B t = -2 ∨ ∃ j : Nat, j < N ∧ j + 2 ≤ 20 ∧ j + 2 ≤ ((B t).toInt + 3).toNat + 1 ∧ B t = nI j := by
          rcases q4 t q1 with q | ⟨j, a, b⟩
          · exact Or.inl q
          · exact Or.inr ⟨j, by omega, by omega, by rw [b, nI_toInt (by omega)]; omega, b⟩
        have e2 := ln7 (t0 := 0) (t1 := 0) hN q4 q6 20 (B t) 1 ((((B t).toInt + 3).toNat) + 1) hxx (by omega)
        exact e2
  obtain ⟨q, f, t, v, g6, g7⟩ := key
  have x := g6.symm.trans e6
  have y := g7.symm.trans e7
  simp only [Prod.mk.injEq] at x y
  obtain ⟨rfl, rfl, -⟩ := x
  obtain ⟨rfl, -, rfl⟩ := y
  exact ⟨rfl, rfl⟩
theorem lineAt_join (h : Rel nodes words unsures slips throne said kind parts pn wt tw uw uo w o ic iw0 io0 iw1 io1 iw2 io2 ac an ao as hc r told st und kept undos images) (hx : CIS nodes unit kind parts pn wt ws steps below above) (hs : PX7_layScale r = scale) (hM : ROk r ∧ RowOk r st ∧ RowOk r told ∧ WorOk st ∧ night.toInt = -1 ∧ 1 ≤ scale.toInt ∧ scale.toInt ≤ 1296) {lv lv' : Nat → Int32} {p0 q6 q7 : Int32} {rf t1 t2 : Int32} (e6 : PX6_lineAt nodes throne unit kind parts pn wt ws w o lv p0 = (q6, rf, lv')) (e7 : PX7_lineAt hc r told st scale night p0 = (q7, t1, t2)) : q6 = q7 ∧ rf = t2 := by
  obtain ⟨hR, hQ, hQt, hW, hnt, hsc⟩ := hM
  obtain rfl : night = -1 := (fz_eq _ _).mpr (hnt.trans (by decide))
  have key : ∃ (q : Int32) (f t : Int32) (v : Nat → Int32), PX6_lineAt nodes throne unit kind parts pn wt ws w o lv p0 = (q, f, v) ∧ PX7_lineAt hc r told st scale (-1) p0 = (q, t, f) := by
    have hrf : ∀ q : Int32, PX6_refuse q = (-1, q) := fun q => PX6_refuse_eq q
    rcases h with ⟨rfl, h0⟩ | ⟨N, c, d, rfl, rfl, rfl, rfl, hc, rfl, rfl, hd, hC, hS, hU, hI⟩
    · obtain ⟨h2, h3, h4, h5, h6, h7, rfl, h8, h9⟩ := h0
      refine ⟨-1, 1, 0, lv, ?_, ?_⟩
      · rw [PX6_lineAt_eq, lc_0, un2_eq rfl, if_neg (show ¬ (1 : Int32) = 0 by decide)]
      · rw [PX7_lineAt_eq, PX7_good_eq, un2_eq rfl, if_pos rfl, no_eq, un2_eq rfl]
    · obtain ⟨hN0, hN, hr⟩ := hC.N
      obtain ⟨M, hM, hX⟩ := hx
      obtain rfl : N = M := (nI_eq (by omega) (by have := hX.1; omega)).mp hM
      obtain rfl : unit = scale := (ls_eq hC hX).symm.trans hs
      obtain ⟨G, B, t, q1, q2, q3, q4, q5, q6, q7⟩ := line_both hC hS hX hR hW hsc lv
      by_cases hp : p0 < 0
      · refine ⟨-1, 1, 0, lv, ?_, ?_⟩
        · rw [PX6_lineAt_eq, lc_N hN0 hN, un2_eq rfl, if_pos rfl, if_pos hp, hrf, un2_eq rfl]
        · rw [PX7_lineAt_eq, PX7_good_eq, un2_eq rfl, if_neg (show ¬ (1 : Int32) = 0 by decide), if_neg (fun q => by rw [fz_le] at q; rw [fz_lt] at hp; omega), no_eq, un2_eq rfl]
      · obtain ⟨P, hP, rfl⟩ := nI_of hp
        have hxx : nI t = -2 ∨ ∃ j : Nat, j < N ∧ j + 2 ≤ 21 ∧ j + 2 ≤ ((nI t).toInt + 3).toNat + 1 ∧ nI t = nI j := Or.inr ⟨t, q1, by omega, by rw [nI_toInt (by omega)]; omega, rfl⟩
        obtain ⟨a, b⟩ := ln_at (G := G) (x6 := 0) (t0 := 0) (t1 := 0) hP hN q4 q5 q6 21 (nI t) 0 (((2147483647 - (0 : Int32).toInt).toNat) + 1) ((((nI t).toInt + 3).toNat) + 1) hxx (by omega) (by rw [kc_0]; omega) (by omega)
        have eL : lnX B 21 (nI t) = 1 + lnX B 20 (B t) := by rw [lnX, if_neg (nI_pos (by omega)), nI_clamp (by omega)]
        rw [eL, Nat.sub_zero, nI_0] at a b
        have hL : ∀ (g : Nat) (x : Int32), lnX B g x ≤ g := fun g => by
          induction g with
          | zero => intro x; exact Nat.le_refl _
          | succ g ih =>
            intro x
            rw [lnX]
            by_cases c : x < 0
            · rw [if_pos c]; omega
            · rw [if_neg c]; have := ih (B x.toNatClampNeg); omega
        have hl := hL 20 (B t)
        have e7 : PX7_lineAt 1 r told st unit (-1) (nI P) = HX7_lineAt_0 r told st unit (-1) (nI P) 0 0 ((((nI t).toInt + 3).toNat) + 1) (nI t) 0 := by
          rw [PX7_lineAt_eq, PX7_good_eq, un2_eq rfl, if_neg (show ¬ (1 : Int32) = 0 by decide), if_pos (nI_pos' hP)]
          simp only [lt_ap]
          rw [six_cl, q3]
        by_cases cP : P < 1 + lnX B 20 (B t)
        · obtain ⟨y, y6, y7⟩ := a cP
          refine ⟨y, 0, 0, G, ?_, by rw [e7]; exact y7⟩
          rw [PX6_lineAt_eq, lc_N hN0 hN, un2_eq rfl, if_pos rfl, if_neg (nI_pos hP), un2_eq q7, if_pos (nI_lt cP (by omega)), q2]
          exact y6
        · refine ⟨-1, 1, 0, G, ?_, by rw [e7]; exact b (by omega)⟩
          rw [PX6_lineAt_eq, lc_N hN0 hN, un2_eq rfl, if_pos rfl, if_neg (nI_pos hP), un2_eq q7, if_neg (nI_nlt (by omega) hP), hrf, un2_eq rfl]
  obtain ⟨q, f, t, v, g6, g7⟩ := key
  have x := g6.symm.trans e6
  have y := g7.symm.trans e7
  simp only [Prod.mk.injEq] at x y
  obtain ⟨rfl, rfl, -⟩ := x
  obtain ⟨rfl, -, rfl⟩ := y
  exact ⟨rfl, rfl⟩
end FJ
end F7
