/-! words of which nobody is sure: fits, fitAt, could, surely, askLeaves on both sides -/
section F18
section WQ
variable {N : Nat} {words unsures slips throne said unit : Int32} {kind parts pn wt tw uw uo r told W W' o Q ws steps below above : Nat → Int32}
theorem us_pre (hC : CR N words unsures slips throne said kind parts pn wt tw uw uo r told) (hX : CI N unit kind parts pn wt ws steps below above) (hR : ROk r) (hsc : 1 ≤ unit.toInt ∧ unit.toInt ≤ 1296) (hT : WorOk told) (hu9 : ∀ j : Nat, j < 4 → 0 ≤ (r (118 + 2 * j)).toInt ∧ (r (118 + 2 * j)).toInt ≤ 99) : ∃ (U t : Nat) (p : Nat → Bool), U ≤ 4 ∧ unsures = nI U ∧ r 3 = nI U ∧ t < N ∧ throne = nI t ∧ r 6 = nI t ∧ (∀ j : Nat, j < U → 0 ≤ (uo j).toInt ∧ (uo j).toInt ≤ 99) ∧ (∀ j : Nat, j < U → (uw j).toNatClampNeg < 18) ∧ (∀ V S : Nat → Int32, ∃ L' G' : Nat → Int32, PX6_fittingSets (nI N) unsures throne said unit kind parts pn wt ws tw uw uo V S = (nI (FB p (2 ^ U)), L', G')) ∧ ∀ (p0 : Int32) (T O : Nat → Int32), ∃ T' O' : Nat → Int32, PX7_seekSets r told unit (-1) T O p0 = (atB p p0 (2 ^ U), nI (cntB p (2 ^ U)), nI (orB p (2 ^ U)), nI (if cntB p (2 ^ U) = 0 then 0 else anB p (2 ^ U - 1) (2 ^ U)), T', O') ∧ ∀ j : Nat, j < U → O' j = nI (ofB p j (2 ^ U)) := by
  obtain ⟨hN0, hN, hr⟩ := hC.N
  have hth : r 6 = throne := hC.2.2.2.2.2.2.1
  have ht := hC.2.2.2.2.2.2.2.2.1
  obtain ⟨t, t1, t2⟩ := nd_of hN ht
  obtain ⟨U, hU, hQ0, hUR⟩ := hC.2.2.2.2.2.2.2.2.2.2.1
  have h3 : r 3 = nI U := hC.2.2.2.2.1.trans hQ0
  have h16 := u16 hU
  have hu : ∀ j : Nat, j < U → 0 ≤ (uo j).toInt ∧ (uo j).toInt ≤ 99 := fun j hj => by rw [(hUR j hj).2]; exact hu9 j (by omega)
  have hd : ∀ j : Nat, j < U → (uw j).toNatClampNeg < 18 := fun j hj => by
    have q := hR.dnode j (by omega)
    rw [(hUR j hj).1, show r (117 + 2 * j) = nI (r (117 + 2 * j)).toInt.toNat by rw [fz_eq, nI_toInt (by omega)]; omega, nI_clamp (by omega)]
    omega
  have hW : ∀ k : Nat, k < N → kind k = 0 → 0 ≤ (tw k).toInt ∧ (tw k).toInt ≤ 99 := fun k hk _ => by
    rw [(hC.2.2.2.2.2.2.2.2.2.2.2.1 k hk).2.2.1]
    exact hT (72 + k) (by omega) (by omega)
  refine ⟨U, t, FT said unit kind parts pn wt ws uw uo tw U t, hU, hQ0, h3, t1, t2, hth.trans t2, hu, hd, fun V S => ?_, fun p0 T O => sk_eq hC hX hR hU hQ0 (hth.trans t2) t1 hsc rfl p0 T O⟩
  obtain ⟨L', G', e⟩ := fs_loop hC hX hR hU hu hd hW hsc t2 t1 (2 ^ U) 0 (((2147483647 - (0 : Int32).toInt).toNat) + 1) V S rfl (by omega) (by rw [kc_0]; omega)
  refine ⟨L', G', ?_⟩
  rw [← e, PX6_fittingSets_eq, hQ0]
  show _ = HX6_fittingSets_0 (nI N) (nI U) throne said unit kind parts pn wt ws tw uw uo _ (nI 0) (nI 0) V S
  rw [nI_0]
end WQ
section FJ
variable {nodes words unsures slips throne said : Int32} {kind parts pn wt tw uw uo w o : Nat → Int32} {ic : Int32} {iw0 io0 iw1 io1 iw2 io2 : Nat → Int32} {ac : Int32} {an ao as : Nat → Int32} {hc : Int32} {r told st und kept : Nat → Int32} {undos images : Int32} {unit : Int32} {ws steps below above : Nat → Int32} {scale night : Int32}
theorem fits_join (h : Rel nodes words unsures slips throne said kind parts pn wt tw uw uo w o ic iw0 io0 iw1 io1 iw2 io2 ac an ao as hc r told st und kept undos images) (hx : CIS nodes unit kind parts pn wt ws steps below above) (hs : PX7_layScale r = scale) (hM : ROk r ∧ RowOk r st ∧ RowOk r told ∧ WorOk st ∧ night.toInt = -1 ∧ 1 ≤ scale.toInt ∧ scale.toInt ≤ 1296) (hT : WorOk told) (hu9 : ∀ j : Nat, j < 4 → 0 ≤ (r (118 + 2 * j)).toInt ∧ (r (118 + 2 * j)).toInt ≤ 99) {lv lv' lu lu' T T' O O' : Nat → Int32} {q6 q7 rf t1 t2 sm so al sm' so' al' : Int32} (e6 : PX6_fits nodes unsures throne said unit kind parts pn wt ws tw uw uo lv lu = (q6, rf, lv', lu')) (e7 : PX7_fits hc r told scale night T O sm so al = (q7, t1, t2, sm', so', al', T', O')) : q6 = q7 ∧ rf = t2 := by
  obtain ⟨hR, hQ, hQt, hW, hnt, hsc⟩ := hM
  obtain rfl : night = -1 := (fz_eq _ _).mpr (hnt.trans (by decide))
  have key : ∃ (q f t a1 a2 a3 : Int32) (a b c d : Nat → Int32), PX6_fits nodes unsures throne said unit kind parts pn wt ws tw uw uo lv lu = (q, f, a, b) ∧ PX7_fits hc r told scale (-1) T O sm so al = (q, t, f, a1, a2, a3, c, d) := by
    rcases h with ⟨rfl, h0⟩ | ⟨N, c, d, rfl, rfl, rfl, rfl, hc, rfl, rfl, hd, hC, hS, hU, hI⟩
    · obtain ⟨h2, h3, h4, h5, h6, h7, rfl, h8, h9⟩ := h0
      refine ⟨-1, 1, 0, sm, so, al, lv, lu, T, O, ?_, ?_⟩
      · rw [PX6_fits_eq, lc_0, un2_eq rfl, if_neg (show ¬ (1 : Int32) = 0 by decide)]
      · rw [PX7_fits_eq, PX7_good_eq, un2_eq rfl, if_pos rfl, no_eq, un2_eq rfl]
    · obtain ⟨hN0, hN, hr⟩ := hC.N
      obtain ⟨M, hM, hX⟩ := hx
      obtain rfl : N = M := (nI_eq (by omega) (by have := hX.1; omega)).mp hM
      obtain rfl : unit = scale := (ls_eq hC hX).symm.trans hs
      obtain ⟨U, t, p, hU4, hu, h3, t1, t2, ht6, -, -, hF, hK⟩ := us_pre hC hX hR hsc hT hu9
      have h16 := u16 hU4
      have hcl := cntB_le (p := p) (2 ^ U)
      obtain ⟨L', G', f6⟩ := hF lv lu
      obtain ⟨T', O', f7, hO⟩ := hK (-1) T O
      refine ⟨nI (cntB p (2 ^ U)), 0, 0, nI (cntB p (2 ^ U)), nI (orB p (2 ^ U)), nI (if cntB p (2 ^ U) = 0 then 0 else anB p (2 ^ U - 1) (2 ^ U)), L', G', T', O', ?_, ?_⟩
      · rw [PX6_fits_eq, lc_N hN0 hN, un2_eq rfl, if_pos rfl, un3_eq f6]
        simp only [lt_ap]
        rw [bitCount_FB h16.2]
      · rw [PX7_fits_eq, PX7_good_eq, un2_eq rfl, if_neg (show ¬ (1 : Int32) = 0 by decide), un6_eq f7]
  obtain ⟨q, f, t, a1, a2, a3, a, b, c, d, g6, g7⟩ := key
  have x := g6.symm.trans e6
  have y := g7.symm.trans e7
  simp only [Prod.mk.injEq] at x y
  obtain ⟨rfl, rfl, -⟩ := x
  obtain ⟨rfl, -, rfl, -⟩ := y
  exact ⟨rfl, rfl⟩
theorem could_join (h : Rel nodes words unsures slips throne said kind parts pn wt tw uw uo w o ic iw0 io0 iw1 io1 iw2 io2 ac an ao as hc r told st und kept undos images) (hx : CIS nodes unit kind parts pn wt ws steps below above) (hs : PX7_layScale r = scale) (hM : ROk r ∧ RowOk r st ∧ RowOk r told ∧ WorOk st ∧ night.toInt = -1 ∧ 1 ≤ scale.toInt ∧ scale.toInt ≤ 1296) (hT : WorOk told) (hu9 : ∀ j : Nat, j < 4 → 0 ≤ (r (118 + 2 * j)).toInt ∧ (r (118 + 2 * j)).toInt ≤ 99) {lv lv' lu lu' T T' O O' : Nat → Int32} {q6 q7 rf t1 t2 sm so al sm' so' al' : Int32} (e6 : PX6_could nodes unsures throne said unit kind parts pn wt ws tw uw uo lv lu = (q6, rf, lv', lu')) (e7 : PX7_could hc r told scale night T O sm so al = (q7, t1, t2, sm', so', al', T', O')) : q6 = q7 ∧ rf = t2 := by
  obtain ⟨hR, hQ, hQt, hW, hnt, hsc⟩ := hM
  obtain rfl : night = -1 := (fz_eq _ _).mpr (hnt.trans (by decide))
  have key : ∃ (q f t a1 a2 a3 : Int32) (a b c d : Nat → Int32), PX6_could nodes unsures throne said unit kind parts pn wt ws tw uw uo lv lu = (q, f, a, b) ∧ PX7_could hc r told scale (-1) T O sm so al = (q, t, f, a1, a2, a3, c, d) := by
    rcases h with ⟨rfl, h0⟩ | ⟨N, c, d, rfl, rfl, rfl, rfl, hc, rfl, rfl, hd, hC, hS, hU, hI⟩
    · obtain ⟨h2, h3, h4, h5, h6, h7, rfl, h8, h9⟩ := h0
      refine ⟨-1, 1, 0, sm, so, al, lv, lu, T, O, ?_, ?_⟩
      · rw [PX6_could_eq, lc_0, un2_eq rfl, if_neg (show ¬ (1 : Int32) = 0 by decide)]
      · rw [PX7_could_eq, PX7_good_eq, un2_eq rfl, if_pos rfl, no_eq, un2_eq rfl]
    · obtain ⟨hN0, hN, hr⟩ := hC.N
      obtain ⟨M, hM, hX⟩ := hx
      obtain rfl : N = M := (nI_eq (by omega) (by have := hX.1; omega)).mp hM
      obtain rfl : unit = scale := (ls_eq hC hX).symm.trans hs
      obtain ⟨U, t, p, hU4, hu, h3, t1, t2, ht6, -, -, hF, hK⟩ := us_pre hC hX hR hsc hT hu9
      have h16 := u16 hU4
      have hcl := cntB_le (p := p) (2 ^ U)
      obtain ⟨L', G', f6⟩ := hF lv lu
      obtain ⟨T', O', f7, hO⟩ := hK (-1) T O
      refine ⟨nI (orB p (2 ^ U)), 0, 0, nI (cntB p (2 ^ U)), nI (orB p (2 ^ U)), nI (if cntB p (2 ^ U) = 0 then 0 else anB p (2 ^ U - 1) (2 ^ U)), L', G', T', O', ?_, ?_⟩
      · rw [PX6_could_eq, lc_N hN0 hN, un2_eq rfl, if_pos rfl, un3_eq f6]
        have e := co_loop (p := p) hU4 (x := 0) (fL := L') (fS := G') (2 ^ U) 0 (((2147483647 - (0 : Int32).toInt).toNat) + 1) rfl (by omega) (by rw [kc_0]; omega)
        rw [show orB p 0 = 0 from rfl, nI_0] at e
        rw [hu]
        exact e
      · rw [PX7_could_eq, PX7_good_eq, un2_eq rfl, if_neg (show ¬ (1 : Int32) = 0 by decide), un6_eq f7]
  obtain ⟨q, f, t, a1, a2, a3, a, b, c, d, g6, g7⟩ := key
  have x := g6.symm.trans e6
  have y := g7.symm.trans e7
  simp only [Prod.mk.injEq] at x y
  obtain ⟨rfl, rfl, -⟩ := x
  obtain ⟨rfl, -, rfl, -⟩ := y
  exact ⟨rfl, rfl⟩
theorem surely_join (h : Rel nodes words unsures slips throne said kind parts pn wt tw uw uo w o ic iw0 io0 iw1 io1 iw2 io2 ac an ao as hc r told st und kept undos images) (hx : CIS nodes unit kind parts pn wt ws steps below above) (hs : PX7_layScale r = scale) (hM : ROk r ∧ RowOk r st ∧ RowOk r told ∧ WorOk st ∧ night.toInt = -1 ∧ 1 ≤ scale.toInt ∧ scale.toInt ≤ 1296) (hT : WorOk told) (hu9 : ∀ j : Nat, j < 4 → 0 ≤ (r (118 + 2 * j)).toInt ∧ (r (118 + 2 * j)).toInt ≤ 99) {lv lv' lu lu' T T' O O' : Nat → Int32} {q6 q7 rf t1 t2 sm so al sm' so' al' : Int32} (e6 : PX6_surely nodes unsures throne said unit kind parts pn wt ws tw uw uo lv lu = (q6, rf, lv', lu')) (e7 : PX7_surely hc r told scale night T O sm so al = (q7, t1, t2, sm', so', al', T', O')) : q6 = q7 ∧ rf = t2 := by
  obtain ⟨hR, hQ, hQt, hW, hnt, hsc⟩ := hM
  obtain rfl : night = -1 := (fz_eq _ _).mpr (hnt.trans (by decide))
  have key : ∃ (q f t a1 a2 a3 : Int32) (a b c d : Nat → Int32), PX6_surely nodes unsures throne said unit kind parts pn wt ws tw uw uo lv lu = (q, f, a, b) ∧ PX7_surely hc r told scale (-1) T O sm so al = (q, t, f, a1, a2, a3, c, d) := by
    rcases h with ⟨rfl, h0⟩ | ⟨N, c, d, rfl, rfl, rfl, rfl, hc, rfl, rfl, hd, hC, hS, hU, hI⟩
    · obtain ⟨h2, h3, h4, h5, h6, h7, rfl, h8, h9⟩ := h0
      refine ⟨-1, 1, 0, sm, so, al, lv, lu, T, O, ?_, ?_⟩
      · rw [PX6_surely_eq, lc_0, un2_eq rfl, if_neg (show ¬ (1 : Int32) = 0 by decide)]
      · rw [PX7_surely_eq, PX7_good_eq, un2_eq rfl, if_pos rfl, no_eq, un2_eq rfl]
    · obtain ⟨hN0, hN, hr⟩ := hC.N
      obtain ⟨M, hM, hX⟩ := hx
      obtain rfl : N = M := (nI_eq (by omega) (by have := hX.1; omega)).mp hM
      obtain rfl : unit = scale := (ls_eq hC hX).symm.trans hs
      obtain ⟨U, t, p, hU4, hu, h3, t1, t2, ht6, -, -, hF, hK⟩ := us_pre hC hX hR hsc hT hu9
      have h16 := u16 hU4
      have hcl := cntB_le (p := p) (2 ^ U)
      obtain ⟨L', G', f6⟩ := hF lv lu
      obtain ⟨T', O', f7, hO⟩ := hK (-1) T O
      refine ⟨nI (if cntB p (2 ^ U) = 0 then 0 else anB p (2 ^ U - 1) (2 ^ U)), 0, 0, nI (cntB p (2 ^ U)), nI (orB p (2 ^ U)), nI (if cntB p (2 ^ U) = 0 then 0 else anB p (2 ^ U - 1) (2 ^ U)), L', G', T', O', ?_, ?_⟩
      · rw [PX6_surely_eq, lc_N hN0 hN, un2_eq rfl, if_pos rfl, un3_eq f6]
        rw [hu]
        by_cases z : cntB p (2 ^ U) = 0
        · have e := su2_loop (p := p) (a := 0) hU4 (x := 0) (fL := L') (fS := G') (2 ^ U) 0 (((2147483647 - (0 : Int32).toInt).toNat) + 1) rfl (by omega) (by rw [kc_0]; omega)
          rw [show anB p 0 0 = 0 from rfl, anB_0, nI_0] at e
          rw [if_pos (show nI (FB p (2 ^ U)) = 0 by rw [(FB_0 _).mpr z]; exact nI_0), if_pos z, nI_0]
          exact e
        · have e := su2_loop (p := p) (a := 2 ^ U - 1) hU4 (x := 0) (fL := L') (fS := G') (2 ^ U) 0 (((2147483647 - (0 : Int32).toInt).toNat) + 1) rfl (by omega) (by rw [kc_0]; omega)
          rw [show anB p (2 ^ U - 1) 0 = 2 ^ U - 1 from rfl, nI_0] at e
          rw [if_neg (show ¬ nI (FB p (2 ^ U)) = 0 by rw [← nI_0, nI_eq (FB_31 hU4) (by omega)]; exact fun q => z ((FB_0 _).mp q)), if_neg z, us_eq hU4]
          simp only [lt_ap]
          rw [show nI (2 ^ U) - (1 : Int32) = nI (2 ^ U - 1) by rw [show (1 : Int32) = nI 1 by decide, nI_sub' (by omega) (by omega)]]
          exact e
      · rw [PX7_surely_eq, PX7_good_eq, un2_eq rfl, if_neg (show ¬ (1 : Int32) = 0 by decide), un6_eq f7]
  obtain ⟨q, f, t, a1, a2, a3, a, b, c, d, g6, g7⟩ := key
  have x := g6.symm.trans e6
  have y := g7.symm.trans e7
  simp only [Prod.mk.injEq] at x y
  obtain ⟨rfl, rfl, -⟩ := x
  obtain ⟨rfl, -, rfl, -⟩ := y
  exact ⟨rfl, rfl⟩
theorem fitAt_join (h : Rel nodes words unsures slips throne said kind parts pn wt tw uw uo w o ic iw0 io0 iw1 io1 iw2 io2 ac an ao as hc r told st und kept undos images) (hx : CIS nodes unit kind parts pn wt ws steps below above) (hs : PX7_layScale r = scale) (hM : ROk r ∧ RowOk r st ∧ RowOk r told ∧ WorOk st ∧ night.toInt = -1 ∧ 1 ≤ scale.toInt ∧ scale.toInt ≤ 1296) (hT : WorOk told) (hu9 : ∀ j : Nat, j < 4 → 0 ≤ (r (118 + 2 * j)).toInt ∧ (r (118 + 2 * j)).toInt ≤ 99) {lv lv' lu lu' T T' O O' : Nat → Int32} {p0 q6 q7 rf t1 t2 sm so al sm' so' al' : Int32} (e6 : PX6_fitAt nodes unsures throne said unit kind parts pn wt ws tw uw uo lv lu p0 = (q6, rf, lv', lu')) (e7 : PX7_fitAt hc r told scale night T O sm so al p0 = (q7, t1, t2, sm', so', al', T', O')) : q6 = q7 ∧ rf = t2 := by
  obtain ⟨hR, hQ, hQt, hW, hnt, hsc⟩ := hM
  obtain rfl : night = -1 := (fz_eq _ _).mpr (hnt.trans (by decide))
  have key : ∃ (q f t a1 a2 a3 : Int32) (a b c d : Nat → Int32), PX6_fitAt nodes unsures throne said unit kind parts pn wt ws tw uw uo lv lu p0 = (q, f, a, b) ∧ PX7_fitAt hc r told scale (-1) T O sm so al p0 = (q, t, f, a1, a2, a3, c, d) := by
    rcases h with ⟨rfl, h0⟩ | ⟨N, c, d, rfl, rfl, rfl, rfl, hc, rfl, rfl, hd, hC, hS, hU, hI⟩
    · obtain ⟨h2, h3, h4, h5, h6, h7, rfl, h8, h9⟩ := h0
      refine ⟨-1, 1, 0, sm, so, al, lv, lu, T, O, ?_, ?_⟩
      · rw [PX6_fitAt_eq, lc_0, un2_eq rfl, if_neg (show ¬ (1 : Int32) = 0 by decide)]
      · rw [PX7_fitAt_eq, PX7_good_eq, un2_eq rfl, if_pos rfl, no_eq, un2_eq rfl]
    · obtain ⟨hN0, hN, hr⟩ := hC.N
      obtain ⟨M, hM, hX⟩ := hx
      obtain rfl : N = M := (nI_eq (by omega) (by have := hX.1; omega)).mp hM
      obtain rfl : unit = scale := (ls_eq hC hX).symm.trans hs
      obtain ⟨U, t, p, hU4, hu, h3, t1, t2, ht6, -, -, hF, hK⟩ := us_pre hC hX hR hsc hT hu9
      have h16 := u16 hU4
      have hcl := cntB_le (p := p) (2 ^ U)
      obtain ⟨L', G', f6⟩ := hF lv lu
      have e := fa_loop (p := p) hU4 (p0 := p0) (x := 0) (fL := L') (fS := G') (2 ^ U) 0 (((2147483647 - (0 : Int32).toInt).toNat) + 1) rfl (by omega) (by rw [kc_0]; omega) rfl
      rw [show cntB p 0 = 0 from rfl, nI_0] at e
      have g6 : PX6_fitAt (nI N) unsures throne said unit kind parts pn wt ws tw uw uo lv lu p0 = if atB p p0 (2 ^ U) = -1 then (-1, 1, L', G') else (atB p p0 (2 ^ U), 0, L', G') := by
        rw [PX6_fitAt_eq, lc_N hN0 hN, un2_eq rfl, if_pos rfl, un3_eq f6, hu]
        exact e
      rw [g6]
      by_cases hp : p0.toInt < 0
      · rw [atB_neg hp _ (by omega), if_pos rfl]
        refine ⟨-1, 1, 0, sm, so, al, L', G', T, O, rfl, ?_⟩
        rw [PX7_fitAt_eq, PX7_good_eq, un2_eq rfl, if_neg (show ¬ (1 : Int32) = 0 by decide), if_neg (show ¬ (0 : Int32) ≤ p0 by rw [fz_le, kc_0]; omega), no_eq, un2_eq rfl]
      · obtain ⟨T', O', f7, hO⟩ := hK p0 T O
        have g7 : PX7_fitAt 1 r told unit (-1) T O sm so al p0 = if (0 : Int32) ≤ atB p p0 (2 ^ U) then (atB p p0 (2 ^ U), 0, 0, nI (cntB p (2 ^ U)), nI (orB p (2 ^ U)), nI (if cntB p (2 ^ U) = 0 then 0 else anB p (2 ^ U - 1) (2 ^ U)), T', O') else (-1, 0, 1, nI (cntB p (2 ^ U)), nI (orB p (2 ^ U)), nI (if cntB p (2 ^ U) = 0 then 0 else anB p (2 ^ U - 1) (2 ^ U)), T', O') := by
          rw [PX7_fitAt_eq, PX7_good_eq, un2_eq rfl, if_neg (show ¬ (1 : Int32) = 0 by decide), if_pos (show (0 : Int32) ≤ p0 by rw [fz_le, kc_0]; omega), un6_eq f7, no_eq]
          rfl
        rw [g7]
        rcases atB_lt (p := p) (i := p0) (2 ^ U) (by omega) with q | ⟨s, q1, q2⟩
        · rw [q, if_pos rfl, if_neg (show ¬ (0 : Int32) ≤ -1 by decide)]
          exact ⟨_, _, _, _, _, _, _, _, _, _, rfl, rfl⟩
        · rw [q2, if_neg (nIm1 (by omega)), if_pos (show (0 : Int32) ≤ nI s by rw [fz_le, kc_0, nI_toInt (by omega)]; omega)]
          exact ⟨_, _, _, _, _, _, _, _, _, _, rfl, rfl⟩
  obtain ⟨q, f, t, a1, a2, a3, a, b, c, d, g6, g7⟩ := key
  have x := g6.symm.trans e6
  have y := g7.symm.trans e7
  simp only [Prod.mk.injEq] at x y
  obtain ⟨rfl, rfl, -⟩ := x
  obtain ⟨rfl, -, rfl, -⟩ := y
  exact ⟨rfl, rfl⟩
theorem askLeaves_join (h : Rel nodes words unsures slips throne said kind parts pn wt tw uw uo w o ic iw0 io0 iw1 io1 iw2 io2 ac an ao as hc r told st und kept undos images) (hx : CIS nodes unit kind parts pn wt ws steps below above) (hs : PX7_layScale r = scale) (hM : ROk r ∧ RowOk r st ∧ RowOk r told ∧ WorOk st ∧ night.toInt = -1 ∧ 1 ≤ scale.toInt ∧ scale.toInt ≤ 1296) (hT : WorOk told) (hu9 : ∀ j : Nat, j < 4 → 0 ≤ (r (118 + 2 * j)).toInt ∧ (r (118 + 2 * j)).toInt ≤ 99) {lv lv' lu lu' T T' O O' : Nat → Int32} {q6 q7 rf t1 t2 sm so al sm' so' al' : Int32} (e6 : PX6_askLeaves nodes unsures throne said unit kind parts pn wt ws tw uw uo lv lu = (q6, rf, lv', lu')) (e7 : PX7_askLeaves hc r told scale night T O sm so al = (q7, t1, t2, sm', so', al', T', O')) : q6 = q7 ∧ rf = t2 := by
  obtain ⟨hR, hQ, hQt, hW, hnt, hsc⟩ := hM
  obtain rfl : night = -1 := (fz_eq _ _).mpr (hnt.trans (by decide))
  have key : ∃ (q f t a1 a2 a3 : Int32) (a b c d : Nat → Int32), PX6_askLeaves nodes unsures throne said unit kind parts pn wt ws tw uw uo lv lu = (q, f, a, b) ∧ PX7_askLeaves hc r told scale (-1) T O sm so al = (q, t, f, a1, a2, a3, c, d) := by
    rcases h with ⟨rfl, h0⟩ | ⟨N, c, d, rfl, rfl, rfl, rfl, hc, rfl, rfl, hd, hC, hS, hU, hI⟩
    · obtain ⟨h2, h3, h4, h5, h6, h7, rfl, h8, h9⟩ := h0
      refine ⟨-1, 1, 0, sm, so, al, lv, lu, T, O, ?_, ?_⟩
      · rw [PX6_askLeaves_eq, lc_0, un2_eq rfl, if_neg (show ¬ (1 : Int32) = 0 by decide)]
      · rw [PX7_askLeaves_eq, PX7_good_eq, un2_eq rfl, if_pos rfl, no_eq, un2_eq rfl]
    · obtain ⟨hN0, hN, hr⟩ := hC.N
      obtain ⟨M, hM, hX⟩ := hx
      obtain rfl : N = M := (nI_eq (by omega) (by have := hX.1; omega)).mp hM
      obtain rfl : unit = scale := (ls_eq hC hX).symm.trans hs
      obtain ⟨U, t, p, hU4, hu, h3, t1, t2, ht6, -, -, hF, hK⟩ := us_pre hC hX hR hsc hT hu9
      have h16 := u16 hU4
      have hcl := cntB_le (p := p) (2 ^ U)
      obtain ⟨L', G', f6⟩ := hF lv lu
      obtain ⟨T', O', f7, hO⟩ := hK (-1) T O
      by_cases z : cntB p (2 ^ U) = 0
      · refine ⟨-2, 0, 0, nI (cntB p (2 ^ U)), nI (orB p (2 ^ U)), nI (if cntB p (2 ^ U) = 0 then 0 else anB p (2 ^ U - 1) (2 ^ U)), L', G', T', O', ?_, ?_⟩
        · rw [PX6_askLeaves_eq, lc_N hN0 hN, un2_eq rfl, if_pos rfl, un3_eq f6, PX6_unsureToAsk_eq, HX6_unsureToAsk_0_eq, if_pos (show nI (FB p (2 ^ U)) = 0 by rw [(FB_0 _).mpr z]; exact nI_0), lt_ap, if_neg (show ¬ (0 : Int32) ≤ -1 by decide)]
        · have e : PX7_askedFirst r told unit (-1) T O = (-2, nI (cntB p (2 ^ U)), nI (orB p (2 ^ U)), nI (if cntB p (2 ^ U) = 0 then 0 else anB p (2 ^ U - 1) (2 ^ U)), T', O') := by
            rw [PX7_askedFirst_eq, un6_eq f7, HX7_askedFirst_0_eq, lt_ap, three_cl, h3]
            by_cases c : nI U ≤ 0
            · rw [if_pos c]
            · rw [if_neg c, if_pos (show nI (cntB p (2 ^ U)) ≤ 0 by rw [z]; decide)]
          rw [PX7_askLeaves_eq, PX7_good_eq, un2_eq rfl, if_neg (show ¬ (1 : Int32) = 0 by decide), un6_eq e, if_neg (show ¬ (0 : Int32) ≤ -2 by decide)]
      · obtain ⟨R6, R7, a6, a7, hh⟩ := ua_loop h3 hU4 z (x2 := nI (orB p (2 ^ U))) (x3 := nI (if cntB p (2 ^ U) = 0 then 0 else anB p (2 ^ U - 1) (2 ^ U))) (T := T') hO U 0 (((2147483647 - (0 : Int32).toInt).toNat) + 1) (((2147483647 - (0 : Int32).toInt).toNat) + 1) (-1) 0 (-2) rfl (by omega) (by rw [kc_0]; omega) (by rw [kc_0]; omega) (Or.inl ⟨rfl, rfl⟩)
        rw [nI_0] at a6 a7
        have e : PX7_askedFirst r told unit (-1) T O = (R7, nI (cntB p (2 ^ U)), nI (orB p (2 ^ U)), nI (if cntB p (2 ^ U) = 0 then 0 else anB p (2 ^ U - 1) (2 ^ U)), T', O') := by
          rw [PX7_askedFirst_eq, un6_eq f7]
          exact a7
        have e6 : PX6_unsureToAsk (nI U) (nI (FB p (2 ^ U))) = R6 := by
          rw [PX6_unsureToAsk_eq]
          exact a6
        rcases hh with ⟨rfl, rfl⟩ | ⟨k, k1, rfl, rfl⟩
        · refine ⟨-2, 0, 0, nI (cntB p (2 ^ U)), nI (orB p (2 ^ U)), nI (if cntB p (2 ^ U) = 0 then 0 else anB p (2 ^ U - 1) (2 ^ U)), L', G', T', O', ?_, ?_⟩
          · rw [PX6_askLeaves_eq, lc_N hN0 hN, un2_eq rfl, if_pos rfl, un3_eq f6, hu, e6, lt_ap, if_neg (show ¬ (0 : Int32) ≤ -1 by decide)]
          · rw [PX7_askLeaves_eq, PX7_good_eq, un2_eq rfl, if_neg (show ¬ (1 : Int32) = 0 by decide), un6_eq e, if_neg (show ¬ (0 : Int32) ≤ -2 by decide)]
        · have k0 : (0 : Int32) ≤ nI k := by rw [fz_le, kc_0, nI_toInt (by omega)]; omega
          refine ⟨nI (LVn p k (2 ^ U)), 0, 0, nI (cntB p (2 ^ U)), nI (orB p (2 ^ U)), nI (if cntB p (2 ^ U) = 0 then 0 else anB p (2 ^ U - 1) (2 ^ U)), L', G', T', O', ?_, ?_⟩
          · rw [PX6_askLeaves_eq, lc_N hN0 hN, un2_eq rfl, if_pos rfl, un3_eq f6, hu, e6, lt_ap, if_pos k0, la_eq hU4 k1, lt_ap]
          · rw [PX7_askLeaves_eq, PX7_good_eq, un2_eq rfl, if_neg (show ¬ (1 : Int32) = 0 by decide), un6_eq e, if_pos k0, lo_eq hU4 k1 (hO k k1), lt_ap]
  obtain ⟨q, f, t, a1, a2, a3, a, b, c, d, g6, g7⟩ := key
  have x := g6.symm.trans e6
  have y := g7.symm.trans e7
  simp only [Prod.mk.injEq] at x y
  obtain ⟨rfl, rfl, -⟩ := x
  obtain ⟨rfl, -, rfl, -⟩ := y
  exact ⟨rfl, rfl⟩
end FJ
end F18
