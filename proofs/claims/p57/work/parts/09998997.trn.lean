/-! turn, pivot: what both sides answer -/
section F12
section WQ
variable {N : Nat} {words unsures slips throne said unit : Int32} {kind parts pn wt tw uw uo r told w o st ws steps below above : Nat → Int32}
/-- one least change on both sides -/
theorem lt_both (hC : CR N words unsures slips throne said kind parts pn wt tw uw uo r told) (hS : StR N parts pn w o st) (hI : CI N unit kind parts pn wt ws steps below above) (hR : ROk r) (hW : WorOk st) {un : Int32} (hs : 1 ≤ un.toInt ∧ un.toInt ≤ 1296) {k : Nat} (hk : k < N) (h0 : kind k = 0) : ∃ R : Int32, (R = -2 ∨ ∃ c : Nat, 1 ≤ c ∧ c ≤ 99 ∧ R = nI c) ∧ (∀ V S : Nat → Int32, ∃ V' S' : Nat → Int32, PX6_leastTurn (nI N) throne un kind parts pn wt ws w V S (nI k) = (R, V', S')) ∧ ∀ F : Nat → Int32, ∃ F' : Nat → Int32, PX7_turnOf r told st un (-1) F (nI k) = (R, F') := by
  have hN := hI.1
  have hth : r 6 = throne := hC.2.2.2.2.2.2.1
  have ht := hC.2.2.2.2.2.2.2.2.1
  obtain ⟨t, t1, t2⟩ := nd_of hN ht
  obtain ⟨b1, b2⟩ := w_in hC hS hW k hk h0
  have hwk : w k = nI (w k).toInt.toNat := by rw [fz_eq, nI_toInt (by omega)]; omega
  obtain ⟨R, F1, e1, hR1⟩ := lt7 hC hS hI hR (un := un) (hth.trans t2) t1 hk hwk (by omega) (fun _ => 0)
  refine ⟨R, ?_, fun V S => ?_, fun F => ?_⟩
  · rcases hR1 with ⟨q, -⟩ | ⟨c, c1, c2, q, -⟩
    · exact Or.inl q
    · exact Or.inr ⟨c, c1, c2, q⟩
  · obtain ⟨R2, V', S', e2, hR2⟩ := lt6 hC hI hR (w_in hC hS hW) hs t2 t1 hk hwk (by omega) V S
    exact ⟨V', S', by rw [e2, hR2.one hR1]⟩
  · obtain ⟨R2, F', e2, hR2⟩ := lt7 hC hS hI hR (un := un) (hth.trans t2) t1 hk hwk (by omega) F
    exact ⟨F', by rw [e2, hR2.one hR1]⟩
theorem pv_loop (hC : CR N words unsures slips throne said kind parts pn wt tw uw uo r told) (hS : StR N parts pn w o st) (hI : CI N unit kind parts pn wt ws steps below above) (hR : ROk r) (hW : WorOk st) {un x6 t0 t1 : Int32} (hs : 1 ≤ un.toInt ∧ un.toInt ≤ 1296) : ∀ (m k f6 f7 : Nat) (l6 w6 l7 w7 : Int32) (V S F : Nat → Int32), N - k = m → k ≤ N → m < f6 → m < f7 → ((w6 = -2 ∧ w7 = -2 ∧ l7 = 100000000) ∨ ∃ j c : Nat, j < 18 ∧ c ≤ 99 ∧ w6 = nI j ∧ w7 = nI j ∧ l6 = nI c ∧ l7 = nI c) → ∃ (R : Int32) (V' S' F' : Nat → Int32), HX6_pivot_0 (nI N) throne un kind parts pn wt ws w x6 f6 (nI k) l6 w6 V S = (R, x6, V', S') ∧ HX7_pivot_0 r told st un (-1) t0 t1 f7 (nI k) l7 w7 F = (R, t0, t1, F') := by
  obtain ⟨hN0, hN, hr⟩ := hC.N
  intro m
  induction m with
  | zero =>
    intro k f6 f7 l6 w6 l7 w7 V S F hm hk h6 h7 hi
    obtain ⟨f6, rfl⟩ : ∃ g, f6 = g + 1 := ⟨f6 - 1, by omega⟩
    obtain ⟨f7, rfl⟩ : ∃ g, f7 = g + 1 := ⟨f7 - 1, by omega⟩
    obtain rfl : k = N := by omega
    have hw : w6 = w7 := by
      rcases hi with ⟨a, b, -⟩ | ⟨j, c, -, -, a, b, -⟩
      · rw [a, b]
      · rw [a, b]
    refine ⟨w6, V, S, F, ?_, ?_⟩
    · rw [HX6_pivot_0_eq, if_pos (nI_le (Nat.le_refl _) (by omega))]
    · rw [HX7_pivot_0_eq]
      simp only [lt_ap]
      rw [one_cl, hr, if_pos (nI_le (Nat.le_refl _) (by omega)), hw]
  | succ m ih =>
    intro k f6 f7 l6 w6 l7 w7 V S F hm hk h6 h7 hi
    obtain ⟨f6, rfl⟩ : ∃ g, f6 = g + 1 := ⟨f6 - 1, by omega⟩
    obtain ⟨f7, rfl⟩ : ∃ g, f7 = g + 1 := ⟨f7 - 1, by omega⟩
    have hk2 : k < N := by omega
    rw [HX6_pivot_0_eq, if_neg (by rw [nI_leI (by omega) (by omega)]; omega), HX7_pivot_0_eq]
    simp only [lt_ap]
    rw [one_cl, hr, if_neg (show ¬ nI N ≤ nI k by rw [nI_leI (by omega) (by omega)]; omega), show (9 : Int32) + nI k = nI (9 + k) from nI_add 9 k, nI_clamp (show 9 + k < 2 ^ 31 by omega), nI_clamp (show k < 2 ^ 31 by omega), ← (hC.k hk2).1, nI_o1]
    by_cases h0 : kind k = 0
    · obtain ⟨R, hRr, a6, a7⟩ := lt_both hC hS hI hR hW hs hk2 h0
      obtain ⟨V', S', e6⟩ := a6 V S
      obtain ⟨F', e7⟩ := a7 F
      rw [if_pos h0, if_pos h0, un3_eq e6, un2_eq e7]
      rcases hRr with rfl | ⟨c, c1, c2, rfl⟩
      · rw [if_pos (show (-2 : Int32) < 0 by decide), if_pos (show (-2 : Int32) < 0 by decide)]
        exact ih (k + 1) f6 f7 l6 w6 l7 w7 V' S' F' (by omega) (by omega) (by omega) (by omega) hi
      · rw [if_neg (nI_pos (by omega)), if_neg (nI_pos (by omega))]
        rcases hi with ⟨rfl, rfl, rfl⟩ | ⟨j, d, j1, d1, rfl, rfl, rfl, rfl⟩
        · rw [if_pos (show (-2 : Int32) < 0 by decide), if_pos (show nI c < (100000000 : Int32) by rw [fz_lt, k_hi, nI_toInt (by omega)]; omega)]
          exact ih (k + 1) f6 f7 _ _ _ _ V' S' F' (by omega) (by omega) (by omega) (by omega) (Or.inr ⟨k, c, by omega, c2, rfl, rfl, rfl, rfl⟩)
        · rw [if_neg (nI_pos (by omega))]
          by_cases cd : d ≤ c
          · rw [if_pos (nI_le cd (by omega)), if_neg (nI_nlt cd (by omega))]
            exact ih (k + 1) f6 f7 _ _ _ _ V' S' F' (by omega) (by omega) (by omega) (by omega) (Or.inr ⟨j, d, j1, d1, rfl, rfl, rfl, rfl⟩)
          · rw [if_neg (show ¬ nI d ≤ nI c by rw [nI_leI (by omega) (by omega)]; exact cd), if_pos (nI_lt (by omega) (by omega))]
            exact ih (k + 1) f6 f7 _ _ _ _ V' S' F' (by omega) (by omega) (by omega) (by omega) (Or.inr ⟨k, c, by omega, c2, rfl, rfl, rfl, rfl⟩)
    · rw [if_neg h0, if_neg h0]
      exact ih (k + 1) f6 f7 l6 w6 l7 w7 V S F (by omega) (by omega) (by omega) (by omega) hi
end WQ
section FJ
variable {nodes words unsures slips throne said : Int32} {kind parts pn wt tw uw uo w o : Nat → Int32} {ic : Int32} {iw0 io0 iw1 io1 iw2 io2 : Nat → Int32} {ac : Int32} {an ao as : Nat → Int32} {hc : Int32} {r told st und kept : Nat → Int32} {undos images : Int32} {unit : Int32} {ws steps below above : Nat → Int32} {scale night : Int32}
theorem turn_join (h : Rel nodes words unsures slips throne said kind parts pn wt tw uw uo w o ic iw0 io0 iw1 io1 iw2 io2 ac an ao as hc r told st und kept undos images) (hx : CIS nodes unit kind parts pn wt ws steps below above) (hs : PX7_layScale r = scale) (hM : ROk r ∧ RowOk r st ∧ RowOk r told ∧ WorOk st ∧ night.toInt = -1 ∧ 1 ≤ scale.toInt ∧ scale.toInt ≤ 1296) {lv lv' lu lu' tr tr' : Nat → Int32} {p0 q6 q7 : Int32} {rf t1 t2 : Int32} (e6 : PX6_turn nodes throne unit kind parts pn wt ws w lv lu p0 = (q6, rf, lv', lu')) (e7 : PX7_turn hc r told st scale night tr p0 = (q7, t1, t2, tr')) : q6 = q7 ∧ rf = t2 := by
  obtain ⟨hR, hQ, hQt, hW, hnt, hsc⟩ := hM
  obtain rfl : night = -1 := (fz_eq _ _).mpr (hnt.trans (by decide))
  have key : ∃ (q f t : Int32) (a b c : Nat → Int32), PX6_turn nodes throne unit kind parts pn wt ws w lv lu p0 = (q, f, a, b) ∧ PX7_turn hc r told st scale (-1) tr p0 = (q, t, f, c) := by
    rcases h with ⟨rfl, h0⟩ | ⟨N, c, d, rfl, rfl, rfl, rfl, hc, rfl, rfl, hd, hC, hS, hU, hI⟩
    · obtain ⟨h2, h3, h4, h5, h6, h7, rfl, h8, h9⟩ := h0
      refine ⟨-1, 1, 0, lv, lu, tr, ?_, ?_⟩
      · rw [PX6_turn_eq, PX6_lacksWord_eq, PX1_hasWord_eq]
        simp only [lt_ap]
        rw [hn_0, if_neg (show ¬ (0 : Int32) = 1 by decide), if_neg (show ¬ (0 : Int32) = 1 by decide), un2_eq rfl, if_neg (show ¬ (1 : Int32) = 0 by decide)]
      · rw [PX7_turn_eq, PX7_good_eq, un2_eq rfl, PX7_isWordNode_eq]
        simp only [lt_ap]
        rw [rn_0, if_neg (show ¬ (0 : Int32) = 1 by decide), if_neg (show ¬ (0 : Int32) = 1 by decide), no_eq, un2_eq rfl]
    · obtain ⟨hN0, hN, hr⟩ := hC.N
      obtain ⟨M, hM, hX⟩ := hx
      obtain rfl : N = M := (nI_eq (by omega) (by have := hX.1; omega)).mp hM
      obtain rfl : unit = scale := (ls_eq hC hX).symm.trans hs
      have no6 : ¬ (∃ k : Nat, k < N ∧ p0 = nI k ∧ kind k = 0) → PX6_turn (nI N) throne unit kind parts pn wt ws w lv lu p0 = (-1, 1, lv, lu) ∧ PX7_turn 1 r told st unit (-1) tr p0 = (-1, 0, 1, tr) := fun hno => by
        refine ⟨?_, ?_⟩
        · rw [PX6_turn_eq, PX6_lacksWord_eq, PX1_hasWord_eq]
          simp only [lt_ap]
          rw [hn_eq hN]
          by_cases hn : 0 ≤ p0.toInt ∧ p0.toInt < (N : Int)
          · obtain ⟨k, hk, rfl⟩ := nd_of hN hn
            rw [if_pos hn, if_pos rfl, nI_clamp (by omega), if_neg (fun q => hno ⟨k, hk, rfl, q⟩), if_neg (show ¬ (0 : Int32) = 1 by decide), un2_eq rfl, if_neg (show ¬ (1 : Int32) = 0 by decide)]
          · rw [if_neg hn, if_neg (show ¬ (0 : Int32) = 1 by decide), if_neg (show ¬ (0 : Int32) = 1 by decide), un2_eq rfl, if_neg (show ¬ (1 : Int32) = 0 by decide)]
        · rw [PX7_turn_eq, PX7_good_eq, un2_eq rfl, PX7_isWordNode_eq]
          simp only [lt_ap]
          rw [rn_eq hN0 hN hr]
          by_cases hn : 0 ≤ p0.toInt ∧ p0.toInt < (N : Int)
          · obtain ⟨k, hk, rfl⟩ := nd_of hN hn
            rw [if_pos hn, if_pos rfl, show (9 : Int32) + nI k = nI (9 + k) from nI_add 9 k, nI_clamp (show 9 + k < 2 ^ 31 by omega), ← (hC.k hk).1, if_neg (fun q => hno ⟨k, hk, rfl, q⟩), if_neg (show ¬ (0 : Int32) = 1 by decide), no_eq, un2_eq rfl]
          · rw [if_neg hn, if_neg (show ¬ (0 : Int32) = 1 by decide), if_neg (show ¬ (0 : Int32) = 1 by decide), no_eq, un2_eq rfl]
      by_cases hw : ∃ k : Nat, k < N ∧ p0 = nI k ∧ kind k = 0
      · obtain ⟨k, hk, rfl, h0⟩ := hw
        have hn : 0 ≤ (nI k).toInt ∧ (nI k).toInt < (N : Int) := by rw [nI_toInt (by omega)]; omega
        obtain ⟨R, -, a6, a7⟩ := lt_both hC hS hX hR hW hsc hk h0
        obtain ⟨V', S', e6⟩ := a6 lv lu
        obtain ⟨F', e7⟩ := a7 tr
        refine ⟨R, 0, 0, V', S', F', ?_, ?_⟩
        · rw [PX6_turn_eq, PX6_lacksWord_eq, PX1_hasWord_eq]
          simp only [lt_ap]
          rw [hn_eq hN, if_pos hn, if_pos rfl, nI_clamp (by omega), if_pos h0, if_pos rfl, un2_eq rfl, if_pos rfl, un3_eq e6]
        · rw [PX7_turn_eq, PX7_good_eq, un2_eq rfl, PX7_isWordNode_eq]
          simp only [lt_ap]
          rw [rn_eq hN0 hN hr, if_pos hn, if_pos rfl, show (9 : Int32) + nI k = nI (9 + k) from nI_add 9 k, nI_clamp (show 9 + k < 2 ^ 31 by omega), ← (hC.k hk).1, if_pos h0, if_pos rfl, un2_eq e7]
      · obtain ⟨x6, x7⟩ := no6 hw
        exact ⟨-1, 1, 0, lv, lu, tr, x6, x7⟩
  obtain ⟨q, f, t, a, b, c, g6, g7⟩ := key
  have x := g6.symm.trans e6
  have y := g7.symm.trans e7
  simp only [Prod.mk.injEq] at x y
  obtain ⟨rfl, rfl, -⟩ := x
  obtain ⟨rfl, -, rfl, -⟩ := y
  exact ⟨rfl, rfl⟩
theorem pivot_join (h : Rel nodes words unsures slips throne said kind parts pn wt tw uw uo w o ic iw0 io0 iw1 io1 iw2 io2 ac an ao as hc r told st und kept undos images) (hx : CIS nodes unit kind parts pn wt ws steps below above) (hs : PX7_layScale r = scale) (hM : ROk r ∧ RowOk r st ∧ RowOk r told ∧ WorOk st ∧ night.toInt = -1 ∧ 1 ≤ scale.toInt ∧ scale.toInt ≤ 1296) {lv lv' lu lu' tr tr' : Nat → Int32} {q6 q7 : Int32} {rf t1 t2 : Int32} (e6 : PX6_pivot nodes throne unit kind parts pn wt ws w lv lu = (q6, rf, lv', lu')) (e7 : PX7_pivot hc r told st scale night tr = (q7, t1, t2, tr')) : q6 = q7 ∧ rf = t2 := by
  obtain ⟨hR, hQ, hQt, hW, hnt, hsc⟩ := hM
  obtain rfl : night = -1 := (fz_eq _ _).mpr (hnt.trans (by decide))
  have key : ∃ (q f t : Int32) (a b c : Nat → Int32), PX6_pivot nodes throne unit kind parts pn wt ws w lv lu = (q, f, a, b) ∧ PX7_pivot hc r told st scale (-1) tr = (q, t, f, c) := by
    rcases h with ⟨rfl, h0⟩ | ⟨N, c, d, rfl, rfl, rfl, rfl, hc, rfl, rfl, hd, hC, hS, hU, hI⟩
    · obtain ⟨h2, h3, h4, h5, h6, h7, rfl, h8, h9⟩ := h0
      refine ⟨-1, 1, 0, lv, lu, tr, ?_, ?_⟩
      · rw [PX6_pivot_eq, lc_0, un2_eq rfl, if_neg (show ¬ (1 : Int32) = 0 by decide)]
      · rw [PX7_pivot_eq, PX7_good_eq, un2_eq rfl, if_pos rfl, no_eq, un2_eq rfl]
    · obtain ⟨hN0, hN, hr⟩ := hC.N
      obtain ⟨M, hM, hX⟩ := hx
      obtain rfl : N = M := (nI_eq (by omega) (by have := hX.1; omega)).mp hM
      obtain rfl : unit = scale := (ls_eq hC hX).symm.trans hs
      obtain ⟨R, V', S', F', e6, e7⟩ := pv_loop (x6 := 0) (t0 := 0) (t1 := 0) hC hS hX hR hW hsc N 0 (((2147483647 - (0 : Int32).toInt).toNat) + 1) (((2147483647 - (0 : Int32).toInt).toNat) + 1) 0 (-2) 100000000 (-2) lv lu tr rfl (by omega) (by rw [kc_0]; omega) (by rw [kc_0]; omega) (Or.inl ⟨rfl, rfl, rfl⟩)
      rw [nI_0] at e6 e7
      refine ⟨R, 0, 0, V', S', F', ?_, ?_⟩
      · rw [PX6_pivot_eq, lc_N hN0 hN, un2_eq rfl, if_pos rfl]
        exact e6
      · rw [PX7_pivot_eq, PX7_good_eq, un2_eq rfl, if_neg (show ¬ (1 : Int32) = 0 by decide)]
        exact e7
  obtain ⟨q, f, t, a, b, c, g6, g7⟩ := key
  have x := g6.symm.trans e6
  have y := g7.symm.trans e7
  simp only [Prod.mk.injEq] at x y
  obtain ⟨rfl, rfl, -⟩ := x
  obtain ⟨rfl, -, rfl, -⟩ := y
  exact ⟨rfl, rfl⟩
end FJ
end F12
