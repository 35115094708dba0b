/-! worth of a node: on both sides -/
section F5
section FJ
variable {nodes words unsures slips throne said : Int32} {kind parts pn wt tw uw uo w o : Nat → Int32} {ic : Int32} {iw0 io0 iw1 io1 iw2 io2 : Nat → Int32} {ac : Int32} {an ao as : Nat → Int32} {hc : Int32} {r told st und kept : Nat → Int32} {undos images : Int32} {unit : Int32} {ws steps below above : Nat → Int32} {scale night : Int32}
/-- the words' worths are bounded -/
theorem w_in {N : Nat} (hC : CR N words unsures slips throne said kind parts pn wt tw uw uo r told) (hS : StR N parts pn w o st) (hW : WorOk st) : ∀ k : Nat, k < N → kind k = 0 → 0 ≤ (w k).toInt ∧ (w k).toInt ≤ 99 := fun k hk _ => by
  have hN := hC.N.2.1
  rw [(hS k hk).1]
  exact hW (72 + k) (by omega) (by omega)
theorem lN_no : (-1 : Int32).toInt64 = -1 := by decide
theorem worth_join (h : Rel nodes words unsures slips throne said kind parts pn wt tw uw uo w o ic iw0 io0 iw1 io1 iw2 io2 ac an ao as hc r told st und kept undos images) (hx : CIS nodes unit kind parts pn wt ws steps below above) (hs : PX7_layScale r = scale) (hM : ROk r ∧ RowOk r st ∧ RowOk r told ∧ WorOk st ∧ night.toInt = -1 ∧ 1 ≤ scale.toInt ∧ scale.toInt ≤ 1296) {lv lv' : Nat → Int32} {p0 p1 : Int32} {q6 q7 : Int64} {rf t1 t2 : Int32} (e6 : PX6_worth nodes throne unit kind parts pn wt ws w lv p0 p1 = (q6, rf, lv')) (e7 : PX7_worth hc r told st scale night p0 p1 = (q7, t1, t2)) : q6 = q7 ∧ rf = t2 := by
  obtain ⟨hR, hQ, hQt, hW, hnt, hsc⟩ := hM
  obtain rfl : night = -1 := (fz_eq _ _).mpr (hnt.trans (by decide))
  have key : ∃ (q : Int64) (f t : Int32) (v : Nat → Int32), PX6_worth nodes throne unit kind parts pn wt ws w lv p0 p1 = (q, f, v) ∧ PX7_worth hc r told st scale (-1) p0 p1 = (q, t, f) := by
    rcases h with ⟨rfl, h0⟩ | ⟨N, c, d, rfl, rfl, rfl, rfl, hc, rfl, rfl, hd, hC, hS, hU, hI⟩
    · obtain ⟨h2, h3, h4, h5, h6, h7, rfl, h8, h9⟩ := h0
      refine ⟨-1, 1, 0, lv, ?_, ?_⟩
      · rw [PX6_worth_eq, PX6_lacksNode_eq]
        simp only [lt_ap]
        rw [hn_0, if_neg (show ¬ (0 : Int32) = 1 by decide), un2_eq rfl, if_neg (show ¬ (1 : Int32) = 0 by decide)]
      · rw [PX7_worth_eq, PX7_good_eq, un2_eq rfl]
        simp only [lt_ap]
        rw [rn_0, if_neg (show ¬ (0 : Int32) = 1 by decide), no_eq, un2_eq rfl, lN_no]
    · obtain ⟨hN0, hN, hr⟩ := hC.N
      obtain ⟨M, hM, hX⟩ := hx
      obtain rfl : N = M := (nI_eq (by omega) (by have := hX.1; omega)).mp hM
      obtain rfl : unit = scale := (ls_eq hC hX).symm.trans hs
      by_cases hn : 0 ≤ p0.toInt ∧ p0.toInt < (N : Int)
      · obtain ⟨k, hk, rfl⟩ := nd_of hN hn
        obtain ⟨G', e, hG⟩ := weigh_eq hC hS hX hR (w_in hC hS hW) hsc lv
        have hv := hG k hk
        have hb := wa_in hC hS hX hR (w_in hC hS hW) hsc k 18 0 (by omega) hk (nt := -1)
        have hb : 0 ≤ (PX7_worthOf r told unit (-1) st (nI k)).toInt := by
          rw [PX7_worthOf_eq, lt_ap]
          exact hb.1
        refine ⟨PX7_lowest (PX7_worthOf r told unit (-1) st (nI k)).toInt64 unit.toInt64 p1, 0, 0, G', ?_, ?_⟩
        · rw [PX6_worth_eq, PX6_lacksNode_eq]
          simp only [lt_ap]
          rw [hn_eq hN, if_pos hn, if_pos rfl, un2_eq rfl, if_pos rfl, un2_eq e, nI_clamp (by omega), hv, lowest_eq (by rw [Int32.toInt_toInt64]; exact hb) (by rw [Int32.toInt_toInt64]; exact hsc.1)]
        · rw [PX7_worth_eq, PX7_good_eq, un2_eq rfl]
          simp only [lt_ap]
          rw [rn_eq hN0 hN hr, if_pos hn, if_pos rfl]
      · refine ⟨-1, 1, 0, lv, ?_, ?_⟩
        · rw [PX6_worth_eq, PX6_lacksNode_eq]
          simp only [lt_ap]
          rw [hn_eq hN, if_neg hn, if_neg (show ¬ (0 : Int32) = 1 by decide), un2_eq rfl, if_neg (show ¬ (1 : Int32) = 0 by decide)]
        · rw [PX7_worth_eq, PX7_good_eq, un2_eq rfl]
          simp only [lt_ap]
          rw [rn_eq hN0 hN hr, if_neg hn, if_neg (show ¬ (0 : Int32) = 1 by decide), no_eq, un2_eq rfl, lN_no]
  obtain ⟨q, f, t, v, g6, g7⟩ := key
  have x := g6.symm.trans e6
  have y := g7.symm.trans e7
  simp only [Prod.mk.injEq] at x y
  obtain ⟨rfl, rfl, -⟩ := x
  obtain ⟨rfl, -, rfl⟩ := y
  exact ⟨rfl, rfl⟩
end FJ
end F5
