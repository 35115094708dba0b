/-! trouble: what both sides refuse -/
section G9
theorem trouble_join {rf tr r6 r7 th : Int32} (h : rf = tr) (e6 : PX6_trouble rf = r6) (e7 : PX7_trouble tr = (r7, th)) : r6 = r7 := by
  rw [PX6_trouble_eq] at e6
  rw [PX7_trouble_eq] at e7
  have x := congrArg Prod.fst e7
  exact (e6.symm.trans h).trans x
/-- whatever ask answers, both sides refuse the same -/
theorem ask_tr6 {nodes unsures throne said unit : Int32} {kind parts pn wt ws tw uw uo lv lu : Nat → Int32} {q rf : Int32} {a b : Nat → Int32} (e : PX6_ask nodes unsures throne said unit kind parts pn wt ws tw uw uo lv lu = (q, rf, a, b)) : rf = (PX6_lacksCourt nodes).2 := by
  rw [PX6_ask_eq] at e
  obtain ⟨x, y, hxy⟩ : ∃ x y : Int32, PX6_lacksCourt nodes = (x, y) := ⟨_, _, rfl⟩
  rw [un2_eq hxy] at e
  rw [hxy]
  by_cases c : x = 0
  · rw [if_pos c] at e
    obtain ⟨z, f, g, hz⟩ : ∃ (z : Int32) (f g : Nat → Int32), PX6_fittingSets nodes unsures throne said unit kind parts pn wt ws tw uw uo lv lu = (z, f, g) := ⟨_, _, _, rfl⟩
    rw [un3_eq hz] at e
    simp only [lt_ap] at e
    by_cases d : (0 : Int32) ≤ PX6_unsureToAsk unsures z
    · rw [if_pos d] at e
      simp only [Prod.mk.injEq] at e
      exact e.2.1.symm
    · rw [if_neg d] at e
      simp only [Prod.mk.injEq] at e
      exact e.2.1.symm
  · rw [if_neg c] at e
    simp only [Prod.mk.injEq] at e
    exact e.2.1.symm
section FJ
variable {nodes words unsures slips throne said : Int32} {kind parts pn wt tw uw uo w o : Nat → Int32} {ic : Int32} {iw0 io0 iw1 io1 iw2 io2 : Nat → Int32} {ac : Int32} {an ao as : Nat → Int32} {hc : Int32} {r told st und kept : Nat → Int32} {undos images : Int32} {unit : Int32} {ws steps below above : Nat → Int32} {scale night : Int32}
theorem ask_join (h : Rel nodes words unsures slips throne said kind parts pn wt tw uw uo w o ic iw0 io0 iw1 io1 iw2 io2 ac an ao as hc r told st und kept undos images) (_hx : CIS nodes unit kind parts pn wt ws steps below above) (_hs : PX7_layScale r = scale) (_hM : ROk r ∧ RowOk r st ∧ RowOk r told ∧ WorOk st ∧ night.toInt = -1 ∧ 1 ≤ scale.toInt ∧ scale.toInt ≤ 1296) (_hT : WorOk told) (_hu9 : ∀ j : Nat, j < 4 → 0 ≤ (r (118 + 2 * j)).toInt ∧ (r (118 + 2 * j)).toInt ≤ 99) {lv lv' lu lu' T T' O O' : Nat → Int32} {q6 q7 rf t1 t2 sm so al sm' so' al' : Int32} (e6 : PX6_ask nodes unsures throne said unit kind parts pn wt ws tw uw uo lv lu = (q6, rf, lv', lu')) (e7 : PX7_ask hc r told scale night T O sm so al = (q7, t1, t2, sm', so', al', T', O')) : True ∧ rf = t2 := by
  refine ⟨trivial, ?_⟩
  have e := ask_tr6 e6
  rw [PX7_ask_eq, PX7_good_eq, un2_eq rfl] at e7
  rcases h with ⟨rfl, h0⟩ | ⟨N, c, d, rfl, rfl, rfl, rfl, hc, rfl, rfl, hd, hC, hS, hU, hI⟩
  · obtain ⟨h2, h3, h4, h5, h6, h7, rfl, h8, h9⟩ := h0
    rw [if_pos rfl, no_eq, un2_eq rfl] at e7
    simp only [Prod.mk.injEq] at e7
    rw [e, lc_0, ← e7.2.2.1]
  · obtain ⟨hN0, hN, hr⟩ := hC.N
    obtain ⟨x, y1, y2, y3, f, g, hz⟩ : ∃ (x y1 y2 y3 : Int32) (f g : Nat → Int32), PX7_askedFirst r told scale night T O = (x, y1, y2, y3, f, g) := ⟨_, _, _, _, _, _, rfl⟩
    rw [if_neg (show ¬ (1 : Int32) = 0 by decide), un6_eq hz] at e7
    simp only [Prod.mk.injEq] at e7
    rw [e, lc_N hN0 hN, ← e7.2.2.1]
end FJ
end G9
