/-! what was refused, and where: on both sides 4 at once, and then the same place -/
section DW
def Wh (rf lp tr pl : Int32) : Prop := (rf = 4 ↔ tr = 4) ∧ (rf = 4 → lp = pl)
theorem ne4 {x : Int32} (h : x.toInt < 4 ∨ 4 < x.toInt) : ¬ x = 4 := fun e => by
  rw [e] at h
  exact absurd h (by decide)
theorem Wh.of {rf lp tr pl : Int32} (h6 : rf.toInt < 4 ∨ 4 < rf.toInt) (h7 : tr.toInt < 4 ∨ 4 < tr.toInt) : Wh rf lp tr pl := ⟨⟨fun e => absurd e (ne4 h6), fun e => absurd e (ne4 h7)⟩, fun e => absurd e (ne4 h6)⟩
theorem Wh.ct {rf lp tr pl : Int32} (h : rf = tr) (h4 : rf = 4 → lp = pl) : Wh rf lp tr pl := ⟨by rw [h], h4⟩
theorem where_join {rf lp tr pl r6 r7 th : Int32} (h : Wh rf lp tr pl) (e6 : PX6_where rf lp = r6) (e7 : PX7_where pl tr = (r7, th)) : r6 = r7 := by
  rw [PX6_where_eq] at e6
  rw [PX7_where_eq] at e7
  by_cases c : rf = 4
  · rw [if_pos c] at e6
    rw [if_pos (h.1.mp c)] at e7
    rw [← e6, h.2 c]
    exact congrArg Prod.fst e7
  · rw [if_neg c] at e6
    rw [if_neg (fun q => c (h.1.mpr q))] at e7
    rw [← e6]
    exact congrArg Prod.fst e7
end DW
