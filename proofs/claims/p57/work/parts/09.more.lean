theorem zb_nar {v : Int32} (h : 0 ≤ v.toInt ∧ v.toInt ≤ 1) : vp_nar .boolean v = v := by
  have hc : v = 0 ∨ v = 1 := by
    simp only [fz_eq, kc_0, kc_1]; omega
  rcases hc with rfl | rfl <;> rfl
theorem rel_upd {fo fs : Nat → Int32} {n k : Nat} {x s : Int32} (h : ∀ j : Nat, j < n → fs j = 0 → 0 ≤ (fo j).toInt ∧ (fo j).toInt ≤ 3) (hx : s = 0 → 0 ≤ x.toInt ∧ x.toInt ≤ 3) : ∀ j : Nat, j < n → upd fs k s j = 0 → 0 ≤ (upd fo k x j).toInt ∧ (upd fo k x j).toInt ≤ 3 := by
  intro j hj h0
  by_cases e : j = k
  · subst e; rw [pk_us] at h0 ⊢; exact hx h0
  · rw [pk_un e] at h0 ⊢; exact h j hj h0
theorem bz_ti {v : Int32} (h : v = 0 ∨ v = 1) : v.toInt = 0 ∨ v.toInt = 1 := by
  rcases h with rfl | rfl
  · exact Or.inl kc_0
  · exact Or.inr kc_1
/-- the reference's hasBit -/
def tb (x y : Int32) : Prop := (x >>> (y &&& 31)) &&& 1 = 1
