/-! worlds side by side: the cells of both objects and the law's own row -/
section SIDE
variable {D : va_G} {cl : List vw_C} {A : Nat → Prop} {H H1 : Heap} {u v w a b x w1 wc wr : va_W} {s : State}
theorem gl_l {k : Nat} {q : Nat × va_E} (h : u[k]? = some q) : (u ++ v)[k]? = some q := by
  rw [List.getElem?_append_left (List.getElem?_eq_some_iff.mp h).1]; exact h
theorem gl_r {k : Nat} {q : Nat × va_E} (h : v[k]? = some q) : (u ++ v)[u.length + k]? = some q := by
  rw [List.getElem?_append_right (by omega), Nat.add_sub_cancel_left]; exact h
theorem pA_l (h : va_P D cl (u ++ v) H) : va_P D cl u H := fun k q hq => h k q (gl_l hq)
theorem pA_r (h : va_P D cl (u ++ v) H) : va_P D cl v H := fun k q hq => h (u.length + k) q (gl_r hq)
theorem dA_l (h : va_D A (u ++ v)) : va_D A u := ⟨fun i j p q hi hj e => h.1 i j p q (gl_l hi) (gl_l hj) e, fun k q hq => h.2 k q (gl_l hq)⟩
theorem dA_r (h : va_D A (u ++ v)) : va_D A v := ⟨fun i j p q hi hj e => by have := h.1 (u.length + i) (u.length + j) p q (gl_r hi) (gl_r hj) e; omega, fun k q hq => h.2 (u.length + k) q (gl_r hq)⟩
theorem dA_x (h : va_D A (u ++ v)) : ∀ (i j : Nat) (p q : Nat × va_E), u[i]? = some p → v[j]? = some q → p.1 ≠ q.1 := by
  intro i j p q hi hj e
  have h1 := h.1 i (u.length + j) p q (gl_l hi) (gl_r hj) e
  have h2 := (List.getElem?_eq_some_iff.mp hi).1
  omega
theorem dA_two {i : Nat} {p : Nat × va_E} (h : (u ++ v)[i]? = some p) : (∃ k : Nat, u[k]? = some p) ∨ ∃ k : Nat, v[k]? = some p := by
  rcases List.mem_append.mp (List.mem_of_getElem? h) with h | h
  · exact Or.inl (List.getElem?_of_mem h)
  · exact Or.inr (List.getElem?_of_mem h)
theorem pA_rot (h : va_P D cl ((x ++ b) ++ a) H) : va_P D cl ((x ++ a) ++ b) H := va_P.app (va_P.app (pA_l (pA_l h)) (pA_r h)) (pA_r (pA_l h))
theorem dA_rot (h : va_D A ((x ++ b) ++ a)) : va_D A ((x ++ a) ++ b) := by
  have hxa : ∀ (i j : Nat) (p q : Nat × va_E), x[i]? = some p → a[j]? = some q → p.1 ≠ q.1 := fun i j p q hi hj => dA_x h i j p q (gl_l hi) hj
  have hba : ∀ (i j : Nat) (p q : Nat × va_E), b[i]? = some p → a[j]? = some q → p.1 ≠ q.1 := fun i j p q hi hj => dA_x h (x.length + i) j p q (gl_r hi) hj
  have hxb := dA_x (dA_l h)
  refine va_D.app (va_D.app (dA_l (dA_l h)) (dA_r h) hxa) (dA_r (dA_l h)) (fun i j p q hi hj => ?_)
  rcases dA_two (i := i) hi with ⟨k, hk⟩ | ⟨k, hk⟩
  · exact hxb k j p q hk hj
  · exact fun e => hba j k q p hj hk e.symm
theorem kA_l {t1 t2 : List (ClassId × FieldType)} (h : va_K D cl (t1 ++ t2) s) : va_K D cl t1 s :=
  ⟨h.1, fun k q hq => h.2 k q (by rw [List.getElem?_append_left (List.getElem?_eq_some_iff.mp hq).1]; exact hq)⟩
theorem kA_r {t1 t2 : List (ClassId × FieldType)} (h : va_K D cl (t1 ++ t2) s) : va_K D cl t2 s :=
  ⟨h.1, fun k q hq => h.2 (t1.length + k) q (by rw [List.getElem?_append_right (by omega), Nat.add_sub_cancel_left]; exact hq)⟩
theorem kA_rot {t0 t1 t2 : List (ClassId × FieldType)} (h : va_K D cl ((t0 ++ t2) ++ t1) s) : va_K D cl ((t0 ++ t1) ++ t2) s := va_K.app (va_K.app (kA_l (kA_l h)) (kA_r h)) (kA_r (kA_l h))
theorem freeA {H0 : Heap} {locs : List Loc} (hD : va_D A wc) (hS : va_S A H0 H locs) (hA : ∀ q, H0.size ≤ q → A q) : ∀ q, va_A wc H.size q → A q := by
  intro q h
  rcases h with ⟨k, e, h⟩ | h
  · exact hD.2 k (q, e) h
  · exact hA q (Nat.le_trans hS.1 h)
theorem apartA (hP : va_P D cl (wr ++ wc) H) (hD : va_D A (wr ++ wc)) : ∀ (k : Nat) (q : Nat × va_E), wr[k]? = some q → q.1 < H.size ∧ ¬ va_A wc H.size q.1 := by
  intro k q hq
  have hl := (pA_l hP k q hq).lt
  refine ⟨hl, fun h => ?_⟩
  rcases h with ⟨j, e, h⟩ | h
  · exact dA_x hD k j q (q.1, e) hq h rfl
  · omega
theorem joinA (hP : va_P D cl (wr ++ wc) H) (hD : va_D A (wr ++ wc)) (hk : ∀ q : Nat, q < H.size → ¬ va_A wc H.size q → H1[q]? = H[q]?) (hF : ∀ q, va_A wc H.size q → A q) (hP1 : va_P D cl w1 H1) (hD1 : va_D (va_A wc H.size) w1) : va_P D cl (wr ++ w1) H1 ∧ va_D A (wr ++ w1) := by
  refine ⟨va_P.app (fun k q hq => ?_) hP1, va_D.app (dA_l hD) (hD1.weaken (fun k q _ h => hF q.1 h)) (fun i j p q hi hj e => ?_)⟩
  · obtain ⟨g1, g2⟩ := apartA hP hD k q hq
    exact (pA_l hP k q hq).kept (hk q.1 g1 g2)
  · exact (apartA hP hD i p hi).2 (by rw [e]; exact hD1.2 j q hj)
theorem keptA (hP : va_P D cl u H) (h : ∀ q : Nat, q < H.size → H1[q]? = H[q]?) : va_P D cl u H1 := fun k q hq => (hP k q hq).kept (h q.1 (hP k q hq).lt)
end SIDE
