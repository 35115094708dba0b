section
/-! more numbers; copies of rows under bounds -/
theorem ti_div {x y z : Int32} {a b : Int} (h : z = x / y) (hx : x.toInt = a) (hy : y.toInt = b) (h0 : 0 ≤ a) (h1 : 0 < b) : 0 ≤ z.toInt ∧ z.toInt ≤ a := by
  have hr := fb_rng x
  subst hx; subst hy
  have e : (x / y).toInt = x.toInt / y.toInt := by
    rw [Int32.toInt_div, Int.tdiv_eq_ediv_of_nonneg h0]
    have q1 := Int.ediv_nonneg h0 (Int.le_of_lt h1)
    have q2 := Int.ediv_le_self y.toInt h0
    exact fb_bmod (by omega) (by omega)
  rw [h, e]
  exact ⟨Int.ediv_nonneg h0 (Int.le_of_lt h1), Int.ediv_le_self _ h0⟩
theorem ti_rem {x y z : Int32} {a b : Int} (h : z = x - x / y * y) (hx : x.toInt = a) (hy : y.toInt = b) (h0 : 0 ≤ a) (h1 : 0 < b) : 0 ≤ z.toInt ∧ z.toInt < b ∧ z.toInt ≤ a := by
  have hr := fb_rng x
  have hs := fb_rng y
  subst hx; subst hy
  have key : (x - x / y * y).toInt = x.toInt % y.toInt := by
    rw [Int32.toInt_sub, Int32.toInt_mul, Int32.toInt_div, Int.tdiv_eq_ediv_of_nonneg h0]
    have h2 := Int.emod_nonneg x.toInt (Int.ne_of_gt h1)
    have h3 := Int.emod_lt_of_pos x.toInt h1
    have h4 : x.toInt % y.toInt = x.toInt - y.toInt * (x.toInt / y.toInt) := Int.emod_def _ _
    rw [← fb_bmod (z := x.toInt % y.toInt) (by omega) (by omega), h4]
    simp only [Int.sub_bmod_bmod, Int.bmod_mul_bmod, Int.mul_comm]
    rw [← Int.sub_bmod_bmod, Int.mul_bmod_bmod, Int.sub_bmod_bmod]
  rw [h, key]
  refine ⟨Int.emod_nonneg _ (Int.ne_of_gt h1), Int.emod_lt_of_pos _ h1, ?_⟩
  have h4 := Int.emod_add_mul_ediv x.toInt y.toInt
  have q1 := Int.mul_nonneg (Int.le_of_lt h1) (Int.ediv_nonneg h0 (Int.le_of_lt h1))
  omega
theorem ti_max {x y z : Int32} {a b : Int} (h : z = if x < y then y else x) (hx : x.toInt = a) (hy : y.toInt = b) : a ≤ z.toInt ∧ b ≤ z.toInt ∧ (z.toInt = a ∨ z.toInt = b) := by
  subst hx; subst hy
  by_cases c : x < y
  · rw [if_pos c] at h; rw [fz_lt] at c; subst h; omega
  · rw [if_neg c] at h; rw [fz_lt] at c; subst h; omega
theorem ti_min {x y z : Int32} {a b : Int} (h : z = if y < x then y else x) (hx : x.toInt = a) (hy : y.toInt = b) : z.toInt ≤ a ∧ z.toInt ≤ b ∧ (z.toInt = a ∨ z.toInt = b) := by
  subst hx; subst hy
  by_cases c : y < x
  · rw [if_pos c] at h; rw [fz_lt] at c; subst h; omega
  · rw [if_neg c] at h; rw [fz_lt] at c; subst h; omega
theorem cpy_in {f g : Nat → Int32} {n sp : Nat} {lo hi : Int} (hf : ∀ j : Nat, j < n → lo ≤ (f j).toInt ∧ (f j).toInt ≤ hi) (hg : ∀ j : Nat, j < n → lo ≤ (g j).toInt ∧ (g j).toInt ≤ hi) : ∀ j : Nat, j < n → lo ≤ (va_cpy f g 0 0 n j).toInt ∧ (va_cpy f g 0 0 n j).toInt ≤ hi := by
  intro j hj
  unfold va_cpy
  rw [if_pos ⟨Nat.zero_le _, by omega⟩]
  simpa using hf j hj
theorem ti_shl {y z : Int32} {a : Int} (h : z = (1 : Int32) <<< (y &&& 31)) (hy : y.toInt = a) (h0 : 0 ≤ a) (h1 : a ≤ 4) : 1 ≤ z.toInt ∧ z.toInt ≤ 16 := by
  subst hy
  have hc : y = 0 ∨ y = 1 ∨ y = 2 ∨ y = 3 ∨ y = 4 := by
    simp only [fz_eq, kc_0, kc_1, kc_2, kc_3, kc_4]; omega
  rcases hc with rfl | rfl | rfl | rfl | rfl <;> subst h <;> decide
section VI8
variable {p : Program} {l : Launch} {e : Env} {R : Room} {s : State} {m : MethodId} {args : Array Value} {below : List Frame} {meth : Method} {c : Code} {H : Heap} {locs : List Loc} {cells slots : Nat} {Q : State → Prop}
variable {cc : ByteArray} {pc : Nat} {ls : Array Slot} {rest : List Value} {D : va_G} {cl : List vw_C} {A : Nat → Prop} {a : Nat} {tys : List (ClassId × FieldType)} {ws : va_W} {H0 : Heap}
/-- a whole row of ints copied onto another, of which nothing is known behind it -/
theorem vz_copyi (hexec : p.tables.exec = Jvm.exec) (hb : c.code = cc) (hml : c.maxLocals = ls.size) {own : String} {index : Nat} (hown : s.vm.findClass own = some m.cls) (hlink : (Cond.methodLink own index arraycopyName).before args s = true) (hnat : (Cond.native arraycopyName).before args s = true) (hstat : (Cond.static arraycopyName).before args s = true) (hini : (Cond.initialized "java/lang/System").before args s = true)
    (hK : va_K D cl tys s) (hP : va_P D cl ws H) (hD : va_D A ws) (hS : va_S A H0 H locs) (q0 q1 t0 t1 : Nat) {a0 : Nat} {c0 c1 : ClassId} {n : Nat} {f g : Nat → Int32} (ha0 : ws[q0]? = some (a0, .inl (c0, n, .inl f))) (ha1 : ws[q1]? = some (a, .inl (c1, n, .inl g))) (ht0 : tys[t0]? = some (c0, .int)) (ht1 : tys[t1]? = some (c1, .int))
    {k : Int32} (hk : k.toNatClampNeg = n) (hk0 : ¬ k < 0)
    (hframes : 1 ≤ R.frames) (hlocals : (rest.map fun v => v.category).sum + (nativeFrameWords "java/lang/System" "arraycopy" 5 + 11) ≤ R.locals) (hdg : decode cc pc = .ok (.invokestatic index, 3))
    (kk : ∀ (H1 : Heap) (locs1 : List Loc) (g1 : Nat → Int32), (∀ lo hi : Int, (∀ j : Nat, j < n → lo ≤ (f j).toInt ∧ (f j).toInt ≤ hi) → (∀ j : Nat, j < n → lo ≤ (g j).toInt ∧ (g j).toInt ≤ hi) → ∀ j : Nat, j < n → lo ≤ (g1 j).toInt ∧ (g1 j).toInt ≤ hi) → va_P D cl (ws.set q1 (a, .inl (c1, n, .inl g1))) H1 → va_D A (ws.set q1 (a, .inl (c1, n, .inl g1))) → va_S A H0 H1 locs1 → W p l e R s m args below meth c H1 locs1 cells slots Q (F0 m (pc + 3) ls rest)) : W p l e R s m args below meth c H locs cells slots Q (F0 m pc ls (.int k :: .int 0 :: .ref a :: .int 0 :: .ref a0 :: rest)) := by
  refine va_copyi hexec hb hml hown hlink hnat hstat hini hK hP hD hS q0 q1 t0 t1 (ty := .int) ha0 ha1 ht0 ht1 rfl (by decide) (by decide) hk0 (by rw [hk]; show 0 + n ≤ n; omega) (by rw [hk]; show 0 + n ≤ n; omega) (fun _ _ => rfl) hframes hlocals hdg (fun H1 locs1 h1 h2 h3 => kk H1 locs1 _ (fun lo hi hf hg => ?_) h1 h2 h3)
  rw [hk]
  exact cpy_in (sp := 0) hf hg
/-- a whole row of ints copied onto another, told exactly -/
theorem vz_copyE (hexec : p.tables.exec = Jvm.exec) (hb : c.code = cc) (hml : c.maxLocals = ls.size) {own : String} {index : Nat} (hown : s.vm.findClass own = some m.cls) (hlink : (Cond.methodLink own index arraycopyName).before args s = true) (hnat : (Cond.native arraycopyName).before args s = true) (hstat : (Cond.static arraycopyName).before args s = true) (hini : (Cond.initialized "java/lang/System").before args s = true)
    (hK : va_K D cl tys s) (hP : va_P D cl ws H) (hD : va_D A ws) (hS : va_S A H0 H locs) (q0 q1 t0 t1 : Nat) {a0 : Nat} {c0 c1 : ClassId} {n : Nat} {f g : Nat → Int32} (ha0 : ws[q0]? = some (a0, .inl (c0, n, .inl f))) (ha1 : ws[q1]? = some (a, .inl (c1, n, .inl g))) (ht0 : tys[t0]? = some (c0, .int)) (ht1 : tys[t1]? = some (c1, .int))
    {k : Int32} (hk : k.toNatClampNeg = n) (hk0 : ¬ k < 0)
    (hframes : 1 ≤ R.frames) (hlocals : (rest.map fun v => v.category).sum + (nativeFrameWords "java/lang/System" "arraycopy" 5 + 11) ≤ R.locals) (hdg : decode cc pc = .ok (.invokestatic index, 3))
    (kk : ∀ (H1 : Heap) (locs1 : List Loc) (g1 : Nat → Int32), g1 = va_cpy f g 0 0 n → (∀ lo hi : Int, (∀ j : Nat, j < n → lo ≤ (f j).toInt ∧ (f j).toInt ≤ hi) → (∀ j : Nat, j < n → lo ≤ (g j).toInt ∧ (g j).toInt ≤ hi) → ∀ j : Nat, j < n → lo ≤ (g1 j).toInt ∧ (g1 j).toInt ≤ hi) → va_P D cl (ws.set q1 (a, .inl (c1, n, .inl g1))) H1 → va_D A (ws.set q1 (a, .inl (c1, n, .inl g1))) → va_S A H0 H1 locs1 → W p l e R s m args below meth c H1 locs1 cells slots Q (F0 m (pc + 3) ls rest)) : W p l e R s m args below meth c H locs cells slots Q (F0 m pc ls (.int k :: .int 0 :: .ref a :: .int 0 :: .ref a0 :: rest)) := by
  refine va_copyi hexec hb hml hown hlink hnat hstat hini hK hP hD hS q0 q1 t0 t1 (ty := .int) ha0 ha1 ht0 ht1 rfl (by decide) (by decide) hk0 (by rw [hk]; show 0 + n ≤ n; omega) (by rw [hk]; show 0 + n ≤ n; omega) (fun _ _ => rfl) hframes hlocals hdg (fun H1 locs1 h1 h2 h3 => kk H1 locs1 _ (by rw [hk]; rfl) (fun lo hi hf hg => ?_) h1 h2 h3)
  rw [hk]
  exact cpy_in (sp := 0) hf hg
end VI8
end
section
theorem zb_nar {v : Int32} (h : 0 ≤ v.toInt ∧ v.toInt ≤ 1) : vp_nar .boolean v = v := by
  have hc : v = 0 ∨ v = 1 := by
    simp only [fz_eq, kc_0, kc_1]; omega
  rcases hc with rfl | rfl <;> rfl
theorem rel_upd {fo fs : Nat → Int32} {n k : Nat} {x s : Int32} (h : ∀ j : Nat, j < n → fs j = 0 → 0 ≤ (fo j).toInt ∧ (fo j).toInt ≤ 3) (hx : s = 0 → 0 ≤ x.toInt ∧ x.toInt ≤ 3) : ∀ j : Nat, j < n → upd fs k s j = 0 → 0 ≤ (upd fo k x j).toInt ∧ (upd fo k x j).toInt ≤ 3 := by
  intro j hj h0
  by_cases e : j = k
  · subst e; rw [pk_us] at h0 ⊢; exact hx h0
  · rw [pk_un e] at h0 ⊢; exact h j hj h0
theorem bz_ti {v : Int32} (h : v = 0 ∨ v = 1) : v.toInt = 0 ∨ v.toInt = 1 := by
  rcases h with rfl | rfl
  · exact Or.inl kc_0
  · exact Or.inr kc_1
/-- the reference's hasBit -/
def tb (x y : Int32) : Prop := (x >>> (y &&& 31)) &&& 1 = 1
end
