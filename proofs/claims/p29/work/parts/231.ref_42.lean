/-! slips: the weights of all sets -/
theorem slip_step {w b y : Int64} {k : Nat} (e : y = w * b) (hw0 : 0 ≤ w.toInt) (hw : w.toInt ≤ 100 ^ k) (hb0 : 0 ≤ b.toInt) (hb : b.toInt ≤ 100) (hk : k ≤ 3) : 0 ≤ y.toInt ∧ y.toInt ≤ 100 ^ (k + 1) ∧ (1 ≤ w.toInt → 1 ≤ b.toInt → 1 ≤ y.toInt) := by
  have h1 : 0 ≤ w.toInt * b.toInt := Int.mul_nonneg hw0 hb0
  have h2 : w.toInt * b.toInt ≤ 100 ^ k * 100 := Int.mul_le_mul hw hb hb0 (Int.le_trans hw0 hw)
  have h3 : (100 : Int) ^ k ≤ 1000000 := by
    rcases (show k = 0 ∨ k = 1 ∨ k = 2 ∨ k = 3 by omega) with rfl | rfl | rfl | rfl <;> decide
  have h4 : (100 : Int) ^ (k + 1) = 100 ^ k * 100 := Int.pow_succ _ _
  have e2 : y.toInt = w.toInt * b.toInt := by rw [e]; exact fb_mulL (by omega) (by omega)
  rw [e2, h4]
  exact ⟨h1, h2, fun a1 a2 => by
    have := Int.mul_le_mul a1 a2 (by decide) hw0
    omega⟩
theorem p100i {k : Nat} (h : k ≤ 4) : (100 : Int) ^ k ≤ 100000000 := by
  rcases (show k = 0 ∨ k = 1 ∨ k = 2 ∨ k = 3 ∨ k = 4 by omega) with rfl | rfl | rfl | rfl | rfl <;> decide
theorem shl_val {x u : Int32} (e : x = (1 : Int32) <<< (u &&& 31)) (h0 : 0 ≤ u.toInt) (h1 : u.toInt ≤ 4) : x.toInt = 2 ^ u.toInt.toNat := by
  subst e
  have : u = 0 ∨ u = 1 ∨ u = 2 ∨ u = 3 ∨ u = 4 := by simp only [fz_eq, kc_0, kc_1, kc_2, kc_3, kc_4]; omega
  rcases this with rfl | rfl | rfl | rfl | rfl <;> decide
theorem two_in {n : Nat} (h : n ≤ 4) : (1 : Int) ≤ 2 ^ n ∧ (2 : Int) ^ n ≤ 16 := by
  rcases (show n = 0 ∨ n = 1 ∨ n = 2 ∨ n = 3 ∨ n = 4 by omega) with rfl | rfl | rfl | rfl | rfl <;> decide
theorem bit_nz {u : Int32} {p : Nat} (h : bitN u p) : u.toInt ≠ 0 := by
  intro e
  unfold bitN at h
  rw [show u.toNatClampNeg = 0 from by show u.toInt.toNat = 0; rw [e]; rfl, Nat.zero_testBit] at h
  exact absurd h (by decide)
theorem cl_of {u : Int32} {n : Nat} (h : u.toInt = (n : Int)) : u.toNatClampNeg = n := by
  show u.toInt.toNat = n
  omega
theorem bit_last {u : Int32} {p U : Nat} (hu : u.toInt + 1 = 2 ^ U) (hp : p < U) (hU : U ≤ 4) : bitN u p := by
  unfold bitN
  have e1 : (2 : Int) ^ 1 = 2 := by decide
  have e2 : (2 : Int) ^ 2 = 4 := by decide
  have e3 : (2 : Int) ^ 3 = 8 := by decide
  have e4 : (2 : Int) ^ 4 = 16 := by decide
  rcases (show U = 0 ∨ U = 1 ∨ U = 2 ∨ U = 3 ∨ U = 4 by omega) with rfl | rfl | rfl | rfl | rfl
  · omega
  · rw [e1] at hu
    rw [cl_of (n := 1) (by omega)]
    rcases (show p = 0 by omega) with rfl; decide
  · rw [e2] at hu
    rw [cl_of (n := 3) (by omega)]
    rcases (show p = 0 ∨ p = 1 by omega) with rfl | rfl <;> decide
  · rw [e3] at hu
    rw [cl_of (n := 7) (by omega)]
    rcases (show p = 0 ∨ p = 1 ∨ p = 2 by omega) with rfl | rfl | rfl <;> decide
  · rw [e4] at hu
    rw [cl_of (n := 15) (by omega)]
    rcases (show p = 0 ∨ p = 1 ∨ p = 2 ∨ p = 3 by omega) with rfl | rfl | rfl | rfl <;> decide
theorem i2l_v {y : Int64} {x : Int32} (e : y = x.toInt64) : y.toInt = x.toInt := by rw [e]; exact Int32.toInt_toInt64 x
theorem addL_v {x y z : Int64} (e : z = x + y) (h1 : -9223372036854775808 ≤ x.toInt + y.toInt) (h2 : x.toInt + y.toInt < 9223372036854775808) : z.toInt = x.toInt + y.toInt := by rw [e]; exact fb_addL h1 h2
theorem mulL_nz {x y z : Int64} (e : z = x * y) (hx : 1 ≤ x.toInt) (hx2 : x.toInt ≤ 1600000000) (hy : 1 ≤ y.toInt) (hy2 : y.toInt ≤ 1296) : ¬ z = 0 := by
  have h1 := Int.mul_le_mul hx hy (by decide) (by omega)
  have h2 := Int.mul_le_mul hx2 hy2 (by omega) (by decide)
  have e2 : z.toInt = x.toInt * y.toInt := by rw [e]; exact fb_mulL (by omega) (by omega)
  intro h
  have h0 : (0 : Int64).toInt = 0 := by decide
  rw [h, h0] at e2
  omega
theorem l_nz {x : Int64} (h : 1 ≤ x.toInt) : ¬ x = 0 := by
  intro e
  have h0 : (0 : Int64).toInt = 0 := by decide
  rw [e, h0] at h
  omega
