section
/-! the reference: what its rows keep -/
def cntP (P : Nat → Prop) [DecidablePred P] : Nat → Nat
  | 0 => 0
  | n + 1 => cntP P n + if P n then 1 else 0
def ROk (f : Nat → Int32)  : Prop :=
  (0 ≤ (f 0).toInt ∧ (f 0).toInt ≤ 100) ∧
  (0 ≤ (f 1).toInt ∧ (f 1).toInt ≤ 18) ∧
  (0 ≤ (f 3).toInt ∧ (f 3).toInt ≤ 4) ∧
  (∀ j : Nat, 9 ≤ j → j < 27 → 0 ≤ (f j).toInt ∧ (f j).toInt ≤ 3) ∧
  (∀ j : Nat, 27 ≤ j → j < 45 → 0 ≤ (f j).toInt ∧ (f j).toInt ≤ 4) ∧
  (∀ j : Nat, 45 ≤ j → j < 117 → 0 ≤ (f j).toInt ∧ (f j).toInt ≤ 9) ∧
  (∀ j : Nat, j < 4 → (0 ≤ (f (117 + 2 * j)).toInt ∧ (f (117 + 2 * j)).toInt ≤ 17) ∧ 0 ≤ (f (118 + 2 * j)).toInt ∧ (f (118 + 2 * j)).toInt ≤ 99) ∧
  (∀ k : Nat, (k : Int) < (f 1).toInt → (f (9 + k)).toInt ≠ 0 → 1 ≤ (f (27 + k)).toInt) ∧
  (∀ k i : Nat, (k : Int) < (f 1).toInt → (f (9 + k)).toInt = 3 → (i : Int) < (f (27 + k)).toInt → 1 ≤ (f (45 + 4 * k + i)).toInt) ∧
  (∀ n : Nat, (n : Int) ≤ (f 1).toInt → cntP (fun k => (f (9 + k)).toInt = 0) n ≤ 10) ∧
  (∀ n : Nat, (n : Int) ≤ (f 1).toInt → cntP (fun k => (f (9 + k)).toInt ≠ 0) n ≤ 8) ∧
  (∀ n : Nat, (n : Int) ≤ (f 1).toInt → cntP (fun k => (f (9 + k)).toInt = 3) n ≤ 2)
theorem ROk.slips {f : Nat → Int32}  (h : ROk f) : 0 ≤ (f 0).toInt ∧ (f 0).toInt ≤ 100 := h.1
theorem ROk.nodes {f : Nat → Int32}  (h : ROk f) : 0 ≤ (f 1).toInt ∧ (f 1).toInt ≤ 18 := h.2.1
theorem ROk.uns {f : Nat → Int32}  (h : ROk f) : 0 ≤ (f 3).toInt ∧ (f 3).toInt ≤ 4 := h.2.2.1
theorem ROk.kind {f : Nat → Int32}  (h : ROk f) : ∀ j : Nat, 9 ≤ j → j < 27 → 0 ≤ (f j).toInt ∧ (f j).toInt ≤ 3 := h.2.2.2.1
theorem ROk.many {f : Nat → Int32}  (h : ROk f) : ∀ j : Nat, 27 ≤ j → j < 45 → 0 ≤ (f j).toInt ∧ (f j).toInt ≤ 4 := h.2.2.2.2.1
theorem ROk.wts {f : Nat → Int32}  (h : ROk f) : ∀ j : Nat, 45 ≤ j → j < 117 → 0 ≤ (f j).toInt ∧ (f j).toInt ≤ 9 := h.2.2.2.2.2.1
theorem ROk.dnode {f : Nat → Int32}  (h : ROk f) : ∀ j : Nat, j < 4 → 0 ≤ (f (117 + 2 * j)).toInt ∧ (f (117 + 2 * j)).toInt ≤ 17 := fun j hj => (h.2.2.2.2.2.2.1 j hj).1
theorem ROk.dn2 {f : Nat → Int32}  (h : ROk f) : ∀ j : Nat, j < 4 → (0 ≤ (f (117 + 2 * j)).toInt ∧ (f (117 + 2 * j)).toInt ≤ 17) ∧ 0 ≤ (f (118 + 2 * j)).toInt ∧ (f (118 + 2 * j)).toInt ≤ 99 := h.2.2.2.2.2.2.1
theorem ROk.inner {f : Nat → Int32}  (h : ROk f) : ∀ k : Nat, (k : Int) < (f 1).toInt → (f (9 + k)).toInt ≠ 0 → 1 ≤ (f (27 + k)).toInt := h.2.2.2.2.2.2.2.1
theorem ROk.chance {f : Nat → Int32}  (h : ROk f) : ∀ k i : Nat, (k : Int) < (f 1).toInt → (f (9 + k)).toInt = 3 → (i : Int) < (f (27 + k)).toInt → 1 ≤ (f (45 + 4 * k + i)).toInt := h.2.2.2.2.2.2.2.2.1
theorem ROk.cw {f : Nat → Int32}  (h : ROk f) : ∀ n : Nat, (n : Int) ≤ (f 1).toInt → cntP (fun k => (f (9 + k)).toInt = 0) n ≤ 10 := h.2.2.2.2.2.2.2.2.2.1
theorem ROk.ci {f : Nat → Int32}  (h : ROk f) : ∀ n : Nat, (n : Int) ≤ (f 1).toInt → cntP (fun k => (f (9 + k)).toInt ≠ 0) n ≤ 8 := h.2.2.2.2.2.2.2.2.2.2.1
theorem ROk.cc {f : Nat → Int32}  (h : ROk f) : ∀ n : Nat, (n : Int) ≤ (f 1).toInt → cntP (fun k => (f (9 + k)).toInt = 3) n ≤ 2 := h.2.2.2.2.2.2.2.2.2.2.2
def RowOk (fr f : Nat → Int32)  : Prop :=
  (∀ k i : Nat, (k : Int) < (fr 1).toInt → (i : Int) < (fr (27 + k)).toInt → 0 ≤ (f (4 * k + i)).toInt ∧ (f (4 * k + i)).toInt < k) ∧
  (∀ k i j : Nat, (k : Int) < (fr 1).toInt → i < j → (j : Int) < (fr (27 + k)).toInt → f (4 * k + i) ≠ f (4 * k + j))
theorem RowOk.lt {fr f : Nat → Int32}  (h : RowOk fr f) : ∀ k i : Nat, (k : Int) < (fr 1).toInt → (i : Int) < (fr (27 + k)).toInt → 0 ≤ (f (4 * k + i)).toInt ∧ (f (4 * k + i)).toInt < k := h.1
theorem RowOk.ne {fr f : Nat → Int32}  (h : RowOk fr f) : ∀ k i j : Nat, (k : Int) < (fr 1).toInt → i < j → (j : Int) < (fr (27 + k)).toInt → f (4 * k + i) ≠ f (4 * k + j) := h.2
def sumN (g : Nat → Nat) : Nat → Nat
  | 0 => 0
  | n + 1 => sumN g n + g n
theorem sumN_gap {g : Nat → Nat} (hg : ∀ j, 1 ≤ g j) (i : Nat) : ∀ d : Nat, sumN g i + d ≤ sumN g (i + d)
  | 0 => Nat.le_refl _
  | d + 1 => by
    have h := sumN_gap hg i d
    have h2 := hg (i + d)
    show sumN g i + (d + 1) ≤ sumN g (i + d) + g (i + d)
    omega
def wT (c : Nat) : Nat := if c = 0 then 4 else if c = 1 then 7 else if c = 2 then 13 else if c = 3 then 25 else if c = 4 then 49 else if c = 5 then 94 else if c = 6 then 181 else 349
theorem wT_in (c : Nat) : 1 ≤ wT c ∧ wT c ≤ 349 := by unfold wT; (repeat' split) <;> omega
def rkI (f : Nat → Int32) (k : Nat) : Nat := cntP (fun j => (f (9 + j)).toInt ≠ 0) k
def wgt (f : Nat → Int32) (k : Nat) : Nat := if (f (9 + k)).toInt = 0 then 1 else wT (rkI f k)
theorem wgt_in (f : Nat → Int32) (k : Nat) : 1 ≤ wgt f k ∧ wgt f k ≤ 349 := by
  unfold wgt
  split
  · omega
  · exact wT_in _
theorem cntP_mono {P : Nat → Prop} [DecidablePred P] (a : Nat) : ∀ d : Nat, cntP P a ≤ cntP P (a + d)
  | 0 => Nat.le_refl _
  | d + 1 => by
    have h := cntP_mono (P := P) a d
    show cntP P a ≤ cntP P (a + d) + (if P (a + d) then 1 else 0)
    omega
theorem cntP_lt {P : Nat → Prop} [DecidablePred P] {a b : Nat} (h : a < b) (ha : P a) : cntP P a + 1 ≤ cntP P b := by
  have h1 := cntP_mono (P := P) (a + 1) (b - (a + 1))
  rw [show a + 1 + (b - (a + 1)) = b from by omega] at h1
  have h2 : cntP P (a + 1) = cntP P a + 1 := by show cntP P a + (if P a then 1 else 0) = _; rw [if_pos ha]
  omega
def wV (c : Nat) : Nat := if c = 8 then 1 else wT c
def wchk (r a b c d : Nat) : Bool := !((a == 8 || Nat.blt a r) && (b == 8 || Nat.blt b r) && (c == 8 || Nat.blt c r) && (d == 8 || Nat.blt d r) && (a != b || a == 8) && (a != c || a == 8) && (a != d || a == 8) && (b != c || b == 8) && (b != d || b == 8) && (c != d || c == 8)) || Nat.ble (wV a + wV b + wV c + wV d) (wT r)
theorem w4 : (List.range 8).all (fun r => (List.range 9).all (fun a => (List.range 9).all (fun b => (List.range 9).all (fun c => (List.range 9).all (fun d => wchk r a b c d))))) = true := by decide +kernel
theorem w4' {r a b c d : Nat} (hr : r < 8) (ha : a = 8 ∨ a < r) (hb : b = 8 ∨ b < r) (hc : c = 8 ∨ c < r) (hd : d = 8 ∨ d < r) (ab : a = b → a = 8) (ac : a = c → a = 8) (ad : a = d → a = 8) (bc : b = c → b = 8) (bd : b = d → b = 8) (cd : c = d → c = 8) : wV a + wV b + wV c + wV d ≤ wT r := by
  have h := w4
  simp only [List.all_eq_true, List.mem_range] at h
  have h := h r (by omega) a (by omega) b (by omega) c (by omega) d (by omega)
  unfold wchk at h
  rw [Bool.or_eq_true] at h
  rcases h with h | h
  · exfalso
    rw [Bool.not_eq_true', ← Bool.not_eq_true] at h
    apply h
    simp only [Bool.and_eq_true, Bool.or_eq_true, beq_iff_eq, bne_iff_ne, Nat.blt_eq]
    refine ⟨⟨⟨⟨⟨⟨⟨⟨⟨ha, hb⟩, hc⟩, hd⟩, ?_⟩, ?_⟩, ?_⟩, ?_⟩, ?_⟩, ?_⟩ <;> omega
  · exact Nat.le_of_ble_eq_true h
def cdI (f : Nat → Int32) (k : Nat) : Nat := if (f (9 + k)).toInt = 0 then 8 else rkI f k
theorem cd_in {f : Nat → Int32} {p k : Nat} (h : p < k) (h8 : rkI f k < 8) : (cdI f p = 8 ∨ cdI f p < rkI f k) ∧ wgt f p = wV (cdI f p) := by
  unfold cdI wgt
  by_cases hp : (f (9 + p)).toInt = 0
  · rw [if_pos hp, if_pos hp]; exact ⟨Or.inl rfl, rfl⟩
  · rw [if_neg hp, if_neg hp]
    have h1 := cntP_lt (P := fun j => (f (9 + j)).toInt ≠ 0) h hp
    have h1 : rkI f p + 1 ≤ rkI f k := h1
    refine ⟨Or.inr (by omega), ?_⟩
    unfold wV
    rw [if_neg (by omega)]
theorem cd_ne {f : Nat → Int32} {p q : Nat} (h : p ≠ q) (e : cdI f p = cdI f q) (hp8 : rkI f p < 8) (hq8 : rkI f q < 8) : cdI f p = 8 := by
  unfold cdI at e ⊢
  by_cases hp : (f (9 + p)).toInt = 0
  · rw [if_pos hp]
  · rw [if_neg hp] at e ⊢
    by_cases hq : (f (9 + q)).toInt = 0
    · rw [if_pos hq] at e; omega
    · rw [if_neg hq] at e
      exfalso
      rcases Nat.lt_or_gt_of_ne h with h | h
      · have h1 : rkI f p + 1 ≤ rkI f q := cntP_lt (P := fun j => (f (9 + j)).toInt ≠ 0) h hp
        omega
      · have h1 : rkI f q + 1 ≤ rkI f p := cntP_lt (P := fun j => (f (9 + j)).toInt ≠ 0) h hq
        omega
theorem rkI_mono {f : Nat → Int32} {p k : Nat} (h : p < k) : rkI f p ≤ rkI f k := by
  have h1 := cntP_mono (P := fun j => (f (9 + j)).toInt ≠ 0) p (k - p)
  rw [show p + (k - p) = k from by omega] at h1
  exact h1
def rsum (fr f : Nat → Int32) (k i : Nat) : Nat := sumN (fun j => wgt fr (f (4 * k + j)).toNatClampNeg) i
theorem rsum_zero (fr f : Nat → Int32) (k : Nat) : rsum fr f k 0 = 0 := rfl
theorem rsum_succ (fr f : Nat → Int32) (k i : Nat) : rsum fr f k (i + 1) = rsum fr f k i + wgt fr (f (4 * k + i)).toNatClampNeg := rfl
theorem cl_ne {x y : Int32} (hx : 0 ≤ x.toInt) (hy : 0 ≤ y.toInt) (h : x ≠ y) : x.toNatClampNeg ≠ y.toNatClampNeg := by
  intro e
  have h1 := ti_cl (x := x) rfl hx
  have h2 := ti_cl (x := y) rfl hy
  exact h (Int32.toInt_inj.mp (by omega))
theorem wgt_sum {fr f : Nat → Int32} (hR : ROk fr) (hQ : RowOk fr f) {k m : Nat} (hk : (k : Int) < (fr 1).toInt) (hi : (fr (9 + k)).toInt ≠ 0) (hm : (m : Int) = (fr (27 + k)).toInt) : rsum fr f k m ≤ wgt fr k := by
  have hn := hR.nodes
  have hm4 := hR.many (27 + k) (by omega) (by omega)
  have hm1 := hR.inner k hk hi
  have hr8 : rkI fr k < 8 := by
    have h1 := hR.ci (k + 1) (by omega)
    have h2 : cntP (fun j => (fr (9 + j)).toInt ≠ 0) (k + 1) = rkI fr k + 1 := by
      show rkI fr k + (if (fr (9 + k)).toInt ≠ 0 then 1 else 0) = _
      rw [if_pos hi]
    omega
  have hw : wgt fr k = wT (rkI fr k) := by unfold wgt; rw [if_neg hi]
  have hp : ∀ i : Nat, i < m → (f (4 * k + i)).toNatClampNeg < k ∧ 0 ≤ (f (4 * k + i)).toInt := by
    intro i h
    have h1 := hQ.lt k i hk (by omega)
    have h2 := ti_cl (x := f (4 * k + i)) rfl h1.1
    omega
  have hd : ∀ i j : Nat, i < j → j < m → (f (4 * k + i)).toNatClampNeg ≠ (f (4 * k + j)).toNatClampNeg := fun i j h1 h2 => cl_ne (hp i (by omega)).2 (hp j h2).2 (hQ.ne k i j hk h1 (by omega))
  have c1 : ∀ i : Nat, i < m → _ := fun i h => cd_in (f := fr) (hp i h).1 hr8
  have c2 : ∀ i j : Nat, i < j → j < m → cdI fr (f (4 * k + i)).toNatClampNeg = cdI fr (f (4 * k + j)).toNatClampNeg → cdI fr (f (4 * k + i)).toNatClampNeg = 8 := fun i j h1 h2 e => cd_ne (hd i j h1 h2) e (Nat.lt_of_le_of_lt (rkI_mono (hp i (by omega)).1) hr8) (Nat.lt_of_le_of_lt (rkI_mono (hp j h2).1) hr8)
  have v8 : wV 8 = 1 := rfl
  rw [hw]
  rcases (show m = 1 ∨ m = 2 ∨ m = 3 ∨ m = 4 by omega) with rfl | rfl | rfl | rfl
  · have h := w4' (a := cdI fr (f (4 * k + 0)).toNatClampNeg) (b := 8) (c := 8) (d := 8) hr8 (c1 0 (by omega)).1 (Or.inl rfl) (Or.inl rfl) (Or.inl rfl) (fun h => h) (fun h => h) (fun h => h) (fun _ => rfl) (fun _ => rfl) (fun _ => rfl)
    rw [← (c1 0 (by omega)).2] at h
    simp only [rsum_succ, rsum_zero]; omega
  · have h := w4' (a := cdI fr (f (4 * k + 0)).toNatClampNeg) (b := cdI fr (f (4 * k + 1)).toNatClampNeg) (c := 8) (d := 8) hr8 (c1 0 (by omega)).1 (c1 1 (by omega)).1 (Or.inl rfl) (Or.inl rfl) (c2 0 1 (by omega) (by omega)) (fun h => h) (fun h => h) (fun h => h) (fun h => h) (fun _ => rfl)
    rw [← (c1 0 (by omega)).2, ← (c1 1 (by omega)).2] at h
    simp only [rsum_succ, rsum_zero]; omega
  · have h := w4' (a := cdI fr (f (4 * k + 0)).toNatClampNeg) (b := cdI fr (f (4 * k + 1)).toNatClampNeg) (c := cdI fr (f (4 * k + 2)).toNatClampNeg) (d := 8) hr8 (c1 0 (by omega)).1 (c1 1 (by omega)).1 (c1 2 (by omega)).1 (Or.inl rfl) (c2 0 1 (by omega) (by omega)) (c2 0 2 (by omega) (by omega)) (fun h => h) (c2 1 2 (by omega) (by omega)) (fun h => h) (fun h => h)
    rw [← (c1 0 (by omega)).2, ← (c1 1 (by omega)).2, ← (c1 2 (by omega)).2] at h
    simp only [rsum_succ, rsum_zero]; omega
  · have h := w4' (a := cdI fr (f (4 * k + 0)).toNatClampNeg) (b := cdI fr (f (4 * k + 1)).toNatClampNeg) (c := cdI fr (f (4 * k + 2)).toNatClampNeg) (d := cdI fr (f (4 * k + 3)).toNatClampNeg) hr8 (c1 0 (by omega)).1 (c1 1 (by omega)).1 (c1 2 (by omega)).1 (c1 3 (by omega)).1 (c2 0 1 (by omega) (by omega)) (c2 0 2 (by omega) (by omega)) (c2 0 3 (by omega) (by omega)) (c2 1 2 (by omega) (by omega)) (c2 1 3 (by omega) (by omega)) (c2 2 3 (by omega) (by omega))
    rw [← (c1 0 (by omega)).2, ← (c1 1 (by omega)).2, ← (c1 2 (by omega)).2, ← (c1 3 (by omega)).2] at h
    simp only [rsum_succ, rsum_zero]; omega
theorem rsum_gap {fr f : Nat → Int32} (hR : ROk fr) (hQ : RowOk fr f) {k i m : Nat} (hk : (k : Int) < (fr 1).toInt) (hi : (fr (9 + k)).toInt ≠ 0) (hm : (m : Int) = (fr (27 + k)).toInt) (him : i ≤ m) : rsum fr f k i + (m - i) ≤ wgt fr k := by
  have h1 := wgt_sum hR hQ hk hi hm
  have h2 := sumN_gap (g := fun j => wgt fr (f (4 * k + j)).toNatClampNeg) (fun j => (wgt_in fr _).1) i (m - i)
  rw [show i + (m - i) = m from by omega] at h2
  exact Nat.le_trans h2 h1
/-- what a hearing wants to know where it reads a part -/
theorem rsum_at {fr f : Nat → Int32} (hR : ROk fr) (hQ : RowOk fr f) {k i : Nat} {z : Int32} (hk : (k : Int) < (fr 1).toInt) (hi : (fr (9 + k)).toInt ≠ 0) (hlt : (i : Int) < (fr (27 + k)).toInt) (hz : (f (4 * k + i)).toInt = z.toInt) : (rsum fr f k (i + 1) : Int) = rsum fr f k i + wgt fr z.toNatClampNeg ∧ (rsum fr f k (i + 1) : Int) + ((fr (27 + k)).toInt - (i + 1)) ≤ wgt fr k ∧ 1 ≤ wgt fr z.toNatClampNeg := by
  have e : f (4 * k + i) = z := Int32.toInt_inj.mp hz
  have h1 := rsum_succ fr f k i
  rw [e] at h1
  have h2 := rsum_gap (i := i + 1) (m := (fr (27 + k)).toInt.toNat) hR hQ hk hi (by omega) (by omega)
  have h3 := wgt_in fr z.toNatClampNeg
  omega
theorem i2l_nz {y : Int64} {x : Int32} (e : y = x.toInt64) (h : x.toInt ≠ 0) : ¬ y = 0 := by
  intro h0
  have h1 := congrArg Int64.toInt (e.symm.trans h0)
  rw [Int32.toInt_toInt64] at h1
  exact h h1
theorem ti_divE {x y z : Int32} {a b : Int} (h : z = x / y) (hx : x.toInt = a) (hy : y.toInt = b) (h0 : 0 ≤ a) (h1 : 0 < b) : z.toInt = a / b := by
  have hr := fb_rng x
  subst hx; subst hy
  rw [h, Int32.toInt_div, Int.tdiv_eq_ediv_of_nonneg h0]
  have h2 := Int.ediv_le_self y.toInt h0
  have h3 := Int.ediv_nonneg h0 (Int.le_of_lt h1)
  exact fb_bmod (by omega) (by omega)
theorem row_lt {fr f : Nat → Int32} (h : RowOk fr f) {k i q : Nat} {A B : Int} {z : Int32} (hk : (k : Int) = A) (hi : (i : Int) = B) (h1 : A < (fr 1).toInt) (h2 : B < (fr (27 + k)).toInt) (hq : q = 4 * k + i) (c : (f q).toInt = z.toInt) : 0 ≤ z.toInt ∧ z.toInt < A := by
  have w := h.lt k i (by omega) (by omega)
  rw [← hq, c] at w
  exact ⟨w.1, by omega⟩
theorem row_ch {f : Nat → Int32} (h : ROk f) {k i q : Nat} {A B : Int} {z : Int32} (hk : (k : Int) = A) (hi : (i : Int) = B) (h1 : A < (f 1).toInt) (h3 : (f (9 + k)).toInt = 3) (h2 : B < (f (27 + k)).toInt) (hq : q = 45 + 4 * k + i) (c : (f q).toInt = z.toInt) : 1 ≤ z.toInt := by
  have w := h.chance k i (by omega) h3 (by omega)
  rw [← hq, c] at w
  exact w
theorem row_dn {f : Nat → Int32} (h : ROk f) {k q : Nat} {z : Int32} (hk : k < 4) (hq : q = 117 + 2 * k) (c : (f q).toInt = z.toInt) : 0 ≤ z.toInt ∧ z.toInt ≤ 17 := by
  have w := h.dnode k hk
  rw [← hq, c] at w
  exact w
end
section
/-! rows that are copied, turned, laid anew -/
def CopyOk (f t : Nat → Int32) (a b k : Nat) (g : Nat → Int32) : Prop := ∀ j : Nat, g j = if b ≤ j ∧ j < b + k then f (a + (j - b)) else t j
theorem CopyOk.fn {f t g : Nat → Int32} {a b k : Nat} (h : CopyOk f t a b k g) : cpF f t a b k = g := funext fun j => (h j).symm
theorem copy_zero {f t : Nat → Int32} {a b : Nat} : CopyOk f t a b 0 t := by
  intro j
  rw [if_neg (by omega)]
theorem copy_step {f t g g' : Nat → Int32} {a b k k' i : Nat} {x : Int32} (h : CopyOk f t a b k g) (e : g' = upd g i x) (hi : i = b + k) (hx : x.toInt = (f (a + k)).toInt) (hk : k' = k + 1) : CopyOk f t a b k' g' := by
  subst hi; subst hk
  have hx := Int32.toInt_inj.mp hx
  intro j
  rw [e]
  by_cases hj : j = b + k
  · subst hj
    rw [pk_us, if_pos (by omega), hx, show b + k - b = k from by omega]
  · rw [pk_un hj, h j]
    by_cases h1 : b ≤ j ∧ j < b + k
    · rw [if_pos h1, if_pos (by omega)]
    · rw [if_neg h1, if_neg (by omega)]
theorem RowOk.congr {fr f g : Nat → Int32} (hR : ROk fr) (h : RowOk fr f) (e : ∀ j : Nat, j < 72 → g j = f j) : RowOk fr g := by
  have hn := hR.nodes
  refine ⟨fun k i hk hi => ?_, fun k i j hk hij hj => ?_⟩
  · have hm := hR.many (27 + k) (by omega) (by omega)
    rw [e _ (by omega)]; exact h.lt k i hk hi
  · have hm := hR.many (27 + k) (by omega) (by omega)
    rw [e _ (by omega), e _ (by omega)]; exact h.ne k i j hk hij hj
theorem RowOk.copy {fr f t g : Nat → Int32} (hR : ROk fr) (h : RowOk fr f) (c : CopyOk f t (0 : Int32).toNatClampNeg (0 : Int32).toNatClampNeg (90 : Int32).toNatClampNeg g) : RowOk fr g :=
  h.congr hR (fun j hj => by
    have c := c j
    rw [show (0 : Int32).toNatClampNeg = 0 from rfl, show (90 : Int32).toNatClampNeg = 90 from rfl, if_pos (by omega)] at c
    rw [c]; congr 1; omega)
theorem RowOk.hi {fr f g : Nat → Int32} {i : Nat} {x : Int32} (hR : ROk fr) (h : RowOk fr f) (e : g = upd f i x) (hi : 72 ≤ i) : RowOk fr g := by
  subst e
  exact h.congr hR (fun j hj => pk_un (by omega))
def WorOk (f : Nat → Int32) : Prop := ∀ j : Nat, 72 ≤ j → j < 90 → 0 ≤ (f j).toInt ∧ (f j).toInt ≤ 99
theorem WorOk.congr {f g : Nat → Int32} (h : WorOk f) (e : ∀ j : Nat, 72 ≤ j → j < 90 → g j = f j) : WorOk g := fun j h1 h2 => by rw [e j h1 h2]; exact h j h1 h2
/-- to the front -/
def FrontI (f : Nat → Int32) (b i n : Nat) (g : Nat → Int32) : Prop := ∀ j : Nat, g j = if b + n < j ∧ j ≤ b + i then f (j - 1) else f j
theorem front_zero {f : Nat → Int32} {b i : Nat} : FrontI f b i i f := by
  intro j
  rw [if_neg (by omega)]
theorem front_step {f g g' : Nat → Int32} {b i n n' q r : Nat} {x : Int32} (h : FrontI f b i n g) (e : g' = upd g q x) (hq : q = b + n) (hx : x.toInt = (g r).toInt) (hr : r + 1 = b + n) (hn : n = n' + 1) (hi : n ≤ i) : FrontI f b i n' g' := by
  subst hq
  have hx := Int32.toInt_inj.mp hx
  intro j
  rw [e]
  by_cases hj : j = b + n
  · subst hj
    rw [pk_us, if_pos (by omega), hx, h r, if_neg (by omega), show b + n - 1 = r from by omega]
  · rw [pk_un hj, h j]
    by_cases h1 : b + n < j ∧ j ≤ b + i
    · rw [if_pos h1, if_pos (by omega)]
    · rw [if_neg h1, if_neg (by omega)]
def piF (i j : Nat) : Nat := if j = 0 then i else if j ≤ i then j - 1 else j
theorem RowOk.turned {fr f g f' : Nat → Int32} {k m : Nat} {π : Nat → Nat} (hR : ROk fr) (h0 : RowOk fr f) (h : RowOk fr f') (hk : (k : Int) < (fr 1).toInt) (hm : (m : Int) = (fr (27 + k)).toInt) (hin : ∀ j : Nat, j < m → g (4 * k + j) = f' (4 * k + π j) ∧ π j < m) (hinj : ∀ i j : Nat, i < j → j < m → π i ≠ π j) (hout : ∀ j : Nat, j < 72 → (j < 4 * k ∨ 4 * k + 4 ≤ j) → g j = f j) : RowOk fr g := by
  have hn := hR.nodes
  refine ⟨fun k' i hk' hi => ?_, fun k' i j hk' hij hj => ?_⟩
  · have hm4 := hR.many (27 + k') (by omega) (by omega)
    by_cases e : k' = k
    · subst e
      obtain ⟨h1, h2⟩ := hin i (by omega)
      rw [h1]; exact h.lt k' _ hk' (by omega)
    · rw [hout _ (by omega) (by omega)]; exact h0.lt k' i hk' hi
  · have hm4 := hR.many (27 + k') (by omega) (by omega)
    by_cases e : k' = k
    · subst e
      obtain ⟨h1, h2⟩ := hin i (by omega)
      obtain ⟨h3, h4⟩ := hin j (by omega)
      rw [h1, h3]
      have hd := hinj i j hij (by omega)
      rcases Nat.lt_or_gt_of_ne hd with hd | hd
      · exact h.ne k' _ _ hk' hd (by omega)
      · exact (h.ne k' _ _ hk' hd (by omega)).symm
    · rw [hout _ (by omega) (by omega), hout _ (by omega) (by omega)]; exact h0.ne k' i j hk' hij hj
theorem RowOk.front {fr f g g' : Nat → Int32} {k i q : Nat} {x : Int32} (hR : ROk fr) (h : RowOk fr f) (hk : (k : Int) < (fr 1).toInt) (hi : (i : Int) < (fr (27 + k)).toInt) (hF : FrontI f (4 * k) i 0 g) (e : g' = upd g q x) (hq : q = 4 * k) (hx : x.toInt = (f (4 * k + i)).toInt) : RowOk fr g' := by
  subst hq
  have hx := Int32.toInt_inj.mp hx
  have hm4 := hR.many (27 + k) (by have := hR.nodes; omega) (by have := hR.nodes; omega)
  refine RowOk.turned (m := (fr (27 + k)).toInt.toNat) (π := piF i) hR h h hk (by omega) (fun j hj => ?_) (fun a b hab hb => ?_) (fun j hj ho => ?_)
  · rw [e]
    unfold piF
    by_cases h0 : j = 0
    · subst h0
      rw [if_pos rfl, Nat.add_zero, pk_us, hx]; exact ⟨rfl, by omega⟩
    · rw [if_neg h0, pk_un (by omega), hF]
      by_cases h1 : j ≤ i
      · rw [if_pos h1, if_pos (by omega), show 4 * k + j - 1 = 4 * k + (j - 1) from by omega]; exact ⟨rfl, by omega⟩
      · rw [if_neg h1, if_neg (by omega)]; exact ⟨rfl, hj⟩
  · unfold piF; (repeat' split) <;> omega
  · rw [e, pk_un (by omega), hF, if_neg (by omega)]
theorem front_keeps {f g g' : Nat → Int32} {b i q : Nat} {x : Int32} (hF : FrontI f b i 0 g) (e : g' = upd g q x) (hq : q = b) (hb : b + i < 72) : ∀ j : Nat, 72 ≤ j → g' j = f j := by
  intro j hj
  rw [e, pk_un (by omega), hF, if_neg (by omega)]
/-- rows of rows -/
def HistOk (fr h : Nat → Int32) (n : Int) : Prop := ∀ u : Nat, (u : Int) < n → RowOk fr (fun j => h (90 * u + j)) ∧ WorOk (fun j => h (90 * u + j))
theorem HistOk.none {fr h : Nat → Int32} {n : Int} (hn : n ≤ 0) : HistOk fr h n := fun u hu => by omega
theorem HistOk.put {fr h f g : Nat → Int32} {n : Int} {b : Nat} (hR : ROk fr) (hH : HistOk fr h n) (hf : RowOk fr f) (hw : WorOk f) (c : CopyOk f h (0 : Int32).toNatClampNeg b (90 : Int32).toNatClampNeg g) (hb : (b : Int) = 90 * n) : HistOk fr g (n + 1) := by
  intro u hu
  have cj : ∀ j : Nat, j < 90 → g (90 * u + j) = if (u : Int) = n then f j else h (90 * u + j) := by
    intro j hj
    rw [c]
    simp only [show (0 : Int32).toNatClampNeg = 0 from rfl, show (90 : Int32).toNatClampNeg = 90 from rfl]
    by_cases e : (u : Int) = n
    · rw [if_pos e, if_pos (by omega)]; congr 1; omega
    · rw [if_neg e, if_neg (by omega)]
  by_cases e : (u : Int) = n
  · exact ⟨hf.congr hR (fun j hj => by rw [cj j (by omega), if_pos e]), hw.congr (fun j _ hj => by rw [cj j hj, if_pos e])⟩
  · obtain ⟨h1, h2⟩ := hH u (by omega)
    exact ⟨h1.congr hR (fun j hj => by rw [cj j (by omega), if_neg e]), h2.congr (fun j _ hj => by rw [cj j hj, if_neg e])⟩
theorem HistOk.get {fr h t g : Nat → Int32} {n : Int} {u a : Nat} (hR : ROk fr) (hH : HistOk fr h n) (hu : (u : Int) < n) (c : CopyOk h t a (0 : Int32).toNatClampNeg (90 : Int32).toNatClampNeg g) (ha : a = 90 * u) : RowOk fr g ∧ WorOk g := by
  subst ha
  obtain ⟨h1, h2⟩ := hH u hu
  have cj : ∀ j : Nat, j < 90 → g j = h (90 * u + j) := by
    intro j hj
    rw [c]
    simp only [show (0 : Int32).toNatClampNeg = 0 from rfl, show (90 : Int32).toNatClampNeg = 90 from rfl]
    rw [if_pos (by omega)]; congr 1
  exact ⟨h1.congr hR (fun j hj => cj j (by omega)), h2.congr (fun j _ hj => cj j hj)⟩
def ShiftI (f : Nat → Int32) (k : Nat) (g : Nat → Int32) : Prop := ∀ j : Nat, g j = if j < k then f (j + 90) else f j
theorem shift_zero {f : Nat → Int32} : ShiftI f 0 f := fun j => by rw [if_neg (by omega)]
theorem shift_step {f g g' : Nat → Int32} {k k' q r : Nat} {x : Int32} (h : ShiftI f k g) (e : g' = upd g q x) (hq : q = k) (hx : x.toInt = (g r).toInt) (hr : r = k + 90) (hk : k' = k + 1) : ShiftI f k' g' := by
  subst hq; subst hk; subst hr
  have hx := Int32.toInt_inj.mp hx
  intro j
  rw [e]
  by_cases hj : j = q
  · subst hj
    rw [pk_us, if_pos (by omega), hx, h (j + 90), if_neg (by omega)]
  · rw [pk_un hj, h j]
    by_cases h1 : j < q
    · rw [if_pos h1, if_pos (by omega)]
    · rw [if_neg h1, if_neg (by omega)]
theorem HistOk.shift {fr h g : Nat → Int32} (hR : ROk fr) (hH : HistOk fr h 16) (hs : ShiftI h 1350 g) : HistOk fr g 15 := by
  intro u hu
  obtain ⟨h1, h2⟩ := hH (u + 1) (by omega)
  have cj : ∀ j : Nat, j < 90 → g (90 * u + j) = h (90 * (u + 1) + j) := by
    intro j hj
    rw [hs, if_pos (by omega)]; congr 1; omega
  exact ⟨h1.congr hR (fun j hj => cj j (by omega)), h2.congr (fun j _ hj => cj j hj)⟩
theorem HistOk.less {fr h : Nat → Int32} {n n' : Int} (hH : HistOk fr h n) (hn : n' ≤ n) : HistOk fr h n' := fun u hu => hH u (by omega)
theorem HistOk.eq {fr h : Nat → Int32} {n n' : Int} (hH : HistOk fr h n) (hn : n' = n) : HistOk fr h n' := hn ▸ hH
theorem WorOk.upd {f g : Nat → Int32} {i : Nat} {x : Int32} (h : WorOk f) (e : g = upd f i x) (h0 : 0 ≤ x.toInt) (h1 : x.toInt ≤ 99) : WorOk g := by
  subst e
  intro j h2 h3
  by_cases hj : j = i
  · subst hj; rw [pk_us]; exact ⟨h0, h1⟩
  · rw [pk_un hj]; exact h j h2 h3
theorem cnt_at {P : Nat → Prop} [DecidablePred P] (n : Nat) : (P n → cntP P (n + 1) = cntP P n + 1) ∧ (¬ P n → cntP P (n + 1) = cntP P n) := by
  refine ⟨fun h => ?_, fun h => ?_⟩
  · show cntP P n + (if P n then 1 else 0) = _; rw [if_pos h]
  · show cntP P n + (if P n then 1 else 0) = _; rw [if_neg h]; rfl
/-- a turn of a node's parts -/
def RotI (fs g0 : Nat → Int32) (b m s i : Nat) (g : Nat → Int32) : Prop := ∀ j : Nat, g j = if b ≤ j ∧ j < b + i then fs (b + (j - b + s) % m) else g0 j
theorem rot_zero {fs g0 : Nat → Int32} {b m s : Nat} : RotI fs g0 b m s 0 g0 := fun j => by rw [if_neg (by omega)]
theorem rot_step {fs g0 g g' : Nat → Int32} {b m s i i' q : Nat} {x : Int32} (h : RotI fs g0 b m s i g) (e : g' = upd g q x) (hq : q = b + i) (hx : x.toInt = (fs (b + (i + s) % m)).toInt) (hi : i' = i + 1) : RotI fs g0 b m s i' g' := by
  subst hq; subst hi
  have hx := Int32.toInt_inj.mp hx
  intro j
  rw [e]
  by_cases hj : j = b + i
  · subst hj
    rw [pk_us, if_pos (by omega), hx, show b + i - b = i from by omega]
  · rw [pk_un hj, h j]
    by_cases h1 : b ≤ j ∧ j < b + i
    · rw [if_pos h1, if_pos (by omega)]
    · rw [if_neg h1, if_neg (by omega)]
theorem RowOk.rot {fr fs g0 g : Nat → Int32} {k m s : Nat} (hR : ROk fr) (h0 : RowOk fr g0) (h : RowOk fr fs) (hk : (k : Int) < (fr 1).toInt) (hm : (m : Int) = (fr (27 + k)).toInt) (hm1 : 1 ≤ m) (hr : RotI fs g0 (4 * k) m s m g) : RowOk fr g := by
  have hm4 := hR.many (27 + k) (by have := hR.nodes; omega) (by have := hR.nodes; omega)
  refine RowOk.turned (m := m) (π := fun j => (j + s) % m) hR h0 h hk hm (fun j hj => ?_) (fun a b hab hb => ?_) (fun j hj ho => ?_)
  · rw [hr, if_pos (by omega), show 4 * k + j - 4 * k = j from by omega]
    exact ⟨rfl, Nat.mod_lt _ (by omega)⟩
  · show (a + s) % m ≠ (b + s) % m
    rcases (show m = 1 ∨ m = 2 ∨ m = 3 ∨ m = 4 by omega) with rfl | rfl | rfl | rfl <;> omega
  · rw [hr, if_neg (by omega)]
theorem ti_remE {x y z : Int32} {a b : Int} (h : z = x - x / y * y) (hx : x.toInt = a) (hy : y.toInt = b) (h0 : 0 ≤ a) (h1 : 0 < b) : z.toInt = a % b := by
  have hr := fb_rng x
  have hs := fb_rng y
  have hd := ti_divE (z := x / y) rfl hx hy h0 h1
  subst hx; subst hy
  have hm1 := Int.emod_nonneg x.toInt (show y.toInt ≠ 0 by omega)
  have hm2 := Int.emod_lt_of_pos x.toInt h1
  have hm3 := Int.mul_ediv_add_emod x.toInt y.toInt
  have hm4 : (x / y).toInt * y.toInt = x.toInt - x.toInt % y.toInt := by
    rw [hd, Int.mul_comm]; omega
  have hle : x.toInt % y.toInt ≤ x.toInt := by
    have := Int.ediv_nonneg h0 (Int.le_of_lt h1)
    have : 0 ≤ y.toInt * (x.toInt / y.toInt) := Int.mul_nonneg (Int.le_of_lt h1) this
    omega
  have hmul : (x / y * y).toInt = x.toInt - x.toInt % y.toInt := by
    rw [← hm4]; exact fb_mulI (by omega) (by omega)
  rw [h, fb_subI (by omega) (by omega)]
  omega
theorem modN {a b : Nat} {z : Int} (h : z = (a : Int) % (b : Int)) : z.toNat = a % b := by
  rw [h, ← Int.natCast_emod]; rfl
end
section
/-! worths, exactly as the reference reckons them -/
def wOf (fr ft : Nat → Int32) (k : Nat) (part : Int32) : Nat → Nat → Int32
  | 0, _ => 0
  | r + 1, i => if (ft (4 * k + i)).toInt = part.toInt then fr (45 + 4 * k + i) else wOf fr ft k part r (i + 1)
def sum32 (g : Nat → Int32) : Nat → Int32
  | 0 => 0
  | n + 1 => sum32 g n + g n
def stepV (kd : Int) (n v w : Int32) : Int32 := if kd = 1 then (if n.toInt < v.toInt then v else n) else if kd = 2 then (if v.toInt < n.toInt then v else n) else n + v * w
def foldV (kd : Int) (n0 : Int32) (v w : Nat → Int32) : Nat → Int32
  | 0 => n0
  | i + 1 => stepV kd (foldV kd n0 v w i) (v i) (w i)
def startV (kd : Int) : Int32 := if kd = 2 then 100000000 else if kd = 1 then (-100000000) else 0
def rval (fr ft f : Nat → Int32) (sc : Int32) : Nat → Nat → Int32
  | 0, _ => 0
  | n + 1, k => if (fr (9 + k)).toInt = 0 then f (72 + k) * sc else
      if (fr (9 + k)).toInt = 3 then foldV (fr (9 + k)).toInt (startV (fr (9 + k)).toInt) (fun i => rval fr ft f sc n (f (4 * k + i)).toNatClampNeg) (fun i => wOf fr ft k (f (4 * k + i)) (fr (27 + k)).toInt.toNat 0) (fr (27 + k)).toInt.toNat / sum32 (fun i => fr (45 + 4 * k + i)) (fr (27 + k)).toInt.toNat
      else foldV (fr (9 + k)).toInt (startV (fr (9 + k)).toInt) (fun i => rval fr ft f sc n (f (4 * k + i)).toNatClampNeg) (fun i => wOf fr ft k (f (4 * k + i)) (fr (27 + k)).toInt.toNat 0) (fr (27 + k)).toInt.toNat
theorem foldV_congr {kd : Int} {n0 : Int32} {v v' w : Nat → Int32} : ∀ m : Nat, (∀ i, i < m → v i = v' i) → foldV kd n0 v w m = foldV kd n0 v' w m
  | 0, _ => rfl
  | m + 1, h => by
    show stepV kd (foldV kd n0 v w m) (v m) (w m) = stepV kd (foldV kd n0 v' w m) (v' m) (w m)
    rw [foldV_congr m (fun i hi => h i (by omega)), h m (by omega)]
theorem rval_fuel {fr ft f : Nat → Int32} {sc : Int32} (hQ : RowOk fr f) : ∀ (n k : Nat), k < n → (k : Int) < (fr 1).toInt → rval fr ft f sc n k = rval fr ft f sc (n + 1) k
  | 0, k, h, _ => by omega
  | n + 1, k, h, hk => by
    have hv : ∀ i : Nat, i < (fr (27 + k)).toInt.toNat → rval fr ft f sc n (f (4 * k + i)).toNatClampNeg = rval fr ft f sc (n + 1) (f (4 * k + i)).toNatClampNeg := by
      intro i hi
      have h1 := hQ.lt k i hk (by omega)
      have h2 := ti_cl (x := f (4 * k + i)) rfl h1.1
      exact rval_fuel hQ n _ (by omega) (by omega)
    have hf := foldV_congr (kd := (fr (9 + k)).toInt) (n0 := startV (fr (9 + k)).toInt) (v := fun i => rval fr ft f sc n (f (4 * k + i)).toNatClampNeg) (v' := fun i => rval fr ft f sc (n + 1) (f (4 * k + i)).toNatClampNeg) (w := fun i => wOf fr ft k (f (4 * k + i)) (fr (27 + k)).toInt.toNat 0) (fr (27 + k)).toInt.toNat hv
    rw [rval, rval, hf]
theorem wOf_in {fr ft : Nat → Int32} {k : Nat} {part : Int32} (hR : ROk fr) (hk : k < 18) : ∀ r i : Nat, r + i ≤ 4 → 0 ≤ (wOf fr ft k part r i).toInt ∧ (wOf fr ft k part r i).toInt ≤ 9
  | 0, i, _ => by rw [wOf]; decide
  | r + 1, i, h => by
    rw [wOf]
    split
    · exact hR.wts (45 + 4 * k + i) (by omega) (by omega)
    · exact wOf_in hR hk r (i + 1) (by omega)
theorem sum32_in {g : Nat → Int32} : ∀ m : Nat, m ≤ 4 → (∀ i, i < m → 1 ≤ (g i).toInt ∧ (g i).toInt ≤ 9) → (m : Int) ≤ (sum32 g m).toInt ∧ (sum32 g m).toInt ≤ 9 * m
  | 0, _, _ => by rw [sum32]; decide
  | m + 1, h, hg => by
    have h1 := sum32_in m (by omega) (fun i hi => hg i (by omega))
    have h2 := hg m (by omega)
    rw [sum32, fb_addI (by omega) (by omega)]
    omega
theorem foldK_in {n0 : Int32} {v w : Nat → Int32} {X : Int} (h0 : n0.toInt ≤ 0) : ∀ m : Nat, (∀ i, i < m → 0 ≤ (v i).toInt ∧ (v i).toInt ≤ X) → ((foldV 1 n0 v w m).toInt ≤ X ∨ m = 0) ∧ (1 ≤ m → 0 ≤ (foldV 1 n0 v w m).toInt ∧ (foldV 1 n0 v w m).toInt ≤ X)
  | 0, _ => ⟨Or.inr rfl, fun h => by omega⟩
  | m + 1, hv => by
    have ih := foldK_in (n0 := n0) (w := w) h0 m (fun i hi => hv i (by omega))
    have h2 := hv m (by omega)
    have e : foldV 1 n0 v w (m + 1) = if (foldV 1 n0 v w m).toInt < (v m).toInt then v m else foldV 1 n0 v w m := by rw [foldV, stepV, if_pos rfl]
    have h3 : m = 0 → foldV 1 n0 v w m = n0 := fun h => by subst h; rfl
    rw [e]
    split
    · exact ⟨Or.inl h2.2, fun _ => h2⟩
    · by_cases hm : m = 0
      · rw [h3 hm] at *
        refine ⟨Or.inl (by omega), fun _ => by omega⟩
      · have h4 := ih.2 (by omega)
        exact ⟨Or.inl h4.2, fun _ => h4⟩
theorem foldQ_in {n0 : Int32} {v w : Nat → Int32} {X : Int} (h0 : X ≤ n0.toInt) : ∀ m : Nat, (∀ i, i < m → 0 ≤ (v i).toInt ∧ (v i).toInt ≤ X) → 1 ≤ m → 0 ≤ (foldV 2 n0 v w m).toInt ∧ (foldV 2 n0 v w m).toInt ≤ X
  | 0, _, h => by omega
  | m + 1, hv, _ => by
    have h2 := hv m (by omega)
    have e : foldV 2 n0 v w (m + 1) = if (v m).toInt < (foldV 2 n0 v w m).toInt then v m else foldV 2 n0 v w m := by rw [foldV, stepV, if_neg (by decide), if_pos rfl]
    rw [e]
    by_cases hc : (v m).toInt < (foldV 2 n0 v w m).toInt
    · rw [if_pos hc]; exact h2
    · rw [if_neg hc]
      by_cases hm : m = 0
      · subst hm
        have h9 : foldV 2 n0 v w 0 = n0 := rfl
        rw [h9] at hc ⊢
        omega
      · exact foldQ_in h0 m (fun i hi => hv i (by omega)) (by omega)
theorem foldC_in {n0 : Int32} {v w : Nat → Int32} {X : Int} (h0 : n0.toInt = 0) (hX : X ≤ 1154736) (hX0 : 0 ≤ X) : ∀ m : Nat, m ≤ 4 → (∀ i, i < m → 0 ≤ (v i).toInt ∧ (v i).toInt ≤ X) → (∀ i, i < m → 0 ≤ (w i).toInt ∧ (w i).toInt ≤ 9) → 0 ≤ (foldV 3 n0 v w m).toInt ∧ (foldV 3 n0 v w m).toInt ≤ 9 * X * m
  | 0, _, _, _ => by
    have : foldV 3 n0 v w 0 = n0 := rfl
    rw [this, h0]; exact ⟨Int.le_refl _, by simp⟩
  | m + 1, hm, hv, hw => by
    have ih := foldC_in h0 hX hX0 m (by omega) (fun i hi => hv i (by omega)) (fun i hi => hw i (by omega))
    have h2 := hv m (by omega)
    have h3 := hw m (by omega)
    have e : foldV 3 n0 v w (m + 1) = foldV 3 n0 v w m + v m * w m := by rw [foldV, stepV, if_neg (by decide), if_neg (by decide)]
    have p1 : 0 ≤ (v m).toInt * (w m).toInt := Int.mul_nonneg h2.1 h3.1
    have p2 : (v m).toInt * (w m).toInt ≤ X * 9 := Int.mul_le_mul h2.2 h3.2 h3.1 hX0
    have p3 : (v m * w m).toInt = (v m).toInt * (w m).toInt := fb_mulI (by omega) (by omega)
    have p4 : 9 * X * (m : Int) ≤ 9 * X * 3 := Int.mul_le_mul_of_nonneg_left (by omega) (by omega)
    have p5 : 9 * X * ((m + 1 : Nat) : Int) = 9 * X * (m : Int) + 9 * X := by rw [Int.natCast_add, Int.mul_add]; simp
    rw [e, fb_addI (by omega) (by omega), p3, p5]
    omega
theorem startV_1 : startV 1 = -100000000 := rfl
theorem startV_2 : startV 2 = 100000000 := rfl
theorem startV_3 : startV 3 = 0 := rfl
def ccC (fr : Nat → Int32) (k : Nat) : Nat := cntP (fun j => (fr (9 + j)).toInt = 3) k
theorem rval_in {fr ft f : Nat → Int32} {sc : Int32} (hR : ROk fr) (hQ : RowOk fr f) (hw : WorOk f) (hs : 1 ≤ sc.toInt ∧ sc.toInt ≤ 1296) : ∀ (n k : Nat), k < n → (k : Int) < (fr 1).toInt → 0 ≤ (rval fr ft f sc n k).toInt ∧ (rval fr ft f sc n k).toInt ≤ 128304 * 9 ^ ccC fr (k + 1)
  | 0, k, h, _ => by omega
  | n + 1, k, h, hk => by
    have hn := hR.nodes
    have hm := hR.many (27 + k) (by omega) (by omega)
    have hkd := hR.kind (9 + k) (by omega) (by omega)
    have hc2 : ccC fr (k + 1) ≤ 2 := hR.cc (k + 1) (by omega)
    have hcm : ccC fr k ≤ ccC fr (k + 1) := cntP_mono (P := fun j => (fr (9 + j)).toInt = 3) k 1
    have hp9 : (1 : Int) ≤ 9 ^ ccC fr (k + 1) := by
      rcases (show ccC fr (k + 1) = 0 ∨ ccC fr (k + 1) = 1 ∨ ccC fr (k + 1) = 2 by omega) with e | e | e <;> rw [e] <;> decide
    have hpm : (9 : Int) ^ ccC fr k ≤ 9 ^ ccC fr (k + 1) := by
      rcases (show ccC fr (k + 1) = 0 ∨ ccC fr (k + 1) = 1 ∨ ccC fr (k + 1) = 2 by omega) with e | e | e <;> rcases (show ccC fr k = 0 ∨ ccC fr k = 1 ∨ ccC fr k = 2 by omega) with e' | e' | e' <;> rw [e, e'] <;> first | decide | omega
    have hv : ∀ i : Nat, i < (fr (27 + k)).toInt.toNat → 0 ≤ (rval fr ft f sc n (f (4 * k + i)).toNatClampNeg).toInt ∧ (rval fr ft f sc n (f (4 * k + i)).toNatClampNeg).toInt ≤ 128304 * 9 ^ ccC fr k := by
      intro i hi
      have h1 := hQ.lt k i hk (by omega)
      have h2 := ti_cl (x := f (4 * k + i)) rfl h1.1
      have h3 := rval_in (ft := ft) hR hQ hw hs n (f (4 * k + i)).toNatClampNeg (by omega) (by omega)
      have h4 := cntP_mono (P := fun j => (fr (9 + j)).toInt = 3) ((f (4 * k + i)).toNatClampNeg + 1) (k - ((f (4 * k + i)).toNatClampNeg + 1))
      rw [show (f (4 * k + i)).toNatClampNeg + 1 + (k - ((f (4 * k + i)).toNatClampNeg + 1)) = k from by omega] at h4
      have h4 : ccC fr ((f (4 * k + i)).toNatClampNeg + 1) ≤ ccC fr k := h4
      have h5 : (9 : Int) ^ ccC fr ((f (4 * k + i)).toNatClampNeg + 1) ≤ 9 ^ ccC fr k := by
        rcases (show ccC fr k = 0 ∨ ccC fr k = 1 ∨ ccC fr k = 2 by omega) with e | e | e <;> rcases (show ccC fr ((f (4 * k + i)).toNatClampNeg + 1) = 0 ∨ ccC fr ((f (4 * k + i)).toNatClampNeg + 1) = 1 ∨ ccC fr ((f (4 * k + i)).toNatClampNeg + 1) = 2 by omega) with e' | e' | e' <;> rw [e, e'] <;> first | decide | omega
      omega
    rw [rval]
    by_cases h0 : (fr (9 + k)).toInt = 0
    · rw [if_pos h0]
      have h1 := hw (72 + k) (by omega) (by omega)
      have p1 : 0 ≤ (f (72 + k)).toInt * sc.toInt := Int.mul_nonneg h1.1 (by omega)
      have p2 : (f (72 + k)).toInt * sc.toInt ≤ 99 * 1296 := Int.mul_le_mul h1.2 hs.2 (by omega) (by decide)
      rw [fb_mulI (by omega) (by omega)]
      omega
    · rw [if_neg h0]
      have hm1 := hR.inner k hk h0
      by_cases h3 : (fr (9 + k)).toInt = 3
      · rw [if_pos h3, h3, startV_3]
        have hc1 : ccC fr (k + 1) = ccC fr k + 1 := (cnt_at (P := fun j => (fr (9 + j)).toInt = 3) k).1 h3
        have hX : (128304 : Int) * 9 ^ ccC fr k ≤ 1154736 := by
          rcases (show ccC fr k = 0 ∨ ccC fr k = 1 by omega) with e | e <;> rw [e] <;> decide
        have hX0 : (0 : Int) ≤ 128304 * 9 ^ ccC fr k := by
          rcases (show ccC fr k = 0 ∨ ccC fr k = 1 by omega) with e | e <;> rw [e] <;> decide
        have e9 : (128304 : Int) * 9 ^ ccC fr (k + 1) = 9 * (128304 * 9 ^ ccC fr k) := by
          rw [hc1]
          rcases (show ccC fr k = 0 ∨ ccC fr k = 1 by omega) with e | e <;> rw [e] <;> decide
        have hF := foldC_in (n0 := 0) (v := fun i => rval fr ft f sc n (f (4 * k + i)).toNatClampNeg) (w := fun i => wOf fr ft k (f (4 * k + i)) (fr (27 + k)).toInt.toNat 0) (by decide) hX hX0 (fr (27 + k)).toInt.toNat (by omega) hv (fun i _ => wOf_in hR (by omega) _ _ (by omega))
        have hS := sum32_in (g := fun i => fr (45 + 4 * k + i)) (fr (27 + k)).toInt.toNat (by omega) (fun i hi => ⟨hR.chance k i hk h3 (by omega), (hR.wts (45 + 4 * k + i) (by omega) (by omega)).2⟩)
        rw [e9]
        generalize foldV 3 0 (fun i => rval fr ft f sc n (f (4 * k + i)).toNatClampNeg) (fun i => wOf fr ft k (f (4 * k + i)) (fr (27 + k)).toInt.toNat 0) (fr (27 + k)).toInt.toNat = N at hF ⊢
        generalize sum32 (fun i => fr (45 + 4 * k + i)) (fr (27 + k)).toInt.toNat = S at hS ⊢
        rw [ti_divE (z := N / S) rfl rfl rfl hF.1 (by omega)]
        refine ⟨Int.ediv_nonneg hF.1 (by omega), ?_⟩
        refine Int.le_of_lt_add_one (Int.ediv_lt_of_lt_mul (by omega) ?_)
        have q1 : 9 * (128304 * 9 ^ ccC fr k) * ((fr (27 + k)).toInt.toNat : Int) ≤ 9 * (128304 * 9 ^ ccC fr k) * S.toInt := Int.mul_le_mul_of_nonneg_left hS.1 (by omega)
        have q2 : (9 * (128304 * 9 ^ ccC fr k) + 1) * S.toInt = 9 * (128304 * 9 ^ ccC fr k) * S.toInt + S.toInt := by rw [Int.add_mul, Int.one_mul]
        omega
      · rw [if_neg h3]
        have hX : (128304 : Int) * 9 ^ ccC fr k ≤ 100000000 := by
          rcases (show ccC fr k = 0 ∨ ccC fr k = 1 ∨ ccC fr k = 2 by omega) with e | e | e <;> rw [e] <;> decide
        rcases (show (fr (9 + k)).toInt = 1 ∨ (fr (9 + k)).toInt = 2 by omega) with h1 | h1
        · rw [h1, startV_1]
          have hF := (foldK_in (n0 := -100000000) (v := fun i => rval fr ft f sc n (f (4 * k + i)).toNatClampNeg) (w := fun i => wOf fr ft k (f (4 * k + i)) (fr (27 + k)).toInt.toNat 0) (by decide) (fr (27 + k)).toInt.toNat hv).2 (by omega)
          omega
        · rw [h1, startV_2]
          have hF := foldQ_in (n0 := 100000000) (v := fun i => rval fr ft f sc n (f (4 * k + i)).toNatClampNeg) (w := fun i => wOf fr ft k (f (4 * k + i)) (fr (27 + k)).toInt.toNat 0) (by rw [show (100000000 : Int32).toInt = 100000000 from by decide]; exact hX) (fr (27 + k)).toInt.toNat hv (by omega)
          omega
theorem foldK_ex {n0 : Int32} {v w : Nat → Int32} : ∀ m : Nat, (∀ i, i < m → n0.toInt ≤ (v i).toInt) → (m = 0 ∧ foldV 1 n0 v w m = n0) ∨ ∃ j, j < m ∧ v j = foldV 1 n0 v w m
  | 0, _ => Or.inl ⟨rfl, rfl⟩
  | m + 1, hv => by
    have e : foldV 1 n0 v w (m + 1) = if (foldV 1 n0 v w m).toInt < (v m).toInt then v m else foldV 1 n0 v w m := by rw [foldV, stepV, if_pos rfl]
    right
    rw [e]
    by_cases hc : (foldV 1 n0 v w m).toInt < (v m).toInt
    · rw [if_pos hc]; exact ⟨m, by omega, rfl⟩
    · rw [if_neg hc]
      rcases foldK_ex (n0 := n0) (w := w) m (fun i hi => hv i (by omega)) with ⟨h1, h2⟩ | ⟨j, h1, h2⟩
      · refine ⟨m, by omega, ?_⟩
        rw [h2] at hc ⊢
        have := hv m (by omega)
        exact Int32.toInt_inj.mp (by omega)
      · exact ⟨j, by omega, h2⟩
theorem foldQ_ex {n0 : Int32} {v w : Nat → Int32} : ∀ m : Nat, (∀ i, i < m → (v i).toInt ≤ n0.toInt) → (m = 0 ∧ foldV 2 n0 v w m = n0) ∨ ∃ j, j < m ∧ v j = foldV 2 n0 v w m
  | 0, _ => Or.inl ⟨rfl, rfl⟩
  | m + 1, hv => by
    have e : foldV 2 n0 v w (m + 1) = if (v m).toInt < (foldV 2 n0 v w m).toInt then v m else foldV 2 n0 v w m := by rw [foldV, stepV, if_neg (by decide), if_pos rfl]
    right
    rw [e]
    by_cases hc : (v m).toInt < (foldV 2 n0 v w m).toInt
    · rw [if_pos hc]; exact ⟨m, by omega, rfl⟩
    · rw [if_neg hc]
      rcases foldQ_ex (n0 := n0) (w := w) m (fun i hi => hv i (by omega)) with ⟨h1, h2⟩ | ⟨j, h1, h2⟩
      · refine ⟨m, by omega, ?_⟩
        rw [h2] at hc ⊢
        have := hv m (by omega)
        exact Int32.toInt_inj.mp (by omega)
      · exact ⟨j, by omega, h2⟩
theorem best_ex {fr ft f : Nat → Int32} {sc : Int32} (hR : ROk fr) (hQ : RowOk fr f) (hw : WorOk f) (hs : 1 ≤ sc.toInt ∧ sc.toInt ≤ 1296) {k : Nat} (hk : (k : Int) < (fr 1).toInt) (hkd : (fr (9 + k)).toInt = 1 ∨ (fr (9 + k)).toInt = 2) : ∃ j : Nat, (j : Int) < (fr (27 + k)).toInt ∧ rval fr ft f sc 18 (f (4 * k + j)).toNatClampNeg = rval fr ft f sc 18 k := by
  have hn := hR.nodes
  have hm := hR.many (27 + k) (by omega) (by omega)
  have hm1 := hR.inner k hk (by omega)
  have hp : ∀ i : Nat, i < (fr (27 + k)).toInt.toNat → (f (4 * k + i)).toNatClampNeg < k := fun i hi => by
    have h1 := hQ.lt k i hk (by omega)
    have h2 := ti_cl (x := f (4 * k + i)) rfl h1.1
    omega
  have hv : ∀ i : Nat, i < (fr (27 + k)).toInt.toNat → 0 ≤ (rval fr ft f sc 17 (f (4 * k + i)).toNatClampNeg).toInt ∧ (rval fr ft f sc 17 (f (4 * k + i)).toNatClampNeg).toInt ≤ 100000000 := fun i hi => by
    have h3 := rval_in (ft := ft) hR hQ hw hs 17 (f (4 * k + i)).toNatClampNeg (by have := hp i hi; omega) (by have := hp i hi; omega)
    have hc2 : ccC fr ((f (4 * k + i)).toNatClampNeg + 1) ≤ 2 := hR.cc _ (by have := hp i hi; omega)
    have : (128304 : Int) * 9 ^ ccC fr ((f (4 * k + i)).toNatClampNeg + 1) ≤ 100000000 := by
      rcases (show ccC fr ((f (4 * k + i)).toNatClampNeg + 1) = 0 ∨ ccC fr ((f (4 * k + i)).toNatClampNeg + 1) = 1 ∨ ccC fr ((f (4 * k + i)).toNatClampNeg + 1) = 2 by omega) with e | e | e <;> rw [e] <;> decide
    omega
  have hfu : ∀ i : Nat, i < (fr (27 + k)).toInt.toNat → rval fr ft f sc 17 (f (4 * k + i)).toNatClampNeg = rval fr ft f sc 18 (f (4 * k + i)).toNatClampNeg := fun i hi => rval_fuel hQ 17 _ (by have := hp i hi; omega) (by have := hp i hi; omega)
  have hr : rval fr ft f sc 18 k = foldV (fr (9 + k)).toInt (startV (fr (9 + k)).toInt) (fun i => rval fr ft f sc 17 (f (4 * k + i)).toNatClampNeg) (fun i => wOf fr ft k (f (4 * k + i)) (fr (27 + k)).toInt.toNat 0) (fr (27 + k)).toInt.toNat := by
    rw [rval, if_neg (by omega), if_neg (by omega)]
  rw [hr]
  rcases hkd with h1 | h1
  · rw [h1, startV_1]
    rcases foldK_ex (n0 := -100000000) (v := fun i => rval fr ft f sc 17 (f (4 * k + i)).toNatClampNeg) (w := fun i => wOf fr ft k (f (4 * k + i)) (fr (27 + k)).toInt.toNat 0) (fr (27 + k)).toInt.toNat (fun i hi => by have := hv i hi; rw [show ((-100000000 : Int32)).toInt = -100000000 from by decide]; omega) with ⟨h2, _⟩ | ⟨j, h2, h3⟩
    · omega
    · exact ⟨j, by omega, by rw [← hfu j h2]; exact h3⟩
  · rw [h1, startV_2]
    rcases foldQ_ex (n0 := 100000000) (v := fun i => rval fr ft f sc 17 (f (4 * k + i)).toNatClampNeg) (w := fun i => wOf fr ft k (f (4 * k + i)) (fr (27 + k)).toInt.toNat 0) (fr (27 + k)).toInt.toNat (fun i hi => by have := hv i hi; rw [show (100000000 : Int32).toInt = 100000000 from by decide]; omega) with ⟨h2, _⟩ | ⟨j, h2, h3⟩
    · omega
    · exact ⟨j, by omega, by rw [← hfu j h2]; exact h3⟩
theorem sum_step {g : Nat → Int32} {n n' z : Int32} {i i' : Nat} (h : n = sum32 g i) (e : n' = n + z) (hz : (g i).toInt = z.toInt) (hi : i' = i + 1) : n' = sum32 g i' := by
  subst hi
  rw [e, sum32, ← h, Int32.toInt_inj.mp hz]
theorem wOf_next {fr ft : Nat → Int32} {k m i i' : Nat} {part z r : Int32} (h : r = wOf fr ft k part (m - i) i) (hz : (ft (4 * k + i)).toInt = z.toInt) (hne : z.toInt ≠ part.toInt) (him : i < m) (hi : i' = i + 1) : r = wOf fr ft k part (m - i') i' := by
  subst hi
  rw [h, show m - i = (m - (i + 1)) + 1 from by omega, wOf, if_neg (by omega)]
theorem wOf_hit {fr ft : Nat → Int32} {k m i : Nat} {part z x r : Int32} (h : r = wOf fr ft k part (m - i) i) (hz : (ft (4 * k + i)).toInt = z.toInt) (he : z.toInt = part.toInt) (him : i < m) (hx : (fr (45 + 4 * k + i)).toInt = x.toInt) : x = r := by
  rw [h, show m - i = (m - (i + 1)) + 1 from by omega, wOf, if_pos (by omega)]
  exact (Int32.toInt_inj.mp hx).symm
theorem wOf_out {fr ft : Nat → Int32} {k m i : Nat} {part r : Int32} (h : r = wOf fr ft k part (m - i) i) (him : m ≤ i) : 0 = r := by
  rw [h, show m - i = 0 from by omega, wOf]
abbrev VF (fr ft f : Nat → Int32) (sc : Int32) (n k : Nat) : Nat → Int32 := fun i => rval fr ft f sc n (f (4 * k + i)).toNatClampNeg
abbrev WF (fr ft f : Nat → Int32) (k : Nat) : Nat → Int32 := fun i => wOf fr ft k (f (4 * k + i)) (fr (27 + k)).toInt.toNat 0
theorem rval_word {fr ft f : Nat → Int32} {sc x z : Int32} {n k : Nat} (h0 : (fr (9 + k)).toInt = 0) (hz : (f (72 + k)).toInt = z.toInt) (e : x = z * sc) : x = rval fr ft f sc (n + 1) k := by
  rw [rval, if_pos h0, e, Int32.toInt_inj.mp hz]
theorem rval_fold {fr ft f : Nat → Int32} {sc x : Int32} {n k i : Nat} (h0 : (fr (9 + k)).toInt ≠ 0) (h3 : (fr (9 + k)).toInt ≠ 3) (h : x = foldV (fr (9 + k)).toInt (startV (fr (9 + k)).toInt) (VF fr ft f sc n k) (WF fr ft f k) i) (hi : i = (fr (27 + k)).toInt.toNat) : x = rval fr ft f sc (n + 1) k := by
  subst hi
  rw [rval, if_neg h0, if_neg h3]; exact h
theorem rval_ch {fr ft f : Nat → Int32} {sc x y z : Int32} {n k i : Nat} (h3 : (fr (9 + k)).toInt = 3) (h : x = foldV (fr (9 + k)).toInt (startV (fr (9 + k)).toInt) (VF fr ft f sc n k) (WF fr ft f k) i) (hi : i = (fr (27 + k)).toInt.toNat) (hy : y = sum32 (fun i => fr (45 + 4 * k + i)) (fr (27 + k)).toInt.toNat) (e : z = x / y) : z = rval fr ft f sc (n + 1) k := by
  subst hi
  rw [rval, if_neg (by omega), if_pos h3, e, h, hy]
theorem fold_step {fr ft f : Nat → Int32} {sc n n' v part : Int32} {m k i i' : Nat} (h : n = foldV (fr (9 + k)).toInt (startV (fr (9 + k)).toInt) (VF fr ft f sc m k) (WF fr ft f k) i) (hp : (f (4 * k + i)).toInt = part.toInt) (hv : v = rval fr ft f sc m part.toNatClampNeg) (hs : n' = stepV (fr (9 + k)).toInt n v (wOf fr ft k part (fr (27 + k)).toInt.toNat 0)) (hi : i' = i + 1) : n' = foldV (fr (9 + k)).toInt (startV (fr (9 + k)).toInt) (VF fr ft f sc m k) (WF fr ft f k) i' := by
  subst hi
  have e := Int32.toInt_inj.mp hp
  subst e
  rw [foldV, ← h, hs, hv]
theorem step_k1 {kd : Int} {n v w : Int32} (hk : kd = 1) (h : n.toInt < v.toInt) : v = stepV kd n v w := by rw [stepV, if_pos hk, if_pos h]
theorem step_k0 {kd : Int} {n v w : Int32} (hk : kd = 1) (h : v.toInt ≤ n.toInt) : n = stepV kd n v w := by rw [stepV, if_pos hk, if_neg (by omega)]
theorem step_q1 {kd : Int} {n v w : Int32} (hk : kd = 2) (h : v.toInt < n.toInt) : v = stepV kd n v w := by rw [stepV, if_neg (by omega), if_pos hk, if_pos h]
theorem step_q0 {kd : Int} {n v w : Int32} (hk : kd = 2) (h : n.toInt ≤ v.toInt) : n = stepV kd n v w := by rw [stepV, if_neg (by omega), if_pos hk, if_neg (by omega)]
theorem step_c {kd : Int} {n v w x1 x2 wv : Int32} (h1 : kd ≠ 1) (h2 : kd ≠ 2) (e2 : x2 = n + x1) (e1 : x1 = v * wv) (hw : wv = w) : x2 = stepV kd n v w := by rw [stepV, if_neg h1, if_neg h2, e2, e1, hw]
def BestJ (fr ft f : Nat → Int32) (sc : Int32) (k : Nat) (i : Int) : Prop := ∃ j : Nat, i ≤ (j : Int) ∧ (j : Int) < (fr (27 + k)).toInt ∧ rval fr ft f sc 18 (f (4 * k + j)).toNatClampNeg = rval fr ft f sc 18 k
theorem best_lt {fr ft f : Nat → Int32} {sc : Int32} {k : Nat} {i : Int} (h : BestJ fr ft f sc k i) : i < (fr (27 + k)).toInt := by
  obtain ⟨j, h1, h2, _⟩ := h
  omega
theorem best_start {fr ft f : Nat → Int32} {sc : Int32} {k : Nat} {i : Int} (hi : i = 0) (h : ∃ j : Nat, (j : Int) < (fr (27 + k)).toInt ∧ rval fr ft f sc 18 (f (4 * k + j)).toNatClampNeg = rval fr ft f sc 18 k) : BestJ fr ft f sc k i := by
  obtain ⟨j, h1, h2⟩ := h
  exact ⟨j, by omega, h1, h2⟩
theorem best_go {fr ft f : Nat → Int32} {sc a b z : Int32} {k n : Nat} {i i' : Int} (h : BestJ fr ft f sc k i) (hn : (n : Int) = i) (hz : (f (4 * k + n)).toInt = z.toInt) (ha : a = rval fr ft f sc 18 z.toNatClampNeg) (hb : b = rval fr ft f sc 18 k) (hne : a.toInt ≠ b.toInt) (hi : i' = i + 1) : BestJ fr ft f sc k i' := by
  obtain ⟨j, h1, h2, h3⟩ := h
  refine ⟨j, ?_, h2, h3⟩
  by_cases e : j = n
  · exfalso
    apply hne
    rw [ha, hb, ← h3, e, Int32.toInt_inj.mp hz]
  · omega
end
