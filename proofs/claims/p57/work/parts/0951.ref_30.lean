/-! the reference: what its rows keep -/
def cntP (P : Nat → Prop) [DecidablePred P] : Nat → Nat
  | 0 => 0
  | n + 1 => cntP P n + if P n then 1 else 0
def ROk (f : Nat → Int32)  : Prop :=
  (0 ≤ (f 0).toInt ∧ (f 0).toInt ≤ 100) ∧
  (0 ≤ (f 1).toInt ∧ (f 1).toInt ≤ 18) ∧
  (0 ≤ (f 3).toInt ∧ (f 3).toInt ≤ 4) ∧
  (∀ j : Nat, 9 ≤ j → j < 27 → 0 ≤ (f j).toInt ∧ (f j).toInt ≤ 3) ∧
  (∀ j : Nat, 27 ≤ j → j < 45 → 0 ≤ (f j).toInt ∧ (f j).toInt ≤ 4) ∧
  (∀ j : Nat, 45 ≤ j → j < 117 → 0 ≤ (f j).toInt ∧ (f j).toInt ≤ 9) ∧
  (∀ j : Nat, j < 4 → (0 ≤ (f (117 + 2 * j)).toInt ∧ (f (117 + 2 * j)).toInt ≤ 17) ∧ 0 ≤ (f (118 + 2 * j)).toInt ∧ (f (118 + 2 * j)).toInt ≤ 99) ∧
  (∀ k : Nat, (k : Int) < (f 1).toInt → (f (9 + k)).toInt ≠ 0 → 1 ≤ (f (27 + k)).toInt) ∧
  (∀ k i : Nat, (k : Int) < (f 1).toInt → (f (9 + k)).toInt = 3 → (i : Int) < (f (27 + k)).toInt → 1 ≤ (f (45 + 4 * k + i)).toInt) ∧
  (∀ n : Nat, (n : Int) ≤ (f 1).toInt → cntP (fun k => (f (9 + k)).toInt = 0) n ≤ 10) ∧
  (∀ n : Nat, (n : Int) ≤ (f 1).toInt → cntP (fun k => (f (9 + k)).toInt ≠ 0) n ≤ 8) ∧
  (∀ n : Nat, (n : Int) ≤ (f 1).toInt → cntP (fun k => (f (9 + k)).toInt = 3) n ≤ 2)
theorem ROk.slips {f : Nat → Int32}  (h : ROk f) : 0 ≤ (f 0).toInt ∧ (f 0).toInt ≤ 100 := h.1
theorem ROk.nodes {f : Nat → Int32}  (h : ROk f) : 0 ≤ (f 1).toInt ∧ (f 1).toInt ≤ 18 := h.2.1
theorem ROk.uns {f : Nat → Int32}  (h : ROk f) : 0 ≤ (f 3).toInt ∧ (f 3).toInt ≤ 4 := h.2.2.1
theorem ROk.kind {f : Nat → Int32}  (h : ROk f) : ∀ j : Nat, 9 ≤ j → j < 27 → 0 ≤ (f j).toInt ∧ (f j).toInt ≤ 3 := h.2.2.2.1
theorem ROk.many {f : Nat → Int32}  (h : ROk f) : ∀ j : Nat, 27 ≤ j → j < 45 → 0 ≤ (f j).toInt ∧ (f j).toInt ≤ 4 := h.2.2.2.2.1
theorem ROk.wts {f : Nat → Int32}  (h : ROk f) : ∀ j : Nat, 45 ≤ j → j < 117 → 0 ≤ (f j).toInt ∧ (f j).toInt ≤ 9 := h.2.2.2.2.2.1
theorem ROk.dnode {f : Nat → Int32}  (h : ROk f) : ∀ j : Nat, j < 4 → 0 ≤ (f (117 + 2 * j)).toInt ∧ (f (117 + 2 * j)).toInt ≤ 17 := fun j hj => (h.2.2.2.2.2.2.1 j hj).1
theorem ROk.dn2 {f : Nat → Int32}  (h : ROk f) : ∀ j : Nat, j < 4 → (0 ≤ (f (117 + 2 * j)).toInt ∧ (f (117 + 2 * j)).toInt ≤ 17) ∧ 0 ≤ (f (118 + 2 * j)).toInt ∧ (f (118 + 2 * j)).toInt ≤ 99 := h.2.2.2.2.2.2.1
theorem ROk.inner {f : Nat → Int32}  (h : ROk f) : ∀ k : Nat, (k : Int) < (f 1).toInt → (f (9 + k)).toInt ≠ 0 → 1 ≤ (f (27 + k)).toInt := h.2.2.2.2.2.2.2.1
theorem ROk.chance {f : Nat → Int32}  (h : ROk f) : ∀ k i : Nat, (k : Int) < (f 1).toInt → (f (9 + k)).toInt = 3 → (i : Int) < (f (27 + k)).toInt → 1 ≤ (f (45 + 4 * k + i)).toInt := h.2.2.2.2.2.2.2.2.1
theorem ROk.cw {f : Nat → Int32}  (h : ROk f) : ∀ n : Nat, (n : Int) ≤ (f 1).toInt → cntP (fun k => (f (9 + k)).toInt = 0) n ≤ 10 := h.2.2.2.2.2.2.2.2.2.1
theorem ROk.ci {f : Nat → Int32}  (h : ROk f) : ∀ n : Nat, (n : Int) ≤ (f 1).toInt → cntP (fun k => (f (9 + k)).toInt ≠ 0) n ≤ 8 := h.2.2.2.2.2.2.2.2.2.2.1
theorem ROk.cc {f : Nat → Int32}  (h : ROk f) : ∀ n : Nat, (n : Int) ≤ (f 1).toInt → cntP (fun k => (f (9 + k)).toInt = 3) n ≤ 2 := h.2.2.2.2.2.2.2.2.2.2.2
def RowOk (fr f : Nat → Int32)  : Prop :=
  (∀ k i : Nat, (k : Int) < (fr 1).toInt → (i : Int) < (fr (27 + k)).toInt → 0 ≤ (f (4 * k + i)).toInt ∧ (f (4 * k + i)).toInt < k) ∧
  (∀ k i j : Nat, (k : Int) < (fr 1).toInt → i < j → (j : Int) < (fr (27 + k)).toInt → f (4 * k + i) ≠ f (4 * k + j))
theorem RowOk.lt {fr f : Nat → Int32}  (h : RowOk fr f) : ∀ k i : Nat, (k : Int) < (fr 1).toInt → (i : Int) < (fr (27 + k)).toInt → 0 ≤ (f (4 * k + i)).toInt ∧ (f (4 * k + i)).toInt < k := h.1
theorem RowOk.ne {fr f : Nat → Int32}  (h : RowOk fr f) : ∀ k i j : Nat, (k : Int) < (fr 1).toInt → i < j → (j : Int) < (fr (27 + k)).toInt → f (4 * k + i) ≠ f (4 * k + j) := h.2
def sumN (g : Nat → Nat) : Nat → Nat
  | 0 => 0
  | n + 1 => sumN g n + g n
theorem sumN_gap {g : Nat → Nat} (hg : ∀ j, 1 ≤ g j) (i : Nat) : ∀ d : Nat, sumN g i + d ≤ sumN g (i + d)
  | 0 => Nat.le_refl _
  | d + 1 => by
    have h := sumN_gap hg i d
    have h2 := hg (i + d)
    show sumN g i + (d + 1) ≤ sumN g (i + d) + g (i + d)
    omega
def wT (c : Nat) : Nat := if c = 0 then 4 else if c = 1 then 7 else if c = 2 then 13 else if c = 3 then 25 else if c = 4 then 49 else if c = 5 then 94 else if c = 6 then 181 else 349
theorem wT_in (c : Nat) : 1 ≤ wT c ∧ wT c ≤ 349 := by unfold wT; (repeat' split) <;> omega
def rkI (f : Nat → Int32) (k : Nat) : Nat := cntP (fun j => (f (9 + j)).toInt ≠ 0) k
def wgt (f : Nat → Int32) (k : Nat) : Nat := if (f (9 + k)).toInt = 0 then 1 else wT (rkI f k)
theorem wgt_in (f : Nat → Int32) (k : Nat) : 1 ≤ wgt f k ∧ wgt f k ≤ 349 := by
  unfold wgt
  split
  · omega
  · exact wT_in _
theorem cntP_mono {P : Nat → Prop} [DecidablePred P] (a : Nat) : ∀ d : Nat, cntP P a ≤ cntP P (a + d)
  | 0 => Nat.le_refl _
  | d + 1 => by
    have h := cntP_mono (P := P) a d
    show cntP P a ≤ cntP P (a + d) + (if P (a + d) then 1 else 0)
    omega
theorem cntP_lt {P : Nat → Prop} [DecidablePred P] {a b : Nat} (h : a < b) (ha : P a) : cntP P a + 1 ≤ cntP P b := by
  have h1 := cntP_mono (P := P) (a + 1) (b - (a + 1))
  rw [show a + 1 + (b - (a + 1)) = b from by omega] at h1
  have h2 : cntP P (a + 1) = cntP P a + 1 := by show cntP P a + (if P a then 1 else 0) = _; rw [if_pos ha]
  omega
def wV (c : Nat) : Nat := if c = 8 then 1 else wT c
def wchk (r a b c d : Nat) : Bool := !((a == 8 || Nat.blt a r) && (b == 8 || Nat.blt b r) && (c == 8 || Nat.blt c r) && (d == 8 || Nat.blt d r) && (a != b || a == 8) && (a != c || a == 8) && (a != d || a == 8) && (b != c || b == 8) && (b != d || b == 8) && (c != d || c == 8)) || Nat.ble (wV a + wV b + wV c + wV d) (wT r)
theorem w4 : (List.range 8).all (fun r => (List.range 9).all (fun a => (List.range 9).all (fun b => (List.range 9).all (fun c => (List.range 9).all (fun d => wchk r a b c d))))) = true := by decide +kernel
theorem w4' {r a b c d : Nat} (hr : r < 8) (ha : a = 8 ∨ a < r) (hb : b = 8 ∨ b < r) (hc : c = 8 ∨ c < r) (hd : d = 8 ∨ d < r) (ab : a = b → a = 8) (ac : a = c → a = 8) (ad : a = d → a = 8) (bc : b = c → b = 8) (bd : b = d → b = 8) (cd : c = d → c = 8) : wV a + wV b + wV c + wV d ≤ wT r := by
  have h := w4
  simp only [List.all_eq_true, List.mem_range] at h
  have h := h r (by omega) a (by omega) b (by omega) c (by omega) d (by omega)
  unfold wchk at h
  rw [Bool.or_eq_true] at h
  rcases h with h | h
  · exfalso
    rw [Bool.not_eq_true', ← Bool.not_eq_true] at h
    apply h
    simp only [Bool.and_eq_true, Bool.or_eq_true, beq_iff_eq, bne_iff_ne, Nat.blt_eq]
    refine ⟨⟨⟨⟨⟨⟨⟨⟨⟨ha, hb⟩, hc⟩, hd⟩, ?_⟩, ?_⟩, ?_⟩, ?_⟩, ?_⟩, ?_⟩ <;> omega
  · exact Nat.le_of_ble_eq_true h
def cdI (f : Nat → Int32) (k : Nat) : Nat := if (f (9 + k)).toInt = 0 then 8 else rkI f k
theorem cd_in {f : Nat → Int32} {p k : Nat} (h : p < k) (h8 : rkI f k < 8) : (cdI f p = 8 ∨ cdI f p < rkI f k) ∧ wgt f p = wV (cdI f p) := by
  unfold cdI wgt
  by_cases hp : (f (9 + p)).toInt = 0
  · rw [if_pos hp, if_pos hp]; exact ⟨Or.inl rfl, rfl⟩
  · rw [if_neg hp, if_neg hp]
    have h1 := cntP_lt (P := fun j => (f (9 + j)).toInt ≠ 0) h hp
    have h1 : rkI f p + 1 ≤ rkI f k := h1
    refine ⟨Or.inr (by omega), ?_⟩
    unfold wV
    rw [if_neg (by omega)]
theorem cd_ne {f : Nat → Int32} {p q : Nat} (h : p ≠ q) (e : cdI f p = cdI f q) (hp8 : rkI f p < 8) (hq8 : rkI f q < 8) : cdI f p = 8 := by
  unfold cdI at e ⊢
  by_cases hp : (f (9 + p)).toInt = 0
  · rw [if_pos hp]
  · rw [if_neg hp] at e ⊢
    by_cases hq : (f (9 + q)).toInt = 0
    · rw [if_pos hq] at e; omega
    · rw [if_neg hq] at e
      exfalso
      rcases Nat.lt_or_gt_of_ne h with h | h
      · have h1 : rkI f p + 1 ≤ rkI f q := cntP_lt (P := fun j => (f (9 + j)).toInt ≠ 0) h hp
        omega
      · have h1 : rkI f q + 1 ≤ rkI f p := cntP_lt (P := fun j => (f (9 + j)).toInt ≠ 0) h hq
        omega
theorem rkI_mono {f : Nat → Int32} {p k : Nat} (h : p < k) : rkI f p ≤ rkI f k := by
  have h1 := cntP_mono (P := fun j => (f (9 + j)).toInt ≠ 0) p (k - p)
  rw [show p + (k - p) = k from by omega] at h1
  exact h1
def rsum (fr f : Nat → Int32) (k i : Nat) : Nat := sumN (fun j => wgt fr (f (4 * k + j)).toNatClampNeg) i
theorem rsum_zero (fr f : Nat → Int32) (k : Nat) : rsum fr f k 0 = 0 := rfl
theorem rsum_succ (fr f : Nat → Int32) (k i : Nat) : rsum fr f k (i + 1) = rsum fr f k i + wgt fr (f (4 * k + i)).toNatClampNeg := rfl
theorem cl_ne {x y : Int32} (hx : 0 ≤ x.toInt) (hy : 0 ≤ y.toInt) (h : x ≠ y) : x.toNatClampNeg ≠ y.toNatClampNeg := by
  intro e
  have h1 := ti_cl (x := x) rfl hx
  have h2 := ti_cl (x := y) rfl hy
  exact h (Int32.toInt_inj.mp (by omega))
theorem wgt_sum {fr f : Nat → Int32} (hR : ROk fr) (hQ : RowOk fr f) {k m : Nat} (hk : (k : Int) < (fr 1).toInt) (hi : (fr (9 + k)).toInt ≠ 0) (hm : (m : Int) = (fr (27 + k)).toInt) : rsum fr f k m ≤ wgt fr k := by
  have hn := hR.nodes
  have hm4 := hR.many (27 + k) (by omega) (by omega)
  have hm1 := hR.inner k hk hi
  have hr8 : rkI fr k < 8 := by
    have h1 := hR.ci (k + 1) (by omega)
    have h2 : cntP (fun j => (fr (9 + j)).toInt ≠ 0) (k + 1) = rkI fr k + 1 := by
      show rkI fr k + (if (fr (9 + k)).toInt ≠ 0 then 1 else 0) = _
      rw [if_pos hi]
    omega
  have hw : wgt fr k = wT (rkI fr k) := by unfold wgt; rw [if_neg hi]
  have hp : ∀ i : Nat, i < m → (f (4 * k + i)).toNatClampNeg < k ∧ 0 ≤ (f (4 * k + i)).toInt := by
    intro i h
    have h1 := hQ.lt k i hk (by omega)
    have h2 := ti_cl (x := f (4 * k + i)) rfl h1.1
    omega
  have hd : ∀ i j : Nat, i < j → j < m → (f (4 * k + i)).toNatClampNeg ≠ (f (4 * k + j)).toNatClampNeg := fun i j h1 h2 => cl_ne (hp i (by omega)).2 (hp j h2).2 (hQ.ne k i j hk h1 (by omega))
  have c1 : ∀ i : Nat, i < m → _ := fun i h => cd_in (f := fr) (hp i h).1 hr8
  have c2 : ∀ i j : Nat, i < j → j < m → cdI fr (f (4 * k + i)).toNatClampNeg = cdI fr (f (4 * k + j)).toNatClampNeg → cdI fr (f (4 * k + i)).toNatClampNeg = 8 := fun i j h1 h2 e => cd_ne (hd i j h1 h2) e (Nat.lt_of_le_of_lt (rkI_mono (hp i (by omega)).1) hr8) (Nat.lt_of_le_of_lt (rkI_mono (hp j h2).1) hr8)
  have v8 : wV 8 = 1 := rfl
  rw [hw]
  rcases (show m = 1 ∨ m = 2 ∨ m = 3 ∨ m = 4 by omega) with rfl | rfl | rfl | rfl
  · have h := w4' (a := cdI fr (f (4 * k + 0)).toNatClampNeg) (b := 8) (c := 8) (d := 8) hr8 (c1 0 (by omega)).1 (Or.inl rfl) (Or.inl rfl) (Or.inl rfl) (fun h => h) (fun h => h) (fun h => h) (fun _ => rfl) (fun _ => rfl) (fun _ => rfl)
    rw [← (c1 0 (by omega)).2] at h
    simp only [rsum_succ, rsum_zero]; omega
  · have h := w4' (a := cdI fr (f (4 * k + 0)).toNatClampNeg) (b := cdI fr (f (4 * k + 1)).toNatClampNeg) (c := 8) (d := 8) hr8 (c1 0 (by omega)).1 (c1 1 (by omega)).1 (Or.inl rfl) (Or.inl rfl) (c2 0 1 (by omega) (by omega)) (fun h => h) (fun h => h) (fun h => h) (fun h => h) (fun _ => rfl)
    rw [← (c1 0 (by omega)).2, ← (c1 1 (by omega)).2] at h
    simp only [rsum_succ, rsum_zero]; omega
  · have h := w4' (a := cdI fr (f (4 * k + 0)).toNatClampNeg) (b := cdI fr (f (4 * k + 1)).toNatClampNeg) (c := cdI fr (f (4 * k + 2)).toNatClampNeg) (d := 8) hr8 (c1 0 (by omega)).1 (c1 1 (by omega)).1 (c1 2 (by omega)).1 (Or.inl rfl) (c2 0 1 (by omega) (by omega)) (c2 0 2 (by omega) (by omega)) (fun h => h) (c2 1 2 (by omega) (by omega)) (fun h => h) (fun h => h)
    rw [← (c1 0 (by omega)).2, ← (c1 1 (by omega)).2, ← (c1 2 (by omega)).2] at h
    simp only [rsum_succ, rsum_zero]; omega
  · have h := w4' (a := cdI fr (f (4 * k + 0)).toNatClampNeg) (b := cdI fr (f (4 * k + 1)).toNatClampNeg) (c := cdI fr (f (4 * k + 2)).toNatClampNeg) (d := cdI fr (f (4 * k + 3)).toNatClampNeg) hr8 (c1 0 (by omega)).1 (c1 1 (by omega)).1 (c1 2 (by omega)).1 (c1 3 (by omega)).1 (c2 0 1 (by omega) (by omega)) (c2 0 2 (by omega) (by omega)) (c2 0 3 (by omega) (by omega)) (c2 1 2 (by omega) (by omega)) (c2 1 3 (by omega) (by omega)) (c2 2 3 (by omega) (by omega))
    rw [← (c1 0 (by omega)).2, ← (c1 1 (by omega)).2, ← (c1 2 (by omega)).2, ← (c1 3 (by omega)).2] at h
    simp only [rsum_succ, rsum_zero]; omega
theorem rsum_gap {fr f : Nat → Int32} (hR : ROk fr) (hQ : RowOk fr f) {k i m : Nat} (hk : (k : Int) < (fr 1).toInt) (hi : (fr (9 + k)).toInt ≠ 0) (hm : (m : Int) = (fr (27 + k)).toInt) (him : i ≤ m) : rsum fr f k i + (m - i) ≤ wgt fr k := by
  have h1 := wgt_sum hR hQ hk hi hm
  have h2 := sumN_gap (g := fun j => wgt fr (f (4 * k + j)).toNatClampNeg) (fun j => (wgt_in fr _).1) i (m - i)
  rw [show i + (m - i) = m from by omega] at h2
  exact Nat.le_trans h2 h1
/-- what a hearing wants to know where it reads a part -/
theorem rsum_at {fr f : Nat → Int32} (hR : ROk fr) (hQ : RowOk fr f) {k i : Nat} {z : Int32} (hk : (k : Int) < (fr 1).toInt) (hi : (fr (9 + k)).toInt ≠ 0) (hlt : (i : Int) < (fr (27 + k)).toInt) (hz : (f (4 * k + i)).toInt = z.toInt) : (rsum fr f k (i + 1) : Int) = rsum fr f k i + wgt fr z.toNatClampNeg ∧ (rsum fr f k (i + 1) : Int) + ((fr (27 + k)).toInt - (i + 1)) ≤ wgt fr k ∧ 1 ≤ wgt fr z.toNatClampNeg := by
  have e : f (4 * k + i) = z := Int32.toInt_inj.mp hz
  have h1 := rsum_succ fr f k i
  rw [e] at h1
  have h2 := rsum_gap (i := i + 1) (m := (fr (27 + k)).toInt.toNat) hR hQ hk hi (by omega) (by omega)
  have h3 := wgt_in fr z.toNatClampNeg
  omega
theorem i2l_nz {y : Int64} {x : Int32} (e : y = x.toInt64) (h : x.toInt ≠ 0) : ¬ y = 0 := by
  intro h0
  have h1 := congrArg Int64.toInt (e.symm.trans h0)
  rw [Int32.toInt_toInt64] at h1
  exact h h1
theorem ti_divE {x y z : Int32} {a b : Int} (h : z = x / y) (hx : x.toInt = a) (hy : y.toInt = b) (h0 : 0 ≤ a) (h1 : 0 < b) : z.toInt = a / b := by
  have hr := fb_rng x
  subst hx; subst hy
  rw [h, Int32.toInt_div, Int.tdiv_eq_ediv_of_nonneg h0]
  have h2 := Int.ediv_le_self y.toInt h0
  have h3 := Int.ediv_nonneg h0 (Int.le_of_lt h1)
  exact fb_bmod (by omega) (by omega)
