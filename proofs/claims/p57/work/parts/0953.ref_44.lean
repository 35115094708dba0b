/-! worths, exactly as the reference reckons them -/
def wOf (fr ft : Nat → Int32) (k : Nat) (part : Int32) : Nat → Nat → Int32
  | 0, _ => 0
  | r + 1, i => if (ft (4 * k + i)).toInt = part.toInt then fr (45 + 4 * k + i) else wOf fr ft k part r (i + 1)
def sum32 (g : Nat → Int32) : Nat → Int32
  | 0 => 0
  | n + 1 => sum32 g n + g n
def stepV (kd : Int) (n v w : Int32) : Int32 := if kd = 1 then (if n.toInt < v.toInt then v else n) else if kd = 2 then (if v.toInt < n.toInt then v else n) else n + v * w
def foldV (kd : Int) (n0 : Int32) (v w : Nat → Int32) : Nat → Int32
  | 0 => n0
  | i + 1 => stepV kd (foldV kd n0 v w i) (v i) (w i)
def startV (kd : Int) : Int32 := if kd = 2 then 100000000 else if kd = 1 then (-100000000) else 0
def rval (fr ft f : Nat → Int32) (sc : Int32) : Nat → Nat → Int32
  | 0, _ => 0
  | n + 1, k => if (fr (9 + k)).toInt = 0 then f (72 + k) * sc else
      if (fr (9 + k)).toInt = 3 then foldV (fr (9 + k)).toInt (startV (fr (9 + k)).toInt) (fun i => rval fr ft f sc n (f (4 * k + i)).toNatClampNeg) (fun i => wOf fr ft k (f (4 * k + i)) (fr (27 + k)).toInt.toNat 0) (fr (27 + k)).toInt.toNat / sum32 (fun i => fr (45 + 4 * k + i)) (fr (27 + k)).toInt.toNat
      else foldV (fr (9 + k)).toInt (startV (fr (9 + k)).toInt) (fun i => rval fr ft f sc n (f (4 * k + i)).toNatClampNeg) (fun i => wOf fr ft k (f (4 * k + i)) (fr (27 + k)).toInt.toNat 0) (fr (27 + k)).toInt.toNat
theorem foldV_congr {kd : Int} {n0 : Int32} {v v' w : Nat → Int32} : ∀ m : Nat, (∀ i, i < m → v i = v' i) → foldV kd n0 v w m = foldV kd n0 v' w m
  | 0, _ => rfl
  | m + 1, h => by
    show stepV kd (foldV kd n0 v w m) (v m) (w m) = stepV kd (foldV kd n0 v' w m) (v' m) (w m)
    rw [foldV_congr m (fun i hi => h i (by omega)), h m (by omega)]
theorem rval_fuel {fr ft f : Nat → Int32} {sc : Int32} (hQ : RowOk fr f) : ∀ (n k : Nat), k < n → (k : Int) < (fr 1).toInt → rval fr ft f sc n k = rval fr ft f sc (n + 1) k
  | 0, k, h, _ => by omega
  | n + 1, k, h, hk => by
    have hv : ∀ i : Nat, i < (fr (27 + k)).toInt.toNat → rval fr ft f sc n (f (4 * k + i)).toNatClampNeg = rval fr ft f sc (n + 1) (f (4 * k + i)).toNatClampNeg := by
      intro i hi
      have h1 := hQ.lt k i hk (by omega)
      have h2 := ti_cl (x := f (4 * k + i)) rfl h1.1
      exact rval_fuel hQ n _ (by omega) (by omega)
    have hf := foldV_congr (kd := (fr (9 + k)).toInt) (n0 := startV (fr (9 + k)).toInt) (v := fun i => rval fr ft f sc n (f (4 * k + i)).toNatClampNeg) (v' := fun i => rval fr ft f sc (n + 1) (f (4 * k + i)).toNatClampNeg) (w := fun i => wOf fr ft k (f (4 * k + i)) (fr (27 + k)).toInt.toNat 0) (fr (27 + k)).toInt.toNat hv
    rw [rval, rval, hf]
theorem wOf_in {fr ft : Nat → Int32} {k : Nat} {part : Int32} (hR : ROk fr) (hk : k < 18) : ∀ r i : Nat, r + i ≤ 4 → 0 ≤ (wOf fr ft k part r i).toInt ∧ (wOf fr ft k part r i).toInt ≤ 9
  | 0, i, _ => by rw [wOf]; decide
  | r + 1, i, h => by
    rw [wOf]
    split
    · exact hR.wts (45 + 4 * k + i) (by omega) (by omega)
    · exact wOf_in hR hk r (i + 1) (by omega)
theorem sum32_in {g : Nat → Int32} : ∀ m : Nat, m ≤ 4 → (∀ i, i < m → 1 ≤ (g i).toInt ∧ (g i).toInt ≤ 9) → (m : Int) ≤ (sum32 g m).toInt ∧ (sum32 g m).toInt ≤ 9 * m
  | 0, _, _ => by rw [sum32]; decide
  | m + 1, h, hg => by
    have h1 := sum32_in m (by omega) (fun i hi => hg i (by omega))
    have h2 := hg m (by omega)
    rw [sum32, fb_addI (by omega) (by omega)]
    omega
theorem foldK_in {n0 : Int32} {v w : Nat → Int32} {X : Int} (h0 : n0.toInt ≤ 0) : ∀ m : Nat, (∀ i, i < m → 0 ≤ (v i).toInt ∧ (v i).toInt ≤ X) → ((foldV 1 n0 v w m).toInt ≤ X ∨ m = 0) ∧ (1 ≤ m → 0 ≤ (foldV 1 n0 v w m).toInt ∧ (foldV 1 n0 v w m).toInt ≤ X)
  | 0, _ => ⟨Or.inr rfl, fun h => by omega⟩
  | m + 1, hv => by
    have ih := foldK_in (n0 := n0) (w := w) h0 m (fun i hi => hv i (by omega))
    have h2 := hv m (by omega)
    have e : foldV 1 n0 v w (m + 1) = if (foldV 1 n0 v w m).toInt < (v m).toInt then v m else foldV 1 n0 v w m := by rw [foldV, stepV, if_pos rfl]
    have h3 : m = 0 → foldV 1 n0 v w m = n0 := fun h => by subst h; rfl
    rw [e]
    split
    · exact ⟨Or.inl h2.2, fun _ => h2⟩
    · by_cases hm : m = 0
      · rw [h3 hm] at *
        refine ⟨Or.inl (by omega), fun _ => by omega⟩
      · have h4 := ih.2 (by omega)
        exact ⟨Or.inl h4.2, fun _ => h4⟩
theorem foldQ_in {n0 : Int32} {v w : Nat → Int32} {X : Int} (h0 : X ≤ n0.toInt) : ∀ m : Nat, (∀ i, i < m → 0 ≤ (v i).toInt ∧ (v i).toInt ≤ X) → 1 ≤ m → 0 ≤ (foldV 2 n0 v w m).toInt ∧ (foldV 2 n0 v w m).toInt ≤ X
  | 0, _, h => by omega
  | m + 1, hv, _ => by
    have h2 := hv m (by omega)
    have e : foldV 2 n0 v w (m + 1) = if (v m).toInt < (foldV 2 n0 v w m).toInt then v m else foldV 2 n0 v w m := by rw [foldV, stepV, if_neg (by decide), if_pos rfl]
    rw [e]
    by_cases hc : (v m).toInt < (foldV 2 n0 v w m).toInt
    · rw [if_pos hc]; exact h2
    · rw [if_neg hc]
      by_cases hm : m = 0
      · subst hm
        have h9 : foldV 2 n0 v w 0 = n0 := rfl
        rw [h9] at hc ⊢
        omega
      · exact foldQ_in h0 m (fun i hi => hv i (by omega)) (by omega)
theorem foldC_in {n0 : Int32} {v w : Nat → Int32} {X : Int} (h0 : n0.toInt = 0) (hX : X ≤ 1154736) (hX0 : 0 ≤ X) : ∀ m : Nat, m ≤ 4 → (∀ i, i < m → 0 ≤ (v i).toInt ∧ (v i).toInt ≤ X) → (∀ i, i < m → 0 ≤ (w i).toInt ∧ (w i).toInt ≤ 9) → 0 ≤ (foldV 3 n0 v w m).toInt ∧ (foldV 3 n0 v w m).toInt ≤ 9 * X * m
  | 0, _, _, _ => by
    have : foldV 3 n0 v w 0 = n0 := rfl
    rw [this, h0]; exact ⟨Int.le_refl _, by simp⟩
  | m + 1, hm, hv, hw => by
    have ih := foldC_in h0 hX hX0 m (by omega) (fun i hi => hv i (by omega)) (fun i hi => hw i (by omega))
    have h2 := hv m (by omega)
    have h3 := hw m (by omega)
    have e : foldV 3 n0 v w (m + 1) = foldV 3 n0 v w m + v m * w m := by rw [foldV, stepV, if_neg (by decide), if_neg (by decide)]
    have p1 : 0 ≤ (v m).toInt * (w m).toInt := Int.mul_nonneg h2.1 h3.1
    have p2 : (v m).toInt * (w m).toInt ≤ X * 9 := Int.mul_le_mul h2.2 h3.2 h3.1 hX0
    have p3 : (v m * w m).toInt = (v m).toInt * (w m).toInt := fb_mulI (by omega) (by omega)
    have p4 : 9 * X * (m : Int) ≤ 9 * X * 3 := Int.mul_le_mul_of_nonneg_left (by omega) (by omega)
    have p5 : 9 * X * ((m + 1 : Nat) : Int) = 9 * X * (m : Int) + 9 * X := by rw [Int.natCast_add, Int.mul_add]; simp
    rw [e, fb_addI (by omega) (by omega), p3, p5]
    omega
theorem startV_1 : startV 1 = -100000000 := rfl
theorem startV_2 : startV 2 = 100000000 := rfl
theorem startV_3 : startV 3 = 0 := rfl
def ccC (fr : Nat → Int32) (k : Nat) : Nat := cntP (fun j => (fr (9 + j)).toInt = 3) k
theorem rval_in {fr ft f : Nat → Int32} {sc : Int32} (hR : ROk fr) (hQ : RowOk fr f) (hw : WorOk f) (hs : 1 ≤ sc.toInt ∧ sc.toInt ≤ 1296) : ∀ (n k : Nat), k < n → (k : Int) < (fr 1).toInt → 0 ≤ (rval fr ft f sc n k).toInt ∧ (rval fr ft f sc n k).toInt ≤ 128304 * 9 ^ ccC fr (k + 1)
  | 0, k, h, _ => by omega
  | n + 1, k, h, hk => by
    have hn := hR.nodes
    have hm := hR.many (27 + k) (by omega) (by omega)
    have hkd := hR.kind (9 + k) (by omega) (by omega)
    have hc2 : ccC fr (k + 1) ≤ 2 := hR.cc (k + 1) (by omega)
    have hcm : ccC fr k ≤ ccC fr (k + 1) := cntP_mono (P := fun j => (fr (9 + j)).toInt = 3) k 1
    have hp9 : (1 : Int) ≤ 9 ^ ccC fr (k + 1) := by
      rcases (show ccC fr (k + 1) = 0 ∨ ccC fr (k + 1) = 1 ∨ ccC fr (k + 1) = 2 by omega) with e | e | e <;> rw [e] <;> decide
    have hpm : (9 : Int) ^ ccC fr k ≤ 9 ^ ccC fr (k + 1) := by
      rcases (show ccC fr (k + 1) = 0 ∨ ccC fr (k + 1) = 1 ∨ ccC fr (k + 1) = 2 by omega) with e | e | e <;> rcases (show ccC fr k = 0 ∨ ccC fr k = 1 ∨ ccC fr k = 2 by omega) with e' | e' | e' <;> rw [e, e'] <;> first | decide | omega
    have hv : ∀ i : Nat, i < (fr (27 + k)).toInt.toNat → 0 ≤ (rval fr ft f sc n (f (4 * k + i)).toNatClampNeg).toInt ∧ (rval fr ft f sc n (f (4 * k + i)).toNatClampNeg).toInt ≤ 128304 * 9 ^ ccC fr k := by
      intro i hi
      have h1 := hQ.lt k i hk (by omega)
      have h2 := ti_cl (x := f (4 * k + i)) rfl h1.1
      have h3 := rval_in (ft := ft) hR hQ hw hs n (f (4 * k + i)).toNatClampNeg (by omega) (by omega)
      have h4 := cntP_mono (P := fun j => (fr (9 + j)).toInt = 3) ((f (4 * k + i)).toNatClampNeg + 1) (k - ((f (4 * k + i)).toNatClampNeg + 1))
      rw [show (f (4 * k + i)).toNatClampNeg + 1 + (k - ((f (4 * k + i)).toNatClampNeg + 1)) = k from by omega] at h4
      have h4 : ccC fr ((f (4 * k + i)).toNatClampNeg + 1) ≤ ccC fr k := h4
      have h5 : (9 : Int) ^ ccC fr ((f (4 * k + i)).toNatClampNeg + 1) ≤ 9 ^ ccC fr k := by
        rcases (show ccC fr k = 0 ∨ ccC fr k = 1 ∨ ccC fr k = 2 by omega) with e | e | e <;> rcases (show ccC fr ((f (4 * k + i)).toNatClampNeg + 1) = 0 ∨ ccC fr ((f (4 * k + i)).toNatClampNeg + 1) = 1 ∨ ccC fr ((f (4 * k + i)).toNatClampNeg + 1) = 2 by omega) with e' | e' | e' <;> rw [e, e'] <;> first | decide | omega
      omega
    rw [rval]
    by_cases h0 : (fr (9 + k)).toInt = 0
    · rw [if_pos h0]
      have h1 := hw (72 + k) (by omega) (by omega)
      have p1 : 0 ≤ (f (72 + k)).toInt * sc.toInt := Int.mul_nonneg h1.1 (by omega)
      have p2 : (f (72 + k)).toInt * sc.toInt ≤ 99 * 1296 := Int.mul_le_mul h1.2 hs.2 (by omega) (by decide)
      rw [fb_mulI (by omega) (by omega)]
      omega
    · rw [if_neg h0]
      have hm1 := hR.inner k hk h0
      by_cases h3 : (fr (9 + k)).toInt = 3
      · rw [if_pos h3, h3, startV_3]
        have hc1 : ccC fr (k + 1) = ccC fr k + 1 := (cnt_at (P := fun j => (fr (9 + j)).toInt = 3) k).1 h3
        have hX : (128304 : Int) * 9 ^ ccC fr k ≤ 1154736 := by
          rcases (show ccC fr k = 0 ∨ ccC fr k = 1 by omega) with e | e <;> rw [e] <;> decide
        have hX0 : (0 : Int) ≤ 128304 * 9 ^ ccC fr k := by
          rcases (show ccC fr k = 0 ∨ ccC fr k = 1 by omega) with e | e <;> rw [e] <;> decide
        have e9 : (128304 : Int) * 9 ^ ccC fr (k + 1) = 9 * (128304 * 9 ^ ccC fr k) := by
          rw [hc1]
          rcases (show ccC fr k = 0 ∨ ccC fr k = 1 by omega) with e | e <;> rw [e] <;> decide
        have hF := foldC_in (n0 := 0) (v := fun i => rval fr ft f sc n (f (4 * k + i)).toNatClampNeg) (w := fun i => wOf fr ft k (f (4 * k + i)) (fr (27 + k)).toInt.toNat 0) (by decide) hX hX0 (fr (27 + k)).toInt.toNat (by omega) hv (fun i _ => wOf_in hR (by omega) _ _ (by omega))
        have hS := sum32_in (g := fun i => fr (45 + 4 * k + i)) (fr (27 + k)).toInt.toNat (by omega) (fun i hi => ⟨hR.chance k i hk h3 (by omega), (hR.wts (45 + 4 * k + i) (by omega) (by omega)).2⟩)
        rw [e9]
        generalize foldV 3 0 (fun i => rval fr ft f sc n (f (4 * k + i)).toNatClampNeg) (fun i => wOf fr ft k (f (4 * k + i)) (fr (27 + k)).toInt.toNat 0) (fr (27 + k)).toInt.toNat = N at hF ⊢
        generalize sum32 (fun i => fr (45 + 4 * k + i)) (fr (27 + k)).toInt.toNat = S at hS ⊢
        rw [ti_divE (z := N / S) rfl rfl rfl hF.1 (by omega)]
        refine ⟨Int.ediv_nonneg hF.1 (by omega), ?_⟩
        refine Int.le_of_lt_add_one (Int.ediv_lt_of_lt_mul (by omega) ?_)
        have q1 : 9 * (128304 * 9 ^ ccC fr k) * ((fr (27 + k)).toInt.toNat : Int) ≤ 9 * (128304 * 9 ^ ccC fr k) * S.toInt := Int.mul_le_mul_of_nonneg_left hS.1 (by omega)
        have q2 : (9 * (128304 * 9 ^ ccC fr k) + 1) * S.toInt = 9 * (128304 * 9 ^ ccC fr k) * S.toInt + S.toInt := by rw [Int.add_mul, Int.one_mul]
        omega
      · rw [if_neg h3]
        have hX : (128304 : Int) * 9 ^ ccC fr k ≤ 100000000 := by
          rcases (show ccC fr k = 0 ∨ ccC fr k = 1 ∨ ccC fr k = 2 by omega) with e | e | e <;> rw [e] <;> decide
        rcases (show (fr (9 + k)).toInt = 1 ∨ (fr (9 + k)).toInt = 2 by omega) with h1 | h1
        · rw [h1, startV_1]
          have hF := (foldK_in (n0 := -100000000) (v := fun i => rval fr ft f sc n (f (4 * k + i)).toNatClampNeg) (w := fun i => wOf fr ft k (f (4 * k + i)) (fr (27 + k)).toInt.toNat 0) (by decide) (fr (27 + k)).toInt.toNat hv).2 (by omega)
          omega
        · rw [h1, startV_2]
          have hF := foldQ_in (n0 := 100000000) (v := fun i => rval fr ft f sc n (f (4 * k + i)).toNatClampNeg) (w := fun i => wOf fr ft k (f (4 * k + i)) (fr (27 + k)).toInt.toNat 0) (by rw [show (100000000 : Int32).toInt = 100000000 from by decide]; exact hX) (fr (27 + k)).toInt.toNat hv (by omega)
          omega
theorem foldK_ex {n0 : Int32} {v w : Nat → Int32} : ∀ m : Nat, (∀ i, i < m → n0.toInt ≤ (v i).toInt) → (m = 0 ∧ foldV 1 n0 v w m = n0) ∨ ∃ j, j < m ∧ v j = foldV 1 n0 v w m
  | 0, _ => Or.inl ⟨rfl, rfl⟩
  | m + 1, hv => by
    have e : foldV 1 n0 v w (m + 1) = if (foldV 1 n0 v w m).toInt < (v m).toInt then v m else foldV 1 n0 v w m := by rw [foldV, stepV, if_pos rfl]
    right
    rw [e]
    by_cases hc : (foldV 1 n0 v w m).toInt < (v m).toInt
    · rw [if_pos hc]; exact ⟨m, by omega, rfl⟩
    · rw [if_neg hc]
      rcases foldK_ex (n0 := n0) (w := w) m (fun i hi => hv i (by omega)) with ⟨h1, h2⟩ | ⟨j, h1, h2⟩
      · refine ⟨m, by omega, ?_⟩
        rw [h2] at hc ⊢
        have := hv m (by omega)
        exact Int32.toInt_inj.mp (by omega)
      · exact ⟨j, by omega, h2⟩
theorem foldQ_ex {n0 : Int32} {v w : Nat → Int32} : ∀ m : Nat, (∀ i, i < m → (v i).toInt ≤ n0.toInt) → (m = 0 ∧ foldV 2 n0 v w m = n0) ∨ ∃ j, j < m ∧ v j = foldV 2 n0 v w m
  | 0, _ => Or.inl ⟨rfl, rfl⟩
  | m + 1, hv => by
    have e : foldV 2 n0 v w (m + 1) = if (v m).toInt < (foldV 2 n0 v w m).toInt then v m else foldV 2 n0 v w m := by rw [foldV, stepV, if_neg (by decide), if_pos rfl]
    right
    rw [e]
    by_cases hc : (v m).toInt < (foldV 2 n0 v w m).toInt
    · rw [if_pos hc]; exact ⟨m, by omega, rfl⟩
    · rw [if_neg hc]
      rcases foldQ_ex (n0 := n0) (w := w) m (fun i hi => hv i (by omega)) with ⟨h1, h2⟩ | ⟨j, h1, h2⟩
      · refine ⟨m, by omega, ?_⟩
        rw [h2] at hc ⊢
        have := hv m (by omega)
        exact Int32.toInt_inj.mp (by omega)
      · exact ⟨j, by omega, h2⟩
theorem best_ex {fr ft f : Nat → Int32} {sc : Int32} (hR : ROk fr) (hQ : RowOk fr f) (hw : WorOk f) (hs : 1 ≤ sc.toInt ∧ sc.toInt ≤ 1296) {k : Nat} (hk : (k : Int) < (fr 1).toInt) (hkd : (fr (9 + k)).toInt = 1 ∨ (fr (9 + k)).toInt = 2) : ∃ j : Nat, (j : Int) < (fr (27 + k)).toInt ∧ rval fr ft f sc 18 (f (4 * k + j)).toNatClampNeg = rval fr ft f sc 18 k := by
  have hn := hR.nodes
  have hm := hR.many (27 + k) (by omega) (by omega)
  have hm1 := hR.inner k hk (by omega)
  have hp : ∀ i : Nat, i < (fr (27 + k)).toInt.toNat → (f (4 * k + i)).toNatClampNeg < k := fun i hi => by
    have h1 := hQ.lt k i hk (by omega)
    have h2 := ti_cl (x := f (4 * k + i)) rfl h1.1
    omega
  have hv : ∀ i : Nat, i < (fr (27 + k)).toInt.toNat → 0 ≤ (rval fr ft f sc 17 (f (4 * k + i)).toNatClampNeg).toInt ∧ (rval fr ft f sc 17 (f (4 * k + i)).toNatClampNeg).toInt ≤ 100000000 := fun i hi => by
    have h3 := rval_in (ft := ft) hR hQ hw hs 17 (f (4 * k + i)).toNatClampNeg (by have := hp i hi; omega) (by have := hp i hi; omega)
    have hc2 : ccC fr ((f (4 * k + i)).toNatClampNeg + 1) ≤ 2 := hR.cc _ (by have := hp i hi; omega)
    have : (128304 : Int) * 9 ^ ccC fr ((f (4 * k + i)).toNatClampNeg + 1) ≤ 100000000 := by
      rcases (show ccC fr ((f (4 * k + i)).toNatClampNeg + 1) = 0 ∨ ccC fr ((f (4 * k + i)).toNatClampNeg + 1) = 1 ∨ ccC fr ((f (4 * k + i)).toNatClampNeg + 1) = 2 by omega) with e | e | e <;> rw [e] <;> decide
    omega
  have hfu : ∀ i : Nat, i < (fr (27 + k)).toInt.toNat → rval fr ft f sc 17 (f (4 * k + i)).toNatClampNeg = rval fr ft f sc 18 (f (4 * k + i)).toNatClampNeg := fun i hi => rval_fuel hQ 17 _ (by have := hp i hi; omega) (by have := hp i hi; omega)
  have hr : rval fr ft f sc 18 k = foldV (fr (9 + k)).toInt (startV (fr (9 + k)).toInt) (fun i => rval fr ft f sc 17 (f (4 * k + i)).toNatClampNeg) (fun i => wOf fr ft k (f (4 * k + i)) (fr (27 + k)).toInt.toNat 0) (fr (27 + k)).toInt.toNat := by
    rw [rval, if_neg (by omega), if_neg (by omega)]
  rw [hr]
  rcases hkd with h1 | h1
  · rw [h1, startV_1]
    rcases foldK_ex (n0 := -100000000) (v := fun i => rval fr ft f sc 17 (f (4 * k + i)).toNatClampNeg) (w := fun i => wOf fr ft k (f (4 * k + i)) (fr (27 + k)).toInt.toNat 0) (fr (27 + k)).toInt.toNat (fun i hi => by have := hv i hi; rw [show ((-100000000 : Int32)).toInt = -100000000 from by decide]; omega) with ⟨h2, _⟩ | ⟨j, h2, h3⟩
    · omega
    · exact ⟨j, by omega, by rw [← hfu j h2]; exact h3⟩
  · rw [h1, startV_2]
    rcases foldQ_ex (n0 := 100000000) (v := fun i => rval fr ft f sc 17 (f (4 * k + i)).toNatClampNeg) (w := fun i => wOf fr ft k (f (4 * k + i)) (fr (27 + k)).toInt.toNat 0) (fr (27 + k)).toInt.toNat (fun i hi => by have := hv i hi; rw [show (100000000 : Int32).toInt = 100000000 from by decide]; omega) with ⟨h2, _⟩ | ⟨j, h2, h3⟩
    · omega
    · exact ⟨j, by omega, by rw [← hfu j h2]; exact h3⟩
theorem sum_step {g : Nat → Int32} {n n' z : Int32} {i i' : Nat} (h : n = sum32 g i) (e : n' = n + z) (hz : (g i).toInt = z.toInt) (hi : i' = i + 1) : n' = sum32 g i' := by
  subst hi
  rw [e, sum32, ← h, Int32.toInt_inj.mp hz]
theorem wOf_next {fr ft : Nat → Int32} {k m i i' : Nat} {part z r : Int32} (h : r = wOf fr ft k part (m - i) i) (hz : (ft (4 * k + i)).toInt = z.toInt) (hne : z.toInt ≠ part.toInt) (him : i < m) (hi : i' = i + 1) : r = wOf fr ft k part (m - i') i' := by
  subst hi
  rw [h, show m - i = (m - (i + 1)) + 1 from by omega, wOf, if_neg (by omega)]
theorem wOf_hit {fr ft : Nat → Int32} {k m i : Nat} {part z x r : Int32} (h : r = wOf fr ft k part (m - i) i) (hz : (ft (4 * k + i)).toInt = z.toInt) (he : z.toInt = part.toInt) (him : i < m) (hx : (fr (45 + 4 * k + i)).toInt = x.toInt) : x = r := by
  rw [h, show m - i = (m - (i + 1)) + 1 from by omega, wOf, if_pos (by omega)]
  exact (Int32.toInt_inj.mp hx).symm
theorem wOf_out {fr ft : Nat → Int32} {k m i : Nat} {part r : Int32} (h : r = wOf fr ft k part (m - i) i) (him : m ≤ i) : 0 = r := by
  rw [h, show m - i = 0 from by omega, wOf]
abbrev VF (fr ft f : Nat → Int32) (sc : Int32) (n k : Nat) : Nat → Int32 := fun i => rval fr ft f sc n (f (4 * k + i)).toNatClampNeg
abbrev WF (fr ft f : Nat → Int32) (k : Nat) : Nat → Int32 := fun i => wOf fr ft k (f (4 * k + i)) (fr (27 + k)).toInt.toNat 0
theorem rval_word {fr ft f : Nat → Int32} {sc x z : Int32} {n k : Nat} (h0 : (fr (9 + k)).toInt = 0) (hz : (f (72 + k)).toInt = z.toInt) (e : x = z * sc) : x = rval fr ft f sc (n + 1) k := by
  rw [rval, if_pos h0, e, Int32.toInt_inj.mp hz]
theorem rval_fold {fr ft f : Nat → Int32} {sc x : Int32} {n k i : Nat} (h0 : (fr (9 + k)).toInt ≠ 0) (h3 : (fr (9 + k)).toInt ≠ 3) (h : x = foldV (fr (9 + k)).toInt (startV (fr (9 + k)).toInt) (VF fr ft f sc n k) (WF fr ft f k) i) (hi : i = (fr (27 + k)).toInt.toNat) : x = rval fr ft f sc (n + 1) k := by
  subst hi
  rw [rval, if_neg h0, if_neg h3]; exact h
theorem rval_ch {fr ft f : Nat → Int32} {sc x y z : Int32} {n k i : Nat} (h3 : (fr (9 + k)).toInt = 3) (h : x = foldV (fr (9 + k)).toInt (startV (fr (9 + k)).toInt) (VF fr ft f sc n k) (WF fr ft f k) i) (hi : i = (fr (27 + k)).toInt.toNat) (hy : y = sum32 (fun i => fr (45 + 4 * k + i)) (fr (27 + k)).toInt.toNat) (e : z = x / y) : z = rval fr ft f sc (n + 1) k := by
  subst hi
  rw [rval, if_neg (by omega), if_pos h3, e, h, hy]
theorem fold_step {fr ft f : Nat → Int32} {sc n n' v part : Int32} {m k i i' : Nat} (h : n = foldV (fr (9 + k)).toInt (startV (fr (9 + k)).toInt) (VF fr ft f sc m k) (WF fr ft f k) i) (hp : (f (4 * k + i)).toInt = part.toInt) (hv : v = rval fr ft f sc m part.toNatClampNeg) (hs : n' = stepV (fr (9 + k)).toInt n v (wOf fr ft k part (fr (27 + k)).toInt.toNat 0)) (hi : i' = i + 1) : n' = foldV (fr (9 + k)).toInt (startV (fr (9 + k)).toInt) (VF fr ft f sc m k) (WF fr ft f k) i' := by
  subst hi
  have e := Int32.toInt_inj.mp hp
  subst e
  rw [foldV, ← h, hs, hv]
theorem step_k1 {kd : Int} {n v w : Int32} (hk : kd = 1) (h : n.toInt < v.toInt) : v = stepV kd n v w := by rw [stepV, if_pos hk, if_pos h]
theorem step_k0 {kd : Int} {n v w : Int32} (hk : kd = 1) (h : v.toInt ≤ n.toInt) : n = stepV kd n v w := by rw [stepV, if_pos hk, if_neg (by omega)]
theorem step_q1 {kd : Int} {n v w : Int32} (hk : kd = 2) (h : v.toInt < n.toInt) : v = stepV kd n v w := by rw [stepV, if_neg (by omega), if_pos hk, if_pos h]
theorem step_q0 {kd : Int} {n v w : Int32} (hk : kd = 2) (h : n.toInt ≤ v.toInt) : n = stepV kd n v w := by rw [stepV, if_neg (by omega), if_pos hk, if_neg (by omega)]
theorem step_c {kd : Int} {n v w x1 x2 wv : Int32} (h1 : kd ≠ 1) (h2 : kd ≠ 2) (e2 : x2 = n + x1) (e1 : x1 = v * wv) (hw : wv = w) : x2 = stepV kd n v w := by rw [stepV, if_neg h1, if_neg h2, e2, e1, hw]
def BestJ (fr ft f : Nat → Int32) (sc : Int32) (k : Nat) (i : Int) : Prop := ∃ j : Nat, i ≤ (j : Int) ∧ (j : Int) < (fr (27 + k)).toInt ∧ rval fr ft f sc 18 (f (4 * k + j)).toNatClampNeg = rval fr ft f sc 18 k
theorem best_lt {fr ft f : Nat → Int32} {sc : Int32} {k : Nat} {i : Int} (h : BestJ fr ft f sc k i) : i < (fr (27 + k)).toInt := by
  obtain ⟨j, h1, h2, _⟩ := h
  omega
theorem best_start {fr ft f : Nat → Int32} {sc : Int32} {k : Nat} {i : Int} (hi : i = 0) (h : ∃ j : Nat, (j : Int) < (fr (27 + k)).toInt ∧ rval fr ft f sc 18 (f (4 * k + j)).toNatClampNeg = rval fr ft f sc 18 k) : BestJ fr ft f sc k i := by
  obtain ⟨j, h1, h2⟩ := h
  exact ⟨j, by omega, h1, h2⟩
theorem best_go {fr ft f : Nat → Int32} {sc a b z : Int32} {k n : Nat} {i i' : Int} (h : BestJ fr ft f sc k i) (hn : (n : Int) = i) (hz : (f (4 * k + n)).toInt = z.toInt) (ha : a = rval fr ft f sc 18 z.toNatClampNeg) (hb : b = rval fr ft f sc 18 k) (hne : a.toInt ≠ b.toInt) (hi : i' = i + 1) : BestJ fr ft f sc k i' := by
  obtain ⟨j, h1, h2, h3⟩ := h
  refine ⟨j, ?_, h2, h3⟩
  by_cases e : j = n
  · exfalso
    apply hne
    rw [ha, hb, ← h3, e, Int32.toInt_inj.mp hz]
  · omega
