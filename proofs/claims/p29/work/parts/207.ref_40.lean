/-! orders, by sets of places -/
theorem ltA16 {x : Int32} (h0 : 0 ≤ x.toInt) (h1 : x.toInt ≤ 15) : x = 0 ∨ x = 1 ∨ x = 2 ∨ x = 3 ∨ x = 4 ∨ x = 5 ∨ x = 6 ∨ x = 7 ∨ x = 8 ∨ x = 9 ∨ x = 10 ∨ x = 11 ∨ x = 12 ∨ x = 13 ∨ x = 14 ∨ x = 15 := by
  simp only [fz_eq, kc_0, kc_1, kc_2, kc_3, kc_4, kc_5, kc_6, kc_7, kc_8, kc_9, kc_10, kc_11, kc_12, kc_13, kc_14, kc_15]; omega
theorem ltA4 {x : Int32} (h0 : 0 ≤ x.toInt) (h1 : x.toInt ≤ 3) : x = 0 ∨ x = 1 ∨ x = 2 ∨ x = 3 := by
  simp only [fz_eq, kc_0, kc_1, kc_2, kc_3]; omega
abbrev bitN (u : Int32) (p : Nat) : Prop := u.toNatClampNeg.testBit p = true
theorem tb_bit {u p : Int32} (hu : 0 ≤ u.toInt ∧ u.toInt ≤ 15) (hp : 0 ≤ p.toInt ∧ p.toInt ≤ 3) : tb u p ↔ bitN u p.toNatClampNeg := by
  unfold tb bitN
  rcases ltA16 hu.1 hu.2 with rfl | rfl | rfl | rfl | rfl | rfl | rfl | rfl | rfl | rfl | rfl | rfl | rfl | rfl | rfl | rfl <;> rcases ltA4 hp.1 hp.2 with rfl | rfl | rfl | rfl <;> decide
theorem or_bit {u p v x : Int32} (hu : 0 ≤ u.toInt ∧ u.toInt ≤ 15) (hp : 0 ≤ p.toInt ∧ p.toInt ≤ 3) (ex : x = (1 : Int32) <<< (p &&& 31)) (ev : v = u ||| x) : (0 ≤ v.toInt ∧ v.toInt ≤ 15) ∧ ∀ q : Nat, q < 4 → (bitN v q ↔ bitN u q ∨ q = p.toNatClampNeg) := by
  subst ev; subst ex
  refine ⟨?_, fun q hq => ?_⟩
  · rcases ltA16 hu.1 hu.2 with rfl | rfl | rfl | rfl | rfl | rfl | rfl | rfl | rfl | rfl | rfl | rfl | rfl | rfl | rfl | rfl <;> rcases ltA4 hp.1 hp.2 with rfl | rfl | rfl | rfl <;> decide
  · unfold bitN
    rcases (show q = 0 ∨ q = 1 ∨ q = 2 ∨ q = 3 by omega) with rfl | rfl | rfl | rfl <;> rcases ltA4 hp.1 hp.2 with rfl | rfl | rfl | rfl <;> rcases ltA16 hu.1 hu.2 with rfl | rfl | rfl | rfl | rfl | rfl | rfl | rfl | rfl | rfl | rfl | rfl | rfl | rfl | rfl | rfl <;> decide
theorem cnt_full {P : Nat → Prop} [DecidablePred P] : ∀ m : Nat, (∀ q, q < m → P q) → cntP P m = m
  | 0, _ => rfl
  | m + 1, h => by
    show cntP P m + (if P m then 1 else 0) = m + 1
    rw [if_pos (h m (by omega)), cnt_full m (fun q hq => h q (by omega))]
theorem cnt_congr {P Q : Nat → Prop} [DecidablePred P] [DecidablePred Q] : ∀ m : Nat, (∀ q, q < m → (P q ↔ Q q)) → cntP P m = cntP Q m
  | 0, _ => rfl
  | m + 1, h => by
    show cntP P m + (if P m then 1 else 0) = cntP Q m + (if Q m then 1 else 0)
    rw [cnt_congr m (fun q hq => h q (by omega))]
    by_cases hp : P m
    · rw [if_pos hp, if_pos ((h m (by omega)).mp hp)]
    · rw [if_neg hp, if_neg (fun z => hp ((h m (by omega)).mpr z))]
theorem cnt_more {P Q : Nat → Prop} [DecidablePred P] [DecidablePred Q] {p : Nat} : ∀ m : Nat, p < m → ¬ P p → (∀ q, q < m → (Q q ↔ P q ∨ q = p)) → cntP Q m = cntP P m + 1
  | 0, h, _, _ => by omega
  | m + 1, h, hn, hq => by
    show cntP Q m + (if Q m then 1 else 0) = cntP P m + (if P m then 1 else 0) + 1
    by_cases e : p = m
    · subst e
      have h1 : cntP Q p = cntP P p := cnt_congr p (fun q h2 => by rw [hq q (by omega)]; exact ⟨fun z => z.elim id (fun e => absurd e (by omega)), Or.inl⟩)
      rw [h1, if_pos ((hq p (by omega)).mpr (Or.inr rfl)), if_neg hn]
    · have h1 := cnt_more (P := P) (Q := Q) m (by omega) hn (fun q h2 => hq q (by omega))
      have h2 : Q m ↔ P m := by rw [hq m (by omega)]; exact ⟨fun z => z.elim id (fun e' => absurd e'.symm e), Or.inl⟩
      by_cases hm : P m
      · rw [h1, if_pos hm, if_pos (h2.mpr hm)]
      · rw [h1, if_neg hm, if_neg (fun z => hm (h2.mp z))]
def KeepI (f : Nat → Int32) (k i : Nat) (g : Nat → Int32) : Prop := ∀ j : Nat, (j < 4 * k + i ∨ 4 * k + 4 ≤ j) → g j = f j
theorem keep_refl {f : Nat → Int32} {k i : Nat} : KeepI f k i f := fun _ _ => rfl
def TryOk (fr fs ft : Nat → Int32) (k i : Nat) (u : Int32)  : Prop :=
  (∀ j : Nat, j < 72 → (j < 4 * k ∨ 4 * k + 4 ≤ j) → ft j = fs j) ∧
  (∀ j : Nat, j < i → ∃ p : Nat, (p : Int) < (fr (27 + k)).toInt ∧ bitN u p ∧ ft (4 * k + j) = fs (4 * k + p)) ∧
  (∀ a b : Nat, a < b → b < i → ft (4 * k + a) ≠ ft (4 * k + b))
theorem TryOk.out {fr fs ft : Nat → Int32} {k i : Nat} {u : Int32}  (h : TryOk fr fs ft k i u) : ∀ j : Nat, j < 72 → (j < 4 * k ∨ 4 * k + 4 ≤ j) → ft j = fs j := h.1
theorem TryOk.src {fr fs ft : Nat → Int32} {k i : Nat} {u : Int32}  (h : TryOk fr fs ft k i u) : ∀ j : Nat, j < i → ∃ p : Nat, (p : Int) < (fr (27 + k)).toInt ∧ bitN u p ∧ ft (4 * k + j) = fs (4 * k + p) := h.2.1
theorem TryOk.inj {fr fs ft : Nat → Int32} {k i : Nat} {u : Int32}  (h : TryOk fr fs ft k i u) : ∀ a b : Nat, a < b → b < i → ft (4 * k + a) ≠ ft (4 * k + b) := h.2.2
theorem try_zero {fr fs ft t : Nat → Int32} {k : Nat} {u : Int32} (c : CopyOk fs t (0 : Int32).toNatClampNeg (0 : Int32).toNatClampNeg (90 : Int32).toNatClampNeg ft) : TryOk fr fs ft k 0 u := by
  refine ⟨fun j hj _ => ?_, fun j hj => by omega, fun a b _ hb => by omega⟩
  have c := c j
  rw [show (0 : Int32).toNatClampNeg = 0 from rfl, show (90 : Int32).toNatClampNeg = 90 from rfl, if_pos (by omega)] at c
  rw [c]; congr 1; omega
theorem TryOk.row {fr fs ft : Nat → Int32} {k i : Nat} {u : Int32} (hR : ROk fr) (hs : RowOk fr fs) (h : TryOk fr fs ft k i u) (hk : (k : Int) < (fr 1).toInt) (hi : (i : Int) = (fr (27 + k)).toInt) : RowOk fr ft := by
  have hn := hR.nodes
  refine ⟨fun k' a hk' ha => ?_, fun k' a b hk' hab hb => ?_⟩
  · have hm4 := hR.many (27 + k') (by omega) (by omega)
    by_cases e : k' = k
    · subst e
      obtain ⟨p, h1, _, h3⟩ := h.src a (by omega)
      rw [h3]; exact hs.lt k' p hk' h1
    · rw [h.out _ (by omega) (by omega)]; exact hs.lt k' a hk' ha
  · have hm4 := hR.many (27 + k') (by omega) (by omega)
    by_cases e : k' = k
    · subst e; exact h.inj a b hab (by omega)
    · rw [h.out _ (by omega) (by omega), h.out _ (by omega) (by omega)]; exact hs.ne k' a b hk' hab hb
theorem try_step {fr fs ft g g' : Nat → Int32} {k i p q : Nat} {u v x : Int32} (hR : ROk fr) (hs : RowOk fr fs) (hk : (k : Int) < (fr 1).toInt) (h : TryOk fr fs ft k i u) (hK : KeepI ft k i g) (e : g' = upd g q x) (hq : q = 4 * k + i) (hx : x.toInt = (fs (4 * k + p)).toInt) (hp : (p : Int) < (fr (27 + k)).toInt) (hi : i < 4) (hn : ¬ bitN u p) (hv : ∀ q : Nat, q < 4 → (bitN v q ↔ bitN u q ∨ q = p)) : TryOk fr fs g' k (i + 1) v := by
  subst hq
  have hx := Int32.toInt_inj.mp hx
  have hm4 := hR.many (27 + k) (by have := hR.nodes; omega) (by have := hR.nodes; omega)
  have hlow : ∀ j : Nat, j < i → g' (4 * k + j) = ft (4 * k + j) := fun j hj => by rw [e, pk_un (by omega), hK _ (by omega)]
  have hat : g' (4 * k + i) = fs (4 * k + p) := by rw [e, pk_us, hx]
  refine ⟨fun j hj ho => ?_, fun j hj => ?_, fun a b hab hb => ?_⟩
  · rw [e, pk_un (by omega), hK _ (by omega)]; exact h.out j hj ho
  · by_cases ej : j = i
    · subst ej
      exact ⟨p, hp, (hv p (by omega)).mpr (Or.inr rfl), hat⟩
    · obtain ⟨p', h1, h2, h3⟩ := h.src j (by omega)
      exact ⟨p', h1, (hv p' (by omega)).mpr (Or.inl h2), by rw [hlow j (by omega)]; exact h3⟩
  · by_cases eb : b = i
    · subst eb
      obtain ⟨p', h1, h2, h3⟩ := h.src a hab
      rw [hlow a hab, hat, h3]
      have hne : p' ≠ p := fun z => hn (z ▸ h2)
      rcases Nat.lt_or_gt_of_ne hne with h4 | h4
      · exact hs.ne k p' p hk h4 hp
      · exact (hs.ne k p p' hk h4 h1).symm
    · rw [hlow a (by omega), hlow b (by omega)]; exact h.inj a b hab (by omega)
theorem keep_step {f g g' g'' : Nat → Int32} {k i i' q : Nat} {x : Int32} (h : KeepI f k i g) (e : g' = upd g q x) (hq : q = 4 * k + i) (hi : i < 4) (h2 : KeepI g' k i' g'') (hi' : i' = i + 1) : KeepI f k i g'' := by
  subst hi'
  intro j hj
  rw [h2 j (by omega), e, pk_un (by omega)]; exact h j hj
theorem cnt0 : ∀ m : Nat, cntP (bitN 0) m = 0
  | 0 => rfl
  | m + 1 => by
    show cntP (bitN 0) m + (if bitN 0 m then 1 else 0) = 0
    rw [cnt0 m, if_neg (by unfold bitN; rw [show (0 : Int32).toNatClampNeg = 0 from rfl, Nat.zero_testBit]; decide)]
