/-! orders: the class's loops, the reference's tree; orderMean, orderLeast on both sides -/
section G7
section WQ
variable {N : Nat} {words unsures slips throne said unit : Int32} {kind parts pn wt tw uw uo r told W W' o o' Q Q' w st ws steps below above : Nat → Int32}
theorem br_L (hC : CR N words unsures slips throne said kind parts pn wt tw uw uo r told) (hS : StR N parts pn W o Q) (hI : CI N unit kind parts pn wt ws steps below above) (hR : ROk r) (hW : ∀ k : Nat, k < N → kind k = 0 → 0 ≤ (W k).toInt ∧ (W k).toInt ≤ 99) {un : Int32} (hun : 1 ≤ un.toInt ∧ un.toInt ≤ 1296) {t : Nat} (hth : throne = nI t) (hth6 : r 6 = nI t) (ht : t < N) {k m : Nat} (hk : k < N) (hp : parts k = nI m) (hm : m ≤ 4) {L : List Nat} (hl : L.length = m) (hb : ∀ x : Nat, x < m → gd L x < m) (hi : ∀ x y : Nat, x < m → y < m → gd L x = gd L y → x = y) : BR r told un (rowL Q k L) ≤ 349 := by
  have hN := hI.1
  exact (br_both hC (hS.perm hN hk hp hm hl hb hi hC.p4) hI hR hW hun hth hth6 ht (fun _ => 0) (fun _ => 0) (fun _ => 0) (fun _ => 0)).1
theorem io_6 (hC : CR N words unsures slips throne said kind parts pn wt tw uw uo r told) (hS : StR N parts pn W o Q) (hI : CI N unit kind parts pn wt ws steps below above) (hR : ROk r) (hW : ∀ k : Nat, k < N → kind k = 0 → 0 ≤ (W k).toInt ∧ (W k).toInt ≤ 99) {un : Int32} (hun : 1 ≤ un.toInt ∧ un.toInt ≤ 1296) {t : Nat} (hth : throne = nI t) (hth6 : r 6 = nI t) (ht : t < N) {k m : Nat} (hk : k < N) (hp : parts k = nI m) (hm : m ≤ 4) {c : Nat} (hc : c < fct m) (tw2 to2 tl hw cp : Nat → Int32) : ∃ (bits : Int32) (c' : Nat) (W' o' l' hw' cp' : Nat → Int32), PX6_breathsInOrder (nI N) throne un kind parts pn wt ws W o tw2 to2 tl hw cp (nI k) (nI c) = (nI (BR r told un (rowL Q k (cdL m c))), W', o', l', nI (BR r told un (rowL Q k (cdL m c))), bits, nI c', hw', cp') := by
  have hN := hI.1
  have hf := fct_in hm
  obtain ⟨hb, hi⟩ := cd_ok hm hc
  have hP := hS.perm hN hk hp hm (cdL_len m c) hb hi hC.p4
  obtain ⟨l', e1⟩ := po_eq hm (show k < 18 by omega) (show c < 2 ^ 31 by omega) (va_cpy o to2 0 0 72) tl
  obtain ⟨bits, c', hw', cp', e2⟩ := br_6 hC hP hI hR hW hun hth hth6 ht (W' := va_cpy W tw2 0 0 18) (o' := rowL (va_cpy o to2 0 0 72) k (cdL m c)) (fun j hj => cpy_q (by omega)) (rowL_congr (cdL_len m c) hb (by omega) (fun q hq => cpy_q hq)) hw cp
  refine ⟨bits, c', va_cpy W tw2 0 0 18, rowL (va_cpy o to2 0 0 72) k (cdL m c), l', hw', cp', ?_⟩
  rw [PX6_breathsInOrder_eq, cp_eq, un2_eq rfl]
  simp only [lt_ap]
  rw [nI_clamp (show k < 2 ^ 31 by omega), hp, un2_eq e1, un6_eq e2]
theorem LC_len (m : Nat) : ∀ c : Nat, (LC m c).length = c
  | 0 => rfl
  | c + 1 => by rw [LC, List.length_append, LC_len m c]; rfl
theorem LC_sum (b : List Nat → Nat) (m c : Nat) : sumL b (LC m (c + 1)) = sumL b (LC m c) + b (cdL m c) := by
  rw [LC, sumL_app]
  rfl
theorem LC_min (b : List Nat → Nat) (m c z : Nat) : minL b z (LC m (c + 1)) = min (minL b z (LC m c)) (b (cdL m c)) := by
  rw [LC, minL_app]
  rfl
theorem om_loop (hC : CR N words unsures slips throne said kind parts pn wt tw uw uo r told) (hS : StR N parts pn W o Q) (hI : CI N unit kind parts pn wt ws steps below above) (hR : ROk r) (hW : ∀ k : Nat, k < N → kind k = 0 → 0 ≤ (W k).toInt ∧ (W k).toInt ≤ 99) {un : Int32} (hun : 1 ≤ un.toInt ∧ un.toInt ≤ 1296) {t : Nat} (hth : throne = nI t) (hth6 : r 6 = nI t) (ht : t < N) {k m : Nat} (hk : k < N) (hp : parts k = nI m) (hm : m ≤ 4) {p1 rf : Int32} : ∀ (d c f : Nat) (acc : Int64) (x1 x2 x3 : Int32) (a1 a2 a3 a4 a5 : Nat → Int32), fct m - c = d → c ≤ fct m → d < f → acc.toInt = (sumL (fun L => BR r told un (rowL Q k L)) (LC m c) : Nat) → sumL (fun L => BR r told un (rowL Q k L)) (LC m c) ≤ 349 * c → ∃ (z : Int64) (x1' x2' x3' : Int32) (a1' a2' a3' a4' a5' : Nat → Int32), HX6_orderMean_0 (nI N) throne un kind parts pn wt ws W o (nI k) p1 rf (nI (fct m)) f (nI c) acc x1 x2 x3 a1 a2 a3 a4 a5 = (PX6_inLowestTerms z (nI (fct m)).toInt64 p1, rf, a1', a2', a3', x1', x2', x3', a4', a5') ∧ z.toInt = (sumL (fun L => BR r told un (rowL Q k L)) (LC m (fct m)) : Nat) ∧ sumL (fun L => BR r told un (rowL Q k L)) (LC m (fct m)) ≤ 8376 := by
  have hf := fct_in hm
  intro d
  induction d with
  | zero =>
    intro c f acc x1 x2 x3 a1 a2 a3 a4 a5 hd hc hf2 ha hs
    obtain ⟨f, rfl⟩ : ∃ g, f = g + 1 := ⟨f - 1, by omega⟩
    have e : c = fct m := by omega
    rw [e] at ha hs
    refine ⟨acc, x1, x2, x3, a1, a2, a3, a4, a5, ?_, ha, by omega⟩
    rw [HX6_orderMean_0_eq, e, if_pos (nI_le (Nat.le_refl _) (by omega))]
    simp only [lt_ap]
  | succ d ih =>
    intro c f acc x1 x2 x3 a1 a2 a3 a4 a5 hd hc hf2 ha hs
    obtain ⟨f, rfl⟩ : ∃ g, f = g + 1 := ⟨f - 1, by omega⟩
    obtain ⟨bits, c', W2, o2, l2, hw2, cp2, e⟩ := io_6 hC hS hI hR hW hun hth hth6 ht hk hp hm (c := c) (by omega) a1 a2 a3 a4 a5
    obtain ⟨hb, hi⟩ := cd_ok hm (show c < fct m by omega)
    have hle := br_L hC hS hI hR hW hun hth hth6 ht hk hp hm (cdL_len m c) hb hi
    have hsum := LC_sum (fun L => BR r told un (rowL Q k L)) m c
    have e64 : (nI (BR r told un (rowL Q k (cdL m c)))).toInt64.toInt = (BR r told un (rowL Q k (cdL m c)) : Nat) := by rw [Int32.toInt_toInt64, nI_toInt (by omega)]
    rw [HX6_orderMean_0_eq, if_neg (show ¬ nI (fct m) ≤ nI c by rw [nI_leI (by omega) (by omega)]; omega), un9_eq e]
    simp only [lt_ap]
    rw [nI_o1]
    exact ih (c + 1) f _ _ _ _ _ _ _ _ _ (by omega) (by omega) (by omega) (by rw [fb_addL (by rw [e64]; omega) (by rw [e64]; omega), e64, hsum, ha]; omega) (by rw [hsum]; show _ + BR r told un (rowL Q k (cdL m c)) ≤ _; omega)
theorem mn_i {a b : Nat} (ha : a < 2 ^ 31) (hb : b < 2 ^ 31) : (if nI b < nI a then nI b else nI a) = nI (min a b) := by
  by_cases c : b < a
  · rw [if_pos (nI_lt c ha), show min a b = b by omega]
  · rw [if_neg (nI_nlt (by omega) hb), show min a b = a by omega]
theorem ol_loop (hC : CR N words unsures slips throne said kind parts pn wt tw uw uo r told) (hS : StR N parts pn W o Q) (hI : CI N unit kind parts pn wt ws steps below above) (hR : ROk r) (hW : ∀ k : Nat, k < N → kind k = 0 → 0 ≤ (W k).toInt ∧ (W k).toInt ≤ 99) {un : Int32} (hun : 1 ≤ un.toInt ∧ un.toInt ≤ 1296) {t : Nat} (hth : throne = nI t) (hth6 : r 6 = nI t) (ht : t < N) {k m : Nat} (hk : k < N) (hp : parts k = nI m) (hm : m ≤ 4) {rf : Int32} : ∀ (d c f z : Nat) (x1 x2 x3 : Int32) (a1 a2 a3 a4 a5 : Nat → Int32), fct m - c = d → c ≤ fct m → d < f → z = minL (fun L => BR r told un (rowL Q k L)) 100000000 (LC m c) → z ≤ 349 → ∃ (x1' x2' x3' : Int32) (a1' a2' a3' a4' a5' : Nat → Int32), HX6_orderLeast_0 (nI N) throne un kind parts pn wt ws W o (nI k) rf (nI (fct m)) f (nI c) (nI z) x1 x2 x3 a1 a2 a3 a4 a5 = (nI (minL (fun L => BR r told un (rowL Q k L)) 100000000 (LC m (fct m))), rf, a1', a2', a3', x1', x2', x3', a4', a5') := by
  have hf := fct_in hm
  intro d
  induction d with
  | zero =>
    intro c f z x1 x2 x3 a1 a2 a3 a4 a5 hd hc hf2 hz hz9
    obtain ⟨f, rfl⟩ : ∃ g, f = g + 1 := ⟨f - 1, by omega⟩
    have e : c = fct m := by omega
    rw [e] at hz
    refine ⟨x1, x2, x3, a1, a2, a3, a4, a5, ?_⟩
    rw [HX6_orderLeast_0_eq, e, if_pos (nI_le (Nat.le_refl _) (by omega)), hz]
  | succ d ih =>
    intro c f z x1 x2 x3 a1 a2 a3 a4 a5 hd hc hf2 hz hz9
    obtain ⟨f, rfl⟩ : ∃ g, f = g + 1 := ⟨f - 1, by omega⟩
    obtain ⟨bits, c', W2, o2, l2, hw2, cp2, e⟩ := io_6 hC hS hI hR hW hun hth hth6 ht hk hp hm (c := c) (by omega) a1 a2 a3 a4 a5
    obtain ⟨hb, hi⟩ := cd_ok hm (show c < fct m by omega)
    have hle := br_L hC hS hI hR hW hun hth hth6 ht hk hp hm (cdL_len m c) hb hi
    rw [HX6_orderLeast_0_eq, if_neg (show ¬ nI (fct m) ≤ nI c by rw [nI_leI (by omega) (by omega)]; omega), un9_eq e]
    simp only [lt_ap]
    rw [nI_o1, mn_i (by omega) (by omega)]
    exact ih (c + 1) f _ _ _ _ _ _ _ _ _ (by omega) (by omega) (by omega) (by rw [LC_min, ← hz]) (by omega)
theorem mn_j {a b : Nat} {A : Type} (ha : a < 2 ^ 31) (hb : b < 2 ^ 31) (F : Int32 → A) : (if nI a ≤ nI b then F (nI a) else F (nI b)) = F (nI (min a b)) := by
  by_cases c : a ≤ b
  · rw [if_pos (nI_le c hb), show min a b = a by omega]
  · rw [if_neg (show ¬ nI a ≤ nI b by rw [nI_leI ha hb]; exact c), show min a b = b by omega]
theorem has_lt {L : List Nat} {p i : Nat} (hl : L.length = i) (hi : ∀ x y : Nat, x < i → y < i → gd L x = gd L y → x = y) (hp : has L p = false) : ∀ x y : Nat, x < i + 1 → y < i + 1 → gd (L ++ [p]) x = gd (L ++ [p]) y → x = y := by
  subst hl
  intro x y hx hy e
  have hend := gd_end p L
  by_cases a : x = L.length
  · by_cases b : y = L.length
    · omega
    · rw [a, hend, gd_lt p L y (by omega)] at e
      exact absurd e.symm (has_no p L y hp (by omega))
  · by_cases b : y = L.length
    · rw [b, hend, gd_lt p L x (by omega)] at e
      exact absurd e (has_no p L x hp (by omega))
    · rw [gd_lt p L x (by omega), gd_lt p L y (by omega)] at e
      exact hi x y (by omega) (by omega) e
theorem has_b {L : List Nat} {p i m : Nat} (hl : L.length = i) (hb : ∀ x : Nat, x < i → gd L x < m) (hp : p < m) : ∀ x : Nat, x < i + 1 → gd (L ++ [p]) x < m := by
  subst hl
  intro x hx
  by_cases a : x = L.length
  · rw [a, gd_end p L]; exact hp
  · rw [gd_lt p L x (by omega)]; exact hb x (by omega)
/-- a part more on trial -/
theorem row_snoc {Q T : Nat → Int32} {k m i p : Nat} {L : List Nat} (hl : L.length = i) (him : i < m) (h : ∀ q : Nat, q < 90 → ¬ (4 * k + i ≤ q ∧ q < 4 * k + m) → T q = rowL Q k L q) : ∀ q : Nat, q < 90 → ¬ (4 * k + (i + 1) ≤ q ∧ q < 4 * k + m) → upd T (4 * k + i) (Q (4 * k + p)) q = rowL Q k (L ++ [p]) q := by
  subst hl
  intro q hq hn
  by_cases a : q = 4 * k + L.length
  · rw [a, upd_at]
    unfold rowL
    rw [len_snoc, if_pos (show 4 * k ≤ 4 * k + L.length ∧ 4 * k + L.length < 4 * k + (L.length + 1) by omega), show 4 * k + L.length - 4 * k = L.length by omega, gd_end]
  · rw [upd_ne a, h q hq (by omega)]
    unfold rowL
    rw [len_snoc]
    by_cases b : 4 * k ≤ q ∧ q < 4 * k + L.length
    · rw [if_pos b, if_pos (show 4 * k ≤ q ∧ q < 4 * k + (L.length + 1) by omega), gd_lt p L _ (by omega)]
    · rw [if_neg b, if_neg (show ¬ (4 * k ≤ q ∧ q < 4 * k + (L.length + 1)) by omega)]
theorem row_back {Q T : Nat → Int32} {k m i p : Nat} {L : List Nat} (hl : L.length = i) (him : i < m) (h : ∀ q : Nat, q < 90 → ¬ (4 * k + (i + 1) ≤ q ∧ q < 4 * k + m) → T q = rowL Q k (L ++ [p]) q) : ∀ q : Nat, q < 90 → ¬ (4 * k + i ≤ q ∧ q < 4 * k + m) → T q = rowL Q k L q := by
  subst hl
  intro q hq hn
  rw [h q hq (by omega)]
  unfold rowL
  rw [len_snoc]
  by_cases b : 4 * k ≤ q ∧ q < 4 * k + L.length
  · rw [if_pos b, if_pos (show 4 * k ≤ q ∧ q < 4 * k + (L.length + 1) by omega), gd_lt p L _ (by omega)]
  · rw [if_neg b, if_neg (show ¬ (4 * k ≤ q ∧ q < 4 * k + (L.length + 1)) by omega)]
theorem bit_snoc {L : List Nat} {u p m : Nat} (hu : ∀ q : Nat, q < m → u.testBit q = has L q) : ∀ q : Nat, q < m → (u ||| 2 ^ p).testBit q = has (L ++ [p]) q := fun q hq => by
  rw [Nat.testBit_or, hu q hq, has_snoc, Nat.testBit_two_pow]
  by_cases e : p = q
  · rw [decide_eq_true e, e, beq_self_eq_true]
  · rw [decide_eq_false e, Bool.eq_false_iff.mpr (fun h => e (beq_iff_eq.mp h))]
theorem tr_4 (hC : CR N words unsures slips throne said kind parts pn wt tw uw uo r told) (hS : StR N parts pn W o Q) (hI : CI N unit kind parts pn wt ws steps below above) (hR : ROk r) (hW : ∀ k : Nat, k < N → kind k = 0 → 0 ≤ (W k).toInt ∧ (W k).toInt ≤ 99) {un : Int32} (hun : 1 ≤ un.toInt ∧ un.toInt ≤ 1296) {t : Nat} (hth : throne = nI t) (hth6 : r 6 = nI t) (ht : t < N) {k m : Nat} (hk : k < N) (hp : parts k = nI m) (hm : m ≤ 4) (h4 : m = 4) {L : List Nat} (hl : L.length = 4) (hb : ∀ x : Nat, x < 4 → gd L x < m) (hi : ∀ x y : Nat, x < 4 → y < 4 → gd L x = gd L y → x = y) {a s l : Nat} {hr cr T : Nat → Int32} (hT : ∀ q : Nat, q < 90 → ¬ (4 * k + 4 ≤ q ∧ q < 4 * k + m) → T q = rowL Q k L q) (hl9 : l ≤ 100000000) : ∃ (x1' x2' : Int32) (hr' cr' : Nat → Int32), PX7_try_4 r told un hr cr T (nI a) (nI s) (nI l) (nI k) = (x1', x2', nI (a + (tr m 0 L).length), nI (s + sumL (fun L => BR r told un (rowL Q k L)) (tr m 0 L)), nI (minL (fun L => BR r told un (rowL Q k L)) l (tr m 0 L)), hr', cr') := by
  have hN := hI.1
  have hmm := many_q hC hk hp
  subst h4
  obtain ⟨c2, hr2, cr2, e⟩ := br_7 hC (hS.perm hN hk hp hm hl (fun x hx => hb x (by omega)) (fun x y hx hy => hi x y (by omega) (by omega)) hC.p4) hI hR hW hun hth hth6 ht (Q' := T) (fun q hq => hT q hq (by omega)) hr cr
  have hle := br_L hC hS hI hR hW hun hth hth6 ht hk hp hm hl (fun x hx => hb x (by omega)) (fun x y hx hy => hi x y (by omega) (by omega))
  refine ⟨nI (BR r told un (rowL Q k L)), nI c2, hr2, cr2, ?_⟩
  rw [PX7_try_4_eq]
  simp only [lt_ap]
  rw [show (27 : Int32) + nI k = nI (27 + k) from nI_add 27 k, nI_clamp (show 27 + k < 2 ^ 31 by omega), hmm, if_pos (show (4 : Int32) = nI 4 by decide), un5_eq e, nI_1, nI_add]
  exact mn_j (by omega) (by omega) (fun z => (nI (BR r told un (rowL Q k L)), nI c2, nI (a + 1), nI (s + BR r told un (rowL Q k L)), z, hr2, cr2))
theorem tr_3 (hC : CR N words unsures slips throne said kind parts pn wt tw uw uo r told) (hS : StR N parts pn W o Q) (hI : CI N unit kind parts pn wt ws steps below above) (hR : ROk r) (hW : ∀ k : Nat, k < N → kind k = 0 → 0 ≤ (W k).toInt ∧ (W k).toInt ≤ 99) {un : Int32} (hun : 1 ≤ un.toInt ∧ un.toInt ≤ 1296) {t : Nat} (hth : throne = nI t) (hth6 : r 6 = nI t) (ht : t < N) {k m : Nat} (hk : k < N) (hp : parts k = nI m) (hm : m ≤ 4) (him : 3 ≤ m) {L : List Nat} (hl : L.length = 3) (hb : ∀ x : Nat, x < 3 → gd L x < m) (hi : ∀ x y : Nat, x < 3 → y < 3 → gd L x = gd L y → x = y) {u : Nat} (hu16 : u < 16) (hu : ∀ q : Nat, q < m → u.testBit q = has L q) {a s l : Nat} (x1 x2 : Int32) {hr cr T : Nat → Int32} (hT : ∀ q : Nat, q < 90 → ¬ (4 * k + 3 ≤ q ∧ q < 4 * k + m) → T q = rowL Q k L q) (hl9 : l ≤ 100000000) : ∃ (x1' x2' : Int32) (hr' cr' T' : Nat → Int32), PX7_try_3 r told Q un hr cr x1 x2 T (nI a) (nI s) (nI l) (nI k) (nI u) = (x1', x2', nI (a + (tr m (m - 3) L).length), nI (s + sumL (fun L => BR r told un (rowL Q k L)) (tr m (m - 3) L)), nI (minL (fun L => BR r told un (rowL Q k L)) l (tr m (m - 3) L)), hr', cr', T') ∧ (∀ q : Nat, q < 90 → ¬ (4 * k + 3 ≤ q ∧ q < 4 * k + m) → T' q = rowL Q k L q) := by
  have hN := hI.1
  have hmm := many_q hC hk hp
  by_cases h4 : m = 3
  · subst h4
    obtain ⟨c2, hr2, cr2, e⟩ := br_7 hC (hS.perm hN hk hp hm hl (fun x hx => hb x (by omega)) (fun x y hx hy => hi x y (by omega) (by omega)) hC.p4) hI hR hW hun hth hth6 ht (Q' := T) (fun q hq => hT q hq (by omega)) hr cr
    have hle := br_L hC hS hI hR hW hun hth hth6 ht hk hp hm hl (fun x hx => hb x (by omega)) (fun x y hx hy => hi x y (by omega) (by omega))
    refine ⟨nI (BR r told un (rowL Q k L)), nI c2, hr2, cr2, T, ?_, hT⟩
    rw [PX7_try_3_eq]
    simp only [lt_ap]
    rw [show (27 : Int32) + nI k = nI (27 + k) from nI_add 27 k, nI_clamp (show 27 + k < 2 ^ 31 by omega), hmm, if_pos (show (3 : Int32) = nI 3 by decide), un5_eq e, nI_1, nI_add]
    exact mn_j (by omega) (by omega) (fun z => (nI (BR r told un (rowL Q k L)), nI c2, nI (a + 1), nI (s + BR r told un (rowL Q k L)), z, hr2, cr2, T))
  · have hlt : 3 < m := by omega
    have etr : tr m (m - 3) L = trs (fun p => if has L p then [] else tr m (m - 4) (L ++ [p])) m := by
      rw [show m - 3 = (m - 4) + 1 by omega]
      rfl
    have hloop : ∀ (d p f : Nat) (y1 y2 : Int32) (hr cr T : Nat → Int32), m - p = d → p ≤ m → d < f → (∀ q : Nat, q < 90 → ¬ (4 * k + 3 ≤ q ∧ q < 4 * k + m) → T q = rowL Q k L q) → ∃ (x1' x2' : Int32) (hr' cr' T' : Nat → Int32), HX7_try_3_0 r told Q un (nI k) (nI u) f (nI p) (nI (a + (trs (fun p => if has L p then [] else tr m (m - 4) (L ++ [p])) p).length)) y1 y2 (nI (s + sumL (fun L => BR r told un (rowL Q k L)) (trs (fun p => if has L p then [] else tr m (m - 4) (L ++ [p])) p))) (nI (minL (fun L => BR r told un (rowL Q k L)) l (trs (fun p => if has L p then [] else tr m (m - 4) (L ++ [p])) p))) T hr cr = (x1', x2', nI (a + (trs (fun p => if has L p then [] else tr m (m - 4) (L ++ [p])) m).length), nI (s + sumL (fun L => BR r told un (rowL Q k L)) (trs (fun p => if has L p then [] else tr m (m - 4) (L ++ [p])) m)), nI (minL (fun L => BR r told un (rowL Q k L)) l (trs (fun p => if has L p then [] else tr m (m - 4) (L ++ [p])) m)), hr', cr', T') ∧ (∀ q : Nat, q < 90 → ¬ (4 * k + 3 ≤ q ∧ q < 4 * k + m) → T' q = rowL Q k L q) := by
      intro d
      induction d with
      | zero =>
        intro p f y1 y2 hr cr T hd hpm hf hT
        obtain ⟨f, rfl⟩ : ∃ g, f = g + 1 := ⟨f - 1, by omega⟩
        obtain rfl : p = m := by omega
        refine ⟨y1, y2, hr, cr, T, ?_, hT⟩
        rw [HX7_try_3_0_eq]
        simp only [lt_ap]
        rw [show (27 : Int32) + nI k = nI (27 + k) from nI_add 27 k, nI_clamp (show 27 + k < 2 ^ 31 by omega), hmm, if_pos (nI_le (Nat.le_refl _) (by omega))]
      | succ d ih =>
        intro p f y1 y2 hr cr T hd hpm hf hT
        obtain ⟨f, rfl⟩ : ∃ g, f = g + 1 := ⟨f - 1, by omega⟩
        have hpl : p < m := by omega
        have hup := hu p hpl
        rw [HX7_try_3_0_eq]
        simp only [lt_ap]
        rw [show (27 : Int32) + nI k = nI (27 + k) from nI_add 27 k, nI_clamp (show 27 + k < 2 ^ 31 by omega), hmm, if_neg (show ¬ nI m ≤ nI p by rw [nI_leI (by omega) (by omega)]; omega), hasBit_eq (show u < 2 ^ 31 by omega) (show p < 31 by omega), hup]
        by_cases hh : has L p = true
        · have eg : trs (fun p => if has L p then [] else tr m (m - 4) (L ++ [p])) (p + 1) = trs (fun p => if has L p then [] else tr m (m - 4) (L ++ [p])) p := by
            show trs (fun p => if has L p then [] else tr m (m - 4) (L ++ [p])) p ++ (if has L p then [] else _) = _
            rw [if_pos hh, List.append_nil]
          rw [if_pos hh, if_neg (show ¬ (1 : Int32) = 0 by decide), nI_o1, ← eg]
          exact ih (p + 1) f y1 y2 hr cr T (by omega) (by omega) (by omega) hT
        · have hf' : has L p = false := Bool.eq_false_iff.mpr hh
          have eg : trs (fun p => if has L p then [] else tr m (m - 4) (L ++ [p])) (p + 1) = trs (fun p => if has L p then [] else tr m (m - 4) (L ++ [p])) p ++ tr m (m - 4) (L ++ [p]) := by
            show trs (fun p => if has L p then [] else tr m (m - 4) (L ++ [p])) p ++ (if has L p then [] else _) = _
            rw [if_neg hh]
          rw [if_neg hh, if_pos rfl, nI_m4' (by omega), show (3 : Int32) = nI 3 by decide, nI_add, nI_add, nI_clamp (show 4 * k + 3 < 2 ^ 31 by omega), nI_clamp (show 4 * k + p < 2 ^ 31 by omega)]
          have hrow := row_snoc (p := p) hl hlt hT
          have hmin := minL_le (fun L => BR r told un (rowL Q k L)) (trs (fun p => if has L p then [] else tr m (m - 4) (L ++ [p])) p) l
          obtain ⟨z1, z2, hr2, cr2, e⟩ := tr_4 hC hS hI hR hW hun hth hth6 ht hk hp hm (by omega) (L := L ++ [p]) (by rw [len_snoc, hl]) (has_b hl hb hpl) (has_lt hl hi hf') (a := a + (trs (fun p => if has L p then [] else tr m (m - 4) (L ++ [p])) p).length) (s := s + sumL (fun L => BR r told un (rowL Q k L)) (trs (fun p => if has L p then [] else tr m (m - 4) (L ++ [p])) p)) (l := minL (fun L => BR r told un (rowL Q k L)) l (trs (fun p => if has L p then [] else tr m (m - 4) (L ++ [p])) p)) (hr := hr) (cr := cr) hrow (by omega)
          have e40 : tr m (m - 4) (L ++ [p]) = tr m 0 (L ++ [p]) := by rw [show m - 4 = 0 by omega]
          rw [un7_eq e, nI_o1]
          have f1 : a + (trs (fun p => if has L p then [] else tr m (m - 4) (L ++ [p])) p).length + (tr m 0 (L ++ [p])).length = a + (trs (fun p => if has L p then [] else tr m (m - 4) (L ++ [p])) (p + 1)).length := by rw [eg, e40, List.length_append]; omega
          have f2 : s + sumL (fun L => BR r told un (rowL Q k L)) (trs (fun p => if has L p then [] else tr m (m - 4) (L ++ [p])) p) + sumL (fun L => BR r told un (rowL Q k L)) (tr m 0 (L ++ [p])) = s + sumL (fun L => BR r told un (rowL Q k L)) (trs (fun p => if has L p then [] else tr m (m - 4) (L ++ [p])) (p + 1)) := by rw [eg, e40, sumL_app]; omega
          have f3 : minL (fun L => BR r told un (rowL Q k L)) (minL (fun L => BR r told un (rowL Q k L)) l (trs (fun p => if has L p then [] else tr m (m - 4) (L ++ [p])) p)) (tr m 0 (L ++ [p])) = minL (fun L => BR r told un (rowL Q k L)) l (trs (fun p => if has L p then [] else tr m (m - 4) (L ++ [p])) (p + 1)) := by rw [eg, e40, minL_app]
          rw [f1, f2, f3]
          exact ih (p + 1) f z1 z2 hr2 cr2 _ (by omega) (by omega) (by omega) (row_back hl hlt hrow)
    obtain ⟨x1', x2', hr', cr', T', e, hT'⟩ := hloop m 0 ((((r (27 + (nI k).toNatClampNeg)).toInt - (0 : Int32).toInt).toNat) + 1) x1 x2 hr cr T rfl (by omega) (by rw [nI_clamp (by omega), hmm, nI_toInt (by omega), kc_0]; omega) hT
    refine ⟨x1', x2', hr', cr', T', ?_, hT'⟩
    rw [etr, PX7_try_3_eq]
    simp only [lt_ap]
    rw [show (27 : Int32) + nI k = nI (27 + k) from nI_add 27 k, nI_clamp (show 27 + k < 2 ^ 31 by omega), if_neg (show ¬ (3 : Int32) = r (27 + k) by rw [hmm, show (3 : Int32) = nI 3 by decide, nI_eq (by omega) (by omega)]; omega)]
    rw [nI_0] at e
    exact e
theorem tr_2 (hC : CR N words unsures slips throne said kind parts pn wt tw uw uo r told) (hS : StR N parts pn W o Q) (hI : CI N unit kind parts pn wt ws steps below above) (hR : ROk r) (hW : ∀ k : Nat, k < N → kind k = 0 → 0 ≤ (W k).toInt ∧ (W k).toInt ≤ 99) {un : Int32} (hun : 1 ≤ un.toInt ∧ un.toInt ≤ 1296) {t : Nat} (hth : throne = nI t) (hth6 : r 6 = nI t) (ht : t < N) {k m : Nat} (hk : k < N) (hp : parts k = nI m) (hm : m ≤ 4) (him : 2 ≤ m) {L : List Nat} (hl : L.length = 2) (hb : ∀ x : Nat, x < 2 → gd L x < m) (hi : ∀ x y : Nat, x < 2 → y < 2 → gd L x = gd L y → x = y) {u : Nat} (hu16 : u < 16) (hu : ∀ q : Nat, q < m → u.testBit q = has L q) {a s l : Nat} (x1 x2 : Int32) {hr cr T : Nat → Int32} (hT : ∀ q : Nat, q < 90 → ¬ (4 * k + 2 ≤ q ∧ q < 4 * k + m) → T q = rowL Q k L q) (hl9 : l ≤ 100000000) : ∃ (x1' x2' : Int32) (hr' cr' T' : Nat → Int32), PX7_try_2 r told Q un hr cr x1 x2 T (nI a) (nI s) (nI l) (nI k) (nI u) = (x1', x2', nI (a + (tr m (m - 2) L).length), nI (s + sumL (fun L => BR r told un (rowL Q k L)) (tr m (m - 2) L)), nI (minL (fun L => BR r told un (rowL Q k L)) l (tr m (m - 2) L)), hr', cr', T') ∧ (∀ q : Nat, q < 90 → ¬ (4 * k + 2 ≤ q ∧ q < 4 * k + m) → T' q = rowL Q k L q) := by
  have hN := hI.1
  have hmm := many_q hC hk hp
  by_cases h4 : m = 2
  · subst h4
    obtain ⟨c2, hr2, cr2, e⟩ := br_7 hC (hS.perm hN hk hp hm hl (fun x hx => hb x (by omega)) (fun x y hx hy => hi x y (by omega) (by omega)) hC.p4) hI hR hW hun hth hth6 ht (Q' := T) (fun q hq => hT q hq (by omega)) hr cr
    have hle := br_L hC hS hI hR hW hun hth hth6 ht hk hp hm hl (fun x hx => hb x (by omega)) (fun x y hx hy => hi x y (by omega) (by omega))
    refine ⟨nI (BR r told un (rowL Q k L)), nI c2, hr2, cr2, T, ?_, hT⟩
    rw [PX7_try_2_eq]
    simp only [lt_ap]
    rw [show (27 : Int32) + nI k = nI (27 + k) from nI_add 27 k, nI_clamp (show 27 + k < 2 ^ 31 by omega), hmm, if_pos (show (2 : Int32) = nI 2 by decide), un5_eq e, nI_1, nI_add]
    exact mn_j (by omega) (by omega) (fun z => (nI (BR r told un (rowL Q k L)), nI c2, nI (a + 1), nI (s + BR r told un (rowL Q k L)), z, hr2, cr2, T))
  · have hlt : 2 < m := by omega
    have etr : tr m (m - 2) L = trs (fun p => if has L p then [] else tr m (m - 3) (L ++ [p])) m := by
      rw [show m - 2 = (m - 3) + 1 by omega]
      rfl
    have hloop : ∀ (d p f : Nat) (y1 y2 : Int32) (hr cr T : Nat → Int32), m - p = d → p ≤ m → d < f → (∀ q : Nat, q < 90 → ¬ (4 * k + 2 ≤ q ∧ q < 4 * k + m) → T q = rowL Q k L q) → ∃ (x1' x2' : Int32) (hr' cr' T' : Nat → Int32), HX7_try_2_0 r told Q un (nI k) (nI u) f (nI p) (nI (a + (trs (fun p => if has L p then [] else tr m (m - 3) (L ++ [p])) p).length)) y1 y2 (nI (s + sumL (fun L => BR r told un (rowL Q k L)) (trs (fun p => if has L p then [] else tr m (m - 3) (L ++ [p])) p))) (nI (minL (fun L => BR r told un (rowL Q k L)) l (trs (fun p => if has L p then [] else tr m (m - 3) (L ++ [p])) p))) T hr cr = (x1', x2', nI (a + (trs (fun p => if has L p then [] else tr m (m - 3) (L ++ [p])) m).length), nI (s + sumL (fun L => BR r told un (rowL Q k L)) (trs (fun p => if has L p then [] else tr m (m - 3) (L ++ [p])) m)), nI (minL (fun L => BR r told un (rowL Q k L)) l (trs (fun p => if has L p then [] else tr m (m - 3) (L ++ [p])) m)), hr', cr', T') ∧ (∀ q : Nat, q < 90 → ¬ (4 * k + 2 ≤ q ∧ q < 4 * k + m) → T' q = rowL Q k L q) := by
      intro d
      induction d with
      | zero =>
        intro p f y1 y2 hr cr T hd hpm hf hT
        obtain ⟨f, rfl⟩ : ∃ g, f = g + 1 := ⟨f - 1, by omega⟩
        obtain rfl : p = m := by omega
        refine ⟨y1, y2, hr, cr, T, ?_, hT⟩
        rw [HX7_try_2_0_eq]
        simp only [lt_ap]
        rw [show (27 : Int32) + nI k = nI (27 + k) from nI_add 27 k, nI_clamp (show 27 + k < 2 ^ 31 by omega), hmm, if_pos (nI_le (Nat.le_refl _) (by omega))]
      | succ d ih =>
        intro p f y1 y2 hr cr T hd hpm hf hT
        obtain ⟨f, rfl⟩ : ∃ g, f = g + 1 := ⟨f - 1, by omega⟩
        have hpl : p < m := by omega
        have hup := hu p hpl
        rw [HX7_try_2_0_eq]
        simp only [lt_ap]
        rw [show (27 : Int32) + nI k = nI (27 + k) from nI_add 27 k, nI_clamp (show 27 + k < 2 ^ 31 by omega), hmm, if_neg (show ¬ nI m ≤ nI p by rw [nI_leI (by omega) (by omega)]; omega), hasBit_eq (show u < 2 ^ 31 by omega) (show p < 31 by omega), hup]
        by_cases hh : has L p = true
        · have eg : trs (fun p => if has L p then [] else tr m (m - 3) (L ++ [p])) (p + 1) = trs (fun p => if has L p then [] else tr m (m - 3) (L ++ [p])) p := by
            show trs (fun p => if has L p then [] else tr m (m - 3) (L ++ [p])) p ++ (if has L p then [] else _) = _
            rw [if_pos hh, List.append_nil]
          rw [if_pos hh, if_neg (show ¬ (1 : Int32) = 0 by decide), nI_o1, ← eg]
          exact ih (p + 1) f y1 y2 hr cr T (by omega) (by omega) (by omega) hT
        · have hf' : has L p = false := Bool.eq_false_iff.mpr hh
          have eg : trs (fun p => if has L p then [] else tr m (m - 3) (L ++ [p])) (p + 1) = trs (fun p => if has L p then [] else tr m (m - 3) (L ++ [p])) p ++ tr m (m - 3) (L ++ [p]) := by
            show trs (fun p => if has L p then [] else tr m (m - 3) (L ++ [p])) p ++ (if has L p then [] else _) = _
            rw [if_neg hh]
          rw [if_neg hh, if_pos rfl, bt_shl p (by omega), bt_or, nI_m4' (by omega), show (2 : Int32) = nI 2 by decide, nI_add, nI_add, nI_clamp (show 4 * k + 2 < 2 ^ 31 by omega), nI_clamp (show 4 * k + p < 2 ^ 31 by omega)]
          have hrow := row_snoc (p := p) hl hlt hT
          have hmin := minL_le (fun L => BR r told un (rowL Q k L)) (trs (fun p => if has L p then [] else tr m (m - 3) (L ++ [p])) p) l
          obtain ⟨z1, z2, hr2, cr2, T2, e, hT2⟩ := tr_3 hC hS hI hR hW hun hth hth6 ht hk hp hm (by omega) (L := L ++ [p]) (by rw [len_snoc, hl]) (has_b hl hb hpl) (has_lt hl hi hf') (u := u ||| 2 ^ p) (Nat.or_lt_two_pow (n := 4) hu16 (Nat.pow_lt_pow_right (by decide) (by omega))) (bit_snoc hu) (a := a + (trs (fun p => if has L p then [] else tr m (m - 3) (L ++ [p])) p).length) (s := s + sumL (fun L => BR r told un (rowL Q k L)) (trs (fun p => if has L p then [] else tr m (m - 3) (L ++ [p])) p)) (l := minL (fun L => BR r told un (rowL Q k L)) l (trs (fun p => if has L p then [] else tr m (m - 3) (L ++ [p])) p)) y1 y2 (hr := hr) (cr := cr) hrow (by omega)
          rw [un8_eq e, nI_o1]
          have f1 : a + (trs (fun p => if has L p then [] else tr m (m - 3) (L ++ [p])) p).length + (tr m (m - 3) (L ++ [p])).length = a + (trs (fun p => if has L p then [] else tr m (m - 3) (L ++ [p])) (p + 1)).length := by rw [eg, List.length_append]; omega
          have f2 : s + sumL (fun L => BR r told un (rowL Q k L)) (trs (fun p => if has L p then [] else tr m (m - 3) (L ++ [p])) p) + sumL (fun L => BR r told un (rowL Q k L)) (tr m (m - 3) (L ++ [p])) = s + sumL (fun L => BR r told un (rowL Q k L)) (trs (fun p => if has L p then [] else tr m (m - 3) (L ++ [p])) (p + 1)) := by rw [eg, sumL_app]; omega
          have f3 : minL (fun L => BR r told un (rowL Q k L)) (minL (fun L => BR r told un (rowL Q k L)) l (trs (fun p => if has L p then [] else tr m (m - 3) (L ++ [p])) p)) (tr m (m - 3) (L ++ [p])) = minL (fun L => BR r told un (rowL Q k L)) l (trs (fun p => if has L p then [] else tr m (m - 3) (L ++ [p])) (p + 1)) := by rw [eg, minL_app]
          rw [f1, f2, f3]
          exact ih (p + 1) f z1 z2 hr2 cr2 T2 (by omega) (by omega) (by omega) (row_back hl hlt hT2)
    obtain ⟨x1', x2', hr', cr', T', e, hT'⟩ := hloop m 0 ((((r (27 + (nI k).toNatClampNeg)).toInt - (0 : Int32).toInt).toNat) + 1) x1 x2 hr cr T rfl (by omega) (by rw [nI_clamp (by omega), hmm, nI_toInt (by omega), kc_0]; omega) hT
    refine ⟨x1', x2', hr', cr', T', ?_, hT'⟩
    rw [etr, PX7_try_2_eq]
    simp only [lt_ap]
    rw [show (27 : Int32) + nI k = nI (27 + k) from nI_add 27 k, nI_clamp (show 27 + k < 2 ^ 31 by omega), if_neg (show ¬ (2 : Int32) = r (27 + k) by rw [hmm, show (2 : Int32) = nI 2 by decide, nI_eq (by omega) (by omega)]; omega)]
    rw [nI_0] at e
    exact e
theorem tr_1 (hC : CR N words unsures slips throne said kind parts pn wt tw uw uo r told) (hS : StR N parts pn W o Q) (hI : CI N unit kind parts pn wt ws steps below above) (hR : ROk r) (hW : ∀ k : Nat, k < N → kind k = 0 → 0 ≤ (W k).toInt ∧ (W k).toInt ≤ 99) {un : Int32} (hun : 1 ≤ un.toInt ∧ un.toInt ≤ 1296) {t : Nat} (hth : throne = nI t) (hth6 : r 6 = nI t) (ht : t < N) {k m : Nat} (hk : k < N) (hp : parts k = nI m) (hm : m ≤ 4) (him : 1 ≤ m) {L : List Nat} (hl : L.length = 1) (hb : ∀ x : Nat, x < 1 → gd L x < m) (hi : ∀ x y : Nat, x < 1 → y < 1 → gd L x = gd L y → x = y) {u : Nat} (hu16 : u < 16) (hu : ∀ q : Nat, q < m → u.testBit q = has L q) {a s l : Nat} (x1 x2 : Int32) {hr cr T : Nat → Int32} (hT : ∀ q : Nat, q < 90 → ¬ (4 * k + 1 ≤ q ∧ q < 4 * k + m) → T q = rowL Q k L q) (hl9 : l ≤ 100000000) : ∃ (x1' x2' : Int32) (hr' cr' T' : Nat → Int32), PX7_try_1 r told Q un hr cr x1 x2 T (nI a) (nI s) (nI l) (nI k) (nI u) = (x1', x2', nI (a + (tr m (m - 1) L).length), nI (s + sumL (fun L => BR r told un (rowL Q k L)) (tr m (m - 1) L)), nI (minL (fun L => BR r told un (rowL Q k L)) l (tr m (m - 1) L)), hr', cr', T') ∧ (∀ q : Nat, q < 90 → ¬ (4 * k + 1 ≤ q ∧ q < 4 * k + m) → T' q = rowL Q k L q) := by
  have hN := hI.1
  have hmm := many_q hC hk hp
  by_cases h4 : m = 1
  · subst h4
    obtain ⟨c2, hr2, cr2, e⟩ := br_7 hC (hS.perm hN hk hp hm hl (fun x hx => hb x (by omega)) (fun x y hx hy => hi x y (by omega) (by omega)) hC.p4) hI hR hW hun hth hth6 ht (Q' := T) (fun q hq => hT q hq (by omega)) hr cr
    have hle := br_L hC hS hI hR hW hun hth hth6 ht hk hp hm hl (fun x hx => hb x (by omega)) (fun x y hx hy => hi x y (by omega) (by omega))
    refine ⟨nI (BR r told un (rowL Q k L)), nI c2, hr2, cr2, T, ?_, hT⟩
    rw [PX7_try_1_eq]
    simp only [lt_ap]
    rw [show (27 : Int32) + nI k = nI (27 + k) from nI_add 27 k, nI_clamp (show 27 + k < 2 ^ 31 by omega), hmm, if_pos (show (1 : Int32) = nI 1 by decide), un5_eq e, nI_1, nI_add]
    exact mn_j (by omega) (by omega) (fun z => (nI (BR r told un (rowL Q k L)), nI c2, nI (a + 1), nI (s + BR r told un (rowL Q k L)), z, hr2, cr2, T))
  · have hlt : 1 < m := by omega
    have etr : tr m (m - 1) L = trs (fun p => if has L p then [] else tr m (m - 2) (L ++ [p])) m := by
      rw [show m - 1 = (m - 2) + 1 by omega]
      rfl
    have hloop : ∀ (d p f : Nat) (y1 y2 : Int32) (hr cr T : Nat → Int32), m - p = d → p ≤ m → d < f → (∀ q : Nat, q < 90 → ¬ (4 * k + 1 ≤ q ∧ q < 4 * k + m) → T q = rowL Q k L q) → ∃ (x1' x2' : Int32) (hr' cr' T' : Nat → Int32), HX7_try_1_0 r told Q un (nI k) (nI u) f (nI p) (nI (a + (trs (fun p => if has L p then [] else tr m (m - 2) (L ++ [p])) p).length)) y1 y2 (nI (s + sumL (fun L => BR r told un (rowL Q k L)) (trs (fun p => if has L p then [] else tr m (m - 2) (L ++ [p])) p))) (nI (minL (fun L => BR r told un (rowL Q k L)) l (trs (fun p => if has L p then [] else tr m (m - 2) (L ++ [p])) p))) T hr cr = (x1', x2', nI (a + (trs (fun p => if has L p then [] else tr m (m - 2) (L ++ [p])) m).length), nI (s + sumL (fun L => BR r told un (rowL Q k L)) (trs (fun p => if has L p then [] else tr m (m - 2) (L ++ [p])) m)), nI (minL (fun L => BR r told un (rowL Q k L)) l (trs (fun p => if has L p then [] else tr m (m - 2) (L ++ [p])) m)), hr', cr', T') ∧ (∀ q : Nat, q < 90 → ¬ (4 * k + 1 ≤ q ∧ q < 4 * k + m) → T' q = rowL Q k L q) := by
      intro d
      induction d with
      | zero =>
        intro p f y1 y2 hr cr T hd hpm hf hT
        obtain ⟨f, rfl⟩ : ∃ g, f = g + 1 := ⟨f - 1, by omega⟩
        obtain rfl : p = m := by omega
        refine ⟨y1, y2, hr, cr, T, ?_, hT⟩
        rw [HX7_try_1_0_eq]
        simp only [lt_ap]
        rw [show (27 : Int32) + nI k = nI (27 + k) from nI_add 27 k, nI_clamp (show 27 + k < 2 ^ 31 by omega), hmm, if_pos (nI_le (Nat.le_refl _) (by omega))]
      | succ d ih =>
        intro p f y1 y2 hr cr T hd hpm hf hT
        obtain ⟨f, rfl⟩ : ∃ g, f = g + 1 := ⟨f - 1, by omega⟩
        have hpl : p < m := by omega
        have hup := hu p hpl
        rw [HX7_try_1_0_eq]
        simp only [lt_ap]
        rw [show (27 : Int32) + nI k = nI (27 + k) from nI_add 27 k, nI_clamp (show 27 + k < 2 ^ 31 by omega), hmm, if_neg (show ¬ nI m ≤ nI p by rw [nI_leI (by omega) (by omega)]; omega), hasBit_eq (show u < 2 ^ 31 by omega) (show p < 31 by omega), hup]
        by_cases hh : has L p = true
        · have eg : trs (fun p => if has L p then [] else tr m (m - 2) (L ++ [p])) (p + 1) = trs (fun p => if has L p then [] else tr m (m - 2) (L ++ [p])) p := by
            show trs (fun p => if has L p then [] else tr m (m - 2) (L ++ [p])) p ++ (if has L p then [] else _) = _
            rw [if_pos hh, List.append_nil]
          rw [if_pos hh, if_neg (show ¬ (1 : Int32) = 0 by decide), nI_o1, ← eg]
          exact ih (p + 1) f y1 y2 hr cr T (by omega) (by omega) (by omega) hT
        · have hf' : has L p = false := Bool.eq_false_iff.mpr hh
          have eg : trs (fun p => if has L p then [] else tr m (m - 2) (L ++ [p])) (p + 1) = trs (fun p => if has L p then [] else tr m (m - 2) (L ++ [p])) p ++ tr m (m - 2) (L ++ [p]) := by
            show trs (fun p => if has L p then [] else tr m (m - 2) (L ++ [p])) p ++ (if has L p then [] else _) = _
            rw [if_neg hh]
          rw [if_neg hh, if_pos rfl, bt_shl p (by omega), bt_or, nI_m4' (by omega), show (1 : Int32) = nI 1 by decide, nI_add, nI_add, nI_clamp (show 4 * k + 1 < 2 ^ 31 by omega), nI_clamp (show 4 * k + p < 2 ^ 31 by omega)]
          have hrow := row_snoc (p := p) hl hlt hT
          have hmin := minL_le (fun L => BR r told un (rowL Q k L)) (trs (fun p => if has L p then [] else tr m (m - 2) (L ++ [p])) p) l
          obtain ⟨z1, z2, hr2, cr2, T2, e, hT2⟩ := tr_2 hC hS hI hR hW hun hth hth6 ht hk hp hm (by omega) (L := L ++ [p]) (by rw [len_snoc, hl]) (has_b hl hb hpl) (has_lt hl hi hf') (u := u ||| 2 ^ p) (Nat.or_lt_two_pow (n := 4) hu16 (Nat.pow_lt_pow_right (by decide) (by omega))) (bit_snoc hu) (a := a + (trs (fun p => if has L p then [] else tr m (m - 2) (L ++ [p])) p).length) (s := s + sumL (fun L => BR r told un (rowL Q k L)) (trs (fun p => if has L p then [] else tr m (m - 2) (L ++ [p])) p)) (l := minL (fun L => BR r told un (rowL Q k L)) l (trs (fun p => if has L p then [] else tr m (m - 2) (L ++ [p])) p)) y1 y2 (hr := hr) (cr := cr) hrow (by omega)
          rw [un8_eq e, nI_o1]
          have f1 : a + (trs (fun p => if has L p then [] else tr m (m - 2) (L ++ [p])) p).length + (tr m (m - 2) (L ++ [p])).length = a + (trs (fun p => if has L p then [] else tr m (m - 2) (L ++ [p])) (p + 1)).length := by rw [eg, List.length_append]; omega
          have f2 : s + sumL (fun L => BR r told un (rowL Q k L)) (trs (fun p => if has L p then [] else tr m (m - 2) (L ++ [p])) p) + sumL (fun L => BR r told un (rowL Q k L)) (tr m (m - 2) (L ++ [p])) = s + sumL (fun L => BR r told un (rowL Q k L)) (trs (fun p => if has L p then [] else tr m (m - 2) (L ++ [p])) (p + 1)) := by rw [eg, sumL_app]; omega
          have f3 : minL (fun L => BR r told un (rowL Q k L)) (minL (fun L => BR r told un (rowL Q k L)) l (trs (fun p => if has L p then [] else tr m (m - 2) (L ++ [p])) p)) (tr m (m - 2) (L ++ [p])) = minL (fun L => BR r told un (rowL Q k L)) l (trs (fun p => if has L p then [] else tr m (m - 2) (L ++ [p])) (p + 1)) := by rw [eg, minL_app]
          rw [f1, f2, f3]
          exact ih (p + 1) f z1 z2 hr2 cr2 T2 (by omega) (by omega) (by omega) (row_back hl hlt hT2)
    obtain ⟨x1', x2', hr', cr', T', e, hT'⟩ := hloop m 0 ((((r (27 + (nI k).toNatClampNeg)).toInt - (0 : Int32).toInt).toNat) + 1) x1 x2 hr cr T rfl (by omega) (by rw [nI_clamp (by omega), hmm, nI_toInt (by omega), kc_0]; omega) hT
    refine ⟨x1', x2', hr', cr', T', ?_, hT'⟩
    rw [etr, PX7_try_1_eq]
    simp only [lt_ap]
    rw [show (27 : Int32) + nI k = nI (27 + k) from nI_add 27 k, nI_clamp (show 27 + k < 2 ^ 31 by omega), if_neg (show ¬ (1 : Int32) = r (27 + k) by rw [hmm, show (1 : Int32) = nI 1 by decide, nI_eq (by omega) (by omega)]; omega)]
    rw [nI_0] at e
    exact e
theorem tr_0 (hC : CR N words unsures slips throne said kind parts pn wt tw uw uo r told) (hS : StR N parts pn W o Q) (hI : CI N unit kind parts pn wt ws steps below above) (hR : ROk r) (hW : ∀ k : Nat, k < N → kind k = 0 → 0 ≤ (W k).toInt ∧ (W k).toInt ≤ 99) {un : Int32} (hun : 1 ≤ un.toInt ∧ un.toInt ≤ 1296) {t : Nat} (hth : throne = nI t) (hth6 : r 6 = nI t) (ht : t < N) {k m : Nat} (hk : k < N) (hp : parts k = nI m) (hm : m ≤ 4) (him : 0 ≤ m) {L : List Nat} (hl : L.length = 0) (hb : ∀ x : Nat, x < 0 → gd L x < m) (hi : ∀ x y : Nat, x < 0 → y < 0 → gd L x = gd L y → x = y) {u : Nat} (hu16 : u < 16) (hu : ∀ q : Nat, q < m → u.testBit q = has L q) {a s l : Nat} (x1 x2 : Int32) {hr cr T : Nat → Int32} (hT : ∀ q : Nat, q < 90 → ¬ (4 * k + 0 ≤ q ∧ q < 4 * k + m) → T q = rowL Q k L q) (hl9 : l ≤ 100000000) : ∃ (x1' x2' : Int32) (hr' cr' T' : Nat → Int32), PX7_try_0 r told Q un hr cr x1 x2 T (nI a) (nI s) (nI l) (nI k) (nI u) = (x1', x2', nI (a + (tr m (m - 0) L).length), nI (s + sumL (fun L => BR r told un (rowL Q k L)) (tr m (m - 0) L)), nI (minL (fun L => BR r told un (rowL Q k L)) l (tr m (m - 0) L)), hr', cr', T') ∧ (∀ q : Nat, q < 90 → ¬ (4 * k + 0 ≤ q ∧ q < 4 * k + m) → T' q = rowL Q k L q) := by
  have hN := hI.1
  have hmm := many_q hC hk hp
  by_cases h4 : m = 0
  · subst h4
    obtain ⟨c2, hr2, cr2, e⟩ := br_7 hC (hS.perm hN hk hp hm hl (fun x hx => hb x (by omega)) (fun x y hx hy => hi x y (by omega) (by omega)) hC.p4) hI hR hW hun hth hth6 ht (Q' := T) (fun q hq => hT q hq (by omega)) hr cr
    have hle := br_L hC hS hI hR hW hun hth hth6 ht hk hp hm hl (fun x hx => hb x (by omega)) (fun x y hx hy => hi x y (by omega) (by omega))
    refine ⟨nI (BR r told un (rowL Q k L)), nI c2, hr2, cr2, T, ?_, hT⟩
    rw [PX7_try_0_eq]
    simp only [lt_ap]
    rw [show (27 : Int32) + nI k = nI (27 + k) from nI_add 27 k, nI_clamp (show 27 + k < 2 ^ 31 by omega), hmm, if_pos (show (0 : Int32) = nI 0 by decide), un5_eq e, nI_1, nI_add]
    exact mn_j (by omega) (by omega) (fun z => (nI (BR r told un (rowL Q k L)), nI c2, nI (a + 1), nI (s + BR r told un (rowL Q k L)), z, hr2, cr2, T))
  · have hlt : 0 < m := by omega
    have etr : tr m (m - 0) L = trs (fun p => if has L p then [] else tr m (m - 1) (L ++ [p])) m := by
      rw [show m - 0 = (m - 1) + 1 by omega]
      rfl
    have hloop : ∀ (d p f : Nat) (y1 y2 : Int32) (hr cr T : Nat → Int32), m - p = d → p ≤ m → d < f → (∀ q : Nat, q < 90 → ¬ (4 * k + 0 ≤ q ∧ q < 4 * k + m) → T q = rowL Q k L q) → ∃ (x1' x2' : Int32) (hr' cr' T' : Nat → Int32), HX7_try_0_0 r told Q un (nI k) (nI u) f (nI p) (nI (a + (trs (fun p => if has L p then [] else tr m (m - 1) (L ++ [p])) p).length)) y1 y2 (nI (s + sumL (fun L => BR r told un (rowL Q k L)) (trs (fun p => if has L p then [] else tr m (m - 1) (L ++ [p])) p))) (nI (minL (fun L => BR r told un (rowL Q k L)) l (trs (fun p => if has L p then [] else tr m (m - 1) (L ++ [p])) p))) T hr cr = (x1', x2', nI (a + (trs (fun p => if has L p then [] else tr m (m - 1) (L ++ [p])) m).length), nI (s + sumL (fun L => BR r told un (rowL Q k L)) (trs (fun p => if has L p then [] else tr m (m - 1) (L ++ [p])) m)), nI (minL (fun L => BR r told un (rowL Q k L)) l (trs (fun p => if has L p then [] else tr m (m - 1) (L ++ [p])) m)), hr', cr', T') ∧ (∀ q : Nat, q < 90 → ¬ (4 * k + 0 ≤ q ∧ q < 4 * k + m) → T' q = rowL Q k L q) := by
      intro d
      induction d with
      | zero =>
        intro p f y1 y2 hr cr T hd hpm hf hT
        obtain ⟨f, rfl⟩ : ∃ g, f = g + 1 := ⟨f - 1, by omega⟩
        obtain rfl : p = m := by omega
        refine ⟨y1, y2, hr, cr, T, ?_, hT⟩
        rw [HX7_try_0_0_eq]
        simp only [lt_ap]
        rw [show (27 : Int32) + nI k = nI (27 + k) from nI_add 27 k, nI_clamp (show 27 + k < 2 ^ 31 by omega), hmm, if_pos (nI_le (Nat.le_refl _) (by omega))]
      | succ d ih =>
        intro p f y1 y2 hr cr T hd hpm hf hT
        obtain ⟨f, rfl⟩ : ∃ g, f = g + 1 := ⟨f - 1, by omega⟩
        have hpl : p < m := by omega
        have hup := hu p hpl
        rw [HX7_try_0_0_eq]
        simp only [lt_ap]
        rw [show (27 : Int32) + nI k = nI (27 + k) from nI_add 27 k, nI_clamp (show 27 + k < 2 ^ 31 by omega), hmm, if_neg (show ¬ nI m ≤ nI p by rw [nI_leI (by omega) (by omega)]; omega), hasBit_eq (show u < 2 ^ 31 by omega) (show p < 31 by omega), hup]
        by_cases hh : has L p = true
        · have eg : trs (fun p => if has L p then [] else tr m (m - 1) (L ++ [p])) (p + 1) = trs (fun p => if has L p then [] else tr m (m - 1) (L ++ [p])) p := by
            show trs (fun p => if has L p then [] else tr m (m - 1) (L ++ [p])) p ++ (if has L p then [] else _) = _
            rw [if_pos hh, List.append_nil]
          rw [if_pos hh, if_neg (show ¬ (1 : Int32) = 0 by decide), nI_o1, ← eg]
          exact ih (p + 1) f y1 y2 hr cr T (by omega) (by omega) (by omega) hT
        · have hf' : has L p = false := Bool.eq_false_iff.mpr hh
          have eg : trs (fun p => if has L p then [] else tr m (m - 1) (L ++ [p])) (p + 1) = trs (fun p => if has L p then [] else tr m (m - 1) (L ++ [p])) p ++ tr m (m - 1) (L ++ [p]) := by
            show trs (fun p => if has L p then [] else tr m (m - 1) (L ++ [p])) p ++ (if has L p then [] else _) = _
            rw [if_neg hh]
          rw [if_neg hh, if_pos rfl, bt_shl p (by omega), bt_or, nI_m4' (by omega), show (0 : Int32) = nI 0 by decide, nI_add, nI_add, nI_clamp (show 4 * k + 0 < 2 ^ 31 by omega), nI_clamp (show 4 * k + p < 2 ^ 31 by omega)]
          have hrow := row_snoc (p := p) hl hlt hT
          have hmin := minL_le (fun L => BR r told un (rowL Q k L)) (trs (fun p => if has L p then [] else tr m (m - 1) (L ++ [p])) p) l
          obtain ⟨z1, z2, hr2, cr2, T2, e, hT2⟩ := tr_1 hC hS hI hR hW hun hth hth6 ht hk hp hm (by omega) (L := L ++ [p]) (by rw [len_snoc, hl]) (has_b hl hb hpl) (has_lt hl hi hf') (u := u ||| 2 ^ p) (Nat.or_lt_two_pow (n := 4) hu16 (Nat.pow_lt_pow_right (by decide) (by omega))) (bit_snoc hu) (a := a + (trs (fun p => if has L p then [] else tr m (m - 1) (L ++ [p])) p).length) (s := s + sumL (fun L => BR r told un (rowL Q k L)) (trs (fun p => if has L p then [] else tr m (m - 1) (L ++ [p])) p)) (l := minL (fun L => BR r told un (rowL Q k L)) l (trs (fun p => if has L p then [] else tr m (m - 1) (L ++ [p])) p)) y1 y2 (hr := hr) (cr := cr) hrow (by omega)
          rw [un8_eq e, nI_o1]
          have f1 : a + (trs (fun p => if has L p then [] else tr m (m - 1) (L ++ [p])) p).length + (tr m (m - 1) (L ++ [p])).length = a + (trs (fun p => if has L p then [] else tr m (m - 1) (L ++ [p])) (p + 1)).length := by rw [eg, List.length_append]; omega
          have f2 : s + sumL (fun L => BR r told un (rowL Q k L)) (trs (fun p => if has L p then [] else tr m (m - 1) (L ++ [p])) p) + sumL (fun L => BR r told un (rowL Q k L)) (tr m (m - 1) (L ++ [p])) = s + sumL (fun L => BR r told un (rowL Q k L)) (trs (fun p => if has L p then [] else tr m (m - 1) (L ++ [p])) (p + 1)) := by rw [eg, sumL_app]; omega
          have f3 : minL (fun L => BR r told un (rowL Q k L)) (minL (fun L => BR r told un (rowL Q k L)) l (trs (fun p => if has L p then [] else tr m (m - 1) (L ++ [p])) p)) (tr m (m - 1) (L ++ [p])) = minL (fun L => BR r told un (rowL Q k L)) l (trs (fun p => if has L p then [] else tr m (m - 1) (L ++ [p])) (p + 1)) := by rw [eg, minL_app]
          rw [f1, f2, f3]
          exact ih (p + 1) f z1 z2 hr2 cr2 T2 (by omega) (by omega) (by omega) (row_back hl hlt hT2)
    obtain ⟨x1', x2', hr', cr', T', e, hT'⟩ := hloop m 0 ((((r (27 + (nI k).toNatClampNeg)).toInt - (0 : Int32).toInt).toNat) + 1) x1 x2 hr cr T rfl (by omega) (by rw [nI_clamp (by omega), hmm, nI_toInt (by omega), kc_0]; omega) hT
    refine ⟨x1', x2', hr', cr', T', ?_, hT'⟩
    rw [etr, PX7_try_0_eq]
    simp only [lt_ap]
    rw [show (27 : Int32) + nI k = nI (27 + k) from nI_add 27 k, nI_clamp (show 27 + k < 2 ^ 31 by omega), if_neg (show ¬ (0 : Int32) = r (27 + k) by rw [hmm, show (0 : Int32) = nI 0 by decide, nI_eq (by omega) (by omega)]; omega)]
    rw [nI_0] at e
    exact e
theorem sk_or (hC : CR N words unsures slips throne said kind parts pn wt tw uw uo r told) (hS : StR N parts pn W o Q) (hI : CI N unit kind parts pn wt ws steps below above) (hR : ROk r) (hW : ∀ k : Nat, k < N → kind k = 0 → 0 ≤ (W k).toInt ∧ (W k).toInt ≤ 99) {un : Int32} (hun : 1 ≤ un.toInt ∧ un.toInt ≤ 1296) {t : Nat} (hth : throne = nI t) (hth6 : r 6 = nI t) (ht : t < N) {k m : Nat} (hk : k < N) (hp : parts k = nI m) (hm : m ≤ 4) (x1 x2 : Int32) (hr cr T : Nat → Int32) : ∃ (x1' x2' : Int32) (hr' cr' T' : Nat → Int32), PX7_seekOrders r told Q un hr cr x1 x2 T (nI k) = (x1', x2', nI (fct m), nI (sumL (fun L => BR r told un (rowL Q k L)) (LC m (fct m))), nI (minL (fun L => BR r told un (rowL Q k L)) 100000000 (LC m (fct m))), hr', cr', T') := by
  have hN := hI.1
  obtain ⟨x1', x2', hr', cr', T', e, -⟩ := tr_0 hC hS hI hR hW hun hth hth6 ht hk hp hm (Nat.zero_le m) (L := []) rfl (fun x hx => absurd hx (by omega)) (fun x y hx => absurd hx (by omega)) (u := 0) (by decide) (fun q hq => by rw [Nat.zero_testBit]; rfl) (a := 0) (s := 0) (l := 100000000) x1 x2 (hr := hr) (cr := cr) (T := cpF Q T (0 : Int32).toNatClampNeg (0 : Int32).toNatClampNeg (90 : Int32).toNatClampNeg) (fun q hq _ => by
    rw [cpG90 hq]
    unfold rowL
    rw [if_neg (show ¬ (4 * k ≤ q ∧ q < 4 * k + ([] : List Nat).length) by show ¬ (4 * k ≤ q ∧ q < 4 * k + 0); omega)]) (Nat.le_refl _)
  have hpm := lcp_perm hm
  have h1 : (tr m (m - 0) []).length = fct m := by
    rw [Nat.sub_zero, ← hpm.length_eq, LC_len]
  have h2 : sumL (fun L => BR r told un (rowL Q k L)) (tr m (m - 0) []) = sumL (fun L => BR r told un (rowL Q k L)) (LC m (fct m)) := (sumL_perm _ hpm).symm
  have h3 : minL (fun L => BR r told un (rowL Q k L)) 100000000 (tr m (m - 0) []) = minL (fun L => BR r told un (rowL Q k L)) 100000000 (LC m (fct m)) := (minL_perm _ hpm _).symm
  rw [h1, h2, h3, Nat.zero_add, Nat.zero_add, show nI 100000000 = (100000000 : Int32) by decide, nI_0] at e
  refine ⟨x1', x2', hr', cr', T', ?_⟩
  rw [PX7_seekOrders_eq, lt_ap, un8_eq e]
end WQ
section FJ
variable {nodes words unsures slips throne said : Int32} {kind parts pn wt tw uw uo w o : Nat → Int32} {ic : Int32} {iw0 io0 iw1 io1 iw2 io2 : Nat → Int32} {ac : Int32} {an ao as : Nat → Int32} {hc : Int32} {r told st und kept : Nat → Int32} {undos images : Int32} {unit : Int32} {ws steps below above : Nat → Int32} {scale night : Int32}
theorem orderMean_join (h : Rel nodes words unsures slips throne said kind parts pn wt tw uw uo w o ic iw0 io0 iw1 io1 iw2 io2 ac an ao as hc r told st und kept undos images) (hx : CIS nodes unit kind parts pn wt ws steps below above) (hs : PX7_layScale r = scale) (hM : ROk r ∧ RowOk r st ∧ RowOk r told ∧ WorOk st ∧ night.toInt = -1 ∧ 1 ≤ scale.toInt ∧ scale.toInt ≤ 1296) {xw xo xl : Nat → Int32} {hb hg hn br cm om os lo : Int32} {hw cp hr cr tr : Nat → Int32} {xw' xo' xl' : Nat → Int32} {hb' hg' hn' br' cm' om' os' lo' : Int32} {hw' cp' hr' cr' tr' : Nat → Int32} {p0 p1 : Int32} {q6 q7 : Int64} {rf t1 t2 : Int32} (e6 : PX6_orderMean nodes throne unit kind parts pn wt ws w o xw xo xl hb hg hn hw cp p0 p1 = (q6, rf, xw', xo', xl', hb', hg', hn', hw', cp')) (e7 : PX7_orderMean hc r told st scale hr cr br cm tr om os lo p0 p1 = (q7, t1, t2, br', cm', om', os', lo', hr', cr', tr')) : q6 = q7 ∧ rf = t2 := by
  obtain ⟨hR, hQ, hQt, hW, hnt, hsc⟩ := hM
  have key : ∃ (q : Int64) (f t : Int32) (c1 c2 c3 : Nat → Int32) (d1 d2 d3 : Int32) (c4 c5 : Nat → Int32) (d4 d5 d6 d7 d8 : Int32) (c6 c7 c8 : Nat → Int32), PX6_orderMean nodes throne unit kind parts pn wt ws w o xw xo xl hb hg hn hw cp p0 p1 = (q, f, c1, c2, c3, d1, d2, d3, c4, c5) ∧ PX7_orderMean hc r told st scale hr cr br cm tr om os lo p0 p1 = (q, t, f, d4, d5, d6, d7, d8, c6, c7, c8) := by
    rcases h with ⟨rfl, h0⟩ | ⟨N, c, d, rfl, rfl, rfl, rfl, hc, rfl, rfl, hd, hC, hS, hU, hI⟩
    · obtain ⟨h2, h3, h4, h5, h6, h7, rfl, h8, h9⟩ := h0
      refine ⟨-1, 1, 0, xw, xo, xl, hb, hg, hn, hw, cp, br, cm, om, os, lo, hr, cr, tr, ?_, ?_⟩
      · rw [PX6_orderMean_eq, PX6_lacksNode_eq]
        simp only [lt_ap]
        rw [hn_0, if_neg (show ¬ (0 : Int32) = 1 by decide), un2_eq rfl, if_neg (show ¬ (1 : Int32) = 0 by decide)]
      · rw [PX7_orderMean_eq, PX7_good_eq, un2_eq rfl]
        simp only [lt_ap]
        rw [rn_0, if_neg (show ¬ (0 : Int32) = 1 by decide), no_eq, un2_eq rfl, l2_no]
    · obtain ⟨hN0, hN, hr1⟩ := hC.N
      obtain ⟨M, hM, hX⟩ := hx
      obtain rfl : N = M := (nI_eq (by omega) (by have := hX.1; omega)).mp hM
      obtain rfl : unit = scale := (ls_eq hC hX).symm.trans hs
      have hth : r 6 = throne := hC.2.2.2.2.2.2.1
      obtain ⟨t, t1, t2⟩ := nd_of hN hC.2.2.2.2.2.2.2.2.1
      have hWw := w_in hC hS hW
      by_cases hnn : 0 ≤ p0.toInt ∧ p0.toInt < (N : Int)
      · obtain ⟨k, hk, rfl⟩ := nd_of hN hnn
        obtain ⟨m, hp, hD⟩ := hX.2.1 k hk
        have hm := hD.1
        have hf := fct_in hm
        obtain ⟨y1, y2, hr2, cr2, T2, e7'⟩ := sk_or hC hS hX hR hWw hsc t2 (hth.trans t2) t1 hk hp hm br cm hr cr tr
        obtain ⟨z, y3, y4, y5, a1, a2, a3, a4, a5, e6', hz, hz9⟩ := om_loop hC hS hX hR hWw hsc t2 (hth.trans t2) t1 hk hp hm (p1 := p1) (rf := 0) (fct m) 0 (((2147483647 - (0 : Int32).toInt).toNat) + 1) 0 hb hg hn xw xo xl hw cp rfl (by omega) (by rw [kc_0]; omega) (by show (0 : Int64).toInt = ((0 : Nat) : Int); decide) (Nat.le_refl _)
        rw [nI_0] at e6'
        have ez : z = (nI (sumL (fun L => BR r told unit (rowL st k L)) (LC m (fct m)))).toInt64 := Int64.toInt_inj.mp (by rw [hz, Int32.toInt_toInt64, nI_toInt (by omega)])
        have elo := lowest_eq (u := (nI (sumL (fun L => BR r told unit (rowL st k L)) (LC m (fct m)))).toInt64) (d := (nI (fct m)).toInt64) (by rw [Int32.toInt_toInt64, nI_toInt (by omega)]; omega) (by rw [Int32.toInt_toInt64, nI_toInt (by omega)]; omega) p1
        refine ⟨PX7_lowest (nI (sumL (fun L => BR r told unit (rowL st k L)) (LC m (fct m)))).toInt64 (nI (fct m)).toInt64 p1, 0, 0, a1, a2, a3, y3, y4, y5, a4, a5, y1, y2, nI (fct m), nI (sumL (fun L => BR r told unit (rowL st k L)) (LC m (fct m))), nI (minL (fun L => BR r told unit (rowL st k L)) 100000000 (LC m (fct m))), hr2, cr2, T2, ?_, ?_⟩
        · rw [PX6_orderMean_eq, PX6_lacksNode_eq]
          simp only [lt_ap]
          rw [hn_eq hN, if_pos hnn, if_pos rfl, un2_eq rfl, if_pos rfl, oo_eq (by omega) hm hp, e6', ez, elo]
        · rw [PX7_orderMean_eq, PX7_good_eq, un2_eq rfl]
          simp only [lt_ap]
          rw [rn_eq hN0 hN hr1, if_pos hnn, if_pos rfl, un8_eq e7']
      · refine ⟨-1, 1, 0, xw, xo, xl, hb, hg, hn, hw, cp, br, cm, om, os, lo, hr, cr, tr, ?_, ?_⟩
        · rw [PX6_orderMean_eq, PX6_lacksNode_eq]
          simp only [lt_ap]
          rw [hn_eq hN, if_neg hnn, if_neg (show ¬ (0 : Int32) = 1 by decide), un2_eq rfl, if_neg (show ¬ (1 : Int32) = 0 by decide)]
        · rw [PX7_orderMean_eq, PX7_good_eq, un2_eq rfl]
          simp only [lt_ap]
          rw [rn_eq hN0 hN hr1, if_neg hnn, if_neg (show ¬ (0 : Int32) = 1 by decide), no_eq, un2_eq rfl, l2_no]
  obtain ⟨q, f, t, c1, c2, c3, d1, d2, d3, c4, c5, d4, d5, d6, d7, d8, c6, c7, c8, g6, g7⟩ := key
  have x := g6.symm.trans e6
  have y := g7.symm.trans e7
  simp only [Prod.mk.injEq] at x y
  obtain ⟨rfl, rfl, -⟩ := x
  obtain ⟨rfl, -, rfl, -⟩ := y
  exact ⟨rfl, rfl⟩
theorem orderLeast_join (h : Rel nodes words unsures slips throne said kind parts pn wt tw uw uo w o ic iw0 io0 iw1 io1 iw2 io2 ac an ao as hc r told st und kept undos images) (hx : CIS nodes unit kind parts pn wt ws steps below above) (hs : PX7_layScale r = scale) (hM : ROk r ∧ RowOk r st ∧ RowOk r told ∧ WorOk st ∧ night.toInt = -1 ∧ 1 ≤ scale.toInt ∧ scale.toInt ≤ 1296) {xw xo xl : Nat → Int32} {hb hg hn br cm om os lo : Int32} {hw cp hr cr tr : Nat → Int32} {xw' xo' xl' : Nat → Int32} {hb' hg' hn' br' cm' om' os' lo' : Int32} {hw' cp' hr' cr' tr' : Nat → Int32} {p0 : Int32} {q6 q7 : Int32} {rf t1 t2 : Int32} (e6 : PX6_orderLeast nodes throne unit kind parts pn wt ws w o xw xo xl hb hg hn hw cp p0 = (q6, rf, xw', xo', xl', hb', hg', hn', hw', cp')) (e7 : PX7_orderLeast hc r told st scale hr cr br cm tr om os lo p0 = (q7, t1, t2, br', cm', om', os', lo', hr', cr', tr')) : q6 = q7 ∧ rf = t2 := by
  obtain ⟨hR, hQ, hQt, hW, hnt, hsc⟩ := hM
  have key : ∃ (q : Int32) (f t : Int32) (c1 c2 c3 : Nat → Int32) (d1 d2 d3 : Int32) (c4 c5 : Nat → Int32) (d4 d5 d6 d7 d8 : Int32) (c6 c7 c8 : Nat → Int32), PX6_orderLeast nodes throne unit kind parts pn wt ws w o xw xo xl hb hg hn hw cp p0 = (q, f, c1, c2, c3, d1, d2, d3, c4, c5) ∧ PX7_orderLeast hc r told st scale hr cr br cm tr om os lo p0 = (q, t, f, d4, d5, d6, d7, d8, c6, c7, c8) := by
    rcases h with ⟨rfl, h0⟩ | ⟨N, c, d, rfl, rfl, rfl, rfl, hc, rfl, rfl, hd, hC, hS, hU, hI⟩
    · obtain ⟨h2, h3, h4, h5, h6, h7, rfl, h8, h9⟩ := h0
      refine ⟨-1, 1, 0, xw, xo, xl, hb, hg, hn, hw, cp, br, cm, om, os, lo, hr, cr, tr, ?_, ?_⟩
      · rw [PX6_orderLeast_eq, PX6_lacksNode_eq]
        simp only [lt_ap]
        rw [hn_0, if_neg (show ¬ (0 : Int32) = 1 by decide), un2_eq rfl, if_neg (show ¬ (1 : Int32) = 0 by decide)]
      · rw [PX7_orderLeast_eq, PX7_good_eq, un2_eq rfl]
        simp only [lt_ap]
        rw [rn_0, if_neg (show ¬ (0 : Int32) = 1 by decide), no_eq, un2_eq rfl]
    · obtain ⟨hN0, hN, hr1⟩ := hC.N
      obtain ⟨M, hM, hX⟩ := hx
      obtain rfl : N = M := (nI_eq (by omega) (by have := hX.1; omega)).mp hM
      obtain rfl : unit = scale := (ls_eq hC hX).symm.trans hs
      have hth : r 6 = throne := hC.2.2.2.2.2.2.1
      obtain ⟨t, t1, t2⟩ := nd_of hN hC.2.2.2.2.2.2.2.2.1
      have hWw := w_in hC hS hW
      by_cases hnn : 0 ≤ p0.toInt ∧ p0.toInt < (N : Int)
      · obtain ⟨k, hk, rfl⟩ := nd_of hN hnn
        obtain ⟨m, hp, hD⟩ := hX.2.1 k hk
        have hm := hD.1
        have hf := fct_in hm
        obtain ⟨y1, y2, hr2, cr2, T2, e7'⟩ := sk_or hC hS hX hR hWw hsc t2 (hth.trans t2) t1 hk hp hm br cm hr cr tr
        obtain ⟨hb9, hi9⟩ := cd_ok hm (show 0 < fct m by omega)
        have hle := br_L hC hS hX hR hWw hsc t2 (hth.trans t2) t1 hk hp hm (cdL_len m 0) hb9 hi9
        obtain ⟨bits, c', W2, o2, l2, hw2, cp2, e0⟩ := io_6 hC hS hX hR hWw hsc t2 (hth.trans t2) t1 hk hp hm (c := 0) (by omega) xw xo xl hw cp
        have hz : BR r told unit (rowL st k (cdL m 0)) = minL (fun L => BR r told unit (rowL st k L)) 100000000 (LC m 1) := by
          rw [LC_min]
          show _ = min 100000000 (BR r told unit (rowL st k (cdL m 0)))
          omega
        have e1 : (1 : Int32).toInt = 1 := by decide
        obtain ⟨y3, y4, y5, a1, a2, a3, a4, a5, e6'⟩ := ol_loop hC hS hX hR hWw hsc t2 (hth.trans t2) t1 hk hp hm (rf := 0) (fct m - 1) 1 (((2147483647 - (1 : Int32).toInt).toNat) + 1) (BR r told unit (rowL st k (cdL m 0))) (nI (BR r told unit (rowL st k (cdL m 0)))) bits (nI c') W2 o2 l2 hw2 cp2 rfl (by omega) (by rw [e1]; omega) hz hle
        rw [show nI 1 = (1 : Int32) by decide] at e6'
        rw [nI_0] at e0
        refine ⟨nI (minL (fun L => BR r told unit (rowL st k L)) 100000000 (LC m (fct m))), 0, 0, a1, a2, a3, y3, y4, y5, a4, a5, y1, y2, nI (fct m), nI (sumL (fun L => BR r told unit (rowL st k L)) (LC m (fct m))), nI (minL (fun L => BR r told unit (rowL st k L)) 100000000 (LC m (fct m))), hr2, cr2, T2, ?_, ?_⟩
        · rw [PX6_orderLeast_eq, PX6_lacksNode_eq]
          simp only [lt_ap]
          rw [hn_eq hN, if_pos hnn, if_pos rfl, un2_eq rfl, if_pos rfl, oo_eq (by omega) hm hp, un9_eq e0, e6']
        · rw [PX7_orderLeast_eq, PX7_good_eq, un2_eq rfl]
          simp only [lt_ap]
          rw [rn_eq hN0 hN hr1, if_pos hnn, if_pos rfl, un8_eq e7']
      · refine ⟨-1, 1, 0, xw, xo, xl, hb, hg, hn, hw, cp, br, cm, om, os, lo, hr, cr, tr, ?_, ?_⟩
        · rw [PX6_orderLeast_eq, PX6_lacksNode_eq]
          simp only [lt_ap]
          rw [hn_eq hN, if_neg hnn, if_neg (show ¬ (0 : Int32) = 1 by decide), un2_eq rfl, if_neg (show ¬ (1 : Int32) = 0 by decide)]
        · rw [PX7_orderLeast_eq, PX7_good_eq, un2_eq rfl]
          simp only [lt_ap]
          rw [rn_eq hN0 hN hr1, if_neg hnn, if_neg (show ¬ (0 : Int32) = 1 by decide), no_eq, un2_eq rfl]
  obtain ⟨q, f, t, c1, c2, c3, d1, d2, d3, c4, c5, d4, d5, d6, d7, d8, c6, c7, c8, g6, g7⟩ := key
  have x := g6.symm.trans e6
  have y := g7.symm.trans e7
  simp only [Prod.mk.injEq] at x y
  obtain ⟨rfl, rfl, -⟩ := x
  obtain ⟨rfl, -, rfl, -⟩ := y
  exact ⟨rfl, rfl⟩
end FJ
end G7
