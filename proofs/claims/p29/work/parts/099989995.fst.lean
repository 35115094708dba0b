section
/-! how many breaths: a number of the reference's row; first, firstBreaths -/
section G5
theorem cpG90 {f g : Nat → Int32} {q : Nat} (hq : q < 90) : cpF f g (0 : Int32).toNatClampNeg (0 : Int32).toNatClampNeg (90 : Int32).toNatClampNeg q = f q := by
  unfold cpF
  rw [show (0 : Int32).toNatClampNeg = 0 by decide, show (90 : Int32).toNatClampNeg = 90 by decide, if_pos (by omega)]
  congr 1
  omega
/-- breaths of a row, by the reference -/
noncomputable def BR (r told : Nat → Int32) (un : Int32) (Q : Nat → Int32) : Nat := (PX7_breathsBy r told un (fun _ => 0) (fun _ => 0) Q).1.toInt.toNat
section WQ
variable {N : Nat} {words unsures slips throne said unit : Int32} {kind parts pn wt tw uw uo r told W W' o o' Q Q' w st ws steps below above : Nat → Int32}
theorem br_both (hC : CR N words unsures slips throne said kind parts pn wt tw uw uo r told) (hS : StR N parts pn W o Q) (hI : CI N unit kind parts pn wt ws steps below above) (hR : ROk r) (hW : ∀ k : Nat, k < N → kind k = 0 → 0 ≤ (W k).toInt ∧ (W k).toInt ≤ 99) {un : Int32} (hun : 1 ≤ un.toInt ∧ un.toInt ≤ 1296) {t : Nat} (hth : throne = nI t) (hth6 : r 6 = nI t) (ht : t < N) (hw cp hr cr : Nat → Int32) : BR r told un Q ≤ 349 ∧ (∃ (bits : Int32) (c : Nat) (hw' cp' : Nat → Int32), PX2_breathsFreely hw cp (nI N) throne un kind parts pn wt ws W o = (nI (BR r told un Q), nI (BR r told un Q), bits, nI c, hw', cp')) ∧ ∃ (c : Nat) (hr' cr' : Nat → Int32), PX7_breathsBy r told un hr cr Q = (nI (BR r told un Q), nI (BR r told un Q), nI c, hr', cr') := by
  obtain ⟨b, c, bits, hw', cp', hr', cr', e6, e7, hb, hh⟩ := free_sim hC hS hI hR hW hun hth hth6 ht hw cp (fun _ => 0) (fun _ => 0)
  obtain ⟨b2, c2, bits2, hw2, cp2, hr2, cr2, d6, d7, hb2, hh2⟩ := free_sim hC hS hI hR hW hun hth hth6 ht hw cp hr cr
  have eb : BR r told un Q = b := by
    unfold BR
    rw [e7]
    show (nI b).toInt.toNat = b
    (rw [nI_toInt (by omega)]) <;> rfl
  have x := d6.symm.trans e6
  simp only [Prod.mk.injEq] at x
  have hbb : b2 = b := (nI_eq (by omega) (by omega)).mp x.1
  rw [eb]
  rw [hbb] at d7
  exact ⟨by omega, ⟨bits, c, hw', cp', e6⟩, c2, hr2, cr2, d7⟩
theorem br_same (hC : CR N words unsures slips throne said kind parts pn wt tw uw uo r told) (hS : StR N parts pn W o Q) (hI : CI N unit kind parts pn wt ws steps below above) (hR : ROk r) (hS' : StR N parts pn W o Q') (hW : ∀ k : Nat, k < N → kind k = 0 → 0 ≤ (W k).toInt ∧ (W k).toInt ≤ 99) {un : Int32} (hun : 1 ≤ un.toInt ∧ un.toInt ≤ 1296) {t : Nat} (hth : throne = nI t) (hth6 : r 6 = nI t) (ht : t < N) : BR r told un Q' = BR r told un Q := by
  obtain ⟨a1, ⟨bits, c, hw', cp', e⟩, -⟩ := br_both hC hS hI hR hW hun hth hth6 ht (fun _ => 0) (fun _ => 0) (fun _ => 0) (fun _ => 0)
  obtain ⟨a2, ⟨bits2, c2, hw2, cp2, e2⟩, -⟩ := br_both hC hS' hI hR hW hun hth hth6 ht (fun _ => 0) (fun _ => 0) (fun _ => 0) (fun _ => 0)
  have x := e2.symm.trans e
  simp only [Prod.mk.injEq] at x
  exact (nI_eq (by omega) (by omega)).mp x.1
/-- class and reference, each in its own copies -/
theorem br_6 (hC : CR N words unsures slips throne said kind parts pn wt tw uw uo r told) (hS : StR N parts pn W o Q) (hI : CI N unit kind parts pn wt ws steps below above) (hR : ROk r) (hW : ∀ k : Nat, k < N → kind k = 0 → 0 ≤ (W k).toInt ∧ (W k).toInt ≤ 99) {un : Int32} (hun : 1 ≤ un.toInt ∧ un.toInt ≤ 1296) {t : Nat} (hth : throne = nI t) (hth6 : r 6 = nI t) (ht : t < N) (hWW : ∀ k : Nat, k < N → W' k = W k) (hoo : ∀ q : Nat, q < 72 → o' q = o q) (hw cp : Nat → Int32) : ∃ (bits : Int32) (c : Nat) (hw' cp' : Nat → Int32), PX2_breathsFreely hw cp (nI N) throne un kind parts pn wt ws W' o' = (nI (BR r told un Q), nI (BR r told un Q), bits, nI c, hw', cp') := by
  have hN := hI.1
  have hS' : StR N parts pn W' o' Q := by
    have hp4 := hC.p4
    intro k hk
    obtain ⟨h1, h2, h3⟩ := hS k hk
    have h4 := hp4 k hk
    refine ⟨by rw [hWW k hk]; exact h1, fun i hi => ?_, fun i j hi hj e => ?_⟩
    · rw [hoo (4 * k + i) (by omega)]; exact h2 i hi
    · rw [hoo (4 * k + i) (by omega), hoo (4 * k + j) (by omega)] at e; exact h3 i j hi hj e
  exact (br_both hC hS' hI hR (fun k hk h0 => by rw [hWW k hk]; exact hW k hk h0) hun hth hth6 ht hw cp (fun _ => 0) (fun _ => 0)).2.1
theorem br_7 (hC : CR N words unsures slips throne said kind parts pn wt tw uw uo r told) (hS : StR N parts pn W o Q) (hI : CI N unit kind parts pn wt ws steps below above) (hR : ROk r) (hW : ∀ k : Nat, k < N → kind k = 0 → 0 ≤ (W k).toInt ∧ (W k).toInt ≤ 99) {un : Int32} (hun : 1 ≤ un.toInt ∧ un.toInt ≤ 1296) {t : Nat} (hth : throne = nI t) (hth6 : r 6 = nI t) (ht : t < N) (hQ : ∀ q : Nat, q < 90 → Q' q = Q q) (hr cr : Nat → Int32) : ∃ (c : Nat) (hr' cr' : Nat → Int32), PX7_breathsBy r told un hr cr Q' = (nI (BR r told un Q), nI (BR r told un Q), nI c, hr', cr') := by
  have hN := hI.1
  have hS' : StR N parts pn W o Q' := hS.congr hN hC.p4 (fun _ _ => rfl) (fun _ _ => rfl) hQ
  have e := br_same hC hS hI hR hS' hW hun hth hth6 ht
  have h := (br_both hC hS' hI hR hW hun hth hth6 ht (fun _ => 0) (fun _ => 0) hr cr).2.2
  rw [e] at h
  exact h
theorem bf_congr {f g : Nat → Int32} {k i : Nat} (hk : k < 18) (hi : i ≤ 3) (h : ∀ q : Nat, q < 90 → g q = f q) : ∀ q : Nat, q < 90 → bfF g k i q = bfF f k i q := fun q hq => by
  unfold bfF
  by_cases a : q = 4 * k
  · rw [if_pos a, if_pos a, h _ (by omega)]
  · rw [if_neg a, if_neg a]
    by_cases b : 4 * k < q ∧ q ≤ 4 * k + i
    · rw [if_pos b, if_pos b, h _ (by omega)]
    · rw [if_neg b, if_neg b, h _ hq]
theorem bf_congr72 {f g : Nat → Int32} {k i : Nat} (hk : k < 18) (hi : i ≤ 3) (h : ∀ q : Nat, q < 72 → g q = f q) : ∀ q : Nat, q < 72 → bfF g k i q = bfF f k i q := fun q hq => by
  unfold bfF
  by_cases a : q = 4 * k
  · rw [if_pos a, if_pos a, h _ (by omega)]
  · rw [if_neg a, if_neg a]
    by_cases b : 4 * k < q ∧ q ≤ 4 * k + i
    · rw [if_pos b, if_pos b, h _ (by omega)]
    · rw [if_neg b, if_neg b, h _ hq]
theorem wf_6 (hC : CR N words unsures slips throne said kind parts pn wt tw uw uo r told) (hS : StR N parts pn W o Q) (hI : CI N unit kind parts pn wt ws steps below above) (hR : ROk r) (hW : ∀ k : Nat, k < N → kind k = 0 → 0 ≤ (W k).toInt ∧ (W k).toInt ≤ 99) {un : Int32} (hun : 1 ≤ un.toInt ∧ un.toInt ≤ 1296) {t : Nat} (hth : throne = nI t) (hth6 : r 6 = nI t) (ht : t < N) {k i q : Nat} (hk : k < N) (hp : parts k = nI q) (hq : q ≤ 4) (hi : i < q) (tw2 to2 hw cp : Nat → Int32) : ∃ (bits : Int32) (c : Nat) (hw' cp' W' o' : Nat → Int32), PX6_breathsWithFirst (nI N) throne un kind parts pn wt ws W o tw2 to2 hw cp (nI k) (nI i) = (nI (BR r told un (bfF Q k i)), W', o', nI (BR r told un (bfF Q k i)), bits, nI c, hw', cp') := by
  have hN := hI.1
  have hF := hS.front hN hC.p4 hk (i := i) (by rw [hp, nI_toInt (by omega)]; omega)
  obtain ⟨bits, c, hw', cp', e⟩ := br_6 hC hF hI hR hW hun hth hth6 ht (W' := va_cpy W tw2 0 0 18) (o' := bfF (va_cpy o to2 0 0 72) k i) (fun k hk => cpy_q (by omega)) (bf_congr72 (by omega) (by omega) (fun q hq => cpy_q hq)) hw cp
  refine ⟨bits, c, hw', cp', va_cpy W tw2 0 0 18, bfF (va_cpy o to2 0 0 72) k i, ?_⟩
  rw [PX6_breathsWithFirst_eq, cp_eq, un2_eq rfl, lt_ap, bf_eq _ (by omega) (by omega), un6_eq e]
theorem wf_7 (hC : CR N words unsures slips throne said kind parts pn wt tw uw uo r told) (hS : StR N parts pn W o Q) (hI : CI N unit kind parts pn wt ws steps below above) (hR : ROk r) (hW : ∀ k : Nat, k < N → kind k = 0 → 0 ≤ (W k).toInt ∧ (W k).toInt ≤ 99) {un : Int32} (hun : 1 ≤ un.toInt ∧ un.toInt ≤ 1296) {t : Nat} (hth : throne = nI t) (hth6 : r 6 = nI t) (ht : t < N) {k i q : Nat} (hk : k < N) (hp : parts k = nI q) (hq : q ≤ 4) (hi : i < q) (T hr cr : Nat → Int32) : ∃ (c : Nat) (hr' cr' : Nat → Int32), PX7_breathsBy r told un hr cr (PX7_frontOf (cpF Q T (0 : Int32).toNatClampNeg (0 : Int32).toNatClampNeg (90 : Int32).toNatClampNeg) (nI k) (nI i)) = (nI (BR r told un (bfF Q k i)), nI (BR r told un (bfF Q k i)), nI c, hr', cr') := by
  have hN := hI.1
  have hF := hS.front hN hC.p4 hk (i := i) (by rw [hp, nI_toInt (by omega)]; omega)
  rw [fr_eq _ (by omega) (by omega)]
  exact br_7 hC hF hI hR hW hun hth hth6 ht (bf_congr (by omega) (by omega) (fun q hq => cpG90 hq)) hr cr
/-- the loops over the parts -/
theorem pf_loop (hC : CR N words unsures slips throne said kind parts pn wt tw uw uo r told) (hS : StR N parts pn W o Q) (hI : CI N unit kind parts pn wt ws steps below above) (hR : ROk r) (hW : ∀ k : Nat, k < N → kind k = 0 → 0 ≤ (W k).toInt ∧ (W k).toInt ≤ 99) {un : Int32} (hun : 1 ≤ un.toInt ∧ un.toInt ≤ 1296) {t : Nat} (hth : throne = nI t) (hth6 : r 6 = nI t) (ht : t < N) {k q : Nat} (hk : k < N) (hp : parts k = nI q) (hq : q ≤ 4) : ∀ (m i f6 f7 : Nat) (z6 y6 z7 y7 x1 x2 x3 x4 x5 : Int32) (a1 a2 a3 a4 b1 b2 b3 : Nat → Int32), q - i = m → i ≤ q → m < f6 → m < f7 → ((i = 0 ∧ z6 = -1 ∧ z7 = -2 ∧ y7 = -2) ∨ ∃ p : Nat, p < i ∧ z6 = nI p ∧ y6 = nI (BR r told un (bfF Q k p)) ∧ z7 = Q (4 * k + p) ∧ y7 = nI (BR r told un (bfF Q k p))) → ∃ (z6' y6' z7' y7' x1' x2' x3' x4' x5' : Int32) (a1' a2' a3' a4' b1' b2' b3' : Nat → Int32), HX6_placeOfFirst_0 (nI N) throne un kind parts pn wt ws W o (nI k) f6 (nI i) z6 y6 x1 x2 x3 a1 a2 a3 a4 = (z6', a1', a2', x1', x2', x3', a3', a4') ∧ HX7_firstOf_0 r told Q un (nI k) f7 (nI i) z7 x4 x5 y7 b1 b2 b3 = (z7', x4', x5', y7', b1', b2', b3') ∧ ((q = 0 ∧ z6' = -1 ∧ z7' = -2 ∧ y7' = -2) ∨ ∃ p : Nat, p < q ∧ z6' = nI p ∧ z7' = Q (4 * k + p) ∧ y7' = nI (BR r told un (bfF Q k p))) := by
  obtain ⟨hN0, hN, hr1⟩ := hC.N
  have hm := many_q hC hk hp
  have hbb : ∀ p : Nat, p < q → BR r told un (bfF Q k p) ≤ 349 := fun p hpq => by
    have hF := hS.front hN hC.p4 hk (i := p) (by rw [hp, nI_toInt (by omega)]; omega)
    exact (br_both hC hF hI hR hW hun hth hth6 ht (fun _ => 0) (fun _ => 0) (fun _ => 0) (fun _ => 0)).1
  intro m
  induction m with
  | zero =>
    intro i f6 f7 z6 y6 z7 y7 x1 x2 x3 x4 x5 a1 a2 a3 a4 b1 b2 b3 hd hi h6 h7 hst
    obtain ⟨f6, rfl⟩ : ∃ g, f6 = g + 1 := ⟨f6 - 1, by omega⟩
    obtain ⟨f7, rfl⟩ : ∃ g, f7 = g + 1 := ⟨f7 - 1, by omega⟩
    obtain rfl : i = q := by omega
    refine ⟨z6, y6, z7, y7, x1, x2, x3, x4, x5, a1, a2, a3, a4, b1, b2, b3, ?_, ?_, ?_⟩
    · rw [HX6_placeOfFirst_0_eq, lt_ap, nI_clamp (show k < 2 ^ 31 by omega), hp, if_pos (nI_le (Nat.le_refl _) (by omega))]
    · rw [HX7_firstOf_0_eq]
      simp only [lt_ap]
      rw [show (27 : Int32) + nI k = nI (27 + k) from nI_add 27 k, nI_clamp (show 27 + k < 2 ^ 31 by omega), hm, if_pos (nI_le (Nat.le_refl _) (by omega))]
    · rcases hst with h | ⟨p, h1, h2, h3, h4, h5⟩
      · exact Or.inl h
      · exact Or.inr ⟨p, h1, h2, h4, h5⟩
  | succ m ih =>
    intro i f6 f7 z6 y6 z7 y7 x1 x2 x3 x4 x5 a1 a2 a3 a4 b1 b2 b3 hd hi h6 h7 hst
    obtain ⟨f6, rfl⟩ : ∃ g, f6 = g + 1 := ⟨f6 - 1, by omega⟩
    obtain ⟨f7, rfl⟩ : ∃ g, f7 = g + 1 := ⟨f7 - 1, by omega⟩
    obtain ⟨bits, c, hw', cp', W', o', e6⟩ := wf_6 hC hS hI hR hW hun hth hth6 ht hk hp hq (show i < q by omega) a1 a2 a3 a4
    obtain ⟨c2, hr', cr', e7⟩ := wf_7 hC hS hI hR hW hun hth hth6 ht hk hp hq (show i < q by omega) b3 b1 b2
    have hbi := hbb i (by omega)
    rw [HX6_placeOfFirst_0_eq, HX7_firstOf_0_eq]
    simp only [lt_ap]
    rw [nI_clamp (show k < 2 ^ 31 by omega), hp, if_neg (show ¬ nI q ≤ nI i by rw [nI_leI (by omega) (by omega)]; omega), un8_eq e6, show (27 : Int32) + nI k = nI (27 + k) from nI_add 27 k, nI_clamp (show 27 + k < 2 ^ 31 by omega), hm, if_neg (show ¬ nI q ≤ nI i by rw [nI_leI (by omega) (by omega)]; omega), un5_eq e7, nI_m4' (by omega), nI_add, nI_clamp (show 4 * k + i < 2 ^ 31 by omega), nI_o1]
    rcases hst with ⟨h1, h2, h3, h4⟩ | ⟨p, h1, h2, h3, h4, h5⟩
    · rw [h2, h3, if_pos (show (-1 : Int32) < 0 by decide), if_pos (show (-2 : Int32) < 0 by decide)]
      exact ih (i + 1) f6 f7 _ _ _ _ _ _ _ _ _ _ _ _ _ _ _ _ (by omega) (by omega) (by omega) (by omega) (Or.inr ⟨i, by omega, rfl, rfl, rfl, rfl⟩)
    · obtain ⟨q', hp', hD⟩ := hI.2.1 k hk
      obtain rfl : q = q' := (nI_eq (by omega) (by have := hD.1; omega)).mp (hp.symm.trans hp')
      obtain ⟨j, j1, -, -, j2, -⟩ := hp_at hC hS hk hp hD (i := p) (by omega)
      have hbp := hbb p (by omega)
      rw [h2, h4, j2, if_neg (show ¬ nI p < 0 from nI_pos (by omega)), if_neg (show ¬ nI j < 0 from nI_pos (by omega)), h3, h5]
      by_cases y : BR r told un (bfF Q k i) < BR r told un (bfF Q k p)
      · rw [if_neg (show ¬ nI (BR r told un (bfF Q k p)) ≤ nI (BR r told un (bfF Q k i)) by rw [nI_leI (by omega) (by omega)]; omega), if_pos (nI_lt y (by omega))]
        exact ih (i + 1) f6 f7 _ _ _ _ _ _ _ _ _ _ _ _ _ _ _ _ (by omega) (by omega) (by omega) (by omega) (Or.inr ⟨i, by omega, rfl, rfl, rfl, rfl⟩)
      · rw [if_pos (nI_le (by omega) (by omega)), if_neg (nI_nlt (by omega) (by omega))]
        exact ih (i + 1) f6 f7 _ _ _ _ _ _ _ _ _ _ _ _ _ _ _ _ (by omega) (by omega) (by omega) (by omega) (Or.inr ⟨p, by omega, rfl, rfl, j2.symm, rfl⟩)
end WQ
section FJ
variable {nodes words unsures slips throne said : Int32} {kind parts pn wt tw uw uo w o : Nat → Int32} {ic : Int32} {iw0 io0 iw1 io1 iw2 io2 : Nat → Int32} {ac : Int32} {an ao as : Nat → Int32} {hc : Int32} {r told st und kept : Nat → Int32} {undos images : Int32} {unit : Int32} {ws steps below above : Nat → Int32} {scale night : Int32}
theorem first_join (h : Rel nodes words unsures slips throne said kind parts pn wt tw uw uo w o ic iw0 io0 iw1 io1 iw2 io2 ac an ao as hc r told st und kept undos images) (hx : CIS nodes unit kind parts pn wt ws steps below above) (hs : PX7_layScale r = scale) (hM : ROk r ∧ RowOk r st ∧ RowOk r told ∧ WorOk st ∧ night.toInt = -1 ∧ 1 ≤ scale.toInt ∧ scale.toInt ≤ 1296) {xw xo : Nat → Int32} {hb hg hn br cm fb : Int32} {hw cp hr cr tr : Nat → Int32} {xw' xo' : Nat → Int32} {hb' hg' hn' br' cm' fb' : Int32} {hw' cp' hr' cr' tr' : Nat → Int32} {p0 q6 q7 rf t1 t2 : Int32} (e6 : PX6_first nodes throne unit kind parts pn wt ws w o xw xo hb hg hn hw cp p0 = (q6, rf, xw', xo', hb', hg', hn', hw', cp')) (e7 : PX7_first hc r told st scale hr cr br cm tr fb p0 = (q7, t1, t2, br', cm', fb', hr', cr', tr')) : q6 = q7 ∧ rf = t2 := by
  obtain ⟨hR, hQ, hQt, hW, hnt, hsc⟩ := hM
  have key : ∃ (q f t : Int32) (c1 c2 : Nat → Int32) (d1 d2 d3 : Int32) (c3 c4 : Nat → Int32) (d4 d5 d6 : Int32) (c5 c6 c7 : Nat → Int32), PX6_first nodes throne unit kind parts pn wt ws w o xw xo hb hg hn hw cp p0 = (q, f, c1, c2, d1, d2, d3, c3, c4) ∧ PX7_first hc r told st scale hr cr br cm tr fb p0 = (q, t, f, d4, d5, d6, c5, c6, c7) := by
    rcases h with ⟨rfl, h0⟩ | ⟨N, c, d, rfl, rfl, rfl, rfl, hc, rfl, rfl, hd, hC, hS, hU, hI⟩
    · obtain ⟨h2, h3, h4, h5, h6, h7, rfl, h8, h9⟩ := h0
      refine ⟨-1, 1, 0, xw, xo, hb, hg, hn, hw, cp, br, cm, fb, hr, cr, tr, ?_, ?_⟩
      · rw [PX6_first_eq, PX6_lacksNode_eq]
        simp only [lt_ap]
        rw [hn_0, if_neg (show ¬ (0 : Int32) = 1 by decide), un2_eq rfl, if_neg (show ¬ (1 : Int32) = 0 by decide)]
      · rw [PX7_first_eq, PX7_good_eq, un2_eq rfl]
        simp only [lt_ap]
        rw [rn_0, if_neg (show ¬ (0 : Int32) = 1 by decide), no_eq, un2_eq rfl]
    · obtain ⟨hN0, hN, hr1⟩ := hC.N
      obtain ⟨M, hM, hX⟩ := hx
      obtain rfl : N = M := (nI_eq (by omega) (by have := hX.1; omega)).mp hM
      obtain rfl : unit = scale := (ls_eq hC hX).symm.trans hs
      have hth : r 6 = throne := hC.2.2.2.2.2.2.1
      obtain ⟨t, t1, t2⟩ := nd_of hN hC.2.2.2.2.2.2.2.2.1
      have hWw := w_in hC hS hW
      by_cases hnn : 0 ≤ p0.toInt ∧ p0.toInt < (N : Int)
      · obtain ⟨k, hk, rfl⟩ := nd_of hN hnn
        obtain ⟨q, hp, hD⟩ := hX.2.1 k hk
        have hq := hD.1
        obtain ⟨z6, y6, z7, y7, x1, x2, x3, x4, x5, a1, a2, a3, a4, b1, b2, b3, e6', e7', hr9⟩ := pf_loop hC hS hX hR hWw hsc t2 (hth.trans t2) t1 hk hp hq q 0 (((2147483647 - (0 : Int32).toInt).toNat) + 1) (((4 - (0 : Int32).toInt).toNat) + 1) (-1) 0 (-2) (-2) hb hg hn br cm xw xo hw cp hr cr tr rfl (by omega) (by rw [kc_0]; omega) (by rw [kc_0]; omega) (Or.inl ⟨rfl, rfl, rfl, rfl⟩)
        rw [nI_0] at e6' e7'
        rcases hr9 with ⟨-, h2, h3, h4⟩ | ⟨p, h1, h2, h3, h4⟩
        · refine ⟨-2, 0, 0, a1, a2, x1, x2, x3, a3, a4, x4, x5, y7, b1, b2, b3, ?_, ?_⟩
          · rw [PX6_first_eq, PX6_lacksNode_eq]
            simp only [lt_ap]
            rw [hn_eq hN, if_pos hnn, if_pos rfl, un2_eq rfl, if_pos rfl, un8_eq (show PX6_placeOfFirst (nI N) throne unit kind parts pn wt ws w o xw xo hb hg hn hw cp (nI k) = _ from (PX6_placeOfFirst_eq (nI N) throne unit kind parts pn wt ws w o xw xo hb hg hn hw cp (nI k)).trans e6'), h2, if_neg (show ¬ (0 : Int32) ≤ -1 by decide)]
          · rw [PX7_first_eq, PX7_good_eq, un2_eq rfl]
            simp only [lt_ap]
            rw [rn_eq hN0 hN hr1, if_pos hnn, if_pos rfl, un7_eq (show PX7_firstOf r told st unit hr cr br cm tr (nI k) = _ from (PX7_firstOf_eq r told st unit hr cr br cm tr (nI k)).trans e7'), h3]
        obtain ⟨j, j1, -, j2, j3, -, -⟩ := hp_at hC hS hk hp hD h1
        · refine ⟨nI j, 0, 0, a1, a2, x1, x2, x3, a3, a4, x4, x5, y7, b1, b2, b3, ?_, ?_⟩
          · rw [PX6_first_eq, PX6_lacksNode_eq]
            simp only [lt_ap]
            rw [hn_eq hN, if_pos hnn, if_pos rfl, un2_eq rfl, if_pos rfl, un8_eq (show PX6_placeOfFirst (nI N) throne unit kind parts pn wt ws w o xw xo hb hg hn hw cp (nI k) = _ from (PX6_placeOfFirst_eq (nI N) throne unit kind parts pn wt ws w o xw xo hb hg hn hw cp (nI k)).trans e6'), h2, if_pos (nI_pos' (by omega)), j2]
          · rw [PX7_first_eq, PX7_good_eq, un2_eq rfl]
            simp only [lt_ap]
            rw [rn_eq hN0 hN hr1, if_pos hnn, if_pos rfl, un7_eq (show PX7_firstOf r told st unit hr cr br cm tr (nI k) = _ from (PX7_firstOf_eq r told st unit hr cr br cm tr (nI k)).trans e7'), h3, j3]
      · refine ⟨-1, 1, 0, xw, xo, hb, hg, hn, hw, cp, br, cm, fb, hr, cr, tr, ?_, ?_⟩
        · rw [PX6_first_eq, PX6_lacksNode_eq]
          simp only [lt_ap]
          rw [hn_eq hN, if_neg hnn, if_neg (show ¬ (0 : Int32) = 1 by decide), un2_eq rfl, if_neg (show ¬ (1 : Int32) = 0 by decide)]
        · rw [PX7_first_eq, PX7_good_eq, un2_eq rfl]
          simp only [lt_ap]
          rw [rn_eq hN0 hN hr1, if_neg hnn, if_neg (show ¬ (0 : Int32) = 1 by decide), no_eq, un2_eq rfl]
  obtain ⟨q, f, t, c1, c2, d1, d2, d3, c3, c4, d4, d5, d6, c5, c6, c7, g6, g7⟩ := key
  have x := g6.symm.trans e6
  have y := g7.symm.trans e7
  simp only [Prod.mk.injEq] at x y
  obtain ⟨rfl, rfl, -⟩ := x
  obtain ⟨rfl, -, rfl, -⟩ := y
  exact ⟨rfl, rfl⟩
theorem firstBreaths_join (h : Rel nodes words unsures slips throne said kind parts pn wt tw uw uo w o ic iw0 io0 iw1 io1 iw2 io2 ac an ao as hc r told st und kept undos images) (hx : CIS nodes unit kind parts pn wt ws steps below above) (hs : PX7_layScale r = scale) (hM : ROk r ∧ RowOk r st ∧ RowOk r told ∧ WorOk st ∧ night.toInt = -1 ∧ 1 ≤ scale.toInt ∧ scale.toInt ≤ 1296) {xw xo : Nat → Int32} {hb hg hn br cm fb : Int32} {hw cp hr cr tr : Nat → Int32} {xw' xo' : Nat → Int32} {hb' hg' hn' br' cm' fb' : Int32} {hw' cp' hr' cr' tr' : Nat → Int32} {p0 q6 q7 rf t1 t2 : Int32} (e6 : PX6_firstBreaths nodes throne unit kind parts pn wt ws w o xw xo hb hg hn hw cp p0 = (q6, rf, xw', xo', hb', hg', hn', hw', cp')) (e7 : PX7_firstBreaths hc r told st scale hr cr br cm tr fb p0 = (q7, t1, t2, br', cm', fb', hr', cr', tr')) : q6 = q7 ∧ rf = t2 := by
  obtain ⟨hR, hQ, hQt, hW, hnt, hsc⟩ := hM
  have key : ∃ (q f t : Int32) (c1 c2 : Nat → Int32) (d1 d2 d3 : Int32) (c3 c4 : Nat → Int32) (d4 d5 d6 : Int32) (c5 c6 c7 : Nat → Int32), PX6_firstBreaths nodes throne unit kind parts pn wt ws w o xw xo hb hg hn hw cp p0 = (q, f, c1, c2, d1, d2, d3, c3, c4) ∧ PX7_firstBreaths hc r told st scale hr cr br cm tr fb p0 = (q, t, f, d4, d5, d6, c5, c6, c7) := by
    rcases h with ⟨rfl, h0⟩ | ⟨N, c, d, rfl, rfl, rfl, rfl, hc, rfl, rfl, hd, hC, hS, hU, hI⟩
    · obtain ⟨h2, h3, h4, h5, h6, h7, rfl, h8, h9⟩ := h0
      refine ⟨-1, 1, 0, xw, xo, hb, hg, hn, hw, cp, br, cm, fb, hr, cr, tr, ?_, ?_⟩
      · rw [PX6_firstBreaths_eq, PX6_lacksNode_eq]
        simp only [lt_ap]
        rw [hn_0, if_neg (show ¬ (0 : Int32) = 1 by decide), un2_eq rfl, if_neg (show ¬ (1 : Int32) = 0 by decide)]
      · rw [PX7_firstBreaths_eq, PX7_good_eq, un2_eq rfl]
        simp only [lt_ap]
        rw [rn_0, if_neg (show ¬ (0 : Int32) = 1 by decide), no_eq, un2_eq rfl]
    · obtain ⟨hN0, hN, hr1⟩ := hC.N
      obtain ⟨M, hM, hX⟩ := hx
      obtain rfl : N = M := (nI_eq (by omega) (by have := hX.1; omega)).mp hM
      obtain rfl : unit = scale := (ls_eq hC hX).symm.trans hs
      have hth : r 6 = throne := hC.2.2.2.2.2.2.1
      obtain ⟨t, t1, t2⟩ := nd_of hN hC.2.2.2.2.2.2.2.2.1
      have hWw := w_in hC hS hW
      by_cases hnn : 0 ≤ p0.toInt ∧ p0.toInt < (N : Int)
      · obtain ⟨k, hk, rfl⟩ := nd_of hN hnn
        obtain ⟨q, hp, hD⟩ := hX.2.1 k hk
        have hq := hD.1
        obtain ⟨z6, y6, z7, y7, x1, x2, x3, x4, x5, a1, a2, a3, a4, b1, b2, b3, e6', e7', hr9⟩ := pf_loop hC hS hX hR hWw hsc t2 (hth.trans t2) t1 hk hp hq q 0 (((2147483647 - (0 : Int32).toInt).toNat) + 1) (((4 - (0 : Int32).toInt).toNat) + 1) (-1) 0 (-2) (-2) hb hg hn br cm xw xo hw cp hr cr tr rfl (by omega) (by rw [kc_0]; omega) (by rw [kc_0]; omega) (Or.inl ⟨rfl, rfl, rfl, rfl⟩)
        rw [nI_0] at e6' e7'
        rcases hr9 with ⟨-, h2, h3, h4⟩ | ⟨p, h1, h2, h3, h4⟩
        · refine ⟨-2, 0, 0, a1, a2, x1, x2, x3, a3, a4, x4, x5, y7, b1, b2, b3, ?_, ?_⟩
          · rw [PX6_firstBreaths_eq, PX6_lacksNode_eq]
            simp only [lt_ap]
            rw [hn_eq hN, if_pos hnn, if_pos rfl, un2_eq rfl, if_pos rfl, un8_eq (show PX6_placeOfFirst (nI N) throne unit kind parts pn wt ws w o xw xo hb hg hn hw cp (nI k) = _ from (PX6_placeOfFirst_eq (nI N) throne unit kind parts pn wt ws w o xw xo hb hg hn hw cp (nI k)).trans e6'), h2, if_neg (show ¬ (0 : Int32) ≤ -1 by decide)]
          · rw [PX7_firstBreaths_eq, PX7_good_eq, un2_eq rfl]
            simp only [lt_ap]
            rw [rn_eq hN0 hN hr1, if_pos hnn, if_pos rfl, un7_eq (show PX7_firstOf r told st unit hr cr br cm tr (nI k) = _ from (PX7_firstOf_eq r told st unit hr cr br cm tr (nI k)).trans e7'), h4]
        · obtain ⟨bits, c, hw2, cp2, W2, o2, e9⟩ := wf_6 hC hS hX hR hWw hsc t2 (hth.trans t2) t1 hk hp hq h1 a1 a2 a3 a4
          refine ⟨nI (BR r told unit (bfF st k p)), 0, 0, W2, o2, nI (BR r told unit (bfF st k p)), bits, nI c, hw2, cp2, x4, x5, y7, b1, b2, b3, ?_, ?_⟩
          · rw [PX6_firstBreaths_eq, PX6_lacksNode_eq]
            simp only [lt_ap]
            rw [hn_eq hN, if_pos hnn, if_pos rfl, un2_eq rfl, if_pos rfl, un8_eq (show PX6_placeOfFirst (nI N) throne unit kind parts pn wt ws w o xw xo hb hg hn hw cp (nI k) = _ from (PX6_placeOfFirst_eq (nI N) throne unit kind parts pn wt ws w o xw xo hb hg hn hw cp (nI k)).trans e6'), h2, if_pos (nI_pos' (by omega)), un8_eq e9]
          · rw [PX7_firstBreaths_eq, PX7_good_eq, un2_eq rfl]
            simp only [lt_ap]
            rw [rn_eq hN0 hN hr1, if_pos hnn, if_pos rfl, un7_eq (show PX7_firstOf r told st unit hr cr br cm tr (nI k) = _ from (PX7_firstOf_eq r told st unit hr cr br cm tr (nI k)).trans e7'), h4]
      · refine ⟨-1, 1, 0, xw, xo, hb, hg, hn, hw, cp, br, cm, fb, hr, cr, tr, ?_, ?_⟩
        · rw [PX6_firstBreaths_eq, PX6_lacksNode_eq]
          simp only [lt_ap]
          rw [hn_eq hN, if_neg hnn, if_neg (show ¬ (0 : Int32) = 1 by decide), un2_eq rfl, if_neg (show ¬ (1 : Int32) = 0 by decide)]
        · rw [PX7_firstBreaths_eq, PX7_good_eq, un2_eq rfl]
          simp only [lt_ap]
          rw [rn_eq hN0 hN hr1, if_neg hnn, if_neg (show ¬ (0 : Int32) = 1 by decide), no_eq, un2_eq rfl]
  obtain ⟨q, f, t, c1, c2, d1, d2, d3, c3, c4, d4, d5, d6, c5, c6, c7, g6, g7⟩ := key
  have x := g6.symm.trans e6
  have y := g7.symm.trans e7
  simp only [Prod.mk.injEq] at x y
  obtain ⟨rfl, rfl, -⟩ := x
  obtain ⟨rfl, -, rfl, -⟩ := y
  exact ⟨rfl, rfl⟩
end FJ
end G5
end
section
/-! orders of a node's parts: the numbers alone; the class's orders -/
section G6
def gd : List Nat → Nat → Nat
  | [], _ => 0
  | a :: _, 0 => a
  | _ :: l, x + 1 => gd l x
def has : List Nat → Nat → Bool
  | [], _ => false
  | a :: l, p => a == p || has l p
theorem gd_lt (p : Nat) : ∀ (L : List Nat) (x : Nat), x < L.length → gd (L ++ [p]) x = gd L x
  | [], x, h => absurd h (Nat.not_lt_zero x)
  | _ :: _, 0, _ => rfl
  | _ :: l, x + 1, h => gd_lt p l x (Nat.lt_of_succ_lt_succ h)
theorem gd_end (p : Nat) : ∀ L : List Nat, gd (L ++ [p]) L.length = p
  | [] => rfl
  | _ :: l => gd_end p l
theorem has_snoc (p q : Nat) : ∀ L : List Nat, has (L ++ [p]) q = (has L q || p == q)
  | [] => by
    show (p == q || false) = (false || p == q)
    rw [Bool.or_false, Bool.false_or]
  | a :: l => by
    show (a == q || has (l ++ [p]) q) = ((a == q || has l q) || p == q)
    rw [has_snoc p q l, Bool.or_assoc]
theorem has_no (p : Nat) : ∀ (L : List Nat) (x : Nat), has L p = false → x < L.length → ¬ gd L x = p
  | [], x, _, h => absurd h (Nat.not_lt_zero x)
  | a :: l, 0, h, _ => fun e => by
    have h2 : (a == p || has l p) = false := h
    rw [Bool.or_eq_false_iff] at h2
    have e2 : a = p := e
    have h3 := h2.1
    rw [e2, beq_self_eq_true] at h3
    exact absurd h3 (by decide)
  | a :: l, x + 1, h, hx => by
    have h2 : (a == p || has l p) = false := h
    rw [Bool.or_eq_false_iff] at h2
    exact has_no p l x h2.2 (Nat.lt_of_succ_lt_succ hx)
theorem len_snoc (L : List Nat) (p : Nat) : (L ++ [p]).length = L.length + 1 := by
  rw [List.length_append]
  rfl
/-- a row whose node k has its parts in the order that L says -/
def rowL (f : Nat → Int32) (k : Nat) (L : List Nat) (q : Nat) : Int32 := if 4 * k ≤ q ∧ q < 4 * k + L.length then f (4 * k + gd L (q - 4 * k)) else f q
def trs (g : Nat → List (List Nat)) : Nat → List (List Nat)
  | 0 => []
  | p + 1 => trs g p ++ g p
/-- the reference's orders: L goes on with n more of m -/
def tr (m : Nat) : Nat → List Nat → List (List Nat)
  | 0, L => [L]
  | n + 1, L => trs (fun p => if has L p then [] else tr m n (L ++ [p])) m
def sumL (b : List Nat → Nat) : List (List Nat) → Nat
  | [] => 0
  | x :: l => b x + sumL b l
def minL (b : List Nat → Nat) : Nat → List (List Nat) → Nat
  | z, [] => z
  | z, x :: l => minL b (min z (b x)) l
theorem sumL_app (b : List Nat → Nat) : ∀ l l' : List (List Nat), sumL b (l ++ l') = sumL b l + sumL b l'
  | [], l' => (Nat.zero_add _).symm
  | x :: l, l' => by
    show b x + sumL b (l ++ l') = b x + sumL b l + sumL b l'
    rw [sumL_app b l l', Nat.add_assoc]
theorem minL_app (b : List Nat → Nat) : ∀ (l l' : List (List Nat)) (z : Nat), minL b z (l ++ l') = minL b (minL b z l) l'
  | [], _, _ => rfl
  | x :: l, l', z => minL_app b l l' (min z (b x))
theorem sumL_perm (b : List Nat → Nat) {l l' : List (List Nat)} (h : l.Perm l') : sumL b l = sumL b l' := by
  induction h with
  | nil => rfl
  | cons x _ ih =>
    show b x + _ = b x + _
    rw [ih]
  | swap x y l =>
    show b y + (b x + sumL b l) = b x + (b y + sumL b l)
    omega
  | trans _ _ h1 h2 => exact h1.trans h2
theorem minL_perm (b : List Nat → Nat) {l l' : List (List Nat)} (h : l.Perm l') : ∀ z : Nat, minL b z l = minL b z l' := by
  induction h with
  | nil => exact fun _ => rfl
  | cons x _ ih => exact fun z => ih (min z (b x))
  | swap x y l =>
    intro z
    show minL b (min (min z (b y)) (b x)) l = minL b (min (min z (b x)) (b y)) l
    rw [show min (min z (b y)) (b x) = min (min z (b x)) (b y) by omega]
  | trans _ _ h1 h2 => exact fun z => (h1 z).trans (h2 z)
theorem minL_le (b : List Nat → Nat) : ∀ (l : List (List Nat)) (z : Nat), minL b z l ≤ z
  | [], z => Nat.le_refl z
  | x :: l, z => Nat.le_trans (minL_le b l (min z (b x))) (Nat.min_le_left z (b x))
/-- the class's orders: the code's digits -/
def po (m : Nat) : Nat → Nat → (Nat → Nat) → (Nat → Nat) → (Nat → Nat)
  | 0, _, _, ρ => ρ
  | n + 1, c, l, ρ => po m n (c / (n + 1)) (fun j => if c % (n + 1) ≤ j ∧ j < n then l (j + 1) else l j) (fun x => if x = m - (n + 1) then l (c % (n + 1)) else ρ x)
def lst (ρ : Nat → Nat) : Nat → List Nat
  | 0 => []
  | m + 1 => lst ρ m ++ [ρ m]
theorem lst_len (ρ : Nat → Nat) : ∀ m : Nat, (lst ρ m).length = m
  | 0 => rfl
  | m + 1 => by rw [lst, len_snoc, lst_len ρ m]
theorem lst_gd (ρ : Nat → Nat) : ∀ m x : Nat, x < m → gd (lst ρ m) x = ρ x
  | 0, x, h => absurd h (Nat.not_lt_zero x)
  | m + 1, x, h => by
    rw [lst]
    by_cases c : x = m
    · have e := gd_end (ρ m) (lst ρ m)
      rw [lst_len] at e
      rw [c]; exact e
    · rw [gd_lt _ _ _ (by rw [lst_len]; omega)]
      exact lst_gd ρ m x (by omega)
/-- the order of a code -/
def cdL (m c : Nat) : List Nat := lst (po m m c (fun j => j) (fun _ => 0)) m
theorem cdL_len (m c : Nat) : (cdL m c).length = m := lst_len _ m
def LC (m : Nat) : Nat → List (List Nat)
  | 0 => []
  | c + 1 => LC m c ++ [cdL m c]
def fct : Nat → Nat
  | 0 => 1
  | m + 1 => (m + 1) * fct m
theorem lcp_0 : (LC 0 (fct 0)).Perm (tr 0 0 []) := by decide +kernel
theorem lcp_1 : (LC 1 (fct 1)).Perm (tr 1 1 []) := by decide +kernel
theorem lcp_2 : (LC 2 (fct 2)).Perm (tr 2 2 []) := by decide +kernel
theorem lcp_3 : (LC 3 (fct 3)).Perm (tr 3 3 []) := by decide +kernel
theorem lcp_4 : (LC 4 (fct 4)).Perm (tr 4 4 []) := by decide +kernel
theorem lcp_perm {m : Nat} (h : m ≤ 4) : (LC m (fct m)).Perm (tr m m []) := by
  rcases (show m = 0 ∨ m = 1 ∨ m = 2 ∨ m = 3 ∨ m = 4 by omega) with rfl | rfl | rfl | rfl | rfl
  · exact lcp_0
  · exact lcp_1
  · exact lcp_2
  · exact lcp_3
  · exact lcp_4
theorem fct_in {m : Nat} (h : m ≤ 4) : 1 ≤ fct m ∧ fct m ≤ 24 := by
  rcases (show m = 0 ∨ m = 1 ∨ m = 2 ∨ m = 3 ∨ m = 4 by omega) with rfl | rfl | rfl | rfl | rfl <;> decide
/-- every code's order is one -/
def okL (m : Nat) (L : List Nat) : Bool := (List.range m).all (fun x => Nat.blt (gd L x) m && (List.range m).all (fun y => x == y || gd L x != gd L y))
theorem ok_all : (List.range 5).all (fun m => (List.range (fct m)).all (fun c => okL m (cdL m c))) = true := by decide +kernel
theorem okL_at {m : Nat} {L : List Nat} (h : okL m L = true) : (∀ x : Nat, x < m → gd L x < m) ∧ ∀ x y : Nat, x < m → y < m → gd L x = gd L y → x = y := by
  unfold okL at h
  simp only [List.all_eq_true, List.mem_range, Bool.and_eq_true, Bool.or_eq_true, beq_iff_eq, bne_iff_ne, Nat.blt_eq] at h
  refine ⟨fun x hx => (h x hx).1, fun x y hx hy e => ?_⟩
  rcases (h x hx).2 y hy with q | q
  · exact q
  · exact absurd e q
theorem cd_ok {m c : Nat} (hm : m ≤ 4) (hc : c < fct m) : (∀ x : Nat, x < m → gd (cdL m c) x < m) ∧ ∀ x y : Nat, x < m → y < m → gd (cdL m c) x = gd (cdL m c) y → x = y := by
  have h := ok_all
  simp only [List.all_eq_true, List.mem_range] at h
  exact okL_at (h m (by omega) c hc)
theorem nI_div {a b : Nat} (ha : a < 2 ^ 31) (hb : 0 < b) (hb2 : b < 2 ^ 31) : nI a / nI b = nI (a / b) := by
  have hl : a / b ≤ a := Nat.div_le_self a b
  refine (fz_eq _ _).mpr ?_
  rw [ti_divE (z := nI a / nI b) rfl (nI_toInt ha) (nI_toInt hb2) (by omega) (by omega), nI_toInt (by omega)]
  rfl
theorem nI_mulN (a b : Nat) : nI a * nI b = nI (a * b) := (Int32.ofNat_mul a b).symm
theorem nI_mod {a b : Nat} (ha : a < 2 ^ 31) (hb : 0 < b) (hb2 : b < 2 ^ 31) : nI a - nI a / nI b * nI b = nI (a % b) := by
  have e := Nat.div_add_mod a b
  rw [Nat.mul_comm] at e
  rw [nI_div ha hb hb2, nI_mulN, nI_sub' (by omega) ha, show a - a / b * b = a % b by omega]
/-- what is left moves up -/
theorem po_2 {n rest k4 : Nat} {f2 : Nat → Int32} {K : Int32 → Int32 → (Nat → Int32) → (Nat → Int32) → (Nat → Int32) × (Nat → Int32)} {L0 : Nat → Int32} {pick : Nat} (hn : n ≤ 3) : ∀ (d j f : Nat) (L : Nat → Int32), n - j = d → pick ≤ j → j ≤ n → d < f → (∀ x : Nat, L x = if pick ≤ x ∧ x < j then L0 (x + 1) else L0 x) → ∃ L' : Nat → Int32, HX5_putInOrder_2 (nI (n + 1)) (nI rest) f2 K f (nI j) L = K (nI n) (nI rest) f2 L' ∧ ∀ x : Nat, L' x = if pick ≤ x ∧ x < n then L0 (x + 1) else L0 x := by
  intro d
  induction d with
  | zero =>
    intro j f L hd hp hj hf hL
    obtain ⟨f, rfl⟩ : ∃ g, f = g + 1 := ⟨f - 1, by omega⟩
    obtain rfl : j = n := by omega
    refine ⟨L, ?_, hL⟩
    rw [HX5_putInOrder_2_eq]
    simp only [lt_ap]
    rw [nI_pred, if_pos (nI_le (Nat.le_refl _) (by omega)), nI_om1]
  | succ d ih =>
    intro j f L hd hp hj hf hL
    obtain ⟨f, rfl⟩ : ∃ g, f = g + 1 := ⟨f - 1, by omega⟩
    rw [HX5_putInOrder_2_eq]
    simp only [lt_ap]
    rw [nI_pred, if_neg (show ¬ nI n ≤ nI j by rw [nI_leI (by omega) (by omega)]; omega), nI_1 j, nI_clamp (show j + 1 < 2 ^ 31 by omega), nI_clamp (show j < 2 ^ 31 by omega), nI_o1]
    refine ih (j + 1) f _ (by omega) (by omega) (by omega) (by omega) (fun x => ?_)
    by_cases e : x = j
    · rw [e, upd_at, hL (j + 1), if_neg (show ¬ (pick ≤ j + 1 ∧ j + 1 < j) by omega), if_pos (show pick ≤ j ∧ j < j + 1 by omega)]
    · rw [upd_ne e, hL x]
      by_cases c : pick ≤ x ∧ x < j
      · rw [if_pos c, if_pos (show pick ≤ x ∧ x < j + 1 by omega)]
      · rw [if_neg c, if_neg (show ¬ (pick ≤ x ∧ x < j + 1) by omega)]
theorem po_1 {m k : Nat} (hm : m ≤ 4) (hk : k < 18) {o : Nat → Int32} : ∀ (n c f : Nat) (l ρ : Nat → Nat) (F L : Nat → Int32), n ≤ m → n < f → c < 2 ^ 31 → (∀ q : Nat, F q = if 4 * k ≤ q ∧ q < 4 * k + (m - n) then o (4 * k + ρ (q - 4 * k)) else o q) → (∀ j : Nat, j < n → L j = o (4 * k + l j)) → ∃ F' L' : Nat → Int32, HX5_putInOrder_1 (nI m) (nI (4 * k)) f (nI n) (nI c) F L = (F', L') ∧ ∀ q : Nat, F' q = if 4 * k ≤ q ∧ q < 4 * k + m then o (4 * k + po m n c l ρ (q - 4 * k)) else o q := by
  intro n
  induction n with
  | zero =>
    intro c f l ρ F L hn hf hc hF hL
    obtain ⟨f, rfl⟩ : ∃ g, f = g + 1 := ⟨f - 1, by omega⟩
    refine ⟨F, L, ?_, fun q => ?_⟩
    · rw [HX5_putInOrder_1_eq, if_pos (show nI 0 ≤ 0 by decide)]
    · rw [hF q]; rfl
  | succ n ih =>
    intro c f l ρ F L hn hf hc hF hL
    obtain ⟨f, rfl⟩ : ∃ g, f = g + 1 := ⟨f - 1, by omega⟩
    have hpk : c % (n + 1) < n + 1 := Nat.mod_lt c (by omega)
    have hcd : c / (n + 1) ≤ c := Nat.div_le_self c (n + 1)
    rw [HX5_putInOrder_1_eq, if_neg (nI_nle (by omega) (by omega))]
    simp only [lt_ap]
    rw [nI_mod hc (by omega) (by omega), nI_div hc (by omega) (by omega), nI_add, nI_sub' (by omega) (by omega), nI_clamp (show c % (n + 1) < 2 ^ 31 by omega), nI_clamp (show 4 * k + m - (n + 1) < 2 ^ 31 by omega)]
    obtain ⟨L', e, hL'⟩ := po_2 (n := n) (rest := c / (n + 1)) (k4 := 0) (f2 := upd F (4 * k + m - (n + 1)) (L (c % (n + 1)))) (K := fun z_677 z_678 f_679 f_680 => HX5_putInOrder_1 (nI m) (nI (4 * k)) f z_677 z_678 f_679 f_680) (L0 := L) (pick := c % (n + 1)) (by omega) (n - c % (n + 1)) (c % (n + 1)) (((2147483647 - (nI (c % (n + 1))).toInt).toNat) + 1) L rfl (Nat.le_refl _) (by omega) (by rw [nI_toInt (by omega)]; omega) (fun x => by rw [if_neg (show ¬ (c % (n + 1) ≤ x ∧ x < c % (n + 1)) by omega)])
    obtain ⟨F', L2, e2, h2⟩ := ih (c / (n + 1)) f (fun j => if c % (n + 1) ≤ j ∧ j < n then l (j + 1) else l j) (fun x => if x = m - (n + 1) then l (c % (n + 1)) else ρ x) (upd F (4 * k + m - (n + 1)) (L (c % (n + 1)))) L' (by omega) (by omega) (by omega) (fun q => by
      by_cases y : q = 4 * k + m - (n + 1)
      · rw [y, upd_at, hL _ hpk, if_pos (show 4 * k ≤ 4 * k + m - (n + 1) ∧ 4 * k + m - (n + 1) < 4 * k + (m - n) by omega), if_pos (show 4 * k + m - (n + 1) - 4 * k = m - (n + 1) by omega)]
      · rw [upd_ne y, hF q]
        by_cases z : 4 * k ≤ q ∧ q < 4 * k + (m - (n + 1))
        · rw [if_pos z, if_pos (show 4 * k ≤ q ∧ q < 4 * k + (m - n) by omega), if_neg (show ¬ q - 4 * k = m - (n + 1) by omega)]
        · rw [if_neg z, if_neg (show ¬ (4 * k ≤ q ∧ q < 4 * k + (m - n)) by omega)]) (fun j hj => by
      rw [hL' j]
      by_cases y : c % (n + 1) ≤ j ∧ j < n
      · rw [if_pos y, if_pos y]; exact hL (j + 1) (by omega)
      · rw [if_neg y, if_neg y]; exact hL j (by omega))
    exact ⟨F', L2, e.trans e2, h2⟩
theorem po_0 {m k c : Nat} (hm : m ≤ 4) (hk : k < 18) (hc : c < 2 ^ 31) {o : Nat → Int32} : ∀ (d i f : Nat) (L : Nat → Int32), m - i = d → i ≤ m → d < f → (∀ j : Nat, j < i → L j = o (4 * k + j)) → ∃ F' L' : Nat → Int32, HX5_putInOrder_0 o (nI m) (nI c) (nI (4 * k)) f (nI i) L = (F', L') ∧ ∀ q : Nat, F' q = if 4 * k ≤ q ∧ q < 4 * k + m then o (4 * k + po m m c (fun j => j) (fun _ => 0) (q - 4 * k)) else o q := by
  intro d
  induction d with
  | zero =>
    intro i f L hd hi hf hL
    obtain ⟨f, rfl⟩ : ∃ g, f = g + 1 := ⟨f - 1, by omega⟩
    obtain rfl : i = m := by omega
    rw [HX5_putInOrder_0_eq, if_pos (nI_le (Nat.le_refl _) (by omega))]
    exact po_1 hm hk i c (((nI i).toInt.toNat) + 1) (fun j => j) (fun _ => 0) o L (Nat.le_refl _) (by rw [nI_toInt (by omega)]; omega) hc (fun q => by rw [if_neg (show ¬ (4 * k ≤ q ∧ q < 4 * k + (i - i)) by omega)]) hL
  | succ d ih =>
    intro i f L hd hi hf hL
    obtain ⟨f, rfl⟩ : ∃ g, f = g + 1 := ⟨f - 1, by omega⟩
    rw [HX5_putInOrder_0_eq, if_neg (show ¬ nI m ≤ nI i by rw [nI_leI (by omega) (by omega)]; omega)]
    simp only [lt_ap]
    rw [nI_add, nI_clamp (show 4 * k + i < 2 ^ 31 by omega), nI_clamp (show i < 2 ^ 31 by omega), nI_o1]
    refine ih (i + 1) f _ (by omega) (by omega) (by omega) (fun j hj => ?_)
    by_cases e : j = i
    · rw [e, upd_at]
    · rw [upd_ne e]; exact hL j (by omega)
/-- putInOrder makes the code's order -/
theorem po_eq {m k c : Nat} (hm : m ≤ 4) (hk : k < 18) (hc : c < 2 ^ 31) (o L : Nat → Int32) : ∃ L' : Nat → Int32, PX5_putInOrder o L (nI k) (nI m) (nI c) = (rowL o k (cdL m c), L') := by
  obtain ⟨F', L', e, h⟩ := po_0 hm hk hc (o := o) m 0 (((2147483647 - (0 : Int32).toInt).toNat) + 1) L rfl (by omega) (by rw [kc_0]; omega) (fun j hj => absurd hj (by omega))
  rw [nI_0] at e
  have hF : F' = rowL o k (cdL m c) := by
    funext q
    rw [h q]
    unfold rowL
    rw [cdL_len]
    by_cases y : 4 * k ≤ q ∧ q < 4 * k + m
    · rw [if_pos y, if_pos y]
      unfold cdL
      rw [lst_gd _ m _ (by omega)]
    · rw [if_neg y, if_neg y]
  refine ⟨L', ?_⟩
  rw [PX5_putInOrder_eq, lt_ap, nI_m4 (by omega), ← hF]
  exact e
/-- how many orders -/
def prd : Nat → Nat → Nat → Nat
  | 0, _, a => a
  | d + 1, i, a => prd d (i + 1) (a * i)
theorem oo_loop {parts : Nat → Int32} {k m : Nat} (hk : k < 18) (hm : m ≤ 4) (hp : parts k = nI m) : ∀ (d i f a : Nat), m + 1 - i = d → 2 ≤ i → i ≤ 5 → d < f → HX6_ordersOf_0 parts (nI k) f (nI i) (nI a) = nI (prd d i a) := by
  intro d
  induction d with
  | zero =>
    intro i f a hd h2 hi hf
    obtain ⟨f, rfl⟩ : ∃ g, f = g + 1 := ⟨f - 1, by omega⟩
    rw [HX6_ordersOf_0_eq, lt_ap, nI_clamp (show k < 2 ^ 31 by omega), hp, if_pos (nI_lt (by omega) (by omega))]
    rfl
  | succ d ih =>
    intro i f a hd h2 hi hf
    obtain ⟨f, rfl⟩ : ∃ g, f = g + 1 := ⟨f - 1, by omega⟩
    rw [HX6_ordersOf_0_eq]
    simp only [lt_ap]
    rw [nI_clamp (show k < 2 ^ 31 by omega), hp, if_neg (nI_nlt (by omega) (by omega)), nI_mulN, nI_o1]
    exact ih (i + 1) f (a * i) (by omega) (by omega) (by omega) (by omega)
theorem oo_eq {parts : Nat → Int32} {k m : Nat} (hk : k < 18) (hm : m ≤ 4) (hp : parts k = nI m) : PX6_ordersOf parts (nI k) = nI (fct m) := by
  have e2 : (2 : Int32).toInt = 2 := by decide
  have e := oo_loop hk hm hp (m + 1 - 2) 2 (((5 - (2 : Int32).toInt).toNat) + 1) 1 rfl (by omega) (by omega) (by rw [e2]; omega)
  rw [PX6_ordersOf_eq]
  have h2 : (2 : Int32) = nI 2 := by decide
  have h1 : (1 : Int32) = nI 1 := by decide
  rw [← h2, ← h1] at e
  refine e.trans ?_
  rcases (show m = 0 ∨ m = 1 ∨ m = 2 ∨ m = 3 ∨ m = 4 by omega) with rfl | rfl | rfl | rfl | rfl <;> rfl
theorem StR.perm {N : Nat} {parts pn w o s : Nat → Int32} (h : StR N parts pn w o s) (hN : N ≤ 18) {k m : Nat} (hk : k < N) (hp : parts k = nI m) (hm : m ≤ 4) {L : List Nat} (hl : L.length = m) (hb : ∀ x : Nat, x < m → gd L x < m) (hi : ∀ x y : Nat, x < m → y < m → gd L x = gd L y → x = y) (hp4 : ∀ j : Nat, j < N → (parts j).toInt ≤ 4) : StR N parts pn w (rowL o k L) (rowL s k L) := by
  have hpm : (parts k).toInt = (m : Int) := by rw [hp, nI_toInt (by omega)]
  have row_in : ∀ (f : Nat → Int32) (i : Nat), i < m → rowL f k L (4 * k + i) = f (4 * k + gd L i) := fun f i hi => by
    unfold rowL
    rw [hl, if_pos (show 4 * k ≤ 4 * k + i ∧ 4 * k + i < 4 * k + m by omega), show 4 * k + i - 4 * k = i by omega]
  have row_out : ∀ (f : Nat → Int32) (q : Nat), ¬ (4 * k ≤ q ∧ q < 4 * k + m) → rowL f k L q = f q := fun f q hq => by
    unfold rowL
    rw [hl, if_neg hq]
  intro j hj
  obtain ⟨h1, h2, h3⟩ := h j hj
  have h4 := hp4 j hj
  refine ⟨by rw [row_out s (72 + j) (by omega)]; exact h1, fun i hx => ?_, fun x y hx hy e => ?_⟩
  · by_cases c : j = k
    · subst c
      rw [row_in o i (by omega), row_in s i (by omega)]
      exact h2 (gd L i) (by have := hb i (by omega); omega)
    · rw [row_out o _ (by omega), row_out s _ (by omega)]
      exact h2 i hx
  · by_cases c : j = k
    · subst c
      rw [row_in o x (by omega), row_in o y (by omega)] at e
      exact hi x y (by omega) (by omega) (h3 _ _ (by have := hb x (by omega); omega) (by have := hb y (by omega); omega) e)
    · rw [row_out o _ (by omega), row_out o _ (by omega)] at e
      exact h3 x y hx hy e
theorem rowL_congr {f g : Nat → Int32} {k m n : Nat} {L : List Nat} (hl : L.length = m) (hb : ∀ x : Nat, x < m → gd L x < m) (hn : 4 * k + m ≤ n) (h : ∀ q : Nat, q < n → g q = f q) : ∀ q : Nat, q < n → rowL g k L q = rowL f k L q := fun q hq => by
  unfold rowL
  rw [hl]
  by_cases c : 4 * k ≤ q ∧ q < 4 * k + m
  · rw [if_pos c, if_pos c]
    exact h _ (by have := hb (q - 4 * k) (by omega); omega)
  · rw [if_neg c, if_neg c]; exact h q hq
end G6
end
