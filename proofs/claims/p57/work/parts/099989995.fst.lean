/-! how many breaths: a number of the reference's row; first, firstBreaths -/
section G5
theorem cpG90 {f g : Nat → Int32} {q : Nat} (hq : q < 90) : cpF f g (0 : Int32).toNatClampNeg (0 : Int32).toNatClampNeg (90 : Int32).toNatClampNeg q = f q := by
  unfold cpF
  rw [show (0 : Int32).toNatClampNeg = 0 by decide, show (90 : Int32).toNatClampNeg = 90 by decide, if_pos (by omega)]
  congr 1
  omega
/-- breaths of a row, by the reference -/
noncomputable def BR (r told : Nat → Int32) (un : Int32) (Q : Nat → Int32) : Nat := (PX7_breathsBy r told un (fun _ => 0) (fun _ => 0) Q).1.toInt.toNat
section WQ
variable {N : Nat} {words unsures slips throne said unit : Int32} {kind parts pn wt tw uw uo r told W W' o o' Q Q' w st ws steps below above : Nat → Int32}
theorem br_both (hC : CR N words unsures slips throne said kind parts pn wt tw uw uo r told) (hS : StR N parts pn W o Q) (hI : CI N unit kind parts pn wt ws steps below above) (hR : ROk r) (hW : ∀ k : Nat, k < N → kind k = 0 → 0 ≤ (W k).toInt ∧ (W k).toInt ≤ 99) {un : Int32} (hun : 1 ≤ un.toInt ∧ un.toInt ≤ 1296) {t : Nat} (hth : throne = nI t) (hth6 : r 6 = nI t) (ht : t < N) (hw cp hr cr : Nat → Int32) : BR r told un Q ≤ 349 ∧ (∃ (bits : Int32) (c : Nat) (hw' cp' : Nat → Int32), PX2_breathsFreely hw cp (nI N) throne un kind parts pn wt ws W o = (nI (BR r told un Q), nI (BR r told un Q), bits, nI c, hw', cp')) ∧ ∃ (c : Nat) (hr' cr' : Nat → Int32), PX7_breathsBy r told un hr cr Q = (nI (BR r told un Q), nI (BR r told un Q), nI c, hr', cr') := by
  obtain ⟨b, c, bits, hw', cp', hr', cr', e6, e7, hb, hh⟩ := free_sim hC hS hI hR hW hun hth hth6 ht hw cp (fun _ => 0) (fun _ => 0)
  obtain ⟨b2, c2, bits2, hw2, cp2, hr2, cr2, d6, d7, hb2, hh2⟩ := free_sim hC hS hI hR hW hun hth hth6 ht hw cp hr cr
  have eb : BR r told un Q = b := by
    unfold BR
    rw [e7]
    show (nI b).toInt.toNat = b
    (rw [nI_toInt (by omega)]) <;> rfl
  have x := d6.symm.trans e6
  simp only [Prod.mk.injEq] at x
  have hbb : b2 = b := (nI_eq (by omega) (by omega)).mp x.1
  rw [eb]
  rw [hbb] at d7
  exact ⟨by omega, ⟨bits, c, hw', cp', e6⟩, c2, hr2, cr2, d7⟩
theorem br_same (hC : CR N words unsures slips throne said kind parts pn wt tw uw uo r told) (hS : StR N parts pn W o Q) (hI : CI N unit kind parts pn wt ws steps below above) (hR : ROk r) (hS' : StR N parts pn W o Q') (hW : ∀ k : Nat, k < N → kind k = 0 → 0 ≤ (W k).toInt ∧ (W k).toInt ≤ 99) {un : Int32} (hun : 1 ≤ un.toInt ∧ un.toInt ≤ 1296) {t : Nat} (hth : throne = nI t) (hth6 : r 6 = nI t) (ht : t < N) : BR r told un Q' = BR r told un Q := by
  obtain ⟨a1, ⟨bits, c, hw', cp', e⟩, -⟩ := br_both hC hS hI hR hW hun hth hth6 ht (fun _ => 0) (fun _ => 0) (fun _ => 0) (fun _ => 0)
  obtain ⟨a2, ⟨bits2, c2, hw2, cp2, e2⟩, -⟩ := br_both hC hS' hI hR hW hun hth hth6 ht (fun _ => 0) (fun _ => 0) (fun _ => 0) (fun _ => 0)
  have x := e2.symm.trans e
  simp only [Prod.mk.injEq] at x
  exact (nI_eq (by omega) (by omega)).mp x.1
/-- class and reference, each in its own copies -/
theorem br_6 (hC : CR N words unsures slips throne said kind parts pn wt tw uw uo r told) (hS : StR N parts pn W o Q) (hI : CI N unit kind parts pn wt ws steps below above) (hR : ROk r) (hW : ∀ k : Nat, k < N → kind k = 0 → 0 ≤ (W k).toInt ∧ (W k).toInt ≤ 99) {un : Int32} (hun : 1 ≤ un.toInt ∧ un.toInt ≤ 1296) {t : Nat} (hth : throne = nI t) (hth6 : r 6 = nI t) (ht : t < N) (hWW : ∀ k : Nat, k < N → W' k = W k) (hoo : ∀ q : Nat, q < 72 → o' q = o q) (hw cp : Nat → Int32) : ∃ (bits : Int32) (c : Nat) (hw' cp' : Nat → Int32), PX2_breathsFreely hw cp (nI N) throne un kind parts pn wt ws W' o' = (nI (BR r told un Q), nI (BR r told un Q), bits, nI c, hw', cp') := by
  have hN := hI.1
  have hS' : StR N parts pn W' o' Q := by
    have hp4 := hC.p4
    intro k hk
    obtain ⟨h1, h2, h3⟩ := hS k hk
    have h4 := hp4 k hk
    refine ⟨by rw [hWW k hk]; exact h1, fun i hi => ?_, fun i j hi hj e => ?_⟩
    · rw [hoo (4 * k + i) (by omega)]; exact h2 i hi
    · rw [hoo (4 * k + i) (by omega), hoo (4 * k + j) (by omega)] at e; exact h3 i j hi hj e
  exact (br_both hC hS' hI hR (fun k hk h0 => by rw [hWW k hk]; exact hW k hk h0) hun hth hth6 ht hw cp (fun _ => 0) (fun _ => 0)).2.1
theorem br_7 (hC : CR N words unsures slips throne said kind parts pn wt tw uw uo r told) (hS : StR N parts pn W o Q) (hI : CI N unit kind parts pn wt ws steps below above) (hR : ROk r) (hW : ∀ k : Nat, k < N → kind k = 0 → 0 ≤ (W k).toInt ∧ (W k).toInt ≤ 99) {un : Int32} (hun : 1 ≤ un.toInt ∧ un.toInt ≤ 1296) {t : Nat} (hth : throne = nI t) (hth6 : r 6 = nI t) (ht : t < N) (hQ : ∀ q : Nat, q < 90 → Q' q = Q q) (hr cr : Nat → Int32) : ∃ (c : Nat) (hr' cr' : Nat → Int32), PX7_breathsBy r told un hr cr Q' = (nI (BR r told un Q), nI (BR r told un Q), nI c, hr', cr') := by
  have hN := hI.1
  have hS' : StR N parts pn W o Q' := hS.congr hN hC.p4 (fun _ _ => rfl) (fun _ _ => rfl) hQ
  have e := br_same hC hS hI hR hS' hW hun hth hth6 ht
  have h := (br_both hC hS' hI hR hW hun hth hth6 ht (fun _ => 0) (fun _ => 0) hr cr).2.2
  rw [e] at h
  exact h
theorem bf_congr {f g : Nat → Int32} {k i : Nat} (hk : k < 18) (hi : i ≤ 3) (h : ∀ q : Nat, q < 90 → g q = f q) : ∀ q : Nat, q < 90 → bfF g k i q = bfF f k i q := fun q hq => by
  unfold bfF
  by_cases a : q = 4 * k
  · rw [if_pos a, if_pos a, h _ (by omega)]
  · rw [if_neg a, if_neg a]
    by_cases b : 4 * k < q ∧ q ≤ 4 * k + i
    · rw [if_pos b, if_pos b, h _ (by omega)]
    · rw [if_neg b, if_neg b, h _ hq]
theorem bf_congr72 {f g : Nat → Int32} {k i : Nat} (hk : k < 18) (hi : i ≤ 3) (h : ∀ q : Nat, q < 72 → g q = f q) : ∀ q : Nat, q < 72 → bfF g k i q = bfF f k i q := fun q hq => by
  unfold bfF
  by_cases a : q = 4 * k
  · rw [if_pos a, if_pos a, h _ (by omega)]
  · rw [if_neg a, if_neg a]
    by_cases b : 4 * k < q ∧ q ≤ 4 * k + i
    · rw [if_pos b, if_pos b, h _ (by omega)]
    · rw [if_neg b, if_neg b, h _ hq]
theorem wf_6 (hC : CR N words unsures slips throne said kind parts pn wt tw uw uo r told) (hS : StR N parts pn W o Q) (hI : CI N unit kind parts pn wt ws steps below above) (hR : ROk r) (hW : ∀ k : Nat, k < N → kind k = 0 → 0 ≤ (W k).toInt ∧ (W k).toInt ≤ 99) {un : Int32} (hun : 1 ≤ un.toInt ∧ un.toInt ≤ 1296) {t : Nat} (hth : throne = nI t) (hth6 : r 6 = nI t) (ht : t < N) {k i q : Nat} (hk : k < N) (hp : parts k = nI q) (hq : q ≤ 4) (hi : i < q) (tw2 to2 hw cp : Nat → Int32) : ∃ (bits : Int32) (c : Nat) (hw' cp' W' o' : Nat → Int32), PX6_breathsWithFirst (nI N) throne un kind parts pn wt ws W o tw2 to2 hw cp (nI k) (nI i) = (nI (BR r told un (bfF Q k i)), W', o', nI (BR r told un (bfF Q k i)), bits, nI c, hw', cp') := by
  have hN := hI.1
  have hF := hS.front hN hC.p4 hk (i := i) (by rw [hp, nI_toInt (by omega)]; omega)
  obtain ⟨bits, c, hw', cp', e⟩ := br_6 hC hF hI hR hW hun hth hth6 ht (W' := va_cpy W tw2 0 0 18) (o' := bfF (va_cpy o to2 0 0 72) k i) (fun k hk => cpy_q (by omega)) (bf_congr72 (by omega) (by omega) (fun q hq => cpy_q hq)) hw cp
  refine ⟨bits, c, hw', cp', va_cpy W tw2 0 0 18, bfF (va_cpy o to2 0 0 72) k i, ?_⟩
  rw [PX6_breathsWithFirst_eq, cp_eq, un2_eq rfl, lt_ap, bf_eq _ (by omega) (by omega), un6_eq e]
theorem wf_7 (hC : CR N words unsures slips throne said kind parts pn wt tw uw uo r told) (hS : StR N parts pn W o Q) (hI : CI N unit kind parts pn wt ws steps below above) (hR : ROk r) (hW : ∀ k : Nat, k < N → kind k = 0 → 0 ≤ (W k).toInt ∧ (W k).toInt ≤ 99) {un : Int32} (hun : 1 ≤ un.toInt ∧ un.toInt ≤ 1296) {t : Nat} (hth : throne = nI t) (hth6 : r 6 = nI t) (ht : t < N) {k i q : Nat} (hk : k < N) (hp : parts k = nI q) (hq : q ≤ 4) (hi : i < q) (T hr cr : Nat → Int32) : ∃ (c : Nat) (hr' cr' : Nat → Int32), PX7_breathsBy r told un hr cr (PX7_frontOf (cpF Q T (0 : Int32).toNatClampNeg (0 : Int32).toNatClampNeg (90 : Int32).toNatClampNeg) (nI k) (nI i)) = (nI (BR r told un (bfF Q k i)), nI (BR r told un (bfF Q k i)), nI c, hr', cr') := by
  have hN := hI.1
  have hF := hS.front hN hC.p4 hk (i := i) (by rw [hp, nI_toInt (by omega)]; omega)
  rw [fr_eq _ (by omega) (by omega)]
  exact br_7 hC hF hI hR hW hun hth hth6 ht (bf_congr (by omega) (by omega) (fun q hq => cpG90 hq)) hr cr
/-- the loops over the parts -/
theorem pf_loop (hC : CR N words unsures slips throne said kind parts pn wt tw uw uo r told) (hS : StR N parts pn W o Q) (hI : CI N unit kind parts pn wt ws steps below above) (hR : ROk r) (hW : ∀ k : Nat, k < N → kind k = 0 → 0 ≤ (W k).toInt ∧ (W k).toInt ≤ 99) {un : Int32} (hun : 1 ≤ un.toInt ∧ un.toInt ≤ 1296) {t : Nat} (hth : throne = nI t) (hth6 : r 6 = nI t) (ht : t < N) {k q : Nat} (hk : k < N) (hp : parts k = nI q) (hq : q ≤ 4) : ∀ (m i f6 f7 : Nat) (z6 y6 z7 y7 x1 x2 x3 x4 x5 : Int32) (a1 a2 a3 a4 b1 b2 b3 : Nat → Int32), q - i = m → i ≤ q → m < f6 → m < f7 → ((i = 0 ∧ z6 = -1 ∧ z7 = -2 ∧ y7 = -2) ∨ ∃ p : Nat, p < i ∧ z6 = nI p ∧ y6 = nI (BR r told un (bfF Q k p)) ∧ z7 = Q (4 * k + p) ∧ y7 = nI (BR r told un (bfF Q k p))) → ∃ (z6' y6' z7' y7' x1' x2' x3' x4' x5' : Int32) (a1' a2' a3' a4' b1' b2' b3' : Nat → Int32), HX6_placeOfFirst_0 (nI N) throne un kind parts pn wt ws W o (nI k) f6 (nI i) z6 y6 x1 x2 x3 a1 a2 a3 a4 = (z6', a1', a2', x1', x2', x3', a3', a4') ∧ HX7_firstOf_0 r told Q un (nI k) f7 (nI i) z7 x4 x5 y7 b1 b2 b3 = (z7', x4', x5', y7', b1', b2', b3') ∧ ((q = 0 ∧ z6' = -1 ∧ z7' = -2 ∧ y7' = -2) ∨ ∃ p : Nat, p < q ∧ z6' = nI p ∧ z7' = Q (4 * k + p) ∧ y7' = nI (BR r told un (bfF Q k p))) := by
  obtain ⟨hN0, hN, hr1⟩ := hC.N
  have hm := many_q hC hk hp
  have hbb : ∀ p : Nat, p < q → BR r told un (bfF Q k p) ≤ 349 := fun p hpq => by
    have hF := hS.front hN hC.p4 hk (i := p) (by rw [hp, nI_toInt (by omega)]; omega)
    exact (br_both hC hF hI hR hW hun hth hth6 ht (fun _ => 0) (fun _ => 0) (fun _ => 0) (fun _ => 0)).1
  intro m
  induction m with
  | zero =>
    intro i f6 f7 z6 y6 z7 y7 x1 x2 x3 x4 x5 a1 a2 a3 a4 b1 b2 b3 hd hi h6 h7 hst
    obtain ⟨f6, rfl⟩ : ∃ g, f6 = g + 1 := ⟨f6 - 1, by omega⟩
    obtain ⟨f7, rfl⟩ : ∃ g, f7 = g + 1 := ⟨f7 - 1, by omega⟩
    obtain rfl : i = q := by omega
    refine ⟨z6, y6, z7, y7, x1, x2, x3, x4, x5, a1, a2, a3, a4, b1, b2, b3, ?_, ?_, ?_⟩
    · rw [HX6_placeOfFirst_0_eq, lt_ap, nI_clamp (show k < 2 ^ 31 by omega), hp, if_pos (nI_le (Nat.le_refl _) (by omega))]
    · rw [HX7_firstOf_0_eq]
      simp only [lt_ap]
      rw [show (27 : Int32) + nI k = nI (27 + k) from nI_add 27 k, nI_clamp (show 27 + k < 2 ^ 31 by omega), hm, if_pos (nI_le (Nat.le_refl _) (by omega))]
    · rcases hst with h | ⟨p, h1, h2, h3, h4, h5⟩
      · exact Or.inl h
      · exact Or.inr ⟨p, h1, h2, h4, h5⟩
  | succ m ih =>
    intro i f6 f7 z6 y6 z7 y7 x1 x2 x3 x4 x5 a1 a2 a3 a4 b1 b2 b3 hd hi h6 h7 hst
    obtain ⟨f6, rfl⟩ : ∃ g, f6 = g + 1 := ⟨f6 - 1, by omega⟩
    obtain ⟨f7, rfl⟩ : ∃ g, f7 = g + 1 := ⟨f7 - 1, by omega⟩
    obtain ⟨bits, c, hw', cp', W', o', e6⟩ := wf_6 hC hS hI hR hW hun hth hth6 ht hk hp hq (show i < q by omega) a1 a2 a3 a4
    obtain ⟨c2, hr', cr', e7⟩ := wf_7 hC hS hI hR hW hun hth hth6 ht hk hp hq (show i < q by omega) b3 b1 b2
    have hbi := hbb i (by omega)
    rw [HX6_placeOfFirst_0_eq, HX7_firstOf_0_eq]
    simp only [lt_ap]
    rw [nI_clamp (show k < 2 ^ 31 by omega), hp, if_neg (show ¬ nI q ≤ nI i by rw [nI_leI (by omega) (by omega)]; omega), un8_eq e6, show (27 : Int32) + nI k = nI (27 + k) from nI_add 27 k, nI_clamp (show 27 + k < 2 ^ 31 by omega), hm, if_neg (show ¬ nI q ≤ nI i by rw [nI_leI (by omega) (by omega)]; omega), un5_eq e7, nI_m4' (by omega), nI_add, nI_clamp (show 4 * k + i < 2 ^ 31 by omega), nI_o1]
    rcases hst with ⟨h1, h2, h3, h4⟩ | ⟨p, h1, h2, h3, h4, h5⟩
    · rw [h2, h3, if_pos (show (-1 : Int32) < 0 by decide), if_pos (show (-2 : Int32) < 0 by decide)]
      exact ih (i + 1) f6 f7 _ _ _ _ _ _ _ _ _ _ _ _ _ _ _ _ (by omega) (by omega) (by omega) (by omega) (Or.inr ⟨i, by omega, rfl, rfl, rfl, rfl⟩)
    · obtain ⟨q', hp', hD⟩ := hI.2.1 k hk
      obtain rfl : q = q' := (nI_eq (by omega) (by have := hD.1; omega)).mp (hp.symm.trans hp')
      obtain ⟨j, j1, -, -, j2, -⟩ := hp_at hC hS hk hp hD (i := p) (by omega)
      have hbp := hbb p (by omega)
      rw [h2, h4, j2, if_neg (show ¬ nI p < 0 from nI_pos (by omega)), if_neg (show ¬ nI j < 0 from nI_pos (by omega)), h3, h5]
      by_cases y : BR r told un (bfF Q k i) < BR r told un (bfF Q k p)
      · rw [if_neg (show ¬ nI (BR r told un (bfF Q k p)) ≤ nI (BR r told un (bfF Q k i)) by rw [nI_leI (by omega) (by omega)]; omega), if_pos (nI_lt y (by omega))]
        exact ih (i + 1) f6 f7 _ _ _ _ _ _ _ _ _ _ _ _ _ _ _ _ (by omega) (by omega) (by omega) (by omega) (Or.inr ⟨i, by omega, rfl, rfl, rfl, rfl⟩)
      · rw [if_pos (nI_le (by omega) (by omega)), if_neg (nI_nlt (by omega) (by omega))]
        exact ih (i + 1) f6 f7 _ _ _ _ _ _ _ _ _ _ _ _ _ _ _ _ (by omega) (by omega) (by omega) (by omega) (Or.inr ⟨p, by omega, rfl, rfl, j2.symm, rfl⟩)
end WQ
section FJ
variable {nodes words unsures slips throne said : Int32} {kind parts pn wt tw uw uo w o : Nat → Int32} {ic : Int32} {iw0 io0 iw1 io1 iw2 io2 : Nat → Int32} {ac : Int32} {an ao as : Nat → Int32} {hc : Int32} {r told st und kept : Nat → Int32} {undos images : Int32} {unit : Int32} {ws steps below above : Nat → Int32} {scale night : Int32}
theorem first_join (h : Rel nodes words unsures slips throne said kind parts pn wt tw uw uo w o ic iw0 io0 iw1 io1 iw2 io2 ac an ao as hc r told st und kept undos images) (hx : CIS nodes unit kind parts pn wt ws steps below above) (hs : PX7_layScale r = scale) (hM : ROk r ∧ RowOk r st ∧ RowOk r told ∧ WorOk st ∧ night.toInt = -1 ∧ 1 ≤ scale.toInt ∧ scale.toInt ≤ 1296) {xw xo : Nat → Int32} {hb hg hn br cm fb : Int32} {hw cp hr cr tr : Nat → Int32} {xw' xo' : Nat → Int32} {hb' hg' hn' br' cm' fb' : Int32} {hw' cp' hr' cr' tr' : Nat → Int32} {p0 q6 q7 rf t1 t2 : Int32} (e6 : PX6_first nodes throne unit kind parts pn wt ws w o xw xo hb hg hn hw cp p0 = (q6, rf, xw', xo', hb', hg', hn', hw', cp')) (e7 : PX7_first hc r told st scale hr cr br cm tr fb p0 = (q7, t1, t2, br', cm', fb', hr', cr', tr')) : q6 = q7 ∧ rf = t2 := by
  obtain ⟨hR, hQ, hQt, hW, hnt, hsc⟩ := hM
  have key : ∃ (q f t : Int32) (c1 c2 : Nat → Int32) (d1 d2 d3 : Int32) (c3 c4 : Nat → Int32) (d4 d5 d6 : Int32) (c5 c6 c7 : Nat → Int32), PX6_first nodes throne unit kind parts pn wt ws w o xw xo hb hg hn hw cp p0 = (q, f, c1, c2, d1, d2, d3, c3, c4) ∧ PX7_first hc r told st scale hr cr br cm tr fb p0 = (q, t, f, d4, d5, d6, c5, c6, c7) := by
    rcases h with ⟨rfl, h0⟩ | ⟨N, c, d, rfl, rfl, rfl, rfl, hc, rfl, rfl, hd, hC, hS, hU, hI⟩
    · obtain ⟨h2, h3, h4, h5, h6, h7, rfl, h8, h9⟩ := h0
      refine ⟨-1, 1, 0, xw, xo, hb, hg, hn, hw, cp, br, cm, fb, hr, cr, tr, ?_, ?_⟩
      · rw [PX6_first_eq, PX6_lacksNode_eq]
        simp only [lt_ap]
        rw [hn_0, if_neg (show ¬ (0 : Int32) = 1 by decide), un2_eq rfl, if_neg (show ¬ (1 : Int32) = 0 by decide)]
      · rw [PX7_first_eq, PX7_good_eq, un2_eq rfl]
        simp only [lt_ap]
        rw [rn_0, if_neg (show ¬ (0 : Int32) = 1 by decide), no_eq, un2_eq rfl]
    · obtain ⟨hN0, hN, hr1⟩ := hC.N
      obtain ⟨M, hM, hX⟩ := hx
      obtain rfl : N = M := (nI_eq (by omega) (by have := hX.1; omega)).mp hM
      obtain rfl : unit = scale := (ls_eq hC hX).symm.trans hs
      have hth : r 6 = throne := hC.2.2.2.2.2.2.1
      obtain ⟨t, t1, t2⟩ := nd_of hN hC.2.2.2.2.2.2.2.2.1
      have hWw := w_in hC hS hW
      by_cases hnn : 0 ≤ p0.toInt ∧ p0.toInt < (N : Int)
      · obtain ⟨k, hk, rfl⟩ := nd_of hN hnn
        obtain ⟨q, hp, hD⟩ := hX.2.1 k hk
        have hq := hD.1
        obtain ⟨z6, y6, z7, y7, x1, x2, x3, x4, x5, a1, a2, a3, a4, b1, b2, b3, e6', e7', hr9⟩ := pf_loop hC hS hX hR hWw hsc t2 (hth.trans t2) t1 hk hp hq q 0 (((2147483647 - (0 : Int32).toInt).toNat) + 1) (((4 - (0 : Int32).toInt).toNat) + 1) (-1) 0 (-2) (-2) hb hg hn br cm xw xo hw cp hr cr tr rfl (by omega) (by rw [kc_0]; omega) (by rw [kc_0]; omega) (Or.inl ⟨rfl, rfl, rfl, rfl⟩)
        rw [nI_0] at e6' e7'
        rcases hr9 with ⟨-, h2, h3, h4⟩ | ⟨p, h1, h2, h3, h4⟩
        · refine ⟨-2, 0, 0, a1, a2, x1, x2, x3, a3, a4, x4, x5, y7, b1, b2, b3, ?_, ?_⟩
          · rw [PX6_first_eq, PX6_lacksNode_eq]
            simp only [lt_ap]
            rw [hn_eq hN, if_pos hnn, if_pos rfl, un2_eq rfl, if_pos rfl, un8_eq (show PX6_placeOfFirst (nI N) throne unit kind parts pn wt ws w o xw xo hb hg hn hw cp (nI k) = _ from (PX6_placeOfFirst_eq (nI N) throne unit kind parts pn wt ws w o xw xo hb hg hn hw cp (nI k)).trans e6'), h2, if_neg (show ¬ (0 : Int32) ≤ -1 by decide)]
          · rw [PX7_first_eq, PX7_good_eq, un2_eq rfl]
            simp only [lt_ap]
            rw [rn_eq hN0 hN hr1, if_pos hnn, if_pos rfl, un7_eq (show PX7_firstOf r told st unit hr cr br cm tr (nI k) = _ from (PX7_firstOf_eq r told st unit hr cr br cm tr (nI k)).trans e7'), h3]
        obtain ⟨j, j1, -, j2, j3, -, -⟩ := hp_at hC hS hk hp hD h1
        · refine ⟨nI j, 0, 0, a1, a2, x1, x2, x3, a3, a4, x4, x5, y7, b1, b2, b3, ?_, ?_⟩
          · rw [PX6_first_eq, PX6_lacksNode_eq]
            simp only [lt_ap]
            rw [hn_eq hN, if_pos hnn, if_pos rfl, un2_eq rfl, if_pos rfl, un8_eq (show PX6_placeOfFirst (nI N) throne unit kind parts pn wt ws w o xw xo hb hg hn hw cp (nI k) = _ from (PX6_placeOfFirst_eq (nI N) throne unit kind parts pn wt ws w o xw xo hb hg hn hw cp (nI k)).trans e6'), h2, if_pos (nI_pos' (by omega)), j2]
          · rw [PX7_first_eq, PX7_good_eq, un2_eq rfl]
            simp only [lt_ap]
            rw [rn_eq hN0 hN hr1, if_pos hnn, if_pos rfl, un7_eq (show PX7_firstOf r told st unit hr cr br cm tr (nI k) = _ from (PX7_firstOf_eq r told st unit hr cr br cm tr (nI k)).trans e7'), h3, j3]
      · refine ⟨-1, 1, 0, xw, xo, hb, hg, hn, hw, cp, br, cm, fb, hr, cr, tr, ?_, ?_⟩
        · rw [PX6_first_eq, PX6_lacksNode_eq]
          simp only [lt_ap]
          rw [hn_eq hN, if_neg hnn, if_neg (show ¬ (0 : Int32) = 1 by decide), un2_eq rfl, if_neg (show ¬ (1 : Int32) = 0 by decide)]
        · rw [PX7_first_eq, PX7_good_eq, un2_eq rfl]
          simp only [lt_ap]
          rw [rn_eq hN0 hN hr1, if_neg hnn, if_neg (show ¬ (0 : Int32) = 1 by decide), no_eq, un2_eq rfl]
  obtain ⟨q, f, t, c1, c2, d1, d2, d3, c3, c4, d4, d5, d6, c5, c6, c7, g6, g7⟩ := key
  have x := g6.symm.trans e6
  have y := g7.symm.trans e7
  simp only [Prod.mk.injEq] at x y
  obtain ⟨rfl, rfl, -⟩ := x
  obtain ⟨rfl, -, rfl, -⟩ := y
  exact ⟨rfl, rfl⟩
theorem firstBreaths_join (h : Rel nodes words unsures slips throne said kind parts pn wt tw uw uo w o ic iw0 io0 iw1 io1 iw2 io2 ac an ao as hc r told st und kept undos images) (hx : CIS nodes unit kind parts pn wt ws steps below above) (hs : PX7_layScale r = scale) (hM : ROk r ∧ RowOk r st ∧ RowOk r told ∧ WorOk st ∧ night.toInt = -1 ∧ 1 ≤ scale.toInt ∧ scale.toInt ≤ 1296) {xw xo : Nat → Int32} {hb hg hn br cm fb : Int32} {hw cp hr cr tr : Nat → Int32} {xw' xo' : Nat → Int32} {hb' hg' hn' br' cm' fb' : Int32} {hw' cp' hr' cr' tr' : Nat → Int32} {p0 q6 q7 rf t1 t2 : Int32} (e6 : PX6_firstBreaths nodes throne unit kind parts pn wt ws w o xw xo hb hg hn hw cp p0 = (q6, rf, xw', xo', hb', hg', hn', hw', cp')) (e7 : PX7_firstBreaths hc r told st scale hr cr br cm tr fb p0 = (q7, t1, t2, br', cm', fb', hr', cr', tr')) : q6 = q7 ∧ rf = t2 := by
  obtain ⟨hR, hQ, hQt, hW, hnt, hsc⟩ := hM
  have key : ∃ (q f t : Int32) (c1 c2 : Nat → Int32) (d1 d2 d3 : Int32) (c3 c4 : Nat → Int32) (d4 d5 d6 : Int32) (c5 c6 c7 : Nat → Int32), PX6_firstBreaths nodes throne unit kind parts pn wt ws w o xw xo hb hg hn hw cp p0 = (q, f, c1, c2, d1, d2, d3, c3, c4) ∧ PX7_firstBreaths hc r told st scale hr cr br cm tr fb p0 = (q, t, f, d4, d5, d6, c5, c6, c7) := by
    rcases h with ⟨rfl, h0⟩ | ⟨N, c, d, rfl, rfl, rfl, rfl, hc, rfl, rfl, hd, hC, hS, hU, hI⟩
    · obtain ⟨h2, h3, h4, h5, h6, h7, rfl, h8, h9⟩ := h0
      refine ⟨-1, 1, 0, xw, xo, hb, hg, hn, hw, cp, br, cm, fb, hr, cr, tr, ?_, ?_⟩
      · rw [PX6_firstBreaths_eq, PX6_lacksNode_eq]
        simp only [lt_ap]
        rw [hn_0, if_neg (show ¬ (0 : Int32) = 1 by decide), un2_eq rfl, if_neg (show ¬ (1 : Int32) = 0 by decide)]
      · rw [PX7_firstBreaths_eq, PX7_good_eq, un2_eq rfl]
        simp only [lt_ap]
        rw [rn_0, if_neg (show ¬ (0 : Int32) = 1 by decide), no_eq, un2_eq rfl]
    · obtain ⟨hN0, hN, hr1⟩ := hC.N
      obtain ⟨M, hM, hX⟩ := hx
      obtain rfl : N = M := (nI_eq (by omega) (by have := hX.1; omega)).mp hM
      obtain rfl : unit = scale := (ls_eq hC hX).symm.trans hs
      have hth : r 6 = throne := hC.2.2.2.2.2.2.1
      obtain ⟨t, t1, t2⟩ := nd_of hN hC.2.2.2.2.2.2.2.2.1
      have hWw := w_in hC hS hW
      by_cases hnn : 0 ≤ p0.toInt ∧ p0.toInt < (N : Int)
      · obtain ⟨k, hk, rfl⟩ := nd_of hN hnn
        obtain ⟨q, hp, hD⟩ := hX.2.1 k hk
        have hq := hD.1
        obtain ⟨z6, y6, z7, y7, x1, x2, x3, x4, x5, a1, a2, a3, a4, b1, b2, b3, e6', e7', hr9⟩ := pf_loop hC hS hX hR hWw hsc t2 (hth.trans t2) t1 hk hp hq q 0 (((2147483647 - (0 : Int32).toInt).toNat) + 1) (((4 - (0 : Int32).toInt).toNat) + 1) (-1) 0 (-2) (-2) hb hg hn br cm xw xo hw cp hr cr tr rfl (by omega) (by rw [kc_0]; omega) (by rw [kc_0]; omega) (Or.inl ⟨rfl, rfl, rfl, rfl⟩)
        rw [nI_0] at e6' e7'
        rcases hr9 with ⟨-, h2, h3, h4⟩ | ⟨p, h1, h2, h3, h4⟩
        · refine ⟨-2, 0, 0, a1, a2, x1, x2, x3, a3, a4, x4, x5, y7, b1, b2, b3, ?_, ?_⟩
          · rw [PX6_firstBreaths_eq, PX6_lacksNode_eq]
            simp only [lt_ap]
            rw [hn_eq hN, if_pos hnn, if_pos rfl, un2_eq rfl, if_pos rfl, un8_eq (show PX6_placeOfFirst (nI N) throne unit kind parts pn wt ws w o xw xo hb hg hn hw cp (nI k) = _ from (PX6_placeOfFirst_eq (nI N) throne unit kind parts pn wt ws w o xw xo hb hg hn hw cp (nI k)).trans e6'), h2, if_neg (show ¬ (0 : Int32) ≤ -1 by decide)]
          · rw [PX7_firstBreaths_eq, PX7_good_eq, un2_eq rfl]
            simp only [lt_ap]
            rw [rn_eq hN0 hN hr1, if_pos hnn, if_pos rfl, un7_eq (show PX7_firstOf r told st unit hr cr br cm tr (nI k) = _ from (PX7_firstOf_eq r told st unit hr cr br cm tr (nI k)).trans e7'), h4]
        · obtain ⟨bits, c, hw2, cp2, W2, o2, e9⟩ := wf_6 hC hS hX hR hWw hsc t2 (hth.trans t2) t1 hk hp hq h1 a1 a2 a3 a4
          refine ⟨nI (BR r told unit (bfF st k p)), 0, 0, W2, o2, nI (BR r told unit (bfF st k p)), bits, nI c, hw2, cp2, x4, x5, y7, b1, b2, b3, ?_, ?_⟩
          · rw [PX6_firstBreaths_eq, PX6_lacksNode_eq]
            simp only [lt_ap]
            rw [hn_eq hN, if_pos hnn, if_pos rfl, un2_eq rfl, if_pos rfl, un8_eq (show PX6_placeOfFirst (nI N) throne unit kind parts pn wt ws w o xw xo hb hg hn hw cp (nI k) = _ from (PX6_placeOfFirst_eq (nI N) throne unit kind parts pn wt ws w o xw xo hb hg hn hw cp (nI k)).trans e6'), h2, if_pos (nI_pos' (by omega)), un8_eq e9]
          · rw [PX7_firstBreaths_eq, PX7_good_eq, un2_eq rfl]
            simp only [lt_ap]
            rw [rn_eq hN0 hN hr1, if_pos hnn, if_pos rfl, un7_eq (show PX7_firstOf r told st unit hr cr br cm tr (nI k) = _ from (PX7_firstOf_eq r told st unit hr cr br cm tr (nI k)).trans e7'), h4]
      · refine ⟨-1, 1, 0, xw, xo, hb, hg, hn, hw, cp, br, cm, fb, hr, cr, tr, ?_, ?_⟩
        · rw [PX6_firstBreaths_eq, PX6_lacksNode_eq]
          simp only [lt_ap]
          rw [hn_eq hN, if_neg hnn, if_neg (show ¬ (0 : Int32) = 1 by decide), un2_eq rfl, if_neg (show ¬ (1 : Int32) = 0 by decide)]
        · rw [PX7_firstBreaths_eq, PX7_good_eq, un2_eq rfl]
          simp only [lt_ap]
          rw [rn_eq hN0 hN hr1, if_neg hnn, if_neg (show ¬ (0 : Int32) = 1 by decide), no_eq, un2_eq rfl]
  obtain ⟨q, f, t, c1, c2, d1, d2, d3, c3, c4, d4, d5, d6, c5, c6, c7, g6, g7⟩ := key
  have x := g6.symm.trans e6
  have y := g7.symm.trans e7
  simp only [Prod.mk.injEq] at x y
  obtain ⟨rfl, rfl, -⟩ := x
  obtain ⟨rfl, -, rfl, -⟩ := y
  exact ⟨rfl, rfl⟩
end FJ
end G5
