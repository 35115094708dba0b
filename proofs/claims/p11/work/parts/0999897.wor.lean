section
/-! worth of a node: on both sides -/
section F5
section FJ
variable {nodes words unsures slips throne said : Int32} {kind parts pn wt tw uw uo w o : Nat → Int32} {ic : Int32} {iw0 io0 iw1 io1 iw2 io2 : Nat → Int32} {ac : Int32} {an ao as : Nat → Int32} {hc : Int32} {r told st und kept : Nat → Int32} {undos images : Int32} {unit : Int32} {ws steps below above : Nat → Int32} {scale night : Int32}
/-- the words' worths are bounded -/
theorem w_in {N : Nat} (hC : CR N words unsures slips throne said kind parts pn wt tw uw uo r told) (hS : StR N parts pn w o st) (hW : WorOk st) : ∀ k : Nat, k < N → kind k = 0 → 0 ≤ (w k).toInt ∧ (w k).toInt ≤ 99 := fun k hk _ => by
  have hN := hC.N.2.1
  rw [(hS k hk).1]
  exact hW (72 + k) (by omega) (by omega)
theorem lN_no : (-1 : Int32).toInt64 = -1 := by decide
theorem worth_join (h : Rel nodes words unsures slips throne said kind parts pn wt tw uw uo w o ic iw0 io0 iw1 io1 iw2 io2 ac an ao as hc r told st und kept undos images) (hx : CIS nodes unit kind parts pn wt ws steps below above) (hs : PX7_layScale r = scale) (hM : ROk r ∧ RowOk r st ∧ RowOk r told ∧ WorOk st ∧ night.toInt = -1 ∧ 1 ≤ scale.toInt ∧ scale.toInt ≤ 1296) {lv lv' : Nat → Int32} {p0 p1 : Int32} {q6 q7 : Int64} {rf t1 t2 : Int32} (e6 : PX6_worth nodes throne unit kind parts pn wt ws w lv p0 p1 = (q6, rf, lv')) (e7 : PX7_worth hc r told st scale night p0 p1 = (q7, t1, t2)) : q6 = q7 ∧ rf = t2 := by
  obtain ⟨hR, hQ, hQt, hW, hnt, hsc⟩ := hM
  obtain rfl : night = -1 := (fz_eq _ _).mpr (hnt.trans (by decide))
  have key : ∃ (q : Int64) (f t : Int32) (v : Nat → Int32), PX6_worth nodes throne unit kind parts pn wt ws w lv p0 p1 = (q, f, v) ∧ PX7_worth hc r told st scale (-1) p0 p1 = (q, t, f) := by
    rcases h with ⟨rfl, h0⟩ | ⟨N, c, d, rfl, rfl, rfl, rfl, hc, rfl, rfl, hd, hC, hS, hU, hI⟩
    · obtain ⟨h2, h3, h4, h5, h6, h7, rfl, h8, h9⟩ := h0
      refine ⟨-1, 1, 0, lv, ?_, ?_⟩
      · rw [PX6_worth_eq, PX6_lacksNode_eq]
        simp only [lt_ap]
        rw [hn_0, if_neg (show ¬ (0 : Int32) = 1 by decide), un2_eq rfl, if_neg (show ¬ (1 : Int32) = 0 by decide)]
      · rw [PX7_worth_eq, PX7_good_eq, un2_eq rfl]
        simp only [lt_ap]
        rw [rn_0, if_neg (show ¬ (0 : Int32) = 1 by decide), no_eq, un2_eq rfl, lN_no]
    · obtain ⟨hN0, hN, hr⟩ := hC.N
      obtain ⟨M, hM, hX⟩ := hx
      obtain rfl : N = M := (nI_eq (by omega) (by have := hX.1; omega)).mp hM
      obtain rfl : unit = scale := (ls_eq hC hX).symm.trans hs
      by_cases hn : 0 ≤ p0.toInt ∧ p0.toInt < (N : Int)
      · obtain ⟨k, hk, rfl⟩ := nd_of hN hn
        obtain ⟨G', e, hG⟩ := weigh_eq hC hS hX hR (w_in hC hS hW) hsc lv
        have hv := hG k hk
        have hb := wa_in hC hS hX hR (w_in hC hS hW) hsc k 18 0 (by omega) hk (nt := -1)
        have hb : 0 ≤ (PX7_worthOf r told unit (-1) st (nI k)).toInt := by
          rw [PX7_worthOf_eq, lt_ap]
          exact hb.1
        refine ⟨PX7_lowest (PX7_worthOf r told unit (-1) st (nI k)).toInt64 unit.toInt64 p1, 0, 0, G', ?_, ?_⟩
        · rw [PX6_worth_eq, PX6_lacksNode_eq]
          simp only [lt_ap]
          rw [hn_eq hN, if_pos hn, if_pos rfl, un2_eq rfl, if_pos rfl, un2_eq e, nI_clamp (by omega), hv, lowest_eq (by rw [Int32.toInt_toInt64]; exact hb) (by rw [Int32.toInt_toInt64]; exact hsc.1)]
        · rw [PX7_worth_eq, PX7_good_eq, un2_eq rfl]
          simp only [lt_ap]
          rw [rn_eq hN0 hN hr, if_pos hn, if_pos rfl]
      · refine ⟨-1, 1, 0, lv, ?_, ?_⟩
        · rw [PX6_worth_eq, PX6_lacksNode_eq]
          simp only [lt_ap]
          rw [hn_eq hN, if_neg hn, if_neg (show ¬ (0 : Int32) = 1 by decide), un2_eq rfl, if_neg (show ¬ (1 : Int32) = 0 by decide)]
        · rw [PX7_worth_eq, PX7_good_eq, un2_eq rfl]
          simp only [lt_ap]
          rw [rn_eq hN0 hN hr, if_neg hn, if_neg (show ¬ (0 : Int32) = 1 by decide), no_eq, un2_eq rfl, lN_no]
  obtain ⟨q, f, t, v, g6, g7⟩ := key
  have x := g6.symm.trans e6
  have y := g7.symm.trans e7
  simp only [Prod.mk.injEq] at x y
  obtain ⟨rfl, rfl, -⟩ := x
  obtain ⟨rfl, -, rfl⟩ := y
  exact ⟨rfl, rfl⟩
end FJ
end F5
end
section
/-! best parts, the line: on both sides -/
section F6
theorem least_of {P : Nat → Prop} : ∀ q : Nat, (∃ j : Nat, j < q ∧ P j) → ∃ i : Nat, i < q ∧ P i ∧ ∀ j : Nat, j < i → ¬ P j
  | 0, h => by
    obtain ⟨j, h1, -⟩ := h
    exact absurd h1 (by omega)
  | q + 1, h => by
    by_cases c : ∃ j : Nat, j < q ∧ P j
    · obtain ⟨i, h1, h2⟩ := least_of q c
      exact ⟨i, by omega, h2⟩
    · obtain ⟨j, h1, h2⟩ := h
      refine ⟨j, h1, h2, fun i hi hp => c ⟨i, by omega, hp⟩⟩
theorem pfM_ex {v : Nat → Int32} : ∀ m : Nat, (∀ i : Nat, i < m → -100000000 < (v i).toInt) → 1 ≤ m → ∃ i : Nat, i < m ∧ v i = pf opM (-100000000) v m
  | 0, _, h => absurd h (by omega)
  | m + 1, h, _ => by
    have b := h m (by omega)
    have e : pf opM (-100000000) v (m + 1) = if v m ≤ pf opM (-100000000) v m then pf opM (-100000000) v m else v m := rfl
    rw [e]
    by_cases c : v m ≤ pf opM (-100000000) v m
    · rw [if_pos c]
      by_cases h0 : m = 0
      · subst h0
        have c : v 0 ≤ (-100000000 : Int32) := c
        rw [fz_le, k_lo] at c
        omega
      · obtain ⟨i, h1, h2⟩ := pfM_ex m (fun i hi => h i (by omega)) (by omega)
        exact ⟨i, by omega, h2⟩
    · rw [if_neg c]
      exact ⟨m, by omega, rfl⟩
theorem pfN_ex {v : Nat → Int32} : ∀ m : Nat, (∀ i : Nat, i < m → (v i).toInt < 100000000) → 1 ≤ m → ∃ i : Nat, i < m ∧ v i = pf opN 100000000 v m
  | 0, _, h => absurd h (by omega)
  | m + 1, h, _ => by
    have b := h m (by omega)
    have e : pf opN 100000000 v (m + 1) = if pf opN 100000000 v m ≤ v m then pf opN 100000000 v m else v m := rfl
    rw [e]
    by_cases c : pf opN 100000000 v m ≤ v m
    · rw [if_pos c]
      by_cases h0 : m = 0
      · subst h0
        have c : (100000000 : Int32) ≤ v 0 := c
        rw [fz_le, k_hi] at c
        omega
      · obtain ⟨i, h1, h2⟩ := pfN_ex m (fun i hi => h i (by omega)) (by omega)
        exact ⟨i, by omega, h2⟩
    · rw [if_neg c]
      exact ⟨m, by omega, rfl⟩
section WQ
variable {N : Nat} {words unsures slips throne said unit : Int32} {kind parts pn wt tw uw uo r told w o st ws steps below above G : Nat → Int32}
theorem part_at (hC : CR N words unsures slips throne said kind parts pn wt tw uw uo r told) (hS : StR N parts pn w o st) {k q i : Nat} (hk : k < N) (hp : parts k = nI q) (hq : q ≤ 4) (hi : i < q) : PX5_partAt o pn (nI k) (nI i) = st (4 * k + i) := by
  have hN := hC.N.2.1
  obtain ⟨s1, s2, s3⟩ := (hS k hk).2.1 i (by rw [hp, nI_toInt (by omega)]; omega)
  rw [hp, nI_toInt (by omega)] at s2
  rw [pt_eq (by omega) (by omega) s1 (by omega), s3]
/-- a king's, a queen's worth is a part's -/
theorem best_some (hC : CR N words unsures slips throne said kind parts pn wt tw uw uo r told) (hS : StR N parts pn w o st) (hI : CI N unit kind parts pn wt ws steps below above) (hR : ROk r) (hW : ∀ k : Nat, k < N → kind k = 0 → 0 ≤ (w k).toInt ∧ (w k).toInt ≤ 99) {un : Int32} (hs : 1 ≤ un.toInt ∧ un.toInt ≤ 1296) {k q : Nat} (hk : k < N) (hp : parts k = nI q) (hq4 : q ≤ 4) (h12 : kind k = 1 ∨ kind k = 2) : ∃ i : Nat, i < q ∧ PX7_worthOf r told un (-1) st (st (4 * k + i)) = PX7_worthOf r told un (-1) st (nI k) ∧ ∀ j : Nat, j < i → ¬ PX7_worthOf r told un (-1) st (st (4 * k + j)) = PX7_worthOf r told un (-1) st (nI k) := by
  have hN := hI.1
  obtain ⟨q', hp', hD⟩ := hI.2.1 k hk
  obtain rfl : q = q' := (nI_eq (by omega) (by have := hD.1; omega)).mp (hp.symm.trans hp')
  have h0 : ¬ kind k = 0 := fun e => by rcases h12 with c | c <;> · rw [c] at e; exact absurd e (by decide)
  have hq1 := q1_of hC hR hk hp hD.1 h0
  refine least_of q ?_
  have e0 : ∀ p : Int32, PX7_worthOf r told un (-1) st p = PX7_worthAt 18 (-1) r told un st p (nI 0) := fun p => by rw [PX7_worthOf_eq, lt_ap, nI_0]
  obtain ⟨s, s1, s2, s3⟩ := st_perm hS hk hp hD.1
  have hv : ∀ i : Nat, i < q → PX7_worthAt 17 (-1) r told un st (pn (4 * k + i)) (nI (0 + 1)) = PX7_worthOf r told un (-1) st (pn (4 * k + i)) := fun i hi => by
    obtain ⟨j, j1, j2⟩ := hD.2.2.2.2.1 i hi
    rw [j2, e0]
    exact wa_any hC hS hI hR j 17 18 1 0 (by omega) (by omega) (by omega) (by omega) (by omega)
  have hb : ∀ i : Nat, i < q → 0 ≤ (PX7_worthAt 17 (-1) r told un st (pn (4 * k + i)) (nI (0 + 1))).toInt ∧ (PX7_worthAt 17 (-1) r told un st (pn (4 * k + i)) (nI (0 + 1))).toInt ≤ 128304 := fun i hi => by
    obtain ⟨j, j1, j2⟩ := hD.2.2.2.2.1 i hi
    rw [j2]
    exact wa_in hC hS hI hR hW hs j 17 (0 + 1) (by omega) (by omega)
  have hstep : PX7_worthOf r told un (-1) st (nI k) = Jv (kind k) (ws k) wt (fun i => PX7_worthAt 17 (-1) r told un st (pn (4 * k + i)) (nI (0 + 1))) k q := by
    rw [e0, show (18 : Nat) = 17 + 1 from rfl, wa_step hC hS hR hk hp hD, if_neg h0, if_neg (nIm1 (show 0 < 2 ^ 31 by omega))]
  have fin : ∀ i : Nat, i < q → PX7_worthAt 17 (-1) r told un st (pn (4 * k + s i)) (nI (0 + 1)) = PX7_worthOf r told un (-1) st (nI k) → ∃ j : Nat, j < q ∧ PX7_worthOf r told un (-1) st (st (4 * k + j)) = PX7_worthOf r told un (-1) st (nI k) := fun i hi e => ⟨i, hi, by rw [s3 i hi, ← hv (s i) (s1 i hi)]; exact e⟩
  rw [← Jv_perm (v := fun i => PX7_worthAt 17 (-1) r told un st (pn (4 * k + i)) (nI (0 + 1))) (wt := wt) s1 s2] at hstep
  rcases h12 with c | c
  · rw [c, if_neg (show ¬ (1 : Int32) = 3 by decide), if_pos rfl] at hstep
    obtain ⟨i, hi, e⟩ := pfM_ex (v := fun i => PX7_worthAt 17 (-1) r told un st (pn (4 * k + s i)) (nI (0 + 1))) q (fun i hi => by
      have := hb (s i) (s1 i hi)
      show -100000000 < (PX7_worthAt 17 (-1) r told un st (pn (4 * k + s i)) (nI (0 + 1))).toInt
      omega) hq1
    exact fin i hi (e.trans hstep.symm)
  · rw [c, if_neg (show ¬ (2 : Int32) = 3 by decide), if_neg (show ¬ (2 : Int32) = 1 by decide)] at hstep
    obtain ⟨i, hi, e⟩ := pfN_ex (v := fun i => PX7_worthAt 17 (-1) r told un st (pn (4 * k + s i)) (nI (0 + 1))) q (fun i hi => by
      have := hb (s i) (s1 i hi)
      show (PX7_worthAt 17 (-1) r told un st (pn (4 * k + s i)) (nI (0 + 1))).toInt < 100000000
      omega) hq1
    exact fin i hi (e.trans hstep.symm)
theorem b6_loop (hC : CR N words unsures slips throne said kind parts pn wt tw uw uo r told) (hS : StR N parts pn w o st) {k q i0 : Nat} {T : Int32 → Int32} (hk : k < N) (hp : parts k = nI q) (hq : q ≤ 4) (hG : ∀ i : Nat, i < q → G (st (4 * k + i)).toNatClampNeg = T (st (4 * k + i))) (hGk : G k = T (nI k)) (hi0 : i0 < q) (he : T (st (4 * k + i0)) = T (nI k)) (hn : ∀ j : Nat, j < i0 → ¬ T (st (4 * k + j)) = T (nI k)) : ∀ (m i f : Nat), i0 - i = m → i ≤ i0 → m < f → HX6_bestPart_0 parts pn o G (nI k) f (nI i) = st (4 * k + i0) := by
  have hN := hC.N.2.1
  intro m
  induction m with
  | zero =>
    intro i f hr hi hf
    obtain ⟨f, rfl⟩ : ∃ g, f = g + 1 := ⟨f - 1, by omega⟩
    obtain rfl : i = i0 := by omega
    rw [HX6_bestPart_0_eq]
    simp only [lt_ap]
    rw [nI_clamp (by omega), hp, if_neg (by rw [nI_leI (by omega) (by omega)]; omega), part_at hC hS hk hp hq hi0, hG i hi0, hGk, if_pos he]
  | succ m ih =>
    intro i f hr hi hf
    obtain ⟨f, rfl⟩ : ∃ g, f = g + 1 := ⟨f - 1, by omega⟩
    rw [HX6_bestPart_0_eq]
    simp only [lt_ap]
    rw [nI_clamp (by omega), hp, if_neg (by rw [nI_leI (by omega) (by omega)]; omega), part_at hC hS hk hp hq (by omega), hG i (by omega), hGk, if_neg (hn i (by omega)), nI_o1]
    exact ih (i + 1) f (by omega) (by omega) (by omega)
theorem b7_loop {un : Int32} {k i0 : Nat} (hk : k < 18) (hi0 : i0 < 4) (he : PX7_worthOf r told un (-1) st (st (4 * k + i0)) = PX7_worthOf r told un (-1) st (nI k)) (hn : ∀ j : Nat, j < i0 → ¬ PX7_worthOf r told un (-1) st (st (4 * k + j)) = PX7_worthOf r told un (-1) st (nI k)) : ∀ (m i f : Nat), i0 - i = m → i ≤ i0 → m < f → HX7_bestOf_0 r told st un (-1) (nI k) f (nI i) = st (4 * k + i0) := by
  intro m
  induction m with
  | zero =>
    intro i f hr hi hf
    obtain ⟨f, rfl⟩ : ∃ g, f = g + 1 := ⟨f - 1, by omega⟩
    obtain rfl : i = i0 := by omega
    rw [HX7_bestOf_0_eq]
    simp only [lt_ap]
    rw [nI_m4' (by omega), nI_add, nI_clamp (show 4 * k + i < 2 ^ 31 by omega), if_pos he]
  | succ m ih =>
    intro i f hr hi hf
    obtain ⟨f, rfl⟩ : ∃ g, f = g + 1 := ⟨f - 1, by omega⟩
    rw [HX7_bestOf_0_eq]
    simp only [lt_ap]
    rw [nI_m4' (by omega), nI_add, nI_clamp (show 4 * k + i < 2 ^ 31 by omega), if_neg (hn i (by omega)), nI_o1]
    exact ih (i + 1) f (by omega) (by omega) (by omega)
/-- both sides' best part is one, a node told ahead or none -/
theorem best_eq (hC : CR N words unsures slips throne said kind parts pn wt tw uw uo r told) (hS : StR N parts pn w o st) (hI : CI N unit kind parts pn wt ws steps below above) (hR : ROk r) (hW : ∀ k : Nat, k < N → kind k = 0 → 0 ≤ (w k).toInt ∧ (w k).toInt ≤ 99) {un : Int32} (hs : 1 ≤ un.toInt ∧ un.toInt ≤ 1296) (hG : ∀ j : Nat, j < N → G j = PX7_worthOf r told un (-1) st (nI j)) {k : Nat} (hk : k < N) : PX6_bestPart kind parts pn o G (nI k) = PX7_bestOf r told st un (-1) (nI k) ∧ (PX7_bestOf r told st un (-1) (nI k) = -2 ∨ ∃ j : Nat, j < k ∧ PX7_bestOf r told st un (-1) (nI k) = nI j) := by
  have hN := hI.1
  obtain ⟨q, hp, hD⟩ := hI.2.1 k hk
  have hq := hD.1
  have hkd := (hC.k hk).1
  have hm := many_q hC hk hp
  have e6 : PX6_bestPart kind parts pn o G (nI k) = if kind k = 0 then -2 else if kind k = 3 then -2 else HX6_bestPart_0 parts pn o G (nI k) (((2147483647 - (0 : Int32).toInt).toNat) + 1) 0 := by
    rw [PX6_bestPart_eq]
    simp only [lt_ap]
    rw [nI_clamp (by omega)]
  have e7 : PX7_bestOf r told st un (-1) (nI k) = if kind k = 1 then HX7_bestOf_0 r told st un (-1) (nI k) ((((r (27 + k)).toInt - (0 : Int32).toInt).toNat) + 1) 0 else if kind k = 2 then HX7_bestOf_0 r told st un (-1) (nI k) ((((r (27 + k)).toInt - (0 : Int32).toInt).toNat) + 1) 0 else -2 := by
    rw [PX7_bestOf_eq]
    simp only [lt_ap]
    rw [show (9 : Int32) + nI k = nI (9 + k) from nI_add 9 k, nI_clamp (show 9 + k < 2 ^ 31 by omega), nI_clamp (show k < 2 ^ 31 by omega), ← hkd]
  rw [e6, e7]
  by_cases h12 : kind k = 1 ∨ kind k = 2
  · obtain ⟨i0, i1, i2, i3⟩ := best_some hC hS hI hR hW hs hk hp hq h12
    have a := b6_loop (T := PX7_worthOf r told un (-1) st) hC hS hk hp hq (G := G) (fun i hi => by
      obtain ⟨s, s1, s2, s3⟩ := st_perm hS hk hp hD.1
      obtain ⟨j, j1, j2⟩ := hD.2.2.2.2.1 (s i) (s1 i hi)
      rw [s3 i hi, j2, nI_clamp (by omega)]
      exact hG j (by omega)) (hG k hk) i1 i2 i3 i0 0 (((2147483647 - (0 : Int32).toInt).toNat) + 1) rfl (by omega) (by rw [kc_0]; omega)
    have b := b7_loop (show k < 18 by omega) (show i0 < 4 by omega) i2 i3 i0 0 ((((r (27 + k)).toInt - (0 : Int32).toInt).toNat) + 1) rfl (by omega) (by rw [hm, nI_toInt (by omega), kc_0]; omega)
    rw [nI_0] at a b
    rw [a, b]
    have hst : ∃ j : Nat, j < k ∧ st (4 * k + i0) = nI j := by
      obtain ⟨s, s1, s2, s3⟩ := st_perm hS hk hp hD.1
      obtain ⟨j, j1, j2⟩ := hD.2.2.2.2.1 (s i0) (s1 i0 i1)
      exact ⟨j, j1, by rw [s3 i0 i1, j2]⟩
    rcases h12 with c | c
    · rw [c, if_neg (show ¬ (1 : Int32) = 0 by decide), if_neg (show ¬ (1 : Int32) = 3 by decide), if_pos rfl]
      exact ⟨rfl, Or.inr hst⟩
    · rw [c, if_neg (show ¬ (2 : Int32) = 0 by decide), if_neg (show ¬ (2 : Int32) = 3 by decide), if_neg (show ¬ (2 : Int32) = 1 by decide), if_pos rfl]
      exact ⟨rfl, Or.inr hst⟩
  · have h1 : ¬ kind k = 1 := fun e => h12 (Or.inl e)
    have h2 : ¬ kind k = 2 := fun e => h12 (Or.inr e)
    rw [if_neg h1, if_neg h2]
    refine ⟨?_, Or.inl rfl⟩
    rcases kd_of hC hR hk with c | c | c | c
    · rw [if_pos c]
    · exact absurd c h1
    · exact absurd c h2
    · rw [c, if_neg (show ¬ (3 : Int32) = 0 by decide), if_pos rfl]
end WQ
/-! the line of best parts -/
def lnX (B : Nat → Int32) : Nat → Int32 → Nat
  | 0, _ => 0
  | g + 1, x => if x < 0 then 0 else 1 + lnX B g (B x.toNatClampNeg)
def lnOk (B : Nat → Int32) (N : Nat) : Prop := ∀ k : Nat, k < N → B k = -2 ∨ ∃ j : Nat, j < k ∧ B k = nI j
theorem m2_neg : (-2 : Int32) < 0 := by decide
section LN
variable {B kind parts pn o G r told st : Nat → Int32} {N : Nat} {un : Int32}
theorem ln_m2 (g : Nat) : lnX B g (-2) = 0 := by
  cases g with
  | zero => rfl
  | succ g => rw [lnX, if_pos m2_neg]
theorem ln6 (hN : N ≤ 18) (hB : lnOk B N) (h6 : ∀ k : Nat, k < N → PX6_bestPart kind parts pn o G (nI k) = B k) : ∀ (g : Nat) (x : Int32) (i n f : Nat), (x = -2 ∨ ∃ j : Nat, j < N ∧ j + i < 18 ∧ j + 2 ≤ g ∧ x = nI j) → 18 - i < f → HX6_lineLength_0 kind parts pn o G f (nI i) x (nI n) = (nI (n + lnX B g x), G) := by
  have k18 : (18 : Int32).toInt = 18 := by decide
  intro g
  induction g with
  | zero =>
    intro x i n f hx hf
    rcases hx with rfl | ⟨j, h1, h2, h3, h4⟩
    · obtain ⟨f, rfl⟩ : ∃ g, f = g + 1 := ⟨f - 1, by omega⟩
      rw [HX6_lineLength_0_eq, ln_m2, if_pos m2_neg, Nat.add_zero]
      by_cases c : (18 : Int32) ≤ nI i
      · rw [if_pos c]
      · rw [if_neg c]
    · exact absurd h3 (by omega)
  | succ g ih =>
    intro x i n f hx hf
    obtain ⟨f, rfl⟩ : ∃ g, f = g + 1 := ⟨f - 1, by omega⟩
    rcases hx with rfl | ⟨j, h1, h2, h3, rfl⟩
    · rw [HX6_lineLength_0_eq, ln_m2, if_pos m2_neg, Nat.add_zero]
      by_cases c : (18 : Int32) ≤ nI i
      · rw [if_pos c]
      · rw [if_neg c]
    · rw [HX6_lineLength_0_eq, if_neg (show ¬ (18 : Int32) ≤ nI i by rw [fz_le, k18, nI_toInt (by omega)]; omega), if_neg (nI_pos (by omega))]
      simp only [lt_ap]
      rw [h6 j h1, nI_o1, nI_o1, lnX, if_neg (nI_pos (by omega)), nI_clamp (by omega), ← Nat.add_assoc]
      refine ih (B j) (i + 1) (n + 1) f ?_ (by omega)
      rcases hB j h1 with e | ⟨j', e1, e2⟩
      · exact Or.inl e
      · exact Or.inr ⟨j', by omega, by omega, by omega, e2⟩
theorem ln7 {t0 t1 : Int32} (hN : N ≤ 18) (hB : lnOk B N) (h7 : ∀ k : Nat, k < N → PX7_bestOf r told st un (-1) (nI k) = B k) : ∀ (g : Nat) (x : Int32) (n f : Nat), (x = -2 ∨ ∃ j : Nat, j < N ∧ j + 2 ≤ g ∧ j + 2 ≤ f ∧ x = nI j) → 1 ≤ f → HX7_line_0 r told st un (-1) t0 t1 f x (nI n) = (nI (n + lnX B g x), t0, t1) := by
  intro g
  induction g with
  | zero =>
    intro x n f hx hf
    rcases hx with rfl | ⟨j, h1, h3, h4, h5⟩
    · obtain ⟨f, rfl⟩ : ∃ g, f = g + 1 := ⟨f - 1, by omega⟩
      rw [HX7_line_0_eq, ln_m2, if_pos m2_neg, Nat.add_zero]
    · exact absurd h3 (by omega)
  | succ g ih =>
    intro x n f hx hf
    obtain ⟨f, rfl⟩ : ∃ g, f = g + 1 := ⟨f - 1, by omega⟩
    rcases hx with rfl | ⟨j, h1, h3, h4, rfl⟩
    · rw [HX7_line_0_eq, ln_m2, if_pos m2_neg, Nat.add_zero]
    · rw [HX7_line_0_eq, if_neg (nI_pos (by omega))]
      simp only [lt_ap]
      rw [h7 j h1, nI_o1, lnX, if_neg (nI_pos (by omega)), nI_clamp (by omega), ← Nat.add_assoc]
      refine ih (B j) (n + 1) f ?_ (by omega)
      rcases hB j h1 with e | ⟨j', e1, e2⟩
      · exact Or.inl e
      · exact Or.inr ⟨j', by omega, by omega, by omega, e2⟩
theorem ln_at {x6 t0 t1 : Int32} {P : Nat} (hP : P < 2 ^ 31) (hN : N ≤ 18) (hB : lnOk B N) (h6 : ∀ k : Nat, k < N → PX6_bestPart kind parts pn o G (nI k) = B k) (h7 : ∀ k : Nat, k < N → PX7_bestOf r told st un (-1) (nI k) = B k) : ∀ (g : Nat) (x : Int32) (n f6 f7 : Nat), (x = -2 ∨ ∃ j : Nat, j < N ∧ j + 2 ≤ g ∧ j + 2 ≤ f7 ∧ x = nI j) → n ≤ P → P - n < f6 → 1 ≤ f7 → (P - n < lnX B g x → ∃ y : Int32, HX6_lineAt_0 kind parts pn o (nI P) x6 G f6 (nI n) x = (y, x6, G) ∧ HX7_lineAt_0 r told st un (-1) (nI P) t0 t1 f7 x (nI n) = (y, t0, t1)) ∧ (lnX B g x ≤ P - n → HX7_lineAt_0 r told st un (-1) (nI P) t0 t1 f7 x (nI n) = (-1, t0, 1)) := by
  have out : ∀ (n f7 : Nat), 1 ≤ f7 → HX7_lineAt_0 r told st un (-1) (nI P) t0 t1 f7 (-2) (nI n) = (-1, t0, 1) := fun n f7 hf => by
    obtain ⟨f7, rfl⟩ : ∃ g, f7 = g + 1 := ⟨f7 - 1, by omega⟩
    rw [HX7_lineAt_0_eq, if_neg (show ¬ (0 : Int32) ≤ -2 by decide), if_pos m2_neg, no_eq, un2_eq rfl]
    by_cases c : nI P ≤ nI n
    · rw [if_pos c]
    · rw [if_neg c, if_neg (show ¬ (0 : Int32) ≤ -2 by decide)]
  intro g
  induction g with
  | zero =>
    intro x n f6 f7 hx hn h6' hf
    rcases hx with rfl | ⟨j, h1, h3, h4, h5⟩
    · exact ⟨fun h => absurd h (by rw [ln_m2]; omega), fun _ => out n f7 hf⟩
    · exact absurd h3 (by omega)
  | succ g ih =>
    intro x n f6 f7 hx hn h6' hf
    rcases hx with rfl | ⟨j, h1, h3, h4, rfl⟩
    · exact ⟨fun h => absurd h (by rw [ln_m2]; omega), fun _ => out n f7 hf⟩
    · obtain ⟨f6, rfl⟩ : ∃ g, f6 = g + 1 := ⟨f6 - 1, by omega⟩
      obtain ⟨f7, rfl⟩ : ∃ g, f7 = g + 1 := ⟨f7 - 1, by omega⟩
      have e : lnX B (g + 1) (nI j) = 1 + lnX B g (B j) := by rw [lnX, if_neg (nI_pos (by omega)), nI_clamp (by omega)]
      rw [e, HX6_lineAt_0_eq, HX7_lineAt_0_eq]
      by_cases c : P = n
      · subst c
        rw [if_pos (nI_le (Nat.le_refl _) hP), if_pos (nI_le (Nat.le_refl _) hP), if_pos (nI_pos' (by omega))]
        exact ⟨fun _ => ⟨_, rfl, rfl⟩, fun h => absurd h (by omega)⟩
      · rw [if_neg (show ¬ nI P ≤ nI n by rw [nI_leI (by omega) (by omega)]; omega), if_neg (show ¬ nI P ≤ nI n by rw [nI_leI (by omega) (by omega)]; omega), if_neg (nI_pos (by omega)), if_neg (nI_pos (by omega))]
        simp only [lt_ap]
        rw [h6 j h1, h7 j h1, nI_o1]
        have hx : B j = -2 ∨ ∃ j' : Nat, j' < N ∧ j' + 2 ≤ g ∧ j' + 2 ≤ f7 ∧ B j = nI j' := by
          rcases hB j h1 with e | ⟨j', e1, e2⟩
          · exact Or.inl e
          · exact Or.inr ⟨j', by omega, by omega, by omega, e2⟩
        obtain ⟨a, b⟩ := ih (B j) (n + 1) f6 f7 hx (by omega) (by omega) (by omega)
        exact ⟨fun h => a (by omega), fun h => b (by omega)⟩
end LN
end F6
end
section
/-! best, line, lineAt: on both sides -/
section F7
section FJ
variable {nodes words unsures slips throne said : Int32} {kind parts pn wt tw uw uo w o : Nat → Int32} {ic : Int32} {iw0 io0 iw1 io1 iw2 io2 : Nat → Int32} {ac : Int32} {an ao as : Nat → Int32} {hc : Int32} {r told st und kept : Nat → Int32} {undos images : Int32} {unit : Int32} {ws steps below above : Nat → Int32} {scale night : Int32}
theorem best_join (h : Rel nodes words unsures slips throne said kind parts pn wt tw uw uo w o ic iw0 io0 iw1 io1 iw2 io2 ac an ao as hc r told st und kept undos images) (hx : CIS nodes unit kind parts pn wt ws steps below above) (hs : PX7_layScale r = scale) (hM : ROk r ∧ RowOk r st ∧ RowOk r told ∧ WorOk st ∧ night.toInt = -1 ∧ 1 ≤ scale.toInt ∧ scale.toInt ≤ 1296) {lv lv' : Nat → Int32} {p0 : Int32} {q6 q7 : Int32} {rf t1 t2 : Int32} (e6 : PX6_best nodes throne unit kind parts pn wt ws w o lv p0 = (q6, rf, lv')) (e7 : PX7_best hc r told st scale night p0 = (q7, t1, t2)) : q6 = q7 ∧ rf = t2 := by
  obtain ⟨hR, hQ, hQt, hW, hnt, hsc⟩ := hM
  obtain rfl : night = -1 := (fz_eq _ _).mpr (hnt.trans (by decide))
  have key : ∃ (q : Int32) (f t : Int32) (v : Nat → Int32), PX6_best nodes throne unit kind parts pn wt ws w o lv p0 = (q, f, v) ∧ PX7_best hc r told st scale (-1) p0 = (q, t, f) := by
    rcases h with ⟨rfl, h0⟩ | ⟨N, c, d, rfl, rfl, rfl, rfl, hc, rfl, rfl, hd, hC, hS, hU, hI⟩
    · obtain ⟨h2, h3, h4, h5, h6, h7, rfl, h8, h9⟩ := h0
      refine ⟨-1, 1, 0, lv, ?_, ?_⟩
      · rw [PX6_best_eq, PX6_lacksNode_eq]
        simp only [lt_ap]
        rw [hn_0, if_neg (show ¬ (0 : Int32) = 1 by decide), un2_eq rfl, if_neg (show ¬ (1 : Int32) = 0 by decide)]
      · rw [PX7_best_eq, PX7_good_eq, un2_eq rfl]
        simp only [lt_ap]
        rw [rn_0, if_neg (show ¬ (0 : Int32) = 1 by decide), no_eq, un2_eq rfl]
    · obtain ⟨hN0, hN, hr⟩ := hC.N
      obtain ⟨M, hM, hX⟩ := hx
      obtain rfl : N = M := (nI_eq (by omega) (by have := hX.1; omega)).mp hM
      obtain rfl : unit = scale := (ls_eq hC hX).symm.trans hs
      by_cases hn : 0 ≤ p0.toInt ∧ p0.toInt < (N : Int)
      · obtain ⟨k, hk, rfl⟩ := nd_of hN hn
        obtain ⟨G', e, hG⟩ := weigh_eq hC hS hX hR (w_in hC hS hW) hsc lv
        have hb := (best_eq hC hS hX hR (w_in hC hS hW) hsc hG hk).1
        refine ⟨PX7_bestOf r told st unit (-1) (nI k), 0, 0, G', ?_, ?_⟩
        · rw [PX6_best_eq, PX6_lacksNode_eq]
          simp only [lt_ap]
          rw [hn_eq hN, if_pos hn, if_pos rfl, un2_eq rfl, if_pos rfl, un2_eq e, hb]
        · rw [PX7_best_eq, PX7_good_eq, un2_eq rfl]
          simp only [lt_ap]
          rw [rn_eq hN0 hN hr, if_pos hn, if_pos rfl]
      · refine ⟨-1, 1, 0, lv, ?_, ?_⟩
        · rw [PX6_best_eq, PX6_lacksNode_eq]
          simp only [lt_ap]
          rw [hn_eq hN, if_neg hn, if_neg (show ¬ (0 : Int32) = 1 by decide), un2_eq rfl, if_neg (show ¬ (1 : Int32) = 0 by decide)]
        · rw [PX7_best_eq, PX7_good_eq, un2_eq rfl]
          simp only [lt_ap]
          rw [rn_eq hN0 hN hr, if_neg hn, if_neg (show ¬ (0 : Int32) = 1 by decide), no_eq, un2_eq rfl]
  obtain ⟨q, f, t, v, g6, g7⟩ := key
  have x := g6.symm.trans e6
  have y := g7.symm.trans e7
  simp only [Prod.mk.injEq] at x y
  obtain ⟨rfl, rfl, -⟩ := x
  obtain ⟨rfl, -, rfl⟩ := y
  exact ⟨rfl, rfl⟩
/-- the line's length, on both sides; each of its nodes -/
theorem line_both {N : Nat} (hC : CR N words unsures slips throne said kind parts pn wt tw uw uo r told) (hS : StR N parts pn w o st) (hX : CI N unit kind parts pn wt ws steps below above) (hR : ROk r) (hW : WorOk st) (hsc : 1 ≤ unit.toInt ∧ unit.toInt ≤ 1296) (lv : Nat → Int32) : ∃ (G : Nat → Int32) (B : Nat → Int32) (t : Nat), t < N ∧ throne = nI t ∧ r 6 = nI t ∧ lnOk B N ∧ (∀ k : Nat, k < N → PX6_bestPart kind parts pn o G (nI k) = B k) ∧ (∀ k : Nat, k < N → PX7_bestOf r told st unit (-1) (nI k) = B k) ∧ PX6_lineLength (nI N) throne unit kind parts pn wt ws w o lv = (nI (1 + lnX B 20 (B t)), G) := by
  have hN := hX.1
  obtain ⟨G, e, hG⟩ := weigh_eq hC hS hX hR (w_in hC hS hW) hsc lv
  have hth : r 6 = throne := hC.2.2.2.2.2.2.1
  have ht := hC.2.2.2.2.2.2.2.2.1
  obtain ⟨t, t1, t2⟩ := nd_of hN ht
  have h6 : ∀ k : Nat, k < N → PX6_bestPart kind parts pn o G (nI k) = PX7_bestOf r told st unit (-1) (nI k) := fun k hk => (best_eq hC hS hX hR (w_in hC hS hW) hsc hG hk).1
  have hB : lnOk (fun k => PX7_bestOf r told st unit (-1) (nI k)) N := fun k hk => (best_eq hC hS hX hR (w_in hC hS hW) hsc hG hk).2
  refine ⟨G, fun k => PX7_bestOf r told st unit (-1) (nI k), t, t1, t2, hth.trans t2, hB, h6, fun k hk => rfl, ?_⟩
  have hx : PX7_bestOf r told st unit (-1) (nI t) = -2 ∨ ∃ j : Nat, j < N ∧ j + 0 < 18 ∧ j + 2 ≤ 20 ∧ PX7_bestOf r told st unit (-1) (nI t) = nI j := by
    rcases hB t t1 with q | ⟨j, q1, q2⟩
    · exact Or.inl q
    · exact Or.inr ⟨j, by omega, by omega, by omega, q2⟩
  have e2 := ln6 (G := G) (kind := kind) (parts := parts) (pn := pn) (o := o) hN hB h6 20 (PX7_bestOf r told st unit (-1) (nI t)) 0 1 (((18 - (0 : Int32).toInt).toNat) + 1) hx (by rw [kc_0]; omega)
  rw [nI_0] at e2
  rw [PX6_lineLength_eq, un2_eq e]
  simp only [lt_ap]
  rw [t2, h6 t t1]
  exact e2
theorem line_join (h : Rel nodes words unsures slips throne said kind parts pn wt tw uw uo w o ic iw0 io0 iw1 io1 iw2 io2 ac an ao as hc r told st und kept undos images) (hx : CIS nodes unit kind parts pn wt ws steps below above) (hs : PX7_layScale r = scale) (hM : ROk r ∧ RowOk r st ∧ RowOk r told ∧ WorOk st ∧ night.toInt = -1 ∧ 1 ≤ scale.toInt ∧ scale.toInt ≤ 1296) {lv lv' : Nat → Int32} {q6 q7 : Int32} {rf t1 t2 : Int32} (e6 : PX6_line nodes throne unit kind parts pn wt ws w o lv = (q6, rf, lv')) (e7 : PX7_line hc r told st scale night = (q7, t1, t2)) : q6 = q7 ∧ rf = t2 := by
  obtain ⟨hR, hQ, hQt, hW, hnt, hsc⟩ := hM
  obtain rfl : night = -1 := (fz_eq _ _).mpr (hnt.trans (by decide))
  have key : ∃ (q : Int32) (f t : Int32) (v : Nat → Int32), PX6_line nodes throne unit kind parts pn wt ws w o lv = (q, f, v) ∧ PX7_line hc r told st scale (-1) = (q, t, f) := by
    rcases h with ⟨rfl, h0⟩ | ⟨N, c, d, rfl, rfl, rfl, rfl, hc, rfl, rfl, hd, hC, hS, hU, hI⟩
    · obtain ⟨h2, h3, h4, h5, h6, h7, rfl, h8, h9⟩ := h0
      refine ⟨-1, 1, 0, lv, ?_, ?_⟩
      · rw [PX6_line_eq, lc_0, un2_eq rfl, if_neg (show ¬ (1 : Int32) = 0 by decide)]
      · rw [PX7_line_eq, PX7_good_eq, un2_eq rfl, if_pos rfl, no_eq, un2_eq rfl]
    · obtain ⟨hN0, hN, hr⟩ := hC.N
      obtain ⟨M, hM, hX⟩ := hx
      obtain rfl : N = M := (nI_eq (by omega) (by have := hX.1; omega)).mp hM
      obtain rfl : unit = scale := (ls_eq hC hX).symm.trans hs
      obtain ⟨G, B, t, q1, q2, q3, q4, q5, q6, q7⟩ := line_both hC hS hX hR hW hsc lv
      refine ⟨nI (1 + lnX B 20 (B t)), 0, 0, G, ?_, ?_⟩
      · rw [PX6_line_eq, lc_N hN0 hN, un2_eq rfl, if_pos rfl, un2_eq q7]
      · rw [PX7_line_eq, PX7_good_eq, un2_eq rfl, if_neg (show ¬ (1 : Int32) = 0 by decide)]
        simp only [lt_ap]
        rw [six_cl, q3, q6 t q1]
        have hxx : B t = -2 ∨ ∃ j : Nat, j < N ∧ j + 2 ≤ 20 ∧ j + 2 ≤ ((B t).toInt + 3).toNat + 1 ∧ B t = nI j := by
          rcases q4 t q1 with q | ⟨j, a, b⟩
          · exact Or.inl q
          · exact Or.inr ⟨j, by omega, by omega, by rw [b, nI_toInt (by omega)]; omega, b⟩
        have e2 := ln7 (t0 := 0) (t1 := 0) hN q4 q6 20 (B t) 1 ((((B t).toInt + 3).toNat) + 1) hxx (by omega)
        exact e2
  obtain ⟨q, f, t, v, g6, g7⟩ := key
  have x := g6.symm.trans e6
  have y := g7.symm.trans e7
  simp only [Prod.mk.injEq] at x y
  obtain ⟨rfl, rfl, -⟩ := x
  obtain ⟨rfl, -, rfl⟩ := y
  exact ⟨rfl, rfl⟩
theorem lineAt_join (h : Rel nodes words unsures slips throne said kind parts pn wt tw uw uo w o ic iw0 io0 iw1 io1 iw2 io2 ac an ao as hc r told st und kept undos images) (hx : CIS nodes unit kind parts pn wt ws steps below above) (hs : PX7_layScale r = scale) (hM : ROk r ∧ RowOk r st ∧ RowOk r told ∧ WorOk st ∧ night.toInt = -1 ∧ 1 ≤ scale.toInt ∧ scale.toInt ≤ 1296) {lv lv' : Nat → Int32} {p0 q6 q7 : Int32} {rf t1 t2 : Int32} (e6 : PX6_lineAt nodes throne unit kind parts pn wt ws w o lv p0 = (q6, rf, lv')) (e7 : PX7_lineAt hc r told st scale night p0 = (q7, t1, t2)) : q6 = q7 ∧ rf = t2 := by
  obtain ⟨hR, hQ, hQt, hW, hnt, hsc⟩ := hM
  obtain rfl : night = -1 := (fz_eq _ _).mpr (hnt.trans (by decide))
  have key : ∃ (q : Int32) (f t : Int32) (v : Nat → Int32), PX6_lineAt nodes throne unit kind parts pn wt ws w o lv p0 = (q, f, v) ∧ PX7_lineAt hc r told st scale (-1) p0 = (q, t, f) := by
    have hrf : ∀ q : Int32, PX6_refuse q = (-1, q) := fun q => PX6_refuse_eq q
    rcases h with ⟨rfl, h0⟩ | ⟨N, c, d, rfl, rfl, rfl, rfl, hc, rfl, rfl, hd, hC, hS, hU, hI⟩
    · obtain ⟨h2, h3, h4, h5, h6, h7, rfl, h8, h9⟩ := h0
      refine ⟨-1, 1, 0, lv, ?_, ?_⟩
      · rw [PX6_lineAt_eq, lc_0, un2_eq rfl, if_neg (show ¬ (1 : Int32) = 0 by decide)]
      · rw [PX7_lineAt_eq, PX7_good_eq, un2_eq rfl, if_pos rfl, no_eq, un2_eq rfl]
    · obtain ⟨hN0, hN, hr⟩ := hC.N
      obtain ⟨M, hM, hX⟩ := hx
      obtain rfl : N = M := (nI_eq (by omega) (by have := hX.1; omega)).mp hM
      obtain rfl : unit = scale := (ls_eq hC hX).symm.trans hs
      obtain ⟨G, B, t, q1, q2, q3, q4, q5, q6, q7⟩ := line_both hC hS hX hR hW hsc lv
      by_cases hp : p0 < 0
      · refine ⟨-1, 1, 0, lv, ?_, ?_⟩
        · rw [PX6_lineAt_eq, lc_N hN0 hN, un2_eq rfl, if_pos rfl, if_pos hp, hrf, un2_eq rfl]
        · rw [PX7_lineAt_eq, PX7_good_eq, un2_eq rfl, if_neg (show ¬ (1 : Int32) = 0 by decide), if_neg (fun q => by rw [fz_le] at q; rw [fz_lt] at hp; omega), no_eq, un2_eq rfl]
      · obtain ⟨P, hP, rfl⟩ := nI_of hp
        have hxx : nI t = -2 ∨ ∃ j : Nat, j < N ∧ j + 2 ≤ 21 ∧ j + 2 ≤ ((nI t).toInt + 3).toNat + 1 ∧ nI t = nI j := Or.inr ⟨t, q1, by omega, by rw [nI_toInt (by omega)]; omega, rfl⟩
        obtain ⟨a, b⟩ := ln_at (G := G) (x6 := 0) (t0 := 0) (t1 := 0) hP hN q4 q5 q6 21 (nI t) 0 (((2147483647 - (0 : Int32).toInt).toNat) + 1) ((((nI t).toInt + 3).toNat) + 1) hxx (by omega) (by rw [kc_0]; omega) (by omega)
        have eL : lnX B 21 (nI t) = 1 + lnX B 20 (B t) := by rw [lnX, if_neg (nI_pos (by omega)), nI_clamp (by omega)]
        rw [eL, Nat.sub_zero, nI_0] at a b
        have hL : ∀ (g : Nat) (x : Int32), lnX B g x ≤ g := fun g => by
          induction g with
          | zero => intro x; exact Nat.le_refl _
          | succ g ih =>
            intro x
            rw [lnX]
            by_cases c : x < 0
            · rw [if_pos c]; omega
            · rw [if_neg c]; have := ih (B x.toNatClampNeg); omega
        have hl := hL 20 (B t)
        have e7 : PX7_lineAt 1 r told st unit (-1) (nI P) = HX7_lineAt_0 r told st unit (-1) (nI P) 0 0 ((((nI t).toInt + 3).toNat) + 1) (nI t) 0 := by
          rw [PX7_lineAt_eq, PX7_good_eq, un2_eq rfl, if_neg (show ¬ (1 : Int32) = 0 by decide), if_pos (nI_pos' hP)]
          simp only [lt_ap]
          rw [six_cl, q3]
        by_cases cP : P < 1 + lnX B 20 (B t)
        · obtain ⟨y, y6, y7⟩ := a cP
          refine ⟨y, 0, 0, G, ?_, by rw [e7]; exact y7⟩
          rw [PX6_lineAt_eq, lc_N hN0 hN, un2_eq rfl, if_pos rfl, if_neg (nI_pos hP), un2_eq q7, if_pos (nI_lt cP (by omega)), q2]
          exact y6
        · refine ⟨-1, 1, 0, G, ?_, by rw [e7]; exact b (by omega)⟩
          rw [PX6_lineAt_eq, lc_N hN0 hN, un2_eq rfl, if_pos rfl, if_neg (nI_pos hP), un2_eq q7, if_neg (nI_nlt (by omega) hP), hrf, un2_eq rfl]
  obtain ⟨q, f, t, v, g6, g7⟩ := key
  have x := g6.symm.trans e6
  have y := g7.symm.trans e7
  simp only [Prod.mk.injEq] at x y
  obtain ⟨rfl, rfl, -⟩ := x
  obtain ⟨rfl, -, rfl⟩ := y
  exact ⟨rfl, rfl⟩
end FJ
end F7
end
