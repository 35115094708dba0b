section
/-! worth of a node: on both sides -/
section F5
section FJ
variable {nodes words unsures slips throne said : Int32} {kind parts pn wt tw uw uo w o : Nat → Int32} {ic : Int32} {iw0 io0 iw1 io1 iw2 io2 : Nat → Int32} {ac : Int32} {an ao as : Nat → Int32} {hc : Int32} {r told st und kept : Nat → Int32} {undos images : Int32} {unit : Int32} {ws steps below above : Nat → Int32} {scale night : Int32}
/-- the words' worths are bounded -/
theorem w_in {N : Nat} (hC : CR N words unsures slips throne said kind parts pn wt tw uw uo r told) (hS : StR N parts pn w o st) (hW : WorOk st) : ∀ k : Nat, k < N → kind k = 0 → 0 ≤ (w k).toInt ∧ (w k).toInt ≤ 99 := fun k hk _ => by
  have hN := hC.N.2.1
  rw [(hS k hk).1]
  exact hW (72 + k) (by omega) (by omega)
theorem lN_no : (-1 : Int32).toInt64 = -1 := by decide
theorem worth_join (h : Rel nodes words unsures slips throne said kind parts pn wt tw uw uo w o ic iw0 io0 iw1 io1 iw2 io2 ac an ao as hc r told st und kept undos images) (hx : CIS nodes unit kind parts pn wt ws steps below above) (hs : PX7_layScale r = scale) (hM : ROk r ∧ RowOk r st ∧ RowOk r told ∧ WorOk st ∧ night.toInt = -1 ∧ 1 ≤ scale.toInt ∧ scale.toInt ≤ 1296) {lv lv' : Nat → Int32} {p0 p1 : Int32} {q6 q7 : Int64} {rf t1 t2 : Int32} (e6 : PX6_worth nodes throne unit kind parts pn wt ws w lv p0 p1 = (q6, rf, lv')) (e7 : PX7_worth hc r told st scale night p0 p1 = (q7, t1, t2)) : q6 = q7 ∧ rf = t2 := by
  obtain ⟨hR, hQ, hQt, hW, hnt, hsc⟩ := hM
  obtain rfl : night = -1 := (fz_eq _ _).mpr (hnt.trans (by decide))
  have key : ∃ (q : Int64) (f t : Int32) (v : Nat → Int32), PX6_worth nodes throne unit kind parts pn wt ws w lv p0 p1 = (q, f, v) ∧ PX7_worth hc r told st scale (-1) p0 p1 = (q, t, f) := by
    rcases h with ⟨rfl, h0⟩ | ⟨N, c, d, rfl, rfl, rfl, rfl, hc, rfl, rfl, hd, hC, hS, hU, hI⟩
    · obtain ⟨h2, h3, h4, h5, h6, h7, rfl, h8, h9⟩ := h0
      refine ⟨-1, 1, 0, lv, ?_, ?_⟩
      · rw [PX6_worth_eq, PX6_lacksNode_eq]
        simp only [lt_ap]
        rw [hn_0, if_neg (show ¬ (0 : Int32) = 1 by decide), un2_eq rfl, if_neg (show ¬ (1 : Int32) = 0 by decide)]
      · rw [PX7_worth_eq, PX7_good_eq, un2_eq rfl]
        simp only [lt_ap]
        rw [rn_0, if_neg (show ¬ (0 : Int32) = 1 by decide), no_eq, un2_eq rfl, lN_no]
    · obtain ⟨hN0, hN, hr⟩ := hC.N
      obtain ⟨M, hM, hX⟩ := hx
      obtain rfl : N = M := (nI_eq (by omega) (by have := hX.1; omega)).mp hM
      obtain rfl : unit = scale := (ls_eq hC hX).symm.trans hs
      by_cases hn : 0 ≤ p0.toInt ∧ p0.toInt < (N : Int)
      · obtain ⟨k, hk, rfl⟩ := nd_of hN hn
        obtain ⟨G', e, hG⟩ := weigh_eq hC hS hX hR (w_in hC hS hW) hsc lv
        have hv := hG k hk
        have hb := wa_in hC hS hX hR (w_in hC hS hW) hsc k 18 0 (by omega) hk (nt := -1)
        have hb : 0 ≤ (PX7_worthOf r told unit (-1) st (nI k)).toInt := by
          rw [PX7_worthOf_eq, lt_ap]
          exact hb.1
        refine ⟨PX7_lowest (PX7_worthOf r told unit (-1) st (nI k)).toInt64 unit.toInt64 p1, 0, 0, G', ?_, ?_⟩
        · rw [PX6_worth_eq, PX6_lacksNode_eq]
          simp only [lt_ap]
          rw [hn_eq hN, if_pos hn, if_pos rfl, un2_eq rfl, if_pos rfl, un2_eq e, nI_clamp (by omega), hv, lowest_eq (by rw [Int32.toInt_toInt64]; exact hb) (by rw [Int32.toInt_toInt64]; exact hsc.1)]
        · rw [PX7_worth_eq, PX7_good_eq, un2_eq rfl]
          simp only [lt_ap]
          rw [rn_eq hN0 hN hr, if_pos hn, if_pos rfl]
      · refine ⟨-1, 1, 0, lv, ?_, ?_⟩
        · rw [PX6_worth_eq, PX6_lacksNode_eq]
          simp only [lt_ap]
          rw [hn_eq hN, if_neg hn, if_neg (show ¬ (0 : Int32) = 1 by decide), un2_eq rfl, if_neg (show ¬ (1 : Int32) = 0 by decide)]
        · rw [PX7_worth_eq, PX7_good_eq, un2_eq rfl]
          simp only [lt_ap]
          rw [rn_eq hN0 hN hr, if_neg hn, if_neg (show ¬ (0 : Int32) = 1 by decide), no_eq, un2_eq rfl, lN_no]
  obtain ⟨q, f, t, v, g6, g7⟩ := key
  have x := g6.symm.trans e6
  have y := g7.symm.trans e7
  simp only [Prod.mk.injEq] at x y
  obtain ⟨rfl, rfl, -⟩ := x
  obtain ⟨rfl, -, rfl⟩ := y
  exact ⟨rfl, rfl⟩
end FJ
end F5
end
section
/-! best parts, the line: on both sides -/
section F6
theorem least_of {P : Nat → Prop} : ∀ q : Nat, (∃ j : Nat, j < q ∧ P j) → ∃ i : Nat, i < q ∧ P i ∧ ∀ j : Nat, j < i → ¬ P j
  | 0, h => by
    obtain ⟨j, h1, -⟩ := h
    exact absurd h1 (by omega)
  | q + 1, h => by
    by_cases c : ∃ j : Nat, j < q ∧ P j
    · obtain ⟨i, h1, h2⟩ := least_of q c
      exact ⟨i, by omega, h2⟩
    · obtain ⟨j, h1, h2⟩ := h
      refine ⟨j, h1, h2, fun i hi hp => c ⟨i, by omega, hp⟩⟩
theorem pfM_ex {v : Nat → Int32} : ∀ m : Nat, (∀ i : Nat, i < m → -100000000 < (v i).toInt) → 1 ≤ m → ∃ i : Nat, i < m ∧ v i = pf opM (-100000000) v m
  | 0, _, h => absurd h (by omega)
  | m + 1, h, _ => by
    have b := h m (by omega)
    have e : pf opM (-100000000) v (m + 1) = if v m ≤ pf opM (-100000000) v m then pf opM (-100000000) v m else v m := rfl
    rw [e]
    by_cases c : v m ≤ pf opM (-100000000) v m
    · rw [if_pos c]
      by_cases h0 : m = 0
      · subst h0
        have c : v 0 ≤ (-100000000 : Int32) := c
        rw [fz_le, k_lo] at c
        omega
      · obtain ⟨i, h1, h2⟩ := pfM_ex m (fun i hi => h i (by omega)) (by omega)
        exact ⟨i, by omega, h2⟩
    · rw [if_neg c]
      exact ⟨m, by omega, rfl⟩
theorem pfN_ex {v : Nat → Int32} : ∀ m : Nat, (∀ i : Nat, i < m → (v i).toInt < 100000000) → 1 ≤ m → ∃ i : Nat, i < m ∧ v i = pf opN 100000000 v m
  | 0, _, h => absurd h (by omega)
  | m + 1, h, _ => by
    have b := h m (by omega)
    have e : pf opN 100000000 v (m + 1) = if pf opN 100000000 v m ≤ v m then pf opN 100000000 v m else v m := rfl
    rw [e]
    by_cases c : pf opN 100000000 v m ≤ v m
    · rw [if_pos c]
      by_cases h0 : m = 0
      · subst h0
        have c : (100000000 : Int32) ≤ v 0 := c
        rw [fz_le, k_hi] at c
        omega
      · obtain ⟨i, h1, h2⟩ := pfN_ex m (fun i hi => h i (by omega)) (by omega)
        exact ⟨i, by omega, h2⟩
    · rw [if_neg c]
      exact ⟨m, by omega, rfl⟩
section WQ
variable {N : Nat} {words unsures slips throne said unit : Int32} {kind parts pn wt tw uw uo r told w o st ws steps below above G : Nat → Int32}
theorem part_at (hC : CR N words unsures slips throne said kind parts pn wt tw uw uo r told) (hS : StR N parts pn w o st) {k q i : Nat} (hk : k < N) (hp : parts k = nI q) (hq : q ≤ 4) (hi : i < q) : PX5_partAt o pn (nI k) (nI i) = st (4 * k + i) := by
  have hN := hC.N.2.1
  obtain ⟨s1, s2, s3⟩ := (hS k hk).2.1 i (by rw [hp, nI_toInt (by omega)]; omega)
  rw [hp, nI_toInt (by omega)] at s2
  rw [pt_eq (by omega) (by omega) s1 (by omega), s3]
/-- a king's, a queen's worth is a part's -/
theorem best_some (hC : CR N words unsures slips throne said kind parts pn wt tw uw uo r told) (hS : StR N parts pn w o st) (hI : CI N unit kind parts pn wt ws steps below above) (hR : ROk r) (hW : ∀ k : Nat, k < N → kind k = 0 → 0 ≤ (w k).toInt ∧ (w k).toInt ≤ 99) {un : Int32} (hs : 1 ≤ un.toInt ∧ un.toInt ≤ 1296) {k q : Nat} (hk : k < N) (hp : parts k = nI q) (hq4 : q ≤ 4) (h12 : kind k = 1 ∨ kind k = 2) : ∃ i : Nat, i < q ∧ PX7_worthOf r told un (-1) st (st (4 * k + i)) = PX7_worthOf r told un (-1) st (nI k) ∧ ∀ j : Nat, j < i → ¬ PX7_worthOf r told un (-1) st (st (4 * k + j)) = PX7_worthOf r told un (-1) st (nI k) := by
  have hN := hI.1
  obtain ⟨q', hp', hD⟩ := hI.2.1 k hk
  obtain rfl : q = q' := (nI_eq (by omega) (by have := hD.1; omega)).mp (hp.symm.trans hp')
  have h0 : ¬ kind k = 0 := fun e => by rcases h12 with c | c <;> · rw [c] at e; exact absurd e (by decide)
  have hq1 := q1_of hC hR hk hp hD.1 h0
  refine least_of q ?_
  have e0 : ∀ p : Int32, PX7_worthOf r told un (-1) st p = PX7_worthAt 18 (-1) r told un st p (nI 0) := fun p => by rw [PX7_worthOf_eq, lt_ap, nI_0]
  obtain ⟨s, s1, s2, s3⟩ := st_perm hS hk hp hD.1
  have hv : ∀ i : Nat, i < q → PX7_worthAt 17 (-1) r told un st (pn (4 * k + i)) (nI (0 + 1)) = PX7_worthOf r told un (-1) st (pn (4 * k + i)) := fun i hi => by
    obtain ⟨j, j1, j2⟩ := hD.2.2.2.2.1 i hi
    rw [j2, e0]
    exact wa_any hC hS hI hR j 17 18 1 0 (by omega) (by omega) (by omega) (by omega) (by omega)
  have hb : ∀ i : Nat, i < q → 0 ≤ (PX7_worthAt 17 (-1) r told un st (pn (4 * k + i)) (nI (0 + 1))).toInt ∧ (PX7_worthAt 17 (-1) r told un st (pn (4 * k + i)) (nI (0 + 1))).toInt ≤ 128304 := fun i hi => by
    obtain ⟨j, j1, j2⟩ := hD.2.2.2.2.1 i hi
    rw [j2]
    exact wa_in hC hS hI hR hW hs j 17 (0 + 1) (by omega) (by omega)
  have hstep : PX7_worthOf r told un (-1) st (nI k) = Jv (kind k) (ws k) wt (fun i => PX7_worthAt 17 (-1) r told un st (pn (4 * k + i)) (nI (0 + 1))) k q := by
    rw [e0, show (18 : Nat) = 17 + 1 from rfl, wa_step hC hS hR hk hp hD, if_neg h0, if_neg (nIm1 (show 0 < 2 ^ 31 by omega))]
  have fin : ∀ i : Nat, i < q → PX7_worthAt 17 (-1) r told un st (pn (4 * k + s i)) (nI (0 + 1)) = PX7_worthOf r told un (-1) st (nI k) → ∃ j : Nat, j < q ∧ PX7_worthOf r told un (-1) st (st (4 * k + j)) = PX7_worthOf r told un (-1) st (nI k) := fun i hi e => ⟨i, hi, by rw [s3 i hi, ← hv (s i) (s1 i hi)]; exact e⟩
  rw [← Jv_perm (v := fun i => PX7_worthAt 17 (-1) r told un st (pn (4 * k + i)) (nI (0 + 1))) (wt := wt) s1 s2] at hstep
  rcases h12 with c | c
  · rw [c, if_neg (show ¬ (1 : Int32) = 3 by decide), if_pos rfl] at hstep
    obtain ⟨i, hi, e⟩ := pfM_ex (v := fun i => PX7_worthAt 17 (-1) r told un st (pn (4 * k + s i)) (nI (0 + 1))) q (fun i hi => by
      have := hb (s i) (s1 i hi)
      show -100000000 < (PX7_worthAt 17 (-1) r told un st (pn (4 * k + s i)) (nI (0 + 1))).toInt
      omega) hq1
    exact fin i hi (e.trans hstep.symm)
  · rw [c, if_neg (show ¬ (2 : Int32) = 3 by decide), if_neg (show ¬ (2 : Int32) = 1 by decide)] at hstep
    obtain ⟨i, hi, e⟩ := pfN_ex (v := fun i => PX7_worthAt 17 (-1) r told un st (pn (4 * k + s i)) (nI (0 + 1))) q (fun i hi => by
      have := hb (s i) (s1 i hi)
      show (PX7_worthAt 17 (-1) r told un st (pn (4 * k + s i)) (nI (0 + 1))).toInt < 100000000
      omega) hq1
    exact fin i hi (e.trans hstep.symm)
theorem b6_loop (hC : CR N words unsures slips throne said kind parts pn wt tw uw uo r told) (hS : StR N parts pn w o st) {k q i0 : Nat} {T : Int32 → Int32} (hk : k < N) (hp : parts k = nI q) (hq : q ≤ 4) (hG : ∀ i : Nat, i < q → G (st (4 * k + i)).toNatClampNeg = T (st (4 * k + i))) (hGk : G k = T (nI k)) (hi0 : i0 < q) (he : T (st (4 * k + i0)) = T (nI k)) (hn : ∀ j : Nat, j < i0 → ¬ T (st (4 * k + j)) = T (nI k)) : ∀ (m i f : Nat), i0 - i = m → i ≤ i0 → m < f → HX6_bestPart_0 parts pn o G (nI k) f (nI i) = st (4 * k + i0) := by
  have hN := hC.N.2.1
  intro m
  induction m with
  | zero =>
    intro i f hr hi hf
    obtain ⟨f, rfl⟩ : ∃ g, f = g + 1 := ⟨f - 1, by omega⟩
    obtain rfl : i = i0 := by omega
    rw [HX6_bestPart_0_eq]
    simp only [lt_ap]
    rw [nI_clamp (by omega), hp, if_neg (by rw [nI_leI (by omega) (by omega)]; omega), part_at hC hS hk hp hq hi0, hG i hi0, hGk, if_pos he]
  | succ m ih =>
    intro i f hr hi hf
    obtain ⟨f, rfl⟩ : ∃ g, f = g + 1 := ⟨f - 1, by omega⟩
    rw [HX6_bestPart_0_eq]
    simp only [lt_ap]
    rw [nI_clamp (by omega), hp, if_neg (by rw [nI_leI (by omega) (by omega)]; omega), part_at hC hS hk hp hq (by omega), hG i (by omega), hGk, if_neg (hn i (by omega)), nI_o1]
    exact ih (i + 1) f (by omega) (by omega) (by omega)
theorem b7_loop {un : Int32} {k i0 : Nat} (hk : k < 18) (hi0 : i0 < 4) (he : PX7_worthOf r told un (-1) st (st (4 * k + i0)) = PX7_worthOf r told un (-1) st (nI k)) (hn : ∀ j : Nat, j < i0 → ¬ PX7_worthOf r told un (-1) st (st (4 * k + j)) = PX7_worthOf r told un (-1) st (nI k)) : ∀ (m i f : Nat), i0 - i = m → i ≤ i0 → m < f → HX7_bestOf_0 r told st un (-1) (nI k) f (nI i) = st (4 * k + i0) := by
  intro m
  induction m with
  | zero =>
    intro i f hr hi hf
    obtain ⟨f, rfl⟩ : ∃ g, f = g + 1 := ⟨f - 1, by omega⟩
    obtain rfl : i = i0 := by omega
    rw [HX7_bestOf_0_eq]
    simp only [lt_ap]
    rw [nI_m4' (by omega), nI_add, nI_clamp (show 4 * k + i < 2 ^ 31 by omega), if_pos he]
  | succ m ih =>
    intro i f hr hi hf
    obtain ⟨f, rfl⟩ : ∃ g, f = g + 1 := ⟨f - 1, by omega⟩
    rw [HX7_bestOf_0_eq]
    simp only [lt_ap]
    rw [nI_m4' (by omega), nI_add, nI_clamp (show 4 * k + i < 2 ^ 31 by omega), if_neg (hn i (by omega)), nI_o1]
    exact ih (i + 1) f (by omega) (by omega) (by omega)
/-- both sides' best part is one, a node told ahead or none -/
theorem best_eq (hC : CR N words unsures slips throne said kind parts pn wt tw uw uo r told) (hS : StR N parts pn w o st) (hI : CI N unit kind parts pn wt ws steps below above) (hR : ROk r) (hW : ∀ k : Nat, k < N → kind k = 0 → 0 ≤ (w k).toInt ∧ (w k).toInt ≤ 99) {un : Int32} (hs : 1 ≤ un.toInt ∧ un.toInt ≤ 1296) (hG : ∀ j : Nat, j < N → G j = PX7_worthOf r told un (-1) st (nI j)) {k : Nat} (hk : k < N) : PX6_bestPart kind parts pn o G (nI k) = PX7_bestOf r told st un (-1) (nI k) ∧ (PX7_bestOf r told st un (-1) (nI k) = -2 ∨ ∃ j : Nat, j < k ∧ PX7_bestOf r told st un (-1) (nI k) = nI j) := by
  have hN := hI.1
  obtain ⟨q, hp, hD⟩ := hI.2.1 k hk
  have hq := hD.1
  have hkd := (hC.k hk).1
  have hm := many_q hC hk hp
  have e6 : PX6_bestPart kind parts pn o G (nI k) = if kind k = 0 then -2 else if kind k = 3 then -2 else HX6_bestPart_0 parts pn o G (nI k) (((2147483647 - (0 : Int32).toInt).toNat) + 1) 0 := by
    rw [PX6_bestPart_eq]
    simp only [lt_ap]
    rw [nI_clamp (by omega)]
  have e7 : PX7_bestOf r told st un (-1) (nI k) = if kind k = 1 then HX7_bestOf_0 r told st un (-1) (nI k) ((((r (27 + k)).toInt - (0 : Int32).toInt).toNat) + 1) 0 else if kind k = 2 then HX7_bestOf_0 r told st un (-1) (nI k) ((((r (27 + k)).toInt - (0 : Int32).toInt).toNat) + 1) 0 else -2 := by
    rw [PX7_bestOf_eq]
    simp only [lt_ap]
    rw [show (9 : Int32) + nI k = nI (9 + k) from nI_add 9 k, nI_clamp (show 9 + k < 2 ^ 31 by omega), nI_clamp (show k < 2 ^ 31 by omega), ← hkd]
  rw [e6, e7]
  by_cases h12 : kind k = 1 ∨ kind k = 2
  · obtain ⟨i0, i1, i2, i3⟩ := best_some hC hS hI hR hW hs hk hp hq h12
    have a := b6_loop (T := PX7_worthOf r told un (-1) st) hC hS hk hp hq (G := G) (fun i hi => by
      obtain ⟨s, s1, s2, s3⟩ := st_perm hS hk hp hD.1
      obtain ⟨j, j1, j2⟩ := hD.2.2.2.2.1 (s i) (s1 i hi)
      rw [s3 i hi, j2, nI_clamp (by omega)]
      exact hG j (by omega)) (hG k hk) i1 i2 i3 i0 0 (((2147483647 - (0 : Int32).toInt).toNat) + 1) rfl (by omega) (by rw [kc_0]; omega)
    have b := b7_loop (show k < 18 by omega) (show i0 < 4 by omega) i2 i3 i0 0 ((((r (27 + k)).toInt - (0 : Int32).toInt).toNat) + 1) rfl (by omega) (by rw [hm, nI_toInt (by omega), kc_0]; omega)
    rw [nI_0] at a b
    rw [a, b]
    have hst : ∃ j : Nat, j < k ∧ st (4 * k + i0) = nI j := by
      obtain ⟨s, s1, s2, s3⟩ := st_perm hS hk hp hD.1
      obtain ⟨j, j1, j2⟩ := hD.2.2.2.2.1 (s i0) (s1 i0 i1)
      exact ⟨j, j1, by rw [s3 i0 i1, j2]⟩
    rcases h12 with c | c
    · rw [c, if_neg (show ¬ (1 : Int32) = 0 by decide), if_neg (show ¬ (1 : Int32) = 3 by decide), if_pos rfl]
      exact ⟨rfl, Or.inr hst⟩
    · rw [c, if_neg (show ¬ (2 : Int32) = 0 by decide), if_neg (show ¬ (2 : Int32) = 3 by decide), if_neg (show ¬ (2 : Int32) = 1 by decide), if_pos rfl]
      exact ⟨rfl, Or.inr hst⟩
  · have h1 : ¬ kind k = 1 := fun e => h12 (Or.inl e)
    have h2 : ¬ kind k = 2 := fun e => h12 (Or.inr e)
    rw [if_neg h1, if_neg h2]
    refine ⟨?_, Or.inl rfl⟩
    rcases kd_of hC hR hk with c | c | c | c
    · rw [if_pos c]
    · exact absurd c h1
    · exact absurd c h2
    · rw [c, if_neg (show ¬ (3 : Int32) = 0 by decide), if_pos rfl]
end WQ
/-! the line of best parts -/
def lnX (B : Nat → Int32) : Nat → Int32 → Nat
  | 0, _ => 0
  | g + 1, x => if x < 0 then 0 else 1 + lnX B g (B x.toNatClampNeg)
def lnOk (B : Nat → Int32) (N : Nat) : Prop := ∀ k : Nat, k < N → B k = -2 ∨ ∃ j : Nat, j < k ∧ B k = nI j
theorem m2_neg : (-2 : Int32) < 0 := by decide
section LN
variable {B kind parts pn o G r told st : Nat → Int32} {N : Nat} {un : Int32}
theorem ln_m2 (g : Nat) : lnX B g (-2) = 0 := by
  cases g with
  | zero => rfl
  | succ g => rw [lnX, if_pos m2_neg]
theorem ln6 (hN : N ≤ 18) (hB : lnOk B N) (h6 : ∀ k : Nat, k < N → PX6_bestPart kind parts pn o G (nI k) = B k) : ∀ (g : Nat) (x : Int32) (i n f : Nat), (x = -2 ∨ ∃ j : Nat, j < N ∧ j + i < 18 ∧ j + 2 ≤ g ∧ x = nI j) → 18 - i < f → HX6_lineLength_0 kind parts pn o G f (nI i) x (nI n) = (nI (n + lnX B g x), G) := by
  have k18 : (18 : Int32).toInt = 18 := by decide
  intro g
  induction g with
  | zero =>
    intro x i n f hx hf
    rcases hx with rfl | ⟨j, h1, h2, h3, h4⟩
    · obtain ⟨f, rfl⟩ : ∃ g, f = g + 1 := ⟨f - 1, by omega⟩
      rw [HX6_lineLength_0_eq, ln_m2, if_pos m2_neg, Nat.add_zero]
      by_cases c : (18 : Int32) ≤ nI i
      · rw [if_pos c]
      · rw [if_neg c]
    · exact absurd h3 (by omega)
  | succ g ih =>
    intro x i n f hx hf
    obtain ⟨f, rfl⟩ : ∃ g, f = g + 1 := ⟨f - 1, by omega⟩
    rcases hx with rfl | ⟨j, h1, h2, h3, rfl⟩
    · rw [HX6_lineLength_0_eq, ln_m2, if_pos m2_neg, Nat.add_zero]
      by_cases c : (18 : Int32) ≤ nI i
      · rw [if_pos c]
      · rw [if_neg c]
    · rw [HX6_lineLength_0_eq, if_neg (show ¬ (18 : Int32) ≤ nI i by rw [fz_le, k18, nI_toInt (by omega)]; omega), if_neg (nI_pos (by omega))]
      simp only [lt_ap]
      rw [h6 j h1, nI_o1, nI_o1, lnX, if_neg (nI_pos (by omega)), nI_clamp (by omega), ← Nat.add_assoc]
      refine ih (B j) (i + 1) (n + 1) f ?_ (by omega)
      rcases hB j h1 with e | ⟨j', e1, e2⟩
      · exact Or.inl e
      · exact Or.inr ⟨j', by omega, by omega, by omega, e2⟩
theorem ln7 {t0 t1 : Int32} (hN : N ≤ 18) (hB : lnOk B N) (h7 : ∀ k : Nat, k < N → PX7_bestOf r told st un (-1) (nI k) = B k) : ∀ (g : Nat) (x : Int32) (n f : Nat), (x = -2 ∨ ∃ j : Nat, j < N ∧ j + 2 ≤ g ∧ j + 2 ≤ f ∧ x = nI j) → 1 ≤ f → HX7_line_0 r told st un (-1) t0 t1 f x (nI n) = (nI (n + lnX B g x), t0, t1) := by
  intro g
  induction g with
  | zero =>
    intro x n f hx hf
    rcases hx with rfl | ⟨j, h1, h3, h4, h5⟩
    · obtain ⟨f, rfl⟩ : ∃ g, f = g + 1 := ⟨f - 1, by omega⟩
      rw [HX7_line_0_eq, ln_m2, if_pos m2_neg, Nat.add_zero]
    · exact absurd h3 (by omega)
  | succ g ih =>
    intro x n f hx hf
    obtain ⟨f, rfl⟩ : ∃ g, f = g + 1 := ⟨f - 1, by omega⟩
    rcases hx with rfl | ⟨j, h1, h3, h4, rfl⟩
    · rw [HX7_line_0_eq, ln_m2, if_pos m2_neg, Nat.add_zero]
    · rw [HX7_line_0_eq, if_neg (nI_pos (by omega))]
      simp only [lt_ap]
      rw [h7 j h1, nI_o1, lnX, if_neg (nI_pos (by omega)), nI_clamp (by omega), ← Nat.add_assoc]
      refine ih (B j) (n + 1) f ?_ (by omega)
      rcases hB j h1 with e | ⟨j', e1, e2⟩
      · exact Or.inl e
      · exact Or.inr ⟨j', by omega, by omega, by omega, e2⟩
theorem ln_at {x6 t0 t1 : Int32} {P : Nat} (hP : P < 2 ^ 31) (hN : N ≤ 18) (hB : lnOk B N) (h6 : ∀ k : Nat, k < N → PX6_bestPart kind parts pn o G (nI k) = B k) (h7 : ∀ k : Nat, k < N → PX7_bestOf r told st un (-1) (nI k) = B k) : ∀ (g : Nat) (x : Int32) (n f6 f7 : Nat), (x = -2 ∨ ∃ j : Nat, j < N ∧ j + 2 ≤ g ∧ j + 2 ≤ f7 ∧ x = nI j) → n ≤ P → P - n < f6 → 1 ≤ f7 → (P - n < lnX B g x → ∃ y : Int32, HX6_lineAt_0 kind parts pn o (nI P) x6 G f6 (nI n) x = (y, x6, G) ∧ HX7_lineAt_0 r told st un (-1) (nI P) t0 t1 f7 x (nI n) = (y, t0, t1)) ∧ (lnX B g x ≤ P - n → HX7_lineAt_0 r told st un (-1) (nI P) t0 t1 f7 x (nI n) = (-1, t0, 1)) := by
  have out : ∀ (n f7 : Nat), 1 ≤ f7 → HX7_lineAt_0 r told st un (-1) (nI P) t0 t1 f7 (-2) (nI n) = (-1, t0, 1) := fun n f7 hf => by
    obtain ⟨f7, rfl⟩ : ∃ g, f7 = g + 1 := ⟨f7 - 1, by omega⟩
    rw [HX7_lineAt_0_eq, if_neg (show ¬ (0 : Int32) ≤ -2 by decide), if_pos m2_neg, no_eq, un2_eq rfl]
    by_cases c : nI P ≤ nI n
    · rw [if_pos c]
    · rw [if_neg c, if_neg (show ¬ (0 : Int32) ≤ -2 by decide)]
  intro g
  induction g with
  | zero =>
    intro x n f6 f7 hx hn h6' hf
    rcases hx with rfl | ⟨j, h1, h3, h4, h5⟩
    · exact ⟨fun h => absurd h (by rw [ln_m2]; omega), fun _ => out n f7 hf⟩
    · exact absurd h3 (by omega)
  | succ g ih =>
    intro x n f6 f7 hx hn h6' hf
    rcases hx with rfl | ⟨j, h1, h3, h4, rfl⟩
    · exact ⟨fun h => absurd h (by rw [ln_m2]; omega), fun _ => out n f7 hf⟩
    · obtain ⟨f6, rfl⟩ : ∃ g, f6 = g + 1 := ⟨f6 - 1, by omega⟩
      obtain ⟨f7, rfl⟩ : ∃ g, f7 = g + 1 := ⟨f7 - 1, by omega⟩
      have e : lnX B (g + 1) (nI j) = 1 + lnX B g (B j) := by rw [lnX, if_neg (nI_pos (by omega)), nI_clamp (by omega)]
      rw [e, HX6_lineAt_0_eq, HX7_lineAt_0_eq]
      by_cases c : P = n
      · subst c
        rw [if_pos (nI_le (Nat.le_refl _) hP), if_pos (nI_le (Nat.le_refl _) hP), if_pos (nI_pos' (by omega))]
        exact ⟨fun _ => ⟨_, rfl, rfl⟩, fun h => absurd h (by omega)⟩
      · rw [if_neg (show ¬ nI P ≤ nI n by rw [nI_leI (by omega) (by omega)]; omega), if_neg (show ¬ nI P ≤ nI n by rw [nI_leI (by omega) (by omega)]; omega), if_neg (nI_pos (by omega)), if_neg (nI_pos (by omega))]
        simp only [lt_ap]
        rw [h6 j h1, h7 j h1, nI_o1]
        have hx : B j = -2 ∨ ∃ j' : Nat, j' < N ∧ j' + 2 ≤ g ∧ j' + 2 ≤ f7 ∧ B j = nI j' := by
          rcases hB j h1 with e | ⟨j', e1, e2⟩
          · exact Or.inl e
          · exact Or.inr ⟨j', by omega, by omega, by omega, e2⟩
        obtain ⟨a, b⟩ := ih (B j) (n + 1) f6 f7 hx (by omega) (by omega) (by omega)
        exact ⟨fun h => a (by omega), fun h => b (by omega)⟩
end LN
end F6
end
section
/-! best, line, lineAt: on both sides -/
section F7
section FJ
variable {nodes words unsures slips throne said : Int32} {kind parts pn wt tw uw uo w o : Nat → Int32} {ic : Int32} {iw0 io0 iw1 io1 iw2 io2 : Nat → Int32} {ac : Int32} {an ao as : Nat → Int32} {hc : Int32} {r told st und kept : Nat → Int32} {undos images : Int32} {unit : Int32} {ws steps below above : Nat → Int32} {scale night : Int32}
theorem best_join (h : Rel nodes words unsures slips throne said kind parts pn wt tw uw uo w o ic iw0 io0 iw1 io1 iw2 io2 ac an ao as hc r told st und kept undos images) (hx : CIS nodes unit kind parts pn wt ws steps below above) (hs : PX7_layScale r = scale) (hM : ROk r ∧ RowOk r st ∧ RowOk r told ∧ WorOk st ∧ night.toInt = -1 ∧ 1 ≤ scale.toInt ∧ scale.toInt ≤ 1296) {lv lv' : Nat → Int32} {p0 : Int32} {q6 q7 : Int32} {rf t1 t2 : Int32} (e6 : PX6_best nodes throne unit kind parts pn wt ws w o lv p0 = (q6, rf, lv')) (e7 : PX7_best hc r told st scale night p0 = (q7, t1, t2)) : q6 = q7 ∧ rf = t2 := by
  obtain ⟨hR, hQ, hQt, hW, hnt, hsc⟩ := hM
  obtain rfl : night = -1 := (fz_eq _ _).mpr (hnt.trans (by decide))
  have key : ∃ (q : Int32) (f t : Int32) (v : Nat → Int32), PX6_best nodes throne unit kind parts pn wt ws w o lv p0 = (q, f, v) ∧ PX7_best hc r told st scale (-1) p0 = (q, t, f) := by
    rcases h with ⟨rfl, h0⟩ | ⟨N, c, d, rfl, rfl, rfl, rfl, hc, rfl, rfl, hd, hC, hS, hU, hI⟩
    · obtain ⟨h2, h3, h4, h5, h6, h7, rfl, h8, h9⟩ := h0
      refine ⟨-1, 1, 0, lv, ?_, ?_⟩
      · rw [PX6_best_eq, PX6_lacksNode_eq]
        simp only [lt_ap]
        rw [hn_0, if_neg (show ¬ (0 : Int32) = 1 by decide), un2_eq rfl, if_neg (show ¬ (1 : Int32) = 0 by decide)]
      · rw [PX7_best_eq, PX7_good_eq, un2_eq rfl]
        simp only [lt_ap]
        rw [rn_0, if_neg (show ¬ (0 : Int32) = 1 by decide), no_eq, un2_eq rfl]
    · obtain ⟨hN0, hN, hr⟩ := hC.N
      obtain ⟨M, hM, hX⟩ := hx
      obtain rfl : N = M := (nI_eq (by omega) (by have := hX.1; omega)).mp hM
      obtain rfl : unit = scale := (ls_eq hC hX).symm.trans hs
      by_cases hn : 0 ≤ p0.toInt ∧ p0.toInt < (N : Int)
      · obtain ⟨k, hk, rfl⟩ := nd_of hN hn
        obtain ⟨G', e, hG⟩ := weigh_eq hC hS hX hR (w_in hC hS hW) hsc lv
        have hb := (best_eq hC hS hX hR (w_in hC hS hW) hsc hG hk).1
        refine ⟨PX7_bestOf r told st unit (-1) (nI k), 0, 0, G', ?_, ?_⟩
        · rw [PX6_best_eq, PX6_lacksNode_eq]
          simp only [lt_ap]
          rw [hn_eq hN, if_pos hn, if_pos rfl, un2_eq rfl, if_pos rfl, un2_eq e, hb]
        · rw [PX7_best_eq, PX7_good_eq, un2_eq rfl]
          simp only [lt_ap]
          rw [rn_eq hN0 hN hr, if_pos hn, if_pos rfl]
      · refine ⟨-1, 1, 0, lv, ?_, ?_⟩
        · rw [PX6_best_eq, PX6_lacksNode_eq]
          simp only [lt_ap]
          rw [hn_eq hN, if_neg hn, if_neg (show ¬ (0 : Int32) = 1 by decide), un2_eq rfl, if_neg (show ¬ (1 : Int32) = 0 by decide)]
        · rw [PX7_best_eq, PX7_good_eq, un2_eq rfl]
          simp only [lt_ap]
          rw [rn_eq hN0 hN hr, if_neg hn, if_neg (show ¬ (0 : Int32) = 1 by decide), no_eq, un2_eq rfl]
  obtain ⟨q, f, t, v, g6, g7⟩ := key
  have x := g6.symm.trans e6
  have y := g7.symm.trans e7
  simp only [Prod.mk.injEq] at x y
  obtain ⟨rfl, rfl, -⟩ := x
  obtain ⟨rfl, -, rfl⟩ := y
  exact ⟨rfl, rfl⟩
/-- the line's length, on both sides; each of its nodes -/
theorem line_both {N : Nat} (hC : CR N words unsures slips throne said kind parts pn wt tw uw uo r told) (hS : StR N parts pn w o st) (hX : CI N unit kind parts pn wt ws steps below above) (hR : ROk r) (hW : WorOk st) (hsc : 1 ≤ unit.toInt ∧ unit.toInt ≤ 1296) (lv : Nat → Int32) : ∃ (G : Nat → Int32) (B : Nat → Int32) (t : Nat), t < N ∧ throne = nI t ∧ r 6 = nI t ∧ lnOk B N ∧ (∀ k : Nat, k < N → PX6_bestPart kind parts pn o G (nI k) = B k) ∧ (∀ k : Nat, k < N → PX7_bestOf r told st unit (-1) (nI k) = B k) ∧ PX6_lineLength (nI N) throne unit kind parts pn wt ws w o lv = (nI (1 + lnX B 20 (B t)), G) := by
  have hN := hX.1
  obtain ⟨G, e, hG⟩ := weigh_eq hC hS hX hR (w_in hC hS hW) hsc lv
  have hth : r 6 = throne := hC.2.2.2.2.2.2.1
  have ht := hC.2.2.2.2.2.2.2.2.1
  obtain ⟨t, t1, t2⟩ := nd_of hN ht
  have h6 : ∀ k : Nat, k < N → PX6_bestPart kind parts pn o G (nI k) = PX7_bestOf r told st unit (-1) (nI k) := fun k hk => (best_eq hC hS hX hR (w_in hC hS hW) hsc hG hk).1
  have hB : lnOk (fun k => PX7_bestOf r told st unit (-1) (nI k)) N := fun k hk => (best_eq hC hS hX hR (w_in hC hS hW) hsc hG hk).2
  refine ⟨G, fun k => PX7_bestOf r told st unit (-1) (nI k), t, t1, t2, hth.trans t2, hB, h6, fun k hk => rfl, ?_⟩
  have hx : PX7_bestOf r told st unit (-1) (nI t) = -2 ∨ ∃ j : Nat, j < N ∧ j + 0 < 18 ∧ j + 2 ≤ 20 ∧ PX7_bestOf r told st unit (-1) (nI t) = nI j := by
    rcases hB t t1 with q | ⟨j, q1, q2⟩
    · exact Or.inl q
    · exact Or.inr ⟨j, by omega, by omega, by omega, q2⟩
  have e2 := ln6 (G := G) (kind := kind) (parts := parts) (pn := pn) (o := o) hN hB h6 20 (PX7_bestOf r told st unit (-1) (nI t)) 0 1 (((18 - (0 : Int32).toInt).toNat) + 1) hx (by rw [kc_0]; omega)
  rw [nI_0] at e2
  rw [PX6_lineLength_eq, un2_eq e]
  simp only [lt_ap]
  rw [t2, h6 t t1]
  exact e2
theorem line_join (h : Rel nodes words unsures slips throne said kind parts pn wt tw uw uo w o ic iw0 io0 iw1 io1 iw2 io2 ac an ao as hc r told st und kept undos images) (hx : CIS nodes unit kind parts pn wt ws steps below above) (hs : PX7_layScale r = scale) (hM : ROk r ∧ RowOk r st ∧ RowOk r told ∧ WorOk st ∧ night.toInt = -1 ∧ 1 ≤ scale.toInt ∧ scale.toInt ≤ 1296) {lv lv' : Nat → Int32} {q6 q7 : Int32} {rf t1 t2 : Int32} (e6 : PX6_line nodes throne unit kind parts pn wt ws w o lv = (q6, rf, lv')) (e7 : PX7_line hc r told st scale night = (q7, t1, t2)) : q6 = q7 ∧ rf = t2 := by
  obtain ⟨hR, hQ, hQt, hW, hnt, hsc⟩ := hM
  obtain rfl : night = -1 := (fz_eq _ _).mpr (hnt.trans (by decide))
  have key : ∃ (q : Int32) (f t : Int32) (v : Nat → Int32), PX6_line nodes throne unit kind parts pn wt ws w o lv = (q, f, v) ∧ PX7_line hc r told st scale (-1) = (q, t, f) := by
    rcases h with ⟨rfl, h0⟩ | ⟨N, c, d, rfl, rfl, rfl, rfl, hc, rfl, rfl, hd, hC, hS, hU, hI⟩
    · obtain ⟨h2, h3, h4, h5, h6, h7, rfl, h8, h9⟩ := h0
      refine ⟨-1, 1, 0, lv, ?_, ?_⟩
      · rw [PX6_line_eq, lc_0, un2_eq rfl, if_neg (show ¬ (1 : Int32) = 0 by decide)]
      · rw [PX7_line_eq, PX7_good_eq, un2_eq rfl, if_pos rfl, no_eq, un2_eq rfl]
    · obtain ⟨hN0, hN, hr⟩ := hC.N
      obtain ⟨M, hM, hX⟩ := hx
      obtain rfl : N = M := (nI_eq (by omega) (by have := hX.1; omega)).mp hM
      obtain rfl : unit = scale := (ls_eq hC hX).symm.trans hs
      obtain ⟨G, B, t, q1, q2, q3, q4, q5, q6, q7⟩ := line_both hC hS hX hR hW hsc lv
      refine ⟨nI (1 + lnX B 20 (B t)), 0, 0, G, ?_, ?_⟩
      · rw [PX6_line_eq, lc_N hN0 hN, un2_eq rfl, if_pos rfl, un2_eq q7]
      · rw [PX7_line_eq, PX7_good_eq, un2_eq rfl, if_neg (show ¬ (1 : Int32) = 0 by decide)]
        simp only [lt_ap]
        rw [six_cl, q3, q6 t q1]
        have hxx : B t = -2 ∨ ∃ j : Nat, j < N ∧ j + 2 ≤ 20 ∧ j + 2 ≤ ((B t).toInt + 3).toNat + 1 ∧ B t = nI j := by
          rcases q4 t q1 with q | ⟨j, a, b⟩
          · exact Or.inl q
          · exact Or.inr ⟨j, by omega, by omega, by rw [b, nI_toInt (by omega)]; omega, b⟩
        have e2 := ln7 (t0 := 0) (t1 := 0) hN q4 q6 20 (B t) 1 ((((B t).toInt + 3).toNat) + 1) hxx (by omega)
        exact e2
  obtain ⟨q, f, t, v, g6, g7⟩ := key
  have x := g6.symm.trans e6
  have y := g7.symm.trans e7
  simp only [Prod.mk.injEq] at x y
  obtain ⟨rfl, rfl, -⟩ := x
  obtain ⟨rfl, -, rfl⟩ := y
  exact ⟨rfl, rfl⟩
theorem lineAt_join (h : Rel nodes words unsures slips throne said kind parts pn wt tw uw uo w o ic iw0 io0 iw1 io1 iw2 io2 ac an ao as hc r told st und kept undos images) (hx : CIS nodes unit kind parts pn wt ws steps below above) (hs : PX7_layScale r = scale) (hM : ROk r ∧ RowOk r st ∧ RowOk r told ∧ WorOk st ∧ night.toInt = -1 ∧ 1 ≤ scale.toInt ∧ scale.toInt ≤ 1296) {lv lv' : Nat → Int32} {p0 q6 q7 : Int32} {rf t1 t2 : Int32} (e6 : PX6_lineAt nodes throne unit kind parts pn wt ws w o lv p0 = (q6, rf, lv')) (e7 : PX7_lineAt hc r told st scale night p0 = (q7, t1, t2)) : q6 = q7 ∧ rf = t2 := by
  obtain ⟨hR, hQ, hQt, hW, hnt, hsc⟩ := hM
  obtain rfl : night = -1 := (fz_eq _ _).mpr (hnt.trans (by decide))
  have key : ∃ (q : Int32) (f t : Int32) (v : Nat → Int32), PX6_lineAt nodes throne unit kind parts pn wt ws w o lv p0 = (q, f, v) ∧ PX7_lineAt hc r told st scale (-1) p0 = (q, t, f) := by
    have hrf : ∀ q : Int32, PX6_refuse q = (-1, q) := fun q => PX6_refuse_eq q
    rcases h with ⟨rfl, h0⟩ | ⟨N, c, d, rfl, rfl, rfl, rfl, hc, rfl, rfl, hd, hC, hS, hU, hI⟩
    · obtain ⟨h2, h3, h4, h5, h6, h7, rfl, h8, h9⟩ := h0
      refine ⟨-1, 1, 0, lv, ?_, ?_⟩
      · rw [PX6_lineAt_eq, lc_0, un2_eq rfl, if_neg (show ¬ (1 : Int32) = 0 by decide)]
      · rw [PX7_lineAt_eq, PX7_good_eq, un2_eq rfl, if_pos rfl, no_eq, un2_eq rfl]
    · obtain ⟨hN0, hN, hr⟩ := hC.N
      obtain ⟨M, hM, hX⟩ := hx
      obtain rfl : N = M := (nI_eq (by omega) (by have := hX.1; omega)).mp hM
      obtain rfl : unit = scale := (ls_eq hC hX).symm.trans hs
      obtain ⟨G, B, t, q1, q2, q3, q4, q5, q6, q7⟩ := line_both hC hS hX hR hW hsc lv
      by_cases hp : p0 < 0
      · refine ⟨-1, 1, 0, lv, ?_, ?_⟩
        · rw [PX6_lineAt_eq, lc_N hN0 hN, un2_eq rfl, if_pos rfl, if_pos hp, hrf, un2_eq rfl]
        · rw [PX7_lineAt_eq, PX7_good_eq, un2_eq rfl, if_neg (show ¬ (1 : Int32) = 0 by decide), if_neg (fun q => by rw [fz_le] at q; rw [fz_lt] at hp; omega), no_eq, un2_eq rfl]
      · obtain ⟨P, hP, rfl⟩ := nI_of hp
        have hxx : nI t = -2 ∨ ∃ j : Nat, j < N ∧ j + 2 ≤ 21 ∧ j + 2 ≤ ((nI t).toInt + 3).toNat + 1 ∧ nI t = nI j := Or.inr ⟨t, q1, by omega, by rw [nI_toInt (by omega)]; omega, rfl⟩
        obtain ⟨a, b⟩ := ln_at (G := G) (x6 := 0) (t0 := 0) (t1 := 0) hP hN q4 q5 q6 21 (nI t) 0 (((2147483647 - (0 : Int32).toInt).toNat) + 1) ((((nI t).toInt + 3).toNat) + 1) hxx (by omega) (by rw [kc_0]; omega) (by omega)
        have eL : lnX B 21 (nI t) = 1 + lnX B 20 (B t) := by rw [lnX, if_neg (nI_pos (by omega)), nI_clamp (by omega)]
        rw [eL, Nat.sub_zero, nI_0] at a b
        have hL : ∀ (g : Nat) (x : Int32), lnX B g x ≤ g := fun g => by
          induction g with
          | zero => intro x; exact Nat.le_refl _
          | succ g ih =>
            intro x
            rw [lnX]
            by_cases c : x < 0
            · rw [if_pos c]; omega
            · rw [if_neg c]; have := ih (B x.toNatClampNeg); omega
        have hl := hL 20 (B t)
        have e7 : PX7_lineAt 1 r told st unit (-1) (nI P) = HX7_lineAt_0 r told st unit (-1) (nI P) 0 0 ((((nI t).toInt + 3).toNat) + 1) (nI t) 0 := by
          rw [PX7_lineAt_eq, PX7_good_eq, un2_eq rfl, if_neg (show ¬ (1 : Int32) = 0 by decide), if_pos (nI_pos' hP)]
          simp only [lt_ap]
          rw [six_cl, q3]
        by_cases cP : P < 1 + lnX B 20 (B t)
        · obtain ⟨y, y6, y7⟩ := a cP
          refine ⟨y, 0, 0, G, ?_, by rw [e7]; exact y7⟩
          rw [PX6_lineAt_eq, lc_N hN0 hN, un2_eq rfl, if_pos rfl, if_neg (nI_pos hP), un2_eq q7, if_pos (nI_lt cP (by omega)), q2]
          exact y6
        · refine ⟨-1, 1, 0, G, ?_, by rw [e7]; exact b (by omega)⟩
          rw [PX6_lineAt_eq, lc_N hN0 hN, un2_eq rfl, if_pos rfl, if_neg (nI_pos hP), un2_eq q7, if_neg (nI_nlt (by omega) hP), hrf, un2_eq rfl]
  obtain ⟨q, f, t, v, g6, g7⟩ := key
  have x := g6.symm.trans e6
  have y := g7.symm.trans e7
  simp only [Prod.mk.injEq] at x y
  obtain ⟨rfl, rfl, -⟩ := x
  obtain ⟨rfl, -, rfl⟩ := y
  exact ⟨rfl, rfl⟩
end FJ
end F7
end
section
/-! nights: on both sides -/
section F8
/-- worths by nights: so many steps down what is no word counts 50 -/
def NV (un : Int32) (kind parts pn wt ws W : Nat → Int32) : Nat → Nat → Int32
  | 0, k => if kind k = 0 then W k * un else 50 * un
  | d + 1, k => if kind k = 0 then W k * un else Jv (kind k) (ws k) wt (fun i => NV un kind parts pn wt ws W d (pn (4 * k + i)).toNatClampNeg) k (parts k).toNatClampNeg
section WQ
variable {N : Nat} {words unsures slips throne said unit : Int32} {kind parts pn wt tw uw uo r told W o Q ws steps below above : Nat → Int32}
theorem wn_eq (hC : CR N words unsures slips throne said kind parts pn wt tw uw uo r told) (hS : StR N parts pn W o Q) (hI : CI N unit kind parts pn wt ws steps below above) (hR : ROk r) {sc : Int32} : ∀ (d n k e : Nat), k < n → k < N → e + d < 1000 → PX7_worthAt n (nI (e + d)) r told sc Q (nI k) (nI e) = NV sc kind parts pn wt ws W d k := by
  have hN := hI.1
  intro d
  induction d with
  | zero =>
    intro n k e h1 hk he
    obtain ⟨n, rfl⟩ : ∃ g, n = g + 1 := ⟨n - 1, by omega⟩
    obtain ⟨q, hp, hD⟩ := hI.2.1 k hk
    rw [wa_step hC hS hR hk hp hD, Nat.add_zero, if_pos rfl, NV]
  | succ d ih =>
    intro n k e h1 hk he
    obtain ⟨n, rfl⟩ : ∃ g, n = g + 1 := ⟨n - 1, by omega⟩
    obtain ⟨q, hp, hD⟩ := hI.2.1 k hk
    have hq := hD.1
    rw [wa_step hC hS hR hk hp hD, NV, hp, nI_clamp (show q < 2 ^ 31 by omega), if_neg (show ¬ nI e = nI (e + (d + 1)) by rw [nI_eq (by omega) (by omega)]; omega)]
    by_cases h0 : kind k = 0
    · rw [if_pos h0, if_pos h0]
    · rw [if_neg h0, if_neg h0]
      refine Jv_congr (fun i hi => ?_)
      obtain ⟨j, j1, j2⟩ := hD.2.2.2.2.1 i hi
      show PX7_worthAt n (nI (e + (d + 1))) r told sc Q (pn (4 * k + i)) (nI (e + 1)) = NV sc kind parts pn wt ws W d (pn (4 * k + i)).toNatClampNeg
      rw [j2, nI_clamp (by omega), show e + (d + 1) = e + 1 + d by omega]
      exact ih n j (e + 1) (by omega) (by omega) (by omega)
theorem nn_loop (hI : CI N unit kind parts pn wt ws steps below above) {un : Int32} : ∀ (m k f : Nat) (G : Nat → Int32), N - k = m → k ≤ N → m < f → (∀ j : Nat, j < k → G j = NV un kind parts pn wt ws W 0 j) → ∀ j : Nat, j < N → HX4_weighNightNone_0 (nI N) un kind W f (nI k) G j = NV un kind parts pn wt ws W 0 j := by
  have hN := hI.1
  intro m
  induction m with
  | zero =>
    intro k f G hr hk hf hV j hj
    obtain ⟨f, rfl⟩ : ∃ g, f = g + 1 := ⟨f - 1, by omega⟩
    obtain rfl : k = N := by omega
    rw [HX4_weighNightNone_0_eq, if_pos (nI_le (by omega) (by omega))]
    exact hV j hj
  | succ m ih =>
    intro k f G hr hk hf hV j hj
    obtain ⟨f, rfl⟩ : ∃ g, f = g + 1 := ⟨f - 1, by omega⟩
    have key : ∀ z : Int32, z = NV un kind parts pn wt ws W 0 k → HX4_weighNightNone_0 (nI N) un kind W f (nI (k + 1)) (upd G k z) j = NV un kind parts pn wt ws W 0 j := fun z hz => by
      refine ih (k + 1) f (upd G k z) (by omega) (by omega) (by omega) (fun x hx => ?_) j hj
      by_cases c : x = k
      · rw [c, upd_at, hz]
      · rw [upd_ne c]; exact hV x (by omega)
    rw [HX4_weighNightNone_0_eq, if_neg (by rw [nI_leI (by omega) (by omega)]; omega)]
    simp only [lt_ap]
    rw [nI_clamp (show k < 2 ^ 31 by omega), nI_o1]
    by_cases h0 : kind k = 0
    · rw [if_pos h0]
      exact key _ (by rw [NV, if_pos h0])
    · rw [if_neg h0]
      exact key _ (by rw [NV, if_neg h0])
theorem nn_eq (hI : CI N unit kind parts pn wt ws steps below above) {un : Int32} (V : Nat → Int32) : ∀ j : Nat, j < N → PX4_weighNightNone V (nI N) un kind W j = NV un kind parts pn wt ws W 0 j := by
  have hN := hI.1
  have e := nn_loop (W := W) hI (un := un) N 0 (((2147483647 - (0 : Int32).toInt).toNat) + 1) V rfl (by omega) (by rw [kc_0]; omega) (fun j hj => absurd hj (by omega))
  rw [nI_0] at e
  rw [PX4_weighNightNone_eq]
  exact e
theorem NV_in (hC : CR N words unsures slips throne said kind parts pn wt tw uw uo r told) (hS : StR N parts pn W o Q) (hI : CI N unit kind parts pn wt ws steps below above) (hR : ROk r) (hW : ∀ k : Nat, k < N → kind k = 0 → 0 ≤ (W k).toInt ∧ (W k).toInt ≤ 99) {un : Int32} (hs : 1 ≤ un.toInt ∧ un.toInt ≤ 1296) {d k : Nat} (hd : d < 1000) (hk : k < N) : 0 ≤ (NV un kind parts pn wt ws W d k).toInt ∧ (NV un kind parts pn wt ws W d k).toInt ≤ 128304 := by
  rw [← wn_eq hC hS hI hR (sc := un) d (k + 1) k 0 (by omega) hk (by omega)]
  exact wa_in hC hS hI hR hW hs k (k + 1) 0 (by omega) hk
theorem nx_loop (hC : CR N words unsures slips throne said kind parts pn wt tw uw uo r told) (hS : StR N parts pn W o Q) (hI : CI N unit kind parts pn wt ws steps below above) (hR : ROk r) (hW : ∀ k : Nat, k < N → kind k = 0 → 0 ≤ (W k).toInt ∧ (W k).toInt ≤ 99) {un : Int32} (hs : 1 ≤ un.toInt ∧ un.toInt ≤ 1296) {d : Nat} (hd : d < 999) : ∀ (k f : Nat) (G : Nat → Int32), k ≤ N → k < f → (∀ j : Nat, j < k → G j = NV un kind parts pn wt ws W d j) → (∀ j : Nat, k ≤ j → j < N → G j = NV un kind parts pn wt ws W (d + 1) j) → ∀ j : Nat, j < N → HX4_weighNextNight_0 kind parts pn wt ws f (nI k - 1) G j = NV un kind parts pn wt ws W (d + 1) j := by
  have hN := hI.1
  intro k
  induction k with
  | zero =>
    intro f G hk hf hV hV2 j hj
    obtain ⟨f, rfl⟩ : ∃ g, f = g + 1 := ⟨f - 1, by omega⟩
    rw [HX4_weighNextNight_0_eq, if_pos (show nI 0 - 1 < (0 : Int32) by decide)]
    exact hV2 j (by omega) hj
  | succ k ih =>
    intro f G hk hf hV hV2 j hj
    obtain ⟨f, rfl⟩ : ∃ g, f = g + 1 := ⟨f - 1, by omega⟩
    obtain ⟨q, hp, hD⟩ := hI.2.1 k (by omega)
    have hq := hD.1
    have em : nI k + Int32.ofInt (-1) = nI k - 1 := by
      rw [Int32.sub_eq_add_neg]
      congr 1
    rw [HX4_weighNextNight_0_eq, nI_pred, if_neg (nI_pos (by omega))]
    simp only [lt_ap]
    rw [nI_clamp (show k < 2 ^ 31 by omega), em]
    by_cases h0 : kind k = 0
    · rw [if_pos h0]
      refine ih f G (by omega) (by omega) (fun x hx => hV x (by omega)) (fun x h1 h2 => ?_) j hj
      by_cases c : x = k
      · rw [c, hV k (by omega), NV, if_pos h0]
        cases d with
        | zero => rw [NV, if_pos h0]
        | succ d => rw [NV, if_pos h0]
      · exact hV2 x (by omega) h2
    · rw [if_neg h0]
      have ej : PX4_joined G kind parts pn wt ws (nI k) = NV un kind parts pn wt ws W (d + 1) k := by
        rw [NV, if_neg h0, hp, nI_clamp (show q < 2 ^ 31 by omega)]
        refine joined_eq (by omega) hq (q1_of hC hR (by omega) hp hq h0) hp h0 (fun i hi => ?_) (fun i hi => ?_) (fun h3 => ?_)
        · obtain ⟨x, j1, j2⟩ := hD.2.2.2.2.1 i hi
          show G (pn (4 * k + i)).toNatClampNeg = NV un kind parts pn wt ws W d (pn (4 * k + i)).toNatClampNeg
          rw [j2, nI_clamp (by omega)]
          exact hV x (by omega)
        · obtain ⟨x, j1, j2⟩ := hD.2.2.2.2.1 i hi
          show -100000000 < (NV un kind parts pn wt ws W d (pn (4 * k + i)).toNatClampNeg).toInt ∧ (NV un kind parts pn wt ws W d (pn (4 * k + i)).toNatClampNeg).toInt < 100000000
          rw [j2, nI_clamp (by omega)]
          have := NV_in hC hS hI hR hW hs (show d < 1000 by omega) (show x < N by omega)
          omega
        · obtain ⟨e, hw⟩ := w9_of hC hR (show k < N by omega) hp hD h3
          have h1 := q1_of hC hR (show k < N by omega) hp hq h0
          have a := (sum_w (w := fun i => wt (4 * k + i)) q hq hw).1
          rw [e]
          omega
      rw [ej]
      refine ih f (upd G k _) (by omega) (by omega) (fun x hx => ?_) (fun x h1 h2 => ?_) j hj
      · rw [upd_ne (by omega)]; exact hV x (by omega)
      · by_cases c : x = k
        · rw [c, upd_at]
        · rw [upd_ne c]; exact hV2 x (by omega) h2
theorem nx_eq (hC : CR N words unsures slips throne said kind parts pn wt tw uw uo r told) (hS : StR N parts pn W o Q) (hI : CI N unit kind parts pn wt ws steps below above) (hR : ROk r) (hW : ∀ k : Nat, k < N → kind k = 0 → 0 ≤ (W k).toInt ∧ (W k).toInt ≤ 99) {un : Int32} (hs : 1 ≤ un.toInt ∧ un.toInt ≤ 1296) {d : Nat} (hd : d < 999) {G : Nat → Int32} (hG : ∀ j : Nat, j < N → G j = NV un kind parts pn wt ws W d j) : ∀ j : Nat, j < N → PX4_weighNextNight G (nI N) kind parts pn wt ws j = NV un kind parts pn wt ws W (d + 1) j := by
  have hN := hI.1
  have hN0 := hC.N.1
  have em : (nI N - 1).toInt = (N : Int) - 1 := by rw [fb_subI (by rw [nI_toInt (by omega), kc_1]; omega) (by rw [nI_toInt (by omega), kc_1]; omega), nI_toInt (by omega), kc_1]
  intro j hj
  rw [PX4_weighNextNight_eq, lt_ap]
  exact nx_loop hC hS hI hR hW hs hd N _ G (Nat.le_refl _) (by rw [em]; omega) hG (fun x h1 h2 => absurd h2 (by omega)) j hj
theorem n6_loop (hC : CR N words unsures slips throne said kind parts pn wt tw uw uo r told) (hS : StR N parts pn W o Q) (hI : CI N unit kind parts pn wt ws steps below above) (hR : ROk r) (hW : ∀ k : Nat, k < N → kind k = 0 → 0 ≤ (W k).toInt ∧ (W k).toInt ≤ 99) {un p1 x6 : Int32} (hs : 1 ≤ un.toInt ∧ un.toInt ≤ 1296) {D t : Nat} (hD : D ≤ 9) (ht : t < N) : ∀ (m d f : Nat) (G : Nat → Int32), D - d = m → d ≤ D → m < f → (∀ j : Nat, j < N → G j = NV un kind parts pn wt ws W d j) → ∃ G' : Nat → Int32, HX6_night_0 (nI N) (nI t) un kind parts pn wt ws (nI D) p1 x6 f (nI d) G = (PX6_inLowestTerms (NV un kind parts pn wt ws W D t).toInt64 un.toInt64 p1, x6, G') := by
  have hN := hI.1
  intro m
  induction m with
  | zero =>
    intro d f G hr hd hf hG
    obtain ⟨f, rfl⟩ : ∃ g, f = g + 1 := ⟨f - 1, by omega⟩
    obtain rfl : d = D := by omega
    refine ⟨G, ?_⟩
    rw [HX6_night_0_eq, if_pos (nI_le (by omega) (by omega))]
    simp only [lt_ap]
    rw [nI_clamp (by omega), hG t ht]
  | succ m ih =>
    intro d f G hr hd hf hG
    obtain ⟨f, rfl⟩ : ∃ g, f = g + 1 := ⟨f - 1, by omega⟩
    rw [HX6_night_0_eq, if_neg (by rw [nI_leI (by omega) (by omega)]; omega)]
    simp only [lt_ap]
    rw [nI_o1]
    exact ih (d + 1) f _ (by omega) (by omega) (by omega) (nx_eq hC hS hI hR hW hs (by omega) hG)
/-- the reference's throne by a night -/
theorem tn_eq (hC : CR N words unsures slips throne said kind parts pn wt tw uw uo r told) (hS : StR N parts pn W o Q) (hI : CI N unit kind parts pn wt ws steps below above) (hR : ROk r) {sc : Int32} {d t : Nat} (hd : d < 1000) (ht : t < N) (hth : r 6 = nI t) : PX7_throneBy r told sc (nI d) Q = NV sc kind parts pn wt ws W d t := by
  have hN := hI.1
  have e := wn_eq hC hS hI hR (sc := sc) d 18 t 0 (by omega) ht (by omega)
  rw [Nat.zero_add] at e
  rw [PX7_throneBy_eq]
  simp only [lt_ap]
  rw [six_cl, hth, PX7_worthOf_eq, lt_ap, ← nI_0]
  exact e
/-- settled from which night on: both sides -/
def stF (P : Nat → Prop) [DecidablePred P] : Nat → Nat
  | 0 => 0
  | m + 1 => if P m then stF P m else m + 1
theorem s6_loop (hC : CR N words unsures slips throne said kind parts pn wt tw uw uo r told) (hS : StR N parts pn W o Q) (hI : CI N unit kind parts pn wt ws steps below above) (hR : ROk r) (hW : ∀ k : Nat, k < N → kind k = 0 → 0 ≤ (W k).toInt ∧ (W k).toInt ≤ 99) {un x6 z : Int32} (hs : 1 ≤ un.toInt ∧ un.toInt ≤ 1296) {t : Nat} (ht : t < N) : ∀ (m d f : Nat) (G : Nat → Int32), 10 - d = m → d ≤ 10 → m < f → (∀ j : Nat, j < N → G j = NV un kind parts pn wt ws W d j) → ∃ G' : Nat → Int32, HX6_settles_0 (nI N) (nI t) kind parts pn wt ws x6 z f (nI d) (nI (stF (fun d => NV un kind parts pn wt ws W d t = z) d)) G = (nI (stF (fun d => NV un kind parts pn wt ws W d t = z) 10), x6, G') := by
  have hN := hI.1
  have k9 : (9 : Int32).toInt = 9 := by decide
  intro m
  induction m with
  | zero =>
    intro d f G hr hd hf hG
    obtain ⟨f, rfl⟩ : ∃ g, f = g + 1 := ⟨f - 1, by omega⟩
    obtain rfl : d = 10 := by omega
    refine ⟨G, ?_⟩
    rw [HX6_settles_0_eq, if_pos (show (9 : Int32) < nI 10 by decide)]
  | succ m ih =>
    intro d f G hr hd hf hG
    obtain ⟨f, rfl⟩ : ∃ g, f = g + 1 := ⟨f - 1, by omega⟩
    rw [HX6_settles_0_eq, if_neg (show ¬ (9 : Int32) < nI d by rw [fz_lt, k9, nI_toInt (by omega)]; omega)]
    simp only [lt_ap]
    rw [nI_clamp (by omega), hG t ht, nI_o1, nI_1]
    obtain ⟨G', e⟩ := ih (d + 1) f _ (by omega) (by omega) (by omega) (nx_eq hC hS hI hR hW hs (by omega) hG)
    refine ⟨G', ?_⟩
    by_cases c : NV un kind parts pn wt ws W d t = z
    · rw [stF, if_pos c] at e
      rw [if_pos c]
      exact e
    · rw [stF, if_neg c] at e
      rw [if_neg c]
      exact e
theorem s7_loop (hC : CR N words unsures slips throne said kind parts pn wt tw uw uo r told) (hS : StR N parts pn W o Q) (hI : CI N unit kind parts pn wt ws steps below above) (hR : ROk r) {un t0 t1 z : Int32} {t : Nat} (ht : t < N) (hth : r 6 = nI t) (hz : PX7_throneBy r told un (-1) Q = z) : ∀ (d f : Nat) (y : Int32), d ≤ 10 → d < f → ∃ y' : Int32, HX7_settles_0 r told Q un t0 t1 f (nI d) y = (nI (stF (fun d => NV un kind parts pn wt ws W d t = z) d), t0, t1, y') := by
  intro d
  induction d with
  | zero =>
    intro f y hd hf
    obtain ⟨f, rfl⟩ : ∃ g, f = g + 1 := ⟨f - 1, by omega⟩
    exact ⟨y, by rw [HX7_settles_0_eq, if_pos (show nI 0 ≤ (0 : Int32) by decide)]; rfl⟩
  | succ d ih =>
    intro f y hd hf
    obtain ⟨f, rfl⟩ : ∃ g, f = g + 1 := ⟨f - 1, by omega⟩
    rw [HX7_settles_0_eq, if_neg (nI_nle (by omega) (by omega))]
    simp only [lt_ap]
    rw [nI_pred, PX7_throneAt_eq, lt_ap, un2_eq rfl, hz, tn_eq hC hS hI hR (by omega) ht hth, nI_om1]
    by_cases c : NV un kind parts pn wt ws W d t = z
    · obtain ⟨y', e⟩ := ih f (-1) (by omega) (by omega)
      refine ⟨y', ?_⟩
      rw [if_pos c, stF, if_pos c]
      exact e
    · refine ⟨-1, ?_⟩
      rw [if_neg c, stF, if_neg c]
end WQ
section FJ
variable {nodes words unsures slips throne said : Int32} {kind parts pn wt tw uw uo w o : Nat → Int32} {ic : Int32} {iw0 io0 iw1 io1 iw2 io2 : Nat → Int32} {ac : Int32} {an ao as : Nat → Int32} {hc : Int32} {r told st und kept : Nat → Int32} {undos images : Int32} {unit : Int32} {ws steps below above : Nat → Int32} {scale night : Int32}
theorem why_n {x : Int32} : PX7_why 1 x = if x = 0 then 2 else 0 := by rw [PX7_why_eq, if_neg (show ¬ (1 : Int32) = 0 by decide)]
theorem l2_no : (-1 : Int32).toInt64 = -1 := by decide
theorem night_join (h : Rel nodes words unsures slips throne said kind parts pn wt tw uw uo w o ic iw0 io0 iw1 io1 iw2 io2 ac an ao as hc r told st und kept undos images) (hx : CIS nodes unit kind parts pn wt ws steps below above) (hs : PX7_layScale r = scale) (hM : ROk r ∧ RowOk r st ∧ RowOk r told ∧ WorOk st ∧ night.toInt = -1 ∧ 1 ≤ scale.toInt ∧ scale.toInt ≤ 1296) {lv lv' : Nat → Int32} {p0 p1 : Int32} {q6 q7 : Int64} {rf t1 t2 n2 : Int32} (e6 : PX6_night nodes throne unit kind parts pn wt ws w lv p0 p1 = (q6, rf, lv')) (e7 : PX7_night hc r told st scale night p0 p1 = (q7, t1, t2, n2)) : q6 = q7 ∧ rf = t2 := by
  obtain ⟨hR, hQ, hQt, hW, hnt, hsc⟩ := hM
  have k9 : (9 : Int32).toInt = 9 := by decide
  have key : ∃ (q : Int64) (f t y : Int32) (v : Nat → Int32), PX6_night nodes throne unit kind parts pn wt ws w lv p0 p1 = (q, f, v) ∧ PX7_night hc r told st scale night p0 p1 = (q, t, f, y) := by
    rcases h with ⟨rfl, h0⟩ | ⟨N, c, d, rfl, rfl, rfl, rfl, hc, rfl, rfl, hd, hC, hS, hU, hI⟩
    · obtain ⟨h2, h3, h4, h5, h6, h7, rfl, h8, h9⟩ := h0
      refine ⟨-1, 1, 0, night, lv, ?_, ?_⟩
      · rw [PX6_night_eq, ln_0, un2_eq rfl, if_neg (show ¬ (1 : Int32) = 0 by decide)]
      · rw [PX7_night_eq, PX7_good_eq, un2_eq rfl]
        simp only [lt_ap]
        rw [why_0, if_neg (show ¬ (1 : Int32) = 0 by decide), if_pos rfl, no_eq, un2_eq rfl, l2_no]
    · obtain ⟨hN0, hN, hr⟩ := hC.N
      obtain ⟨M, hM, hX⟩ := hx
      obtain rfl : N = M := (nI_eq (by omega) (by have := hX.1; omega)).mp hM
      obtain rfl : unit = scale := (ls_eq hC hX).symm.trans hs
      have hth : r 6 = throne := hC.2.2.2.2.2.2.1
      have ht := hC.2.2.2.2.2.2.2.2.1
      obtain ⟨t, t1, t2⟩ := nd_of hN ht
      have e6 : PX6_night (nI N) throne unit kind parts pn wt ws w lv p0 p1 = if 0 ≤ p0.toInt ∧ p0.toInt ≤ 9 then HX6_night_0 (nI N) throne unit kind parts pn wt ws p0 p1 0 (((2147483647 - (0 : Int32).toInt).toNat) + 1) 0 (PX4_weighNightNone lv (nI N) unit kind w) else (-1, 2, lv) := by
        rw [PX6_night_eq, ln_N hN0 hN, kc_0, k9]
        by_cases c : 0 ≤ p0.toInt ∧ p0.toInt ≤ 9
        · rw [if_pos c, if_pos c, un2_eq rfl, if_pos rfl, lt_ap]
        · rw [if_neg c, if_neg c, un2_eq rfl, if_neg (show ¬ (1 : Int32) = 0 by decide)]
      have e7 : PX7_night 1 r told st unit night p0 p1 = if 0 ≤ p0.toInt ∧ p0.toInt ≤ 9 then (PX7_lowest (PX7_throneBy r told unit p0 st).toInt64 unit.toInt64 p1, 0, 0, -1) else (-1, 0, 2, night) := by
        rw [PX7_night_eq, PX7_good_eq, un2_eq rfl]
        simp only [lt_ap]
        rw [in_eq, kc_0, k9, why_n]
        by_cases c : 0 ≤ p0.toInt ∧ p0.toInt ≤ 9
        · rw [if_pos c, if_pos c, if_neg (show ¬ (1 : Int32) = 0 by decide), if_pos rfl, PX7_throneAt_eq, lt_ap, un2_eq rfl]
        · rw [if_neg c, if_neg c, if_pos rfl, if_neg (show ¬ (2 : Int32) = 0 by decide), if_neg (show ¬ (2 : Int32) = 1 by decide), no_eq, un2_eq rfl, l2_no]
      rw [e6, e7]
      by_cases c : 0 ≤ p0.toInt ∧ p0.toInt ≤ 9
      · rw [if_pos c, if_pos c]
        obtain ⟨D, hD, rfl⟩ : ∃ D : Nat, D ≤ 9 ∧ p0 = nI D := ⟨p0.toInt.toNat, by omega, by rw [fz_eq, nI_toInt (by omega)]; omega⟩
        obtain ⟨G', e⟩ := n6_loop (p1 := p1) (x6 := 0) hC hS hX hR (w_in hC hS hW) hsc hD t1 D 0 (((2147483647 - (0 : Int32).toInt).toNat) + 1) (PX4_weighNightNone lv (nI N) unit kind w) rfl (by omega) (by rw [kc_0]; omega) (nn_eq hX lv)
        have hb := NV_in hC hS hX hR (w_in hC hS hW) hsc (show D < 1000 by omega) t1
        rw [nI_0] at e
        refine ⟨_, 0, 0, -1, G', by rw [t2]; exact e, ?_⟩
        rw [tn_eq hC hS hX hR (by omega) t1 (hth.trans t2), lowest_eq (by rw [Int32.toInt_toInt64]; exact hb.1) (by rw [Int32.toInt_toInt64]; exact hsc.1)]
      · rw [if_neg c, if_neg c]
        exact ⟨_, _, _, _, _, rfl, rfl⟩
  obtain ⟨q, f, t, y, v, g6, g7⟩ := key
  have x := g6.symm.trans e6
  have z := g7.symm.trans e7
  simp only [Prod.mk.injEq] at x z
  obtain ⟨rfl, rfl, -⟩ := x
  obtain ⟨rfl, -, rfl, -⟩ := z
  exact ⟨rfl, rfl⟩
theorem settles_join (h : Rel nodes words unsures slips throne said kind parts pn wt tw uw uo w o ic iw0 io0 iw1 io1 iw2 io2 ac an ao as hc r told st und kept undos images) (hx : CIS nodes unit kind parts pn wt ws steps below above) (hs : PX7_layScale r = scale) (hM : ROk r ∧ RowOk r st ∧ RowOk r told ∧ WorOk st ∧ night.toInt = -1 ∧ 1 ≤ scale.toInt ∧ scale.toInt ≤ 1296) {lv lv' : Nat → Int32} {q6 q7 : Int32} {rf t1 t2 n2 : Int32} (e6 : PX6_settles nodes throne unit kind parts pn wt ws w lv = (q6, rf, lv')) (e7 : PX7_settles hc r told st scale night = (q7, t1, t2, n2)) : q6 = q7 ∧ rf = t2 := by
  obtain ⟨hR, hQ, hQt, hW, hnt, hsc⟩ := hM
  have key : ∃ (q : Int32) (f t y : Int32) (v : Nat → Int32), PX6_settles nodes throne unit kind parts pn wt ws w lv = (q, f, v) ∧ PX7_settles hc r told st scale night = (q, t, f, y) := by
    rcases h with ⟨rfl, h0⟩ | ⟨N, c, d, rfl, rfl, rfl, rfl, hc, rfl, rfl, hd, hC, hS, hU, hI⟩
    · obtain ⟨h2, h3, h4, h5, h6, h7, rfl, h8, h9⟩ := h0
      refine ⟨-1, 1, 0, night, lv, ?_, ?_⟩
      · rw [PX6_settles_eq, lc_0, un2_eq rfl, if_neg (show ¬ (1 : Int32) = 0 by decide)]
      · rw [PX7_settles_eq, PX7_good_eq, un2_eq rfl, if_pos rfl, no_eq, un2_eq rfl]
    · obtain ⟨hN0, hN, hr⟩ := hC.N
      obtain ⟨M, hM, hX⟩ := hx
      obtain rfl : N = M := (nI_eq (by omega) (by have := hX.1; omega)).mp hM
      obtain rfl : unit = scale := (ls_eq hC hX).symm.trans hs
      have hth : r 6 = throne := hC.2.2.2.2.2.2.1
      have ht := hC.2.2.2.2.2.2.2.2.1
      obtain ⟨t, t1, t2⟩ := nd_of hN ht
      obtain ⟨G, e, hG⟩ := weigh_eq hC hS hX hR (w_in hC hS hW) hsc lv
      obtain ⟨G', e2⟩ := s6_loop (x6 := 0) (z := PX7_throneBy r told unit (-1) st) hC hS hX hR (w_in hC hS hW) hsc t1 10 0 (((10 - (0 : Int32).toInt).toNat) + 1) (PX4_weighNightNone G (nI N) unit kind w) rfl (by omega) (by rw [kc_0]; omega) (nn_eq hX G)
      obtain ⟨y', e3⟩ := s7_loop (un := unit) (t0 := 0) (t1 := 0) hC hS hX hR t1 (hth.trans t2) rfl 10 (((10 : Int32).toInt.toNat) + 1) night (by omega) (by decide)
      refine ⟨nI (stF (fun d => NV unit kind parts pn wt ws w d t = PX7_throneBy r told unit (-1) st) 10), 0, 0, y', G', ?_, ?_⟩
      · rw [PX6_settles_eq, lc_N hN0 hN, un2_eq rfl, if_pos rfl, un2_eq e]
        simp only [lt_ap]
        rw [t2]
        have e0 : nI (stF (fun d => NV unit kind parts pn wt ws w d t = PX7_throneBy r told unit (-1) st) 0) = 0 := nI_0
        rw [e0, nI_0] at e2
        exact e2
      · rw [PX7_settles_eq, PX7_good_eq, un2_eq rfl, if_neg (show ¬ (1 : Int32) = 0 by decide)]
        exact e3
  obtain ⟨q, f, t, y, v, g6, g7⟩ := key
  have x := g6.symm.trans e6
  have z := g7.symm.trans e7
  simp only [Prod.mk.injEq] at x z
  obtain ⟨rfl, rfl, -⟩ := x
  obtain ⟨rfl, -, rfl, -⟩ := z
  exact ⟨rfl, rfl⟩
end FJ
end F8
end
section
/-! worths by rows of worths, which of them grow with which -/
section F9
def VV (un : Int32) (kind parts pn wt ws W : Nat → Int32) : Nat → Nat → Int32
  | 0, _ => 0
  | n + 1, k => if kind k = 0 then W k * un else Jv (kind k) (ws k) wt (fun i => VV un kind parts pn wt ws W n (pn (4 * k + i)).toNatClampNeg) k (parts k).toNatClampNeg
theorem ediv_mono {a b c : Int} (h : a ≤ b) (hc : 0 < c) : a / c ≤ b / c := Int.ediv_le_ediv hc h
section WQ
variable {N : Nat} {words unsures slips throne said unit : Int32} {kind parts pn wt tw uw uo r told W W' o Q ws steps below above : Nat → Int32}
theorem VV_at {un : Int32} {n k q : Nat} (hp : parts k = nI q) (hq : q ≤ 4) : VV un kind parts pn wt ws W (n + 1) k = if kind k = 0 then W k * un else Jv (kind k) (ws k) wt (fun i => VV un kind parts pn wt ws W n (pn (4 * k + i)).toNatClampNeg) k q := by
  rw [VV, hp, nI_clamp (by omega)]
theorem VV_fuel (hI : CI N unit kind parts pn wt ws steps below above) {un : Int32} (k : Nat) : ∀ n m : Nat, k < n → k < m → k < N → VV un kind parts pn wt ws W n k = VV un kind parts pn wt ws W m k := by
  have hN := hI.1
  induction k using Nat.strongRecOn with
  | _ k ih =>
    intro n m h1 h2 hk
    obtain ⟨n, rfl⟩ : ∃ g, n = g + 1 := ⟨n - 1, by omega⟩
    obtain ⟨m, rfl⟩ : ∃ g, m = g + 1 := ⟨m - 1, by omega⟩
    obtain ⟨q, hp, hD⟩ := hI.2.1 k hk
    rw [VV_at hp hD.1, VV_at hp hD.1]
    by_cases h0 : kind k = 0
    · rw [if_pos h0, if_pos h0]
    · rw [if_neg h0, if_neg h0]
      refine Jv_congr (fun i hi => ?_)
      obtain ⟨j, j1, j2⟩ := hD.2.2.2.2.1 i hi
      show VV un kind parts pn wt ws W n (pn (4 * k + i)).toNatClampNeg = VV un kind parts pn wt ws W m (pn (4 * k + i)).toNatClampNeg
      rw [j2, nI_clamp (by omega)]
      exact ih j j1 n m (by omega) (by omega) (by omega)
theorem VV_congr (hI : CI N unit kind parts pn wt ws steps below above) {un : Int32} (h : ∀ k : Nat, k < N → kind k = 0 → W' k = W k) : ∀ n k : Nat, k < N → VV un kind parts pn wt ws W' n k = VV un kind parts pn wt ws W n k := by
  have hN := hI.1
  intro n
  induction n with
  | zero => intro k _; rfl
  | succ n ih =>
    intro k hk
    obtain ⟨q, hp, hD⟩ := hI.2.1 k hk
    rw [VV_at hp hD.1, VV_at hp hD.1]
    by_cases h0 : kind k = 0
    · rw [if_pos h0, if_pos h0, h k hk h0]
    · rw [if_neg h0, if_neg h0]
      refine Jv_congr (fun i hi => ?_)
      obtain ⟨j, j1, j2⟩ := hD.2.2.2.2.1 i hi
      show VV un kind parts pn wt ws W' n (pn (4 * k + i)).toNatClampNeg = VV un kind parts pn wt ws W n (pn (4 * k + i)).toNatClampNeg
      rw [j2, nI_clamp (by omega)]
      exact ih j (by omega)
/-- the reference's worths are these -/
theorem wv_eq (hC : CR N words unsures slips throne said kind parts pn wt tw uw uo r told) (hS : StR N parts pn W o Q) (hI : CI N unit kind parts pn wt ws steps below above) (hR : ROk r) {sc : Int32} : ∀ (n k d : Nat), k < N → d + n < 1000 → PX7_worthAt n (-1) r told sc Q (nI k) (nI d) = VV sc kind parts pn wt ws W n k := by
  have hN := hI.1
  intro n
  induction n with
  | zero => intro k d _ _; rfl
  | succ n ih =>
    intro k d hk hd
    obtain ⟨q, hp, hD⟩ := hI.2.1 k hk
    rw [wa_step hC hS hR hk hp hD, VV_at hp hD.1, if_neg (nIm1 (show d < 2 ^ 31 by omega))]
    by_cases h0 : kind k = 0
    · rw [if_pos h0, if_pos h0]
    · rw [if_neg h0, if_neg h0]
      refine Jv_congr (fun i hi => ?_)
      obtain ⟨j, j1, j2⟩ := hD.2.2.2.2.1 i hi
      show PX7_worthAt n (-1) r told sc Q (pn (4 * k + i)) (nI (d + 1)) = VV sc kind parts pn wt ws W n (pn (4 * k + i)).toNatClampNeg
      rw [j2, nI_clamp (by omega)]
      exact ih j (d + 1) (by omega) (by omega)
theorem tv_eq (hC : CR N words unsures slips throne said kind parts pn wt tw uw uo r told) (hS : StR N parts pn W o Q) (hI : CI N unit kind parts pn wt ws steps below above) (hR : ROk r) {sc : Int32} {t : Nat} (ht : t < N) (hth : r 6 = nI t) : PX7_throneBy r told sc (-1) Q = VV sc kind parts pn wt ws W 18 t := by
  have hN := hI.1
  have e := wv_eq hC hS hI hR (sc := sc) 18 t 0 ht (by omega)
  rw [PX7_throneBy_eq]
  simp only [lt_ap]
  rw [six_cl, hth, PX7_worthOf_eq, lt_ap, ← nI_0]
  exact e
theorem VV_in (hC : CR N words unsures slips throne said kind parts pn wt tw uw uo r told) (hI : CI N unit kind parts pn wt ws steps below above) (hR : ROk r) (hW : ∀ k : Nat, k < N → kind k = 0 → 0 ≤ (W k).toInt ∧ (W k).toInt ≤ 99) {sc : Int32} (hs : 1 ≤ sc.toInt ∧ sc.toInt ≤ 1296) (k : Nat) : ∀ n : Nat, k < n → k < N → 0 ≤ (VV sc kind parts pn wt ws W n k).toInt ∧ (VV sc kind parts pn wt ws W n k).toInt ≤ 128304 := by
  have hN := hI.1
  induction k using Nat.strongRecOn with
  | _ k ih =>
    intro n h1 hk
    obtain ⟨n, rfl⟩ : ∃ g, n = g + 1 := ⟨n - 1, by omega⟩
    obtain ⟨q, hp, hD⟩ := hI.2.1 k hk
    have hq := hD.1
    rw [VV_at hp hq]
    by_cases h0 : kind k = 0
    · obtain ⟨a, b⟩ := hW k hk h0
      have p1 : 0 ≤ (W k).toInt * sc.toInt := Int.mul_nonneg a (by omega)
      have p2 : (W k).toInt * sc.toInt ≤ 99 * 1296 := Int.mul_le_mul b hs.2 (by omega) (by decide)
      rw [if_pos h0, fb_mulI (by omega) (by omega)]
      omega
    · rw [if_neg h0]
      refine Jv_in (by decide) (by decide) hq (q1_of hC hR hk hp hq h0) (fun h3 => w9_of hC hR hk hp hD h3) (fun i hi => ?_)
      obtain ⟨j, j1, j2⟩ := hD.2.2.2.2.1 i hi
      show 0 ≤ (VV sc kind parts pn wt ws W n (pn (4 * k + i)).toNatClampNeg).toInt ∧ _
      rw [j2, nI_clamp (by omega)]
      exact ih j j1 n (by omega) (by omega)
/-- what the class weighs -/
theorem weighV (hC : CR N words unsures slips throne said kind parts pn wt tw uw uo r told) (hI : CI N unit kind parts pn wt ws steps below above) (hR : ROk r) (hW : ∀ k : Nat, k < N → kind k = 0 → 0 ≤ (W k).toInt ∧ (W k).toInt ≤ 99) {un : Int32} (hs : 1 ≤ un.toInt ∧ un.toInt ≤ 1296) {t : Nat} (hth : throne = nI t) (ht : t < N) (V : Nat → Int32) : ∃ G' : Nat → Int32, PX4_weighAll V (nI N) throne un kind parts pn wt ws W = (VV un kind parts pn wt ws W 18 t, G') ∧ ∀ j : Nat, j < N → G' j = VV un kind parts pn wt ws W 18 j := by
  have hN := hI.1
  obtain ⟨G', e, hG⟩ := wall_loop (T := VV un kind parts pn wt ws W 18) (W := W) hC hI hR (un := un) (fun k q hk hp hq4 => by
    obtain ⟨q', hp', hD⟩ := hI.2.1 k hk
    obtain rfl : q = q' := (nI_eq (by omega) (by have := hD.1; omega)).mp (hp.symm.trans hp')
    have e9 : Jv (kind k) (ws k) wt (fun i => VV un kind parts pn wt ws W 17 (pn (4 * k + i)).toNatClampNeg) k q = Jv (kind k) (ws k) wt (fun i => VV un kind parts pn wt ws W 18 (pn (4 * k + i)).toNatClampNeg) k q := Jv_congr (fun i hi => by
      obtain ⟨j, j1, j2⟩ := hD.2.2.2.2.1 i hi
      show VV un kind parts pn wt ws W 17 (pn (4 * k + i)).toNatClampNeg = VV un kind parts pn wt ws W 18 (pn (4 * k + i)).toNatClampNeg
      rw [j2, nI_clamp (by omega)]
      exact VV_fuel hI j 17 18 (by omega) (by omega) (by omega))
    rw [← e9, show (18 : Nat) = 17 + 1 from rfl]
    exact VV_at hp hD.1) (fun k hk => by
    have a := VV_in hC hI hR hW hs k 18 (by omega) hk
    omega) N 0 (((2147483647 - (0 : Int32).toInt).toNat) + 1) V rfl (by omega) (by rw [kc_0]; omega) (fun j hj => absurd hj (by omega))
  rw [nI_0, hth, nI_clamp (by omega)] at e
  refine ⟨G', ?_, hG⟩
  rw [PX4_weighAll_eq, hth]
  exact e
theorem pfA_mono {v v' w : Nat → Int32} {X : Int} (hX : X ≤ 1000000) (h0 : 0 ≤ X) : ∀ m : Nat, m ≤ 4 → (∀ i : Nat, i < m → 0 ≤ (v i).toInt ∧ (v i).toInt ≤ X) → (∀ i : Nat, i < m → 0 ≤ (v' i).toInt ∧ (v' i).toInt ≤ X) → (∀ i : Nat, i < m → (v i).toInt ≤ (v' i).toInt) → (∀ i : Nat, i < m → 1 ≤ (w i).toInt ∧ (w i).toInt ≤ 9) → (pf opA 0 (fun i => v i * w i) m).toInt ≤ (pf opA 0 (fun i => v' i * w i) m).toInt
  | 0, _, _, _, _, _ => Int.le_refl _
  | m + 1, hm, hv, hv', hh, hw => by
    have ih := pfA_mono hX h0 m (by omega) (fun i hi => hv i (by omega)) (fun i hi => hv' i (by omega)) (fun i hi => hh i (by omega)) (fun i hi => hw i (by omega))
    obtain ⟨a1, a2⟩ := sum_vw hX h0 m (by omega) (fun i hi => hv i (by omega)) (fun i hi => hw i (by omega))
    obtain ⟨c1, c2⟩ := sum_vw hX h0 m (by omega) (fun i hi => hv' i (by omega)) (fun i hi => hw i (by omega))
    obtain ⟨b1, b2⟩ := sum_w m (by omega) (fun i hi => hw i (by omega))
    obtain ⟨d1, d2⟩ := hw m (by omega)
    obtain ⟨f1, f2⟩ := hv m (by omega)
    obtain ⟨g1, g2⟩ := hv' m (by omega)
    have p4 : X * (pf opA 0 w m).toInt ≤ 1000000 * 27 := Int.mul_le_mul hX (by omega) (by omega) (by decide)
    have p1 : 0 ≤ (v m).toInt * (w m).toInt := Int.mul_nonneg f1 (by omega)
    have q1 : 0 ≤ (v' m).toInt * (w m).toInt := Int.mul_nonneg g1 (by omega)
    have p2 : (v m).toInt * (w m).toInt ≤ 1000000 * 9 := Int.mul_le_mul (by omega) d2 (by omega) (by decide)
    have q2 : (v' m).toInt * (w m).toInt ≤ 1000000 * 9 := Int.mul_le_mul (by omega) d2 (by omega) (by decide)
    have p3 : (v m).toInt * (w m).toInt ≤ (v' m).toInt * (w m).toInt := Int.mul_le_mul_of_nonneg_right (hh m (by omega)) (by omega)
    have e1 : (v m * w m).toInt = (v m).toInt * (w m).toInt := fb_mulI (by omega) (by omega)
    have e2 : (v' m * w m).toInt = (v' m).toInt * (w m).toInt := fb_mulI (by omega) (by omega)
    have e3 : (pf opA 0 (fun i => v i * w i) m + v m * w m).toInt = (pf opA 0 (fun i => v i * w i) m).toInt + (v m).toInt * (w m).toInt := by rw [fb_addI (by rw [e1]; omega) (by rw [e1]; omega), e1]
    have e4 : (pf opA 0 (fun i => v' i * w i) m + v' m * w m).toInt = (pf opA 0 (fun i => v' i * w i) m).toInt + (v' m).toInt * (w m).toInt := by rw [fb_addI (by rw [e2]; omega) (by rw [e2]; omega), e2]
    show (pf opA 0 (fun i => v i * w i) m + v m * w m).toInt ≤ (pf opA 0 (fun i => v' i * w i) m + v' m * w m).toInt
    rw [e3, e4]
    omega
theorem pfM_mono {v v' : Nat → Int32} {z : Int32} : ∀ m : Nat, (∀ i : Nat, i < m → (v i).toInt ≤ (v' i).toInt) → (pf opM z v m).toInt ≤ (pf opM z v' m).toInt
  | 0, _ => Int.le_refl _
  | m + 1, h => by
    have ih := pfM_mono (z := z) m (fun i hi => h i (by omega))
    have hm := h m (by omega)
    have e1 : (pf opM z v (m + 1)).toInt = max (pf opM z v m).toInt (v m).toInt := opM_i _ _
    have e2 : (pf opM z v' (m + 1)).toInt = max (pf opM z v' m).toInt (v' m).toInt := opM_i _ _
    rw [e1, e2]
    omega
theorem pfN_mono {v v' : Nat → Int32} {z : Int32} : ∀ m : Nat, (∀ i : Nat, i < m → (v i).toInt ≤ (v' i).toInt) → (pf opN z v m).toInt ≤ (pf opN z v' m).toInt
  | 0, _ => Int.le_refl _
  | m + 1, h => by
    have ih := pfN_mono (z := z) m (fun i hi => h i (by omega))
    have hm := h m (by omega)
    have e1 : (pf opN z v (m + 1)).toInt = min (pf opN z v m).toInt (v m).toInt := opN_i _ _
    have e2 : (pf opN z v' (m + 1)).toInt = min (pf opN z v' m).toInt (v' m).toInt := opN_i _ _
    rw [e1, e2]
    omega
theorem Jv_mono {kd s : Int32} {v v' : Nat → Int32} {k q : Nat} {X : Int} (hX : X ≤ 1000000) (h0 : 0 ≤ X) (hq : q ≤ 4) (hq1 : 1 ≤ q) (hs : kd = 3 → s = pf opA 0 (fun i => wt (4 * k + i)) q ∧ ∀ i : Nat, i < q → 1 ≤ (wt (4 * k + i)).toInt ∧ (wt (4 * k + i)).toInt ≤ 9) (hv : ∀ i : Nat, i < q → 0 ≤ (v i).toInt ∧ (v i).toInt ≤ X) (hv' : ∀ i : Nat, i < q → 0 ≤ (v' i).toInt ∧ (v' i).toInt ≤ X) (hh : ∀ i : Nat, i < q → (v i).toInt ≤ (v' i).toInt) : (Jv kd s wt v k q).toInt ≤ (Jv kd s wt v' k q).toInt := by
  unfold Jv
  by_cases c3 : kd = 3
  · obtain ⟨e, hw⟩ := hs c3
    have a1 := (sum_vw (w := fun i => wt (4 * k + i)) hX h0 q hq hv hw).1
    have a2 := (sum_vw (w := fun i => wt (4 * k + i)) hX h0 q hq hv' hw).1
    have m1 := pfA_mono (w := fun i => wt (4 * k + i)) hX h0 q hq hv hv' hh hw
    obtain ⟨b1, b2⟩ := sum_w (w := fun i => wt (4 * k + i)) q hq hw
    rw [if_pos c3, if_pos c3, e]
    generalize pf opA 0 (fun i => v i * wt (4 * k + i)) q = A at a1 m1 ⊢
    generalize pf opA 0 (fun i => v' i * wt (4 * k + i)) q = A' at a2 m1 ⊢
    generalize pf opA 0 (fun i => wt (4 * k + i)) q = S at b1 b2 ⊢
    rw [ti_divE (z := A / S) rfl rfl rfl a1 (by omega), ti_divE (z := A' / S) rfl rfl rfl a2 (by omega)]
    exact ediv_mono m1 (by omega)
  · rw [if_neg c3, if_neg c3]
    by_cases c1 : kd = 1
    · rw [if_pos c1, if_pos c1]; exact pfM_mono q hh
    · rw [if_neg c1, if_neg c1]; exact pfN_mono q hh
theorem VV_mono (hC : CR N words unsures slips throne said kind parts pn wt tw uw uo r told) (hI : CI N unit kind parts pn wt ws steps below above) (hR : ROk r) (hW : ∀ k : Nat, k < N → kind k = 0 → 0 ≤ (W k).toInt ∧ (W k).toInt ≤ 99) (hW' : ∀ k : Nat, k < N → kind k = 0 → 0 ≤ (W' k).toInt ∧ (W' k).toInt ≤ 99) (hh : ∀ k : Nat, k < N → kind k = 0 → (W k).toInt ≤ (W' k).toInt) {sc : Int32} (hs : 1 ≤ sc.toInt ∧ sc.toInt ≤ 1296) (k : Nat) : ∀ n : Nat, k < n → k < N → (VV sc kind parts pn wt ws W n k).toInt ≤ (VV sc kind parts pn wt ws W' n k).toInt := by
  have hN := hI.1
  induction k using Nat.strongRecOn with
  | _ k ih =>
    intro n h1 hk
    obtain ⟨n, rfl⟩ : ∃ g, n = g + 1 := ⟨n - 1, by omega⟩
    obtain ⟨q, hp, hD⟩ := hI.2.1 k hk
    have hq := hD.1
    rw [VV_at hp hq, VV_at hp hq]
    by_cases h0 : kind k = 0
    · obtain ⟨a, b⟩ := hW k hk h0
      obtain ⟨a', b'⟩ := hW' k hk h0
      have p0 := hh k hk h0
      have p1 : 0 ≤ (W k).toInt * sc.toInt := Int.mul_nonneg a (by omega)
      have p2 : (W' k).toInt * sc.toInt ≤ 99 * 1296 := Int.mul_le_mul b' hs.2 (by omega) (by decide)
      have p3 : (W k).toInt * sc.toInt ≤ (W' k).toInt * sc.toInt := Int.mul_le_mul_of_nonneg_right p0 (by omega)
      rw [if_pos h0, if_pos h0, fb_mulI (by omega) (by omega), fb_mulI (by omega) (by omega)]
      exact p3
    · rw [if_neg h0, if_neg h0]
      have hc : ∀ (V : Nat → Int32), (∀ k : Nat, k < N → kind k = 0 → 0 ≤ (V k).toInt ∧ (V k).toInt ≤ 99) → ∀ i : Nat, i < q → 0 ≤ (VV sc kind parts pn wt ws V n (pn (4 * k + i)).toNatClampNeg).toInt ∧ (VV sc kind parts pn wt ws V n (pn (4 * k + i)).toNatClampNeg).toInt ≤ 128304 := fun V hV i hi => by
        obtain ⟨j, j1, j2⟩ := hD.2.2.2.2.1 i hi
        rw [j2, nI_clamp (by omega)]
        exact VV_in hC hI hR hV hs j n (by omega) (by omega)
      refine Jv_mono (X := 128304) (by decide) (by decide) hq (q1_of hC hR hk hp hq h0) (fun h3 => w9_of hC hR hk hp hD h3) (hc W hW) (hc W' hW') (fun i hi => ?_)
      obtain ⟨j, j1, j2⟩ := hD.2.2.2.2.1 i hi
      show (VV sc kind parts pn wt ws W n (pn (4 * k + i)).toNatClampNeg).toInt ≤ (VV sc kind parts pn wt ws W' n (pn (4 * k + i)).toNatClampNeg).toInt
      rw [j2, nI_clamp (by omega)]
      exact ih j j1 n (by omega) (by omega)
end WQ
end F9
end
section
/-! turns: on both sides -/
section F10
theorem nI_half (n : Nat) (h : n < 2 ^ 31) : nI n / 2 = nI (n / 2) := by
  have k2 : (2 : Int32).toInt = 2 := by decide
  rw [fz_eq, ti_divE (z := nI n / 2) rfl (nI_toInt h) k2 (by omega) (by omega), nI_toInt (by omega)]
  omega
/-- the least change within room by which the throne's worth is another one, or -2 -/
def LTs (A : Nat → Int32) (now : Int32) (room : Nat) (R : Int32) : Prop := (R = -2 ∧ ∀ c : Nat, 1 ≤ c → c ≤ room → A c = now) ∨ ∃ c0 : Nat, 1 ≤ c0 ∧ c0 ≤ room ∧ R = nI c0 ∧ ¬ A c0 = now ∧ ∀ c : Nat, 1 ≤ c → c < c0 → A c = now
def hitB (Au Ad : Nat → Int32) (now : Int32) (ru rd c : Nat) : Prop := (c ≤ ru ∧ ¬ Au c = now) ∨ (c ≤ rd ∧ ¬ Ad c = now)
def TSs (H : Nat → Prop) (R : Int32) : Prop := (R = -2 ∧ ∀ c : Nat, 1 ≤ c → c ≤ 99 → ¬ H c) ∨ ∃ c0 : Nat, 1 ≤ c0 ∧ c0 ≤ 99 ∧ R = nI c0 ∧ H c0 ∧ ∀ c : Nat, 1 ≤ c → c < c0 → ¬ H c
theorem TSs.one {H : Nat → Prop} {R R' : Int32} (h : TSs H R) (h' : TSs H R') : R = R' := by
  rcases h with ⟨e, n⟩ | ⟨c, c1, c2, e, hc, n⟩ <;> rcases h' with ⟨e', n'⟩ | ⟨c', c1', c2', e', hc', n'⟩
  · rw [e, e']
  · exact absurd hc' (n c' c1' c2')
  · exact absurd hc (n' c c1 c2)
  · rcases Nat.lt_trichotomy c c' with q | q | q
    · exact absurd hc (n' c c1 q)
    · rw [e, e', q]
    · exact absurd hc' (n c' c1' q)
theorem TSs.of {Au Ad : Nat → Int32} {now U D R : Int32} {ru rd : Nat} (hu : LTs Au now ru U) (hd : LTs Ad now rd D) (h1 : ru ≤ 99) (h2 : rd ≤ 99) (hR : R = if U < 0 then (if U < D then D else U) else if 0 ≤ D then (if D < U then D else U) else (if U < D then D else U)) : TSs (hitB Au Ad now ru rd) R := by
  have m2 : (-2 : Int32) < 0 := by decide
  rcases hu with ⟨rfl, nu⟩ | ⟨a, a1, a2, rfl, ha, nu⟩ <;> rcases hd with ⟨rfl, nd⟩ | ⟨b, b1, b2, rfl, hb, nd⟩
  · rw [if_pos m2, if_neg (show ¬ (-2 : Int32) < -2 by decide)] at hR
    refine Or.inl ⟨hR, fun c c1 _ q => ?_⟩
    rcases q with ⟨q1, q2⟩ | ⟨q1, q2⟩
    · exact q2 (nu c c1 q1)
    · exact q2 (nd c c1 q1)
  · rw [if_pos m2, if_pos (show (-2 : Int32) < nI b by rw [fz_lt, nI_toInt (by omega), show (-2 : Int32).toInt = -2 by decide]; omega)] at hR
    refine Or.inr ⟨b, b1, by omega, hR, Or.inr ⟨b2, hb⟩, fun c c1 c2 q => ?_⟩
    rcases q with ⟨q1, q2⟩ | ⟨q1, q2⟩
    · exact q2 (nu c c1 q1)
    · exact q2 (nd c c1 c2)
  · rw [if_neg (nI_pos (by omega)), if_neg (show ¬ (0 : Int32) ≤ -2 by decide), if_neg (show ¬ nI a < (-2 : Int32) by rw [fz_lt, nI_toInt (by omega), show (-2 : Int32).toInt = -2 by decide]; omega)] at hR
    refine Or.inr ⟨a, a1, by omega, hR, Or.inl ⟨a2, ha⟩, fun c c1 c2 q => ?_⟩
    rcases q with ⟨q1, q2⟩ | ⟨q1, q2⟩
    · exact q2 (nu c c1 c2)
    · exact q2 (nd c c1 q1)
  · rw [if_neg (nI_pos (by omega)), if_pos (nI_pos' (by omega))] at hR
    by_cases cc : b < a
    · rw [if_pos (nI_lt cc (by omega))] at hR
      refine Or.inr ⟨b, b1, by omega, hR, Or.inr ⟨b2, hb⟩, fun c c1 c2 q => ?_⟩
      rcases q with ⟨q1, q2⟩ | ⟨q1, q2⟩
      · exact q2 (nu c c1 (by omega))
      · exact q2 (nd c c1 c2)
    · rw [if_neg (nI_nlt (by omega) (by omega))] at hR
      refine Or.inr ⟨a, a1, by omega, hR, Or.inl ⟨a2, ha⟩, fun c c1 c2 q => ?_⟩
      rcases q with ⟨q1, q2⟩ | ⟨q1, q2⟩
      · exact q2 (nu c c1 c2)
      · exact q2 (nd c c1 (by omega))
section TL
variable {un throne now way : Int32} {kind parts pn wt ws w st r told : Nat → Int32} {N k room : Nat} {T : Int32 → Int32} {X : Nat → Int32}
theorem lt_loop (hk : k < 18) (hr : room ≤ 99) (h6 : ∀ (V S : Nat → Int32) (c : Nat), c ≤ room → ∃ V' S' : Nat → Int32, PX4_throneByWord V S (nI N) throne un kind parts pn wt ws w (nI k) (X c) = (T (X c), V', S')) (hX : ∀ c : Nat, c ≤ room → w k + way * nI c = X c) (hm : ∀ c c' : Nat, c ≤ c' → c' ≤ room → ¬ T (X c) = now → ¬ T (X c') = now) : ∀ (m a b i f : Nat) (V S : Nat → Int32), b - a ≤ m → 1 ≤ a → a ≤ b → b ≤ room → b - a + i ≤ 98 → m < f → ¬ T (X b) = now → (∀ c : Nat, 1 ≤ c → c < a → T (X c) = now) → ∃ (c0 : Nat) (V' S' : Nat → Int32), HX6_leastTurnTowards_0 (nI N) throne un kind parts pn wt ws w (nI k) way now f (nI i) (nI b) (nI a) V S = (nI c0, V', S') ∧ 1 ≤ c0 ∧ c0 ≤ room ∧ ¬ T (X c0) = now ∧ ∀ c : Nat, 1 ≤ c → c < c0 → T (X c) = now := by
  have k99 : (99 : Int32).toInt = 99 := by decide
  intro m
  induction m with
  | zero =>
    intro a b i f V S h1 h2 h3 h4 h5 hf hb ha
    obtain ⟨f, rfl⟩ : ∃ g, f = g + 1 := ⟨f - 1, by omega⟩
    obtain rfl : a = b := by omega
    refine ⟨a, V, S, ?_, h2, h4, hb, ha⟩
    rw [HX6_leastTurnTowards_0_eq, if_neg (show ¬ (99 : Int32) ≤ nI i by rw [fz_le, k99, nI_toInt (by omega)]; omega), if_pos (nI_le (Nat.le_refl _) (by omega))]
  | succ m ih =>
    intro a b i f V S h1 h2 h3 h4 h5 hf hb ha
    obtain ⟨f, rfl⟩ : ∃ g, f = g + 1 := ⟨f - 1, by omega⟩
    rw [HX6_leastTurnTowards_0_eq, if_neg (show ¬ (99 : Int32) ≤ nI i by rw [fz_le, k99, nI_toInt (by omega)]; omega)]
    by_cases c : b ≤ a
    · obtain rfl : a = b := by omega
      exact ⟨a, V, S, by rw [if_pos (nI_le (Nat.le_refl _) (by omega))], h2, h4, hb, ha⟩
    · rw [if_neg (show ¬ nI b ≤ nI a by rw [nI_leI (by omega) (by omega)]; omega)]
      simp only [lt_ap]
      rw [nI_add, nI_half _ (by omega), nI_clamp (show k < 2 ^ 31 by omega), hX ((a + b) / 2) (by omega)]
      obtain ⟨V', S', e⟩ := h6 V S ((a + b) / 2) (by omega)
      rw [un3_eq e]
      by_cases cT : T (X ((a + b) / 2)) = now
      · rw [if_pos cT, nI_o1, nI_1]
        exact ih ((a + b) / 2 + 1) b (i + 1) f V' S' (by omega) (by omega) (by omega) h4 (by omega) (by omega) hb (fun c c1 c2 => by
          by_cases q : T (X c) = now
          · exact q
          · exact absurd cT (hm c ((a + b) / 2) (by omega) (by omega) q))
      · rw [if_neg cT, nI_o1]
        exact ih a ((a + b) / 2) (i + 1) f V' S' (by omega) h2 (by omega) (by omega) (by omega) (by omega) cT ha
theorem lt_eq6 (hk : k < 18) (hr : room ≤ 99) (h6 : ∀ (V S : Nat → Int32) (c : Nat), c ≤ room → ∃ V' S' : Nat → Int32, PX4_throneByWord V S (nI N) throne un kind parts pn wt ws w (nI k) (X c) = (T (X c), V', S')) (hX : ∀ c : Nat, c ≤ room → w k + way * nI c = X c) (hm : ∀ c c' : Nat, c ≤ c' → c' ≤ room → ¬ T (X c) = now → ¬ T (X c') = now) (h0 : T (X 0) = now) (V S : Nat → Int32) : ∃ (R : Int32) (V' S' : Nat → Int32), PX6_leastTurnTowards (nI N) throne un kind parts pn wt ws w V S (nI k) way (nI room) now = (R, V', S') ∧ LTs (fun c => T (X c)) now room R := by
  obtain ⟨V', S', e⟩ := h6 V S room (Nat.le_refl _)
  have e1 : PX6_leastTurnTowards (nI N) throne un kind parts pn wt ws w V S (nI k) way (nI room) now = if T (X room) = now then (-2, V', S') else HX6_leastTurnTowards_0 (nI N) throne un kind parts pn wt ws w (nI k) way now (((2147483647 - (0 : Int32).toInt).toNat) + 1) 0 (nI room) 1 V' S' := by
    rw [PX6_leastTurnTowards_eq]
    simp only [lt_ap]
    rw [nI_clamp (show k < 2 ^ 31 by omega), hX room (Nat.le_refl _), un3_eq e]
  rw [e1]
  by_cases c : T (X room) = now
  · refine ⟨-2, V', S', by rw [if_pos c], Or.inl ⟨rfl, fun c' c1 c2 => ?_⟩⟩
    by_cases q : T (X c') = now
    · exact q
    · exact absurd c (hm c' room c2 (Nat.le_refl _) q)
  · have hr1 : 1 ≤ room := by
      by_cases q : room = 0
      · rw [q] at c; exact absurd h0 c
      · omega
    obtain ⟨c0, V2, S2, e2, a1, a2, a3, a4⟩ := lt_loop hk hr h6 hX hm 98 1 room 0 (((2147483647 - (0 : Int32).toInt).toNat) + 1) V' S' (by omega) (by omega) hr1 (Nat.le_refl _) (by omega) (by rw [kc_0]; omega) c (fun c c1 c2 => absurd c1 (by omega))
    rw [nI_0] at e2
    refine ⟨nI c0, V2, S2, by rw [if_neg c]; exact e2, Or.inr ⟨c0, a1, a2, rfl, a3, a4⟩⟩
/-- the reference's search -/
theorem t7_in {wk : Nat} {K : Int32 → (Nat → Int32) → Int32 × (Nat → Int32)} {off s : Int32} (hk : k < 18) (hs : ¬ (2 : Int32) ≤ s) (h7 : ∀ (g : Nat → Int32) (x : Int32), g (72 + k) = x → (∀ q : Nat, q < 90 → ¬ q = 72 + k → g q = st q) → PX7_throneBy r told un (-1) g = T x) (f : Nat) {F : Nat → Int32} (hF : ∀ q : Nat, q < 90 → ¬ q = 72 + k → F q = st q) : ∃ F' : Nat → Int32, (∀ q : Nat, q < 90 → ¬ q = 72 + k → F' q = st q) ∧ HX7_turnOf_1 r told st un (-1) (nI k) now off K (f + 1) s F = if (0 ≤ (st (72 + k) + s * off).toInt ∧ (st (72 + k) + s * off).toInt ≤ 99) ∧ ¬ T (st (72 + k) + s * off) = now then (off, F') else HX7_turnOf_1 r told st un (-1) (nI k) now off K f (s + Int32.ofInt 2) F' := by
  have k99 : (99 : Int32).toInt = 99 := by decide
  have hF2 : ∀ q : Nat, q < 90 → ¬ q = 72 + k → upd F (72 + k) (st (72 + k) + s * off) q = st q := fun q q1 q2 => by rw [upd_ne q2]; exact hF q q1 q2
  refine ⟨upd F (72 + k) (st (72 + k) + s * off), hF2, ?_⟩
  rw [HX7_turnOf_1_eq, if_neg hs]
  simp only [lt_ap]
  rw [show (72 : Int32) + nI k = nI (72 + k) from nI_add 72 k, nI_clamp (show 72 + k < 2 ^ 31 by omega), upd_at, in_eq, kc_0, k99, h7 _ _ (upd_at _ _ _) hF2]
  by_cases c : 0 ≤ (st (72 + k) + s * off).toInt ∧ (st (72 + k) + s * off).toInt ≤ 99
  · rw [if_pos c, if_neg (show ¬ (1 : Int32) = 0 by decide)]
    by_cases q : T (st (72 + k) + s * off) = now
    · rw [if_pos q, if_neg (fun z => z.2 q)]
    · rw [if_neg q, if_pos ⟨c, q⟩]
  · rw [if_neg c, if_pos rfl, if_neg (fun z => c z.1)]
theorem t7_loop {wk : Nat} (hk : k < 18) (hw : st (72 + k) = nI wk) (hwk : wk ≤ 99) (h7 : ∀ (g : Nat → Int32) (x : Int32), g (72 + k) = x → (∀ q : Nat, q < 90 → ¬ q = 72 + k → g q = st q) → PX7_throneBy r told un (-1) g = T x) : ∀ (m c f : Nat) (F : Nat → Int32), 100 - c = m → 1 ≤ c → c ≤ 100 → m < f → (∀ q : Nat, q < 90 → ¬ q = 72 + k → F q = st q) → (∀ c' : Nat, 1 ≤ c' → c' < c → ¬ hitB (fun c => T (nI (wk + c))) (fun c => T (nI (wk - c))) now (99 - wk) wk c') → ∃ (R : Int32) (F' : Nat → Int32), HX7_turnOf_0 r told st un (-1) (nI k) now f (nI c) F = (R, F') ∧ TSs (hitB (fun c => T (nI (wk + c))) (fun c => T (nI (wk - c))) now (99 - wk) wk) R := by
  have k100 : (100 : Int32).toInt = 100 := by decide
  have km1 : (-1 : Int32).toInt = -1 := by decide
  intro m
  induction m with
  | zero =>
    intro c f F hm h1 h2 hf hF hn
    obtain ⟨f, rfl⟩ : ∃ g, f = g + 1 := ⟨f - 1, by omega⟩
    obtain rfl : c = 100 := by omega
    refine ⟨-2, F, by rw [HX7_turnOf_0_eq, if_pos (show (100 : Int32) ≤ nI 100 by decide)], Or.inl ⟨rfl, fun c' c1 c2 => hn c' c1 (by omega)⟩⟩
  | succ m ih =>
    intro c f F hm h1 h2 hf hF hn
    obtain ⟨f, rfl⟩ : ∃ g, f = g + 1 := ⟨f - 1, by omega⟩
    have ev : (-1 : Int32) * nI c = nI wk * 0 + -1 * nI c := by
      rw [Int32.mul_zero, Int32.zero_add]
    have xd : (nI wk + -1 * nI c).toInt = (wk : Int) - c := by
      have e1 : ((-1 : Int32) * nI c).toInt = -(c : Int) := by
        rw [fb_mulI (by rw [km1, nI_toInt (by omega)]; omega) (by rw [km1, nI_toInt (by omega)]; omega), km1, nI_toInt (by omega)]
        omega
      rw [fb_addI (by rw [e1, nI_toInt (by omega)]; omega) (by rw [e1, nI_toInt (by omega)]; omega), e1, nI_toInt (by omega)]
      omega
    have xu : nI wk + 1 * nI c = nI (wk + c) := by rw [Int32.one_mul, nI_add]
    have xui : (nI wk + 1 * nI c).toInt = (wk : Int) + c := by
      rw [xu, nI_toInt (by omega)]
      omega
    have five : (((3 - (-1 : Int32).toInt).toNat) + 1) = 2 + 1 + 1 + 1 := by rw [km1]; rfl
    obtain ⟨F1, g1, e1⟩ := t7_in (wk := wk) (now := now) (K := fun a b => HX7_turnOf_0 r told st un (-1) (nI k) now f a b) (off := nI c) (s := -1) hk (by decide) h7 (2 + 1 + 1) hF
    obtain ⟨F2, g2, e2⟩ := t7_in (wk := wk) (now := now) (K := fun a b => HX7_turnOf_0 r told st un (-1) (nI k) now f a b) (off := nI c) (s := 1) hk (by decide) h7 (2 + 1) g1
    rw [HX7_turnOf_0_eq, if_neg (show ¬ (100 : Int32) ≤ nI c by rw [fz_le, k100, nI_toInt (by omega)]; omega), five, e1, hw, show (-1 : Int32) + Int32.ofInt 2 = 1 from by decide, e2, hw]
    by_cases cd : (0 ≤ (nI wk + -1 * nI c).toInt ∧ (nI wk + -1 * nI c).toInt ≤ 99) ∧ ¬ T (nI wk + -1 * nI c) = now
    · rw [if_pos cd]
      obtain ⟨⟨a1, a2⟩, a3⟩ := cd
      rw [xd] at a1 a2
      have ex : nI wk + -1 * nI c = nI (wk - c) := by rw [fz_eq, xd, nI_toInt (by omega)]; omega
      rw [ex] at a3
      exact ⟨_, _, rfl, Or.inr ⟨c, h1, by omega, rfl, Or.inr ⟨by omega, a3⟩, hn⟩⟩
    · rw [if_neg cd]
      by_cases cu : (0 ≤ (nI wk + 1 * nI c).toInt ∧ (nI wk + 1 * nI c).toInt ≤ 99) ∧ ¬ T (nI wk + 1 * nI c) = now
      · rw [if_pos cu]
        obtain ⟨⟨a1, a2⟩, a3⟩ := cu
        rw [xui] at a1 a2
        rw [xu] at a3
        exact ⟨_, _, rfl, Or.inr ⟨c, h1, by omega, rfl, Or.inl ⟨by omega, a3⟩, hn⟩⟩
      · rw [if_neg cu, HX7_turnOf_1_eq, if_pos (show (2 : Int32) ≤ 1 + Int32.ofInt 2 by decide)]
        simp only [lt_ap]
        rw [nI_o1]
        refine ih (c + 1) f F2 (by omega) (by omega) (by omega) (by omega) g2 (fun c' c1 c2 => ?_)
        by_cases q : c' = c
        · rw [q]
          intro hh
          rcases hh with ⟨a1, a2⟩ | ⟨a1, a2⟩
          · exact cu ⟨⟨by rw [xui]; omega, by rw [xui]; omega⟩, by rw [xu]; exact a2⟩
          · have ex : nI wk + -1 * nI c = nI (wk - c) := by rw [fz_eq, xd, nI_toInt (by omega)]; omega
            exact cd ⟨⟨by rw [xd]; omega, by rw [xd]; omega⟩, by rw [ex]; exact a2⟩
        · exact hn c' c1 (by omega)
end TL
end F10
end
section
/-! turn, pivot: on both sides -/
section F11
section WQ
variable {N : Nat} {words unsures slips throne said unit : Int32} {kind parts pn wt tw uw uo r told w o st ws steps below above : Nat → Int32}
/-- the throne's worth, were the word k worth x -/
def TW (un : Int32) (kind parts pn wt ws w : Nat → Int32) (k t : Nat) (x : Int32) : Int32 := VV un kind parts pn wt ws (upd w k x) 18 t
theorem upd_self {f : Nat → Int32} {k : Nat} : upd f k (f k) = f := by
  funext q
  by_cases h : q = k
  · rw [h, upd_at]
  · rw [upd_ne h]
theorem wu_in {k : Nat} {x : Int32} (hw : ∀ k : Nat, k < N → kind k = 0 → 0 ≤ (w k).toInt ∧ (w k).toInt ≤ 99) (hx : 0 ≤ x.toInt ∧ x.toInt ≤ 99) : ∀ j : Nat, j < N → kind j = 0 → 0 ≤ (upd w k x j).toInt ∧ (upd w k x j).toInt ≤ 99 := fun j hj h0 => by
  by_cases h : j = k
  · rw [h, upd_at]; exact hx
  · rw [upd_ne h]; exact hw j hj h0
theorem tbw (hC : CR N words unsures slips throne said kind parts pn wt tw uw uo r told) (hI : CI N unit kind parts pn wt ws steps below above) (hR : ROk r) (hw : ∀ k : Nat, k < N → kind k = 0 → 0 ≤ (w k).toInt ∧ (w k).toInt ≤ 99) {un : Int32} (hs : 1 ≤ un.toInt ∧ un.toInt ≤ 1296) {t k : Nat} (hth : throne = nI t) (ht : t < N) (hk : k < N) {x : Int32} (hx : 0 ≤ x.toInt ∧ x.toInt ≤ 99) (V S : Nat → Int32) : ∃ V' S' : Nat → Int32, PX4_throneByWord V S (nI N) throne un kind parts pn wt ws w (nI k) x = (TW un kind parts pn wt ws w k t x, V', S') := by
  have hN := hI.1
  have hW : ∀ j : Nat, j < 18 → upd (va_cpy w S 0 0 18) k x j = upd w k x j := fun j hj => by
    by_cases h : j = k
    · rw [h, upd_at, upd_at]
    · rw [upd_ne h, upd_ne h]; exact cpy_q hj
  obtain ⟨G', e, -⟩ := weighV (W := upd (va_cpy w S 0 0 18) k x) hC hI hR (fun j hj h0 => by rw [hW j (by omega)]; exact wu_in hw hx j hj h0) hs hth ht V
  refine ⟨G', upd (va_cpy w S 0 0 18) k x, ?_⟩
  rw [PX4_throneByWord_eq]
  simp only [lt_ap]
  rw [hn_eq hN, if_pos (show 0 ≤ (nI k).toInt ∧ (nI k).toInt < (N : Int) by rw [nI_toInt (by omega)]; omega), if_pos rfl, nI_clamp (by omega), un2_eq e, VV_congr hI (W := upd w k x) (fun j hj _ => hW j (by omega)) 18 t ht]
  rfl
theorem StR.word (hC : CR N words unsures slips throne said kind parts pn wt tw uw uo r told) (hS : StR N parts pn w o st) {k : Nat} {x : Int32} {g : Nat → Int32} (hk : k < N) (h1 : g (72 + k) = x) (h2 : ∀ q : Nat, q < 90 → ¬ q = 72 + k → g q = st q) : StR N parts pn (upd w k x) o g := by
  have hN := hC.N.2.1
  intro j hj
  obtain ⟨a, b, c⟩ := hS j hj
  have hp := hC.p4 j hj
  refine ⟨?_, fun i hi => ?_, c⟩
  · by_cases h : j = k
    · rw [h, upd_at, h1]
    · rw [upd_ne h, h2 _ (by omega) (by omega)]; exact a
  · rw [h2 _ (by omega) (by omega)]
    exact b i hi
/-- the class's least change -/
theorem lt6 (hC : CR N words unsures slips throne said kind parts pn wt tw uw uo r told) (hI : CI N unit kind parts pn wt ws steps below above) (hR : ROk r) (hw : ∀ k : Nat, k < N → kind k = 0 → 0 ≤ (w k).toInt ∧ (w k).toInt ≤ 99) {un : Int32} (hs : 1 ≤ un.toInt ∧ un.toInt ≤ 1296) {t k wk : Nat} (hth : throne = nI t) (ht : t < N) (hk : k < N) (hwk : w k = nI wk) (hwk9 : wk ≤ 99) (V S : Nat → Int32) : ∃ (R : Int32) (V' S' : Nat → Int32), PX6_leastTurn (nI N) throne un kind parts pn wt ws w V S (nI k) = (R, V', S') ∧ TSs (hitB (fun c => TW un kind parts pn wt ws w k t (nI (wk + c))) (fun c => TW un kind parts pn wt ws w k t (nI (wk - c))) (VV un kind parts pn wt ws w 18 t) (99 - wk) wk) R := by
  have hN := hI.1
  have k99 : (99 : Int32) = nI 99 := by decide
  obtain ⟨G', e, -⟩ := weighV (W := w) hC hI hR hw hs hth ht V
  have now0 : TW un kind parts pn wt ws w k t (nI wk) = VV un kind parts pn wt ws w 18 t := by
    unfold TW
    rw [← hwk, upd_self]
  have mono : ∀ a b : Nat, a ≤ b → b ≤ 99 → (TW un kind parts pn wt ws w k t (nI a)).toInt ≤ (TW un kind parts pn wt ws w k t (nI b)).toInt := fun a b h1 h2 => by
    refine VV_mono hC hI hR (wu_in hw (by rw [nI_toInt (by omega)]; omega)) (wu_in hw (by rw [nI_toInt (by omega)]; omega)) (fun j hj _ => ?_) hs t 18 (by omega) ht
    by_cases h : j = k
    · rw [h, upd_at, upd_at, nI_toInt (by omega), nI_toInt (by omega)]; omega
    · rw [upd_ne h, upd_ne h]; exact Int.le_refl _
  obtain ⟨U, V1, S1, e1, hu⟩ := lt_eq6 (un := un) (throne := throne) (now := VV un kind parts pn wt ws w 18 t) (way := 1) (kind := kind) (parts := parts) (pn := pn) (wt := wt) (ws := ws) (w := w) (N := N) (k := k) (room := 99 - wk) (T := TW un kind parts pn wt ws w k t) (X := fun c => nI (wk + c)) (by omega) (by omega) (fun V S c hc => tbw hC hI hR hw hs hth ht hk (by show 0 ≤ (nI (wk + c)).toInt ∧ (nI (wk + c)).toInt ≤ 99; rw [nI_toInt (by omega)]; omega) V S) (fun c hc => by rw [hwk, Int32.one_mul, nI_add]) (fun c c' h1 h2 h3 h4 => by
    have a1 := mono wk (wk + c) (by omega) (by omega)
    have a2 := mono (wk + c) (wk + c') (by omega) (by omega)
    rw [now0] at a1
    have h4 : TW un kind parts pn wt ws w k t (nI (wk + c')) = VV un kind parts pn wt ws w 18 t := h4
    rw [h4] at a2
    exact h3 ((fz_eq _ _).mpr (by show (TW un kind parts pn wt ws w k t (nI (wk + c))).toInt = _; omega))) now0 G' S
  obtain ⟨D, V2, S2, e2, hd⟩ := lt_eq6 (un := un) (throne := throne) (now := VV un kind parts pn wt ws w 18 t) (way := -1) (kind := kind) (parts := parts) (pn := pn) (wt := wt) (ws := ws) (w := w) (N := N) (k := k) (room := wk) (T := TW un kind parts pn wt ws w k t) (X := fun c => nI (wk - c)) (by omega) (by omega) (fun V S c hc => tbw hC hI hR hw hs hth ht hk (by show 0 ≤ (nI (wk - c)).toInt ∧ (nI (wk - c)).toInt ≤ 99; rw [nI_toInt (by omega)]; omega) V S) (fun c hc => by
    have km1 : (-1 : Int32).toInt = -1 := by decide
    have q1 : ((-1 : Int32) * nI c).toInt = -(c : Int) := by
      rw [fb_mulI (by rw [km1, nI_toInt (by omega)]; omega) (by rw [km1, nI_toInt (by omega)]; omega), km1, nI_toInt (by omega)]
      omega
    rw [hwk, fz_eq, fb_addI (by rw [q1, nI_toInt (by omega)]; omega) (by rw [q1, nI_toInt (by omega)]; omega), q1]
    show _ = (nI (wk - c)).toInt
    rw [nI_toInt (by omega), nI_toInt (by omega)]
    omega) (fun c c' h1 h2 h3 h4 => by
    have a1 := mono (wk - c) wk (by omega) (by omega)
    have a2 := mono (wk - c') (wk - c) (by omega) (by omega)
    rw [now0] at a1
    have h4 : TW un kind parts pn wt ws w k t (nI (wk - c')) = VV un kind parts pn wt ws w 18 t := h4
    rw [h4] at a2
    exact h3 ((fz_eq _ _).mpr (by show (TW un kind parts pn wt ws w k t (nI (wk - c))).toInt = _; omega))) now0 V1 S1
  refine ⟨if U < 0 then (if U < D then D else U) else if 0 ≤ D then (if D < U then D else U) else (if U < D then D else U), V2, S2, ?_, TSs.of hu hd (by omega) (by omega) rfl⟩
  rw [PX6_leastTurn_eq, un2_eq e]
  simp only [lt_ap]
  rw [nI_clamp (show k < 2 ^ 31 by omega), hwk, k99, nI_sub' (by omega) (by omega), un3_eq e1, un3_eq e2]
  by_cases c : U < 0
  · rw [if_pos c, if_pos c]
  · rw [if_neg c, if_neg c]
    by_cases c2 : (0 : Int32) ≤ D
    · rw [if_pos c2, if_pos c2]
    · rw [if_neg c2, if_neg c2]
theorem lt7 (hC : CR N words unsures slips throne said kind parts pn wt tw uw uo r told) (hS : StR N parts pn w o st) (hI : CI N unit kind parts pn wt ws steps below above) (hR : ROk r) {un : Int32} {t k wk : Nat} (hth : r 6 = nI t) (ht : t < N) (hk : k < N) (hwk : w k = nI wk) (hwk9 : wk ≤ 99) (F : Nat → Int32) : ∃ (R : Int32) (F' : Nat → Int32), PX7_turnOf r told st un (-1) F (nI k) = (R, F') ∧ TSs (hitB (fun c => TW un kind parts pn wt ws w k t (nI (wk + c))) (fun c => TW un kind parts pn wt ws w k t (nI (wk - c))) (VV un kind parts pn wt ws w 18 t) (99 - wk) wk) R := by
  have hN := hI.1
  have h72 : st (72 + k) = nI wk := (hS k hk).1.symm.trans hwk
  obtain ⟨R, F', e, hR'⟩ := t7_loop (wk := wk) (un := un) (now := VV un kind parts pn wt ws w 18 t) (T := TW un kind parts pn wt ws w k t) (show k < 18 by omega) h72 hwk9 (fun g x g1 g2 => tv_eq hC (StR.word hC hS hk g1 g2) hI hR ht hth) 99 1 (((100 - (1 : Int32).toInt).toNat) + 1) (cpF st F (0 : Int32).toNatClampNeg (0 : Int32).toNatClampNeg (90 : Int32).toNatClampNeg) rfl (by omega) (by omega) (by rw [kc_1]; omega) (fun q q1 _ => by
    unfold cpF
    rw [zero_cl, ninety_cl, if_pos (by omega), Nat.zero_add, Nat.sub_zero]) (fun c c1 c2 => absurd c1 (by omega))
  refine ⟨R, F', ?_, hR'⟩
  rw [PX7_turnOf_eq]
  simp only [lt_ap]
  rw [tv_eq hC hS hI hR ht hth]
  exact e
end WQ
end F11
end
section
/-! turn, pivot: what both sides answer -/
section F12
section WQ
variable {N : Nat} {words unsures slips throne said unit : Int32} {kind parts pn wt tw uw uo r told w o st ws steps below above : Nat → Int32}
/-- one least change on both sides -/
theorem lt_both (hC : CR N words unsures slips throne said kind parts pn wt tw uw uo r told) (hS : StR N parts pn w o st) (hI : CI N unit kind parts pn wt ws steps below above) (hR : ROk r) (hW : WorOk st) {un : Int32} (hs : 1 ≤ un.toInt ∧ un.toInt ≤ 1296) {k : Nat} (hk : k < N) (h0 : kind k = 0) : ∃ R : Int32, (R = -2 ∨ ∃ c : Nat, 1 ≤ c ∧ c ≤ 99 ∧ R = nI c) ∧ (∀ V S : Nat → Int32, ∃ V' S' : Nat → Int32, PX6_leastTurn (nI N) throne un kind parts pn wt ws w V S (nI k) = (R, V', S')) ∧ ∀ F : Nat → Int32, ∃ F' : Nat → Int32, PX7_turnOf r told st un (-1) F (nI k) = (R, F') := by
  have hN := hI.1
  have hth : r 6 = throne := hC.2.2.2.2.2.2.1
  have ht := hC.2.2.2.2.2.2.2.2.1
  obtain ⟨t, t1, t2⟩ := nd_of hN ht
  obtain ⟨b1, b2⟩ := w_in hC hS hW k hk h0
  have hwk : w k = nI (w k).toInt.toNat := by rw [fz_eq, nI_toInt (by omega)]; omega
  obtain ⟨R, F1, e1, hR1⟩ := lt7 hC hS hI hR (un := un) (hth.trans t2) t1 hk hwk (by omega) (fun _ => 0)
  refine ⟨R, ?_, fun V S => ?_, fun F => ?_⟩
  · rcases hR1 with ⟨q, -⟩ | ⟨c, c1, c2, q, -⟩
    · exact Or.inl q
    · exact Or.inr ⟨c, c1, c2, q⟩
  · obtain ⟨R2, V', S', e2, hR2⟩ := lt6 hC hI hR (w_in hC hS hW) hs t2 t1 hk hwk (by omega) V S
    exact ⟨V', S', by rw [e2, hR2.one hR1]⟩
  · obtain ⟨R2, F', e2, hR2⟩ := lt7 hC hS hI hR (un := un) (hth.trans t2) t1 hk hwk (by omega) F
    exact ⟨F', by rw [e2, hR2.one hR1]⟩
theorem pv_loop (hC : CR N words unsures slips throne said kind parts pn wt tw uw uo r told) (hS : StR N parts pn w o st) (hI : CI N unit kind parts pn wt ws steps below above) (hR : ROk r) (hW : WorOk st) {un x6 t0 t1 : Int32} (hs : 1 ≤ un.toInt ∧ un.toInt ≤ 1296) : ∀ (m k f6 f7 : Nat) (l6 w6 l7 w7 : Int32) (V S F : Nat → Int32), N - k = m → k ≤ N → m < f6 → m < f7 → ((w6 = -2 ∧ w7 = -2 ∧ l7 = 100000000) ∨ ∃ j c : Nat, j < 18 ∧ c ≤ 99 ∧ w6 = nI j ∧ w7 = nI j ∧ l6 = nI c ∧ l7 = nI c) → ∃ (R : Int32) (V' S' F' : Nat → Int32), HX6_pivot_0 (nI N) throne un kind parts pn wt ws w x6 f6 (nI k) l6 w6 V S = (R, x6, V', S') ∧ HX7_pivot_0 r told st un (-1) t0 t1 f7 (nI k) l7 w7 F = (R, t0, t1, F') := by
  obtain ⟨hN0, hN, hr⟩ := hC.N
  intro m
  induction m with
  | zero =>
    intro k f6 f7 l6 w6 l7 w7 V S F hm hk h6 h7 hi
    obtain ⟨f6, rfl⟩ : ∃ g, f6 = g + 1 := ⟨f6 - 1, by omega⟩
    obtain ⟨f7, rfl⟩ : ∃ g, f7 = g + 1 := ⟨f7 - 1, by omega⟩
    obtain rfl : k = N := by omega
    have hw : w6 = w7 := by
      rcases hi with ⟨a, b, -⟩ | ⟨j, c, -, -, a, b, -⟩
      · rw [a, b]
      · rw [a, b]
    refine ⟨w6, V, S, F, ?_, ?_⟩
    · rw [HX6_pivot_0_eq, if_pos (nI_le (Nat.le_refl _) (by omega))]
    · rw [HX7_pivot_0_eq]
      simp only [lt_ap]
      rw [one_cl, hr, if_pos (nI_le (Nat.le_refl _) (by omega)), hw]
  | succ m ih =>
    intro k f6 f7 l6 w6 l7 w7 V S F hm hk h6 h7 hi
    obtain ⟨f6, rfl⟩ : ∃ g, f6 = g + 1 := ⟨f6 - 1, by omega⟩
    obtain ⟨f7, rfl⟩ : ∃ g, f7 = g + 1 := ⟨f7 - 1, by omega⟩
    have hk2 : k < N := by omega
    rw [HX6_pivot_0_eq, if_neg (by rw [nI_leI (by omega) (by omega)]; omega), HX7_pivot_0_eq]
    simp only [lt_ap]
    rw [one_cl, hr, if_neg (show ¬ nI N ≤ nI k by rw [nI_leI (by omega) (by omega)]; omega), show (9 : Int32) + nI k = nI (9 + k) from nI_add 9 k, nI_clamp (show 9 + k < 2 ^ 31 by omega), nI_clamp (show k < 2 ^ 31 by omega), ← (hC.k hk2).1, nI_o1]
    by_cases h0 : kind k = 0
    · obtain ⟨R, hRr, a6, a7⟩ := lt_both hC hS hI hR hW hs hk2 h0
      obtain ⟨V', S', e6⟩ := a6 V S
      obtain ⟨F', e7⟩ := a7 F
      rw [if_pos h0, if_pos h0, un3_eq e6, un2_eq e7]
      rcases hRr with rfl | ⟨c, c1, c2, rfl⟩
      · rw [if_pos (show (-2 : Int32) < 0 by decide), if_pos (show (-2 : Int32) < 0 by decide)]
        exact ih (k + 1) f6 f7 l6 w6 l7 w7 V' S' F' (by omega) (by omega) (by omega) (by omega) hi
      · rw [if_neg (nI_pos (by omega)), if_neg (nI_pos (by omega))]
        rcases hi with ⟨rfl, rfl, rfl⟩ | ⟨j, d, j1, d1, rfl, rfl, rfl, rfl⟩
        · rw [if_pos (show (-2 : Int32) < 0 by decide), if_pos (show nI c < (100000000 : Int32) by rw [fz_lt, k_hi, nI_toInt (by omega)]; omega)]
          exact ih (k + 1) f6 f7 _ _ _ _ V' S' F' (by omega) (by omega) (by omega) (by omega) (Or.inr ⟨k, c, by omega, c2, rfl, rfl, rfl, rfl⟩)
        · rw [if_neg (nI_pos (by omega))]
          by_cases cd : d ≤ c
          · rw [if_pos (nI_le cd (by omega)), if_neg (nI_nlt cd (by omega))]
            exact ih (k + 1) f6 f7 _ _ _ _ V' S' F' (by omega) (by omega) (by omega) (by omega) (Or.inr ⟨j, d, j1, d1, rfl, rfl, rfl, rfl⟩)
          · rw [if_neg (show ¬ nI d ≤ nI c by rw [nI_leI (by omega) (by omega)]; exact cd), if_pos (nI_lt (by omega) (by omega))]
            exact ih (k + 1) f6 f7 _ _ _ _ V' S' F' (by omega) (by omega) (by omega) (by omega) (Or.inr ⟨k, c, by omega, c2, rfl, rfl, rfl, rfl⟩)
    · rw [if_neg h0, if_neg h0]
      exact ih (k + 1) f6 f7 l6 w6 l7 w7 V S F (by omega) (by omega) (by omega) (by omega) hi
end WQ
section FJ
variable {nodes words unsures slips throne said : Int32} {kind parts pn wt tw uw uo w o : Nat → Int32} {ic : Int32} {iw0 io0 iw1 io1 iw2 io2 : Nat → Int32} {ac : Int32} {an ao as : Nat → Int32} {hc : Int32} {r told st und kept : Nat → Int32} {undos images : Int32} {unit : Int32} {ws steps below above : Nat → Int32} {scale night : Int32}
theorem turn_join (h : Rel nodes words unsures slips throne said kind parts pn wt tw uw uo w o ic iw0 io0 iw1 io1 iw2 io2 ac an ao as hc r told st und kept undos images) (hx : CIS nodes unit kind parts pn wt ws steps below above) (hs : PX7_layScale r = scale) (hM : ROk r ∧ RowOk r st ∧ RowOk r told ∧ WorOk st ∧ night.toInt = -1 ∧ 1 ≤ scale.toInt ∧ scale.toInt ≤ 1296) {lv lv' lu lu' tr tr' : Nat → Int32} {p0 q6 q7 : Int32} {rf t1 t2 : Int32} (e6 : PX6_turn nodes throne unit kind parts pn wt ws w lv lu p0 = (q6, rf, lv', lu')) (e7 : PX7_turn hc r told st scale night tr p0 = (q7, t1, t2, tr')) : q6 = q7 ∧ rf = t2 := by
  obtain ⟨hR, hQ, hQt, hW, hnt, hsc⟩ := hM
  obtain rfl : night = -1 := (fz_eq _ _).mpr (hnt.trans (by decide))
  have key : ∃ (q f t : Int32) (a b c : Nat → Int32), PX6_turn nodes throne unit kind parts pn wt ws w lv lu p0 = (q, f, a, b) ∧ PX7_turn hc r told st scale (-1) tr p0 = (q, t, f, c) := by
    rcases h with ⟨rfl, h0⟩ | ⟨N, c, d, rfl, rfl, rfl, rfl, hc, rfl, rfl, hd, hC, hS, hU, hI⟩
    · obtain ⟨h2, h3, h4, h5, h6, h7, rfl, h8, h9⟩ := h0
      refine ⟨-1, 1, 0, lv, lu, tr, ?_, ?_⟩
      · rw [PX6_turn_eq, PX6_lacksWord_eq, PX1_hasWord_eq]
        simp only [lt_ap]
        rw [hn_0, if_neg (show ¬ (0 : Int32) = 1 by decide), if_neg (show ¬ (0 : Int32) = 1 by decide), un2_eq rfl, if_neg (show ¬ (1 : Int32) = 0 by decide)]
      · rw [PX7_turn_eq, PX7_good_eq, un2_eq rfl, PX7_isWordNode_eq]
        simp only [lt_ap]
        rw [rn_0, if_neg (show ¬ (0 : Int32) = 1 by decide), if_neg (show ¬ (0 : Int32) = 1 by decide), no_eq, un2_eq rfl]
    · obtain ⟨hN0, hN, hr⟩ := hC.N
      obtain ⟨M, hM, hX⟩ := hx
      obtain rfl : N = M := (nI_eq (by omega) (by have := hX.1; omega)).mp hM
      obtain rfl : unit = scale := (ls_eq hC hX).symm.trans hs
      have no6 : ¬ (∃ k : Nat, k < N ∧ p0 = nI k ∧ kind k = 0) → PX6_turn (nI N) throne unit kind parts pn wt ws w lv lu p0 = (-1, 1, lv, lu) ∧ PX7_turn 1 r told st unit (-1) tr p0 = (-1, 0, 1, tr) := fun hno => by
        refine ⟨?_, ?_⟩
        · rw [PX6_turn_eq, PX6_lacksWord_eq, PX1_hasWord_eq]
          simp only [lt_ap]
          rw [hn_eq hN]
          by_cases hn : 0 ≤ p0.toInt ∧ p0.toInt < (N : Int)
          · obtain ⟨k, hk, rfl⟩ := nd_of hN hn
            rw [if_pos hn, if_pos rfl, nI_clamp (by omega), if_neg (fun q => hno ⟨k, hk, rfl, q⟩), if_neg (show ¬ (0 : Int32) = 1 by decide), un2_eq rfl, if_neg (show ¬ (1 : Int32) = 0 by decide)]
          · rw [if_neg hn, if_neg (show ¬ (0 : Int32) = 1 by decide), if_neg (show ¬ (0 : Int32) = 1 by decide), un2_eq rfl, if_neg (show ¬ (1 : Int32) = 0 by decide)]
        · rw [PX7_turn_eq, PX7_good_eq, un2_eq rfl, PX7_isWordNode_eq]
          simp only [lt_ap]
          rw [rn_eq hN0 hN hr]
          by_cases hn : 0 ≤ p0.toInt ∧ p0.toInt < (N : Int)
          · obtain ⟨k, hk, rfl⟩ := nd_of hN hn
            rw [if_pos hn, if_pos rfl, show (9 : Int32) + nI k = nI (9 + k) from nI_add 9 k, nI_clamp (show 9 + k < 2 ^ 31 by omega), ← (hC.k hk).1, if_neg (fun q => hno ⟨k, hk, rfl, q⟩), if_neg (show ¬ (0 : Int32) = 1 by decide), no_eq, un2_eq rfl]
          · rw [if_neg hn, if_neg (show ¬ (0 : Int32) = 1 by decide), if_neg (show ¬ (0 : Int32) = 1 by decide), no_eq, un2_eq rfl]
      by_cases hw : ∃ k : Nat, k < N ∧ p0 = nI k ∧ kind k = 0
      · obtain ⟨k, hk, rfl, h0⟩ := hw
        have hn : 0 ≤ (nI k).toInt ∧ (nI k).toInt < (N : Int) := by rw [nI_toInt (by omega)]; omega
        obtain ⟨R, -, a6, a7⟩ := lt_both hC hS hX hR hW hsc hk h0
        obtain ⟨V', S', e6⟩ := a6 lv lu
        obtain ⟨F', e7⟩ := a7 tr
        refine ⟨R, 0, 0, V', S', F', ?_, ?_⟩
        · rw [PX6_turn_eq, PX6_lacksWord_eq, PX1_hasWord_eq]
          simp only [lt_ap]
          rw [hn_eq hN, if_pos hn, if_pos rfl, nI_clamp (by omega), if_pos h0, if_pos rfl, un2_eq rfl, if_pos rfl, un3_eq e6]
        · rw [PX7_turn_eq, PX7_good_eq, un2_eq rfl, PX7_isWordNode_eq]
          simp only [lt_ap]
          rw [rn_eq hN0 hN hr, if_pos hn, if_pos rfl, show (9 : Int32) + nI k = nI (9 + k) from nI_add 9 k, nI_clamp (show 9 + k < 2 ^ 31 by omega), ← (hC.k hk).1, if_pos h0, if_pos rfl, un2_eq e7]
      · obtain ⟨x6, x7⟩ := no6 hw
        exact ⟨-1, 1, 0, lv, lu, tr, x6, x7⟩
  obtain ⟨q, f, t, a, b, c, g6, g7⟩ := key
  have x := g6.symm.trans e6
  have y := g7.symm.trans e7
  simp only [Prod.mk.injEq] at x y
  obtain ⟨rfl, rfl, -⟩ := x
  obtain ⟨rfl, -, rfl, -⟩ := y
  exact ⟨rfl, rfl⟩
theorem pivot_join (h : Rel nodes words unsures slips throne said kind parts pn wt tw uw uo w o ic iw0 io0 iw1 io1 iw2 io2 ac an ao as hc r told st und kept undos images) (hx : CIS nodes unit kind parts pn wt ws steps below above) (hs : PX7_layScale r = scale) (hM : ROk r ∧ RowOk r st ∧ RowOk r told ∧ WorOk st ∧ night.toInt = -1 ∧ 1 ≤ scale.toInt ∧ scale.toInt ≤ 1296) {lv lv' lu lu' tr tr' : Nat → Int32} {q6 q7 : Int32} {rf t1 t2 : Int32} (e6 : PX6_pivot nodes throne unit kind parts pn wt ws w lv lu = (q6, rf, lv', lu')) (e7 : PX7_pivot hc r told st scale night tr = (q7, t1, t2, tr')) : q6 = q7 ∧ rf = t2 := by
  obtain ⟨hR, hQ, hQt, hW, hnt, hsc⟩ := hM
  obtain rfl : night = -1 := (fz_eq _ _).mpr (hnt.trans (by decide))
  have key : ∃ (q f t : Int32) (a b c : Nat → Int32), PX6_pivot nodes throne unit kind parts pn wt ws w lv lu = (q, f, a, b) ∧ PX7_pivot hc r told st scale (-1) tr = (q, t, f, c) := by
    rcases h with ⟨rfl, h0⟩ | ⟨N, c, d, rfl, rfl, rfl, rfl, hc, rfl, rfl, hd, hC, hS, hU, hI⟩
    · obtain ⟨h2, h3, h4, h5, h6, h7, rfl, h8, h9⟩ := h0
      refine ⟨-1, 1, 0, lv, lu, tr, ?_, ?_⟩
      · rw [PX6_pivot_eq, lc_0, un2_eq rfl, if_neg (show ¬ (1 : Int32) = 0 by decide)]
      · rw [PX7_pivot_eq, PX7_good_eq, un2_eq rfl, if_pos rfl, no_eq, un2_eq rfl]
    · obtain ⟨hN0, hN, hr⟩ := hC.N
      obtain ⟨M, hM, hX⟩ := hx
      obtain rfl : N = M := (nI_eq (by omega) (by have := hX.1; omega)).mp hM
      obtain rfl : unit = scale := (ls_eq hC hX).symm.trans hs
      obtain ⟨R, V', S', F', e6, e7⟩ := pv_loop (x6 := 0) (t0 := 0) (t1 := 0) hC hS hX hR hW hsc N 0 (((2147483647 - (0 : Int32).toInt).toNat) + 1) (((2147483647 - (0 : Int32).toInt).toNat) + 1) 0 (-2) 100000000 (-2) lv lu tr rfl (by omega) (by rw [kc_0]; omega) (by rw [kc_0]; omega) (Or.inl ⟨rfl, rfl, rfl⟩)
      rw [nI_0] at e6 e7
      refine ⟨R, 0, 0, V', S', F', ?_, ?_⟩
      · rw [PX6_pivot_eq, lc_N hN0 hN, un2_eq rfl, if_pos rfl]
        exact e6
      · rw [PX7_pivot_eq, PX7_good_eq, un2_eq rfl, if_neg (show ¬ (1 : Int32) = 0 by decide)]
        exact e7
  obtain ⟨q, f, t, a, b, c, g6, g7⟩ := key
  have x := g6.symm.trans e6
  have y := g7.symm.trans e7
  simp only [Prod.mk.injEq] at x y
  obtain ⟨rfl, rfl, -⟩ := x
  obtain ⟨rfl, -, rfl, -⟩ := y
  exact ⟨rfl, rfl⟩
end FJ
end F12
end
