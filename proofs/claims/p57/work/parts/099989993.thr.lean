/-! hearing from the throne; asking; by halves -/
section G3
section WQ
variable {N : Nat} {words unsures slips throne said unit : Int32} {kind parts pn wt tw uw uo r told W o Q ws steps below above : Nat → Int32} {F6 : Int32 → Int32 → (Nat → Int32) → (Nat → Int32) → (Nat → Int32) → (Nat → Int32) → (Nat → Int32) → (Nat → Int32) → (Nat → Int32) → Int32 → Int32 → Int32 → (Nat → Int32) → (Nat → Int32) → Int32 → Int32 → Int32 → Int32 × Int32 × Int32 × Int32 × (Nat → Int32) × (Nat → Int32)} {F7 : (Nat → Int32) → (Nat → Int32) → (Nat → Int32) → Int32 → Int32 → Int32 → (Nat → Int32) → (Nat → Int32) → Int32 → Int32 → Int32 × Int32 × Int32 × (Nat → Int32) × (Nat → Int32)}
theorem hgt_8 (hR : ROk r) {k : Nat} (hk : (k : Int) < (r 1).toInt) : hgt r k ≤ 8 := by
  unfold hgt
  by_cases c : (r (9 + k)).toInt = 0
  · rw [if_pos c]; omega
  · rw [if_neg c]
    have h1 := hR.ci (k + 1) (by omega)
    have h2 : cntP (fun j => (r (9 + j)).toInt ≠ 0) (k + 1) = rkI r k + 1 := by
      show rkI r k + (if (r (9 + k)).toInt ≠ 0 then 1 else 0) = _
      rw [if_pos c]
    omega
theorem hs_0 {hw cp hr cr : Nat → Int32} : HS 0 0 0 hw cp hr cr := ⟨fun x hx => absurd hx (by omega), fun x hx => absurd hx (by omega), rfl⟩
/-- a hearing from the throne -/
theorem thr_sim (hC : CR N words unsures slips throne said kind parts pn wt tw uw uo r told) (hS : StR N parts pn W o Q) (hI : CI N unit kind parts pn wt ws steps below above) (hR : ROk r) (hW : ∀ k : Nat, k < N → kind k = 0 → 0 ≤ (W k).toInt ∧ (W k).toInt ≤ 99) {un : Int32} (hun : 1 ≤ un.toInt ∧ un.toInt ≤ 1296) {t : Nat} (hth : throne = nI t) (hth6 : r 6 = nI t) (ht : t < N) {lo6 lo7 hi6 hi7 : Int32} (hlo : LoR (99 * un.toInt) lo6 lo7) (hhi : HiR (99 * un.toInt) hi6 hi7) (hw cp hr cr : Nat → Int32) : ∃ (v : Int32) (b c : Nat) (bits : Int32) (hw' cp' hr' cr' : Nat → Int32), PX2_listen 14 (nI N) un kind parts pn wt ws W o 0 0 0 hw cp throne lo6 hi6 0 = (v, nI b, bits, nI c, hw', cp') ∧ PX7_hearBy r told un hr cr Q lo7 hi7 = (v, nI b, nI c, hr', cr') ∧ (0 ≤ v.toInt ∧ v.toInt ≤ 99 * un.toInt) ∧ b + c ≤ 349 ∧ HS b c bits hw' cp' hr' cr' := by
  obtain ⟨hN0, hN, hr1⟩ := hC.N
  have h8 := hgt_8 hR (k := t) (by rw [hr1, nI_toInt (by omega)]; omega)
  have hw9 := (wgt_in r t).2
  obtain ⟨v, b, c, bits, hw', cp', hr', cr', e6, e7, hv, hb, hh⟩ := hear_sim hC hS hI hR hW hun t 14 18 0 0 0 0 lo6 lo7 hi6 hi7 hw cp hr cr ht (by omega) (by omega) (by omega) hlo hhi hs_0 (by omega)
  rw [nI_0] at e6 e7
  refine ⟨v, b, c, bits, hw', cp', hr', cr', by rw [hth]; exact e6, ?_, hv, by omega, hh⟩
  rw [PX7_hearBy_eq, lt_ap, six_cl, hth6, un5_id]
  exact e7
theorem a100 {un : Int32} (hun : 1 ≤ un.toInt ∧ un.toInt ≤ 1296) : 99 * un.toInt < ((100 : Int32) * un).toInt := by
  have e : (100 : Int32).toInt = 100 := by decide
  rw [fb_mulI (by rw [e]; omega) (by rw [e]; omega), e]
  omega
theorem lo_free {X : Int} : LoR X (-1) (-100000000) := Or.inr ⟨by decide, by decide⟩
theorem hi_free {un : Int32} (hun : 1 ≤ un.toInt ∧ un.toInt ≤ 1296) : HiR (99 * un.toInt) ((100 : Int32) * un) 100000000 := Or.inr ⟨a100 hun, by decide⟩
theorem free_sim (hC : CR N words unsures slips throne said kind parts pn wt tw uw uo r told) (hS : StR N parts pn W o Q) (hI : CI N unit kind parts pn wt ws steps below above) (hR : ROk r) (hW : ∀ k : Nat, k < N → kind k = 0 → 0 ≤ (W k).toInt ∧ (W k).toInt ≤ 99) {un : Int32} (hun : 1 ≤ un.toInt ∧ un.toInt ≤ 1296) {t : Nat} (hth : throne = nI t) (hth6 : r 6 = nI t) (ht : t < N) (hw cp hr cr : Nat → Int32) : ∃ (b c : Nat) (bits : Int32) (hw' cp' hr' cr' : Nat → Int32), PX2_breathsFreely hw cp (nI N) throne un kind parts pn wt ws W o = (nI b, nI b, bits, nI c, hw', cp') ∧ PX7_breathsBy r told un hr cr Q = (nI b, nI b, nI c, hr', cr') ∧ b + c ≤ 349 ∧ HS b c bits hw' cp' hr' cr' := by
  obtain ⟨v, b, c, bits, hw', cp', hr', cr', e6, e7, -, hb, hh⟩ := thr_sim hC hS hI hR hW hun hth hth6 ht lo_free (hi_free hun) hw cp hr cr
  refine ⟨b, c, bits, hw', cp', hr', cr', ?_, ?_, hb, hh⟩
  · rw [PX2_breathsFreely_eq, PX2_begin_eq, un3_eq rfl, PX2_aboveAll_eq, lt_ap, lt_ap, un6_eq e6]
  · rw [PX7_breathsBy_eq, un5_eq e7]
theorem m_in {p un : Int32} (h0 : 0 ≤ p.toInt) (h1 : p.toInt ≤ 99) (hun : 1 ≤ un.toInt ∧ un.toInt ≤ 1296) : (p * un).toInt = p.toInt * un.toInt ∧ 0 ≤ (p * un).toInt ∧ (p * un).toInt ≤ 99 * un.toInt := by
  have m0 : 0 ≤ p.toInt * un.toInt := Int.mul_nonneg h0 (by omega)
  have m1 : p.toInt * un.toInt ≤ 99 * un.toInt := Int.mul_le_mul_of_nonneg_right h1 (by omega)
  have e1 : (p * un).toInt = p.toInt * un.toInt := fb_mulI (by omega) (by omega)
  refine ⟨e1, ?_, ?_⟩
  · rw [e1]; exact m0
  · rw [e1]; exact m1
theorem within_sim (hC : CR N words unsures slips throne said kind parts pn wt tw uw uo r told) (hS : StR N parts pn W o Q) (hI : CI N unit kind parts pn wt ws steps below above) (hR : ROk r) (hW : ∀ k : Nat, k < N → kind k = 0 → 0 ≤ (W k).toInt ∧ (W k).toInt ≤ 99) {un : Int32} (hun : 1 ≤ un.toInt ∧ un.toInt ≤ 1296) {t : Nat} (hth : throne = nI t) (hth6 : r 6 = nI t) (ht : t < N) {p0 p1 : Int32} (h0 : 0 ≤ p0.toInt) (h1 : p0.toInt < p1.toInt) (h2 : p1.toInt ≤ 99) (hw cp hr cr : Nat → Int32) : ∃ (v : Int32) (b c : Nat) (bits : Int32) (hw' cp' hr' cr' : Nat → Int32), PX2_hearWithin hw cp (nI N) throne un kind parts pn wt ws W o p0 p1 = (v, nI b, bits, nI c, hw', cp') ∧ PX7_hearBy r told un hr cr Q (p0 * un) (p1 * un) = (v, nI b, nI c, hr', cr') ∧ (0 ≤ v.toInt ∧ v.toInt ≤ 99 * un.toInt) ∧ b + c ≤ 349 ∧ HS b c bits hw' cp' hr' cr' := by
  obtain ⟨-, a1, a2⟩ := m_in (p := p0) h0 (by omega) hun
  obtain ⟨-, b1, b2⟩ := m_in (p := p1) (by omega) h2 hun
  obtain ⟨v, b, c, bits, hw', cp', hr', cr', e6, e7, hv, hb, hh⟩ := thr_sim hC hS hI hR hW hun hth hth6 ht (Or.inl ⟨rfl, a1, a2⟩) (Or.inl ⟨rfl, b1, b2⟩) hw cp hr cr
  refine ⟨v, b, c, bits, hw', cp', hr', cr', ?_, e7, hv, hb, hh⟩
  rw [PX2_hearWithin_eq, PX2_begin_eq, un3_eq rfl]
  simp only [lt_ap]
  rw [un6_id]
  exact e6
theorem skloop (hC : CR N words unsures slips throne said kind parts pn wt tw uw uo r told) (hS : StR N parts pn W o Q) (hI : CI N unit kind parts pn wt ws steps below above) (hR : ROk r) {k q d : Nat} {un mu6 mu7 : Int32} (hk : k < N) (hp : parts k = nI q) (hD : ND k q kind pn wt ws steps below) (h0 : ¬ kind k = 0) {b0 c0 : Nat} (hbc : b0 + c0 + wgt r k ≤ 349) (hF : ∀ i j : Nat, i < q → j < 2 ^ 31 → Q (4 * k + i) = nI j → ∀ (b c : Nat) (bits : Int32) (hw cp hr cr : Nat → Int32), HS b c bits hw cp hr cr → b + c + wgt r j ≤ 349 → HOut (wgt r j) 1 b c (F6 (nI N) un kind parts pn wt ws W o (nI b) bits (nI c) hw cp (nI j) mu6 (nI (d + 1))) (F7 r told Q un (nI b) (nI c) hr cr (nI j) mu7)) : ∀ (m i f6 f7 b c : Nat) (bits : Int32) (hw cp hr cr : Nat → Int32), q - i = m → i ≤ q → m < f6 → m < f7 → HS b c bits hw cp hr cr → b + c ≤ b0 + c0 + rsum r Q k i → HOut (wgt r k) 1 b0 c0 (HX2_isSoMuch_0 F6 (nI N) un kind parts pn wt ws W o (nI k) mu6 (nI d) f6 (nI i) (nI b) bits (nI c) hw cp) (HX7_isSoMuch_0 F7 r told Q un (nI k) mu7 f7 (nI i) (nI b) (nI c) hr cr) := by
  obtain ⟨hN0, hN, hr1⟩ := hC.N
  have hq := hD.1
  have hm := many_q hC hk hp
  obtain ⟨hgap, hsum⟩ := rs_at hC hS hI hR hk hp hq h0
  intro m
  induction m with
  | zero =>
    intro i f6 f7 b c bits hw cp hr cr hd hi h6 h7 hHS hbs
    obtain ⟨f6, rfl⟩ : ∃ g, f6 = g + 1 := ⟨f6 - 1, by omega⟩
    obtain ⟨f7, rfl⟩ : ∃ g, f7 = g + 1 := ⟨f7 - 1, by omega⟩
    obtain rfl : i = q := by omega
    have hg := hgap i (Nat.le_refl _)
    refine ⟨0, b, c, bits, hw, cp, hr, cr, ?_, ?_, ⟨by decide, by decide⟩, by omega, hHS⟩
    · rw [HX2_isSoMuch_0_eq, lt_ap, nI_clamp (show k < 2 ^ 31 by omega), hp, if_pos (nI_le (Nat.le_refl _) (by omega))]
    · rw [HX7_isSoMuch_0_eq]
      simp only [lt_ap]
      rw [show (27 : Int32) + nI k = nI (27 + k) from nI_add 27 k, nI_clamp (show 27 + k < 2 ^ 31 by omega), hm, if_pos (nI_le (Nat.le_refl _) (by omega))]
  | succ m ih =>
    intro i f6 f7 b c bits hw cp hr cr hd hi h6 h7 hHS hbs
    obtain ⟨f6, rfl⟩ : ∃ g, f6 = g + 1 := ⟨f6 - 1, by omega⟩
    obtain ⟨f7, rfl⟩ : ∃ g, f7 = g + 1 := ⟨f7 - 1, by omega⟩
    have hiq : i < q := by omega
    obtain ⟨j, j1, -, j2, j3, -, -⟩ := hp_at hC hS hk hp hD hiq
    have hs1 := hsum i j (by omega) j3
    have hg1' := hgap (i + 1) (by omega)
    obtain ⟨v, b', c', bits', hw', cp', hr', cr', e6, e7, hv, hb', hH'⟩ := hF i j hiq (by omega) j3 b c bits hw cp hr cr hHS (by omega)
    rw [HX2_isSoMuch_0_eq, HX7_isSoMuch_0_eq]
    simp only [lt_ap]
    rw [nI_clamp (show k < 2 ^ 31 by omega), hp, if_neg (show ¬ nI q ≤ nI i by rw [nI_leI (by omega) (by omega)]; omega), j2, nI_1 d, un6_eq e6, show (27 : Int32) + nI k = nI (27 + k) from nI_add 27 k, nI_clamp (show 27 + k < 2 ^ 31 by omega), hm, if_neg (show ¬ nI q ≤ nI i by rw [nI_leI (by omega) (by omega)]; omega), nI_m4' (by omega), nI_add, nI_clamp (show 4 * k + i < 2 ^ 31 by omega), j3, un5_eq e7, nI_o1]
    by_cases y : v = 1
    · rw [if_pos y, if_pos y]
      exact ⟨1, b', c', bits', hw', cp', hr', cr', rfl, rfl, ⟨by decide, by decide⟩, by omega, hH'⟩
    · rw [if_neg y, if_neg y]
      exact ih (i + 1) f6 f7 b' c' bits' hw' cp' hr' cr' (by omega) (by omega) (by omega) (by omega) hH' (by omega)
theorem sqloop (hC : CR N words unsures slips throne said kind parts pn wt tw uw uo r told) (hS : StR N parts pn W o Q) (hI : CI N unit kind parts pn wt ws steps below above) (hR : ROk r) {k q d : Nat} {un mu6 mu7 : Int32} (hk : k < N) (hp : parts k = nI q) (hD : ND k q kind pn wt ws steps below) (h0 : ¬ kind k = 0) {b0 c0 : Nat} (hbc : b0 + c0 + wgt r k ≤ 349) (hF : ∀ i j : Nat, i < q → j < 2 ^ 31 → Q (4 * k + i) = nI j → ∀ (b c : Nat) (bits : Int32) (hw cp hr cr : Nat → Int32), HS b c bits hw cp hr cr → b + c + wgt r j ≤ 349 → HOut (wgt r j) 1 b c (F6 (nI N) un kind parts pn wt ws W o (nI b) bits (nI c) hw cp (nI j) mu6 (nI (d + 1))) (F7 r told Q un (nI b) (nI c) hr cr (nI j) mu7)) : ∀ (m i f6 f7 b c : Nat) (bits : Int32) (hw cp hr cr : Nat → Int32), q - i = m → i ≤ q → m < f6 → m < f7 → HS b c bits hw cp hr cr → b + c ≤ b0 + c0 + rsum r Q k i → HOut (wgt r k) 1 b0 c0 (HX2_isSoMuch_1 F6 (nI N) un kind parts pn wt ws W o (nI k) mu6 (nI d) f6 (nI i) (nI b) bits (nI c) hw cp) (HX7_isSoMuch_1 F7 r told Q un (nI k) mu7 f7 (nI i) (nI b) (nI c) hr cr) := by
  obtain ⟨hN0, hN, hr1⟩ := hC.N
  have hq := hD.1
  have hm := many_q hC hk hp
  obtain ⟨hgap, hsum⟩ := rs_at hC hS hI hR hk hp hq h0
  intro m
  induction m with
  | zero =>
    intro i f6 f7 b c bits hw cp hr cr hd hi h6 h7 hHS hbs
    obtain ⟨f6, rfl⟩ : ∃ g, f6 = g + 1 := ⟨f6 - 1, by omega⟩
    obtain ⟨f7, rfl⟩ : ∃ g, f7 = g + 1 := ⟨f7 - 1, by omega⟩
    obtain rfl : i = q := by omega
    have hg := hgap i (Nat.le_refl _)
    refine ⟨1, b, c, bits, hw, cp, hr, cr, ?_, ?_, ⟨by decide, by decide⟩, by omega, hHS⟩
    · rw [HX2_isSoMuch_1_eq, lt_ap, nI_clamp (show k < 2 ^ 31 by omega), hp, if_pos (nI_le (Nat.le_refl _) (by omega))]
    · rw [HX7_isSoMuch_1_eq]
      simp only [lt_ap]
      rw [show (27 : Int32) + nI k = nI (27 + k) from nI_add 27 k, nI_clamp (show 27 + k < 2 ^ 31 by omega), hm, if_pos (nI_le (Nat.le_refl _) (by omega))]
  | succ m ih =>
    intro i f6 f7 b c bits hw cp hr cr hd hi h6 h7 hHS hbs
    obtain ⟨f6, rfl⟩ : ∃ g, f6 = g + 1 := ⟨f6 - 1, by omega⟩
    obtain ⟨f7, rfl⟩ : ∃ g, f7 = g + 1 := ⟨f7 - 1, by omega⟩
    have hiq : i < q := by omega
    obtain ⟨j, j1, -, j2, j3, -, -⟩ := hp_at hC hS hk hp hD hiq
    have hs1 := hsum i j (by omega) j3
    have hg1' := hgap (i + 1) (by omega)
    obtain ⟨v, b', c', bits', hw', cp', hr', cr', e6, e7, hv, hb', hH'⟩ := hF i j hiq (by omega) j3 b c bits hw cp hr cr hHS (by omega)
    rw [HX2_isSoMuch_1_eq, HX7_isSoMuch_1_eq]
    simp only [lt_ap]
    rw [nI_clamp (show k < 2 ^ 31 by omega), hp, if_neg (show ¬ nI q ≤ nI i by rw [nI_leI (by omega) (by omega)]; omega), j2, nI_1 d, un6_eq e6, show (27 : Int32) + nI k = nI (27 + k) from nI_add 27 k, nI_clamp (show 27 + k < 2 ^ 31 by omega), hm, if_neg (show ¬ nI q ≤ nI i by rw [nI_leI (by omega) (by omega)]; omega), nI_m4' (by omega), nI_add, nI_clamp (show 4 * k + i < 2 ^ 31 by omega), j3, un5_eq e7, nI_o1]
    by_cases y : v = 0
    · rw [if_pos y, if_pos y]
      exact ⟨0, b', c', bits', hw', cp', hr', cr', rfl, rfl, ⟨by decide, by decide⟩, by omega, hH'⟩
    · rw [if_neg y, if_neg y]
      exact ih (i + 1) f6 f7 b' c' bits' hw' cp' hr' cr' (by omega) (by omega) (by omega) (by omega) hH' (by omega)
theorem so_sim (hC : CR N words unsures slips throne said kind parts pn wt tw uw uo r told) (hS : StR N parts pn W o Q) (hI : CI N unit kind parts pn wt ws steps below above) (hR : ROk r) (hW : ∀ k : Nat, k < N → kind k = 0 → 0 ≤ (W k).toInt ∧ (W k).toInt ≤ 99) {un : Int32} (hun : 1 ≤ un.toInt ∧ un.toInt ≤ 1296) {mu : Int32} (k : Nat) : ∀ (n6 n7 d b c : Nat) (bits : Int32) (hw cp hr cr : Nat → Int32), k < N → k < n7 → hgt r k < n6 → d + hgt r k ≤ 12 → HS b c bits hw cp hr cr → b + c + wgt r k ≤ 349 → HOut (wgt r k) 1 b c (PX2_isSoMuch n6 (nI N) un kind parts pn wt ws W o (nI b) bits (nI c) hw cp (nI k) (mu * un) (nI d)) (PX7_isSoMuch n7 r told Q un (nI b) (nI c) hr cr (nI k) mu) := by
  obtain ⟨hN0, hN, hr1⟩ := hC.N
  induction k using Nat.strongRecOn with
  | _ k ih =>
    intro n6 n7 d b c bits hw cp hr cr hk hn7 hn6 hd hHS hbc
    obtain ⟨n6, rfl⟩ : ∃ g, n6 = g + 1 := ⟨n6 - 1, by omega⟩
    obtain ⟨n7, rfl⟩ : ∃ g, n7 = g + 1 := ⟨n7 - 1, by omega⟩
    obtain ⟨q, hp, hD⟩ := hI.2.1 k hk
    have hq := hD.1
    have hm := many_q hC hk hp
    have hkd := (hC.k hk).1
    have hin : 0 ≤ (nI k).toInt ∧ (nI k).toInt < (N : Int) := by rw [nI_toInt (by omega)]; omega
    have hl : ¬ kind k = 1 → ¬ kind k = 2 → ∃ (x : Int32) (b' c' : Nat) (bits' : Int32) (hw' cp' hr' cr' : Nat → Int32), PX2_listen (n6 + 1) (nI N) un kind parts pn wt ws W o (nI b) bits (nI c) hw cp (nI k) (-1) ((100 : Int32) * un) (nI d) = (x, nI b', bits', nI c', hw', cp') ∧ PX7_hear 18 r told un Q (nI b) (nI c) hr cr (nI k) (-100000000) 100000000 = (x, nI b', nI c', hr', cr') ∧ b' + c' ≤ b + c + wgt r k ∧ HS b' c' bits' hw' cp' hr' cr' := fun _ _ => by
      obtain ⟨x, b', c', bits', hw', cp', hr', cr', e6, e7, -, hb', hH'⟩ := hear_sim hC hS hI hR hW hun k (n6 + 1) 18 d b c bits (-1) (-100000000) ((100 : Int32) * un) 100000000 hw cp hr cr hk (by omega) hn6 hd lo_free (hi_free hun) hHS hbc
      exact ⟨x, b', c', bits', hw', cp', hr', cr', e6, e7, hb', hH'⟩
    have hF : ¬ kind k = 0 → ∀ i j : Nat, i < q → j < 2 ^ 31 → Q (4 * k + i) = nI j → ∀ (b c : Nat) (bits : Int32) (hw cp hr cr : Nat → Int32), HS b c bits hw cp hr cr → b + c + wgt r j ≤ 349 → HOut (wgt r j) 1 b c (PX2_isSoMuch n6 (nI N) un kind parts pn wt ws W o (nI b) bits (nI c) hw cp (nI j) (mu * un) (nI (d + 1))) (PX7_isSoMuch n7 r told Q un (nI b) (nI c) hr cr (nI j) mu) := fun h0 i j hi hjl hj b c bits hw cp hr cr y3 y4 => by
        have h0' : ¬ (r (9 + k)).toInt = 0 := fun e => h0 (by rw [hkd, fz_eq, kc_0]; exact e)
        obtain ⟨j', j1, -, -, j2, -⟩ := hp_at hC hS hk hp hD hi
        obtain rfl : j' = j := (nI_eq (by omega) hjl).mp (j2.symm.trans hj)
        have hl := hgt_lt (r := r) h0' j1
        exact ih j' j1 n6 n7 (d + 1) b c bits hw cp hr cr (by omega) (by omega) (by omega) (by omega) y3 y4
    rw [PX2_isSoMuch_eq, PX7_isSoMuch_eq]
    simp only [lt_ap]
    rw [if_neg (show ¬ (12 : Int32) < nI d by rw [show (12 : Int32) = nI 12 by decide, nI_ltI (by omega) (by omega)]; omega), hn_eq hN, if_pos hin, if_pos (show (1 : Int32) = 1 from rfl), nI_clamp (show k < 2 ^ 31 by omega), show (9 : Int32) + nI k = nI (9 + k) from nI_add 9 k, nI_clamp (show 9 + k < 2 ^ 31 by omega), ← hkd, PX2_aboveAll_eq, lt_ap]
    rcases kd_of hC hR hk with h | h | h | h
    · obtain ⟨x, b', c', bits', hw', cp', hr', cr', e6, e7, hb', hH'⟩ := hl (by rw [h]; decide) (by rw [h]; decide)
      rw [if_pos h, if_neg (show ¬ kind k = 1 by rw [h]; decide), if_neg (show ¬ kind k = 2 by rw [h]; decide), un6_eq e6, un5_eq e7]
      by_cases y : x < mu * un
      · rw [if_pos y, if_pos y]
        exact ⟨0, b', c', bits', hw', cp', hr', cr', rfl, rfl, ⟨by decide, by decide⟩, hb', hH'⟩
      · rw [if_neg y, if_neg y]
        exact ⟨1, b', c', bits', hw', cp', hr', cr', rfl, rfl, ⟨by decide, by decide⟩, hb', hH'⟩
    · have h0 : ¬ kind k = 0 := by rw [h]; decide
      rw [if_neg h0, if_neg (show ¬ kind k = 3 by rw [h]; decide), if_pos h, if_pos h, if_pos h, hm]
      have e := skloop hC hS hI hR hk hp hD h0 hbc (hF h0) q 0 (((4 - (0 : Int32).toInt).toNat) + 1) ((((nI q).toInt - (0 : Int32).toInt).toNat) + 1) b c bits hw cp hr cr rfl (by omega) (by rw [kc_0]; omega) (by rw [kc_0, nI_toInt (by omega)]; omega) hHS (by have := rsum_zero r Q k; omega)
      rw [nI_0] at e
      exact e
    · have h0 : ¬ kind k = 0 := by rw [h]; decide
      rw [if_neg h0, if_neg (show ¬ kind k = 3 by rw [h]; decide), if_neg (show ¬ kind k = 1 by rw [h]; decide), if_neg (show ¬ kind k = 1 by rw [h]; decide), if_pos h, hm]
      have e := sqloop hC hS hI hR hk hp hD h0 hbc (hF h0) q 0 (((4 - (0 : Int32).toInt).toNat) + 1) ((((nI q).toInt - (0 : Int32).toInt).toNat) + 1) b c bits hw cp hr cr rfl (by omega) (by rw [kc_0]; omega) (by rw [kc_0, nI_toInt (by omega)]; omega) hHS (by have := rsum_zero r Q k; omega)
      rw [nI_0] at e
      first
        | exact e
        | (rw [if_neg (show ¬ kind k = 1 by rw [h]; decide)]; exact e)
    · obtain ⟨x, b', c', bits', hw', cp', hr', cr', e6, e7, hb', hH'⟩ := hl (by rw [h]; decide) (by rw [h]; decide)
      rw [if_neg (show ¬ kind k = 0 by rw [h]; decide), if_pos h, if_neg (show ¬ kind k = 1 by rw [h]; decide), if_neg (show ¬ kind k = 2 by rw [h]; decide), un6_eq e6, un5_eq e7]
      by_cases y : x < mu * un
      · rw [if_pos y, if_pos y]
        exact ⟨0, b', c', bits', hw', cp', hr', cr', rfl, rfl, ⟨by decide, by decide⟩, hb', hH'⟩
      · rw [if_neg y, if_neg y]
        exact ⟨1, b', c', bits', hw', cp', hr', cr', rfl, rfl, ⟨by decide, by decide⟩, hb', hH'⟩
theorem asked_sim (hC : CR N words unsures slips throne said kind parts pn wt tw uw uo r told) (hS : StR N parts pn W o Q) (hI : CI N unit kind parts pn wt ws steps below above) (hR : ROk r) (hW : ∀ k : Nat, k < N → kind k = 0 → 0 ≤ (W k).toInt ∧ (W k).toInt ≤ 99) {un : Int32} (hun : 1 ≤ un.toInt ∧ un.toInt ≤ 1296) {t : Nat} (hth : throne = nI t) (hth6 : r 6 = nI t) (ht : t < N) (p0 : Int32) (hw cp hr cr : Nat → Int32) : ∃ (v : Int32) (b c : Nat) (bits : Int32) (hw' cp' hr' cr' : Nat → Int32), PX2_asked hw cp (nI N) throne un kind parts pn wt ws W o p0 = (v, nI b, bits, nI c, hw', cp') ∧ PX7_askFor r told Q un hr cr 0 0 p0 = (v, nI b, nI c, hr', cr') := by
  obtain ⟨hN0, hN, hr1⟩ := hC.N
  have h8 := hgt_8 hR (k := t) (by rw [hr1, nI_toInt (by omega)]; omega)
  have hw9 := (wgt_in r t).2
  obtain ⟨v, b, c, bits, hw', cp', hr', cr', e6, e7, hv, hb, hh⟩ := so_sim hC hS hI hR hW hun (mu := p0) t 14 18 0 0 0 0 hw cp hr cr ht (by omega) (by omega) (by omega) hs_0 (by omega)
  rw [nI_0] at e6 e7
  refine ⟨v, b, c, bits, hw', cp', hr', cr', ?_, ?_⟩
  · rw [PX2_asked_eq, PX2_begin_eq, un3_eq rfl]
    simp only [lt_ap]
    rw [un6_id, hth]
    exact e6
  · rw [PX7_askFor_eq, lt_ap, six_cl, hth6, un5_id]
    exact e7
theorem hv_loop (hC : CR N words unsures slips throne said kind parts pn wt tw uw uo r told) (hS : StR N parts pn W o Q) (hI : CI N unit kind parts pn wt ws steps below above) (hR : ROk r) (hW : ∀ k : Nat, k < N → kind k = 0 → 0 ≤ (W k).toInt ∧ (W k).toInt ≤ 99) {un : Int32} (hun : 1 ≤ un.toInt ∧ un.toInt ≤ 1296) {t : Nat} (hth : throne = nI t) (hth6 : r 6 = nI t) (ht : t < N) : ∀ (m lo hi i f6 f7 : Nat) (b6 bits c6 b7 c7 acc : Int32) (hw cp hr cr : Nat → Int32), hi - lo ≤ m → lo ≤ hi → hi ≤ 99 → i + (hi - lo) ≤ 99 → m < f6 → m < f7 → ∃ (I : Nat) (A b6' bits' c6' b7' c7' : Int32) (hw' cp' hr' cr' : Nat → Int32), HX2_askByHalves_0 (nI N) throne un kind parts pn wt ws W o f6 (nI i) (nI hi) (nI lo) b6 bits c6 acc (nI i) hw cp = (b6', bits', c6', A, nI I, hw', cp') ∧ HX7_halve_0 r told Q un f7 (nI lo) (nI hi) (nI i) b7 c7 acc hr cr = (nI I, b7', c7', A, hr', cr') := by
  intro m
  induction m with
  | zero =>
    intro lo hi i f6 f7 b6 bits c6 b7 c7 acc hw cp hr cr hd hl hh hi99 h6 h7
    obtain ⟨f6, rfl⟩ : ∃ g, f6 = g + 1 := ⟨f6 - 1, by omega⟩
    obtain ⟨f7, rfl⟩ : ∃ g, f7 = g + 1 := ⟨f7 - 1, by omega⟩
    refine ⟨i, acc, b6, bits, c6, b7, c7, hw, cp, hr, cr, ?_, ?_⟩
    · rw [HX2_askByHalves_0_eq]
      by_cases y : (99 : Int32) ≤ nI i
      · rw [if_pos y]
      · rw [if_neg y, if_pos (nI_le (by omega) (by omega))]
    · rw [HX7_halve_0_eq, if_pos (nI_le (by omega) (by omega))]
  | succ m ih =>
    intro lo hi i f6 f7 b6 bits c6 b7 c7 acc hw cp hr cr hd hl hh hi99 h6 h7
    obtain ⟨f6, rfl⟩ : ∃ g, f6 = g + 1 := ⟨f6 - 1, by omega⟩
    obtain ⟨f7, rfl⟩ : ∃ g, f7 = g + 1 := ⟨f7 - 1, by omega⟩
    by_cases z : hi ≤ lo
    · refine ⟨i, acc, b6, bits, c6, b7, c7, hw, cp, hr, cr, ?_, ?_⟩
      · rw [HX2_askByHalves_0_eq]
        by_cases y : (99 : Int32) ≤ nI i
        · rw [if_pos y]
        · rw [if_neg y, if_pos (nI_le z (by omega))]
      · rw [HX7_halve_0_eq, if_pos (nI_le z (by omega))]
    · obtain ⟨v, b, c, bits1, hw1, cp1, hr1, cr1, e6, e7⟩ := asked_sim hC hS hI hR hW hun hth hth6 ht (nI ((lo + hi + 1) / 2)) hw cp hr cr
      rw [HX2_askByHalves_0_eq, HX7_halve_0_eq, if_neg (show ¬ (99 : Int32) ≤ nI i by rw [show (99 : Int32) = nI 99 by decide, nI_leI (by omega) (by omega)]; omega), if_neg (show ¬ nI hi ≤ nI lo by rw [nI_leI (by omega) (by omega)]; omega), if_neg (show ¬ nI hi ≤ nI lo by rw [nI_leI (by omega) (by omega)]; omega)]
      simp only [lt_ap]
      rw [nI_add, nI_1, nI_half _ (by omega), un6_eq e6, un5_eq e7, nI_m1 (show 0 < (lo + hi + 1) / 2 by omega), nI_o1, nI_1]
      by_cases y : v = 0
      · rw [if_pos y, if_pos y]
        exact ih lo ((lo + hi + 1) / 2 - 1) (i + 1) f6 f7 _ _ _ _ _ _ _ _ _ _ (by omega) (by omega) (by omega) (by omega) (by omega) (by omega)
      · rw [if_neg y, if_neg y]
        exact ih ((lo + hi + 1) / 2) hi (i + 1) f6 f7 _ _ _ _ _ _ _ _ _ _ (by omega) (by omega) (by omega) (by omega) (by omega) (by omega)
end WQ
end G3
