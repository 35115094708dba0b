/-! worths: all of them, on both sides -/
section F2
section WQ
variable {N : Nat} {words unsures slips throne said unit : Int32} {kind parts pn wt tw uw uo r told W o Q ws steps below above : Nat → Int32}
theorem nIm1 {d : Nat} (h : d < 2 ^ 31) : ¬ nI d = -1 := fun q => by
  have e := (fz_eq _ _).mp q
  rw [nI_toInt h, show (-1 : Int32).toInt = -1 from by decide] at e
  omega
theorem wo_loop {k q i0 : Nat} (hk : k < 18) (hq : q ≤ 4) (hm : r (27 + k) = nI q) (he : ∀ i : Nat, i < q → pn (4 * k + i) = told (4 * k + i) ∧ wt (4 * k + i) = r (45 + 4 * k + i)) (hi0 : i0 < q) (hj : ∀ j : Nat, j < i0 → ¬ pn (4 * k + j) = pn (4 * k + i0)) : ∀ (m i f : Nat), i0 - i = m → i ≤ i0 → m < f → HX7_weightOf_0 r told (nI k) (pn (4 * k + i0)) f (nI i) = wt (4 * k + i0) := by
  intro m
  induction m with
  | zero =>
    intro i f hr hi hf
    obtain ⟨f, rfl⟩ : ∃ g, f = g + 1 := ⟨f - 1, by omega⟩
    obtain rfl : i = i0 := by omega
    obtain ⟨e1, e2⟩ := he i hi0
    rw [HX7_weightOf_0_eq]
    dsimp only [lt_]
    rw [show (27 : Int32) + nI k = nI (27 + k) from nI_add 27 k, nI_clamp (show 27 + k < 2 ^ 31 by omega), hm, if_neg (by rw [nI_leI (by omega) (by omega)]; omega), nI_m4' (by omega), show (45 : Int32) + nI (4 * k) = nI (45 + 4 * k) from nI_add 45 (4 * k), nI_add, nI_add, nI_clamp (show 4 * k + i < 2 ^ 31 by omega), nI_clamp (show 45 + 4 * k + i < 2 ^ 31 by omega), ← e1, ← e2, if_pos rfl]
  | succ m ih =>
    intro i f hr hi hf
    obtain ⟨f, rfl⟩ : ∃ g, f = g + 1 := ⟨f - 1, by omega⟩
    obtain ⟨e1, e2⟩ := he i (by omega)
    rw [HX7_weightOf_0_eq]
    dsimp only [lt_]
    rw [show (27 : Int32) + nI k = nI (27 + k) from nI_add 27 k, nI_clamp (show 27 + k < 2 ^ 31 by omega), hm, if_neg (by rw [nI_leI (by omega) (by omega)]; omega), nI_m4' (by omega), show (45 : Int32) + nI (4 * k) = nI (45 + 4 * k) from nI_add 45 (4 * k), nI_add, nI_add, nI_clamp (show 4 * k + i < 2 ^ 31 by omega), nI_clamp (show 45 + 4 * k + i < 2 ^ 31 by omega), ← e1, ← e2, if_neg (hj i (by omega)), nI_o1]
    exact ih (i + 1) f (by omega) (by omega) (by omega)
theorem wo_eq (hC : CR N words unsures slips throne said kind parts pn wt tw uw uo r told) {k q i0 : Nat} (hk : k < N) (hp : parts k = nI q) (hD : ND k q kind pn wt ws steps below) (hi0 : i0 < q) : PX7_weightOf r told (nI k) (pn (4 * k + i0)) = wt (4 * k + i0) := by
  have hN := hC.N.2.1
  have hq := hD.1
  have e := wo_loop (r := r) (told := told) (by omega) hq (many_q hC hk hp) (fun i hi => (hC.k hk).2.2.2.2 i (by rw [hp, nI_toInt (by omega)]; omega)) hi0 (fun j hj => hD.2.2.2.2.2 j i0 hj hi0) i0 0 (((2147483647 - (0 : Int32).toInt).toNat) + 1) rfl (by omega) (by rw [kc_0]; omega)
  rw [nI_0] at e
  rw [PX7_weightOf_eq]
  exact e
theorem ws_of (hC : CR N words unsures slips throne said kind parts pn wt tw uw uo r told) {k q : Nat} (hk : k < N) (hp : parts k = nI q) (hD : ND k q kind pn wt ws steps below) : pf opA 0 (fun j => r (45 + 4 * k + j)) q = ws k := by
  rw [hD.2.1, sI_pf]
  exact pf_congr q (fun i hi => ((hC.k hk).2.2.2.2 i (by have := hD.1; rw [hp, nI_toInt (by omega)]; omega)).2.symm)
theorem kd_of (hC : CR N words unsures slips throne said kind parts pn wt tw uw uo r told) (hR : ROk r) {k : Nat} (hk : k < N) : kind k = 0 ∨ kind k = 1 ∨ kind k = 2 ∨ kind k = 3 := by
  have hN := hC.N.2.1
  have h := hR.kind (9 + k) (by omega) (by omega)
  rw [← (hC.k hk).1] at h
  simp only [fz_eq, kc_0, kc_1, kc_2, kc_3]
  omega
theorem q1_of (hC : CR N words unsures slips throne said kind parts pn wt tw uw uo r told) (hR : ROk r) {k q : Nat} (hk : k < N) (hp : parts k = nI q) (hq : q ≤ 4) (h0 : ¬ kind k = 0) : 1 ≤ q := by
  obtain ⟨hN0, hN, hr⟩ := hC.N
  have h := hR.inner k (by rw [hr, nI_toInt (by omega)]; omega) (fun e => h0 (by rw [(hC.k hk).1, fz_eq, kc_0]; exact e))
  rw [many_q hC hk hp, nI_toInt (by omega)] at h
  omega
theorem w9_of (hC : CR N words unsures slips throne said kind parts pn wt tw uw uo r told) (hR : ROk r) {k q : Nat} (hk : k < N) (hp : parts k = nI q) (hD : ND k q kind pn wt ws steps below) (h3 : kind k = 3) : ws k = pf opA 0 (fun i => wt (4 * k + i)) q ∧ ∀ i : Nat, i < q → 1 ≤ (wt (4 * k + i)).toInt ∧ (wt (4 * k + i)).toInt ≤ 9 := by
  obtain ⟨hN0, hN, hr⟩ := hC.N
  have hq := hD.1
  refine ⟨by rw [hD.2.1, sI_pf], fun i hi => ?_⟩
  rw [((hC.k hk).2.2.2.2 i (by rw [hp, nI_toInt (by omega)]; omega)).2]
  refine ⟨hR.chance k i (by rw [hr, nI_toInt (by omega)]; omega) (by rw [← (hC.k hk).1, h3]; exact kc_3) (by rw [many_q hC hk hp, nI_toInt (by omega)]; omega), (hR.wts (45 + 4 * k + i) (by omega) (by omega)).2⟩
/-- the reference's worth of a node, one step down: the parts as told -/
theorem wa_step (hC : CR N words unsures slips throne said kind parts pn wt tw uw uo r told) (hS : StR N parts pn W o Q) (hR : ROk r) {n k q d : Nat} {nt sc : Int32} (hk : k < N) (hp : parts k = nI q) (hD : ND k q kind pn wt ws steps below) : PX7_worthAt (n + 1) nt r told sc Q (nI k) (nI d) = if kind k = 0 then W k * sc else if nI d = nt then 50 * sc else Jv (kind k) (ws k) wt (fun i => PX7_worthAt n nt r told sc Q (pn (4 * k + i)) (nI (d + 1))) k q := by
  have hN := hC.N.2.1
  have hq := hD.1
  have hm := many_q hC hk hp
  obtain ⟨s, s1, s2, s3⟩ := st_perm hS hk hp hD.1
  have hv : ∀ i : Nat, i < q → PX7_worthAt n nt r told sc Q (Q (4 * k + i)) (nI (d + 1)) = (fun i => PX7_worthAt n nt r told sc Q (pn (4 * k + s i)) (nI (d + 1))) i := fun i hi => by rw [s3 i hi]
  rw [PX7_worthAt_eq]
  simp only [lt_ap]
  rw [show (9 : Int32) + nI k = nI (9 + k) from nI_add 9 k, nI_clamp (show 9 + k < 2 ^ 31 by omega), ← (hC.k hk).1]
  by_cases h0 : kind k = 0
  · rw [if_pos h0, if_pos h0, show (72 : Int32) + nI k = nI (72 + k) from nI_add 72 k, nI_clamp (show 72 + k < 2 ^ 31 by omega), ← (hS k hk).1]
  · rw [if_neg h0, if_neg h0]
    by_cases hn : nI d = nt
    · rw [if_pos hn, if_pos hn]
    · rw [if_neg hn, if_neg hn, ← Jv_perm (v := fun i => PX7_worthAt n nt r told sc Q (pn (4 * k + i)) (nI (d + 1))) (wt := wt) s1 s2]
      rcases kd_of hC hR hk with c | c | c | c
      · exact absurd c h0
      · rw [c, if_neg (show ¬ (1 : Int32) = 2 by decide), if_pos rfl, if_neg (show ¬ (1 : Int32) = 3 by decide), if_pos rfl]
        have e := wk_loop (z := -100000000) (by omega) hq hm hv q 0 (((4 - (0 : Int32).toInt).toNat) + 1) rfl (by omega) (by rw [kc_0]; omega)
        rw [nI_0] at e
        exact e
      · rw [c, if_pos rfl, if_neg (show ¬ (2 : Int32) = 3 by decide), if_neg (show ¬ (2 : Int32) = 1 by decide)]
        have e := wq_loop (z := 100000000) (by omega) hq hm hv q 0 (((4 - (0 : Int32).toInt).toNat) + 1) rfl (by omega) (by rw [kc_0]; omega)
        rw [nI_0] at e
        exact e
      · rw [c, if_neg (show ¬ (3 : Int32) = 2 by decide), if_neg (show ¬ (3 : Int32) = 1 by decide), if_pos rfl]
        have e := wc_loop (told := told) (u := fun i => wt (4 * k + s i)) (by omega) hq hm hv (fun i hi => by rw [s3 i hi]; exact wo_eq hC hk hp hD (s1 i hi)) q 0 (((4 - (0 : Int32).toInt).toNat) + 1) rfl (by omega) (by rw [kc_0]; omega)
        rw [nI_0, ws_of hC hk hp hD] at e
        exact e
theorem wa_in (hC : CR N words unsures slips throne said kind parts pn wt tw uw uo r told) (hS : StR N parts pn W o Q) (hI : CI N unit kind parts pn wt ws steps below above) (hR : ROk r) (hW : ∀ k : Nat, k < N → kind k = 0 → 0 ≤ (W k).toInt ∧ (W k).toInt ≤ 99) {nt sc : Int32} (hs : 1 ≤ sc.toInt ∧ sc.toInt ≤ 1296) (k : Nat) : ∀ (n d : Nat), k < n → k < N → 0 ≤ (PX7_worthAt n nt r told sc Q (nI k) (nI d)).toInt ∧ (PX7_worthAt n nt r told sc Q (nI k) (nI d)).toInt ≤ 128304 := by
  induction k using Nat.strongRecOn with
  | _ k ih =>
    intro n d h1 hk
    obtain ⟨n, rfl⟩ : ∃ g, n = g + 1 := ⟨n - 1, by omega⟩
    obtain ⟨q, hp, hD⟩ := hI.2.1 k hk
    have hq := hD.1
    rw [wa_step hC hS hR hk hp hD]
    by_cases h0 : kind k = 0
    · obtain ⟨a, b⟩ := hW k hk h0
      have p1 : 0 ≤ (W k).toInt * sc.toInt := Int.mul_nonneg a (by omega)
      have p2 : (W k).toInt * sc.toInt ≤ 99 * 1296 := Int.mul_le_mul b hs.2 (by omega) (by decide)
      rw [if_pos h0, fb_mulI (by omega) (by omega)]
      omega
    · rw [if_neg h0]
      by_cases hn : nI d = nt
      · have k50 : (50 : Int32).toInt = 50 := by decide
        rw [if_pos hn, fb_mulI (by rw [k50]; omega) (by rw [k50]; omega), k50]
        omega
      · rw [if_neg hn]
        refine Jv_in (by decide) (by decide) hq (q1_of hC hR hk hp hq h0) (fun h3 => w9_of hC hR hk hp hD h3) (fun i hi => ?_)
        obtain ⟨j, j1, j2⟩ := hD.2.2.2.2.1 i hi
        show 0 ≤ (PX7_worthAt n nt r told sc Q (pn (4 * k + i)) (nI (d + 1))).toInt ∧ _
        rw [j2]
        exact ih j j1 n (d + 1) (by omega) (by omega)
/-- neither the fuel nor the depth counts, where there is no night -/
theorem wa_any (hC : CR N words unsures slips throne said kind parts pn wt tw uw uo r told) (hS : StR N parts pn W o Q) (hI : CI N unit kind parts pn wt ws steps below above) (hR : ROk r) {sc : Int32} (k : Nat) : ∀ (n m d e : Nat), k < n → k < m → k < N → d + k < 1000 → e + k < 1000 → PX7_worthAt n (-1) r told sc Q (nI k) (nI d) = PX7_worthAt m (-1) r told sc Q (nI k) (nI e) := by
  induction k using Nat.strongRecOn with
  | _ k ih =>
    intro n m d e h1 h2 hk hd he
    obtain ⟨n, rfl⟩ : ∃ g, n = g + 1 := ⟨n - 1, by omega⟩
    obtain ⟨m, rfl⟩ : ∃ g, m = g + 1 := ⟨m - 1, by omega⟩
    obtain ⟨q, hp, hD⟩ := hI.2.1 k hk
    rw [wa_step hC hS hR hk hp hD, wa_step hC hS hR hk hp hD, if_neg (nIm1 (show d < 2 ^ 31 by omega)), if_neg (nIm1 (show e < 2 ^ 31 by omega))]
    by_cases h0 : kind k = 0
    · rw [if_pos h0, if_pos h0]
    · rw [if_neg h0, if_neg h0]
      refine Jv_congr (fun i hi => ?_)
      obtain ⟨j, j1, j2⟩ := hD.2.2.2.2.1 i hi
      show PX7_worthAt n (-1) r told sc Q (pn (4 * k + i)) (nI (d + 1)) = PX7_worthAt m (-1) r told sc Q (pn (4 * k + i)) (nI (e + 1))
      rw [j2]
      exact ih j j1 n m (d + 1) (e + 1) (by omega) (by omega) (by omega) (by omega) (by omega)
/-- what the class weighs, node by node -/
theorem wall_loop {T : Nat → Int32} (hC : CR N words unsures slips throne said kind parts pn wt tw uw uo r told) (hI : CI N unit kind parts pn wt ws steps below above) (hR : ROk r) {un : Int32} (hT : ∀ k q : Nat, k < N → parts k = nI q → q ≤ 4 → T k = if kind k = 0 then W k * un else Jv (kind k) (ws k) wt (fun i => T (pn (4 * k + i)).toNatClampNeg) k q) (hTi : ∀ k : Nat, k < N → -100000000 < (T k).toInt ∧ (T k).toInt < 100000000) : ∀ (m k f : Nat) (G : Nat → Int32), N - k = m → k ≤ N → m < f → (∀ j : Nat, j < k → G j = T j) → ∃ G' : Nat → Int32, HX4_weighAll_0 (nI N) throne un kind parts pn wt ws W f (nI k) G = (T throne.toNatClampNeg, G') ∧ ∀ j : Nat, j < N → G' j = T j := by
  have hN := hI.1
  intro m
  induction m with
  | zero =>
    intro k f G hr hk hf hV
    obtain ⟨f, rfl⟩ : ∃ g, f = g + 1 := ⟨f - 1, by omega⟩
    obtain rfl : k = N := by omega
    refine ⟨G, ?_, hV⟩
    obtain ⟨-, -, -, -, -, -, -, -, hth, -⟩ := hC
    obtain ⟨t, t1, rfl⟩ := nd_of hN hth
    rw [HX4_weighAll_0_eq, if_pos (nI_le (by omega) (by omega)), PX4_throneValue_eq]
    simp only [lt_ap]
    rw [hn_eq hN, if_pos hth, if_pos rfl, nI_clamp (by omega), hV t t1]
  | succ m ih =>
    intro k f G hr hk hf hV
    obtain ⟨f, rfl⟩ : ∃ g, f = g + 1 := ⟨f - 1, by omega⟩
    obtain ⟨q, hp, hD⟩ := hI.2.1 k (by omega)
    have hq := hD.1
    have key : ∀ z : Int32, z = T k → ∃ G' : Nat → Int32, HX4_weighAll_0 (nI N) throne un kind parts pn wt ws W f (nI (k + 1)) (upd G k z) = (T throne.toNatClampNeg, G') ∧ ∀ j : Nat, j < N → G' j = T j := fun z hz => by
      refine ih (k + 1) f (upd G k z) (by omega) (by omega) (by omega) (fun j hj => ?_)
      by_cases c : j = k
      · rw [c, upd_at, hz]
      · rw [upd_ne c]; exact hV j (by omega)
    rw [HX4_weighAll_0_eq, if_neg (by rw [nI_leI (by omega) (by omega)]; omega)]
    simp only [lt_ap]
    rw [nI_clamp (show k < 2 ^ 31 by omega), nI_o1]
    have hTk := hT k q (by omega) hp hq
    by_cases h0 : kind k = 0
    · rw [if_pos h0]
      rw [if_pos h0] at hTk
      exact key _ hTk.symm
    · rw [if_neg h0]
      rw [if_neg h0] at hTk
      refine key _ ?_
      rw [hTk]
      refine joined_eq (by omega) hq (q1_of hC hR (by omega) hp hq h0) hp h0 (fun i hi => ?_) (fun i hi => ?_) (fun h3 => ?_)
      · obtain ⟨j, j1, j2⟩ := hD.2.2.2.2.1 i hi
        show G (pn (4 * k + i)).toNatClampNeg = T (pn (4 * k + i)).toNatClampNeg
        rw [j2, nI_clamp (by omega)]
        exact hV j (by omega)
      · obtain ⟨j, j1, j2⟩ := hD.2.2.2.2.1 i hi
        show -100000000 < (T (pn (4 * k + i)).toNatClampNeg).toInt ∧ (T (pn (4 * k + i)).toNatClampNeg).toInt < 100000000
        rw [j2, nI_clamp (by omega)]
        exact hTi j (by omega)
      · obtain ⟨e, hw⟩ := w9_of hC hR (show k < N by omega) hp hD h3
        have h1 := q1_of hC hR (show k < N by omega) hp hq h0
        have a := (sum_w (w := fun i => wt (4 * k + i)) q hq hw).1
        rw [e]
        omega
theorem weigh_eq (hC : CR N words unsures slips throne said kind parts pn wt tw uw uo r told) (hS : StR N parts pn W o Q) (hI : CI N unit kind parts pn wt ws steps below above) (hR : ROk r) (hW : ∀ k : Nat, k < N → kind k = 0 → 0 ≤ (W k).toInt ∧ (W k).toInt ≤ 99) {un : Int32} (hs : 1 ≤ un.toInt ∧ un.toInt ≤ 1296) (V : Nat → Int32) : ∃ G' : Nat → Int32, PX4_weighAll V (nI N) throne un kind parts pn wt ws W = (PX7_throneBy r told un (-1) Q, G') ∧ ∀ j : Nat, j < N → G' j = PX7_worthOf r told un (-1) Q (nI j) := by
  have hN := hI.1
  have h0 : ∀ p : Int32, PX7_worthOf r told un (-1) Q p = PX7_worthAt 18 (-1) r told un Q p (nI 0) := fun p => by
    rw [PX7_worthOf_eq, lt_ap, nI_0]
  obtain ⟨G', e, hG⟩ := wall_loop (T := fun k => PX7_worthOf r told un (-1) Q (nI k)) (W := W) hC hI hR (un := un) (fun k q hk hp hq4 => by
    obtain ⟨q', hp', hD⟩ := hI.2.1 k hk
    obtain rfl : q = q' := (nI_eq (by omega) (by have := hD.1; omega)).mp (hp.symm.trans hp')
    show PX7_worthOf r told un (-1) Q (nI k) = _
    have e9 : Jv (kind k) (ws k) wt (fun i => PX7_worthOf r told un (-1) Q (nI (pn (4 * k + i)).toNatClampNeg)) k q = Jv (kind k) (ws k) wt (fun i => PX7_worthAt 17 (-1) r told un Q (pn (4 * k + i)) (nI (0 + 1))) k q := Jv_congr (fun i hi => by
      obtain ⟨j, j1, j2⟩ := hD.2.2.2.2.1 i hi
      show PX7_worthOf r told un (-1) Q (nI (pn (4 * k + i)).toNatClampNeg) = PX7_worthAt 17 (-1) r told un Q (pn (4 * k + i)) (nI (0 + 1))
      rw [j2, nI_clamp (by omega), h0]
      exact wa_any hC hS hI hR j 18 17 0 1 (by omega) (by omega) (by omega) (by omega) (by omega))
    rw [h0, show (18 : Nat) = 17 + 1 from rfl, wa_step hC hS hR hk hp hD, if_neg (nIm1 (show 0 < 2 ^ 31 by omega)), e9]) (fun k hk => by
    have a := wa_in hC hS hI hR hW hs k 18 0 (by omega) hk (nt := -1)
    show -100000000 < (PX7_worthOf r told un (-1) Q (nI k)).toInt ∧ (PX7_worthOf r told un (-1) Q (nI k)).toInt < 100000000
    rw [h0]
    omega) N 0 (((2147483647 - (0 : Int32).toInt).toNat) + 1) V rfl (by omega) (by rw [kc_0]; omega) (fun j hj => absurd hj (by omega))
  rw [nI_0] at e
  refine ⟨G', ?_, hG⟩
  have hth : r 6 = throne := hC.2.2.2.2.2.2.1
  obtain ⟨-, -, -, -, -, -, -, -, ht, -⟩ := hC
  obtain ⟨t, t1, rfl⟩ := nd_of hN ht
  rw [PX4_weighAll_eq, e, PX7_throneBy_eq]
  simp only [lt_ap]
  rw [six_cl, hth, nI_clamp (by omega)]
end WQ
end F2
