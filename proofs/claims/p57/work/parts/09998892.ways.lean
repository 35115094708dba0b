/-! how many ways lead down: on both sides -/
section E7
section WQ
variable {N : Nat} {words unsures slips throne said unit : Int32} {kind parts pn wt tw uw uo r told w o st ws steps below above : Nat → Int32}
/-- one step of the reference's reckoning, the parts as told -/
theorem ways_step (hC : CR N words unsures slips throne said kind parts pn wt tw uw uo r told) (hS : StR N parts pn w o st) {n k q : Nat} (hk : k < N) (hp : parts k = nI q) (hD : ND k q kind pn wt ws steps below) : PX7_wholeOf (n + 1) r st (nI k) = pf opA (if kind k = 0 then 1 else 0) (fun i => PX7_wholeOf n r st (pn (4 * k + i))) q := by
  have hN := hC.N.2.1
  have hq := hD.1
  obtain ⟨s, s1, s2, s3⟩ := st_perm hS hk hp hD.1
  have e : ∀ z : Int32, HX7_wholeOf_0 (PX7_wholeOf n) r st (nI k) (((4 - (0 : Int32).toInt).toNat) + 1) (nI 0) z = pf opA z (fun i => PX7_wholeOf n r st (pn (4 * k + s i))) q := fun z => ways_loop (z := z) (F9 := PX7_wholeOf n) (v := fun i => PX7_wholeOf n r st (pn (4 * k + s i))) (by omega) hD.1 (many_q hC hk hp) (fun i hi => by rw [s3 i hi]) q 0 (((4 - (0 : Int32).toInt).toNat) + 1) rfl (by omega) (by rw [kc_0]; omega)
  rw [nI_0] at e
  rw [PX7_wholeOf_eq]
  simp only [lt_ap]
  rw [show (9 : Int32) + nI k = nI (9 + k) from nI_add 9 k, nI_clamp (by omega), ← (hC.k hk).1, e, e]
  by_cases h0 : kind k = 0
  · rw [if_pos h0, if_pos h0]
    exact pf_perm opA_c (g := fun i => PX7_wholeOf n r st (pn (4 * k + i))) q s s1 s2
  · rw [if_neg h0, if_neg h0]
    exact pf_perm opA_c (g := fun i => PX7_wholeOf n r st (pn (4 * k + i))) q s s1 s2
theorem ways_fuel (hC : CR N words unsures slips throne said kind parts pn wt tw uw uo r told) (hS : StR N parts pn w o st) (hI : CI N unit kind parts pn wt ws steps below above) (k : Nat) : ∀ (n m : Nat), k < n → k < m → k < N → PX7_wholeOf n r st (nI k) = PX7_wholeOf m r st (nI k) := by
  induction k using Nat.strongRecOn with
  | _ k ih =>
    intro n m h1 h2 hk
    obtain ⟨n, rfl⟩ : ∃ g, n = g + 1 := ⟨n - 1, by omega⟩
    obtain ⟨m, rfl⟩ : ∃ g, m = g + 1 := ⟨m - 1, by omega⟩
    obtain ⟨q, hp, hD⟩ := hI.2.1 k hk
    rw [ways_step hC hS hk hp hD, ways_step hC hS hk hp hD]
    refine pf_congr q (fun i hi => ?_)
    obtain ⟨j, j1, j2⟩ := hD.2.2.2.2.1 i hi
    show PX7_wholeOf n r st (pn (4 * k + i)) = PX7_wholeOf m r st (pn (4 * k + i))
    rw [j2]
    exact ih j j1 n m (by omega) (by omega) (by omega)
theorem wd_in {K : Int32 → (Nat → Int32) → Int32 × (Nat → Int32)} {k q : Nat} {z : Int32} {V : Nat → Int32} (hk : k < 18) (hq : q ≤ 4) (hp : parts k = nI q) (hj : ∀ i : Nat, i < q → ∃ j : Nat, j < k ∧ pn (4 * k + i) = nI j) : ∀ (m i f : Nat) (G : Nat → Int32), q - i = m → i ≤ q → m < f → G k = pf opA z (fun i => V (pn (4 * k + i)).toNatClampNeg) i → (∀ j : Nat, j < k → G j = V j) → ∃ G' : Nat → Int32, HX4_waysDown_1 parts pn (nI k) K f (nI i) G = K (nI (k + 1)) G' ∧ G' k = pf opA z (fun i => V (pn (4 * k + i)).toNatClampNeg) q ∧ ∀ j : Nat, j < k → G' j = V j := by
  intro m
  induction m with
  | zero =>
    intro i f G hr hi hf hG hV
    obtain ⟨f, rfl⟩ : ∃ g, f = g + 1 := ⟨f - 1, by omega⟩
    obtain rfl : i = q := by omega
    refine ⟨G, ?_, hG, hV⟩
    rw [HX4_waysDown_1_eq]
    dsimp only [lt_]
    rw [nI_clamp (by omega), hp, if_pos (nI_le (by omega) (by omega)), nI_o1]
  | succ m ih =>
    intro i f G hr hi hf hG hV
    obtain ⟨f, rfl⟩ : ∃ g, f = g + 1 := ⟨f - 1, by omega⟩
    obtain ⟨j, j1, j2⟩ := hj i (by omega)
    have a : HX4_waysDown_1 parts pn (nI k) K (f + 1) (nI i) G = HX4_waysDown_1 parts pn (nI k) K f (nI (i + 1)) (upd G k (G k + G j)) := by
      rw [HX4_waysDown_1_eq]
      dsimp only [lt_]
      rw [nI_clamp (show k < 2 ^ 31 by omega), hp, if_neg (by rw [nI_leI (by omega) (by omega)]; omega), nI_m4 (by omega), nI_add, nI_clamp (show 4 * k + i < 2 ^ 31 by omega), j2, nI_clamp (show j < 2 ^ 31 by omega), nI_o1]
    rw [a]
    refine ih (i + 1) f _ (by omega) (by omega) (by omega) ?_ (fun x hx => ?_)
    · rw [upd_at, hG, hV j j1]
      show _ = opA (pf opA z (fun i => V (pn (4 * k + i)).toNatClampNeg) i) (V (pn (4 * k + i)).toNatClampNeg)
      rw [j2, nI_clamp (show j < 2 ^ 31 by omega)]
      rfl
    · rw [upd_ne (by omega)]
      exact hV x hx
theorem wd_out (hC : CR N words unsures slips throne said kind parts pn wt tw uw uo r told) (hS : StR N parts pn w o st) (hI : CI N unit kind parts pn wt ws steps below above) : ∀ (m k f : Nat) (G : Nat → Int32), N - k = m → k ≤ N → m < f → (∀ j : Nat, j < k → G j = PX7_wholeOf 18 r st (nI j)) → ∃ G' : Nat → Int32, HX4_waysDown_0 (nI N) throne kind parts pn f (nI k) G = (PX7_wholeOf 18 r st throne, G') := by
  have hN := hI.1
  have hN0 := hC.N.1
  intro m
  induction m with
  | zero =>
    intro k f G hr hk hf hV
    obtain ⟨f, rfl⟩ : ∃ g, f = g + 1 := ⟨f - 1, by omega⟩
    obtain rfl : k = N := by omega
    refine ⟨G, ?_⟩
    obtain ⟨-, -, -, -, -, -, -, -, hth, -⟩ := hC
    obtain ⟨t, t1, rfl⟩ := nd_of hN hth
    rw [HX4_waysDown_0_eq, if_pos (nI_le (by omega) (by omega)), PX4_throneValue_eq]
    dsimp only [lt_]
    rw [hn_eq hN, if_pos hth, if_pos rfl, nI_clamp (by omega), hV t t1]
  | succ m ih =>
    intro k f G hr hk hf hV
    obtain ⟨f, rfl⟩ : ∃ g, f = g + 1 := ⟨f - 1, by omega⟩
    obtain ⟨q, hp, hD⟩ := hI.2.1 k (by omega)
    have hstep : pf opA (if kind k = 0 then 1 else 0) (fun i => PX7_wholeOf 18 r st (nI (pn (4 * k + i)).toNatClampNeg)) q = PX7_wholeOf 18 r st (nI k) := by
      rw [show (18 : Nat) = 17 + 1 from rfl, ways_step hC hS (show k < N by omega) hp hD]
      refine pf_congr q (fun i hi => ?_)
      obtain ⟨j, j1, j2⟩ := hD.2.2.2.2.1 i hi
      show PX7_wholeOf (17 + 1) r st (nI (pn (4 * k + i)).toNatClampNeg) = PX7_wholeOf 17 r st (pn (4 * k + i))
      rw [j2, nI_clamp (by omega)]
      exact ways_fuel hC hS hI j (17 + 1) 17 (by omega) (by omega) (by omega)
    have key : ∀ z : Int32, z = (if kind k = 0 then 1 else 0) → ∃ G' : Nat → Int32, HX4_waysDown_1 parts pn (nI k) (fun a b => HX4_waysDown_0 (nI N) throne kind parts pn f a b) (((2147483647 - (0 : Int32).toInt).toNat) + 1) 0 (upd G k z) = (PX7_wholeOf 18 r st throne, G') := fun z hz => by
      obtain ⟨G', e, g1, g2⟩ := wd_in (K := fun a b => HX4_waysDown_0 (nI N) throne kind parts pn f a b) (z := z) (V := fun j => PX7_wholeOf 18 r st (nI j)) (show k < 18 by omega) hD.1 hp hD.2.2.2.2.1 q 0 (((2147483647 - (0 : Int32).toInt).toNat) + 1) (upd G k z) rfl (by omega) (by rw [kc_0]; have := hD.1; omega) (upd_at _ _ _) (fun j hj => by rw [upd_ne (by omega)]; exact hV j hj)
      rw [nI_0] at e
      rw [e]
      refine ih (k + 1) f G' (by omega) (by omega) (by omega) (fun j hj => ?_)
      by_cases c : j = k
      · rw [c, g1, hz]; exact hstep
      · exact g2 j (by omega)
    rw [HX4_waysDown_0_eq, if_neg (by rw [nI_leI (by omega) (by omega)]; omega)]
    simp only [lt_ap]
    rw [nI_clamp (show k < 2 ^ 31 by omega)]
    by_cases h0 : kind k = 0
    · rw [if_pos h0]
      exact key 1 (by rw [if_pos h0])
    · rw [if_neg h0]
      exact key 0 (by rw [if_neg h0])
end WQ
section WJ
variable {nodes words unsures slips throne said : Int32} {kind parts pn wt tw uw uo w o : Nat → Int32} {ic : Int32} {iw0 io0 iw1 io1 iw2 io2 : Nat → Int32} {ac : Int32} {an ao as : Nat → Int32} {hc : Int32} {r told st und kept : Nat → Int32} {undos images : Int32} {unit : Int32} {ws steps below above : Nat → Int32}
theorem whole_join (h : Rel nodes words unsures slips throne said kind parts pn wt tw uw uo w o ic iw0 io0 iw1 io1 iw2 io2 ac an ao as hc r told st und kept undos images) (hx : CIS nodes unit kind parts pn wt ws steps below above) {lv lv' : Nat → Int32} {q6 rf q7 t1 t2 : Int32} (e6 : PX6_whole nodes throne kind parts pn lv = (q6, rf, lv')) (e7 : PX7_whole hc r st = (q7, t1, t2)) : q6 = q7 ∧ rf = t2 := by
  have key : ∃ (q f t : Int32) (v : Nat → Int32), PX6_whole nodes throne kind parts pn lv = (q, f, v) ∧ PX7_whole hc r st = (q, t, f) := by
    rcases h with ⟨rfl, h0⟩ | ⟨N, c, d, rfl, rfl, rfl, rfl, hc, rfl, rfl, hd, hC, hS, hU, hI⟩
    · obtain ⟨h2, h3, h4, h5, h6, h7, rfl, h8, h9⟩ := h0
      refine ⟨-1, 1, 0, lv, ?_, ?_⟩
      · rw [PX6_whole_eq, lc_0, un2_eq rfl, if_neg (show ¬ (1 : Int32) = 0 by decide)]
      · rw [PX7_whole_eq, PX7_good_eq, un2_eq rfl, if_pos rfl, no_eq, un2_eq rfl]
    · obtain ⟨hN0, hN, hr⟩ := hC.N
      obtain ⟨M, hM, hX⟩ := hx
      obtain rfl : N = M := (nI_eq (by omega) (by have := hX.1; omega)).mp hM
      obtain ⟨G', e⟩ := wd_out hC hS hX N 0 (((2147483647 - (0 : Int32).toInt).toNat) + 1) lv rfl (by omega) (by rw [kc_0]; omega) (fun j hj => absurd hj (by omega))
      rw [nI_0] at e
      have hth : r 6 = throne := hC.2.2.2.2.2.2.1
      refine ⟨PX7_wholeOf 18 r st throne, 0, 0, G', ?_, ?_⟩
      · rw [PX6_whole_eq, lc_N hN0 hN, un2_eq rfl, if_pos rfl, PX4_waysDown_eq, un2_eq e]
      · rw [PX7_whole_eq, PX7_good_eq, un2_eq rfl, if_neg (show ¬ (1 : Int32) = 0 by decide)]
        dsimp only [lt_]
        rw [six_cl, hth]
  obtain ⟨q, f, t, v, g6, g7⟩ := key
  have x := g6.symm.trans e6
  have y := g7.symm.trans e7
  simp only [Prod.mk.injEq] at x y
  obtain ⟨rfl, rfl, -⟩ := x
  obtain ⟨rfl, -, rfl⟩ := y
  exact ⟨rfl, rfl⟩
end WJ
end E7
