/-! words of which nobody is sure: the throne by a set of slips -/
section F14
/-- the worths by the set s of slips, the first j of them done -/
def SW (uw uo : Nat → Int32) (s : Nat) (W : Nat → Int32) : Nat → Nat → Int32
  | 0 => W
  | j + 1 => if s.testBit j then upd (SW uw uo s W j) (uw j).toNatClampNeg (uo j) else SW uw uo s W j
section WQ
variable {N : Nat} {words unsures slips throne said unit : Int32} {kind parts pn wt tw uw uo r told W W' o Q ws steps below above : Nat → Int32}
theorem SW_in {U s : Nat} (hU : U ≤ 4) (hu : ∀ j : Nat, j < U → 0 ≤ (uo j).toInt ∧ (uo j).toInt ≤ 99) (hW : ∀ k : Nat, k < N → kind k = 0 → 0 ≤ (W k).toInt ∧ (W k).toInt ≤ 99) : ∀ j : Nat, j ≤ U → ∀ k : Nat, k < N → kind k = 0 → 0 ≤ (SW uw uo s W j k).toInt ∧ (SW uw uo s W j k).toInt ≤ 99
  | 0, _, k, hk, h0 => hW k hk h0
  | j + 1, hj, k, hk, h0 => by
    have ih := SW_in (s := s) hU hu hW j (by omega) k hk h0
    rw [SW]
    by_cases c : s.testBit j = true
    · rw [if_pos c]
      by_cases d : k = (uw j).toNatClampNeg
      · rw [d, upd_at]; exact hu j (by omega)
      · rw [upd_ne d]; exact ih
    · rw [if_neg c]; exact ih
theorem StR.wr {w o s : Nat → Int32} (h : StR N parts pn w o s) (hN : N ≤ 18) (hp : ∀ k : Nat, k < N → (parts k).toInt ≤ 4) {d : Nat} (hd : d < 18) (v : Int32) : StR N parts pn (upd w d v) o (upd s (72 + d) v) := by
  intro k' hk'
  obtain ⟨h1, h2, h3⟩ := h k' hk'
  have q4 := hp k' hk'
  refine ⟨?_, fun i hi => ?_, h3⟩
  · by_cases c : k' = d
    · rw [c, upd_at, upd_at]
    · rw [upd_ne c, upd_ne (by omega)]; exact h1
  · rw [upd_ne (show ¬ 4 * k' + i = 72 + d by omega)]
    exact h2 i hi
theorem two_nI : ∀ j : Nat, j < 5 → (2 : Int32) * nI j = nI (2 * j) := by decide
/-- the reference lays the slips -/
theorem sl_loop (hC : CR N words unsures slips throne said kind parts pn wt tw uw uo r told) (hR : ROk r) {U s : Nat} (hU : U ≤ 4) (hu : unsures = nI U) (hs : s < 16) : ∀ (m j f : Nat) (G : Nat → Int32), U - j = m → j ≤ U → m < f → StR N parts pn (SW uw uo s W j) o G → ∃ Q' : Nat → Int32, HX7_slipBy_0 r (nI s) f (nI j) G = Q' ∧ StR N parts pn (SW uw uo s W U) o Q' := by
  obtain ⟨hN0, hN, -⟩ := hC.N
  have h3 : r 3 = nI U := hC.2.2.2.2.1.trans hu
  obtain ⟨Q0, hQ4, hQ0, hUR⟩ := hC.2.2.2.2.2.2.2.2.2.2.1
  obtain rfl : U = Q0 := (nI_eq (by omega) (by omega)).mp (hu.symm.trans hQ0)
  intro m
  induction m with
  | zero =>
    intro j f G hm hj hf hS
    obtain ⟨f, rfl⟩ : ∃ g, f = g + 1 := ⟨f - 1, by omega⟩
    obtain rfl : j = U := by omega
    refine ⟨G, ?_, hS⟩
    rw [HX7_slipBy_0_eq, lt_ap, three_cl, h3, if_pos (nI_le (Nat.le_refl _) (by omega))]
  | succ m ih =>
    intro j f G hm hj hf hS
    obtain ⟨f, rfl⟩ : ∃ g, f = g + 1 := ⟨f - 1, by omega⟩
    have hjU : j < U := by omega
    obtain ⟨u1, u2⟩ := hUR j hjU
    have hd := hR.dnode j (by omega)
    rw [HX7_slipBy_0_eq, lt_ap, three_cl, h3, if_neg (show ¬ nI U ≤ nI j by rw [nI_leI (by omega) (by omega)]; omega)]
    simp only [lt_ap]
    rw [hasBit_eq (by omega) (by omega), nI_o1]
    by_cases c : s.testBit j = true
    · rw [if_pos c, if_neg (show ¬ (1 : Int32) = 0 by decide)]
      obtain ⟨d, hd1, hd2⟩ : ∃ d : Nat, d < 18 ∧ uw j = nI d := ⟨(uw j).toInt.toNat, by rw [u1]; omega, by rw [fz_eq, nI_toInt (by rw [u1]; omega), u1]; omega⟩
      rw [two_nI j (by omega), show (117 : Int32) + nI (2 * j) = nI (117 + 2 * j) from nI_add 117 _, nI_clamp (show 117 + 2 * j < 2 ^ 31 by omega), ← u1, show nI (117 + 2 * j) + (1 : Int32) = nI (118 + 2 * j) by rw [show (1 : Int32) = nI 1 by decide, nI_add]; congr 1; omega, nI_clamp (show 118 + 2 * j < 2 ^ 31 by omega), ← u2, hd2, show (72 : Int32) + nI d = nI (72 + d) from nI_add 72 d, nI_clamp (show 72 + d < 2 ^ 31 by omega)]
      refine ih (j + 1) f _ (by omega) (by omega) (by omega) ?_
      rw [SW, if_pos c, hd2, nI_clamp (by omega)]
      exact hS.wr hN hC.p4 hd1 _
    · rw [if_neg c, if_pos rfl]
      refine ih (j + 1) f G (by omega) (by omega) (by omega) ?_
      rw [SW, if_neg c]; exact hS
/-- the class lays them and weighs -/
theorem su_loop (hC : CR N words unsures slips throne said kind parts pn wt tw uw uo r told) (hI : CI N unit kind parts pn wt ws steps below above) (hR : ROk r) {U s t : Nat} (hU : U ≤ 4) (hu : ∀ j : Nat, j < U → 0 ≤ (uo j).toInt ∧ (uo j).toInt ≤ 99) (hd : ∀ j : Nat, j < U → (uw j).toNatClampNeg < 18) (hW : ∀ k : Nat, k < N → kind k = 0 → 0 ≤ (W k).toInt ∧ (W k).toInt ≤ 99) (hs : s < 16) {un : Int32} (hun : 1 ≤ un.toInt ∧ un.toInt ≤ 1296) (hth : throne = nI t) (ht : t < N) (V : Nat → Int32) : ∀ (m j f : Nat) (G : Nat → Int32), U - j = m → j ≤ U → m < f → (∀ k : Nat, k < 18 → G k = SW uw uo s W j k) → ∃ L' G' : Nat → Int32, HX4_throneByUnsure_0 V (nI N) (nI U) throne un kind parts pn wt ws uw uo (nI s) f (nI j) G = (VV un kind parts pn wt ws (SW uw uo s W U) 18 t, L', G') := by
  have hN := hI.1
  intro m
  induction m with
  | zero =>
    intro j f G hm hj hf hG
    obtain ⟨f, rfl⟩ : ∃ g, f = g + 1 := ⟨f - 1, by omega⟩
    obtain rfl : j = U := by omega
    have hSW := SW_in (uw := uw) (s := s) hU hu hW j (Nat.le_refl _)
    obtain ⟨L', e, -⟩ := weighV hC hI hR (W := G) (fun k hk h0 => by rw [hG k (by omega)]; exact hSW k hk h0) hun hth ht V
    refine ⟨L', G, ?_⟩
    rw [HX4_throneByUnsure_0_eq, if_pos (nI_le (Nat.le_refl _) (by omega)), un2_eq e, VV_congr hI (fun k hk _ => hG k (by omega)) 18 t ht]
  | succ m ih =>
    intro j f G hm hj hf hG
    obtain ⟨f, rfl⟩ : ∃ g, f = g + 1 := ⟨f - 1, by omega⟩
    have hjU : j < U := by omega
    rw [HX4_throneByUnsure_0_eq, if_neg (show ¬ nI U ≤ nI j by rw [nI_leI (by omega) (by omega)]; omega)]
    simp only [lt_ap]
    rw [nI_o1, nI_clamp (show j < 2 ^ 31 by omega)]
    by_cases c : s.testBit j = true
    · rw [if_pos ((bt_one (by omega) (by omega)).mpr c)]
      refine ih (j + 1) f _ (by omega) (by omega) (by omega) (fun k hk => ?_)
      rw [SW, if_pos c]
      by_cases d : k = (uw j).toNatClampNeg
      · rw [d, upd_at, upd_at]
      · rw [upd_ne d, upd_ne d]; exact hG k hk
    · rw [if_neg (fun h => c ((bt_one (by omega) (by omega)).mp h))]
      refine ih (j + 1) f G (by omega) (by omega) (by omega) (fun k hk => ?_)
      rw [SW, if_neg c]; exact hG k hk
/-- the throne by the set s of slips -/
def TU (un : Int32) (kind parts pn wt ws uw uo W : Nat → Int32) (U t s : Nat) : Int32 := VV un kind parts pn wt ws (SW uw uo s W U) 18 t
theorem tu6 (hC : CR N words unsures slips throne said kind parts pn wt tw uw uo r told) (hI : CI N unit kind parts pn wt ws steps below above) (hR : ROk r) {U s t : Nat} (hU : U ≤ 4) (hu : ∀ j : Nat, j < U → 0 ≤ (uo j).toInt ∧ (uo j).toInt ≤ 99) (hd : ∀ j : Nat, j < U → (uw j).toNatClampNeg < 18) (hW : ∀ k : Nat, k < N → kind k = 0 → 0 ≤ (W k).toInt ∧ (W k).toInt ≤ 99) (hs : s < 16) {un : Int32} (hun : 1 ≤ un.toInt ∧ un.toInt ≤ 1296) (hth : throne = nI t) (ht : t < N) (V S : Nat → Int32) : ∃ L' G' : Nat → Int32, PX4_throneByUnsure V S (nI N) (nI U) throne un kind parts pn wt ws uw uo W (nI s) = (TU un kind parts pn wt ws uw uo W U t s, L', G') := by
  rw [PX4_throneByUnsure_eq, lt_ap, ← nI_0]
  refine su_loop hC hI hR hU hu hd hW hs hun hth ht V U 0 _ _ rfl (by omega) (by rw [nI_0, kc_0]; omega) (fun k hk => ?_)
  unfold va_cpy
  rw [SW]
  simp only [Nat.zero_add, Nat.zero_le, true_and, Nat.sub_zero]
  rw [if_pos hk]
theorem cpF90 {f g : Nat → Int32} {q : Nat} (hq : q < 90) : cpF f g (0 : Int32).toNatClampNeg (0 : Int32).toNatClampNeg (90 : Int32).toNatClampNeg q = f q := by
  unfold cpF
  rw [show (0 : Int32).toNatClampNeg = 0 by decide, show (90 : Int32).toNatClampNeg = 90 by decide, if_pos (by omega)]
  congr 1
  omega
theorem tu7 (hC : CR N words unsures slips throne said kind parts pn wt tw uw uo r told) (hR : ROk r) {U s : Nat} (hU : U ≤ 4) (hu : unsures = nI U) (hs : s < 16) (hS : StR N parts pn W o Q) (T : Nat → Int32) : ∃ Q' : Nat → Int32, PX7_slipBy r T Q (nI s) = Q' ∧ StR N parts pn (SW uw uo s W U) o Q' := by
  obtain ⟨hN0, hN, -⟩ := hC.N
  rw [PX7_slipBy_eq, lt_ap, ← nI_0]
  refine sl_loop hC hR hU hu hs U 0 _ _ rfl (by omega) (by rw [nI_0, kc_0]; omega) ?_
  rw [SW]
  exact hS.congr hN hC.p4 (fun _ _ => rfl) (fun _ _ => rfl) (fun q hq => cpF90 hq)
end WQ
end F14
