/-! worths by rows of worths, which of them grow with which -/
section F9
def VV (un : Int32) (kind parts pn wt ws W : Nat → Int32) : Nat → Nat → Int32
  | 0, _ => 0
  | n + 1, k => if kind k = 0 then W k * un else Jv (kind k) (ws k) wt (fun i => VV un kind parts pn wt ws W n (pn (4 * k + i)).toNatClampNeg) k (parts k).toNatClampNeg
theorem ediv_mono {a b c : Int} (h : a ≤ b) (hc : 0 < c) : a / c ≤ b / c := Int.ediv_le_ediv hc h
section WQ
variable {N : Nat} {words unsures slips throne said unit : Int32} {kind parts pn wt tw uw uo r told W W' o Q ws steps below above : Nat → Int32}
theorem VV_at {un : Int32} {n k q : Nat} (hp : parts k = nI q) (hq : q ≤ 4) : VV un kind parts pn wt ws W (n + 1) k = if kind k = 0 then W k * un else Jv (kind k) (ws k) wt (fun i => VV un kind parts pn wt ws W n (pn (4 * k + i)).toNatClampNeg) k q := by
  rw [VV, hp, nI_clamp (by omega)]
theorem VV_fuel (hI : CI N unit kind parts pn wt ws steps below above) {un : Int32} (k : Nat) : ∀ n m : Nat, k < n → k < m → k < N → VV un kind parts pn wt ws W n k = VV un kind parts pn wt ws W m k := by
  have hN := hI.1
  induction k using Nat.strongRecOn with
  | _ k ih =>
    intro n m h1 h2 hk
    obtain ⟨n, rfl⟩ : ∃ g, n = g + 1 := ⟨n - 1, by omega⟩
    obtain ⟨m, rfl⟩ : ∃ g, m = g + 1 := ⟨m - 1, by omega⟩
    obtain ⟨q, hp, hD⟩ := hI.2.1 k hk
    rw [VV_at hp hD.1, VV_at hp hD.1]
    by_cases h0 : kind k = 0
    · rw [if_pos h0, if_pos h0]
    · rw [if_neg h0, if_neg h0]
      refine Jv_congr (fun i hi => ?_)
      obtain ⟨j, j1, j2⟩ := hD.2.2.2.2.1 i hi
      show VV un kind parts pn wt ws W n (pn (4 * k + i)).toNatClampNeg = VV un kind parts pn wt ws W m (pn (4 * k + i)).toNatClampNeg
      rw [j2, nI_clamp (by omega)]
      exact ih j j1 n m (by omega) (by omega) (by omega)
theorem VV_congr (hI : CI N unit kind parts pn wt ws steps below above) {un : Int32} (h : ∀ k : Nat, k < N → kind k = 0 → W' k = W k) : ∀ n k : Nat, k < N → VV un kind parts pn wt ws W' n k = VV un kind parts pn wt ws W n k := by
  have hN := hI.1
  intro n
  induction n with
  | zero => intro k _; rfl
  | succ n ih =>
    intro k hk
    obtain ⟨q, hp, hD⟩ := hI.2.1 k hk
    rw [VV_at hp hD.1, VV_at hp hD.1]
    by_cases h0 : kind k = 0
    · rw [if_pos h0, if_pos h0, h k hk h0]
    · rw [if_neg h0, if_neg h0]
      refine Jv_congr (fun i hi => ?_)
      obtain ⟨j, j1, j2⟩ := hD.2.2.2.2.1 i hi
      show VV un kind parts pn wt ws W' n (pn (4 * k + i)).toNatClampNeg = VV un kind parts pn wt ws W n (pn (4 * k + i)).toNatClampNeg
      rw [j2, nI_clamp (by omega)]
      exact ih j (by omega)
/-- the reference's worths are these -/
theorem wv_eq (hC : CR N words unsures slips throne said kind parts pn wt tw uw uo r told) (hS : StR N parts pn W o Q) (hI : CI N unit kind parts pn wt ws steps below above) (hR : ROk r) {sc : Int32} : ∀ (n k d : Nat), k < N → d + n < 1000 → PX7_worthAt n (-1) r told sc Q (nI k) (nI d) = VV sc kind parts pn wt ws W n k := by
  have hN := hI.1
  intro n
  induction n with
  | zero => intro k d _ _; rfl
  | succ n ih =>
    intro k d hk hd
    obtain ⟨q, hp, hD⟩ := hI.2.1 k hk
    rw [wa_step hC hS hR hk hp hD, VV_at hp hD.1, if_neg (nIm1 (show d < 2 ^ 31 by omega))]
    by_cases h0 : kind k = 0
    · rw [if_pos h0, if_pos h0]
    · rw [if_neg h0, if_neg h0]
      refine Jv_congr (fun i hi => ?_)
      obtain ⟨j, j1, j2⟩ := hD.2.2.2.2.1 i hi
      show PX7_worthAt n (-1) r told sc Q (pn (4 * k + i)) (nI (d + 1)) = VV sc kind parts pn wt ws W n (pn (4 * k + i)).toNatClampNeg
      rw [j2, nI_clamp (by omega)]
      exact ih j (d + 1) (by omega) (by omega)
theorem tv_eq (hC : CR N words unsures slips throne said kind parts pn wt tw uw uo r told) (hS : StR N parts pn W o Q) (hI : CI N unit kind parts pn wt ws steps below above) (hR : ROk r) {sc : Int32} {t : Nat} (ht : t < N) (hth : r 6 = nI t) : PX7_throneBy r told sc (-1) Q = VV sc kind parts pn wt ws W 18 t := by
  have hN := hI.1
  have e := wv_eq hC hS hI hR (sc := sc) 18 t 0 ht (by omega)
  rw [PX7_throneBy_eq]
  simp only [lt_ap]
  rw [six_cl, hth, PX7_worthOf_eq, lt_ap, ← nI_0]
  exact e
theorem VV_in (hC : CR N words unsures slips throne said kind parts pn wt tw uw uo r told) (hI : CI N unit kind parts pn wt ws steps below above) (hR : ROk r) (hW : ∀ k : Nat, k < N → kind k = 0 → 0 ≤ (W k).toInt ∧ (W k).toInt ≤ 99) {sc : Int32} (hs : 1 ≤ sc.toInt ∧ sc.toInt ≤ 1296) (k : Nat) : ∀ n : Nat, k < n → k < N → 0 ≤ (VV sc kind parts pn wt ws W n k).toInt ∧ (VV sc kind parts pn wt ws W n k).toInt ≤ 128304 := by
  have hN := hI.1
  induction k using Nat.strongRecOn with
  | _ k ih =>
    intro n h1 hk
    obtain ⟨n, rfl⟩ : ∃ g, n = g + 1 := ⟨n - 1, by omega⟩
    obtain ⟨q, hp, hD⟩ := hI.2.1 k hk
    have hq := hD.1
    rw [VV_at hp hq]
    by_cases h0 : kind k = 0
    · obtain ⟨a, b⟩ := hW k hk h0
      have p1 : 0 ≤ (W k).toInt * sc.toInt := Int.mul_nonneg a (by omega)
      have p2 : (W k).toInt * sc.toInt ≤ 99 * 1296 := Int.mul_le_mul b hs.2 (by omega) (by decide)
      rw [if_pos h0, fb_mulI (by omega) (by omega)]
      omega
    · rw [if_neg h0]
      refine Jv_in (by decide) (by decide) hq (q1_of hC hR hk hp hq h0) (fun h3 => w9_of hC hR hk hp hD h3) (fun i hi => ?_)
      obtain ⟨j, j1, j2⟩ := hD.2.2.2.2.1 i hi
      show 0 ≤ (VV sc kind parts pn wt ws W n (pn (4 * k + i)).toNatClampNeg).toInt ∧ _
      rw [j2, nI_clamp (by omega)]
      exact ih j j1 n (by omega) (by omega)
/-- what the class weighs -/
theorem weighV (hC : CR N words unsures slips throne said kind parts pn wt tw uw uo r told) (hI : CI N unit kind parts pn wt ws steps below above) (hR : ROk r) (hW : ∀ k : Nat, k < N → kind k = 0 → 0 ≤ (W k).toInt ∧ (W k).toInt ≤ 99) {un : Int32} (hs : 1 ≤ un.toInt ∧ un.toInt ≤ 1296) {t : Nat} (hth : throne = nI t) (ht : t < N) (V : Nat → Int32) : ∃ G' : Nat → Int32, PX4_weighAll V (nI N) throne un kind parts pn wt ws W = (VV un kind parts pn wt ws W 18 t, G') ∧ ∀ j : Nat, j < N → G' j = VV un kind parts pn wt ws W 18 j := by
  have hN := hI.1
  obtain ⟨G', e, hG⟩ := wall_loop (T := VV un kind parts pn wt ws W 18) (W := W) hC hI hR (un := un) (fun k q hk hp hq4 => by
    obtain ⟨q', hp', hD⟩ := hI.2.1 k hk
    obtain rfl : q = q' := (nI_eq (by omega) (by have := hD.1; omega)).mp (hp.symm.trans hp')
    have e9 : Jv (kind k) (ws k) wt (fun i => VV un kind parts pn wt ws W 17 (pn (4 * k + i)).toNatClampNeg) k q = Jv (kind k) (ws k) wt (fun i => VV un kind parts pn wt ws W 18 (pn (4 * k + i)).toNatClampNeg) k q := Jv_congr (fun i hi => by
      obtain ⟨j, j1, j2⟩ := hD.2.2.2.2.1 i hi
      show VV un kind parts pn wt ws W 17 (pn (4 * k + i)).toNatClampNeg = VV un kind parts pn wt ws W 18 (pn (4 * k + i)).toNatClampNeg
      rw [j2, nI_clamp (by omega)]
      exact VV_fuel hI j 17 18 (by omega) (by omega) (by omega))
    rw [← e9, show (18 : Nat) = 17 + 1 from rfl]
    exact VV_at hp hD.1) (fun k hk => by
    have a := VV_in hC hI hR hW hs k 18 (by omega) hk
    omega) N 0 (((2147483647 - (0 : Int32).toInt).toNat) + 1) V rfl (by omega) (by rw [kc_0]; omega) (fun j hj => absurd hj (by omega))
  rw [nI_0, hth, nI_clamp (by omega)] at e
  refine ⟨G', ?_, hG⟩
  rw [PX4_weighAll_eq, hth]
  exact e
theorem pfA_mono {v v' w : Nat → Int32} {X : Int} (hX : X ≤ 1000000) (h0 : 0 ≤ X) : ∀ m : Nat, m ≤ 4 → (∀ i : Nat, i < m → 0 ≤ (v i).toInt ∧ (v i).toInt ≤ X) → (∀ i : Nat, i < m → 0 ≤ (v' i).toInt ∧ (v' i).toInt ≤ X) → (∀ i : Nat, i < m → (v i).toInt ≤ (v' i).toInt) → (∀ i : Nat, i < m → 1 ≤ (w i).toInt ∧ (w i).toInt ≤ 9) → (pf opA 0 (fun i => v i * w i) m).toInt ≤ (pf opA 0 (fun i => v' i * w i) m).toInt
  | 0, _, _, _, _, _ => Int.le_refl _
  | m + 1, hm, hv, hv', hh, hw => by
    have ih := pfA_mono hX h0 m (by omega) (fun i hi => hv i (by omega)) (fun i hi => hv' i (by omega)) (fun i hi => hh i (by omega)) (fun i hi => hw i (by omega))
    obtain ⟨a1, a2⟩ := sum_vw hX h0 m (by omega) (fun i hi => hv i (by omega)) (fun i hi => hw i (by omega))
    obtain ⟨c1, c2⟩ := sum_vw hX h0 m (by omega) (fun i hi => hv' i (by omega)) (fun i hi => hw i (by omega))
    obtain ⟨b1, b2⟩ := sum_w m (by omega) (fun i hi => hw i (by omega))
    obtain ⟨d1, d2⟩ := hw m (by omega)
    obtain ⟨f1, f2⟩ := hv m (by omega)
    obtain ⟨g1, g2⟩ := hv' m (by omega)
    have p4 : X * (pf opA 0 w m).toInt ≤ 1000000 * 27 := Int.mul_le_mul hX (by omega) (by omega) (by decide)
    have p1 : 0 ≤ (v m).toInt * (w m).toInt := Int.mul_nonneg f1 (by omega)
    have q1 : 0 ≤ (v' m).toInt * (w m).toInt := Int.mul_nonneg g1 (by omega)
    have p2 : (v m).toInt * (w m).toInt ≤ 1000000 * 9 := Int.mul_le_mul (by omega) d2 (by omega) (by decide)
    have q2 : (v' m).toInt * (w m).toInt ≤ 1000000 * 9 := Int.mul_le_mul (by omega) d2 (by omega) (by decide)
    have p3 : (v m).toInt * (w m).toInt ≤ (v' m).toInt * (w m).toInt := Int.mul_le_mul_of_nonneg_right (hh m (by omega)) (by omega)
    have e1 : (v m * w m).toInt = (v m).toInt * (w m).toInt := fb_mulI (by omega) (by omega)
    have e2 : (v' m * w m).toInt = (v' m).toInt * (w m).toInt := fb_mulI (by omega) (by omega)
    have e3 : (pf opA 0 (fun i => v i * w i) m + v m * w m).toInt = (pf opA 0 (fun i => v i * w i) m).toInt + (v m).toInt * (w m).toInt := by rw [fb_addI (by rw [e1]; omega) (by rw [e1]; omega), e1]
    have e4 : (pf opA 0 (fun i => v' i * w i) m + v' m * w m).toInt = (pf opA 0 (fun i => v' i * w i) m).toInt + (v' m).toInt * (w m).toInt := by rw [fb_addI (by rw [e2]; omega) (by rw [e2]; omega), e2]
    show (pf opA 0 (fun i => v i * w i) m + v m * w m).toInt ≤ (pf opA 0 (fun i => v' i * w i) m + v' m * w m).toInt
    rw [e3, e4]
    omega
theorem pfM_mono {v v' : Nat → Int32} {z : Int32} : ∀ m : Nat, (∀ i : Nat, i < m → (v i).toInt ≤ (v' i).toInt) → (pf opM z v m).toInt ≤ (pf opM z v' m).toInt
  | 0, _ => Int.le_refl _
  | m + 1, h => by
    have ih := pfM_mono (z := z) m (fun i hi => h i (by omega))
    have hm := h m (by omega)
    have e1 : (pf opM z v (m + 1)).toInt = max (pf opM z v m).toInt (v m).toInt := opM_i _ _
    have e2 : (pf opM z v' (m + 1)).toInt = max (pf opM z v' m).toInt (v' m).toInt := opM_i _ _
    rw [e1, e2]
    omega
theorem pfN_mono {v v' : Nat → Int32} {z : Int32} : ∀ m : Nat, (∀ i : Nat, i < m → (v i).toInt ≤ (v' i).toInt) → (pf opN z v m).toInt ≤ (pf opN z v' m).toInt
  | 0, _ => Int.le_refl _
  | m + 1, h => by
    have ih := pfN_mono (z := z) m (fun i hi => h i (by omega))
    have hm := h m (by omega)
    have e1 : (pf opN z v (m + 1)).toInt = min (pf opN z v m).toInt (v m).toInt := opN_i _ _
    have e2 : (pf opN z v' (m + 1)).toInt = min (pf opN z v' m).toInt (v' m).toInt := opN_i _ _
    rw [e1, e2]
    omega
theorem Jv_mono {kd s : Int32} {v v' : Nat → Int32} {k q : Nat} {X : Int} (hX : X ≤ 1000000) (h0 : 0 ≤ X) (hq : q ≤ 4) (hq1 : 1 ≤ q) (hs : kd = 3 → s = pf opA 0 (fun i => wt (4 * k + i)) q ∧ ∀ i : Nat, i < q → 1 ≤ (wt (4 * k + i)).toInt ∧ (wt (4 * k + i)).toInt ≤ 9) (hv : ∀ i : Nat, i < q → 0 ≤ (v i).toInt ∧ (v i).toInt ≤ X) (hv' : ∀ i : Nat, i < q → 0 ≤ (v' i).toInt ∧ (v' i).toInt ≤ X) (hh : ∀ i : Nat, i < q → (v i).toInt ≤ (v' i).toInt) : (Jv kd s wt v k q).toInt ≤ (Jv kd s wt v' k q).toInt := by
  unfold Jv
  by_cases c3 : kd = 3
  · obtain ⟨e, hw⟩ := hs c3
    have a1 := (sum_vw (w := fun i => wt (4 * k + i)) hX h0 q hq hv hw).1
    have a2 := (sum_vw (w := fun i => wt (4 * k + i)) hX h0 q hq hv' hw).1
    have m1 := pfA_mono (w := fun i => wt (4 * k + i)) hX h0 q hq hv hv' hh hw
    obtain ⟨b1, b2⟩ := sum_w (w := fun i => wt (4 * k + i)) q hq hw
    rw [if_pos c3, if_pos c3, e]
    generalize pf opA 0 (fun i => v i * wt (4 * k + i)) q = A at a1 m1 ⊢
    generalize pf opA 0 (fun i => v' i * wt (4 * k + i)) q = A' at a2 m1 ⊢
    generalize pf opA 0 (fun i => wt (4 * k + i)) q = S at b1 b2 ⊢
    rw [ti_divE (z := A / S) rfl rfl rfl a1 (by omega), ti_divE (z := A' / S) rfl rfl rfl a2 (by omega)]
    exact ediv_mono m1 (by omega)
  · rw [if_neg c3, if_neg c3]
    by_cases c1 : kd = 1
    · rw [if_pos c1, if_pos c1]; exact pfM_mono q hh
    · rw [if_neg c1, if_neg c1]; exact pfN_mono q hh
theorem VV_mono (hC : CR N words unsures slips throne said kind parts pn wt tw uw uo r told) (hI : CI N unit kind parts pn wt ws steps below above) (hR : ROk r) (hW : ∀ k : Nat, k < N → kind k = 0 → 0 ≤ (W k).toInt ∧ (W k).toInt ≤ 99) (hW' : ∀ k : Nat, k < N → kind k = 0 → 0 ≤ (W' k).toInt ∧ (W' k).toInt ≤ 99) (hh : ∀ k : Nat, k < N → kind k = 0 → (W k).toInt ≤ (W' k).toInt) {sc : Int32} (hs : 1 ≤ sc.toInt ∧ sc.toInt ≤ 1296) (k : Nat) : ∀ n : Nat, k < n → k < N → (VV sc kind parts pn wt ws W n k).toInt ≤ (VV sc kind parts pn wt ws W' n k).toInt := by
  have hN := hI.1
  induction k using Nat.strongRecOn with
  | _ k ih =>
    intro n h1 hk
    obtain ⟨n, rfl⟩ : ∃ g, n = g + 1 := ⟨n - 1, by omega⟩
    obtain ⟨q, hp, hD⟩ := hI.2.1 k hk
    have hq := hD.1
    rw [VV_at hp hq, VV_at hp hq]
    by_cases h0 : kind k = 0
    · obtain ⟨a, b⟩ := hW k hk h0
      obtain ⟨a', b'⟩ := hW' k hk h0
      have p0 := hh k hk h0
      have p1 : 0 ≤ (W k).toInt * sc.toInt := Int.mul_nonneg a (by omega)
      have p2 : (W' k).toInt * sc.toInt ≤ 99 * 1296 := Int.mul_le_mul b' hs.2 (by omega) (by decide)
      have p3 : (W k).toInt * sc.toInt ≤ (W' k).toInt * sc.toInt := Int.mul_le_mul_of_nonneg_right p0 (by omega)
      rw [if_pos h0, if_pos h0, fb_mulI (by omega) (by omega), fb_mulI (by omega) (by omega)]
      exact p3
    · rw [if_neg h0, if_neg h0]
      have hc : ∀ (V : Nat → Int32), (∀ k : Nat, k < N → kind k = 0 → 0 ≤ (V k).toInt ∧ (V k).toInt ≤ 99) → ∀ i : Nat, i < q → 0 ≤ (VV sc kind parts pn wt ws V n (pn (4 * k + i)).toNatClampNeg).toInt ∧ (VV sc kind parts pn wt ws V n (pn (4 * k + i)).toNatClampNeg).toInt ≤ 128304 := fun V hV i hi => by
        obtain ⟨j, j1, j2⟩ := hD.2.2.2.2.1 i hi
        rw [j2, nI_clamp (by omega)]
        exact VV_in hC hI hR hV hs j n (by omega) (by omega)
      refine Jv_mono (X := 128304) (by decide) (by decide) hq (q1_of hC hR hk hp hq h0) (fun h3 => w9_of hC hR hk hp hD h3) (hc W hW) (hc W' hW') (fun i hi => ?_)
      obtain ⟨j, j1, j2⟩ := hD.2.2.2.2.1 i hi
      show (VV sc kind parts pn wt ws W n (pn (4 * k + i)).toNatClampNeg).toInt ≤ (VV sc kind parts pn wt ws W' n (pn (4 * k + i)).toNatClampNeg).toInt
      rw [j2, nI_clamp (by omega)]
      exact ih j j1 n (by omega) (by omega)
end WQ
end F9
