/-! proofs: what a set of said words shows, on both sides -/
section F23
/-- the worths when only the set m is as said, all others x -/
def WM (m : Nat) (x : Int32) (W : Nat → Int32) : Nat → Int32 := fun k => if m.testBit k then W k else x
section WQ
variable {N : Nat} {words unsures slips throne said unit : Int32} {kind parts pn wt tw uw uo r told W W' o Q w st ws steps below above : Nat → Int32}
theorem WM_in {m : Nat} {x : Int32} (hx : 0 ≤ x.toInt ∧ x.toInt ≤ 99) (hW : ∀ k : Nat, k < N → kind k = 0 → 0 ≤ (W k).toInt ∧ (W k).toInt ≤ 99) : ∀ k : Nat, k < N → kind k = 0 → 0 ≤ (WM m x W k).toInt ∧ (WM m x W k).toInt ≤ 99 := fun k hk h0 => by
  unfold WM
  by_cases c : m.testBit k = true
  · rw [if_pos c]; exact hW k hk h0
  · rw [if_neg c]; exact hx
/-- the throne then -/
def TM (un : Int32) (kind parts pn wt ws W : Nat → Int32) (t m : Nat) (x : Int32) : Int32 := VV un kind parts pn wt ws (WM m x W) 18 t
theorem ty_loop (hC : CR N words unsures slips throne said kind parts pn wt tw uw uo r told) (hI : CI N unit kind parts pn wt ws steps below above) (hR : ROk r) {m t : Nat} {x : Int32} (hx : 0 ≤ x.toInt ∧ x.toInt ≤ 99) (hW : ∀ k : Nat, k < N → kind k = 0 → 0 ≤ (W k).toInt ∧ (W k).toInt ≤ 99) (hm : m < 2 ^ 31) {un : Int32} (hun : 1 ≤ un.toInt ∧ un.toInt ≤ 1296) (hth : throne = nI t) (ht : t < N) (V : Nat → Int32) : ∀ (d k f : Nat) (G : Nat → Int32), N - k = d → k ≤ N → d < f → (∀ j : Nat, j < k → G j = WM m x W j) → ∃ L' G' : Nat → Int32, HX4_throneBySet_0 V (nI N) throne un kind parts pn wt ws W (nI m) x f (nI k) G = (TM un kind parts pn wt ws W t m x, L', G') := by
  have hN := hI.1
  intro d
  induction d with
  | zero =>
    intro k f G hd hk hf hG
    obtain ⟨f, rfl⟩ : ∃ g, f = g + 1 := ⟨f - 1, by omega⟩
    obtain rfl : k = N := by omega
    obtain ⟨L', e, -⟩ := weighV hC hI hR (W := G) (fun j hj h0 => by rw [hG j hj]; exact WM_in hx hW j hj h0) hun hth ht V
    refine ⟨L', G, ?_⟩
    rw [HX4_throneBySet_0_eq, if_pos (nI_le (Nat.le_refl _) (by omega)), un2_eq e, VV_congr hI (fun j hj _ => hG j hj) 18 t ht]
    rfl
  | succ d ih =>
    intro k f G hd hk hf hG
    obtain ⟨f, rfl⟩ : ∃ g, f = g + 1 := ⟨f - 1, by omega⟩
    rw [HX4_throneBySet_0_eq, if_neg (show ¬ nI N ≤ nI k by rw [nI_leI (by omega) (by omega)]; omega)]
    simp only [lt_ap]
    rw [nI_o1, nI_clamp (show k < 2 ^ 31 by omega)]
    by_cases c : m.testBit k = true
    · rw [if_pos ((bt_one hm (by omega)).mpr c)]
      refine ih (k + 1) f _ (by omega) (by omega) (by omega) (fun j hj => ?_)
      by_cases e : j = k
      · rw [e, upd_at]; unfold WM; rw [if_pos c]
      · rw [upd_ne e]; exact hG j (by omega)
    · rw [if_neg (fun h => c ((bt_one hm (by omega)).mp h))]
      refine ih (k + 1) f _ (by omega) (by omega) (by omega) (fun j hj => ?_)
      by_cases e : j = k
      · rw [e, upd_at]; unfold WM; rw [if_neg c]
      · rw [upd_ne e]; exact hG j (by omega)
theorem ty6 (hC : CR N words unsures slips throne said kind parts pn wt tw uw uo r told) (hI : CI N unit kind parts pn wt ws steps below above) (hR : ROk r) {m t : Nat} {x : Int32} (hx : 0 ≤ x.toInt ∧ x.toInt ≤ 99) (hW : ∀ k : Nat, k < N → kind k = 0 → 0 ≤ (W k).toInt ∧ (W k).toInt ≤ 99) (hm : m < 2 ^ 31) {un : Int32} (hun : 1 ≤ un.toInt ∧ un.toInt ≤ 1296) (hth : throne = nI t) (ht : t < N) (V S : Nat → Int32) : ∃ L' G' : Nat → Int32, PX4_throneBySet V S (nI N) throne un kind parts pn wt ws W (nI m) x = (TM un kind parts pn wt ws W t m x, L', G') := by
  have hN := hI.1
  rw [PX4_throneBySet_eq, ← nI_0]
  exact ty_loop hC hI hR hx hW hm hun hth ht V N 0 _ _ rfl (by omega) (by rw [nI_0, kc_0]; omega) (fun j hj => absurd hj (by omega))
/-- whether the set m shows what is asked: kind of proof a, how much b -/
def PB (un : Int32) (kind parts pn wt ws W : Nat → Int32) (t : Nat) (a b : Int32) (m : Nat) : Bool :=
  if a = 0 then !decide (TM un kind parts pn wt ws W t m 0 < b * un) else if a = 1 then !decide (b * un ≤ TM un kind parts pn wt ws W t m 99) else decide (TM un kind parts pn wt ws W t m 99 = TM un kind parts pn wt ws W t m 0)
theorem sh6 (hC : CR N words unsures slips throne said kind parts pn wt tw uw uo r told) (hI : CI N unit kind parts pn wt ws steps below above) (hR : ROk r) {m t : Nat} (hW : ∀ k : Nat, k < N → kind k = 0 → 0 ≤ (W k).toInt ∧ (W k).toInt ≤ 99) (hm : m < 2 ^ 31) {un : Int32} (hun : 1 ≤ un.toInt ∧ un.toInt ≤ 1296) (hth : throne = nI t) (ht : t < N) (V S : Nat → Int32) (a b : Int32) : ∃ L' G' : Nat → Int32, PX6_shows (nI N) throne un kind parts pn wt ws W V S (nI m) a b = (if PB un kind parts pn wt ws W t a b m then 1 else 0, L', G') := by
  have x0 : 0 ≤ (0 : Int32).toInt ∧ (0 : Int32).toInt ≤ 99 := by decide
  have x9 : 0 ≤ (99 : Int32).toInt ∧ (99 : Int32).toInt ≤ 99 := by decide
  rw [PX6_shows_eq]
  unfold PB
  by_cases c0 : a = 0
  · rw [if_pos c0, if_pos c0]
    obtain ⟨L1, G1, e1⟩ := ty6 hC hI hR x0 hW hm hun hth ht V S
    refine ⟨L1, G1, ?_⟩
    rw [un3_eq e1, lt_ap]
    by_cases d : TM un kind parts pn wt ws W t m 0 < b * un
    · rw [if_pos d, decide_eq_true d, if_neg (by decide)]
    · rw [if_neg d, decide_eq_false d, if_pos (by decide)]
  · rw [if_neg c0, if_neg c0]
    obtain ⟨L1, G1, e1⟩ := ty6 hC hI hR x9 hW hm hun hth ht V S
    by_cases c1 : a = 1
    · refine ⟨L1, G1, ?_⟩
      rw [un3_eq e1, if_pos c1, if_pos c1, lt_ap]
      by_cases d : b * un ≤ TM un kind parts pn wt ws W t m 99
      · rw [if_pos d, decide_eq_true d, if_neg (by decide)]
      · rw [if_neg d, decide_eq_false d, if_pos (by decide)]
    · obtain ⟨L2, G2, e2⟩ := ty6 hC hI hR x0 hW hm hun hth ht L1 G1
      refine ⟨L2, G2, ?_⟩
      rw [un3_eq e1, if_neg c1, if_neg c1, un3_eq e2]
      by_cases d : TM un kind parts pn wt ws W t m 99 = TM un kind parts pn wt ws W t m 0
      · rw [if_pos d, decide_eq_true d, if_pos rfl]
      · rw [if_neg d, decide_eq_false d, if_neg (by decide)]
/-- the reference supposes -/
theorem ti7 (hC : CR N words unsures slips throne said kind parts pn wt tw uw uo r told) (hI : CI N unit kind parts pn wt ws steps below above) (hR : ROk r) {m t : Nat} {x : Int32} (hm : m < 2 ^ 31) {sc : Int32} (hth : r 6 = nI t) (ht : t < N) : ∀ (d k f : Nat) (G : Nat → Int32), N - k = d → k ≤ N → d < f → (∃ W0 : Nat → Int32, StR N parts pn W0 o G ∧ (∀ j : Nat, j < k → kind j = 0 → W0 j = WM m x w j) ∧ ∀ j : Nat, k ≤ j → j < N → W0 j = w j) → ∃ G' : Nat → Int32, HX7_throneIf_0 r told sc (-1) (nI m) x f (nI k) G = (TM sc kind parts pn wt ws w t m x, G') := by
  obtain ⟨hN0, hN, hr⟩ := hC.N
  intro d
  induction d with
  | zero =>
    intro k f G hd hk hf hG
    obtain ⟨f, rfl⟩ : ∃ g, f = g + 1 := ⟨f - 1, by omega⟩
    obtain rfl : k = N := by omega
    obtain ⟨W0, s1, s2, -⟩ := hG
    refine ⟨G, ?_⟩
    rw [HX7_throneIf_0_eq, lt_ap, one_cl, hr, if_pos (nI_le (Nat.le_refl _) (by omega)), lt_ap, tv_eq hC s1 hI hR ht hth, VV_congr hI (fun j hj h0 => s2 j hj h0) 18 t ht]
    rfl
  | succ d ih =>
    intro k f G hd hk hf hG
    obtain ⟨f, rfl⟩ : ∃ g, f = g + 1 := ⟨f - 1, by omega⟩
    obtain ⟨W0, s1, s2, s3⟩ := hG
    have hkN : k < N := by omega
    rw [HX7_throneIf_0_eq, lt_ap, one_cl, hr, if_neg (show ¬ nI N ≤ nI k by rw [nI_leI (by omega) (by omega)]; omega)]
    simp only [lt_ap]
    rw [show (9 : Int32) + nI k = nI (9 + k) from nI_add 9 k, nI_clamp (show 9 + k < 2 ^ 31 by omega), ← (hC.k hkN).1, show (72 : Int32) + nI k = nI (72 + k) from nI_add 72 k, nI_clamp (show 72 + k < 2 ^ 31 by omega), nI_o1, hasBit_eq hm (by omega)]
    by_cases h0 : kind k = 0
    · rw [if_pos h0]
      by_cases c : m.testBit k = true
      · rw [if_pos c, if_neg (show ¬ (1 : Int32) = 0 by decide)]
        refine ih (k + 1) f G (by omega) (by omega) (by omega) ⟨W0, s1, fun j hj hj0 => ?_, fun j h1 h2 => s3 j (by omega) h2⟩
        by_cases e : j = k
        · rw [e, s3 k (Nat.le_refl _) hkN]; unfold WM; rw [if_pos c]
        · exact s2 j (by omega) hj0
      · rw [if_neg c, if_pos rfl]
        refine ih (k + 1) f _ (by omega) (by omega) (by omega) ⟨upd W0 k x, s1.say hN hC.p4 hkN x, fun j hj hj0 => ?_, fun j h1 h2 => by rw [upd_ne (by omega)]; exact s3 j (by omega) h2⟩
        by_cases e : j = k
        · rw [e, upd_at]; unfold WM; rw [if_neg c]
        · rw [upd_ne e]; exact s2 j (by omega) hj0
    · rw [if_neg h0]
      refine ih (k + 1) f G (by omega) (by omega) (by omega) ⟨W0, s1, fun j hj hj0 => ?_, fun j h1 h2 => s3 j (by omega) h2⟩
      by_cases e : j = k
      · exact absurd (e ▸ hj0) h0
      · exact s2 j (by omega) hj0
theorem ty7 (hC : CR N words unsures slips throne said kind parts pn wt tw uw uo r told) (hS : StR N parts pn w o st) (hI : CI N unit kind parts pn wt ws steps below above) (hR : ROk r) {m t : Nat} (hm : m < 2 ^ 31) {sc : Int32} (hth : r 6 = nI t) (ht : t < N) (T : Nat → Int32) (x : Int32) : ∃ G' : Nat → Int32, PX7_throneIf r told st sc (-1) T (nI m) x = (TM sc kind parts pn wt ws w t m x, G') := by
  obtain ⟨hN0, hN, hr⟩ := hC.N
  rw [PX7_throneIf_eq, lt_ap, ← nI_0]
  exact ti7 hC hI hR hm hth ht N 0 _ _ rfl (by omega) (by rw [nI_0, kc_0]; omega) ⟨w, hS.congr hN hC.p4 (fun _ _ => rfl) (fun _ _ => rfl) (fun q hq => cpF90 hq), fun j hj => absurd hj (by omega), fun _ _ _ => rfl⟩
theorem sh7 (hC : CR N words unsures slips throne said kind parts pn wt tw uw uo r told) (hS : StR N parts pn w o st) (hI : CI N unit kind parts pn wt ws steps below above) (hR : ROk r) {m t : Nat} (hm : m < 2 ^ 31) {sc : Int32} (hth : r 6 = nI t) (ht : t < N) (T : Nat → Int32) (a b : Int32) : ∃ G' : Nat → Int32, PX7_doesProve r told st sc (-1) T (nI m) a b = (if PB sc kind parts pn wt ws w t a b m then 1 else 0, G') := by
  rw [PX7_doesProve_eq]
  unfold PB
  by_cases c0 : a = 0
  · obtain ⟨G1, e1⟩ := ty7 hC hS hI hR hm (sc := sc) hth ht T 0
    refine ⟨G1, ?_⟩
    rw [if_pos c0, if_pos c0, un2_eq e1, lt_ap]
    by_cases d : TM sc kind parts pn wt ws w t m 0 < b * sc
    · rw [if_pos d, decide_eq_true d, if_neg (by decide)]
    · rw [if_neg d, decide_eq_false d, if_pos (by decide)]
  · by_cases c1 : a = 1
    · obtain ⟨G1, e1⟩ := ty7 hC hS hI hR hm (sc := sc) hth ht T 99
      refine ⟨G1, ?_⟩
      rw [if_neg c0, if_neg c0, if_pos c1, if_pos c1, un2_eq e1, lt_ap]
      by_cases d : b * sc ≤ TM sc kind parts pn wt ws w t m 99
      · rw [if_pos d, decide_eq_true d, if_neg (by decide)]
      · rw [if_neg d, decide_eq_false d, if_pos (by decide)]
    · obtain ⟨G1, e1⟩ := ty7 hC hS hI hR hm (sc := sc) hth ht T 0
      obtain ⟨G2, e2⟩ := ty7 hC hS hI hR hm (sc := sc) hth ht G1 99
      refine ⟨G2, ?_⟩
      rw [if_neg c0, if_neg c0, if_neg c1, if_neg c1, un2_eq e1, un2_eq e2]
      by_cases d : TM sc kind parts pn wt ws w t m 99 = TM sc kind parts pn wt ws w t m 0
      · rw [if_pos d.symm, decide_eq_true d, if_pos rfl]
      · rw [if_neg (fun q => d q.symm), decide_eq_false d, if_neg (by decide)]
end WQ
end F23
