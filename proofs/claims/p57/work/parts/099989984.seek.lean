/-! words of which nobody is sure: the reference tries all sets, the class asks the set of those that fit -/
section F16
section WQ
variable {N : Nat} {words unsures slips throne said unit : Int32} {kind parts pn wt tw uw uo r told W W' o Q ws steps below above : Nat → Int32}
theorem os2 {U : Nat} (h3 : r 3 = nI U) (hU : U ≤ 4) {s : Nat} (hs : s < 16) {F : Nat → Int32} {x1 x2 x3 : Int32} {K : Int32 → Int32 → Int32 → Int32 → Int32 → (Nat → Int32) → (Nat → Int32) → Int32 × Int32 × Int32 × Int32 × (Nat → Int32) × (Nat → Int32)} {c : Nat → Nat} (hc : ∀ i : Nat, c i < 1000) : ∀ (m j f : Nat) (O : Nat → Int32), U - j = m → j ≤ U → m < f → (∀ i : Nat, i < j → O i = nI (if s.testBit i then c i + 1 else c i)) → (∀ i : Nat, j ≤ i → i < U → O i = nI (c i)) → ∃ O' : Nat → Int32, HX7_seekSets_2 r (nI s) F x1 x2 x3 K f (nI j) O = K (nI (s + 1)) (nI s) x1 x2 x3 F O' ∧ ∀ i : Nat, i < U → O' i = nI (if s.testBit i then c i + 1 else c i) := by
  intro m
  induction m with
  | zero =>
    intro j f O hm hj hf h1 h2
    obtain ⟨f, rfl⟩ : ∃ g, f = g + 1 := ⟨f - 1, by omega⟩
    obtain rfl : j = U := by omega
    refine ⟨O, ?_, h1⟩
    rw [HX7_seekSets_2_eq, lt_ap, three_cl, h3, if_pos (nI_le (Nat.le_refl _) (by omega)), lt_ap, nI_o1]
  | succ m ih =>
    intro j f O hm hj hf h1 h2
    obtain ⟨f, rfl⟩ : ∃ g, f = g + 1 := ⟨f - 1, by omega⟩
    rw [HX7_seekSets_2_eq, lt_ap, three_cl, h3, if_neg (show ¬ nI U ≤ nI j by rw [nI_leI (by omega) (by omega)]; omega)]
    simp only [lt_ap]
    rw [nI_clamp (show j < 2 ^ 31 by omega), bt_at (by omega) (by omega), h2 j (Nat.le_refl _) (by omega), nI_o1]
    have hv : nI (c j) + (if s.testBit j then (1 : Int32) else 0) = nI (if s.testBit j then c j + 1 else c j) := by
      by_cases d : s.testBit j = true
      · rw [if_pos d, if_pos d, show (1 : Int32) = nI 1 by decide, nI_add]
      · rw [if_neg d, if_neg d, show (0 : Int32) = nI 0 by decide, nI_add, Nat.add_zero]
    rw [hv]
    refine ih (j + 1) f _ (by omega) (by omega) (by omega) (fun i hi => ?_) (fun i h4 h5 => ?_)
    · by_cases d : i = j
      · rw [d, upd_at]
      · rw [upd_ne d]; exact h1 i (by omega)
    · rw [upd_ne (by omega)]; exact h2 i (by omega) h5
theorem os3 {U : Nat} (h3 : r 3 = nI U) (hU : U ≤ 4) {s : Nat} (hs : s < 16) {F : Nat → Int32} {a x1 x2 x3 : Int32} {K : Int32 → Int32 → Int32 → Int32 → Int32 → (Nat → Int32) → (Nat → Int32) → Int32 × Int32 × Int32 × Int32 × (Nat → Int32) × (Nat → Int32)} {c : Nat → Nat} (hc : ∀ i : Nat, c i < 1000) : ∀ (m j f : Nat) (O : Nat → Int32), U - j = m → j ≤ U → m < f → (∀ i : Nat, i < j → O i = nI (if s.testBit i then c i + 1 else c i)) → (∀ i : Nat, j ≤ i → i < U → O i = nI (c i)) → ∃ O' : Nat → Int32, HX7_seekSets_3 r (nI s) a F x1 x2 x3 K f (nI j) O = K (nI (s + 1)) a x1 x2 x3 F O' ∧ ∀ i : Nat, i < U → O' i = nI (if s.testBit i then c i + 1 else c i) := by
  intro m
  induction m with
  | zero =>
    intro j f O hm hj hf h1 h2
    obtain ⟨f, rfl⟩ : ∃ g, f = g + 1 := ⟨f - 1, by omega⟩
    obtain rfl : j = U := by omega
    refine ⟨O, ?_, h1⟩
    rw [HX7_seekSets_3_eq, lt_ap, three_cl, h3, if_pos (nI_le (Nat.le_refl _) (by omega)), lt_ap, nI_o1]
  | succ m ih =>
    intro j f O hm hj hf h1 h2
    obtain ⟨f, rfl⟩ : ∃ g, f = g + 1 := ⟨f - 1, by omega⟩
    rw [HX7_seekSets_3_eq, lt_ap, three_cl, h3, if_neg (show ¬ nI U ≤ nI j by rw [nI_leI (by omega) (by omega)]; omega)]
    simp only [lt_ap]
    rw [nI_clamp (show j < 2 ^ 31 by omega), bt_at (by omega) (by omega), h2 j (Nat.le_refl _) (by omega), nI_o1]
    have hv : nI (c j) + (if s.testBit j then (1 : Int32) else 0) = nI (if s.testBit j then c j + 1 else c j) := by
      by_cases d : s.testBit j = true
      · rw [if_pos d, if_pos d, show (1 : Int32) = nI 1 by decide, nI_add]
      · rw [if_neg d, if_neg d, show (0 : Int32) = nI 0 by decide, nI_add, Nat.add_zero]
    rw [hv]
    refine ih (j + 1) f _ (by omega) (by omega) (by omega) (fun i hi => ?_) (fun i h4 h5 => ?_)
    · by_cases d : i = j
      · rw [d, upd_at]
      · rw [upd_ne d]; exact h1 i (by omega)
    · rw [upd_ne (by omega)]; exact h2 i (by omega) h5
theorem sk_loop (hC : CR N words unsures slips throne said kind parts pn wt tw uw uo r told) (hI : CI N unit kind parts pn wt ws steps below above) (hR : ROk r) {U t : Nat} (hU : U ≤ 4) (hu : unsures = nI U) (hth : r 6 = nI t) (ht : t < N) (hun : 1 ≤ unit.toInt ∧ unit.toInt ≤ 1296) {p0 : Int32} {p : Nat → Bool} (hp : p = FT said unit kind parts pn wt ws uw uo tw U t) : ∀ (m s f : Nat) (T O : Nat → Int32), 2 ^ U - s = m → s ≤ 2 ^ U → m < f → (∀ j : Nat, j < U → O j = nI (ofB p j s)) → ∃ T' O' : Nat → Int32, HX7_seekSets_1 r told unit (-1) p0 f (nI s) (atB p p0 s) (nI (cntB p s)) (nI (orB p s)) (nI (anB p (2 ^ U - 1) s)) T O = (atB p p0 (2 ^ U), nI (cntB p (2 ^ U)), nI (orB p (2 ^ U)), nI (if cntB p (2 ^ U) = 0 then 0 else anB p (2 ^ U - 1) (2 ^ U)), T', O') ∧ ∀ j : Nat, j < U → O' j = nI (ofB p j (2 ^ U)) := by
  have h16 := u16 hU
  have h3 : r 3 = nI U := hC.2.2.2.2.1.trans hu
  intro m
  induction m with
  | zero =>
    intro s f T O hm hs hf hO
    obtain ⟨f, rfl⟩ : ∃ g, f = g + 1 := ⟨f - 1, by omega⟩
    obtain rfl : s = 2 ^ U := by omega
    have hcn := cntB_le (p := p) (2 ^ U)
    refine ⟨T, O, ?_, hO⟩
    rw [HX7_seekSets_1_eq]
    simp only [lt_ap]
    rw [three_cl, h3, bt_shl U (by omega), if_pos (nI_le (Nat.le_refl _) (by omega))]
    by_cases c : cntB p (2 ^ U) = 0
    · rw [if_pos (show nI (cntB p (2 ^ U)) = 0 by rw [c]; exact nI_0), if_pos c, ← nI_0]
    · rw [if_neg (show ¬ nI (cntB p (2 ^ U)) = 0 by rw [← nI_0, nI_eq (by omega) (by omega)]; exact c), if_neg c]
  | succ m ih =>
    intro s f T O hm hs hf hO
    obtain ⟨f, rfl⟩ : ∃ g, f = g + 1 := ⟨f - 1, by omega⟩
    obtain ⟨F, e⟩ := df_eq hC hI hR hU hu (show s < 16 by omega) hth ht hun T
    rw [← hp] at e
    rw [HX7_seekSets_1_eq]
    simp only [lt_ap]
    rw [three_cl, h3, bt_shl U (by omega), if_neg (show ¬ nI (2 ^ U) ≤ nI s by rw [nI_leI (by omega) (by omega)]; omega), un2_eq e, nI_o1]
    have hcn := cntB_le (p := p) s
    by_cases c : p s = true
    · rw [if_pos c, if_neg (show ¬ (1 : Int32) = 0 by decide), bt_or, bt_and, show nI (cntB p s) + (1 : Int32) = nI (cntB p s + 1) by rw [show (1 : Int32) = nI 1 by decide, nI_add]]
      have hc : ∀ i : Nat, ofB p i s < 1000 := fun i => by have := ofB_le (p := p) (j := i) s; omega
      have e1 : cntB p (s + 1) = cntB p s + 1 := by rw [cntB, if_pos c]
      have e2 : orB p (s + 1) = orB p s ||| s := by rw [orB, if_pos c]
      have e3 : anB p (2 ^ U - 1) (s + 1) = anB p (2 ^ U - 1) s &&& s := by rw [anB, if_pos c]
      have e4 : ∀ j : Nat, ofB p j (s + 1) = if s.testBit j then ofB p j s + 1 else ofB p j s := fun j => by rw [ofB, c, Bool.true_and]
      by_cases d : nI (cntB p s) = p0
      · rw [if_pos d, ← nI_0]
        obtain ⟨O', g1, g2⟩ := os2 h3 hU (show s < 16 by omega) (F := F) (x1 := nI (cntB p s + 1)) (x2 := nI (orB p s ||| s)) (x3 := nI (anB p (2 ^ U - 1) s &&& s)) (K := fun z_9408 z_9409 z_9410 z_9411 z_9412 f_9413 f_9414 => HX7_seekSets_1 r told unit (-1) p0 f z_9408 z_9409 z_9410 z_9411 z_9412 f_9413 f_9414) hc U 0 (((2147483647 - (nI 0).toInt).toNat) + 1) O rfl (by omega) (by rw [nI_0, kc_0]; omega) (fun i hi => absurd hi (by omega)) (fun i _ hi => hO i hi)
        rw [g1]
        have hn := ih (s + 1) f F O' (by omega) (by omega) (by omega) (fun j hj => by rw [g2 j hj, e4 j])
        rw [atB, if_pos ⟨c, d⟩, e1, e2, e3] at hn
        exact hn
      · rw [if_neg d, ← nI_0]
        obtain ⟨O', g1, g2⟩ := os3 h3 hU (show s < 16 by omega) (F := F) (a := atB p p0 s) (x1 := nI (cntB p s + 1)) (x2 := nI (orB p s ||| s)) (x3 := nI (anB p (2 ^ U - 1) s &&& s)) (K := fun z_9408 z_9409 z_9410 z_9411 z_9412 f_9413 f_9414 => HX7_seekSets_1 r told unit (-1) p0 f z_9408 z_9409 z_9410 z_9411 z_9412 f_9413 f_9414) hc U 0 (((2147483647 - (nI 0).toInt).toNat) + 1) O rfl (by omega) (by rw [nI_0, kc_0]; omega) (fun i hi => absurd hi (by omega)) (fun i _ hi => hO i hi)
        rw [g1]
        have hn := ih (s + 1) f F O' (by omega) (by omega) (by omega) (fun j hj => by rw [g2 j hj, e4 j])
        rw [atB, if_neg (fun q => d q.2), e1, e2, e3] at hn
        exact hn
    · rw [if_neg c, if_pos rfl]
      have hn := ih (s + 1) f F O (by omega) (by omega) (by omega) (fun j hj => by rw [hO j hj, ofB, Bool.eq_false_iff.mpr c, Bool.false_and, if_neg (by decide)])
      rw [atB, if_neg (fun q => c q.1), cntB, if_neg c, orB, if_neg c, anB, if_neg c] at hn
      exact hn
theorem sk0 (r told : Nat → Int32) (un p0 x : Int32) (T : Nat → Int32) : ∀ (m j f : Nat) (O : Nat → Int32), 4 - j = m → j ≤ 4 → m < f → (∀ i : Nat, i < j → O i = 0) → ∃ O' : Nat → Int32, HX7_seekSets_0 r told un (-1) T p0 x f (nI j) O = HX7_seekSets_1 r told un (-1) p0 (((2147483647 - (0 : Int32).toInt).toNat) + 1) 0 (-1) 0 0 x T O' ∧ ∀ i : Nat, i < 4 → O' i = 0 := by
  intro m
  induction m with
  | zero =>
    intro j f O hm hj hf hO
    obtain ⟨f, rfl⟩ : ∃ g, f = g + 1 := ⟨f - 1, by omega⟩
    obtain rfl : j = 4 := by omega
    exact ⟨O, by rw [HX7_seekSets_0_eq, if_pos (show (4 : Int32) ≤ nI 4 by decide)], hO⟩
  | succ m ih =>
    intro j f O hm hj hf hO
    obtain ⟨f, rfl⟩ : ∃ g, f = g + 1 := ⟨f - 1, by omega⟩
    rw [HX7_seekSets_0_eq, if_neg (show ¬ (4 : Int32) ≤ nI j by rw [show (4 : Int32) = nI 4 by decide, nI_leI (by omega) (by omega)]; omega)]
    simp only [lt_ap]
    rw [nI_clamp (show j < 2 ^ 31 by omega), nI_o1]
    refine ih (j + 1) f _ (by omega) (by omega) (by omega) (fun i hi => ?_)
    by_cases d : i = j
    · rw [d, upd_at]
    · rw [upd_ne d]; exact hO i (by omega)
/-- all sets tried by the reference -/
theorem sk_eq (hC : CR N words unsures slips throne said kind parts pn wt tw uw uo r told) (hI : CI N unit kind parts pn wt ws steps below above) (hR : ROk r) {U t : Nat} (hU : U ≤ 4) (hu : unsures = nI U) (hth : r 6 = nI t) (ht : t < N) (hun : 1 ≤ unit.toInt ∧ unit.toInt ≤ 1296) {p : Nat → Bool} (hp : p = FT said unit kind parts pn wt ws uw uo tw U t) (p0 : Int32) (T O : Nat → Int32) : ∃ T' O' : Nat → Int32, PX7_seekSets r told unit (-1) T O p0 = (atB p p0 (2 ^ U), nI (cntB p (2 ^ U)), nI (orB p (2 ^ U)), nI (if cntB p (2 ^ U) = 0 then 0 else anB p (2 ^ U - 1) (2 ^ U)), T', O') ∧ ∀ j : Nat, j < U → O' j = nI (ofB p j (2 ^ U)) := by
  have h16 := u16 hU
  have h3 : r 3 = nI U := hC.2.2.2.2.1.trans hu
  rw [PX7_seekSets_eq]
  simp only [lt_ap]
  rw [three_cl, h3, bt_shl U (by omega), show nI (2 ^ U) - (1 : Int32) = nI (2 ^ U - 1) by rw [show (1 : Int32) = nI 1 by decide, nI_sub' (by omega) (by omega)]]
  obtain ⟨O1, e1, hO1⟩ := sk0 r told unit p0 (nI (2 ^ U - 1)) T 4 0 (((2147483647 - (0 : Int32).toInt).toNat) + 1) O rfl (by omega) (by rw [kc_0]; omega) (fun i hi => absurd hi (by omega))
  rw [nI_0] at e1
  rw [e1]
  obtain ⟨T', O', e2, hO'⟩ := sk_loop hC hI hR hU hu hth ht hun (p0 := p0) hp (2 ^ U) 0 (((2147483647 - (0 : Int32).toInt).toNat) + 1) T O1 rfl (by omega) (by rw [kc_0]; omega) (fun j hj => (hO1 j (by omega)).trans nI_0.symm)
  refine ⟨T', O', ?_, hO'⟩
  rw [← e2]
  show _ = HX7_seekSets_1 r told unit (-1) p0 _ (nI 0) (-1) (nI 0) (nI 0) (nI (2 ^ U - 1)) T O1
  rw [nI_0]
end WQ
end F16
