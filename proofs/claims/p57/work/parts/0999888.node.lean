/-! a node's steps, words below, wholes above: on both sides -/
section E4
theorem mx_eq {v : Nat → Int32} : ∀ m : Nat, (∀ i : Nat, i < m → 0 ≤ (v i).toInt ∧ (v i).toInt ≤ 17) → -1 ≤ (pf opM (-1) v m).toInt ∧ (pf opM (-1) v m).toInt ≤ 17 ∧ 1 + pf opM (-1) v m = pf opT 0 v m
  | 0, _ => ⟨by show -1 ≤ (-1 : Int32).toInt; decide, by show (-1 : Int32).toInt ≤ 17; decide, by show (1 : Int32) + (-1) = 0; decide⟩
  | m + 1, h => by
    obtain ⟨a, b, c⟩ := mx_eq m (fun i hi => h i (by omega))
    obtain ⟨d, e⟩ := h m (by omega)
    have c2 : pf opT 0 v (m + 1) = opT (1 + pf opM (-1) v m) (v m) := by rw [c]; rfl
    have c3 : pf opM (-1) v (m + 1) = opM (pf opM (-1) v m) (v m) := rfl
    rw [c2, c3]
    generalize pf opM (-1) v m = A at a b
    generalize v m = x at d e
    have e1 : ((1 : Int32) + A).toInt = 1 + A.toInt := by rw [fb_addI (by rw [kc_1]; omega) (by rw [kc_1]; omega), kc_1]
    have e2 : (x + (1 : Int32)).toInt = x.toInt + 1 := by rw [fb_addI (by rw [kc_1]; omega) (by rw [kc_1]; omega), kc_1]
    unfold opM opT
    by_cases g : x ≤ A
    · have g' := (fz_le _ _).mp g
      rw [if_pos g, if_neg (fun q => by rw [fz_lt, e1, e2] at q; omega)]
      exact ⟨a, b, rfl⟩
    · have g' : ¬ x.toInt ≤ A.toInt := fun q => g ((fz_le _ _).mpr q)
      rw [if_neg g, if_pos (by rw [fz_lt, e1, e2]; omega)]
      exact ⟨by omega, e, Int32.add_comm _ _⟩
theorem pfT_b {v : Nat → Int32} {K : Nat} (hK : K ≤ 1000) : ∀ m : Nat, (∀ i : Nat, i < m → 0 ≤ (v i).toInt ∧ (v i).toInt < (K : Int)) → 0 ≤ (pf opT 0 v m).toInt ∧ (pf opT 0 v m).toInt ≤ (K : Int)
  | 0, _ => ⟨by show 0 ≤ (0 : Int32).toInt; rw [kc_0]; exact Int.le_refl _, by show (0 : Int32).toInt ≤ _; rw [kc_0]; omega⟩
  | m + 1, h => by
    obtain ⟨a, b⟩ := pfT_b hK m (fun i hi => h i (by omega))
    obtain ⟨d, e⟩ := h m (by omega)
    have c3 : pf opT 0 v (m + 1) = opT (pf opT 0 v m) (v m) := rfl
    rw [c3]
    generalize pf opT 0 v m = A at a b
    generalize v m = x at d e
    have e2 : (x + (1 : Int32)).toInt = x.toInt + 1 := by rw [fb_addI (by rw [kc_1]; omega) (by rw [kc_1]; omega), kc_1]
    unfold opT
    by_cases g : A < x + 1
    · rw [if_pos g, e2]; omega
    · rw [if_neg g]; exact ⟨a, b⟩
section LP
variable {F9 : (Nat → Int32) → (Nat → Int32) → Int32 → Int32} {r st : Nat → Int32} {k q : Nat} {v : Nat → Int32}
theorem down_loop (hk : k < 18) (hq : q ≤ 4) (hm : r (27 + k) = nI q) (hv : ∀ i : Nat, i < q → F9 r st (st (4 * k + i)) = v i) : ∀ (m i f : Nat), q - i = m → i ≤ q → m < f → HX7_downOf_0 F9 r st (nI k) f (nI i) (pf opM (-1) v i) = 1 + pf opM (-1) v q := by
  intro m
  induction m with
  | zero =>
    intro i f hr hi hf
    obtain ⟨f, rfl⟩ : ∃ g, f = g + 1 := ⟨f - 1, by omega⟩
    obtain rfl : i = q := by omega
    rw [HX7_downOf_0_eq]
    dsimp only [lt_]
    rw [show (27 : Int32) + nI k = nI (27 + k) from nI_add 27 k, nI_clamp (by omega), hm, if_pos (nI_le (by omega) (by omega))]
  | succ m ih =>
    intro i f hr hi hf
    obtain ⟨f, rfl⟩ : ∃ g, f = g + 1 := ⟨f - 1, by omega⟩
    rw [HX7_downOf_0_eq]
    dsimp only [lt_]
    rw [show (27 : Int32) + nI k = nI (27 + k) from nI_add 27 k, nI_clamp (by omega), hm, if_neg (by rw [nI_leI (by omega) (by omega)]; omega), nI_m4' (by omega), nI_add, nI_clamp (by omega), hv i (by omega), nI_o1]
    have e : pf opM (-1) v (i + 1) = if v i ≤ pf opM (-1) v i then pf opM (-1) v i else v i := rfl
    by_cases c : v i ≤ pf opM (-1) v i
    · rw [if_pos c] at e
      rw [if_pos c, ← ih (i + 1) f (by omega) (by omega) (by omega), e]
    · rw [if_neg c] at e
      rw [if_neg c, ← ih (i + 1) f (by omega) (by omega) (by omega), e]
theorem below_loop {z : Int32} (hk : k < 18) (hq : q ≤ 4) (hm : r (27 + k) = nI q) (hv : ∀ i : Nat, i < q → F9 r st (st (4 * k + i)) = v i) : ∀ (m i f : Nat), q - i = m → i ≤ q → m < f → HX7_wordsBelow_0 F9 r st (nI k) f (nI i) (pf opO z v i) = pf opO z v q := by
  intro m
  induction m with
  | zero =>
    intro i f hr hi hf
    obtain ⟨f, rfl⟩ : ∃ g, f = g + 1 := ⟨f - 1, by omega⟩
    obtain rfl : i = q := by omega
    rw [HX7_wordsBelow_0_eq]
    dsimp only [lt_]
    rw [show (27 : Int32) + nI k = nI (27 + k) from nI_add 27 k, nI_clamp (by omega), hm, if_pos (nI_le (by omega) (by omega))]
  | succ m ih =>
    intro i f hr hi hf
    obtain ⟨f, rfl⟩ : ∃ g, f = g + 1 := ⟨f - 1, by omega⟩
    rw [HX7_wordsBelow_0_eq]
    dsimp only [lt_]
    rw [show (27 : Int32) + nI k = nI (27 + k) from nI_add 27 k, nI_clamp (by omega), hm, if_neg (by rw [nI_leI (by omega) (by omega)]; omega), nI_m4' (by omega), nI_add, nI_clamp (by omega), hv i (by omega), nI_o1]
    exact ih (i + 1) f (by omega) (by omega) (by omega)
theorem ways_loop {z : Int32} (hk : k < 18) (hq : q ≤ 4) (hm : r (27 + k) = nI q) (hv : ∀ i : Nat, i < q → F9 r st (st (4 * k + i)) = v i) : ∀ (m i f : Nat), q - i = m → i ≤ q → m < f → HX7_wholeOf_0 F9 r st (nI k) f (nI i) (pf opA z v i) = pf opA z v q := by
  intro m
  induction m with
  | zero =>
    intro i f hr hi hf
    obtain ⟨f, rfl⟩ : ∃ g, f = g + 1 := ⟨f - 1, by omega⟩
    obtain rfl : i = q := by omega
    rw [HX7_wholeOf_0_eq]
    dsimp only [lt_]
    rw [show (27 : Int32) + nI k = nI (27 + k) from nI_add 27 k, nI_clamp (by omega), hm, if_pos (nI_le (by omega) (by omega))]
  | succ m ih =>
    intro i f hr hi hf
    obtain ⟨f, rfl⟩ : ∃ g, f = g + 1 := ⟨f - 1, by omega⟩
    rw [HX7_wholeOf_0_eq]
    dsimp only [lt_]
    rw [show (27 : Int32) + nI k = nI (27 + k) from nI_add 27 k, nI_clamp (by omega), hm, if_neg (by rw [nI_leI (by omega) (by omega)]; omega), nI_m4' (by omega), nI_add, nI_clamp (by omega), hv i (by omega), nI_o1]
    exact ih (i + 1) f (by omega) (by omega) (by omega)
end LP
def opW (k n : Nat) (a x : Int32) : Int32 := if x = nI k then a ||| ((1 : Int32) <<< (nI n &&& 31)) else a ||| 0
theorem opW_c (k n : Nat) (a b c : Int32) : opW k n (opW k n a b) c = opW k n (opW k n a c) b := by
  unfold opW
  by_cases h1 : b = nI k
  · by_cases h2 : c = nI k
    · rw [if_pos h1, if_pos h2, if_pos h2, if_pos h1]
    · rw [if_pos h1, if_neg h2, if_neg h2, if_pos h1, Int32.or_zero, Int32.or_zero]
  · by_cases h2 : c = nI k
    · rw [if_neg h1, if_pos h2, if_pos h2, if_neg h1, Int32.or_zero, Int32.or_zero]
    · rw [if_neg h1, if_neg h2, if_neg h2, if_neg h1]
theorem sA1_pf {pn : Nat → Int32} {k n : Nat} {v : Int32} : ∀ m : Nat, sA1 pn k n v m = pf (opW k n) v (fun i => pn (4 * n + i)) m
  | 0 => rfl
  | m + 1 => by
    rw [sA1, sA1_pf m]
    show _ = opW k n (pf (opW k n) v (fun i => pn (4 * n + i)) m) (pn (4 * n + m))
    unfold opW
    by_cases h : pn (4 * n + m) = nI k
    · rw [if_pos h, if_pos h]
    · rw [if_neg h, if_neg h, Int32.or_zero]
theorem wh_in {r st : Nat → Int32} {k n q : Nat} {z : Int32} {K : Int32 → Int32 → Int32} (hn : n < 18) (hq : q ≤ 4) (hm : r (27 + n) = nI q) : ∀ (m i f : Nat), q - i = m → i ≤ q → m < f → HX7_wholesOf_1 r st (nI k) (nI n) K f (nI i) (pf (opW k n) z (fun j => st (4 * n + j)) i) = K (nI (n + 1)) (pf (opW k n) z (fun j => st (4 * n + j)) q) := by
  intro m
  induction m with
  | zero =>
    intro i f hr hi hf
    obtain ⟨f, rfl⟩ : ∃ g, f = g + 1 := ⟨f - 1, by omega⟩
    obtain rfl : i = q := by omega
    rw [HX7_wholesOf_1_eq]
    dsimp only [lt_]
    rw [show (27 : Int32) + nI n = nI (27 + n) from nI_add 27 n, nI_clamp (by omega), hm, if_pos (nI_le (by omega) (by omega)), nI_o1]
  | succ m ih =>
    intro i f hr hi hf
    obtain ⟨f, rfl⟩ : ∃ g, f = g + 1 := ⟨f - 1, by omega⟩
    rw [HX7_wholesOf_1_eq]
    dsimp only [lt_]
    rw [show (27 : Int32) + nI n = nI (27 + n) from nI_add 27 n, nI_clamp (show 27 + n < 2 ^ 31 by omega), hm, if_neg (by rw [nI_leI (by omega) (by omega)]; omega), nI_m4' (by omega), nI_add, nI_clamp (show 4 * n + i < 2 ^ 31 by omega), nI_o1]
    have e : pf (opW k n) z (fun j => st (4 * n + j)) (i + 1) = if st (4 * n + i) = nI k then pf (opW k n) z (fun j => st (4 * n + j)) i ||| ((1 : Int32) <<< (nI n &&& 31)) else pf (opW k n) z (fun j => st (4 * n + j)) i ||| 0 := rfl
    by_cases c : st (4 * n + i) = nI k
    · rw [if_pos c] at e
      rw [if_pos c, ← e]
      exact ih (i + 1) f (by omega) (by omega) (by omega)
    · rw [if_neg c] at e
      rw [if_neg c, ← e]
      exact ih (i + 1) f (by omega) (by omega) (by omega)
section NQ
variable {N : Nat} {words unsures slips throne said unit : Int32} {kind parts pn wt tw uw uo r told w o st ws steps below above : Nat → Int32}
theorem many_q (hC : CR N words unsures slips throne said kind parts pn wt tw uw uo r told) {k q : Nat} (hk : k < N) (hp : parts k = nI q) : r (27 + k) = nI q := (hC.k hk).2.1.symm.trans hp
theorem steps_b (hI : CI N unit kind parts pn wt ws steps below above) : ∀ (n k : Nat), k < n → k < N → 0 ≤ (steps k).toInt ∧ (steps k).toInt ≤ (k : Int)
  | 0, k, h, _ => absurd h (by omega)
  | n + 1, k, h, hk => by
    have hN := hI.1
    obtain ⟨q, hp, hD⟩ := hI.2.1 k hk
    rw [hD.2.2.1, sT_pf]
    refine pfT_b (K := k) (by omega) q (fun i hi => ?_)
    obtain ⟨j, j1, j2⟩ := hD.2.2.2.2.1 i hi
    show 0 ≤ (steps (pn (4 * k + i)).toNatClampNeg).toInt ∧ _
    rw [j2, nI_clamp (by omega)]
    obtain ⟨a, b⟩ := steps_b hI n j (by omega) (by omega)
    exact ⟨a, by omega⟩
theorem down_eq (hC : CR N words unsures slips throne said kind parts pn wt tw uw uo r told) (hS : StR N parts pn w o st) (hI : CI N unit kind parts pn wt ws steps below above) : ∀ (n k : Nat), k < n → k < N → PX7_downOf n r st (nI k) = steps k
  | 0, k, h, _ => absurd h (by omega)
  | n + 1, k, h, hk => by
    have hN := hI.1
    obtain ⟨q, hp, hD⟩ := hI.2.1 k hk
    obtain ⟨s, s1, s2, s3⟩ := st_perm hS hk hp hD.1
    have hv : ∀ i : Nat, i < q → PX7_downOf n r st (st (4 * k + i)) = (fun i => steps (pn (4 * k + s i)).toNatClampNeg) i := fun i hi => by
      obtain ⟨j, j1, j2⟩ := hD.2.2.2.2.1 (s i) (s1 i hi)
      show _ = steps (pn (4 * k + s i)).toNatClampNeg
      rw [s3 i hi, j2, nI_clamp (by omega)]
      exact down_eq hC hS hI n j (by omega) (by omega)
    have e := down_loop (F9 := PX7_downOf n) (by omega) hD.1 (many_q hC hk hp) hv q 0 (((4 - (0 : Int32).toInt).toNat) + 1) rfl (by omega) (by rw [kc_0]; have := hD.1; omega)
    rw [nI_0] at e
    rw [PX7_downOf_eq]
    refine Eq.trans e ?_
    rw [hD.2.2.1, sT_pf, ← pf_perm opT_c (g := fun i => steps (pn (4 * k + i)).toNatClampNeg) q s s1 s2]
    refine (mx_eq q (fun i hi => ?_)).2.2
    obtain ⟨j, j1, j2⟩ := hD.2.2.2.2.1 (s i) (s1 i hi)
    show 0 ≤ (steps (pn (4 * k + s i)).toNatClampNeg).toInt ∧ _
    rw [j2, nI_clamp (by omega)]
    obtain ⟨a, b⟩ := steps_b hI 18 j (by omega) (by omega)
    exact ⟨a, by omega⟩
set_option maxRecDepth 100000 in
theorem below_step (hC : CR N words unsures slips throne said kind parts pn wt tw uw uo r told) (hS : StR N parts pn w o st) {n k q : Nat} (hk : k < N) (hp : parts k = nI q) (hD : ND k q kind pn wt ws steps below) : PX7_wordsBelow (n + 1) r st (nI k) = pf opO (if kind k = 0 then (1 : Int32) <<< (nI k &&& 31) else 0) (fun i => PX7_wordsBelow n r st (pn (4 * k + i))) q := by
  have hN := hC.N.2.1
  have hq := hD.1
  obtain ⟨s, s1, s2, s3⟩ := st_perm hS hk hp hD.1
  have e : ∀ z : Int32, HX7_wordsBelow_0 (PX7_wordsBelow n) r st (nI k) (((4 - (0 : Int32).toInt).toNat) + 1) (nI 0) z = pf opO z (fun i => PX7_wordsBelow n r st (pn (4 * k + s i))) q := fun z => below_loop (z := z) (F9 := PX7_wordsBelow n) (v := fun i => PX7_wordsBelow n r st (pn (4 * k + s i))) (by omega) hD.1 (many_q hC hk hp) (fun i hi => by rw [s3 i hi]) q 0 (((4 - (0 : Int32).toInt).toNat) + 1) rfl (by omega) (by rw [kc_0]; omega)
  rw [nI_0] at e
  have hc : (nI (9 + k)).toNatClampNeg = 9 + k := nI_clamp (by omega)
  rw [PX7_wordsBelow_eq]
  simp only [lt_ap]
  rw [show (9 : Int32) + nI k = nI (9 + k) from nI_add 9 k, hc, ← (hC.k hk).1, e, e]
  by_cases h0 : kind k = 0
  · rw [if_pos h0, if_pos h0]
    exact pf_perm opO_c (g := fun i => PX7_wordsBelow n r st (pn (4 * k + i))) q s s1 s2
  · rw [if_neg h0, if_neg h0]
    exact pf_perm opO_c (g := fun i => PX7_wordsBelow n r st (pn (4 * k + i))) q s s1 s2
theorem below_eq (hC : CR N words unsures slips throne said kind parts pn wt tw uw uo r told) (hS : StR N parts pn w o st) (hI : CI N unit kind parts pn wt ws steps below above) (n : Nat) : ∀ k : Nat, k < n → k < N → PX7_wordsBelow n r st (nI k) = below k := by
  have hN := hI.1
  induction n with
  | zero => intro k h; exact absurd h (by omega)
  | succ n ih =>
    intro k h hk
    obtain ⟨q, hp, hD⟩ := hI.2.1 k hk
    rw [below_step hC hS hk hp hD, hD.2.2.2.1, sB_pf]
    refine pf_congr q (fun i hi => ?_)
    obtain ⟨j, j1, j2⟩ := hD.2.2.2.2.1 i hi
    show PX7_wordsBelow n r st (pn (4 * k + i)) = below (pn (4 * k + i)).toNatClampNeg
    rw [j2, nI_clamp (show j < 2 ^ 31 by omega)]
    exact ih j (by omega) (by omega)
theorem wholes_loop (hC : CR N words unsures slips throne said kind parts pn wt tw uw uo r told) (hS : StR N parts pn w o st) (hI : CI N unit kind parts pn wt ws steps below above) {k : Nat} : ∀ (m n f : Nat), N - n = m → n ≤ N → m < f → HX7_wholesOf_0 r st (nI k) f (nI n) (sA parts pn k n) = sA parts pn k N := by
  have hN := hI.1
  have hr := hC.N.2.2
  intro m
  induction m with
  | zero =>
    intro n f hm hn hf
    obtain ⟨f, rfl⟩ : ∃ g, f = g + 1 := ⟨f - 1, by omega⟩
    obtain rfl : n = N := by omega
    rw [HX7_wholesOf_0_eq]
    dsimp only [lt_]
    rw [one_cl, hr, if_pos (nI_le (by omega) (by omega))]
  | succ m ih =>
    intro n f hm hn hf
    obtain ⟨f, rfl⟩ : ∃ g, f = g + 1 := ⟨f - 1, by omega⟩
    obtain ⟨q, hp, hD⟩ := hI.2.1 n (by omega)
    obtain ⟨s, s1, s2, s3⟩ := st_perm hS (show n < N by omega) hp hD.1
    have hq := hD.1
    rw [HX7_wholesOf_0_eq]
    dsimp only [lt_]
    rw [one_cl, hr, if_neg (by rw [nI_leI (by omega) (by omega)]; omega)]
    have e := wh_in (st := st) (k := k) (z := sA parts pn k n) (K := fun a b => HX7_wholesOf_0 r st (nI k) f a b) (show n < 18 by omega) hq (many_q hC (show n < N by omega) hp) q 0 (((2147483647 - (0 : Int32).toInt).toNat) + 1) rfl (by omega) (by rw [kc_0]; omega)
    rw [nI_0] at e
    refine Eq.trans e ?_
    have e2 : pf (opW k n) (sA parts pn k n) (fun j => st (4 * n + j)) q = sA parts pn k (n + 1) := by
      rw [sA, hp, nI_clamp (by omega), sA1_pf, ← pf_perm (opW_c k n) (g := fun i => pn (4 * n + i)) q s s1 s2]
      exact pf_congr q (fun i hi => s3 i hi)
    rw [e2]
    exact ih (n + 1) f (by omega) (by omega) (by omega)
theorem wholes_eq (hC : CR N words unsures slips throne said kind parts pn wt tw uw uo r told) (hS : StR N parts pn w o st) (hI : CI N unit kind parts pn wt ws steps below above) {k : Nat} (hk : k < N) : PX7_wholesOf r st (nI k) = above k := by
  have hN := hI.1
  have e := wholes_loop hC hS hI (k := k) N 0 (((2147483647 - (0 : Int32).toInt).toNat) + 1) rfl (by omega) (by rw [kc_0]; omega)
  rw [nI_0] at e
  rw [PX7_wholesOf_eq, hI.2.2.2 k hk]
  exact e
end NQ
section NJ
variable {nodes words unsures slips throne said : Int32} {kind parts pn wt tw uw uo w o : Nat → Int32} {ic : Int32} {iw0 io0 iw1 io1 iw2 io2 : Nat → Int32} {ac : Int32} {an ao as : Nat → Int32} {hc : Int32} {r told st und kept : Nat → Int32} {undos images : Int32} {unit : Int32} {ws steps below above : Nat → Int32}
theorem node_join (h : Rel nodes words unsures slips throne said kind parts pn wt tw uw uo w o ic iw0 io0 iw1 io1 iw2 io2 ac an ao as hc r told st und kept undos images) (hx : CIS nodes unit kind parts pn wt ws steps below above) {p0 p1 q6 rf q7 t1 t2 : Int32} (e6 : PX6_node nodes kind parts steps below above p0 p1 = (q6, rf)) (e7 : PX7_node hc r st p0 p1 = (q7, t1, t2)) : q6 = q7 ∧ rf = t2 := by
  have key : ∃ q f t : Int32, PX6_node nodes kind parts steps below above p0 p1 = (q, f) ∧ PX7_node hc r st p0 p1 = (q, t, f) := by
    rcases h with ⟨rfl, h0⟩ | ⟨N, c, d, rfl, rfl, rfl, rfl, hc, rfl, rfl, hd, hC, hS, hU, hI⟩
    · obtain ⟨h2, h3, h4, h5, h6, h7, rfl, h8, h9⟩ := h0
      refine ⟨-1, 1, 0, ?_, ?_⟩
      · rw [PX6_node_eq, PX6_lacksNode_eq]
        dsimp only [lt_]
        rw [hn_0, if_neg (show ¬ (0 : Int32) = 1 by decide), un2_eq rfl, if_neg (show ¬ (1 : Int32) = 0 by decide)]
      · rw [PX7_node_eq, PX7_good_eq, un2_eq rfl]
        dsimp only [lt_]
        rw [rn_0, if_neg (show ¬ (0 : Int32) = 1 by decide), no_eq, un2_eq rfl]
    · obtain ⟨hN0, hN, hr⟩ := hC.N
      obtain ⟨M, hM, hX⟩ := hx
      obtain rfl : N = M := (nI_eq (by omega) (by have := hX.1; omega)).mp hM
      by_cases hn : 0 ≤ p0.toInt ∧ p0.toInt < (N : Int)
      · obtain ⟨k, hk, rfl⟩ := nd_of hN hn
        have k9 : (9 : Int32) + nI k = nI (9 + k) := nI_add 9 k
        have k27 : (27 : Int32) + nI k = nI (27 + k) := nI_add 27 k
        have c0 : (nI k).toNatClampNeg = k := nI_clamp (by omega)
        have e6 : PX6_node (nI N) kind parts steps below above (nI k) p1 = sw_ p1 0 [(kind k, 0), (parts k, 0), (steps k, 0), (below k, 0), (above k, 0)] (-1, 1) := by
          rw [PX6_node_eq, PX6_lacksNode_eq]
          dsimp only [lt_]
          rw [hn_eq hN, if_pos hn, if_pos rfl, un2_eq rfl, if_pos rfl, c0, PX6_refuse_eq, un2_eq rfl]
        have e7 : PX7_node 1 r st (nI k) p1 = if 0 ≤ p1.toInt ∧ p1.toInt ≤ 4 then sw_ p1 0 [(kind k, 0, 0), (parts k, 0, 0), (steps k, 0, 0), (below k, 0, 0)] (above k, 0, 0) else (-1, 0, 1) := by
          rw [PX7_node_eq, PX7_good_eq, un2_eq rfl]
          dsimp only [lt_]
          rw [rn_eq hN0 hN hr, if_pos hn, if_pos rfl, in_eq, kc_0, kc_4, k9, k27, nI_clamp (show 9 + k < 2 ^ 31 by omega), nI_clamp (show 27 + k < 2 ^ 31 by omega), ← (hC.k hk).1, ← (hC.k hk).2.1, down_eq hC hS hX 18 k (by omega) hk, below_eq hC hS hX 18 k (by omega) hk, wholes_eq hC hS hX hk, no_eq, un2_eq rfl]
          by_cases hv : 0 ≤ p1.toInt ∧ p1.toInt ≤ 4
          · rw [if_pos hv, if_pos hv, if_neg (show ¬ (1 : Int32) = 0 by decide)]
          · rw [if_neg hv, if_neg hv, if_pos rfl]
        rw [e6, e7]
        by_cases hv : 0 ≤ p1.toInt ∧ p1.toInt ≤ 4
        · rw [if_pos hv]
          rcases (show p1.toInt = 0 ∨ p1.toInt = 1 ∨ p1.toInt = 2 ∨ p1.toInt = 3 ∨ p1.toInt = 4 by omega) with q | q | q | q | q
          · exact ⟨kind k, 0, 0, sw_in (j := 0) (by omega) rfl, sw_in (j := 0) (by omega) rfl⟩
          · exact ⟨parts k, 0, 0, sw_in (j := 1) (by omega) rfl, sw_in (j := 1) (by omega) rfl⟩
          · exact ⟨steps k, 0, 0, sw_in (j := 2) (by omega) rfl, sw_in (j := 2) (by omega) rfl⟩
          · exact ⟨below k, 0, 0, sw_in (j := 3) (by omega) rfl, sw_in (j := 3) (by omega) rfl⟩
          · exact ⟨above k, 0, 0, sw_in (j := 4) (by omega) rfl, sw_out (by exact Or.inr (by show ((0 : Int) + (4 : Nat) ≤ _); omega))⟩
        · rw [if_neg hv]
          refine ⟨-1, 1, 0, ?_, rfl⟩
          by_cases q : p1.toInt < 0
          · exact sw_out (Or.inl q)
          · exact sw_out (Or.inr (by show ((0 : Int) + (5 : Nat) ≤ _); omega))
      · refine ⟨-1, 1, 0, ?_, ?_⟩
        · rw [PX6_node_eq, PX6_lacksNode_eq]
          dsimp only [lt_]
          rw [hn_eq hN, if_neg hn, if_neg (show ¬ (0 : Int32) = 1 by decide), un2_eq rfl, if_neg (show ¬ (1 : Int32) = 0 by decide)]
        · rw [PX7_node_eq, PX7_good_eq, un2_eq rfl]
          dsimp only [lt_]
          rw [rn_eq hN0 hN hr, if_neg hn, if_neg (show ¬ (0 : Int32) = 1 by decide), no_eq, un2_eq rfl]
  obtain ⟨q, f, t, g6, g7⟩ := key
  have x := g6.symm.trans e6
  have y := g7.symm.trans e7
  simp only [Prod.mk.injEq] at x y
  obtain ⟨rfl, rfl⟩ := x
  obtain ⟨rfl, -, rfl⟩ := y
  exact ⟨rfl, rfl⟩
end NJ
end E4
