/-! proofs: the reference finds the least set too -/
section F26
/-- the bits of a code laid under the bits of M -/
def dep : Nat → Nat → Nat → Nat
  | 0, _, _ => 0
  | w + 1, M, c => if M % 2 = 1 then c % 2 + 2 * dep w (M / 2) (c / 2) else 2 * dep w (M / 2) c
termination_by w _ _ => w
theorem dep_bit : ∀ (w M c b : Nat), (dep w M c).testBit b = (decide (b < w) && (M.testBit b && c.testBit (pcw b M)))
  | 0, M, c, b => by
    rw [dep, Nat.zero_testBit, decide_eq_false (show ¬ b < 0 by omega), Bool.false_and]
  | w + 1, M, c, 0 => by
    have e : pcw 0 M = 0 := by rw [pcw]
    rw [e, dep, Nat.testBit_zero M, Nat.testBit_zero c, decide_eq_true (show 0 < w + 1 by omega), Bool.true_and]
    by_cases h : M % 2 = 1
    · rw [if_pos h, Nat.testBit_zero, decide_eq_true h, Bool.true_and, show (c % 2 + 2 * dep w (M / 2) (c / 2)) % 2 = c % 2 by omega]
    · rw [if_neg h, Nat.testBit_zero, decide_eq_false h, Bool.false_and, decide_eq_false (show ¬ (2 * dep w (M / 2) c) % 2 = 1 by omega)]
  | w + 1, M, c, b + 1 => by
    have e : pcw (b + 1) M = M % 2 + pcw b (M / 2) := by rw [pcw]
    have e2 : decide (b + 1 < w + 1) = decide (b < w) := decide_eq_decide.mpr (by omega)
    rw [e, e2, dep, Nat.testBit_add_one M]
    by_cases h : M % 2 = 1
    · rw [if_pos h, Nat.testBit_add_one, show (c % 2 + 2 * dep w (M / 2) (c / 2)) / 2 = dep w (M / 2) (c / 2) by omega, dep_bit w (M / 2) (c / 2) b, h, Nat.add_comm 1 (pcw b (M / 2)), Nat.testBit_add_one c]
    · rw [if_neg h, Nat.testBit_add_one, show 2 * dep w (M / 2) c / 2 = dep w (M / 2) c by omega, dep_bit w (M / 2) c b, show M % 2 = 0 by omega, Nat.zero_add]
theorem dep_sm (w M c : Nat) : Sm (dep w M c) M := by
  unfold Sm
  refine Nat.eq_of_testBit_eq (fun b => ?_)
  rw [Nat.testBit_and, dep_bit]
  cases decide (b < w) <;> cases M.testBit b <;> cases c.testBit (pcw b M) <;> rfl
theorem dep_ext : ∀ (w M c : Nat), c < 2 ^ pcw w M → ext w M (dep w M c) = c
  | 0, M, c, h => by
    have e : pcw 0 M = 0 := by rw [pcw]
    have e2 : ext 0 M (dep 0 M c) = 0 := by rw [ext]
    rw [e, Nat.pow_zero] at h
    omega
  | w + 1, M, c, h => by
    have e : pcw (w + 1) M = M % 2 + pcw w (M / 2) := by rw [pcw]
    rw [e] at h
    rw [ext, dep]
    by_cases d : M % 2 = 1
    · rw [d, Nat.add_comm 1, Nat.pow_succ] at h
      have ih := dep_ext w (M / 2) (c / 2) (by omega)
      rw [if_pos d, if_pos d, show (c % 2 + 2 * dep w (M / 2) (c / 2)) / 2 = dep w (M / 2) (c / 2) by omega, ih]; omega
    · rw [show M % 2 = 0 by omega, Nat.zero_add] at h
      have ih := dep_ext w (M / 2) c h
      rw [if_neg d, if_neg d, show 2 * dep w (M / 2) c / 2 = dep w (M / 2) c by omega, ih]
theorem dep_pcw : ∀ w M c : Nat, pcw w (dep w M c) = pcw (pcw w M) c
  | 0, M, c => by
    have e : pcw 0 M = 0 := by rw [pcw]
    have e1 : pcw 0 c = 0 := by rw [pcw]
    have e2 : pcw 0 (dep 0 M c) = 0 := by rw [pcw]
    rw [e, e1, e2]
  | w + 1, M, c => by
    have e : pcw (w + 1) M = M % 2 + pcw w (M / 2) := by rw [pcw]
    have e2 : pcw (w + 1) (dep (w + 1) M c) = dep (w + 1) M c % 2 + pcw w (dep (w + 1) M c / 2) := by rw [pcw]
    rw [e, e2, dep]
    by_cases d : M % 2 = 1
    · have e3 : pcw (pcw w (M / 2) + 1) c = c % 2 + pcw (pcw w (M / 2)) (c / 2) := by rw [pcw]
      rw [if_pos d, d, Nat.add_comm 1, e3, show (c % 2 + 2 * dep w (M / 2) (c / 2)) / 2 = dep w (M / 2) (c / 2) by omega, dep_pcw w (M / 2) (c / 2)]; omega
    · rw [if_neg d, show M % 2 = 0 by omega, Nat.zero_add, show 2 * dep w (M / 2) c / 2 = dep w (M / 2) c by omega, dep_pcw w (M / 2) c]; omega
theorem cntB_mo {p : Nat → Bool} {j : Nat} : ∀ d : Nat, cntB p j ≤ cntB p (j + d)
  | 0 => Nat.le_refl _
  | d + 1 => by
    have ih := cntB_mo (p := p) (j := j) d
    rw [← Nat.add_assoc, cntB]
    by_cases c : p (j + d) = true
    · rw [if_pos c]; omega
    · rw [if_neg c]; exact ih
theorem cntB_lt {p : Nat → Bool} {j k : Nat} (h : j < k) (hp : p j = true) : cntB p j < cntB p k := by
  have e : cntB p (j + 1) = cntB p j + 1 := by rw [cntB, if_pos hp]
  have m := cntB_mo (p := p) (j := j + 1) (k - (j + 1))
  rw [show j + 1 + (k - (j + 1)) = k by omega] at m
  omega
theorem cntB_sur {p : Nat → Bool} : ∀ (n i : Nat), i < cntB p n → ∃ j : Nat, j < n ∧ p j = true ∧ cntB p j = i
  | 0, i, h => by rw [cntB] at h; omega
  | n + 1, i, h => by
    rw [cntB] at h
    by_cases c : p n = true
    · rw [if_pos c] at h
      by_cases e : i = cntB p n
      · exact ⟨n, by omega, c, e.symm⟩
      · obtain ⟨j, a, b, d⟩ := cntB_sur (p := p) n i (by omega)
        exact ⟨j, by omega, b, d⟩
    · rw [if_neg c] at h
      obtain ⟨j, a, b, d⟩ := cntB_sur (p := p) n i h
      exact ⟨j, by omega, b, d⟩
theorem cntB_inj {p : Nat → Bool} {j k : Nat} (hj : p j = true) (hk : p k = true) (e : cntB p j = cntB p k) : j = k := by
  rcases Nat.lt_trichotomy j k with c | c | c
  · have := cntB_lt c hj; omega
  · exact c
  · have := cntB_lt c hk; omega
theorem pcw_FB {p : Nat → Bool} {n b : Nat} (h : b ≤ n) : pcw b (FB p n) = cntB p b := by rw [pcw_pcs, pcs_FB b h]
theorem pcw_low {c m : Nat} (h : c < 2 ^ m) (hm : m ≤ 32) : pcw m c = pcw 32 c := by
  rw [pcw_pcs, pcw_pcs, show (32 : Nat) = m + (32 - m) by omega, pcs_hi h]
theorem pcw_18 {x : Nat} (hx : x < 2 ^ 18) : pcw 32 x ≤ 18 := by
  rw [pcw_pcs, show (32 : Nat) = 18 + 14 from rfl, pcs_hi hx]
  exact pcs_le 18
/-- which nodes are words -/
def isW (kind : Nat → Int32) : Nat → Bool := fun k => decide (kind k = 0)
section WQ
variable {N : Nat} {words unsures slips throne said unit : Int32} {kind parts pn wt tw uw uo r told W W' o Q w st ws steps below above : Nat → Int32}
theorem ff_words (hC : CR N words unsures slips throne said kind parts pn wt tw uw uo r told) {sc a b : Int32} {T : Nat → Int32} : ∀ (d k f : Nat) (F : Nat → Int32), N - k = d → k ≤ N → d < f → (∀ j : Nat, j < k → kind j = 0 → F (cntB (isW kind) j) = nI j) → ∃ F' : Nat → Int32, HX7_fewestFor_0 r told st sc (-1) T a b f (nI k) (nI (cntB (isW kind) k)) F = HX7_fewestFor_1 r told st sc (-1) a b (nI (cntB (isW kind) N)) F' (((2147483647 - (0 : Int32).toInt).toNat) + 1) (0 : Int32) (-2 : Int32) T ∧ ∀ j : Nat, j < N → kind j = 0 → F' (cntB (isW kind) j) = nI j := by
  obtain ⟨hN0, hN, hr⟩ := hC.N
  intro d
  induction d with
  | zero =>
    intro k f F hd hk hf hF
    obtain ⟨f, rfl⟩ : ∃ g, f = g + 1 := ⟨f - 1, by omega⟩
    obtain rfl : k = N := by omega
    refine ⟨F, ?_, hF⟩
    rw [HX7_fewestFor_0_eq, lt_ap, one_cl, hr, if_pos (nI_le (Nat.le_refl _) (by omega))]
  | succ d ih =>
    intro k f F hd hk hf hF
    obtain ⟨f, rfl⟩ : ∃ g, f = g + 1 := ⟨f - 1, by omega⟩
    have hkN : k < N := by omega
    have hck := cntB_le (p := isW kind) k
    rw [HX7_fewestFor_0_eq, lt_ap, one_cl, hr, if_neg (show ¬ nI N ≤ nI k by rw [nI_leI (by omega) (by omega)]; omega)]
    simp only [lt_ap]
    rw [show (9 : Int32) + nI k = nI (9 + k) from nI_add 9 k, nI_clamp (show 9 + k < 2 ^ 31 by omega), ← (hC.k hkN).1, nI_o1, nI_o1]
    by_cases h0 : kind k = 0
    · have e : cntB (isW kind) (k + 1) = cntB (isW kind) k + 1 := by rw [cntB, if_pos (show isW kind k = true from decide_eq_true h0)]
      rw [if_pos h0, nI_clamp (show cntB (isW kind) k < 2 ^ 31 by omega), ← e]
      refine ih (k + 1) f _ (by omega) (by omega) (by omega) (fun j hj hj0 => ?_)
      by_cases c : j = k
      · rw [c, upd_at]
      · have := cntB_lt (p := isW kind) (show j < k by omega) (decide_eq_true hj0)
        rw [upd_ne (show ¬ cntB (isW kind) j = cntB (isW kind) k by omega)]
        exact hF j (by omega) hj0
    · have e : cntB (isW kind) (k + 1) = cntB (isW kind) k := by rw [cntB, if_neg (show ¬ isW kind k = true from fun q => h0 (of_decide_eq_true q))]
      rw [if_neg h0, ← e]
      refine ih (k + 1) f F (by omega) (by omega) (by omega) (fun j hj hj0 => ?_)
      by_cases c : j = k
      · exact absurd (c ▸ hj0) h0
      · exact hF j (by omega) hj0
theorem ff_set {sc a b : Int32} {c : Nat} {F T : Nat → Int32} {z : Int32} {K : Int32 → Int32 → (Nat → Int32) → Int32 × (Nat → Int32) × (Nat → Int32)} (hN : N ≤ 18) (hc : c < 2 ^ 31) (hF : ∀ j : Nat, j < N → kind j = 0 → F (cntB (isW kind) j) = nI j) : ∀ (d i f S : Nat), cntB (isW kind) N - i = d → i ≤ cntB (isW kind) N → d < f → S < 2 ^ 18 → (∀ y : Nat, S.testBit y = ((FB (isW kind) N).testBit y && (c.testBit (cntB (isW kind) y) && decide (cntB (isW kind) y < i)))) → HX7_fewestFor_2 r told st sc (-1) a b (nI (cntB (isW kind) N)) F (nI c) z T K f (nI i) (nI S) = un2_ (PX7_doesProve r told st sc (-1) T (nI (dep 32 (FB (isW kind) N) c)) a b) (fun x f => if x = (0 : Int32) then (lt_ (nI c + Int32.ofInt 1) (fun y => K y z f)) else (lt_ (nI c + Int32.ofInt 1) (fun y => K y (nI (dep 32 (FB (isW kind) N) c)) f))) := by
  have hm := cntB_le (p := isW kind) N
  intro d
  induction d with
  | zero =>
    intro i f S hd hi hf hS hb
    obtain ⟨f, rfl⟩ : ∃ g, f = g + 1 := ⟨f - 1, by omega⟩
    obtain rfl : i = cntB (isW kind) N := by omega
    have e : S = dep 32 (FB (isW kind) N) c := by
      refine Nat.eq_of_testBit_eq (fun y => ?_)
      rw [hb y, dep_bit, FB_bit]
      by_cases h1 : y < N
      · rw [pcw_FB (show y ≤ N by omega), decide_eq_true (show y < 32 by omega), Bool.true_and]
        by_cases h2 : isW kind y = true
        · rw [decide_eq_true (cntB_lt h1 h2), Bool.and_true]
        · rw [Bool.eq_false_iff.mpr h2, Bool.and_false, Bool.false_and, Bool.false_and]
      · rw [decide_eq_false h1, Bool.false_and, Bool.false_and, Bool.false_and, Bool.and_false]
    rw [HX7_fewestFor_2_eq, if_pos (nI_le (Nat.le_refl _) (by omega)), e]
  | succ d ih =>
    intro i f S hd hi hf hS hb
    obtain ⟨f, rfl⟩ : ∃ g, f = g + 1 := ⟨f - 1, by omega⟩
    obtain ⟨j, j1, j2, j3⟩ := cntB_sur (p := isW kind) N i (by omega)
    have hne : ∀ y : Nat, ¬ y = j → (FB (isW kind) N).testBit y = true → decide (cntB (isW kind) y < i + 1) = decide (cntB (isW kind) y < i) := fun y hy h => by
      rw [FB_bit, Bool.and_eq_true] at h
      have q : ¬ cntB (isW kind) y = i := fun e => hy (cntB_inj h.2 j2 (e.trans j3.symm))
      exact decide_eq_decide.mpr (by omega)
    rw [HX7_fewestFor_2_eq, if_neg (show ¬ nI (cntB (isW kind) N) ≤ nI i by rw [nI_leI (by omega) (by omega)]; omega), lt_ap, hasBit_eq hc (show i < 31 by omega)]
    by_cases g : c.testBit i = true
    · rw [if_pos g, if_neg (show ¬ (1 : Int32) = 0 by decide)]
      simp only [lt_ap]
      have hFi : F i = nI j := by rw [← j3]; exact hF j j1 (of_decide_eq_true j2)
      rw [nI_clamp (show i < 2 ^ 31 by omega), hFi, bt_shl j (by omega), bt_or, nI_o1]
      refine ih (i + 1) f (S ||| 2 ^ j) (by omega) (by omega) (by omega) (Nat.or_lt_two_pow hS (Nat.pow_lt_pow_right (by decide) (by omega))) (fun y => ?_)
      rw [Nat.testBit_or, hb y, Nat.testBit_two_pow]
      by_cases e : y = j
      · (rw [e, j3, g, FB_bit, decide_eq_true j1, j2, decide_eq_true (show i < i + 1 by omega), decide_eq_true (show j = j from rfl), Bool.or_true]) <;> rfl
      · rw [decide_eq_false (show ¬ j = y from fun q => e q.symm), Bool.or_false]
        by_cases h : (FB (isW kind) N).testBit y = true
        · rw [hne y e h]
        · rw [Bool.eq_false_iff.mpr h, Bool.false_and, Bool.false_and]
    · rw [if_neg g, if_pos rfl]
      simp only [lt_ap]
      have hz : (nI S ||| (0 : Int32)) = nI S := by
        have q := bt_or (a := S) (b := 0)
        rw [Nat.or_zero, nI_0] at q
        exact q
      rw [hz, nI_o1]
      refine ih (i + 1) f S (by omega) (by omega) (by omega) hS (fun y => ?_)
      rw [hb y]
      by_cases e : y = j
      · rw [e, j3, Bool.eq_false_iff.mpr g, Bool.false_and, Bool.false_and]
      · by_cases h : (FB (isW kind) N).testBit y = true
        · rw [hne y e h]
        · rw [Bool.eq_false_iff.mpr h, Bool.false_and, Bool.false_and]
theorem ff_code (hC : CR N words unsures slips throne said kind parts pn wt tw uw uo r told) (hS : StR N parts pn w o st) (hI : CI N unit kind parts pn wt ws steps below above) (hR : ROk r) {t : Nat} {sc : Int32} (hth : r 6 = nI t) (ht : t < N) {a b : Int32} {F : Nat → Int32} (hF : ∀ j : Nat, j < N → kind j = 0 → F (cntB (isW kind) j) = nI j) {p : Nat → Bool} (hp : p = PB sc kind parts pn wt ws w t a b) : ∀ (d s f : Nat) (z : Int32) (T : Nat → Int32), 2 ^ cntB (isW kind) N - s = d → s ≤ 2 ^ cntB (isW kind) N → d < f → ((z = -2 ∧ ∀ c : Nat, c < s → p (dep 32 (FB (isW kind) N) c) = false) ∨ ∃ c0 : Nat, c0 < s ∧ z = nI (dep 32 (FB (isW kind) N) c0) ∧ p (dep 32 (FB (isW kind) N) c0) = true ∧ ∀ c : Nat, c < s → p (dep 32 (FB (isW kind) N) c) = true → pcw 32 (dep 32 (FB (isW kind) N) c0) < pcw 32 (dep 32 (FB (isW kind) N) c) ∨ (pcw 32 (dep 32 (FB (isW kind) N) c0) = pcw 32 (dep 32 (FB (isW kind) N) c) ∧ dep 32 (FB (isW kind) N) c0 ≤ dep 32 (FB (isW kind) N) c)) → ∃ (R : Int32) (T' : Nat → Int32), HX7_fewestFor_1 r told st sc (-1) a b (nI (cntB (isW kind) N)) F f (nI s) z T = (R, T', F) ∧ ((R = -2 ∧ ∀ X : Nat, Sm X (FB (isW kind) N) → p X = false) ∨ ∃ X : Nat, R = nI X ∧ Best p (FB (isW kind) N) X) := by
  obtain ⟨hN0, hN, hr⟩ := hC.N
  have hm := cntB_le (p := isW kind) N
  have h18 : 2 ^ cntB (isW kind) N ≤ 2 ^ 18 := Nat.pow_le_pow_right (by decide) (by omega)
  have hA : FB (isW kind) N < 2 ^ 18 := Nat.lt_of_lt_of_le (FB_lt N) (Nat.pow_le_pow_right (by decide) hN)
  have hP : pcw 32 (FB (isW kind) N) = cntB (isW kind) N := by
    rw [← pcw_low (FB_lt N) (by omega), pcw_FB (Nat.le_refl _)]
  have hE : ∀ c : Nat, c < 2 ^ cntB (isW kind) N → ext 32 (FB (isW kind) N) (dep 32 (FB (isW kind) N) c) = c := fun c hc => dep_ext 32 _ c (by rw [hP]; exact hc)
  have hQ : ∀ c : Nat, c < 2 ^ cntB (isW kind) N → pcw 32 (dep 32 (FB (isW kind) N) c) = pcw 32 c := fun c hc => by
    rw [dep_pcw, hP, pcw_low hc (by omega)]
  have hL : ∀ c : Nat, dep 32 (FB (isW kind) N) c < 2 ^ 18 := fun c => Nat.lt_of_le_of_lt (dep_sm 32 _ c).le hA
  have hmono : ∀ c e : Nat, c < 2 ^ cntB (isW kind) N → e < 2 ^ cntB (isW kind) N → c ≤ e → dep 32 (FB (isW kind) N) c ≤ dep 32 (FB (isW kind) N) e := fun c e hc he h => ext_le (w := 32) (M := FB (isW kind) N) (by omega) (dep_sm 32 _ c) (dep_sm 32 _ e) (by rw [hE c hc, hE e he]; exact h)
  have hall : ∀ X : Nat, Sm X (FB (isW kind) N) → ∃ c : Nat, c < 2 ^ cntB (isW kind) N ∧ X = dep 32 (FB (isW kind) N) c := fun X hX => by
    have l := ext_lt (w := 32) hX
    rw [hP] at l
    exact ⟨ext 32 (FB (isW kind) N) X, l, ext_inj (w := 32) (M := FB (isW kind) N) (by omega) hX (dep_sm 32 _ _) (hE _ l).symm⟩
  intro d
  induction d with
  | zero =>
    intro s f z T hd hs hf h
    obtain ⟨f, rfl⟩ : ∃ g, f = g + 1 := ⟨f - 1, by omega⟩
    obtain rfl : s = 2 ^ cntB (isW kind) N := by omega
    refine ⟨z, T, ?_, ?_⟩
    · rw [HX7_fewestFor_1_eq, lt_ap, bt_shl _ (by omega), if_pos (nI_le (Nat.le_refl _) (by omega))]
    · rcases h with ⟨h1, h2⟩ | ⟨c0, h1, h2, h3, h4⟩
      · refine Or.inl ⟨h1, fun X hX => ?_⟩
        obtain ⟨c, q1, rfl⟩ := hall X hX
        exact h2 c q1
      · refine Or.inr ⟨_, h2, dep_sm 32 _ c0, h3, fun X hX hX2 => ?_⟩
        obtain ⟨c, q1, rfl⟩ := hall X hX
        exact h4 c q1 hX2
  | succ d ih =>
    intro s f z T hd hs hf h
    obtain ⟨f, rfl⟩ : ∃ g, f = g + 1 := ⟨f - 1, by omega⟩
    have hs2 : s < 2 ^ cntB (isW kind) N := by omega
    rw [HX7_fewestFor_1_eq, lt_ap, bt_shl _ (by omega), if_neg (show ¬ nI (2 ^ cntB (isW kind) N) ≤ nI s by rw [nI_leI (by omega) (by omega)]; omega)]
    have hset := ff_set (r := r) (told := told) (st := st) (sc := sc) (a := a) (b := b) (c := s) (F := F) (T := T) (z := z) (K := fun z_8634 z_8635 f_8636 => HX7_fewestFor_1 r told st sc (-1) a b (nI (cntB (isW kind) N)) F f z_8634 z_8635 f_8636) hN (by omega) hF (cntB (isW kind) N) 0 (((2147483647 - (0 : Int32).toInt).toNat) + 1) 0 rfl (by omega) (by rw [kc_0]; omega) (by decide) (fun y => by rw [Nat.zero_testBit, decide_eq_false (show ¬ cntB (isW kind) y < 0 by omega), Bool.and_false, Bool.and_false])
    rw [nI_0] at hset
    obtain ⟨G, e⟩ := sh7 hC hS hI hR (m := dep 32 (FB (isW kind) N) s) (by have := hL s; omega) (sc := sc) hth ht T a b
    rw [← hp] at e
    -- the step where the set is tried
    have htry : (∀ c : Nat, c < s → p (dep 32 (FB (isW kind) N) c) = true → pcw 32 (dep 32 (FB (isW kind) N) s) < pcw 32 (dep 32 (FB (isW kind) N) c)) → ∃ (R : Int32) (T' : Nat → Int32), HX7_fewestFor_2 r told st sc (-1) a b (nI (cntB (isW kind) N)) F (nI s) z T (fun z_8634 z_8635 f_8636 => HX7_fewestFor_1 r told st sc (-1) a b (nI (cntB (isW kind) N)) F f z_8634 z_8635 f_8636) (((2147483647 - (0 : Int32).toInt).toNat) + 1) (0 : Int32) (0 : Int32) = (R, T', F) ∧ ((R = -2 ∧ ∀ X : Nat, Sm X (FB (isW kind) N) → p X = false) ∨ ∃ X : Nat, R = nI X ∧ Best p (FB (isW kind) N) X) := fun hfew => by
      rw [hset, un2_eq e]
      by_cases g : p (dep 32 (FB (isW kind) N) s) = true
      · obtain ⟨R, T', e3, hB⟩ := ih (s + 1) f (nI (dep 32 (FB (isW kind) N) s)) G (by omega) (by omega) (by omega) (Or.inr ⟨s, by omega, rfl, g, fun c hc hc2 => by
          by_cases y : c = s
          · rw [y]; exact Or.inr ⟨rfl, Nat.le_refl _⟩
          · exact Or.inl (hfew c (by omega) hc2)⟩)
        refine ⟨R, T', ?_, hB⟩
        rw [if_pos g, if_neg (show ¬ (1 : Int32) = 0 by decide), lt_ap, nI_o1]
        exact e3
      · obtain ⟨R, T', e3, hB⟩ := ih (s + 1) f z G (by omega) (by omega) (by omega) (by
          rcases h with ⟨h1, h2⟩ | ⟨c0, h1, h2, h3, h4⟩
          · refine Or.inl ⟨h1, fun c hc => ?_⟩
            by_cases y : c = s
            · rw [y]; exact Bool.eq_false_iff.mpr g
            · exact h2 c (by omega)
          · refine Or.inr ⟨c0, by omega, h2, h3, fun c hc hc2 => ?_⟩
            by_cases y : c = s
            · rw [y] at hc2; exact absurd hc2 g
            · exact h4 c (by omega) hc2)
        refine ⟨R, T', ?_, hB⟩
        rw [if_neg g, if_pos rfl, lt_ap, nI_o1]
        exact e3
    rcases h with ⟨h1, h2⟩ | ⟨c0, h1, h2, h3, h4⟩
    · subst h1
      rw [if_pos (show (-2 : Int32) < 0 by decide)]
      exact htry (fun c hc hc2 => by rw [h2 c hc] at hc2; exact absurd hc2 (by decide))
    · subst h2
      have hc0 : c0 < 2 ^ cntB (isW kind) N := by omega
      have b0 := pcw_18 (hL c0)
      have b1 := pcw_18 (show s < 2 ^ 18 by omega)
      rw [if_neg (show ¬ nI (dep 32 (FB (isW kind) N) c0) < 0 from nI_pos (by have := hL c0; omega)), lt_ap, lt_ap, ones_eq (show s < 2 ^ 18 by omega), ones_eq (hL c0)]
      by_cases g : pcw 32 s < pcw 32 (dep 32 (FB (isW kind) N) c0)
      · rw [if_pos (nI_lt g (by omega))]
        refine htry (fun c hc hc2 => ?_)
        have := h4 c hc hc2
        rw [hQ s hs2]
        omega
      · rw [if_neg (nI_nlt (by omega) (by omega)), lt_ap, nI_o1]
        refine ih (s + 1) f _ T (by omega) (by omega) (by omega) (Or.inr ⟨c0, by omega, rfl, h3, fun c hc hc2 => ?_⟩)
        by_cases y : c = s
        · rw [y]
          have q := hQ s hs2
          have q2 := hmono c0 s hc0 hs2 (by omega)
          rcases Nat.lt_or_ge (pcw 32 (dep 32 (FB (isW kind) N) c0)) (pcw 32 s) with u | u
          · exact Or.inl (by omega)
          · exact Or.inr ⟨by omega, q2⟩
        · exact h4 c (by omega) hc2
theorem ff7 (hC : CR N words unsures slips throne said kind parts pn wt tw uw uo r told) (hS : StR N parts pn w o st) (hI : CI N unit kind parts pn wt ws steps below above) (hR : ROk r) {t : Nat} {sc : Int32} (hth : r 6 = nI t) (ht : t < N) (a b : Int32) {p : Nat → Bool} (hp : p = PB sc kind parts pn wt ws w t a b) (T O : Nat → Int32) : ∃ (R : Int32) (T' O' : Nat → Int32), PX7_fewestFor r told st sc (-1) T O a b = (R, T', O') ∧ ((R = -2 ∧ ∀ X : Nat, Sm X (FB (isW kind) N) → p X = false) ∨ ∃ X : Nat, R = nI X ∧ Best p (FB (isW kind) N) X) := by
  obtain ⟨hN0, hN, hr⟩ := hC.N
  have hm := cntB_le (p := isW kind) N
  have h18 : 2 ^ cntB (isW kind) N ≤ 2 ^ 18 := Nat.pow_le_pow_right (by decide) (by omega)
  obtain ⟨F, e1, hF⟩ := ff_words (st := st) hC (sc := sc) (a := a) (b := b) (T := T) N 0 ((((r 1).toInt - (0 : Int32).toInt).toNat) + 1) O rfl (by omega) (by rw [hr, nI_toInt (by omega), kc_0]; omega) (fun j hj => absurd hj (by omega))
  rw [show cntB (isW kind) 0 = 0 from rfl, nI_0] at e1
  obtain ⟨R, T', e2, h⟩ := ff_code hC hS hI hR (sc := sc) hth ht (a := a) (b := b) hF hp (2 ^ cntB (isW kind) N) 0 (((2147483647 - (0 : Int32).toInt).toNat) + 1) (-2) T rfl (Nat.zero_le _) (by rw [kc_0]; omega) (Or.inl ⟨rfl, fun c hc => absurd hc (by omega)⟩)
  rw [nI_0] at e2
  refine ⟨R, T', F, ?_, h⟩
  rw [PX7_fewestFor_eq]
  exact e1.trans e2
/-- more said words show more -/
theorem PB_mono (hC : CR N words unsures slips throne said kind parts pn wt tw uw uo r told) (hI : CI N unit kind parts pn wt ws steps below above) (hR : ROk r) (hW : ∀ k : Nat, k < N → kind k = 0 → 0 ≤ (W k).toInt ∧ (W k).toInt ≤ 99) {un : Int32} (hun : 1 ≤ un.toInt ∧ un.toInt ≤ 1296) {t m m' : Nat} (ht : t < N) (hs : Sm m m') (a b : Int32) (h : PB un kind parts pn wt ws W t a b m = true) : PB un kind parts pn wt ws W t a b m' = true := by
  have x0 : 0 ≤ (0 : Int32).toInt ∧ (0 : Int32).toInt ≤ 99 := by decide
  have x9 : 0 ≤ (99 : Int32).toInt ∧ (99 : Int32).toInt ≤ 99 := by decide
  have hbit : ∀ k : Nat, m.testBit k = true → m'.testBit k = true := fun k hk => by
    have q : (m &&& m').testBit k = m.testBit k := by rw [hs]
    rw [Nat.testBit_and, hk, Bool.true_and] at q
    exact q
  have hN := hI.1
  have k0 : (0 : Int32).toInt = 0 := by decide
  have k9 : (99 : Int32).toInt = 99 := by decide
  have up : (TM un kind parts pn wt ws W t m 0).toInt ≤ (TM un kind parts pn wt ws W t m' 0).toInt := VV_mono (W := WM m 0 W) (W' := WM m' 0 W) hC hI hR (WM_in x0 hW) (WM_in x0 hW) (fun k hk h0 => by
    have := hW k hk h0
    unfold WM
    by_cases c : m.testBit k = true
    · (rw [if_pos c, if_pos (hbit k c)]) <;> exact Int.le_refl _
    · rw [if_neg c]
      by_cases c' : m'.testBit k = true
      · rw [if_pos c', k0]; omega
      · (rw [if_neg c']) <;> exact Int.le_refl _) hun t 18 (by omega) ht
  have dn : (TM un kind parts pn wt ws W t m' 99).toInt ≤ (TM un kind parts pn wt ws W t m 99).toInt := VV_mono (W := WM m' 99 W) (W' := WM m 99 W) hC hI hR (WM_in x9 hW) (WM_in x9 hW) (fun k hk h0 => by
    have := hW k hk h0
    unfold WM
    by_cases c : m.testBit k = true
    · (rw [if_pos c, if_pos (hbit k c)]) <;> exact Int.le_refl _
    · rw [if_neg c]
      by_cases c' : m'.testBit k = true
      · rw [if_pos c', k9]; omega
      · (rw [if_neg c']) <;> exact Int.le_refl _) hun t 18 (by omega) ht
  have md : (TM un kind parts pn wt ws W t m' 0).toInt ≤ (TM un kind parts pn wt ws W t m' 99).toInt := VV_mono (W := WM m' 0 W) (W' := WM m' 99 W) hC hI hR (WM_in x0 hW) (WM_in x9 hW) (fun k hk h0 => by
    unfold WM
    by_cases c : m'.testBit k = true
    · (rw [if_pos c, if_pos c]) <;> exact Int.le_refl _
    · (rw [if_neg c, if_neg c, k0, k9]) <;> decide) hun t 18 (by omega) ht
  unfold PB at h ⊢
  by_cases c0 : a = 0
  · rw [if_pos c0] at h ⊢
    rw [Bool.not_eq_true', decide_eq_false_iff_not, fz_lt] at h ⊢
    omega
  · rw [if_neg c0] at h ⊢
    by_cases c1 : a = 1
    · rw [if_pos c1] at h ⊢
      rw [Bool.not_eq_true', decide_eq_false_iff_not, fz_le] at h ⊢
      omega
    · rw [if_neg c1] at h ⊢
      rw [decide_eq_true_iff, fz_eq] at h ⊢
      omega
/-- class and reference find the same -/
theorem few_same (hC : CR N words unsures slips throne said kind parts pn wt tw uw uo r told) (hS : StR N parts pn w o st) (hI : CI N unit kind parts pn wt ws steps below above) (hR : ROk r) (hW : ∀ k : Nat, k < N → kind k = 0 → 0 ≤ (w k).toInt ∧ (w k).toInt ≤ 99) (hun : 1 ≤ unit.toInt ∧ unit.toInt ≤ 1296) {t : Nat} (hth : throne = nI t) (hth6 : r 6 = nI t) (ht : t < N) (a b : Int32) (V G T O : Nat → Int32) : ∃ (R : Int32) (V' G' T' O' : Nat → Int32), PX6_fewestWords (nI N) throne unit kind parts pn wt ws below w V G a b = (R, V', G') ∧ PX7_fewestFor r told st unit (-1) T O a b = (R, T', O') := by
  have hN := hI.1
  obtain ⟨R, V', G', e6, h6⟩ := fw6 hC hI hR hW hun hth ht a b rfl V G
  obtain ⟨R', T', O', e7, h7⟩ := ff7 hC hS hI hR (sc := unit) hth6 ht a b rfl T O
  obtain ⟨-, hb18, -, hbN, -⟩ := bm_all hI t ht
  have hbA : Sm (bm below t) (FB (isW kind) N) := by
    refine Nat.eq_of_testBit_eq (fun y => ?_)
    rw [Nat.testBit_and, FB_bit]
    by_cases c : (bm below t).testBit y = true
    · obtain ⟨q1, q2⟩ := hbN y c
      rw [c, decide_eq_true q1, show isW kind y = true from decide_eq_true q2]; rfl
    · rw [Bool.eq_false_iff.mpr c, Bool.false_and]
  have hcut : ∀ X : Nat, PB unit kind parts pn wt ws w t a b (X &&& bm below t) = PB unit kind parts pn wt ws w t a b X := fun X => PB_bel hI ht (fun j hj => by rw [Nat.testBit_and, hj, Bool.and_true]) a b
  have hsb : ∀ X : Nat, Sm (X &&& bm below t) (bm below t) := fun X => by
    unfold Sm
    rw [Nat.and_assoc, Nat.and_self]
  have hsx : ∀ X : Nat, Sm (X &&& bm below t) X := fun X => by
    unfold Sm
    rw [Nat.and_comm X, Nat.and_assoc, Nat.and_self]
  have e : R = R' := by
    rcases h6 with ⟨g1, g2⟩ | ⟨X, g1, g2⟩
    · rcases h7 with ⟨k1, k2⟩ | ⟨Y, k1, k2⟩
      · rw [g2, k1]
      · have q := k2.2.1
        rw [← hcut Y] at q
        have := PB_mono hC hI hR hW hun ht (hsb Y) a b q
        rw [g1] at this
        exact absurd this (by decide)
    · have hBX : Best (PB unit kind parts pn wt ws w t a b) (FB (isW kind) N) X := by
        refine ⟨?_, g2.2.1, fun Y hY hY2 => ?_⟩
        · have q := g2.1
          unfold Sm at q hbA ⊢
          rw [← q, Nat.and_assoc, hbA]
        · rw [← hcut Y] at hY2
          have q := g2.2.2 _ (hsb Y) hY2
          have l1 := pcw_le (w := 32) (hsx Y)
          have l2 := (hsx Y).le
          omega
      rcases h7 with ⟨k1, k2⟩ | ⟨Y, k1, k2⟩
      · have := k2 X hBX.1
        rw [hBX.2.1] at this
        exact absurd this (by decide)
      · rw [g1, k1, hBX.one k2]
  exact ⟨R', V', G', T', O', by rw [← e]; exact e6, e7⟩
end WQ
end F26
