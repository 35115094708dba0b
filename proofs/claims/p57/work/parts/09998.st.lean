/-! stands: a part brought first, sent back; what acts leave behind, on both sides -/
section D1
def bfF (o : Nat → Int32) (k i q : Nat) : Int32 := if q = 4 * k then o (4 * k + i) else if 4 * k < q ∧ q ≤ 4 * k + i then o (q - 1) else o q
def sbF (o : Nat → Int32) (k i q : Nat) : Int32 := if q = 4 * k + i then o (4 * k) else if 4 * k ≤ q ∧ q < 4 * k + i then o (q + 1) else o q
theorem sb_bf (o : Nat → Int32) (k i : Nat) : sbF (bfF o k i) k i = o := by
  funext q
  unfold sbF bfF
  by_cases h1 : q = 4 * k + i
  · rw [if_pos h1, if_pos rfl, h1]
  · rw [if_neg h1]
    by_cases h2 : 4 * k ≤ q ∧ q < 4 * k + i
    · rw [if_pos h2, if_neg (by omega), if_pos (by omega), Nat.add_sub_cancel]
    · rw [if_neg h2, if_neg (by omega), if_neg (by omega)]
theorem nI_m4 {k : Nat} (hk : k < 1000) : nI k * (4 : Int32) = nI (4 * k) := (fz_eq _ _).mpr ((mul4 hk).trans (nI_toInt (by omega)).symm)
theorem nI_m4' {k : Nat} (hk : k < 1000) : (4 : Int32) * nI k = nI (4 * k) := (fz_eq _ _).mpr ((mul4' hk).trans (nI_toInt (by omega)).symm)
theorem nI_om1 (k : Nat) : nI (k + 1) + Int32.ofInt (-1) = nI k := by
  rw [← nI_pred k]
  show nI (k + 1) + Int32.ofInt (-1) = nI (k + 1) - 1
  rw [Int32.sub_eq_add_neg]
  congr 1
theorem bf_loop {k : Nat} (hk : k < 18) (m : Int32) (q : Nat) : ∀ (j f : Nat) (F : Nat → Int32), j ≤ 3 → j < f → HX5_bringFirst_0 (nI (4 * k)) m f (nI j) F q = if q = 4 * k then m else if 4 * k < q ∧ q ≤ 4 * k + j then F (q - 1) else F q := by
  intro j
  induction j with
  | zero =>
    intro f F hj hf
    obtain ⟨f, rfl⟩ : ∃ g, f = g + 1 := ⟨f - 1, by omega⟩
    rw [HX5_bringFirst_0_eq, if_pos (show nI 0 ≤ (0 : Int32) from by decide)]
    dsimp only [lt_]
    rw [nI_clamp (by omega)]
    by_cases h : q = 4 * k
    · rw [if_pos h, h, upd_at]
    · rw [upd_ne h, if_neg h, if_neg (by omega)]
  | succ j ih =>
    intro f F hj hf
    obtain ⟨f, rfl⟩ : ∃ g, f = g + 1 := ⟨f - 1, by omega⟩
    rw [HX5_bringFirst_0_eq, if_neg (nI_nle (by omega) (by omega))]
    dsimp only [lt_]
    rw [nI_add, show nI (4 * k + (j + 1)) - (1 : Int32) = nI (4 * k + j) from nI_pred (4 * k + j), nI_clamp (show 4 * k + (j + 1) < 2 ^ 31 by omega), nI_clamp (show 4 * k + j < 2 ^ 31 by omega), nI_om1, ih f _ (by omega) (by omega)]
    by_cases h1 : q = 4 * k
    · rw [if_pos h1, if_pos h1]
    · rw [if_neg h1, if_neg h1]
      by_cases h2 : 4 * k < q ∧ q ≤ 4 * k + j
      · rw [if_pos h2, if_pos (by omega), upd_ne (by omega)]
      · rw [if_neg h2]
        by_cases h3 : q = 4 * k + (j + 1)
        · rw [if_pos (by omega), h3, upd_at]
          rfl
        · rw [if_neg (by omega), upd_ne h3]
theorem bf_eq (o : Nat → Int32) {k i : Nat} (hk : k < 18) (hi : i ≤ 3) : PX5_bringFirst o (nI k) (nI i) = bfF o k i := by
  funext q
  rw [PX5_bringFirst_eq]
  dsimp only [lt_]
  rw [nI_m4 (by omega), nI_add, nI_clamp (by omega), bf_loop hk _ q i _ o hi (by rw [nI_toInt (by omega)]; omega)]
  rfl
theorem fr_loop {k : Nat} (hk : k < 18) (m : Int32) (q : Nat) : ∀ (j f : Nat) (F : Nat → Int32), j ≤ 3 → j < f → HX7_frontOf_0 (nI k) m f (nI j) F q = if q = 4 * k then m else if 4 * k < q ∧ q ≤ 4 * k + j then F (q - 1) else F q := by
  intro j
  induction j with
  | zero =>
    intro f F hj hf
    obtain ⟨f, rfl⟩ : ∃ g, f = g + 1 := ⟨f - 1, by omega⟩
    rw [HX7_frontOf_0_eq, if_pos (show nI 0 ≤ (0 : Int32) from by decide)]
    dsimp only [lt_]
    rw [nI_m4' (by omega), nI_clamp (by omega)]
    by_cases h : q = 4 * k
    · rw [if_pos h, h, upd_at]
    · rw [upd_ne h, if_neg h, if_neg (by omega)]
  | succ j ih =>
    intro f F hj hf
    obtain ⟨f, rfl⟩ : ∃ g, f = g + 1 := ⟨f - 1, by omega⟩
    rw [HX7_frontOf_0_eq, if_neg (nI_nle (by omega) (by omega))]
    dsimp only [lt_]
    rw [nI_m4' (by omega), nI_add, show nI (4 * k + (j + 1)) - (1 : Int32) = nI (4 * k + j) from nI_pred (4 * k + j), nI_clamp (show 4 * k + (j + 1) < 2 ^ 31 by omega), nI_clamp (show 4 * k + j < 2 ^ 31 by omega), nI_om1, ih f _ (by omega) (by omega)]
    by_cases h1 : q = 4 * k
    · rw [if_pos h1, if_pos h1]
    · rw [if_neg h1, if_neg h1]
      by_cases h2 : 4 * k < q ∧ q ≤ 4 * k + j
      · rw [if_pos h2, if_pos (by omega), upd_ne (by omega)]
      · rw [if_neg h2]
        by_cases h3 : q = 4 * k + (j + 1)
        · rw [if_pos (by omega), h3, upd_at]
          rfl
        · rw [if_neg (by omega), upd_ne h3]
theorem fr_eq (s : Nat → Int32) {k i : Nat} (hk : k < 18) (hi : i ≤ 3) : PX7_frontOf s (nI k) (nI i) = bfF s k i := by
  funext q
  rw [PX7_frontOf_eq]
  dsimp only [lt_]
  rw [nI_m4' (by omega), nI_add, nI_clamp (by omega), fr_loop hk _ q i _ s hi (by rw [nI_toInt (by omega)]; omega)]
  rfl
theorem sb_loop {k i : Nat} (hk : k < 18) (hi : i ≤ 3) (m : Int32) (q : Nat) : ∀ (r j f : Nat) (F : Nat → Int32), i - j = r → j ≤ i → r < f → HX5_sendBack_0 (nI i) (nI (4 * k)) m f (nI j) F q = if q = 4 * k + i then m else if 4 * k + j ≤ q ∧ q < 4 * k + i then F (q + 1) else F q := by
  intro r
  induction r with
  | zero =>
    intro j f F hr hj hf
    obtain ⟨f, rfl⟩ : ∃ g, f = g + 1 := ⟨f - 1, by omega⟩
    obtain rfl : j = i := by omega
    rw [HX5_sendBack_0_eq, if_pos (nI_le (Nat.le_refl _) (by omega))]
    dsimp only [lt_]
    rw [nI_add, nI_clamp (by omega)]
    by_cases h : q = 4 * k + j
    · rw [if_pos h, h, upd_at]
    · rw [upd_ne h, if_neg h, if_neg (by omega)]
  | succ r ih =>
    intro j f F hr hj hf
    obtain ⟨f, rfl⟩ : ∃ g, f = g + 1 := ⟨f - 1, by omega⟩
    rw [HX5_sendBack_0_eq, if_neg (nI_ge (by omega) (by omega))]
    dsimp only [lt_]
    rw [nI_add, nI_1, nI_clamp (show 4 * k + j < 2 ^ 31 by omega), nI_clamp (show 4 * k + j + 1 < 2 ^ 31 by omega), nI_o1, ih (j + 1) f _ (by omega) (by omega) (by omega)]
    by_cases h1 : q = 4 * k + i
    · rw [if_pos h1, if_pos h1]
    · rw [if_neg h1, if_neg h1]
      by_cases h2 : 4 * k + (j + 1) ≤ q ∧ q < 4 * k + i
      · rw [if_pos h2, if_pos (by omega), upd_ne (by omega)]
      · rw [if_neg h2]
        by_cases h3 : q = 4 * k + j
        · rw [if_pos (by omega), h3, upd_at]
        · rw [if_neg (by omega), upd_ne h3]
theorem sb_eq (o : Nat → Int32) {k i : Nat} (hk : k < 18) (hi : i ≤ 3) : PX5_sendBack o (nI k) (nI i) = sbF o k i := by
  funext q
  rw [PX5_sendBack_eq]
  dsimp only [lt_]
  rw [nI_m4 (by omega), nI_clamp (by omega), ← nI_0, sb_loop hk hi _ q i 0 _ o rfl (by omega) (by rw [nI_0, kc_0]; omega)]
  rfl
/-- where a place's part came from when the i-th was brought first -/
def sgF (i j : Nat) : Nat := if j = 0 then i else if j ≤ i then j - 1 else j
theorem bf_sg (f : Nat → Int32) (k i j : Nat) : bfF f k i (4 * k + j) = f (4 * k + sgF i j) := by
  unfold bfF sgF
  by_cases h0 : j = 0
  · rw [if_pos (by omega), if_pos h0]
  · rw [if_neg (by omega), if_neg h0]
    by_cases hi : j ≤ i
    · rw [if_pos (by omega), if_pos hi, show 4 * k + j - 1 = 4 * k + (j - 1) by omega]
    · rw [if_neg (by omega), if_neg hi]
theorem sg_lt {i j m : Nat} (hi : i < m) (hj : j < m) : sgF i j < m := by
  unfold sgF
  by_cases h0 : j = 0
  · rw [if_pos h0]; exact hi
  · rw [if_neg h0]
    by_cases h1 : j ≤ i
    · rw [if_pos h1]; omega
    · rw [if_neg h1]; exact hj
theorem sg_inj {i a b : Nat} (h : sgF i a = sgF i b) : a = b := by
  unfold sgF at h
  by_cases a0 : a = 0
  · rw [if_pos a0] at h
    by_cases b0 : b = 0
    · omega
    · rw [if_neg b0] at h
      by_cases bi : b ≤ i
      · rw [if_pos bi] at h; omega
      · rw [if_neg bi] at h; omega
  · rw [if_neg a0] at h
    by_cases ai : a ≤ i
    · rw [if_pos ai] at h
      by_cases b0 : b = 0
      · rw [if_pos b0] at h; omega
      · rw [if_neg b0] at h
        by_cases bi : b ≤ i
        · rw [if_pos bi] at h; omega
        · rw [if_neg bi] at h; omega
    · rw [if_neg ai] at h
      by_cases b0 : b = 0
      · rw [if_pos b0] at h; omega
      · rw [if_neg b0] at h
        by_cases bi : b ≤ i
        · rw [if_pos bi] at h; omega
        · rw [if_neg bi] at h; omega
/-- a stand: worths, and which part stands at each place, each once -/
def StR (N : Nat) (parts pn w o s : Nat → Int32) : Prop := ∀ k : Nat, k < N → w k = s (72 + k) ∧ (∀ i : Nat, (i : Int) < (parts k).toInt → 0 ≤ (o (4 * k + i)).toInt ∧ (o (4 * k + i)).toInt < (parts k).toInt ∧ pn (4 * k + (o (4 * k + i)).toInt.toNat) = s (4 * k + i)) ∧ ∀ i j : Nat, (i : Int) < (parts k).toInt → (j : Int) < (parts k).toInt → o (4 * k + i) = o (4 * k + j) → i = j
variable {N : Nat} {parts pn : Nat → Int32}
theorem StR.congr {w o s w' o' s' : Nat → Int32} (h : StR N parts pn w o s) (hN : N ≤ 18) (hp : ∀ k : Nat, k < N → (parts k).toInt ≤ 4) (hw : ∀ k : Nat, k < 18 → w' k = w k) (ho : ∀ q : Nat, q < 72 → o' q = o q) (hs : ∀ q : Nat, q < 90 → s' q = s q) : StR N parts pn w' o' s' := by
  intro k hk
  obtain ⟨h1, h2, h3⟩ := h k hk
  have hp' := hp k hk
  refine ⟨by rw [hw k (by omega), hs _ (by omega)]; exact h1, fun i hi => ?_, fun i j hi hj e => ?_⟩
  · rw [ho _ (by omega), hs _ (by omega)]
    exact h2 i hi
  · rw [ho _ (by omega), ho _ (by omega)] at e
    exact h3 i j hi hj e
theorem StR.front {w o s : Nat → Int32} (h : StR N parts pn w o s) (hN : N ≤ 18) (hp : ∀ k : Nat, k < N → (parts k).toInt ≤ 4) {k i : Nat} (hk : k < N) (hi : (i : Int) < (parts k).toInt) : StR N parts pn w (bfF o k i) (bfF s k i) := by
  intro k' hk'
  obtain ⟨h1, h2, h3⟩ := h k' hk'
  have q1 := hp k hk
  have q2 := hp k' hk'
  refine ⟨by rw [h1]; unfold bfF; rw [if_neg (by omega), if_neg (by omega)], ?_⟩
  by_cases hkk : k' = k
  · subst hkk
    have hlt : ∀ j : Nat, (j : Int) < (parts k').toInt → ((sgF i j : Nat) : Int) < (parts k').toInt := fun j hj => by
      have q := sg_lt (i := i) (j := j) (m := (parts k').toInt.toNat) (by omega) (by omega)
      omega
    refine ⟨fun j hj => ?_, fun a b ha hb e => ?_⟩
    · rw [bf_sg, bf_sg]
      exact h2 _ (hlt j hj)
    · rw [bf_sg, bf_sg] at e
      exact sg_inj (h3 _ _ (hlt a ha) (hlt b hb) e)
  · have e : ∀ (f : Nat → Int32) (j : Nat), (j : Int) < (parts k').toInt → bfF f k i (4 * k' + j) = f (4 * k' + j) := fun f j hj => by unfold bfF; rw [if_neg (by omega), if_neg (by omega)]
    refine ⟨fun j hj => ?_, fun a b ha hb q => ?_⟩
    · rw [e o j hj, e s j hj]
      exact h2 j hj
    · rw [e o a ha, e o b hb] at q
      exact h3 a b ha hb q
theorem StR.say {w o s : Nat → Int32} (h : StR N parts pn w o s) (hN : N ≤ 18) (hp : ∀ k : Nat, k < N → (parts k).toInt ≤ 4) {k : Nat} (hk : k < N) (v : Int32) : StR N parts pn (upd w k v) o (upd s (72 + k) v) := by
  intro k' hk'
  obtain ⟨h1, h2, h3⟩ := h k' hk'
  have q2 := hp k' hk'
  refine ⟨?_, fun i hi => by rw [upd_ne (show ¬ 4 * k' + i = 72 + k by omega)]; exact h2 i hi, h3⟩
  by_cases e : k' = k
  · rw [e, upd_at, upd_at]
  · rw [upd_ne e, upd_ne (by omega)]
    exact h1
/-- one act taken back -/
noncomputable def tbW (an ao as w : Nat → Int32) (j : Nat) : Nat → Int32 := if as j = 0 then w else upd w (an j).toNatClampNeg (ao j)
noncomputable def tbO (an ao as o : Nat → Int32) (j : Nat) : Nat → Int32 := if as j = 0 then PX5_sendBack o (an j) (ao j) else o
/-- the acts that can be undone: each step back is what the reference has kept -/
def UnR (N : Nat) (parts pn an ao as und : Nat → Int32) : Nat → (Nat → Int32) → (Nat → Int32) → Prop
  | 0, _, _ => True
  | j + 1, w, o => (as j = 0 ∨ as j = 1) ∧ StR N parts pn (tbW an ao as w j) (tbO an ao as o j) (fun q => und (90 * j + q)) ∧ UnR N parts pn an ao as und j (tbW an ao as w j) (tbO an ao as o j)
theorem UnR_s {an ao as und w o : Nat → Int32} {j : Nat} : UnR N parts pn an ao as und (j + 1) w o ↔ (as j = 0 ∨ as j = 1) ∧ StR N parts pn (tbW an ao as w j) (tbO an ao as o j) (fun q => und (90 * j + q)) ∧ UnR N parts pn an ao as und j (tbW an ao as w j) (tbO an ao as o j) := Iff.rfl
theorem UnR.congr (hN : N ≤ 18) (hp : ∀ k : Nat, k < N → (parts k).toInt ≤ 4) {an ao as und an' ao' as' und' : Nat → Int32} : ∀ (c : Nat) (w o : Nat → Int32), (∀ j : Nat, j < c → an' j = an j ∧ ao' j = ao j ∧ as' j = as j) → (∀ q : Nat, q < 90 * c → und' q = und q) → UnR N parts pn an ao as und c w o → UnR N parts pn an' ao' as' und' c w o := by
  intro c
  induction c with
  | zero => intro w o _ _ _; trivial
  | succ c ih =>
    intro w o h1 h2 h
    obtain ⟨a, b, d⟩ := UnR_s.mp h
    obtain ⟨e1, e2, e3⟩ := h1 c (by omega)
    have ew : tbW an' ao' as' w c = tbW an ao as w c := by unfold tbW; rw [e1, e2, e3]
    have eo : tbO an' ao' as' o c = tbO an ao as o c := by unfold tbO; rw [e1, e2, e3]
    refine UnR_s.mpr ⟨by rw [e3]; exact a, ?_, ?_⟩
    · rw [ew, eo]
      exact b.congr hN hp (fun _ _ => rfl) (fun _ _ => rfl) (fun q hq => h2 _ (by omega))
    · rw [ew, eo]
      exact ih _ _ (fun j hj => h1 j (by omega)) (fun q hq => h2 q (by omega)) d
theorem UnR.shift (hN : N ≤ 18) (hp : ∀ k : Nat, k < N → (parts k).toInt ≤ 4) {an ao as und : Nat → Int32} : ∀ (c : Nat) (w o : Nat → Int32), UnR N parts pn an ao as und (c + 1) w o → UnR N parts pn (fun q => an (q + 1)) (fun q => ao (q + 1)) (fun q => as (q + 1)) (fun q => und (q + 90)) c w o := by
  intro c
  induction c with
  | zero => intro w o _; trivial
  | succ c ih =>
    intro w o h
    obtain ⟨a, b, d⟩ := UnR_s.mp h
    refine UnR_s.mpr ⟨a, ?_, ih _ _ d⟩
    refine StR.congr b hN hp (fun _ _ => rfl) (fun _ _ => rfl) (fun q hq => ?_)
    show und (90 * c + q + 90) = und (90 * (c + 1) + q)
    rw [show 90 * c + q + 90 = 90 * (c + 1) + q by omega]
theorem UnR.bool {an ao as und : Nat → Int32} : ∀ (c : Nat) (w o : Nat → Int32), UnR N parts pn an ao as und c w o → ∀ j : Nat, j < c → as j = 0 ∨ as j = 1 := by
  intro c
  induction c with
  | zero => intro w o _ j hj; exact absurd hj (by omega)
  | succ c ih =>
    intro w o h j hj
    obtain ⟨a, b, d⟩ := UnR_s.mp h
    by_cases e : j = c
    · rw [e]; exact a
    · exact ih _ _ d j (by omega)
theorem nar01 {b : Int32} (hb : b = 0 ∨ b = 1) : vp_nar .boolean b = b := zb_nar (by rcases hb with rfl | rfl <;> decide)
theorem drop_loop : ∀ (r j f : Nat) (A O S : Nat → Int32), 16 - j = r → 1 ≤ j → j ≤ 16 → r < f → ∃ A' O' S' : Nat → Int32, HX0_dropOldest_0 f (nI j) O S A = (15, A', O', S') ∧ (∀ q : Nat, q < j - 1 → A' q = A q ∧ O' q = O q ∧ S' q = S q) ∧ ∀ q : Nat, j - 1 ≤ q → q < 15 → A' q = A (q + 1) ∧ O' q = O (q + 1) ∧ S' q = vp_nar .boolean (S (q + 1)) := by
  have k16 : (16 : Int32).toInt = 16 := by decide
  intro r
  induction r with
  | zero =>
    intro j f A O S hr h1 h2 hf
    obtain ⟨f, rfl⟩ : ∃ g, f = g + 1 := ⟨f - 1, by omega⟩
    refine ⟨A, O, S, ?_, fun q hq => ⟨rfl, rfl, rfl⟩, fun q q1 q2 => absurd q1 (by omega)⟩
    rw [HX0_dropOldest_0_eq, if_pos (show (16 : Int32) ≤ nI j by rw [fz_le, k16, nI_toInt (by omega)]; omega)]
  | succ r ih =>
    intro j f A O S hr h1 h2 hf
    obtain ⟨f, rfl⟩ : ∃ g, f = g + 1 := ⟨f - 1, by omega⟩
    obtain ⟨j, rfl⟩ : ∃ g, j = g + 1 := ⟨j - 1, by omega⟩
    rw [HX0_dropOldest_0_eq, if_neg (show ¬ (16 : Int32) ≤ nI (j + 1) by rw [fz_le, k16, nI_toInt (by omega)]; omega)]
    dsimp only [lt_]
    rw [nI_pred, nI_clamp (show j + 1 < 2 ^ 31 by omega), nI_clamp (show j < 2 ^ 31 by omega), nI_o1]
    obtain ⟨A', O', S', e, g1, g2⟩ := ih (j + 1 + 1) f (upd A j (A (j + 1))) (upd O j (O (j + 1))) (upd S j (vp_nar .boolean (S (j + 1)))) (by omega) (by omega) (by omega) (by omega)
    refine ⟨A', O', S', e, fun q hq => ?_, fun q q1 q2 => ?_⟩
    · obtain ⟨a, b, c⟩ := g1 q (by omega)
      rw [a, b, c, upd_ne (by omega), upd_ne (by omega), upd_ne (by omega)]
      exact ⟨rfl, rfl, rfl⟩
    · by_cases h : q = j
      · obtain ⟨a, b, c⟩ := g1 q (by omega)
        rw [a, b, c, h, upd_at, upd_at, upd_at]
        exact ⟨rfl, rfl, rfl⟩
      · obtain ⟨a, b, c⟩ := g2 q (by omega) q2
        rw [a, b, c, upd_ne (by omega), upd_ne (by omega), upd_ne (by omega)]
        exact ⟨rfl, rfl, rfl⟩
theorem keep_eq {c : Nat} (hc : c ≤ 16) (an ao as : Nat → Int32) (p0 p1 b : Int32) (hb : b = 0 ∨ b = 1) : ∃ (d : Nat) (an' ao' as' : Nat → Int32), PX0_keep (nI c) an ao as p0 p1 b = (nI (d + 1), upd an' d p0, upd ao' d p1, upd as' d b) ∧ ((c < 16 ∧ d = c ∧ an' = an ∧ ao' = ao ∧ as' = as) ∨ (c = 16 ∧ d = 15 ∧ ∀ q : Nat, q < 15 → an' q = an (q + 1) ∧ ao' q = ao (q + 1) ∧ as' q = vp_nar .boolean (as (q + 1)))) := by
  have k16 : (16 : Int32).toInt = 16 := by decide
  rw [PX0_keep_eq, nar01 hb]
  by_cases h : c = 16
  · subst h
    obtain ⟨A', O', S', e, g1, g2⟩ := drop_loop 15 1 (((16 - (1 : Int32).toInt).toNat) + 1) an ao as rfl (by omega) (by omega) (by rw [kc_1]; omega)
    refine ⟨15, A', O', S', ?_, Or.inr ⟨rfl, rfl, fun q hq => g2 q (by omega) hq⟩⟩
    rw [show nI 1 = (1 : Int32) from rfl] at e
    rw [if_pos (show nI 16 = (16 : Int32) from rfl), PX0_dropOldest_eq, un4_eq e]
    dsimp only [lt_]
    rfl
  · refine ⟨c, an, ao, as, ?_, Or.inl ⟨by omega, rfl, rfl, rfl, rfl⟩⟩
    rw [if_neg (show ¬ nI c = (16 : Int32) by rw [fz_eq, k16, nI_toInt (by omega)]; omega)]
    dsimp only [lt_]
    rw [nI_clamp (by omega), nI_1]
theorem nI_m90 {k : Nat} (hk : k < 1000) : (90 : Int32) * nI k = nI (90 * k) := (fz_eq _ _).mpr (by
  rw [fb_mulI (by rw [kc_90, nI_toInt (by omega)]; omega) (by rw [kc_90, nI_toInt (by omega)]; omega), kc_90, nI_toInt (by omega), nI_toInt (by omega)]
  omega)
theorem ninety_cl : (90 : Int32).toNatClampNeg = 90 := by decide
theorem note_loop (s : Nat → Int32) : ∀ (r j f : Nat) (F : Nat → Int32), 1350 - j = r → j ≤ 1350 → r < f → ∃ G : Nat → Int32, HX7_note_0 s (nI 16) f (nI j) F = (nI 16, cpF s G 0 1350 90) ∧ (∀ q : Nat, q < j → G q = F q) ∧ ∀ q : Nat, j ≤ q → q < 1350 → G q = F (q + 90) := by
  intro r
  induction r with
  | zero =>
    intro j f F hr h2 hf
    obtain ⟨f, rfl⟩ : ∃ g, f = g + 1 := ⟨f - 1, by omega⟩
    refine ⟨F, ?_, fun q hq => rfl, fun q q1 q2 => absurd q1 (by omega)⟩
    rw [HX7_note_0_eq, if_pos (show (1350 : Int32) ≤ nI j by rw [fz_le, kc_1350, nI_toInt (by omega)]; omega)]
    rfl
  | succ r ih =>
    intro j f F hr h2 hf
    obtain ⟨f, rfl⟩ : ∃ g, f = g + 1 := ⟨f - 1, by omega⟩
    rw [HX7_note_0_eq, if_neg (show ¬ (1350 : Int32) ≤ nI j by rw [fz_le, kc_1350, nI_toInt (by omega)]; omega)]
    dsimp only [lt_]
    rw [show nI j + (90 : Int32) = nI (j + 90) from nI_add j 90, nI_clamp (show j + 90 < 2 ^ 31 by omega), nI_clamp (show j < 2 ^ 31 by omega), nI_o1]
    obtain ⟨G, e, g1, g2⟩ := ih (j + 1) f (upd F j (F (j + 90))) (by omega) (by omega) (by omega)
    refine ⟨G, e, fun q hq => ?_, fun q q1 q2 => ?_⟩
    · rw [g1 q (by omega), upd_ne (by omega)]
    · by_cases h : q = j
      · rw [g1 q (by omega), h, upd_at]
      · rw [g2 q (by omega) q2, upd_ne (by omega)]
theorem note_eq {c : Nat} (hc : c ≤ 16) (s und : Nat → Int32) : ∃ (d : Nat) (und' : Nat → Int32), PX7_note s und (nI c) = (nI (d + 1), cpF s und' 0 (90 * d) 90) ∧ ((c < 16 ∧ d = c ∧ und' = und) ∨ (c = 16 ∧ d = 15 ∧ ∀ q : Nat, q < 1350 → und' q = und (q + 90))) := by
  have k16 : (16 : Int32).toInt = 16 := by decide
  rw [PX7_note_eq]
  by_cases h : c = 16
  · subst h
    obtain ⟨G, e, g1, g2⟩ := note_loop s 1350 0 (((1350 - (0 : Int32).toInt).toNat) + 1) und rfl (by omega) (by rw [kc_0]; omega)
    refine ⟨15, G, ?_, Or.inr ⟨rfl, rfl, fun q hq => g2 q (by omega) hq⟩⟩
    rw [nI_0] at e
    rw [if_pos (show nI 16 = (16 : Int32) from rfl), e]
  · refine ⟨c, und, ?_, Or.inl ⟨by omega, rfl, rfl⟩⟩
    rw [if_neg (show ¬ nI c = (16 : Int32) by rw [fz_eq, k16, nI_toInt (by omega)]; omega)]
    dsimp only [lt_]
    rw [nI_m90 (by omega), nI_clamp (by omega), nI_1, zero_cl, ninety_cl]
theorem act_sim (hN : N ≤ 18) (hp : ∀ k : Nat, k < N → (parts k).toInt ≤ 4) {an ao as und w o s : Nat → Int32} {c : Nat} (hc : c ≤ 16) (hU : UnR N parts pn an ao as und c w o) (hS : StR N parts pn w o s) {w2 o2 : Nat → Int32} {p0 p1 b : Int32} (hb : b = 0 ∨ b = 1) (e1 : (if b = 0 then w2 else upd w2 p0.toNatClampNeg p1) = w) (e2 : (if b = 0 then PX5_sendBack o2 p0 p1 else o2) = o) : ∃ (d : Nat) (an' ao' as' und' : Nat → Int32), d + 1 ≤ 16 ∧ PX0_keep (nI c) an ao as p0 p1 b = (nI (d + 1), an', ao', as') ∧ PX7_note s und (nI c) = (nI (d + 1), und') ∧ UnR N parts pn an' ao' as' und' (d + 1) w2 o2 := by
  obtain ⟨d, A, O, S, hk, hk2⟩ := keep_eq hc an ao as p0 p1 b hb
  obtain ⟨d', V, hn, hn2⟩ := note_eq hc s und
  obtain rfl : d' = d := by omega
  refine ⟨d', _, _, _, _, by omega, hk, hn, UnR_s.mpr ?_⟩
  have ew : tbW (upd A d' p0) (upd O d' p1) (upd S d' b) w2 d' = w := by unfold tbW; rw [upd_at, upd_at, upd_at]; exact e1
  have eo : tbO (upd A d' p0) (upd O d' p1) (upd S d' b) o2 d' = o := by unfold tbO; rw [upd_at, upd_at, upd_at]; exact e2
  rw [ew, eo, upd_at]
  refine ⟨hb, hS.congr hN hp (fun _ _ => rfl) (fun _ _ => rfl) (fun q hq => ?_), ?_⟩
  · show cpF s V 0 (90 * d') 90 (90 * d' + q) = s q
    unfold cpF
    rw [if_pos (by omega), show 0 + (90 * d' + q - 90 * d') = q by omega]
  · have hcp : ∀ q : Nat, q < 90 * d' → cpF s V 0 (90 * d') 90 q = V q := fun q hq => by unfold cpF; rw [if_neg (by omega)]
    rcases hk2 with ⟨h1, h2, h3, h4, h5⟩ | ⟨h1, h2, h3⟩
    · rcases hn2 with ⟨-, -, n3⟩ | ⟨n1, -, -⟩
      · subst h3 h4 h5 n3
        subst h2
        exact UnR.congr hN hp _ _ _ (fun j hj => ⟨upd_ne (by omega), upd_ne (by omega), upd_ne (by omega)⟩) hcp hU
      · exact absurd n1 (by omega)
    · rcases hn2 with ⟨n1, -, -⟩ | ⟨-, -, n3⟩
      · exact absurd n1 (by omega)
      · subst h1
        have hbo := UnR.bool _ _ _ hU
        have hU := UnR.shift hN hp 15 _ _ hU
        subst h2
        refine UnR.congr hN hp _ _ _ (fun j hj => ?_) (fun q hq => ?_) hU
        · obtain ⟨a1, a2, a3⟩ := h3 j hj
          rw [upd_ne (by omega), upd_ne (by omega), upd_ne (by omega), a1, a2, a3, nar01 (hbo (j + 1) (by omega))]
          exact ⟨rfl, rfl, rfl⟩
        · rw [hcp q hq]
          exact n3 q (by omega)
end D1
