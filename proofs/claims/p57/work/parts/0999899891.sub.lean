/-! sets below a set: the next one, the rank of one -/
section F22
theorem land_h (a b : Nat) : (a &&& b) / 2 = (a / 2) &&& (b / 2) := Nat.and_div_two
theorem land_l (a b : Nat) : (a &&& b) % 2 = (a % 2) * (b % 2) := by
  have h := Nat.and_mod_two_pow (a := a) (b := b) (n := 1)
  rw [Nat.pow_one] at h
  rw [h]
  have h1 : a % 2 = 0 ∨ a % 2 = 1 := by omega
  have h2 : b % 2 = 0 ∨ b % 2 = 1 := by omega
  rcases h1 with p | p <;> rcases h2 with q | q <;> rw [p, q] <;> decide
theorem half_ext {a b : Nat} (h1 : a / 2 = b / 2) (h2 : a % 2 = b % 2) : a = b := by omega
/-- a set below another -/
def Sm (S M : Nat) : Prop := S &&& M = S
theorem Sm.le {S M : Nat} (h : Sm S M) : S ≤ M := by
  have q : S &&& M ≤ M := Nat.and_le_right
  rw [h] at q; exact q
theorem Sm.half {S M : Nat} (h : Sm S M) : Sm (S / 2) (M / 2) ∧ S % 2 ≤ M % 2 := by
  have h1 : (S / 2) &&& (M / 2) = S / 2 := by rw [← land_h, h]
  have h2 := land_l S M
  rw [h] at h2
  refine ⟨h1, ?_⟩
  have p1 : S % 2 = 0 ∨ S % 2 = 1 := by omega
  have p2 : M % 2 = 0 ∨ M % 2 = 1 := by omega
  rcases p1 with p | p <;> rcases p2 with q | q <;> rw [p, q] at h2 <;> omega
theorem Sm.of {S M : Nat} (h1 : Sm (S / 2) (M / 2)) (h2 : S % 2 ≤ M % 2) : Sm S M := by
  refine half_ext ?_ ?_
  · rw [land_h]; exact h1
  · rw [land_l]
    have p1 : S % 2 = 0 ∨ S % 2 = 1 := by omega
    have p2 : M % 2 = 0 ∨ M % 2 = 1 := by omega
    rcases p1 with p | p <;> rcases p2 with q | q <;> rw [p, q] <;> omega
theorem Sm.self (M : Nat) : Sm M M := Nat.and_self M
theorem Sm.zero (M : Nat) : Sm 0 M := Nat.zero_and M
def ext : Nat → Nat → Nat → Nat
  | 0, _, _ => 0
  | w + 1, M, S => if M % 2 = 1 then S % 2 + 2 * ext w (M / 2) (S / 2) else ext w (M / 2) (S / 2)
termination_by w _ _ => w
def pcw : Nat → Nat → Nat
  | 0, _ => 0
  | w + 1, M => M % 2 + pcw w (M / 2)
termination_by w _ => w
theorem ext_0 : ∀ w M : Nat, ext w M 0 = 0
  | 0, _ => by rw [ext]
  | w + 1, M => by
    rw [ext]
    have ih := ext_0 w (M / 2)
    by_cases c : M % 2 = 1
    · rw [if_pos c, Nat.zero_div, ih]
    · rw [if_neg c, Nat.zero_div, ih]
theorem ext_lt : ∀ {w M S : Nat}, Sm S M → ext w M S < 2 ^ pcw w M
  | 0, M, S, _ => by (rw [ext, pcw]) <;> decide
  | w + 1, M, S, h => by
    obtain ⟨h1, h2⟩ := h.half
    have ih := ext_lt (w := w) h1
    rw [ext, pcw]
    by_cases c : M % 2 = 1
    · rw [if_pos c, c, Nat.add_comm 1, Nat.pow_succ]; omega
    · rw [if_neg c, show M % 2 = 0 by omega, Nat.zero_add]; exact ih
theorem ext_top : ∀ {w M : Nat}, M < 2 ^ w → ext w M M + 1 = 2 ^ pcw w M
  | 0, M, _ => by (rw [ext, pcw]) <;> rfl
  | w + 1, M, h => by
    rw [Nat.pow_succ] at h
    have ih := ext_top (w := w) (M := M / 2) (by omega)
    rw [ext, pcw]
    by_cases c : M % 2 = 1
    · rw [if_pos c, c, Nat.add_comm 1 (pcw w (M / 2)), Nat.pow_succ]; omega
    · rw [if_neg c, show M % 2 = 0 by omega, Nat.zero_add]; exact ih
theorem ext_mono : ∀ {w M S T : Nat}, M < 2 ^ w → Sm S M → Sm T M → S < T → ext w M S < ext w M T
  | 0, M, S, T, h, _, hT, hl => by
    have := hT.le
    rw [Nat.pow_zero] at h
    omega
  | w + 1, M, S, T, h, hS, hT, hl => by
    rw [Nat.pow_succ] at h
    obtain ⟨s1, s2⟩ := hS.half
    obtain ⟨t1, t2⟩ := hT.half
    rw [ext, ext]
    by_cases d : S / 2 = T / 2
    · rw [d]
      by_cases c : M % 2 = 1
      · rw [if_pos c, if_pos c]; omega
      · omega
    · have ih := ext_mono (w := w) (M := M / 2) (by omega) s1 t1 (by omega)
      by_cases c : M % 2 = 1
      · rw [if_pos c, if_pos c]; omega
      · rw [if_neg c, if_neg c]; exact ih
theorem ext_inj {w M S T : Nat} (h : M < 2 ^ w) (hS : Sm S M) (hT : Sm T M) (e : ext w M S = ext w M T) : S = T := by
  rcases Nat.lt_trichotomy S T with c | c | c
  · have := ext_mono h hS hT c; omega
  · exact c
  · have := ext_mono h hT hS c; omega
theorem ext_le {w M S T : Nat} (h : M < 2 ^ w) (hS : Sm S M) (hT : Sm T M) (e : ext w M S ≤ ext w M T) : S ≤ T := by
  rcases Nat.lt_or_ge T S with c | c
  · have := ext_mono h hT hS c; omega
  · exact c
theorem cpl : ∀ {w b a : Nat}, b < 2 ^ w → Sm a b → (2 ^ w + a - b - 1) &&& b = a
  | 0, b, a, h, hs => by
    have := hs.le
    rw [Nat.pow_zero] at h
    obtain rfl : b = 0 := by omega
    obtain rfl : a = 0 := by omega
    rfl
  | w + 1, b, a, h, hs => by
    obtain ⟨h1, h2⟩ := hs.half
    have l1 := h1.le
    have hl := hs.le
    rw [Nat.pow_succ] at h ⊢
    have ih := cpl (w := w) (b := b / 2) (a := a / 2) (by omega) h1
    refine half_ext ?_ ?_
    · rw [land_h, show (2 ^ w * 2 + a - b - 1) / 2 = 2 ^ w + a / 2 - b / 2 - 1 by omega]; exact ih
    · rw [land_l]
      by_cases c : b % 2 = 1
      · rw [c, Nat.mul_one]; omega
      · rw [show b % 2 = 0 by omega, Nat.mul_zero]; omega
/-- the next set below M -/
def nx (w M S : Nat) : Nat := (2 ^ w + S - M) &&& M
theorem nx_step : ∀ {w M S : Nat}, M < 2 ^ w → Sm S M → ¬ S = M → Sm (nx w M S) M ∧ ext w M (nx w M S) = ext w M S + 1
  | 0, M, S, h, hs, hn => by
    have := hs.le
    rw [Nat.pow_zero] at h
    omega
  | w + 1, M, S, h, hs, hn => by
    obtain ⟨h1, h2⟩ := hs.half
    have l1 := h1.le
    have hl := hs.le
    have hp : 2 ^ (w + 1) = 2 ^ w * 2 := Nat.pow_succ 2 w
    rw [hp] at h
    by_cases c : M % 2 = 1 ∧ S % 2 = 0
    · have e : nx (w + 1) M S = S + 1 := by
        unfold nx
        refine half_ext ?_ ?_
        · rw [land_h, hp, show (2 ^ w * 2 + S - M) / 2 = 2 ^ w + S / 2 - M / 2 - 1 by omega, cpl (show M / 2 < 2 ^ w by omega) h1]; omega
        · rw [land_l, c.1, Nat.mul_one, hp]; omega
      rw [e]
      refine ⟨Sm.of (by rw [show (S + 1) / 2 = S / 2 by omega]; exact h1) (by omega), ?_⟩
      rw [ext, ext, if_pos c.1, if_pos c.1, show (S + 1) / 2 = S / 2 by omega]; omega
    · have hs2 : S % 2 = M % 2 := by omega
      obtain ⟨i1, i2⟩ := nx_step (w := w) (M := M / 2) (S := S / 2) (by omega) h1 (by omega)
      have e1 : nx (w + 1) M S / 2 = nx w (M / 2) (S / 2) := by
        unfold nx
        rw [land_h, hp, show (2 ^ w * 2 + S - M) / 2 = 2 ^ w + S / 2 - M / 2 by omega]
      have e2 : nx (w + 1) M S % 2 = 0 := by
        unfold nx
        rw [land_l, hp, show (2 ^ w * 2 + S - M) % 2 = 0 by omega, Nat.zero_mul]
      refine ⟨Sm.of (by rw [e1]; exact i1) (by omega), ?_⟩
      rw [ext, ext, e1, e2, i2]
      by_cases d : M % 2 = 1
      · rw [if_pos d, if_pos d]; omega
      · rw [if_neg d, if_neg d]
theorem nx_i {M S : Nat} (hM : M < 2 ^ 31) (hs : Sm S M) : (nI S - nI M) &&& nI M = nI (nx 32 M S) := by
  have hl := hs.le
  have e : (nI S - nI M : Int32) = nI (2 ^ 32 + S - M) := by
    show (⟨⟨BitVec.ofNat 32 S - BitVec.ofNat 32 M⟩⟩ : Int32) = ⟨⟨BitVec.ofNat 32 (2 ^ 32 + S - M)⟩⟩
    rw [BitVec.ofNat_sub_ofNat, Nat.mod_eq_of_lt (show M < 2 ^ 32 by omega), show 2 ^ 32 - M + S = 2 ^ 32 + S - M by omega]
  rw [e, bt_and]
  rfl
theorem pcs_low {x : Nat} : ∀ m : Nat, pcs x (m + 1) = x % 2 + pcs (x / 2) m
  | 0 => by rw [pcs, pcs, pcs, Nat.pow_zero, Nat.div_one]; omega
  | m + 1 => by
    rw [pcs, pcs_low m, pcs, Nat.pow_succ, Nat.mul_comm, ← Nat.div_div_eq_div_mul]; omega
theorem pcw_pcs : ∀ m x : Nat, pcw m x = pcs x m
  | 0, _ => by rw [pcw, pcs]
  | m + 1, x => by rw [pcw, pcs_low, pcw_pcs m]
theorem pcw_le : ∀ {w S M : Nat}, Sm S M → pcw w S ≤ pcw w M
  | 0, _, _, _ => by (rw [pcw, pcw]) <;> exact Nat.le_refl _
  | w + 1, S, M, h => by
    obtain ⟨h1, h2⟩ := h.half
    have ih := pcw_le (w := w) h1
    rw [pcw, pcw]; omega
theorem pcw_eq : ∀ {w S M : Nat}, M < 2 ^ w → Sm S M → pcw w S = pcw w M → S = M
  | 0, S, M, h, hs, _ => by
    have := hs.le
    rw [Nat.pow_zero] at h
    omega
  | w + 1, S, M, h, hs, e => by
    obtain ⟨h1, h2⟩ := hs.half
    rw [Nat.pow_succ] at h
    have l := pcw_le (w := w) h1
    rw [pcw, pcw] at e
    exact half_ext (pcw_eq (w := w) (by omega) h1 (by omega)) (by omega)
end F22
