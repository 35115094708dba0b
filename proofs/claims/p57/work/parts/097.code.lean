/-! words as numbers, five bits a letter -/
theorem nI_sub' {a b : Nat} (h : b ≤ a) (ha : a < 2 ^ 31) : nI a - nI b = nI (a - b) := by
  rw [fz_eq, fb_subI (by rw [nI_toInt ha, nI_toInt (by omega)]; omega) (by rw [nI_toInt ha, nI_toInt (by omega)]; omega), nI_toInt ha, nI_toInt (by omega), nI_toInt (by omega)]
  omega
theorem nI_o1 (k : Nat) : nI k + Int32.ofInt 1 = nI (k + 1) := by
  rw [show Int32.ofInt 1 = 1 from by decide, nI_1]
theorem lg_cmp0 (x y : Int64) : lg_cmp x y = 0 ↔ x = y := by
  unfold lg_cmp
  by_cases h1 : x > y
  · rw [if_pos h1]
    refine ⟨fun h => absurd h (by decide), fun h => ?_⟩
    subst h
    exact absurd (Int64.lt_iff_toInt_lt.mp h1) (by omega)
  · rw [if_neg h1]
    by_cases h2 : x = y
    · rw [if_pos h2]; exact ⟨fun _ => h2, fun _ => rfl⟩
    · rw [if_neg h2]; exact ⟨fun h => absurd h (by decide), fun h => absurd h h2⟩
theorem wl_eq (x : Int64) (c : Int32) : PX3_withLetter x c = x * 32 + (c - 97 + 1).toInt64 := rfl
noncomputable def lcode (L : Nat → Int32) : Nat → Int64
  | 0 => 0
  | k + 1 => PX3_withLetter (lcode L k) (L k)
def lnum (L : Nat → Int32) : Nat → Nat
  | 0 => 0
  | k + 1 => lnum L k * 32 + ((L k).toInt - 96).toNat
def Lets (L : Nat → Int32) (len : Nat) : Prop := ∀ i : Nat, i < len → 97 ≤ (L i).toInt ∧ (L i).toInt ≤ 122
theorem Lets.le {L : Nat → Int32} {a b : Nat} (h : Lets L b) (hab : a ≤ b) : Lets L a := fun i hi => h i (by omega)
theorem wl_int {x : Int64} {c : Int32} {a : Nat} (hx : x.toInt = (a : Int)) (ha : a < 1099511627776) (h1 : 97 ≤ c.toInt) (h2 : c.toInt ≤ 122) : (PX3_withLetter x c).toInt = ((a * 32 + (c.toInt - 96).toNat : Nat) : Int) := by
  have k97 : (97 : Int32).toInt = 97 := by decide
  have k1 : (1 : Int32).toInt = 1 := by decide
  have k32 : (32 : Int64).toInt = 32 := by decide
  have e1 : (c - 97).toInt = c.toInt - 97 := by rw [fb_subI (by omega) (by omega), k97]
  have e2 : (c - 97 + 1).toInt = c.toInt - 96 := by rw [fb_addI (by omega) (by omega), e1, k1]; omega
  have e3 : ((c - 97 + 1).toInt64).toInt = c.toInt - 96 := by rw [Int32.toInt_toInt64, e2]
  have e4 : (x * 32).toInt = (a : Int) * 32 := by rw [fb_mulL (by rw [hx, k32]; omega) (by rw [hx, k32]; omega), hx, k32]
  rw [wl_eq, fb_addL (by rw [e3, e4]; omega) (by rw [e3, e4]; omega), e3, e4]
  omega
theorem lnum_lt {L : Nat → Int32} : ∀ {len : Nat}, Lets L len → lnum L len < 32 ^ len
  | 0, _ => by show 0 < 1; decide
  | k + 1, h => by
    have ih := lnum_lt (h.le (Nat.le_succ k))
    have hk := h k (Nat.lt_succ_self k)
    show lnum L k * 32 + ((L k).toInt - 96).toNat < 32 ^ k * 32
    omega
theorem lnum_8 {L : Nat → Int32} {len : Nat} (h : Lets L len) (hl : len ≤ 8) : lnum L len < 1099511627776 :=
  Nat.lt_of_lt_of_le (lnum_lt h) (Nat.le_trans (Nat.pow_le_pow_right (by decide) hl) (by decide))
theorem lcode_int {L : Nat → Int32} : ∀ {len : Nat}, len ≤ 8 → Lets L len → (lcode L len).toInt = (lnum L len : Int)
  | 0, _, _ => by show (0 : Int64).toInt = ((0 : Nat) : Int); decide
  | k + 1, hl, h => by
    have hk := h k (Nat.lt_succ_self k)
    exact wl_int (lcode_int (by omega) (h.le (Nat.le_succ k))) (lnum_8 (h.le (Nat.le_succ k)) (by omega)) hk.1 hk.2
theorem lnum_inj {L M : Nat → Int32} : ∀ {a b : Nat}, Lets L a → Lets M b → lnum L a = lnum M b → a = b ∧ ∀ i : Nat, i < a → L i = M i
  | 0, 0, _, _, _ => ⟨rfl, fun i hi => absurd hi (Nat.not_lt_zero i)⟩
  | 0, b + 1, _, hM, h => by
    have hk := hM b (Nat.lt_succ_self b)
    have h : 0 = lnum M b * 32 + ((M b).toInt - 96).toNat := h
    omega
  | a + 1, 0, hL, _, h => by
    have hk := hL a (Nat.lt_succ_self a)
    have h : lnum L a * 32 + ((L a).toInt - 96).toNat = 0 := h
    omega
  | a + 1, b + 1, hL, hM, h => by
    have h1 := hL a (Nat.lt_succ_self a)
    have h2 := hM b (Nat.lt_succ_self b)
    have h : lnum L a * 32 + ((L a).toInt - 96).toNat = lnum M b * 32 + ((M b).toInt - 96).toNat := h
    obtain ⟨e, f⟩ := lnum_inj (hL.le (Nat.le_succ a)) (hM.le (Nat.le_succ b)) (by omega)
    subst e
    refine ⟨rfl, fun i hi => ?_⟩
    by_cases hi2 : i = a
    · rw [hi2, fz_eq]; omega
    · exact f i (by omega)
theorem lcode_inj {L M : Nat → Int32} {a b : Nat} (ha : a ≤ 8) (hb : b ≤ 8) (hL : Lets L a) (hM : Lets M b) (h : lcode L a = lcode M b) : a = b ∧ ∀ i : Nat, i < a → L i = M i := by
  have q := congrArg Int64.toInt h
  rw [lcode_int ha hL, lcode_int hb hM] at q
  exact lnum_inj hL hM (by omega)
theorem lcode_congr {L M : Nat → Int32} : ∀ {a : Nat}, (∀ i : Nat, i < a → L i = M i) → lcode L a = lcode M a
  | 0, _ => rfl
  | a + 1, h => by
    show PX3_withLetter (lcode L a) (L a) = PX3_withLetter (lcode M a) (M a)
    rw [lcode_congr (fun i hi => h i (by omega)), h a (Nat.lt_succ_self a)]
theorem Lets.congr {L M : Nat → Int32} {a : Nat} (h : Lets L a) (e : ∀ i : Nat, i < a → L i = M i) : Lets M a := fun i hi => by rw [← e i hi]; exact h i hi
