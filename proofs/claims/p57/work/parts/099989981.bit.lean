/-! sets as numbers: bits of small numbers, how many there are -/
section F13
theorem bt_and31 : ∀ j : Nat, j < 32 → (nI j &&& 31).toBitVec.smod 32#32 = BitVec.ofNat 32 j := by decide
theorem bt_shl : ∀ j : Nat, j < 31 → (1 : Int32) <<< (nI j &&& 31) = nI (2 ^ j) := by decide
theorem bt_u31 : ∀ j : Nat, j < 32 → ((nI j).toUInt32 &&& Int32.toUInt32 31).toNat % 32 = j := by decide
theorem bt_shr {a j : Nat} (ha : a < 2 ^ 31) (hj : j < 32) : nI a >>> (nI j &&& 31) = nI (a / 2 ^ j) := by
  have hd : a / 2 ^ j ≤ a := Nat.div_le_self _ _
  rw [fz_eq, nI_toInt (by omega), ← Int32.toInt_toBitVec, Int32.toBitVec_shiftRight]
  show (BitVec.sshiftRight' (nI a).toBitVec ((nI j &&& 31).toBitVec.smod 32#32)).toInt = _
  rw [bt_and31 j hj]
  show (BitVec.sshiftRight (nI a).toBitVec (BitVec.ofNat 32 j).toNat).toInt = _
  rw [BitVec.toInt_sshiftRight, Int32.toInt_toBitVec, nI_toInt ha, BitVec.toNat_ofNat, Nat.mod_eq_of_lt (by omega), Int.shiftRight_eq_div_pow]
  exact (Int.natCast_ediv a (2 ^ j)).symm
theorem bt_and {a b : Nat} : nI a &&& nI b = nI (a &&& b) := by
  show (⟨⟨BitVec.ofNat 32 a &&& BitVec.ofNat 32 b⟩⟩ : Int32) = ⟨⟨BitVec.ofNat 32 (a &&& b)⟩⟩
  rw [BitVec.ofNat_and]
theorem bt_or {a b : Nat} : nI a ||| nI b = nI (a ||| b) := by
  show (⟨⟨BitVec.ofNat 32 a ||| BitVec.ofNat 32 b⟩⟩ : Int32) = ⟨⟨BitVec.ofNat 32 (a ||| b)⟩⟩
  rw [BitVec.ofNat_or]
theorem bt_ush {a j : Nat} (ha : a < 2 ^ 31) (hj : j < 32) : iushr_ (nI a) (nI j) = nI (a >>> j) := by
  have hs : a >>> j ≤ a := by rw [Nat.shiftRight_eq_div_pow]; exact Nat.div_le_self _ _
  show (⟨⟨((nI a).toUInt32 >>> ((nI j).toUInt32 &&& Int32.toUInt32 31)).toBitVec⟩⟩ : Int32) = ⟨⟨BitVec.ofNat 32 (a >>> j)⟩⟩
  have e : ((nI a).toUInt32 >>> ((nI j).toUInt32 &&& Int32.toUInt32 31)).toBitVec = BitVec.ofNat 32 (a >>> j) := by
    apply BitVec.eq_of_toNat_eq
    rw [UInt32.toNat_toBitVec, UInt32.toNat_shiftRight, bt_u31 j hj, BitVec.toNat_ofNat, Nat.mod_eq_of_lt (show a >>> j < 2 ^ 32 by omega)]
    show (BitVec.ofNat 32 a).toNat >>> j = a >>> j
    rw [BitVec.toNat_ofNat, Nat.mod_eq_of_lt (show a < 2 ^ 32 by omega)]
  rw [e]
theorem bt_land_le (a b : Nat) : a &&& b ≤ a := Nat.and_le_left
/-- the bits below m -/
def pcs (x : Nat) : Nat → Nat
  | 0 => 0
  | m + 1 => pcs x m + x / 2 ^ m % 2
def pcJ (x : Nat) : Nat :=
  let a := x - ((x >>> 1) &&& 1431655765)
  let b := (a &&& 858993459) + ((a >>> 2) &&& 858993459)
  let c := (b + (b >>> 4)) &&& 252645135
  let d := c + (c >>> 8)
  (d + (d >>> 16)) &&& 63
/-- all numbers of m bits above a, with as many bits as c says -/
def allC (f : Nat → Nat) : Nat → Nat → Nat → Bool
  | 0, a, c => Nat.beq (f a) c
  | m + 1, a, c => allC f m a c && allC f m (a + 2 ^ m) (c + 1)
theorem pcs_top {x m : Nat} (hx : x < 2 ^ (m + 1)) : pcs x (m + 1) = (if x < 2 ^ m then 0 else 1) + pcs (x % 2 ^ m) m := by
  have hp : ∀ k : Nat, k ≤ m → pcs x k = pcs (x % 2 ^ m) k := by
    intro k
    induction k with
    | zero => intro _; rfl
    | succ k ih =>
      intro hk
      have b := Nat.testBit_mod_two_pow x m k
      rw [decide_eq_true (show k < m by omega), Bool.true_and, Nat.testBit_eq_decide_div_mod_eq, Nat.testBit_eq_decide_div_mod_eq] at b
      rw [pcs, pcs, ih (by omega)]
      have c := decide_eq_decide.mp b
      omega
  rw [pcs, hp m (Nat.le_refl _)]
  rw [Nat.pow_succ] at hx
  by_cases c : x < 2 ^ m
  · rw [if_pos c, Nat.div_eq_of_lt c]; omega
  · rw [if_neg c, show x / 2 ^ m = 1 by rw [Nat.div_eq_iff (Nat.two_pow_pos m)]; omega]; omega
theorem allC_at {f : Nat → Nat} : ∀ (m a c x : Nat), allC f m a c = true → x < 2 ^ m → f (a + x) = c + pcs x m
  | 0, a, c, x, h, hx => by
    obtain rfl : x = 0 := by simpa using hx
    exact Nat.eq_of_beq_eq_true h
  | m + 1, a, c, x, h, hx => by
    rw [allC, Bool.and_eq_true] at h
    rw [pcs_top hx]
    rw [Nat.pow_succ] at hx
    by_cases d : x < 2 ^ m
    · rw [if_pos d, Nat.mod_eq_of_lt d, allC_at m a c x h.1 d]; omega
    · have q := allC_at m (a + 2 ^ m) (c + 1) (x - 2 ^ m) h.2 (by omega)
      rw [if_neg d, Nat.mod_eq_sub_mod (by omega), Nat.mod_eq_of_lt (show x - 2 ^ m < 2 ^ m by omega), show a + x = a + 2 ^ m + (x - 2 ^ m) by omega, q]; omega
theorem pcJ_0 : allC pcJ 14 0 0 = true := by decide +kernel
theorem pcJ_1 : allC pcJ 14 16384 1 = true := by decide +kernel
theorem pcJ_2 : allC pcJ 14 32768 1 = true := by decide +kernel
theorem pcJ_3 : allC pcJ 14 49152 2 = true := by decide +kernel
theorem pcJ_eq {x : Nat} (hx : x < 2 ^ 16) : pcJ x = pcs x 16 := by
  have h : allC pcJ 16 0 0 = true := by
    have h1 : allC pcJ 15 0 0 = true := by rw [allC, pcJ_0, Bool.true_and]; exact pcJ_1
    have h2 : allC pcJ 15 32768 1 = true := by rw [allC, pcJ_2, Bool.true_and]; exact pcJ_3
    rw [allC, h1, Bool.true_and]; exact h2
  have q := allC_at 16 0 0 x h hx
  rw [Nat.zero_add, Nat.zero_add] at q
  exact q
theorem bitCount_eq {x : Nat} (hx : x < 2 ^ 31) : PJ6_bitCount_0f7a4 (nI x) = nI (pcJ x) := by
  rw [PJ6_bitCount_0f7a4_eq]
  simp only [lt_ap]
  have k1 : (1431655765 : Int32) = nI 1431655765 := by decide
  have k2 : (858993459 : Int32) = nI 858993459 := by decide
  have k3 : (252645135 : Int32) = nI 252645135 := by decide
  have k4 : (63 : Int32) = nI 63 := by decide
  have j1 : (1 : Int32) = nI 1 := by decide
  have j2 : (2 : Int32) = nI 2 := by decide
  have j4 : (4 : Int32) = nI 4 := by decide
  have j8 : (8 : Int32) = nI 8 := by decide
  have j16 : (16 : Int32) = nI 16 := by decide
  have l1 : (x >>> 1) &&& 1431655765 ≤ x := Nat.le_trans (bt_land_le _ _) (by rw [Nat.shiftRight_eq_div_pow]; exact Nat.div_le_self _ _)
  have l2 : ∀ y : Nat, y &&& 858993459 ≤ 858993459 := fun y => Nat.and_le_right
  have l3 : ∀ y : Nat, y &&& 252645135 ≤ 252645135 := fun y => Nat.and_le_right
  have l4 : ∀ y : Nat, y >>> 8 ≤ y := fun y => by rw [Nat.shiftRight_eq_div_pow]; exact Nat.div_le_self _ _
  rw [k1, k2, k3, k4, j1, j2, j4, j8, j16, bt_ush hx (by decide), bt_and, nI_sub' l1 hx]
  generalize ea : x - ((x >>> 1) &&& 1431655765) = a
  have ha : a < 2 ^ 31 := by omega
  rw [bt_and, bt_ush ha (by decide), bt_and, nI_add]
  generalize eb : (a &&& 858993459) + ((a >>> 2) &&& 858993459) = b
  have hb : b < 2 ^ 31 := by have := l2 a; have := l2 (a >>> 2); omega
  rw [bt_ush hb (by decide), nI_add, bt_and]
  generalize ec : (b + (b >>> 4)) &&& 252645135 = c
  have hc : c ≤ 252645135 := by rw [← ec]; exact l3 _
  rw [bt_ush (show c < 2 ^ 31 by omega) (by decide), nI_add]
  generalize ed : c + (c >>> 8) = d
  have hd : d < 2 ^ 31 := by have := l4 c; omega
  rw [bt_ush hd (by decide), nI_add, bt_and]
  subst ed; subst ec; subst eb; subst ea
  rfl
/-- the bit j of the set s, as both sides ask for it -/
theorem bt_at {s j : Nat} (hs : s < 2 ^ 31) (hj : j < 31) : (nI s >>> (nI j &&& 31)) &&& 1 = if s.testBit j then 1 else 0 := by
  have e : (1 : Int32) = nI 1 := by decide
  have hd : s / 2 ^ j ≤ s := Nat.div_le_self _ _
  rw [bt_shr hs (by omega), e, bt_and, Nat.and_one_is_mod, Nat.testBit_eq_decide_div_mod_eq]
  by_cases c : s / 2 ^ j % 2 = 1
  · rw [c]; simp
  · rw [show s / 2 ^ j % 2 = 0 by omega]; simp; decide
theorem bt_one {s j : Nat} (hs : s < 2 ^ 31) (hj : j < 31) : ((nI s >>> (nI j &&& 31)) &&& 1 = 1) ↔ s.testBit j = true := by
  rw [bt_at hs hj]
  by_cases c : s.testBit j = true
  · rw [if_pos c]; exact ⟨fun _ => c, fun _ => rfl⟩
  · rw [if_neg c]; exact ⟨fun h => absurd h (by decide), fun h => absurd h c⟩
theorem hasBit_eq {s j : Nat} (hs : s < 2 ^ 31) (hj : j < 31) : PX7_hasBit (nI s) (nI j) = if s.testBit j then 1 else 0 := by
  rw [PX7_hasBit_eq]
  simp only [lt_ap]
  by_cases c : s.testBit j = true
  · rw [if_pos ((bt_one hs hj).mpr c), if_pos c]
  · rw [if_neg (fun h => c ((bt_one hs hj).mp h)), if_neg c]
/-- the set of what fits, below n -/
def FB (p : Nat → Bool) : Nat → Nat
  | 0 => 0
  | n + 1 => if p n then FB p n ||| 2 ^ n else FB p n
theorem FB_lt {p : Nat → Bool} : ∀ n : Nat, FB p n < 2 ^ n
  | 0 => by show 0 < 1; decide
  | n + 1 => by
    have ih := FB_lt (p := p) n
    have h2 : 2 ^ n < 2 ^ (n + 1) := by rw [Nat.pow_succ]; omega
    rw [FB]
    by_cases c : p n = true
    · rw [if_pos c]; exact Nat.or_lt_two_pow (by omega) h2
    · rw [if_neg c]; omega
theorem FB_bit {p : Nat → Bool} : ∀ n i : Nat, (FB p n).testBit i = (decide (i < n) && p i)
  | 0, i => by simp [FB]
  | n + 1, i => by
    have ih := FB_bit (p := p) n i
    rw [FB]
    by_cases c : p n = true
    · rw [if_pos c, Nat.testBit_or, ih, Nat.testBit_two_pow]
      by_cases d : n = i
      · subst d; simp [c]
      · simp only [d, decide_false, Bool.or_false]
        by_cases e : i < n
        · simp [e, show i < n + 1 by omega]
        · simp [e, show ¬ i < n + 1 by omega]
    · rw [if_neg c, ih]
      by_cases d : n = i
      · subst d; simp at c; simp [c]
      · by_cases e : i < n
        · simp [e, show i < n + 1 by omega]
        · simp [e, show ¬ i < n + 1 by omega]
/-- how many sets of those below n fit -/
def cntB (p : Nat → Bool) : Nat → Nat
  | 0 => 0
  | n + 1 => if p n then cntB p n + 1 else cntB p n
theorem cntB_le {p : Nat → Bool} : ∀ n : Nat, cntB p n ≤ n
  | 0 => Nat.le_refl _
  | n + 1 => by
    have := cntB_le (p := p) n
    rw [cntB]
    by_cases c : p n = true
    · rw [if_pos c]; omega
    · rw [if_neg c]; omega
theorem pcs_FB {p : Nat → Bool} {n : Nat} : ∀ m : Nat, m ≤ n → pcs (FB p n) m = cntB p m
  | 0, _ => rfl
  | m + 1, h => by
    have ih := pcs_FB (p := p) (n := n) m (by omega)
    have b := FB_bit (p := p) n m
    rw [Nat.testBit_eq_decide_div_mod_eq] at b
    rw [pcs, cntB, ih]
    by_cases c : p m = true
    · rw [if_pos c]
      rw [c, decide_eq_true (show m < n by omega)] at b
      have := of_decide_eq_true b
      omega
    · rw [if_neg c]
      have c' : p m = false := by simpa using c
      rw [c', Bool.and_false] at b
      have := of_decide_eq_false b
      omega
theorem pcs_hi {x n : Nat} (hx : x < 2 ^ n) : ∀ d : Nat, pcs x (n + d) = pcs x n
  | 0 => rfl
  | d + 1 => by
    have h2 : 2 ^ n ≤ 2 ^ (n + d) := Nat.pow_le_pow_right (by decide) (by omega)
    rw [← Nat.add_assoc, pcs, pcs_hi hx d, Nat.div_eq_of_lt (by omega)]
    rfl
theorem bitCount_FB {p : Nat → Bool} {n : Nat} (hn : n ≤ 16) : PJ6_bitCount_0f7a4 (nI (FB p n)) = nI (cntB p n) := by
  have h := FB_lt (p := p) n
  have h2 : 2 ^ n ≤ 2 ^ 16 := Nat.pow_le_pow_right (by decide) hn
  obtain ⟨d, hd⟩ : ∃ d, 16 = n + d := ⟨16 - n, by omega⟩
  rw [bitCount_eq (by omega), pcJ_eq (by omega), hd, pcs_hi h, pcs_FB n (Nat.le_refl _)]
end F13
