section
/-! sets as numbers: bits of small numbers, how many there are -/
section F13
theorem bt_and31 : ∀ j : Nat, j < 32 → (nI j &&& 31).toBitVec.smod 32#32 = BitVec.ofNat 32 j := by decide
theorem bt_shl : ∀ j : Nat, j < 31 → (1 : Int32) <<< (nI j &&& 31) = nI (2 ^ j) := by decide
theorem bt_u31 : ∀ j : Nat, j < 32 → ((nI j).toUInt32 &&& Int32.toUInt32 31).toNat % 32 = j := by decide
theorem bt_shr {a j : Nat} (ha : a < 2 ^ 31) (hj : j < 32) : nI a >>> (nI j &&& 31) = nI (a / 2 ^ j) := by
  have hd : a / 2 ^ j ≤ a := Nat.div_le_self _ _
  rw [fz_eq, nI_toInt (by omega), ← Int32.toInt_toBitVec, Int32.toBitVec_shiftRight]
  show (BitVec.sshiftRight' (nI a).toBitVec ((nI j &&& 31).toBitVec.smod 32#32)).toInt = _
  rw [bt_and31 j hj]
  show (BitVec.sshiftRight (nI a).toBitVec (BitVec.ofNat 32 j).toNat).toInt = _
  rw [BitVec.toInt_sshiftRight, Int32.toInt_toBitVec, nI_toInt ha, BitVec.toNat_ofNat, Nat.mod_eq_of_lt (by omega), Int.shiftRight_eq_div_pow]
  exact (Int.natCast_ediv a (2 ^ j)).symm
theorem bt_and {a b : Nat} : nI a &&& nI b = nI (a &&& b) := by
  show (⟨⟨BitVec.ofNat 32 a &&& BitVec.ofNat 32 b⟩⟩ : Int32) = ⟨⟨BitVec.ofNat 32 (a &&& b)⟩⟩
  rw [BitVec.ofNat_and]
theorem bt_or {a b : Nat} : nI a ||| nI b = nI (a ||| b) := by
  show (⟨⟨BitVec.ofNat 32 a ||| BitVec.ofNat 32 b⟩⟩ : Int32) = ⟨⟨BitVec.ofNat 32 (a ||| b)⟩⟩
  rw [BitVec.ofNat_or]
theorem bt_ush {a j : Nat} (ha : a < 2 ^ 31) (hj : j < 32) : iushr_ (nI a) (nI j) = nI (a >>> j) := by
  have hs : a >>> j ≤ a := by rw [Nat.shiftRight_eq_div_pow]; exact Nat.div_le_self _ _
  show (⟨⟨((nI a).toUInt32 >>> ((nI j).toUInt32 &&& Int32.toUInt32 31)).toBitVec⟩⟩ : Int32) = ⟨⟨BitVec.ofNat 32 (a >>> j)⟩⟩
  have e : ((nI a).toUInt32 >>> ((nI j).toUInt32 &&& Int32.toUInt32 31)).toBitVec = BitVec.ofNat 32 (a >>> j) := by
    apply BitVec.eq_of_toNat_eq
    rw [UInt32.toNat_toBitVec, UInt32.toNat_shiftRight, bt_u31 j hj, BitVec.toNat_ofNat, Nat.mod_eq_of_lt (show a >>> j < 2 ^ 32 by omega)]
    show (BitVec.ofNat 32 a).toNat >>> j = a >>> j
    rw [BitVec.toNat_ofNat, Nat.mod_eq_of_lt (show a < 2 ^ 32 by omega)]
  rw [e]
theorem bt_land_le (a b : Nat) : a &&& b ≤ a := Nat.and_le_left
/-- the bits below m -/
def pcs (x : Nat) : Nat → Nat
  | 0 => 0
  | m + 1 => pcs x m + x / 2 ^ m % 2
def pcJ (x : Nat) : Nat :=
  let a := x - ((x >>> 1) &&& 1431655765)
  let b := (a &&& 858993459) + ((a >>> 2) &&& 858993459)
  let c := (b + (b >>> 4)) &&& 252645135
  let d := c + (c >>> 8)
  (d + (d >>> 16)) &&& 63
/-- all numbers of m bits above a, with as many bits as c says -/
def allC (f : Nat → Nat) : Nat → Nat → Nat → Bool
  | 0, a, c => Nat.beq (f a) c
  | m + 1, a, c => allC f m a c && allC f m (a + 2 ^ m) (c + 1)
theorem pcs_top {x m : Nat} (hx : x < 2 ^ (m + 1)) : pcs x (m + 1) = (if x < 2 ^ m then 0 else 1) + pcs (x % 2 ^ m) m := by
  have hp : ∀ k : Nat, k ≤ m → pcs x k = pcs (x % 2 ^ m) k := by
    intro k
    induction k with
    | zero => intro _; rfl
    | succ k ih =>
      intro hk
      have b := Nat.testBit_mod_two_pow x m k
      rw [decide_eq_true (show k < m by omega), Bool.true_and, Nat.testBit_eq_decide_div_mod_eq, Nat.testBit_eq_decide_div_mod_eq] at b
      rw [pcs, pcs, ih (by omega)]
      have c := decide_eq_decide.mp b
      omega
  rw [pcs, hp m (Nat.le_refl _)]
  rw [Nat.pow_succ] at hx
  by_cases c : x < 2 ^ m
  · rw [if_pos c, Nat.div_eq_of_lt c]; omega
  · rw [if_neg c, show x / 2 ^ m = 1 by rw [Nat.div_eq_iff (Nat.two_pow_pos m)]; omega]; omega
theorem allC_at {f : Nat → Nat} : ∀ (m a c x : Nat), allC f m a c = true → x < 2 ^ m → f (a + x) = c + pcs x m
  | 0, a, c, x, h, hx => by
    obtain rfl : x = 0 := by simpa using hx
    exact Nat.eq_of_beq_eq_true h
  | m + 1, a, c, x, h, hx => by
    rw [allC, Bool.and_eq_true] at h
    rw [pcs_top hx]
    rw [Nat.pow_succ] at hx
    by_cases d : x < 2 ^ m
    · rw [if_pos d, Nat.mod_eq_of_lt d, allC_at m a c x h.1 d]; omega
    · have q := allC_at m (a + 2 ^ m) (c + 1) (x - 2 ^ m) h.2 (by omega)
      rw [if_neg d, Nat.mod_eq_sub_mod (by omega), Nat.mod_eq_of_lt (show x - 2 ^ m < 2 ^ m by omega), show a + x = a + 2 ^ m + (x - 2 ^ m) by omega, q]; omega
theorem pcJ_0 : allC pcJ 14 0 0 = true := by decide +kernel
theorem pcJ_1 : allC pcJ 14 16384 1 = true := by decide +kernel
theorem pcJ_2 : allC pcJ 14 32768 1 = true := by decide +kernel
theorem pcJ_3 : allC pcJ 14 49152 2 = true := by decide +kernel
theorem pcJ_eq {x : Nat} (hx : x < 2 ^ 16) : pcJ x = pcs x 16 := by
  have h : allC pcJ 16 0 0 = true := by
    have h1 : allC pcJ 15 0 0 = true := by rw [allC, pcJ_0, Bool.true_and]; exact pcJ_1
    have h2 : allC pcJ 15 32768 1 = true := by rw [allC, pcJ_2, Bool.true_and]; exact pcJ_3
    rw [allC, h1, Bool.true_and]; exact h2
  have q := allC_at 16 0 0 x h hx
  rw [Nat.zero_add, Nat.zero_add] at q
  exact q
theorem bitCount_eq {x : Nat} (hx : x < 2 ^ 31) : PJ6_bitCount_0f7a4 (nI x) = nI (pcJ x) := by
  rw [PJ6_bitCount_0f7a4_eq]
  simp only [lt_ap]
  have k1 : (1431655765 : Int32) = nI 1431655765 := by decide
  have k2 : (858993459 : Int32) = nI 858993459 := by decide
  have k3 : (252645135 : Int32) = nI 252645135 := by decide
  have k4 : (63 : Int32) = nI 63 := by decide
  have j1 : (1 : Int32) = nI 1 := by decide
  have j2 : (2 : Int32) = nI 2 := by decide
  have j4 : (4 : Int32) = nI 4 := by decide
  have j8 : (8 : Int32) = nI 8 := by decide
  have j16 : (16 : Int32) = nI 16 := by decide
  have l1 : (x >>> 1) &&& 1431655765 ≤ x := Nat.le_trans (bt_land_le _ _) (by rw [Nat.shiftRight_eq_div_pow]; exact Nat.div_le_self _ _)
  have l2 : ∀ y : Nat, y &&& 858993459 ≤ 858993459 := fun y => Nat.and_le_right
  have l3 : ∀ y : Nat, y &&& 252645135 ≤ 252645135 := fun y => Nat.and_le_right
  have l4 : ∀ y : Nat, y >>> 8 ≤ y := fun y => by rw [Nat.shiftRight_eq_div_pow]; exact Nat.div_le_self _ _
  rw [k1, k2, k3, k4, j1, j2, j4, j8, j16, bt_ush hx (by decide), bt_and, nI_sub' l1 hx]
  generalize ea : x - ((x >>> 1) &&& 1431655765) = a
  have ha : a < 2 ^ 31 := by omega
  rw [bt_and, bt_ush ha (by decide), bt_and, nI_add]
  generalize eb : (a &&& 858993459) + ((a >>> 2) &&& 858993459) = b
  have hb : b < 2 ^ 31 := by have := l2 a; have := l2 (a >>> 2); omega
  rw [bt_ush hb (by decide), nI_add, bt_and]
  generalize ec : (b + (b >>> 4)) &&& 252645135 = c
  have hc : c ≤ 252645135 := by rw [← ec]; exact l3 _
  rw [bt_ush (show c < 2 ^ 31 by omega) (by decide), nI_add]
  generalize ed : c + (c >>> 8) = d
  have hd : d < 2 ^ 31 := by have := l4 c; omega
  rw [bt_ush hd (by decide), nI_add, bt_and]
  subst ed; subst ec; subst eb; subst ea
  rfl
/-- the bit j of the set s, as both sides ask for it -/
theorem bt_at {s j : Nat} (hs : s < 2 ^ 31) (hj : j < 31) : (nI s >>> (nI j &&& 31)) &&& 1 = if s.testBit j then 1 else 0 := by
  have e : (1 : Int32) = nI 1 := by decide
  have hd : s / 2 ^ j ≤ s := Nat.div_le_self _ _
  rw [bt_shr hs (by omega), e, bt_and, Nat.and_one_is_mod, Nat.testBit_eq_decide_div_mod_eq]
  by_cases c : s / 2 ^ j % 2 = 1
  · rw [c]; simp
  · rw [show s / 2 ^ j % 2 = 0 by omega]; simp; decide
theorem bt_one {s j : Nat} (hs : s < 2 ^ 31) (hj : j < 31) : ((nI s >>> (nI j &&& 31)) &&& 1 = 1) ↔ s.testBit j = true := by
  rw [bt_at hs hj]
  by_cases c : s.testBit j = true
  · rw [if_pos c]; exact ⟨fun _ => c, fun _ => rfl⟩
  · rw [if_neg c]; exact ⟨fun h => absurd h (by decide), fun h => absurd h c⟩
theorem hasBit_eq {s j : Nat} (hs : s < 2 ^ 31) (hj : j < 31) : PX7_hasBit (nI s) (nI j) = if s.testBit j then 1 else 0 := by
  rw [PX7_hasBit_eq]
  simp only [lt_ap]
  by_cases c : s.testBit j = true
  · rw [if_pos ((bt_one hs hj).mpr c), if_pos c]
  · rw [if_neg (fun h => c ((bt_one hs hj).mp h)), if_neg c]
/-- the set of what fits, below n -/
def FB (p : Nat → Bool) : Nat → Nat
  | 0 => 0
  | n + 1 => if p n then FB p n ||| 2 ^ n else FB p n
theorem FB_lt {p : Nat → Bool} : ∀ n : Nat, FB p n < 2 ^ n
  | 0 => by show 0 < 1; decide
  | n + 1 => by
    have ih := FB_lt (p := p) n
    have h2 : 2 ^ n < 2 ^ (n + 1) := by rw [Nat.pow_succ]; omega
    rw [FB]
    by_cases c : p n = true
    · rw [if_pos c]; exact Nat.or_lt_two_pow (by omega) h2
    · rw [if_neg c]; omega
theorem FB_bit {p : Nat → Bool} : ∀ n i : Nat, (FB p n).testBit i = (decide (i < n) && p i)
  | 0, i => by simp [FB]
  | n + 1, i => by
    have ih := FB_bit (p := p) n i
    rw [FB]
    by_cases c : p n = true
    · rw [if_pos c, Nat.testBit_or, ih, Nat.testBit_two_pow]
      by_cases d : n = i
      · subst d; simp [c]
      · simp only [d, decide_false, Bool.or_false]
        by_cases e : i < n
        · simp [e, show i < n + 1 by omega]
        · simp [e, show ¬ i < n + 1 by omega]
    · rw [if_neg c, ih]
      by_cases d : n = i
      · subst d; simp at c; simp [c]
      · by_cases e : i < n
        · simp [e, show i < n + 1 by omega]
        · simp [e, show ¬ i < n + 1 by omega]
/-- how many sets of those below n fit -/
def cntB (p : Nat → Bool) : Nat → Nat
  | 0 => 0
  | n + 1 => if p n then cntB p n + 1 else cntB p n
theorem cntB_le {p : Nat → Bool} : ∀ n : Nat, cntB p n ≤ n
  | 0 => Nat.le_refl _
  | n + 1 => by
    have := cntB_le (p := p) n
    rw [cntB]
    by_cases c : p n = true
    · rw [if_pos c]; omega
    · rw [if_neg c]; omega
theorem pcs_FB {p : Nat → Bool} {n : Nat} : ∀ m : Nat, m ≤ n → pcs (FB p n) m = cntB p m
  | 0, _ => rfl
  | m + 1, h => by
    have ih := pcs_FB (p := p) (n := n) m (by omega)
    have b := FB_bit (p := p) n m
    rw [Nat.testBit_eq_decide_div_mod_eq] at b
    rw [pcs, cntB, ih]
    by_cases c : p m = true
    · rw [if_pos c]
      rw [c, decide_eq_true (show m < n by omega)] at b
      have := of_decide_eq_true b
      omega
    · rw [if_neg c]
      have c' : p m = false := by simpa using c
      rw [c', Bool.and_false] at b
      have := of_decide_eq_false b
      omega
theorem pcs_hi {x n : Nat} (hx : x < 2 ^ n) : ∀ d : Nat, pcs x (n + d) = pcs x n
  | 0 => rfl
  | d + 1 => by
    have h2 : 2 ^ n ≤ 2 ^ (n + d) := Nat.pow_le_pow_right (by decide) (by omega)
    rw [← Nat.add_assoc, pcs, pcs_hi hx d, Nat.div_eq_of_lt (by omega)]
    rfl
theorem bitCount_FB {p : Nat → Bool} {n : Nat} (hn : n ≤ 16) : PJ6_bitCount_0f7a4 (nI (FB p n)) = nI (cntB p n) := by
  have h := FB_lt (p := p) n
  have h2 : 2 ^ n ≤ 2 ^ 16 := Nat.pow_le_pow_right (by decide) hn
  obtain ⟨d, hd⟩ : ∃ d, 16 = n + d := ⟨16 - n, by omega⟩
  rw [bitCount_eq (by omega), pcJ_eq (by omega), hd, pcs_hi h, pcs_FB n (Nat.le_refl _)]
end F13
end
section
/-! words of which nobody is sure: the throne by a set of slips -/
section F14
/-- the worths by the set s of slips, the first j of them done -/
def SW (uw uo : Nat → Int32) (s : Nat) (W : Nat → Int32) : Nat → Nat → Int32
  | 0 => W
  | j + 1 => if s.testBit j then upd (SW uw uo s W j) (uw j).toNatClampNeg (uo j) else SW uw uo s W j
section WQ
variable {N : Nat} {words unsures slips throne said unit : Int32} {kind parts pn wt tw uw uo r told W W' o Q ws steps below above : Nat → Int32}
theorem SW_in {U s : Nat} (hU : U ≤ 4) (hu : ∀ j : Nat, j < U → 0 ≤ (uo j).toInt ∧ (uo j).toInt ≤ 99) (hW : ∀ k : Nat, k < N → kind k = 0 → 0 ≤ (W k).toInt ∧ (W k).toInt ≤ 99) : ∀ j : Nat, j ≤ U → ∀ k : Nat, k < N → kind k = 0 → 0 ≤ (SW uw uo s W j k).toInt ∧ (SW uw uo s W j k).toInt ≤ 99
  | 0, _, k, hk, h0 => hW k hk h0
  | j + 1, hj, k, hk, h0 => by
    have ih := SW_in (s := s) hU hu hW j (by omega) k hk h0
    rw [SW]
    by_cases c : s.testBit j = true
    · rw [if_pos c]
      by_cases d : k = (uw j).toNatClampNeg
      · rw [d, upd_at]; exact hu j (by omega)
      · rw [upd_ne d]; exact ih
    · rw [if_neg c]; exact ih
theorem StR.wr {w o s : Nat → Int32} (h : StR N parts pn w o s) (hN : N ≤ 18) (hp : ∀ k : Nat, k < N → (parts k).toInt ≤ 4) {d : Nat} (hd : d < 18) (v : Int32) : StR N parts pn (upd w d v) o (upd s (72 + d) v) := by
  intro k' hk'
  obtain ⟨h1, h2, h3⟩ := h k' hk'
  have q4 := hp k' hk'
  refine ⟨?_, fun i hi => ?_, h3⟩
  · by_cases c : k' = d
    · rw [c, upd_at, upd_at]
    · rw [upd_ne c, upd_ne (by omega)]; exact h1
  · rw [upd_ne (show ¬ 4 * k' + i = 72 + d by omega)]
    exact h2 i hi
theorem two_nI : ∀ j : Nat, j < 5 → (2 : Int32) * nI j = nI (2 * j) := by decide
/-- the reference lays the slips -/
theorem sl_loop (hC : CR N words unsures slips throne said kind parts pn wt tw uw uo r told) (hR : ROk r) {U s : Nat} (hU : U ≤ 4) (hu : unsures = nI U) (hs : s < 16) : ∀ (m j f : Nat) (G : Nat → Int32), U - j = m → j ≤ U → m < f → StR N parts pn (SW uw uo s W j) o G → ∃ Q' : Nat → Int32, HX7_slipBy_0 r (nI s) f (nI j) G = Q' ∧ StR N parts pn (SW uw uo s W U) o Q' := by
  obtain ⟨hN0, hN, -⟩ := hC.N
  have h3 : r 3 = nI U := hC.2.2.2.2.1.trans hu
  obtain ⟨Q0, hQ4, hQ0, hUR⟩ := hC.2.2.2.2.2.2.2.2.2.2.1
  obtain rfl : U = Q0 := (nI_eq (by omega) (by omega)).mp (hu.symm.trans hQ0)
  intro m
  induction m with
  | zero =>
    intro j f G hm hj hf hS
    obtain ⟨f, rfl⟩ : ∃ g, f = g + 1 := ⟨f - 1, by omega⟩
    obtain rfl : j = U := by omega
    refine ⟨G, ?_, hS⟩
    rw [HX7_slipBy_0_eq, lt_ap, three_cl, h3, if_pos (nI_le (Nat.le_refl _) (by omega))]
  | succ m ih =>
    intro j f G hm hj hf hS
    obtain ⟨f, rfl⟩ : ∃ g, f = g + 1 := ⟨f - 1, by omega⟩
    have hjU : j < U := by omega
    obtain ⟨u1, u2⟩ := hUR j hjU
    have hd := hR.dnode j (by omega)
    rw [HX7_slipBy_0_eq, lt_ap, three_cl, h3, if_neg (show ¬ nI U ≤ nI j by rw [nI_leI (by omega) (by omega)]; omega)]
    simp only [lt_ap]
    rw [hasBit_eq (by omega) (by omega), nI_o1]
    by_cases c : s.testBit j = true
    · rw [if_pos c, if_neg (show ¬ (1 : Int32) = 0 by decide)]
      obtain ⟨d, hd1, hd2⟩ : ∃ d : Nat, d < 18 ∧ uw j = nI d := ⟨(uw j).toInt.toNat, by rw [u1]; omega, by rw [fz_eq, nI_toInt (by rw [u1]; omega), u1]; omega⟩
      rw [two_nI j (by omega), show (117 : Int32) + nI (2 * j) = nI (117 + 2 * j) from nI_add 117 _, nI_clamp (show 117 + 2 * j < 2 ^ 31 by omega), ← u1, show nI (117 + 2 * j) + (1 : Int32) = nI (118 + 2 * j) by rw [show (1 : Int32) = nI 1 by decide, nI_add]; congr 1; omega, nI_clamp (show 118 + 2 * j < 2 ^ 31 by omega), ← u2, hd2, show (72 : Int32) + nI d = nI (72 + d) from nI_add 72 d, nI_clamp (show 72 + d < 2 ^ 31 by omega)]
      refine ih (j + 1) f _ (by omega) (by omega) (by omega) ?_
      rw [SW, if_pos c, hd2, nI_clamp (by omega)]
      exact hS.wr hN hC.p4 hd1 _
    · rw [if_neg c, if_pos rfl]
      refine ih (j + 1) f G (by omega) (by omega) (by omega) ?_
      rw [SW, if_neg c]; exact hS
/-- the class lays them and weighs -/
theorem su_loop (hC : CR N words unsures slips throne said kind parts pn wt tw uw uo r told) (hI : CI N unit kind parts pn wt ws steps below above) (hR : ROk r) {U s t : Nat} (hU : U ≤ 4) (hu : ∀ j : Nat, j < U → 0 ≤ (uo j).toInt ∧ (uo j).toInt ≤ 99) (hd : ∀ j : Nat, j < U → (uw j).toNatClampNeg < 18) (hW : ∀ k : Nat, k < N → kind k = 0 → 0 ≤ (W k).toInt ∧ (W k).toInt ≤ 99) (hs : s < 16) {un : Int32} (hun : 1 ≤ un.toInt ∧ un.toInt ≤ 1296) (hth : throne = nI t) (ht : t < N) (V : Nat → Int32) : ∀ (m j f : Nat) (G : Nat → Int32), U - j = m → j ≤ U → m < f → (∀ k : Nat, k < 18 → G k = SW uw uo s W j k) → ∃ L' G' : Nat → Int32, HX4_throneByUnsure_0 V (nI N) (nI U) throne un kind parts pn wt ws uw uo (nI s) f (nI j) G = (VV un kind parts pn wt ws (SW uw uo s W U) 18 t, L', G') := by
  have hN := hI.1
  intro m
  induction m with
  | zero =>
    intro j f G hm hj hf hG
    obtain ⟨f, rfl⟩ : ∃ g, f = g + 1 := ⟨f - 1, by omega⟩
    obtain rfl : j = U := by omega
    have hSW := SW_in (uw := uw) (s := s) hU hu hW j (Nat.le_refl _)
    obtain ⟨L', e, -⟩ := weighV hC hI hR (W := G) (fun k hk h0 => by rw [hG k (by omega)]; exact hSW k hk h0) hun hth ht V
    refine ⟨L', G, ?_⟩
    rw [HX4_throneByUnsure_0_eq, if_pos (nI_le (Nat.le_refl _) (by omega)), un2_eq e, VV_congr hI (fun k hk _ => hG k (by omega)) 18 t ht]
  | succ m ih =>
    intro j f G hm hj hf hG
    obtain ⟨f, rfl⟩ : ∃ g, f = g + 1 := ⟨f - 1, by omega⟩
    have hjU : j < U := by omega
    rw [HX4_throneByUnsure_0_eq, if_neg (show ¬ nI U ≤ nI j by rw [nI_leI (by omega) (by omega)]; omega)]
    simp only [lt_ap]
    rw [nI_o1, nI_clamp (show j < 2 ^ 31 by omega)]
    by_cases c : s.testBit j = true
    · rw [if_pos ((bt_one (by omega) (by omega)).mpr c)]
      refine ih (j + 1) f _ (by omega) (by omega) (by omega) (fun k hk => ?_)
      rw [SW, if_pos c]
      by_cases d : k = (uw j).toNatClampNeg
      · rw [d, upd_at, upd_at]
      · rw [upd_ne d, upd_ne d]; exact hG k hk
    · rw [if_neg (fun h => c ((bt_one (by omega) (by omega)).mp h))]
      refine ih (j + 1) f G (by omega) (by omega) (by omega) (fun k hk => ?_)
      rw [SW, if_neg c]; exact hG k hk
/-- the throne by the set s of slips -/
def TU (un : Int32) (kind parts pn wt ws uw uo W : Nat → Int32) (U t s : Nat) : Int32 := VV un kind parts pn wt ws (SW uw uo s W U) 18 t
theorem tu6 (hC : CR N words unsures slips throne said kind parts pn wt tw uw uo r told) (hI : CI N unit kind parts pn wt ws steps below above) (hR : ROk r) {U s t : Nat} (hU : U ≤ 4) (hu : ∀ j : Nat, j < U → 0 ≤ (uo j).toInt ∧ (uo j).toInt ≤ 99) (hd : ∀ j : Nat, j < U → (uw j).toNatClampNeg < 18) (hW : ∀ k : Nat, k < N → kind k = 0 → 0 ≤ (W k).toInt ∧ (W k).toInt ≤ 99) (hs : s < 16) {un : Int32} (hun : 1 ≤ un.toInt ∧ un.toInt ≤ 1296) (hth : throne = nI t) (ht : t < N) (V S : Nat → Int32) : ∃ L' G' : Nat → Int32, PX4_throneByUnsure V S (nI N) (nI U) throne un kind parts pn wt ws uw uo W (nI s) = (TU un kind parts pn wt ws uw uo W U t s, L', G') := by
  rw [PX4_throneByUnsure_eq, lt_ap, ← nI_0]
  refine su_loop hC hI hR hU hu hd hW hs hun hth ht V U 0 _ _ rfl (by omega) (by rw [nI_0, kc_0]; omega) (fun k hk => ?_)
  unfold va_cpy
  rw [SW]
  simp only [Nat.zero_add, Nat.zero_le, true_and, Nat.sub_zero]
  rw [if_pos hk]
theorem cpF90 {f g : Nat → Int32} {q : Nat} (hq : q < 90) : cpF f g (0 : Int32).toNatClampNeg (0 : Int32).toNatClampNeg (90 : Int32).toNatClampNeg q = f q := by
  unfold cpF
  rw [show (0 : Int32).toNatClampNeg = 0 by decide, show (90 : Int32).toNatClampNeg = 90 by decide, if_pos (by omega)]
  congr 1
  omega
theorem tu7 (hC : CR N words unsures slips throne said kind parts pn wt tw uw uo r told) (hR : ROk r) {U s : Nat} (hU : U ≤ 4) (hu : unsures = nI U) (hs : s < 16) (hS : StR N parts pn W o Q) (T : Nat → Int32) : ∃ Q' : Nat → Int32, PX7_slipBy r T Q (nI s) = Q' ∧ StR N parts pn (SW uw uo s W U) o Q' := by
  obtain ⟨hN0, hN, -⟩ := hC.N
  rw [PX7_slipBy_eq, lt_ap, ← nI_0]
  refine sl_loop hC hR hU hu hs U 0 _ _ rfl (by omega) (by rw [nI_0, kc_0]; omega) ?_
  rw [SW]
  exact hS.congr hN hC.p4 (fun _ _ => rfl) (fun _ _ => rfl) (fun q hq => cpF90 hq)
end WQ
end F14
end
section
/-! words of which nobody is sure: the sets that fit -/
section F15
def orB (p : Nat → Bool) : Nat → Nat
  | 0 => 0
  | n + 1 => if p n then orB p n ||| n else orB p n
def anB (p : Nat → Bool) (a : Nat) : Nat → Nat
  | 0 => a
  | n + 1 => if p n then anB p a n &&& n else anB p a n
def ofB (p : Nat → Bool) (j : Nat) : Nat → Nat
  | 0 => 0
  | n + 1 => if p n && n.testBit j then ofB p j n + 1 else ofB p j n
def atB (p : Nat → Bool) (i : Int32) : Nat → Int32
  | 0 => -1
  | n + 1 => if p n = true ∧ nI (cntB p n) = i then nI n else atB p i n
theorem orB_lt {p : Nat → Bool} : ∀ n : Nat, n ≤ 16 → orB p n < 16
  | 0, _ => by show 0 < 16; decide
  | n + 1, h => by
    have ih := orB_lt (p := p) n (by omega)
    rw [orB]
    by_cases c : p n = true
    · rw [if_pos c]; exact Nat.or_lt_two_pow (n := 4) ih (by omega)
    · rw [if_neg c]; exact ih
theorem anB_le {p : Nat → Bool} {a : Nat} : ∀ n : Nat, anB p a n ≤ a
  | 0 => Nat.le_refl _
  | n + 1 => by
    have ih := anB_le (p := p) (a := a) n
    rw [anB]
    by_cases c : p n = true
    · rw [if_pos c]; exact Nat.le_trans Nat.and_le_left ih
    · rw [if_neg c]; exact ih
theorem ofB_le {p : Nat → Bool} {j : Nat} : ∀ n : Nat, ofB p j n ≤ cntB p n
  | 0 => Nat.le_refl _
  | n + 1 => by
    have ih := ofB_le (p := p) (j := j) n
    rw [ofB, cntB]
    by_cases c : p n = true
    · rw [if_pos c, c, Bool.true_and]
      by_cases d : n.testBit j = true
      · rw [if_pos d]; omega
      · rw [if_neg d]; omega
    · rw [if_neg c, Bool.eq_false_iff.mpr c, Bool.false_and, if_neg (by decide)]; exact ih
theorem u16 {U : Nat} (hU : U ≤ 4) : 1 ≤ 2 ^ U ∧ 2 ^ U ≤ 16 := by
  have h := Nat.pow_le_pow_right (n := 2) (by decide) hU
  exact ⟨Nat.two_pow_pos U, h⟩
theorem us_eq {U : Nat} (hU : U ≤ 4) : PX1_unsureSets (nI U) = nI (2 ^ U) := by
  rw [PX1_unsureSets_eq, lt_ap, bt_shl U (by omega)]
section WQ
variable {N : Nat} {words unsures slips throne said unit : Int32} {kind parts pn wt tw uw uo r told W W' o Q ws steps below above : Nat → Int32}
/-- whether the set s of slips fits what was said -/
def FT (said unit : Int32) (kind parts pn wt ws uw uo tw : Nat → Int32) (U t s : Nat) : Bool := decide (said.toInt < 0 ∨ TU unit kind parts pn wt ws uw uo tw U t s / unit = said)
theorem FT_n {U t s : Nat} (h : said.toInt < 0) : FT said unit kind parts pn wt ws uw uo tw U t s = true := decide_eq_true (Or.inl h)
theorem FT_s {U t s : Nat} (h : ¬ said.toInt < 0) : FT said unit kind parts pn wt ws uw uo tw U t s = decide (TU unit kind parts pn wt ws uw uo tw U t s / unit = said) := by
  unfold FT
  by_cases c : TU unit kind parts pn wt ws uw uo tw U t s / unit = said
  · rw [decide_eq_true c, decide_eq_true (Or.inr c)]
  · rw [decide_eq_false c, decide_eq_false (fun q => q.elim h c)]
theorem df_eq (hC : CR N words unsures slips throne said kind parts pn wt tw uw uo r told) (hI : CI N unit kind parts pn wt ws steps below above) (hR : ROk r) {U s t : Nat} (hU : U ≤ 4) (hu : unsures = nI U) (hs : s < 16) (hth : r 6 = nI t) (ht : t < N) (hun : 1 ≤ unit.toInt ∧ unit.toInt ≤ 1296) (T : Nat → Int32) : ∃ Q' : Nat → Int32, PX7_doesFit r told unit (-1) T (nI s) = (if FT said unit kind parts pn wt ws uw uo tw U t s then 1 else 0, Q') := by
  obtain ⟨hN0, hN, -⟩ := hC.N
  have hS : StR N parts pn tw (fun q => nI (q % 4)) told := StR_told hC (fun _ _ => rfl) (fun j i _ hi => by show nI ((4 * j + i) % 4) = nI i; congr 1; omega) (fun _ _ => rfl)
  obtain ⟨Q', e, hQ'⟩ := tu7 hC hR hU hu hs hS T
  have r4 : (r 4).toInt = said.toInt + 1 := hC.2.2.2.2.2.2.2.1
  have rs := hC.2.2.2.2.2.2.2.2.2.1
  refine ⟨Q', ?_⟩
  rw [PX7_doesFit_eq, e]
  simp only [lt_ap]
  rw [four_cl]
  by_cases c : said.toInt < 0
  · rw [if_pos (show r 4 = 0 by rw [fz_eq, r4, kc_0]; omega), FT_n c, if_pos rfl]
  · have e1 : r 4 - 1 = said := by rw [fz_eq, fb_subI (by rw [r4, kc_1]; omega) (by rw [r4, kc_1]; omega), r4, kc_1]; omega
    rw [if_neg (show ¬ r 4 = 0 by rw [fz_eq, r4, kc_0]; omega), e1, tv_eq hC hQ' hI hR ht hth, FT_s c]
    show (if TU unit kind parts pn wt ws uw uo tw U t s / unit = said then ((1 : Int32), Q') else (0, Q')) = _
    by_cases d : TU unit kind parts pn wt ws uw uo tw U t s / unit = said
    · rw [if_pos d, decide_eq_true d, if_pos rfl]
    · rw [if_neg d, decide_eq_false d, if_neg (by decide)]
theorem fs_loop (hC : CR N words unsures slips throne said kind parts pn wt tw uw uo r told) (hI : CI N unit kind parts pn wt ws steps below above) (hR : ROk r) {U t : Nat} (hU : U ≤ 4) (hu : ∀ j : Nat, j < U → 0 ≤ (uo j).toInt ∧ (uo j).toInt ≤ 99) (hd : ∀ j : Nat, j < U → (uw j).toNatClampNeg < 18) (hW : ∀ k : Nat, k < N → kind k = 0 → 0 ≤ (tw k).toInt ∧ (tw k).toInt ≤ 99) (hun : 1 ≤ unit.toInt ∧ unit.toInt ≤ 1296) (hth : throne = nI t) (ht : t < N) : ∀ (m s f : Nat) (V S : Nat → Int32), 2 ^ U - s = m → s ≤ 2 ^ U → m < f → ∃ L' G' : Nat → Int32, HX6_fittingSets_0 (nI N) (nI U) throne said unit kind parts pn wt ws tw uw uo f (nI s) (nI (FB (FT said unit kind parts pn wt ws uw uo tw U t) s)) V S = (nI (FB (FT said unit kind parts pn wt ws uw uo tw U t) (2 ^ U)), L', G') := by
  have h16 := u16 hU
  intro m
  induction m with
  | zero =>
    intro s f V S hm hs hf
    obtain ⟨f, rfl⟩ : ∃ g, f = g + 1 := ⟨f - 1, by omega⟩
    obtain rfl : s = 2 ^ U := by omega
    exact ⟨V, S, by rw [HX6_fittingSets_0_eq, lt_ap, us_eq hU, if_pos (nI_le (Nat.le_refl _) (by omega))]⟩
  | succ m ih =>
    intro s f V S hm hs hf
    obtain ⟨f, rfl⟩ : ∃ g, f = g + 1 := ⟨f - 1, by omega⟩
    obtain ⟨L', G', e⟩ := tu6 hC hI hR hU hu hd hW (show s < 16 by omega) hun hth ht V S
    rw [HX6_fittingSets_0_eq, lt_ap, us_eq hU, if_neg (show ¬ nI (2 ^ U) ≤ nI s by rw [nI_leI (by omega) (by omega)]; omega), un3_eq e]
    simp only [lt_ap]
    rw [bt_shl s (by omega), bt_or, nI_o1]
    have hn := ih (s + 1) f L' G' (by omega) (by omega) (by omega)
    by_cases c : said.toInt < 0
    · rw [if_pos (show said < 0 by rw [fz_lt, kc_0]; exact c)]
      rw [FB, if_pos (FT_n c)] at hn
      exact hn
    · rw [if_neg (show ¬ said < 0 by rw [fz_lt, kc_0]; exact c), PX6_wholeOf_eq, lt_ap, if_neg (show ¬ unit ≤ 0 by rw [fz_le, kc_0]; omega)]
      by_cases d : TU unit kind parts pn wt ws uw uo tw U t s / unit = said
      · rw [if_pos d]
        rw [FB, if_pos (by rw [FT_s c]; exact decide_eq_true d)] at hn
        exact hn
      · rw [if_neg d]
        rw [FB, if_neg (by rw [FT_s c]; exact fun q => d (of_decide_eq_true q))] at hn
        exact hn
end WQ
end F15
end
section
/-! words of which nobody is sure: the reference tries all sets, the class asks the set of those that fit -/
section F16
section WQ
variable {N : Nat} {words unsures slips throne said unit : Int32} {kind parts pn wt tw uw uo r told W W' o Q ws steps below above : Nat → Int32}
theorem os2 {U : Nat} (h3 : r 3 = nI U) (hU : U ≤ 4) {s : Nat} (hs : s < 16) {F : Nat → Int32} {x1 x2 x3 : Int32} {K : Int32 → Int32 → Int32 → Int32 → Int32 → (Nat → Int32) → (Nat → Int32) → Int32 × Int32 × Int32 × Int32 × (Nat → Int32) × (Nat → Int32)} {c : Nat → Nat} (hc : ∀ i : Nat, c i < 1000) : ∀ (m j f : Nat) (O : Nat → Int32), U - j = m → j ≤ U → m < f → (∀ i : Nat, i < j → O i = nI (if s.testBit i then c i + 1 else c i)) → (∀ i : Nat, j ≤ i → i < U → O i = nI (c i)) → ∃ O' : Nat → Int32, HX7_seekSets_2 r (nI s) F x1 x2 x3 K f (nI j) O = K (nI (s + 1)) (nI s) x1 x2 x3 F O' ∧ ∀ i : Nat, i < U → O' i = nI (if s.testBit i then c i + 1 else c i) := by
  intro m
  induction m with
  | zero =>
    intro j f O hm hj hf h1 h2
    obtain ⟨f, rfl⟩ : ∃ g, f = g + 1 := ⟨f - 1, by omega⟩
    obtain rfl : j = U := by omega
    refine ⟨O, ?_, h1⟩
    rw [HX7_seekSets_2_eq, lt_ap, three_cl, h3, if_pos (nI_le (Nat.le_refl _) (by omega)), lt_ap, nI_o1]
  | succ m ih =>
    intro j f O hm hj hf h1 h2
    obtain ⟨f, rfl⟩ : ∃ g, f = g + 1 := ⟨f - 1, by omega⟩
    rw [HX7_seekSets_2_eq, lt_ap, three_cl, h3, if_neg (show ¬ nI U ≤ nI j by rw [nI_leI (by omega) (by omega)]; omega)]
    simp only [lt_ap]
    rw [nI_clamp (show j < 2 ^ 31 by omega), bt_at (by omega) (by omega), h2 j (Nat.le_refl _) (by omega), nI_o1]
    have hv : nI (c j) + (if s.testBit j then (1 : Int32) else 0) = nI (if s.testBit j then c j + 1 else c j) := by
      by_cases d : s.testBit j = true
      · rw [if_pos d, if_pos d, show (1 : Int32) = nI 1 by decide, nI_add]
      · rw [if_neg d, if_neg d, show (0 : Int32) = nI 0 by decide, nI_add, Nat.add_zero]
    rw [hv]
    refine ih (j + 1) f _ (by omega) (by omega) (by omega) (fun i hi => ?_) (fun i h4 h5 => ?_)
    · by_cases d : i = j
      · rw [d, upd_at]
      · rw [upd_ne d]; exact h1 i (by omega)
    · rw [upd_ne (by omega)]; exact h2 i (by omega) h5
theorem os3 {U : Nat} (h3 : r 3 = nI U) (hU : U ≤ 4) {s : Nat} (hs : s < 16) {F : Nat → Int32} {a x1 x2 x3 : Int32} {K : Int32 → Int32 → Int32 → Int32 → Int32 → (Nat → Int32) → (Nat → Int32) → Int32 × Int32 × Int32 × Int32 × (Nat → Int32) × (Nat → Int32)} {c : Nat → Nat} (hc : ∀ i : Nat, c i < 1000) : ∀ (m j f : Nat) (O : Nat → Int32), U - j = m → j ≤ U → m < f → (∀ i : Nat, i < j → O i = nI (if s.testBit i then c i + 1 else c i)) → (∀ i : Nat, j ≤ i → i < U → O i = nI (c i)) → ∃ O' : Nat → Int32, HX7_seekSets_3 r (nI s) a F x1 x2 x3 K f (nI j) O = K (nI (s + 1)) a x1 x2 x3 F O' ∧ ∀ i : Nat, i < U → O' i = nI (if s.testBit i then c i + 1 else c i) := by
  intro m
  induction m with
  | zero =>
    intro j f O hm hj hf h1 h2
    obtain ⟨f, rfl⟩ : ∃ g, f = g + 1 := ⟨f - 1, by omega⟩
    obtain rfl : j = U := by omega
    refine ⟨O, ?_, h1⟩
    rw [HX7_seekSets_3_eq, lt_ap, three_cl, h3, if_pos (nI_le (Nat.le_refl _) (by omega)), lt_ap, nI_o1]
  | succ m ih =>
    intro j f O hm hj hf h1 h2
    obtain ⟨f, rfl⟩ : ∃ g, f = g + 1 := ⟨f - 1, by omega⟩
    rw [HX7_seekSets_3_eq, lt_ap, three_cl, h3, if_neg (show ¬ nI U ≤ nI j by rw [nI_leI (by omega) (by omega)]; omega)]
    simp only [lt_ap]
    rw [nI_clamp (show j < 2 ^ 31 by omega), bt_at (by omega) (by omega), h2 j (Nat.le_refl _) (by omega), nI_o1]
    have hv : nI (c j) + (if s.testBit j then (1 : Int32) else 0) = nI (if s.testBit j then c j + 1 else c j) := by
      by_cases d : s.testBit j = true
      · rw [if_pos d, if_pos d, show (1 : Int32) = nI 1 by decide, nI_add]
      · rw [if_neg d, if_neg d, show (0 : Int32) = nI 0 by decide, nI_add, Nat.add_zero]
    rw [hv]
    refine ih (j + 1) f _ (by omega) (by omega) (by omega) (fun i hi => ?_) (fun i h4 h5 => ?_)
    · by_cases d : i = j
      · rw [d, upd_at]
      · rw [upd_ne d]; exact h1 i (by omega)
    · rw [upd_ne (by omega)]; exact h2 i (by omega) h5
theorem sk_loop (hC : CR N words unsures slips throne said kind parts pn wt tw uw uo r told) (hI : CI N unit kind parts pn wt ws steps below above) (hR : ROk r) {U t : Nat} (hU : U ≤ 4) (hu : unsures = nI U) (hth : r 6 = nI t) (ht : t < N) (hun : 1 ≤ unit.toInt ∧ unit.toInt ≤ 1296) {p0 : Int32} {p : Nat → Bool} (hp : p = FT said unit kind parts pn wt ws uw uo tw U t) : ∀ (m s f : Nat) (T O : Nat → Int32), 2 ^ U - s = m → s ≤ 2 ^ U → m < f → (∀ j : Nat, j < U → O j = nI (ofB p j s)) → ∃ T' O' : Nat → Int32, HX7_seekSets_1 r told unit (-1) p0 f (nI s) (atB p p0 s) (nI (cntB p s)) (nI (orB p s)) (nI (anB p (2 ^ U - 1) s)) T O = (atB p p0 (2 ^ U), nI (cntB p (2 ^ U)), nI (orB p (2 ^ U)), nI (if cntB p (2 ^ U) = 0 then 0 else anB p (2 ^ U - 1) (2 ^ U)), T', O') ∧ ∀ j : Nat, j < U → O' j = nI (ofB p j (2 ^ U)) := by
  have h16 := u16 hU
  have h3 : r 3 = nI U := hC.2.2.2.2.1.trans hu
  intro m
  induction m with
  | zero =>
    intro s f T O hm hs hf hO
    obtain ⟨f, rfl⟩ : ∃ g, f = g + 1 := ⟨f - 1, by omega⟩
    obtain rfl : s = 2 ^ U := by omega
    have hcn := cntB_le (p := p) (2 ^ U)
    refine ⟨T, O, ?_, hO⟩
    rw [HX7_seekSets_1_eq]
    simp only [lt_ap]
    rw [three_cl, h3, bt_shl U (by omega), if_pos (nI_le (Nat.le_refl _) (by omega))]
    by_cases c : cntB p (2 ^ U) = 0
    · rw [if_pos (show nI (cntB p (2 ^ U)) = 0 by rw [c]; exact nI_0), if_pos c, ← nI_0]
    · rw [if_neg (show ¬ nI (cntB p (2 ^ U)) = 0 by rw [← nI_0, nI_eq (by omega) (by omega)]; exact c), if_neg c]
  | succ m ih =>
    intro s f T O hm hs hf hO
    obtain ⟨f, rfl⟩ : ∃ g, f = g + 1 := ⟨f - 1, by omega⟩
    obtain ⟨F, e⟩ := df_eq hC hI hR hU hu (show s < 16 by omega) hth ht hun T
    rw [← hp] at e
    rw [HX7_seekSets_1_eq]
    simp only [lt_ap]
    rw [three_cl, h3, bt_shl U (by omega), if_neg (show ¬ nI (2 ^ U) ≤ nI s by rw [nI_leI (by omega) (by omega)]; omega), un2_eq e, nI_o1]
    have hcn := cntB_le (p := p) s
    by_cases c : p s = true
    · rw [if_pos c, if_neg (show ¬ (1 : Int32) = 0 by decide), bt_or, bt_and, show nI (cntB p s) + (1 : Int32) = nI (cntB p s + 1) by rw [show (1 : Int32) = nI 1 by decide, nI_add]]
      have hc : ∀ i : Nat, ofB p i s < 1000 := fun i => by have := ofB_le (p := p) (j := i) s; omega
      have e1 : cntB p (s + 1) = cntB p s + 1 := by rw [cntB, if_pos c]
      have e2 : orB p (s + 1) = orB p s ||| s := by rw [orB, if_pos c]
      have e3 : anB p (2 ^ U - 1) (s + 1) = anB p (2 ^ U - 1) s &&& s := by rw [anB, if_pos c]
      have e4 : ∀ j : Nat, ofB p j (s + 1) = if s.testBit j then ofB p j s + 1 else ofB p j s := fun j => by rw [ofB, c, Bool.true_and]
      by_cases d : nI (cntB p s) = p0
      · rw [if_pos d, ← nI_0]
        obtain ⟨O', g1, g2⟩ := os2 h3 hU (show s < 16 by omega) (F := F) (x1 := nI (cntB p s + 1)) (x2 := nI (orB p s ||| s)) (x3 := nI (anB p (2 ^ U - 1) s &&& s)) (K := fun z_9408 z_9409 z_9410 z_9411 z_9412 f_9413 f_9414 => HX7_seekSets_1 r told unit (-1) p0 f z_9408 z_9409 z_9410 z_9411 z_9412 f_9413 f_9414) hc U 0 (((2147483647 - (nI 0).toInt).toNat) + 1) O rfl (by omega) (by rw [nI_0, kc_0]; omega) (fun i hi => absurd hi (by omega)) (fun i _ hi => hO i hi)
        rw [g1]
        have hn := ih (s + 1) f F O' (by omega) (by omega) (by omega) (fun j hj => by rw [g2 j hj, e4 j])
        rw [atB, if_pos ⟨c, d⟩, e1, e2, e3] at hn
        exact hn
      · rw [if_neg d, ← nI_0]
        obtain ⟨O', g1, g2⟩ := os3 h3 hU (show s < 16 by omega) (F := F) (a := atB p p0 s) (x1 := nI (cntB p s + 1)) (x2 := nI (orB p s ||| s)) (x3 := nI (anB p (2 ^ U - 1) s &&& s)) (K := fun z_9408 z_9409 z_9410 z_9411 z_9412 f_9413 f_9414 => HX7_seekSets_1 r told unit (-1) p0 f z_9408 z_9409 z_9410 z_9411 z_9412 f_9413 f_9414) hc U 0 (((2147483647 - (nI 0).toInt).toNat) + 1) O rfl (by omega) (by rw [nI_0, kc_0]; omega) (fun i hi => absurd hi (by omega)) (fun i _ hi => hO i hi)
        rw [g1]
        have hn := ih (s + 1) f F O' (by omega) (by omega) (by omega) (fun j hj => by rw [g2 j hj, e4 j])
        rw [atB, if_neg (fun q => d q.2), e1, e2, e3] at hn
        exact hn
    · rw [if_neg c, if_pos rfl]
      have hn := ih (s + 1) f F O (by omega) (by omega) (by omega) (fun j hj => by rw [hO j hj, ofB, Bool.eq_false_iff.mpr c, Bool.false_and, if_neg (by decide)])
      rw [atB, if_neg (fun q => c q.1), cntB, if_neg c, orB, if_neg c, anB, if_neg c] at hn
      exact hn
theorem sk0 (r told : Nat → Int32) (un p0 x : Int32) (T : Nat → Int32) : ∀ (m j f : Nat) (O : Nat → Int32), 4 - j = m → j ≤ 4 → m < f → (∀ i : Nat, i < j → O i = 0) → ∃ O' : Nat → Int32, HX7_seekSets_0 r told un (-1) T p0 x f (nI j) O = HX7_seekSets_1 r told un (-1) p0 (((2147483647 - (0 : Int32).toInt).toNat) + 1) 0 (-1) 0 0 x T O' ∧ ∀ i : Nat, i < 4 → O' i = 0 := by
  intro m
  induction m with
  | zero =>
    intro j f O hm hj hf hO
    obtain ⟨f, rfl⟩ : ∃ g, f = g + 1 := ⟨f - 1, by omega⟩
    obtain rfl : j = 4 := by omega
    exact ⟨O, by rw [HX7_seekSets_0_eq, if_pos (show (4 : Int32) ≤ nI 4 by decide)], hO⟩
  | succ m ih =>
    intro j f O hm hj hf hO
    obtain ⟨f, rfl⟩ : ∃ g, f = g + 1 := ⟨f - 1, by omega⟩
    rw [HX7_seekSets_0_eq, if_neg (show ¬ (4 : Int32) ≤ nI j by rw [show (4 : Int32) = nI 4 by decide, nI_leI (by omega) (by omega)]; omega)]
    simp only [lt_ap]
    rw [nI_clamp (show j < 2 ^ 31 by omega), nI_o1]
    refine ih (j + 1) f _ (by omega) (by omega) (by omega) (fun i hi => ?_)
    by_cases d : i = j
    · rw [d, upd_at]
    · rw [upd_ne d]; exact hO i (by omega)
/-- all sets tried by the reference -/
theorem sk_eq (hC : CR N words unsures slips throne said kind parts pn wt tw uw uo r told) (hI : CI N unit kind parts pn wt ws steps below above) (hR : ROk r) {U t : Nat} (hU : U ≤ 4) (hu : unsures = nI U) (hth : r 6 = nI t) (ht : t < N) (hun : 1 ≤ unit.toInt ∧ unit.toInt ≤ 1296) {p : Nat → Bool} (hp : p = FT said unit kind parts pn wt ws uw uo tw U t) (p0 : Int32) (T O : Nat → Int32) : ∃ T' O' : Nat → Int32, PX7_seekSets r told unit (-1) T O p0 = (atB p p0 (2 ^ U), nI (cntB p (2 ^ U)), nI (orB p (2 ^ U)), nI (if cntB p (2 ^ U) = 0 then 0 else anB p (2 ^ U - 1) (2 ^ U)), T', O') ∧ ∀ j : Nat, j < U → O' j = nI (ofB p j (2 ^ U)) := by
  have h16 := u16 hU
  have h3 : r 3 = nI U := hC.2.2.2.2.1.trans hu
  rw [PX7_seekSets_eq]
  simp only [lt_ap]
  rw [three_cl, h3, bt_shl U (by omega), show nI (2 ^ U) - (1 : Int32) = nI (2 ^ U - 1) by rw [show (1 : Int32) = nI 1 by decide, nI_sub' (by omega) (by omega)]]
  obtain ⟨O1, e1, hO1⟩ := sk0 r told unit p0 (nI (2 ^ U - 1)) T 4 0 (((2147483647 - (0 : Int32).toInt).toNat) + 1) O rfl (by omega) (by rw [kc_0]; omega) (fun i hi => absurd hi (by omega))
  rw [nI_0] at e1
  rw [e1]
  obtain ⟨T', O', e2, hO'⟩ := sk_loop hC hI hR hU hu hth ht hun (p0 := p0) hp (2 ^ U) 0 (((2147483647 - (0 : Int32).toInt).toNat) + 1) T O1 rfl (by omega) (by rw [kc_0]; omega) (fun j hj => (hO1 j (by omega)).trans nI_0.symm)
  refine ⟨T', O', ?_, hO'⟩
  rw [← e2]
  show _ = HX7_seekSets_1 r told unit (-1) p0 _ (nI 0) (-1) (nI 0) (nI 0) (nI (2 ^ U - 1)) T O1
  rw [nI_0]
end WQ
end F16
end
section
/-! words of which nobody is sure: what the class asks of the set of those that fit; both sides together -/
section F17
theorem FB_0 {p : Nat → Bool} : ∀ n : Nat, FB p n = 0 ↔ cntB p n = 0
  | 0 => ⟨fun _ => rfl, fun _ => rfl⟩
  | n + 1 => by
    have ih := FB_0 (p := p) n
    by_cases c : p n = true
    · have b := FB_bit (p := p) (n + 1) n
      rw [c, decide_eq_true (show n < n + 1 by omega)] at b
      constructor
      · intro h; rw [h] at b; exact absurd b (by simp)
      · intro h; rw [cntB, if_pos c] at h; exact absurd h (by omega)
    · rw [FB, if_neg c, cntB, if_neg c]; exact ih
theorem FB_31 {p : Nat → Bool} {U : Nat} (hU : U ≤ 4) : FB p (2 ^ U) < 2 ^ 31 := by
  have h16 := u16 hU
  have h := FB_lt (p := p) (2 ^ U)
  have h2 : 2 ^ (2 ^ U) ≤ 2 ^ 16 := Nat.pow_le_pow_right (by decide) h16.2
  omega
theorem FB_at {p : Nat → Bool} {U s : Nat} (hU : U ≤ 4) (hs : s < 2 ^ U) : ((nI (FB p (2 ^ U)) >>> (nI s &&& 31)) &&& 1 = 1) ↔ p s = true := by
  have h16 := u16 hU
  rw [bt_one (FB_31 hU) (by omega), FB_bit, decide_eq_true hs, Bool.true_and]
theorem anB_0 {p : Nat → Bool} (n : Nat) : anB p 0 n = 0 := by have := anB_le (p := p) (a := 0) n; omega
theorem cntB_mono {p : Nat → Bool} {a : Nat} : ∀ d : Nat, cntB p a ≤ cntB p (a + d)
  | 0 => Nat.le_refl _
  | d + 1 => by
    have ih := cntB_mono (p := p) (a := a) d
    rw [← Nat.add_assoc, cntB]
    by_cases c : p (a + d) = true
    · rw [if_pos c]; omega
    · rw [if_neg c]; exact ih
theorem atB_keep {p : Nat → Bool} {i : Int32} {s : Nat} (h1 : p s = true) (h2 : nI (cntB p s) = i) : ∀ d : Nat, s + d < 1000 → atB p i (s + 1 + d) = nI s
  | 0, _ => by rw [Nat.add_zero, atB, if_pos ⟨h1, h2⟩]
  | d + 1, hd => by
    have ih := atB_keep h1 h2 d (by omega)
    have m := cntB_mono (p := p) (a := s + 1) d
    have k := cntB_le (p := p) (s + 1 + d)
    have k2 := cntB_le (p := p) s
    rw [cntB, if_pos h1] at m
    rw [← Nat.add_assoc, atB, if_neg (fun q => by
      have e := (nI_eq (show cntB p (s + 1 + d) < 2 ^ 31 by omega) (by omega)).mp (q.2.trans h2.symm)
      omega)]
    exact ih
theorem atB_lt {p : Nat → Bool} {i : Int32} : ∀ n : Nat, n ≤ 1000 → atB p i n = -1 ∨ ∃ s : Nat, s < n ∧ atB p i n = nI s
  | 0, _ => Or.inl rfl
  | n + 1, h => by
    rw [atB]
    by_cases c : p n = true ∧ nI (cntB p n) = i
    · rw [if_pos c]; exact Or.inr ⟨n, by omega, rfl⟩
    · rw [if_neg c]
      rcases atB_lt (p := p) (i := i) n (by omega) with q | ⟨s, q1, q2⟩
      · exact Or.inl q
      · exact Or.inr ⟨s, by omega, q2⟩
theorem atB_neg {p : Nat → Bool} {i : Int32} (hi : i.toInt < 0) : ∀ n : Nat, n ≤ 1000 → atB p i n = -1
  | 0, _ => rfl
  | n + 1, h => by
    have k := cntB_le (p := p) n
    rw [atB, if_neg (fun q => by
      have e := congrArg Int32.toInt q.2
      rw [nI_toInt (by omega)] at e
      omega)]
    exact atB_neg hi n (by omega)
def LVn (p : Nat → Bool) (j n : Nat) : Nat := if ofB p j n < cntB p n - ofB p j n then cntB p n - ofB p j n else ofB p j n
theorem LVn_le {p : Nat → Bool} {j n : Nat} : LVn p j n ≤ n := by
  have a := cntB_le (p := p) n
  have b := ofB_le (p := p) (j := j) n
  unfold LVn
  by_cases c : ofB p j n < cntB p n - ofB p j n
  · rw [if_pos c]; omega
  · rw [if_neg c]; omega
theorem co_loop {p : Nat → Bool} {U : Nat} (hU : U ≤ 4) {x : Int32} {fL fS : Nat → Int32} : ∀ (m s f : Nat), 2 ^ U - s = m → s ≤ 2 ^ U → m < f → HX6_could_0 (nI U) x fL fS (nI (FB p (2 ^ U))) f (nI s) (nI (orB p s)) = (nI (orB p (2 ^ U)), x, fL, fS) := by
  have h16 := u16 hU
  intro m
  induction m with
  | zero =>
    intro s f hm hs hf
    obtain ⟨f, rfl⟩ : ∃ g, f = g + 1 := ⟨f - 1, by omega⟩
    obtain rfl : s = 2 ^ U := by omega
    rw [HX6_could_0_eq, lt_ap, us_eq hU, if_pos (nI_le (Nat.le_refl _) (by omega))]
  | succ m ih =>
    intro s f hm hs hf
    obtain ⟨f, rfl⟩ : ∃ g, f = g + 1 := ⟨f - 1, by omega⟩
    have hn := ih (s + 1) f (by omega) (by omega) (by omega)
    rw [HX6_could_0_eq, lt_ap, us_eq hU, if_neg (show ¬ nI (2 ^ U) ≤ nI s by rw [nI_leI (by omega) (by omega)]; omega)]
    simp only [lt_ap]
    rw [bt_or, nI_o1]
    by_cases c : p s = true
    · rw [if_pos ((FB_at hU (by omega)).mpr c)]
      rw [orB, if_pos c] at hn; exact hn
    · rw [if_neg (fun q => c ((FB_at hU (by omega)).mp q))]
      rw [orB, if_neg c] at hn; exact hn
theorem su2_loop {p : Nat → Bool} {U a : Nat} (hU : U ≤ 4) {x : Int32} {fL fS : Nat → Int32} : ∀ (m s f : Nat), 2 ^ U - s = m → s ≤ 2 ^ U → m < f → HX6_surely_0 (nI U) x fL fS (nI (FB p (2 ^ U))) f (nI s) (nI (anB p a s)) = (nI (anB p a (2 ^ U)), x, fL, fS) := by
  have h16 := u16 hU
  intro m
  induction m with
  | zero =>
    intro s f hm hs hf
    obtain ⟨f, rfl⟩ : ∃ g, f = g + 1 := ⟨f - 1, by omega⟩
    obtain rfl : s = 2 ^ U := by omega
    rw [HX6_surely_0_eq, lt_ap, us_eq hU, if_pos (nI_le (Nat.le_refl _) (by omega))]
  | succ m ih =>
    intro s f hm hs hf
    obtain ⟨f, rfl⟩ : ∃ g, f = g + 1 := ⟨f - 1, by omega⟩
    have hn := ih (s + 1) f (by omega) (by omega) (by omega)
    rw [HX6_surely_0_eq, lt_ap, us_eq hU, if_neg (show ¬ nI (2 ^ U) ≤ nI s by rw [nI_leI (by omega) (by omega)]; omega)]
    simp only [lt_ap]
    rw [bt_and, nI_o1]
    by_cases c : p s = true
    · rw [if_pos ((FB_at hU (by omega)).mpr c)]
      rw [anB, if_pos c] at hn; exact hn
    · rw [if_neg (fun q => c ((FB_at hU (by omega)).mp q))]
      rw [anB, if_neg c] at hn; exact hn
theorem fa_loop {p : Nat → Bool} {U : Nat} (hU : U ≤ 4) {p0 x : Int32} {fL fS : Nat → Int32} : ∀ (m s f : Nat), 2 ^ U - s = m → s ≤ 2 ^ U → m < f → atB p p0 s = -1 → HX6_fitAt_0 (nI U) p0 x fL fS (nI (FB p (2 ^ U))) f (nI s) (nI (cntB p s)) = if atB p p0 (2 ^ U) = -1 then (-1, 1, fL, fS) else (atB p p0 (2 ^ U), x, fL, fS) := by
  have h16 := u16 hU
  intro m
  induction m with
  | zero =>
    intro s f hm hs hf ha
    obtain ⟨f, rfl⟩ : ∃ g, f = g + 1 := ⟨f - 1, by omega⟩
    obtain rfl : s = 2 ^ U := by omega
    rw [HX6_fitAt_0_eq, lt_ap, us_eq hU, if_pos (nI_le (Nat.le_refl _) (by omega)), PX6_refuse_eq, un2_eq rfl, if_pos ha]
  | succ m ih =>
    intro s f hm hs hf ha
    obtain ⟨f, rfl⟩ : ∃ g, f = g + 1 := ⟨f - 1, by omega⟩
    have hn := ih (s + 1) f (by omega) (by omega) (by omega)
    rw [HX6_fitAt_0_eq, lt_ap, us_eq hU, if_neg (show ¬ nI (2 ^ U) ≤ nI s by rw [nI_leI (by omega) (by omega)]; omega)]
    simp only [lt_ap]
    rw [nI_o1, nI_o1]
    by_cases c : p s = true
    · rw [if_pos ((FB_at hU (by omega)).mpr c)]
      by_cases d : nI (cntB p s) = p0
      · have e := atB_keep c d (2 ^ U - (s + 1)) (by omega)
        rw [show s + 1 + (2 ^ U - (s + 1)) = 2 ^ U by omega] at e
        rw [if_pos d, e, if_neg (nIm1 (by omega))]
      · rw [if_neg d]
        rw [atB, if_neg (fun q => d q.2), cntB, if_pos c] at hn
        exact hn ha
    · rw [if_neg (fun q => c ((FB_at hU (by omega)).mp q))]
      rw [atB, if_neg (fun q => c q.1), cntB, if_neg c] at hn
      exact hn ha
theorem la_loop {p : Nat → Bool} {U j : Nat} (hU : U ≤ 4) (hj : j < U) : ∀ (m s f : Nat), 2 ^ U - s = m → s ≤ 2 ^ U → m < f → HX6_leftAtMost_0 (nI U) (nI (FB p (2 ^ U))) (nI j) f (nI s) (nI (ofB p j s)) = nI (LVn p j (2 ^ U)) := by
  have h16 := u16 hU
  intro m
  induction m with
  | zero =>
    intro s f hm hs hf
    obtain ⟨f, rfl⟩ : ∃ g, f = g + 1 := ⟨f - 1, by omega⟩
    obtain rfl : s = 2 ^ U := by omega
    have a := cntB_le (p := p) (2 ^ U)
    have b := ofB_le (p := p) (j := j) (2 ^ U)
    rw [HX6_leftAtMost_0_eq, lt_ap, us_eq hU, if_pos (nI_le (Nat.le_refl _) (by omega))]
    simp only [lt_ap]
    rw [bitCount_FB h16.2, nI_sub' b (by omega)]
    unfold LVn
    by_cases c : ofB p j (2 ^ U) < cntB p (2 ^ U) - ofB p j (2 ^ U)
    · rw [if_pos (nI_lt c (by omega)), if_pos c]
    · rw [if_neg (nI_nlt (by omega) (by omega)), if_neg c]
  | succ m ih =>
    intro s f hm hs hf
    obtain ⟨f, rfl⟩ : ∃ g, f = g + 1 := ⟨f - 1, by omega⟩
    have hn := ih (s + 1) f (by omega) (by omega) (by omega)
    rw [HX6_leftAtMost_0_eq, lt_ap, us_eq hU, if_neg (show ¬ nI (2 ^ U) ≤ nI s by rw [nI_leI (by omega) (by omega)]; omega)]
    simp only [lt_ap]
    rw [nI_o1, nI_o1]
    by_cases c : p s = true
    · rw [if_pos ((FB_at hU (by omega)).mpr c)]
      rw [ofB, c, Bool.true_and] at hn
      by_cases d : s.testBit j = true
      · rw [if_pos ((bt_one (by omega) (by omega)).mpr d)]
        rw [if_pos d] at hn; exact hn
      · rw [if_neg (fun q => d ((bt_one (by omega) (by omega)).mp q))]
        rw [if_neg d] at hn; exact hn
    · rw [if_neg (fun q => c ((FB_at hU (by omega)).mp q))]
      rw [ofB, Bool.eq_false_iff.mpr c, Bool.false_and, if_neg (by decide)] at hn; exact hn
theorem la_eq {p : Nat → Bool} {U j : Nat} (hU : U ≤ 4) (hj : j < U) : PX6_leftAtMost (nI U) (nI (FB p (2 ^ U))) (nI j) = nI (LVn p j (2 ^ U)) := by
  have h16 := u16 hU
  have e := la_loop (p := p) hU hj (2 ^ U) 0 (((2147483647 - (0 : Int32).toInt).toNat) + 1) rfl (by omega) (by rw [kc_0]; omega)
  rw [PX6_leftAtMost_eq]
  rw [nI_0] at e
  show HX6_leftAtMost_0 _ _ _ _ 0 0 = _
  rw [show ofB p j 0 = 0 from rfl, nI_0] at e
  exact e
theorem lo_eq {p : Nat → Bool} {U j : Nat} {O : Nat → Int32} (hU : U ≤ 4) (hj : j < U) (hO : O j = nI (ofB p j (2 ^ U))) : PX7_leavesOf O (nI (cntB p (2 ^ U))) (nI j) = nI (LVn p j (2 ^ U)) := by
  have h16 := u16 hU
  have a := cntB_le (p := p) (2 ^ U)
  have b := ofB_le (p := p) (j := j) (2 ^ U)
  rw [PX7_leavesOf_eq]
  simp only [lt_ap]
  rw [nI_clamp (show j < 2 ^ 31 by omega), hO, nI_sub' b (by omega)]
  unfold LVn
  by_cases c : ofB p j (2 ^ U) ≤ cntB p (2 ^ U) - ofB p j (2 ^ U)
  · rw [if_pos (nI_le c (by omega))]
    by_cases d : ofB p j (2 ^ U) < cntB p (2 ^ U) - ofB p j (2 ^ U)
    · rw [if_pos d]
    · rw [if_neg d]; congr 1; omega
  · rw [if_neg (show ¬ nI (ofB p j (2 ^ U)) ≤ nI (cntB p (2 ^ U) - ofB p j (2 ^ U)) by rw [nI_leI (by omega) (by omega)]; exact c), if_neg (by omega)]
theorem ua_loop {p : Nat → Bool} {U : Nat} {r : Nat → Int32} (h3 : r 3 = nI U) (hU : U ≤ 4) (hc : ¬ cntB p (2 ^ U) = 0) {x2 x3 : Int32} {T O : Nat → Int32} (hO : ∀ j : Nat, j < U → O j = nI (ofB p j (2 ^ U))) : ∀ (m j f6 f7 : Nat) (c6 w6 c7 : Int32), U - j = m → j ≤ U → m < f6 → m < f7 → ((c6 = -1 ∧ c7 = -2) ∨ ∃ k : Nat, k < U ∧ c6 = nI k ∧ c7 = nI k ∧ w6 = nI (LVn p k (2 ^ U))) → ∃ R6 R7 : Int32, HX6_unsureToAsk_0 (nI U) (nI (FB p (2 ^ U))) f6 (nI j) c6 w6 = R6 ∧ HX7_askedFirst_0 r (nI (cntB p (2 ^ U))) x2 x3 T O f7 (nI j) c7 = (R7, nI (cntB p (2 ^ U)), x2, x3, T, O) ∧ ((R6 = -1 ∧ R7 = -2) ∨ ∃ k : Nat, k < U ∧ R6 = nI k ∧ R7 = nI k) := by
  have h16 := u16 hU
  have hcl := cntB_le (p := p) (2 ^ U)
  have hF : ¬ nI (FB p (2 ^ U)) = 0 := by
    rw [← nI_0, nI_eq (FB_31 hU) (by omega)]
    exact fun q => hc ((FB_0 _).mp q)
  have hC : ¬ nI (cntB p (2 ^ U)) ≤ 0 := nI_nle (by omega) (by omega)
  intro m
  induction m with
  | zero =>
    intro j f6 f7 c6 w6 c7 hm hj h6 h7 hi
    obtain ⟨f6, rfl⟩ : ∃ g, f6 = g + 1 := ⟨f6 - 1, by omega⟩
    obtain ⟨f7, rfl⟩ : ∃ g, f7 = g + 1 := ⟨f7 - 1, by omega⟩
    obtain rfl : j = U := by omega
    refine ⟨c6, c7, ?_, ?_, ?_⟩
    · rw [HX6_unsureToAsk_0_eq, if_neg hF, if_pos (nI_le (Nat.le_refl _) (by omega))]
    · rw [HX7_askedFirst_0_eq, lt_ap, three_cl, h3, if_pos (nI_le (Nat.le_refl _) (by omega))]
    · rcases hi with h | ⟨k, a, b, c, -⟩
      · exact Or.inl h
      · exact Or.inr ⟨k, a, b, c⟩
  | succ m ih =>
    intro j f6 f7 c6 w6 c7 hm hj h6 h7 hi
    obtain ⟨f6, rfl⟩ : ∃ g, f6 = g + 1 := ⟨f6 - 1, by omega⟩
    obtain ⟨f7, rfl⟩ : ∃ g, f7 = g + 1 := ⟨f7 - 1, by omega⟩
    have hjU : j < U := by omega
    have hl := LVn_le (p := p) (j := j) (n := 2 ^ U)
    rw [HX6_unsureToAsk_0_eq, if_neg hF, if_neg (show ¬ nI U ≤ nI j by rw [nI_leI (by omega) (by omega)]; omega), HX7_askedFirst_0_eq, lt_ap (r (3 : Int32).toNatClampNeg), three_cl, h3, if_neg (show ¬ nI U ≤ nI j by rw [nI_leI (by omega) (by omega)]; omega), if_neg hC]
    simp only [lt_ap]
    rw [la_eq hU hjU, lo_eq hU hjU (hO j hjU), nI_o1]
    rcases hi with ⟨rfl, rfl⟩ | ⟨k, a, rfl, rfl, rfl⟩
    · rw [if_pos (show (-1 : Int32) < 0 by decide), if_pos (show (-2 : Int32) < 0 by decide)]
      exact ih (j + 1) f6 f7 _ _ _ (by omega) (by omega) (by omega) (by omega) (Or.inr ⟨j, hjU, rfl, rfl, rfl⟩)
    · have hk := LVn_le (p := p) (j := k) (n := 2 ^ U)
      rw [if_neg (nI_pos (by omega)), if_neg (nI_pos (by omega)), lo_eq hU a (hO k a)]
      by_cases d : nI (LVn p k (2 ^ U)) ≤ nI (LVn p j (2 ^ U))
      · rw [if_pos d, if_pos d]
        exact ih (j + 1) f6 f7 _ _ _ (by omega) (by omega) (by omega) (by omega) (Or.inr ⟨k, a, rfl, rfl, rfl⟩)
      · rw [if_neg d, if_neg d]
        exact ih (j + 1) f6 f7 _ _ _ (by omega) (by omega) (by omega) (by omega) (Or.inr ⟨j, hjU, rfl, rfl, rfl⟩)
end F17
end
section
/-! words of which nobody is sure: fits, fitAt, could, surely, askLeaves on both sides -/
section F18
section WQ
variable {N : Nat} {words unsures slips throne said unit : Int32} {kind parts pn wt tw uw uo r told W W' o Q ws steps below above : Nat → Int32}
theorem us_pre (hC : CR N words unsures slips throne said kind parts pn wt tw uw uo r told) (hX : CI N unit kind parts pn wt ws steps below above) (hR : ROk r) (hsc : 1 ≤ unit.toInt ∧ unit.toInt ≤ 1296) (hT : WorOk told) (hu9 : ∀ j : Nat, j < 4 → 0 ≤ (r (118 + 2 * j)).toInt ∧ (r (118 + 2 * j)).toInt ≤ 99) : ∃ (U t : Nat) (p : Nat → Bool), U ≤ 4 ∧ unsures = nI U ∧ r 3 = nI U ∧ t < N ∧ throne = nI t ∧ r 6 = nI t ∧ (∀ j : Nat, j < U → 0 ≤ (uo j).toInt ∧ (uo j).toInt ≤ 99) ∧ (∀ j : Nat, j < U → (uw j).toNatClampNeg < 18) ∧ (∀ V S : Nat → Int32, ∃ L' G' : Nat → Int32, PX6_fittingSets (nI N) unsures throne said unit kind parts pn wt ws tw uw uo V S = (nI (FB p (2 ^ U)), L', G')) ∧ ∀ (p0 : Int32) (T O : Nat → Int32), ∃ T' O' : Nat → Int32, PX7_seekSets r told unit (-1) T O p0 = (atB p p0 (2 ^ U), nI (cntB p (2 ^ U)), nI (orB p (2 ^ U)), nI (if cntB p (2 ^ U) = 0 then 0 else anB p (2 ^ U - 1) (2 ^ U)), T', O') ∧ ∀ j : Nat, j < U → O' j = nI (ofB p j (2 ^ U)) := by
  obtain ⟨hN0, hN, hr⟩ := hC.N
  have hth : r 6 = throne := hC.2.2.2.2.2.2.1
  have ht := hC.2.2.2.2.2.2.2.2.1
  obtain ⟨t, t1, t2⟩ := nd_of hN ht
  obtain ⟨U, hU, hQ0, hUR⟩ := hC.2.2.2.2.2.2.2.2.2.2.1
  have h3 : r 3 = nI U := hC.2.2.2.2.1.trans hQ0
  have h16 := u16 hU
  have hu : ∀ j : Nat, j < U → 0 ≤ (uo j).toInt ∧ (uo j).toInt ≤ 99 := fun j hj => by rw [(hUR j hj).2]; exact hu9 j (by omega)
  have hd : ∀ j : Nat, j < U → (uw j).toNatClampNeg < 18 := fun j hj => by
    have q := hR.dnode j (by omega)
    rw [(hUR j hj).1, show r (117 + 2 * j) = nI (r (117 + 2 * j)).toInt.toNat by rw [fz_eq, nI_toInt (by omega)]; omega, nI_clamp (by omega)]
    omega
  have hW : ∀ k : Nat, k < N → kind k = 0 → 0 ≤ (tw k).toInt ∧ (tw k).toInt ≤ 99 := fun k hk _ => by
    rw [(hC.2.2.2.2.2.2.2.2.2.2.2.1 k hk).2.2.1]
    exact hT (72 + k) (by omega) (by omega)
  refine ⟨U, t, FT said unit kind parts pn wt ws uw uo tw U t, hU, hQ0, h3, t1, t2, hth.trans t2, hu, hd, fun V S => ?_, fun p0 T O => sk_eq hC hX hR hU hQ0 (hth.trans t2) t1 hsc rfl p0 T O⟩
  obtain ⟨L', G', e⟩ := fs_loop hC hX hR hU hu hd hW hsc t2 t1 (2 ^ U) 0 (((2147483647 - (0 : Int32).toInt).toNat) + 1) V S rfl (by omega) (by rw [kc_0]; omega)
  refine ⟨L', G', ?_⟩
  rw [← e, PX6_fittingSets_eq, hQ0]
  show _ = HX6_fittingSets_0 (nI N) (nI U) throne said unit kind parts pn wt ws tw uw uo _ (nI 0) (nI 0) V S
  rw [nI_0]
end WQ
section FJ
variable {nodes words unsures slips throne said : Int32} {kind parts pn wt tw uw uo w o : Nat → Int32} {ic : Int32} {iw0 io0 iw1 io1 iw2 io2 : Nat → Int32} {ac : Int32} {an ao as : Nat → Int32} {hc : Int32} {r told st und kept : Nat → Int32} {undos images : Int32} {unit : Int32} {ws steps below above : Nat → Int32} {scale night : Int32}
theorem fits_join (h : Rel nodes words unsures slips throne said kind parts pn wt tw uw uo w o ic iw0 io0 iw1 io1 iw2 io2 ac an ao as hc r told st und kept undos images) (hx : CIS nodes unit kind parts pn wt ws steps below above) (hs : PX7_layScale r = scale) (hM : ROk r ∧ RowOk r st ∧ RowOk r told ∧ WorOk st ∧ night.toInt = -1 ∧ 1 ≤ scale.toInt ∧ scale.toInt ≤ 1296) (hT : WorOk told) (hu9 : ∀ j : Nat, j < 4 → 0 ≤ (r (118 + 2 * j)).toInt ∧ (r (118 + 2 * j)).toInt ≤ 99) {lv lv' lu lu' T T' O O' : Nat → Int32} {q6 q7 rf t1 t2 sm so al sm' so' al' : Int32} (e6 : PX6_fits nodes unsures throne said unit kind parts pn wt ws tw uw uo lv lu = (q6, rf, lv', lu')) (e7 : PX7_fits hc r told scale night T O sm so al = (q7, t1, t2, sm', so', al', T', O')) : q6 = q7 ∧ rf = t2 := by
  obtain ⟨hR, hQ, hQt, hW, hnt, hsc⟩ := hM
  obtain rfl : night = -1 := (fz_eq _ _).mpr (hnt.trans (by decide))
  have key : ∃ (q f t a1 a2 a3 : Int32) (a b c d : Nat → Int32), PX6_fits nodes unsures throne said unit kind parts pn wt ws tw uw uo lv lu = (q, f, a, b) ∧ PX7_fits hc r told scale (-1) T O sm so al = (q, t, f, a1, a2, a3, c, d) := by
    rcases h with ⟨rfl, h0⟩ | ⟨N, c, d, rfl, rfl, rfl, rfl, hc, rfl, rfl, hd, hC, hS, hU, hI⟩
    · obtain ⟨h2, h3, h4, h5, h6, h7, rfl, h8, h9⟩ := h0
      refine ⟨-1, 1, 0, sm, so, al, lv, lu, T, O, ?_, ?_⟩
      · rw [PX6_fits_eq, lc_0, un2_eq rfl, if_neg (show ¬ (1 : Int32) = 0 by decide)]
      · rw [PX7_fits_eq, PX7_good_eq, un2_eq rfl, if_pos rfl, no_eq, un2_eq rfl]
    · obtain ⟨hN0, hN, hr⟩ := hC.N
      obtain ⟨M, hM, hX⟩ := hx
      obtain rfl : N = M := (nI_eq (by omega) (by have := hX.1; omega)).mp hM
      obtain rfl : unit = scale := (ls_eq hC hX).symm.trans hs
      obtain ⟨U, t, p, hU4, hu, h3, t1, t2, ht6, -, -, hF, hK⟩ := us_pre hC hX hR hsc hT hu9
      have h16 := u16 hU4
      have hcl := cntB_le (p := p) (2 ^ U)
      obtain ⟨L', G', f6⟩ := hF lv lu
      obtain ⟨T', O', f7, hO⟩ := hK (-1) T O
      refine ⟨nI (cntB p (2 ^ U)), 0, 0, nI (cntB p (2 ^ U)), nI (orB p (2 ^ U)), nI (if cntB p (2 ^ U) = 0 then 0 else anB p (2 ^ U - 1) (2 ^ U)), L', G', T', O', ?_, ?_⟩
      · rw [PX6_fits_eq, lc_N hN0 hN, un2_eq rfl, if_pos rfl, un3_eq f6]
        simp only [lt_ap]
        rw [bitCount_FB h16.2]
      · rw [PX7_fits_eq, PX7_good_eq, un2_eq rfl, if_neg (show ¬ (1 : Int32) = 0 by decide), un6_eq f7]
  obtain ⟨q, f, t, a1, a2, a3, a, b, c, d, g6, g7⟩ := key
  have x := g6.symm.trans e6
  have y := g7.symm.trans e7
  simp only [Prod.mk.injEq] at x y
  obtain ⟨rfl, rfl, -⟩ := x
  obtain ⟨rfl, -, rfl, -⟩ := y
  exact ⟨rfl, rfl⟩
theorem could_join (h : Rel nodes words unsures slips throne said kind parts pn wt tw uw uo w o ic iw0 io0 iw1 io1 iw2 io2 ac an ao as hc r told st und kept undos images) (hx : CIS nodes unit kind parts pn wt ws steps below above) (hs : PX7_layScale r = scale) (hM : ROk r ∧ RowOk r st ∧ RowOk r told ∧ WorOk st ∧ night.toInt = -1 ∧ 1 ≤ scale.toInt ∧ scale.toInt ≤ 1296) (hT : WorOk told) (hu9 : ∀ j : Nat, j < 4 → 0 ≤ (r (118 + 2 * j)).toInt ∧ (r (118 + 2 * j)).toInt ≤ 99) {lv lv' lu lu' T T' O O' : Nat → Int32} {q6 q7 rf t1 t2 sm so al sm' so' al' : Int32} (e6 : PX6_could nodes unsures throne said unit kind parts pn wt ws tw uw uo lv lu = (q6, rf, lv', lu')) (e7 : PX7_could hc r told scale night T O sm so al = (q7, t1, t2, sm', so', al', T', O')) : q6 = q7 ∧ rf = t2 := by
  obtain ⟨hR, hQ, hQt, hW, hnt, hsc⟩ := hM
  obtain rfl : night = -1 := (fz_eq _ _).mpr (hnt.trans (by decide))
  have key : ∃ (q f t a1 a2 a3 : Int32) (a b c d : Nat → Int32), PX6_could nodes unsures throne said unit kind parts pn wt ws tw uw uo lv lu = (q, f, a, b) ∧ PX7_could hc r told scale (-1) T O sm so al = (q, t, f, a1, a2, a3, c, d) := by
    rcases h with ⟨rfl, h0⟩ | ⟨N, c, d, rfl, rfl, rfl, rfl, hc, rfl, rfl, hd, hC, hS, hU, hI⟩
    · obtain ⟨h2, h3, h4, h5, h6, h7, rfl, h8, h9⟩ := h0
      refine ⟨-1, 1, 0, sm, so, al, lv, lu, T, O, ?_, ?_⟩
      · rw [PX6_could_eq, lc_0, un2_eq rfl, if_neg (show ¬ (1 : Int32) = 0 by decide)]
      · rw [PX7_could_eq, PX7_good_eq, un2_eq rfl, if_pos rfl, no_eq, un2_eq rfl]
    · obtain ⟨hN0, hN, hr⟩ := hC.N
      obtain ⟨M, hM, hX⟩ := hx
      obtain rfl : N = M := (nI_eq (by omega) (by have := hX.1; omega)).mp hM
      obtain rfl : unit = scale := (ls_eq hC hX).symm.trans hs
      obtain ⟨U, t, p, hU4, hu, h3, t1, t2, ht6, -, -, hF, hK⟩ := us_pre hC hX hR hsc hT hu9
      have h16 := u16 hU4
      have hcl := cntB_le (p := p) (2 ^ U)
      obtain ⟨L', G', f6⟩ := hF lv lu
      obtain ⟨T', O', f7, hO⟩ := hK (-1) T O
      refine ⟨nI (orB p (2 ^ U)), 0, 0, nI (cntB p (2 ^ U)), nI (orB p (2 ^ U)), nI (if cntB p (2 ^ U) = 0 then 0 else anB p (2 ^ U - 1) (2 ^ U)), L', G', T', O', ?_, ?_⟩
      · rw [PX6_could_eq, lc_N hN0 hN, un2_eq rfl, if_pos rfl, un3_eq f6]
        have e := co_loop (p := p) hU4 (x := 0) (fL := L') (fS := G') (2 ^ U) 0 (((2147483647 - (0 : Int32).toInt).toNat) + 1) rfl (by omega) (by rw [kc_0]; omega)
        rw [show orB p 0 = 0 from rfl, nI_0] at e
        rw [hu]
        exact e
      · rw [PX7_could_eq, PX7_good_eq, un2_eq rfl, if_neg (show ¬ (1 : Int32) = 0 by decide), un6_eq f7]
  obtain ⟨q, f, t, a1, a2, a3, a, b, c, d, g6, g7⟩ := key
  have x := g6.symm.trans e6
  have y := g7.symm.trans e7
  simp only [Prod.mk.injEq] at x y
  obtain ⟨rfl, rfl, -⟩ := x
  obtain ⟨rfl, -, rfl, -⟩ := y
  exact ⟨rfl, rfl⟩
theorem surely_join (h : Rel nodes words unsures slips throne said kind parts pn wt tw uw uo w o ic iw0 io0 iw1 io1 iw2 io2 ac an ao as hc r told st und kept undos images) (hx : CIS nodes unit kind parts pn wt ws steps below above) (hs : PX7_layScale r = scale) (hM : ROk r ∧ RowOk r st ∧ RowOk r told ∧ WorOk st ∧ night.toInt = -1 ∧ 1 ≤ scale.toInt ∧ scale.toInt ≤ 1296) (hT : WorOk told) (hu9 : ∀ j : Nat, j < 4 → 0 ≤ (r (118 + 2 * j)).toInt ∧ (r (118 + 2 * j)).toInt ≤ 99) {lv lv' lu lu' T T' O O' : Nat → Int32} {q6 q7 rf t1 t2 sm so al sm' so' al' : Int32} (e6 : PX6_surely nodes unsures throne said unit kind parts pn wt ws tw uw uo lv lu = (q6, rf, lv', lu')) (e7 : PX7_surely hc r told scale night T O sm so al = (q7, t1, t2, sm', so', al', T', O')) : q6 = q7 ∧ rf = t2 := by
  obtain ⟨hR, hQ, hQt, hW, hnt, hsc⟩ := hM
  obtain rfl : night = -1 := (fz_eq _ _).mpr (hnt.trans (by decide))
  have key : ∃ (q f t a1 a2 a3 : Int32) (a b c d : Nat → Int32), PX6_surely nodes unsures throne said unit kind parts pn wt ws tw uw uo lv lu = (q, f, a, b) ∧ PX7_surely hc r told scale (-1) T O sm so al = (q, t, f, a1, a2, a3, c, d) := by
    rcases h with ⟨rfl, h0⟩ | ⟨N, c, d, rfl, rfl, rfl, rfl, hc, rfl, rfl, hd, hC, hS, hU, hI⟩
    · obtain ⟨h2, h3, h4, h5, h6, h7, rfl, h8, h9⟩ := h0
      refine ⟨-1, 1, 0, sm, so, al, lv, lu, T, O, ?_, ?_⟩
      · rw [PX6_surely_eq, lc_0, un2_eq rfl, if_neg (show ¬ (1 : Int32) = 0 by decide)]
      · rw [PX7_surely_eq, PX7_good_eq, un2_eq rfl, if_pos rfl, no_eq, un2_eq rfl]
    · obtain ⟨hN0, hN, hr⟩ := hC.N
      obtain ⟨M, hM, hX⟩ := hx
      obtain rfl : N = M := (nI_eq (by omega) (by have := hX.1; omega)).mp hM
      obtain rfl : unit = scale := (ls_eq hC hX).symm.trans hs
      obtain ⟨U, t, p, hU4, hu, h3, t1, t2, ht6, -, -, hF, hK⟩ := us_pre hC hX hR hsc hT hu9
      have h16 := u16 hU4
      have hcl := cntB_le (p := p) (2 ^ U)
      obtain ⟨L', G', f6⟩ := hF lv lu
      obtain ⟨T', O', f7, hO⟩ := hK (-1) T O
      refine ⟨nI (if cntB p (2 ^ U) = 0 then 0 else anB p (2 ^ U - 1) (2 ^ U)), 0, 0, nI (cntB p (2 ^ U)), nI (orB p (2 ^ U)), nI (if cntB p (2 ^ U) = 0 then 0 else anB p (2 ^ U - 1) (2 ^ U)), L', G', T', O', ?_, ?_⟩
      · rw [PX6_surely_eq, lc_N hN0 hN, un2_eq rfl, if_pos rfl, un3_eq f6]
        rw [hu]
        by_cases z : cntB p (2 ^ U) = 0
        · have e := su2_loop (p := p) (a := 0) hU4 (x := 0) (fL := L') (fS := G') (2 ^ U) 0 (((2147483647 - (0 : Int32).toInt).toNat) + 1) rfl (by omega) (by rw [kc_0]; omega)
          rw [show anB p 0 0 = 0 from rfl, anB_0, nI_0] at e
          rw [if_pos (show nI (FB p (2 ^ U)) = 0 by rw [(FB_0 _).mpr z]; exact nI_0), if_pos z, nI_0]
          exact e
        · have e := su2_loop (p := p) (a := 2 ^ U - 1) hU4 (x := 0) (fL := L') (fS := G') (2 ^ U) 0 (((2147483647 - (0 : Int32).toInt).toNat) + 1) rfl (by omega) (by rw [kc_0]; omega)
          rw [show anB p (2 ^ U - 1) 0 = 2 ^ U - 1 from rfl, nI_0] at e
          rw [if_neg (show ¬ nI (FB p (2 ^ U)) = 0 by rw [← nI_0, nI_eq (FB_31 hU4) (by omega)]; exact fun q => z ((FB_0 _).mp q)), if_neg z, us_eq hU4]
          simp only [lt_ap]
          rw [show nI (2 ^ U) - (1 : Int32) = nI (2 ^ U - 1) by rw [show (1 : Int32) = nI 1 by decide, nI_sub' (by omega) (by omega)]]
          exact e
      · rw [PX7_surely_eq, PX7_good_eq, un2_eq rfl, if_neg (show ¬ (1 : Int32) = 0 by decide), un6_eq f7]
  obtain ⟨q, f, t, a1, a2, a3, a, b, c, d, g6, g7⟩ := key
  have x := g6.symm.trans e6
  have y := g7.symm.trans e7
  simp only [Prod.mk.injEq] at x y
  obtain ⟨rfl, rfl, -⟩ := x
  obtain ⟨rfl, -, rfl, -⟩ := y
  exact ⟨rfl, rfl⟩
theorem fitAt_join (h : Rel nodes words unsures slips throne said kind parts pn wt tw uw uo w o ic iw0 io0 iw1 io1 iw2 io2 ac an ao as hc r told st und kept undos images) (hx : CIS nodes unit kind parts pn wt ws steps below above) (hs : PX7_layScale r = scale) (hM : ROk r ∧ RowOk r st ∧ RowOk r told ∧ WorOk st ∧ night.toInt = -1 ∧ 1 ≤ scale.toInt ∧ scale.toInt ≤ 1296) (hT : WorOk told) (hu9 : ∀ j : Nat, j < 4 → 0 ≤ (r (118 + 2 * j)).toInt ∧ (r (118 + 2 * j)).toInt ≤ 99) {lv lv' lu lu' T T' O O' : Nat → Int32} {p0 q6 q7 rf t1 t2 sm so al sm' so' al' : Int32} (e6 : PX6_fitAt nodes unsures throne said unit kind parts pn wt ws tw uw uo lv lu p0 = (q6, rf, lv', lu')) (e7 : PX7_fitAt hc r told scale night T O sm so al p0 = (q7, t1, t2, sm', so', al', T', O')) : q6 = q7 ∧ rf = t2 := by
  obtain ⟨hR, hQ, hQt, hW, hnt, hsc⟩ := hM
  obtain rfl : night = -1 := (fz_eq _ _).mpr (hnt.trans (by decide))
  have key : ∃ (q f t a1 a2 a3 : Int32) (a b c d : Nat → Int32), PX6_fitAt nodes unsures throne said unit kind parts pn wt ws tw uw uo lv lu p0 = (q, f, a, b) ∧ PX7_fitAt hc r told scale (-1) T O sm so al p0 = (q, t, f, a1, a2, a3, c, d) := by
    rcases h with ⟨rfl, h0⟩ | ⟨N, c, d, rfl, rfl, rfl, rfl, hc, rfl, rfl, hd, hC, hS, hU, hI⟩
    · obtain ⟨h2, h3, h4, h5, h6, h7, rfl, h8, h9⟩ := h0
      refine ⟨-1, 1, 0, sm, so, al, lv, lu, T, O, ?_, ?_⟩
      · rw [PX6_fitAt_eq, lc_0, un2_eq rfl, if_neg (show ¬ (1 : Int32) = 0 by decide)]
      · rw [PX7_fitAt_eq, PX7_good_eq, un2_eq rfl, if_pos rfl, no_eq, un2_eq rfl]
    · obtain ⟨hN0, hN, hr⟩ := hC.N
      obtain ⟨M, hM, hX⟩ := hx
      obtain rfl : N = M := (nI_eq (by omega) (by have := hX.1; omega)).mp hM
      obtain rfl : unit = scale := (ls_eq hC hX).symm.trans hs
      obtain ⟨U, t, p, hU4, hu, h3, t1, t2, ht6, -, -, hF, hK⟩ := us_pre hC hX hR hsc hT hu9
      have h16 := u16 hU4
      have hcl := cntB_le (p := p) (2 ^ U)
      obtain ⟨L', G', f6⟩ := hF lv lu
      have e := fa_loop (p := p) hU4 (p0 := p0) (x := 0) (fL := L') (fS := G') (2 ^ U) 0 (((2147483647 - (0 : Int32).toInt).toNat) + 1) rfl (by omega) (by rw [kc_0]; omega) rfl
      rw [show cntB p 0 = 0 from rfl, nI_0] at e
      have g6 : PX6_fitAt (nI N) unsures throne said unit kind parts pn wt ws tw uw uo lv lu p0 = if atB p p0 (2 ^ U) = -1 then (-1, 1, L', G') else (atB p p0 (2 ^ U), 0, L', G') := by
        rw [PX6_fitAt_eq, lc_N hN0 hN, un2_eq rfl, if_pos rfl, un3_eq f6, hu]
        exact e
      rw [g6]
      by_cases hp : p0.toInt < 0
      · rw [atB_neg hp _ (by omega), if_pos rfl]
        refine ⟨-1, 1, 0, sm, so, al, L', G', T, O, rfl, ?_⟩
        rw [PX7_fitAt_eq, PX7_good_eq, un2_eq rfl, if_neg (show ¬ (1 : Int32) = 0 by decide), if_neg (show ¬ (0 : Int32) ≤ p0 by rw [fz_le, kc_0]; omega), no_eq, un2_eq rfl]
      · obtain ⟨T', O', f7, hO⟩ := hK p0 T O
        have g7 : PX7_fitAt 1 r told unit (-1) T O sm so al p0 = if (0 : Int32) ≤ atB p p0 (2 ^ U) then (atB p p0 (2 ^ U), 0, 0, nI (cntB p (2 ^ U)), nI (orB p (2 ^ U)), nI (if cntB p (2 ^ U) = 0 then 0 else anB p (2 ^ U - 1) (2 ^ U)), T', O') else (-1, 0, 1, nI (cntB p (2 ^ U)), nI (orB p (2 ^ U)), nI (if cntB p (2 ^ U) = 0 then 0 else anB p (2 ^ U - 1) (2 ^ U)), T', O') := by
          rw [PX7_fitAt_eq, PX7_good_eq, un2_eq rfl, if_neg (show ¬ (1 : Int32) = 0 by decide), if_pos (show (0 : Int32) ≤ p0 by rw [fz_le, kc_0]; omega), un6_eq f7, no_eq]
          rfl
        rw [g7]
        rcases atB_lt (p := p) (i := p0) (2 ^ U) (by omega) with q | ⟨s, q1, q2⟩
        · rw [q, if_pos rfl, if_neg (show ¬ (0 : Int32) ≤ -1 by decide)]
          exact ⟨_, _, _, _, _, _, _, _, _, _, rfl, rfl⟩
        · rw [q2, if_neg (nIm1 (by omega)), if_pos (show (0 : Int32) ≤ nI s by rw [fz_le, kc_0, nI_toInt (by omega)]; omega)]
          exact ⟨_, _, _, _, _, _, _, _, _, _, rfl, rfl⟩
  obtain ⟨q, f, t, a1, a2, a3, a, b, c, d, g6, g7⟩ := key
  have x := g6.symm.trans e6
  have y := g7.symm.trans e7
  simp only [Prod.mk.injEq] at x y
  obtain ⟨rfl, rfl, -⟩ := x
  obtain ⟨rfl, -, rfl, -⟩ := y
  exact ⟨rfl, rfl⟩
theorem askLeaves_join (h : Rel nodes words unsures slips throne said kind parts pn wt tw uw uo w o ic iw0 io0 iw1 io1 iw2 io2 ac an ao as hc r told st und kept undos images) (hx : CIS nodes unit kind parts pn wt ws steps below above) (hs : PX7_layScale r = scale) (hM : ROk r ∧ RowOk r st ∧ RowOk r told ∧ WorOk st ∧ night.toInt = -1 ∧ 1 ≤ scale.toInt ∧ scale.toInt ≤ 1296) (hT : WorOk told) (hu9 : ∀ j : Nat, j < 4 → 0 ≤ (r (118 + 2 * j)).toInt ∧ (r (118 + 2 * j)).toInt ≤ 99) {lv lv' lu lu' T T' O O' : Nat → Int32} {q6 q7 rf t1 t2 sm so al sm' so' al' : Int32} (e6 : PX6_askLeaves nodes unsures throne said unit kind parts pn wt ws tw uw uo lv lu = (q6, rf, lv', lu')) (e7 : PX7_askLeaves hc r told scale night T O sm so al = (q7, t1, t2, sm', so', al', T', O')) : q6 = q7 ∧ rf = t2 := by
  obtain ⟨hR, hQ, hQt, hW, hnt, hsc⟩ := hM
  obtain rfl : night = -1 := (fz_eq _ _).mpr (hnt.trans (by decide))
  have key : ∃ (q f t a1 a2 a3 : Int32) (a b c d : Nat → Int32), PX6_askLeaves nodes unsures throne said unit kind parts pn wt ws tw uw uo lv lu = (q, f, a, b) ∧ PX7_askLeaves hc r told scale (-1) T O sm so al = (q, t, f, a1, a2, a3, c, d) := by
    rcases h with ⟨rfl, h0⟩ | ⟨N, c, d, rfl, rfl, rfl, rfl, hc, rfl, rfl, hd, hC, hS, hU, hI⟩
    · obtain ⟨h2, h3, h4, h5, h6, h7, rfl, h8, h9⟩ := h0
      refine ⟨-1, 1, 0, sm, so, al, lv, lu, T, O, ?_, ?_⟩
      · rw [PX6_askLeaves_eq, lc_0, un2_eq rfl, if_neg (show ¬ (1 : Int32) = 0 by decide)]
      · rw [PX7_askLeaves_eq, PX7_good_eq, un2_eq rfl, if_pos rfl, no_eq, un2_eq rfl]
    · obtain ⟨hN0, hN, hr⟩ := hC.N
      obtain ⟨M, hM, hX⟩ := hx
      obtain rfl : N = M := (nI_eq (by omega) (by have := hX.1; omega)).mp hM
      obtain rfl : unit = scale := (ls_eq hC hX).symm.trans hs
      obtain ⟨U, t, p, hU4, hu, h3, t1, t2, ht6, -, -, hF, hK⟩ := us_pre hC hX hR hsc hT hu9
      have h16 := u16 hU4
      have hcl := cntB_le (p := p) (2 ^ U)
      obtain ⟨L', G', f6⟩ := hF lv lu
      obtain ⟨T', O', f7, hO⟩ := hK (-1) T O
      by_cases z : cntB p (2 ^ U) = 0
      · refine ⟨-2, 0, 0, nI (cntB p (2 ^ U)), nI (orB p (2 ^ U)), nI (if cntB p (2 ^ U) = 0 then 0 else anB p (2 ^ U - 1) (2 ^ U)), L', G', T', O', ?_, ?_⟩
        · rw [PX6_askLeaves_eq, lc_N hN0 hN, un2_eq rfl, if_pos rfl, un3_eq f6, PX6_unsureToAsk_eq, HX6_unsureToAsk_0_eq, if_pos (show nI (FB p (2 ^ U)) = 0 by rw [(FB_0 _).mpr z]; exact nI_0), lt_ap, if_neg (show ¬ (0 : Int32) ≤ -1 by decide)]
        · have e : PX7_askedFirst r told unit (-1) T O = (-2, nI (cntB p (2 ^ U)), nI (orB p (2 ^ U)), nI (if cntB p (2 ^ U) = 0 then 0 else anB p (2 ^ U - 1) (2 ^ U)), T', O') := by
            rw [PX7_askedFirst_eq, un6_eq f7, HX7_askedFirst_0_eq, lt_ap, three_cl, h3]
            by_cases c : nI U ≤ 0
            · rw [if_pos c]
            · rw [if_neg c, if_pos (show nI (cntB p (2 ^ U)) ≤ 0 by rw [z]; decide)]
          rw [PX7_askLeaves_eq, PX7_good_eq, un2_eq rfl, if_neg (show ¬ (1 : Int32) = 0 by decide), un6_eq e, if_neg (show ¬ (0 : Int32) ≤ -2 by decide)]
      · obtain ⟨R6, R7, a6, a7, hh⟩ := ua_loop h3 hU4 z (x2 := nI (orB p (2 ^ U))) (x3 := nI (if cntB p (2 ^ U) = 0 then 0 else anB p (2 ^ U - 1) (2 ^ U))) (T := T') hO U 0 (((2147483647 - (0 : Int32).toInt).toNat) + 1) (((2147483647 - (0 : Int32).toInt).toNat) + 1) (-1) 0 (-2) rfl (by omega) (by rw [kc_0]; omega) (by rw [kc_0]; omega) (Or.inl ⟨rfl, rfl⟩)
        rw [nI_0] at a6 a7
        have e : PX7_askedFirst r told unit (-1) T O = (R7, nI (cntB p (2 ^ U)), nI (orB p (2 ^ U)), nI (if cntB p (2 ^ U) = 0 then 0 else anB p (2 ^ U - 1) (2 ^ U)), T', O') := by
          rw [PX7_askedFirst_eq, un6_eq f7]
          exact a7
        have e6 : PX6_unsureToAsk (nI U) (nI (FB p (2 ^ U))) = R6 := by
          rw [PX6_unsureToAsk_eq]
          exact a6
        rcases hh with ⟨rfl, rfl⟩ | ⟨k, k1, rfl, rfl⟩
        · refine ⟨-2, 0, 0, nI (cntB p (2 ^ U)), nI (orB p (2 ^ U)), nI (if cntB p (2 ^ U) = 0 then 0 else anB p (2 ^ U - 1) (2 ^ U)), L', G', T', O', ?_, ?_⟩
          · rw [PX6_askLeaves_eq, lc_N hN0 hN, un2_eq rfl, if_pos rfl, un3_eq f6, hu, e6, lt_ap, if_neg (show ¬ (0 : Int32) ≤ -1 by decide)]
          · rw [PX7_askLeaves_eq, PX7_good_eq, un2_eq rfl, if_neg (show ¬ (1 : Int32) = 0 by decide), un6_eq e, if_neg (show ¬ (0 : Int32) ≤ -2 by decide)]
        · have k0 : (0 : Int32) ≤ nI k := by rw [fz_le, kc_0, nI_toInt (by omega)]; omega
          refine ⟨nI (LVn p k (2 ^ U)), 0, 0, nI (cntB p (2 ^ U)), nI (orB p (2 ^ U)), nI (if cntB p (2 ^ U) = 0 then 0 else anB p (2 ^ U - 1) (2 ^ U)), L', G', T', O', ?_, ?_⟩
          · rw [PX6_askLeaves_eq, lc_N hN0 hN, un2_eq rfl, if_pos rfl, un3_eq f6, hu, e6, lt_ap, if_pos k0, la_eq hU4 k1, lt_ap]
          · rw [PX7_askLeaves_eq, PX7_good_eq, un2_eq rfl, if_neg (show ¬ (1 : Int32) = 0 by decide), un6_eq e, if_pos k0, lo_eq hU4 k1 (hO k k1), lt_ap]
  obtain ⟨q, f, t, a1, a2, a3, a, b, c, d, g6, g7⟩ := key
  have x := g6.symm.trans e6
  have y := g7.symm.trans e7
  simp only [Prod.mk.injEq] at x y
  obtain ⟨rfl, rfl, -⟩ := x
  obtain ⟨rfl, -, rfl, -⟩ := y
  exact ⟨rfl, rfl⟩
end FJ
end F18
end
section
/-! odds and mean: the likelihood of every set of slips -/
section F19
/-- the likelihood of the set s, the first j words of it done -/
def LKL (slips : Int32) (s : Nat) : Nat → Int64
  | 0 => 1
  | j + 1 => LKL slips s j * (if s.testBit j then slips.toInt64 else ((100 : Int32) - slips).toInt64)
/-- the same as a plain number -/
def LKn (a s : Nat) : Nat → Nat
  | 0 => 1
  | j + 1 => LKn a s j * (if s.testBit j then a else 100 - a)
def ALL : Nat → Int64
  | 0 => 1
  | j + 1 => ALL j * 100
def AAs (slips : Int32) (U : Nat) : Nat → Int64
  | 0 => 0
  | s + 1 => AAs slips U s + LKL slips s U
def EEs (slips : Int32) (U : Nat) (T : Nat → Int32) (x : Int32) : Nat → Int64
  | 0 => 0
  | s + 1 => if T s < x then EEs slips U T x s else EEs slips U T x s + LKL slips s U
def SSs (slips : Int32) (U : Nat) (T : Nat → Int32) : Nat → Int64
  | 0 => 0
  | s + 1 => SSs slips U T s + LKL slips s U * (T s).toInt64
theorem all_i : ∀ U : Nat, U ≤ 4 → (ALL U).toInt = ((100 ^ U : Nat) : Int) := by
  intro U hU
  obtain rfl | rfl | rfl | rfl | rfl : U = 0 ∨ U = 1 ∨ U = 2 ∨ U = 3 ∨ U = 4 := by omega
  all_goals decide
theorem p100 {U : Nat} (hU : U ≤ 4) : 1 ≤ 100 ^ U ∧ 100 ^ U ≤ 100000000 := by
  have h := Nat.pow_le_pow_right (n := 100) (by decide) hU
  exact ⟨Nat.pow_pos (by decide), h⟩
theorem LKn_le {a s : Nat} (ha : a ≤ 100) : ∀ j : Nat, LKn a s j ≤ 100 ^ j
  | 0 => Nat.le_refl _
  | j + 1 => by
    have ih := LKn_le (s := s) ha j
    rw [LKn, Nat.pow_succ]
    refine Nat.mul_le_mul ih ?_
    by_cases c : s.testBit j = true
    · rw [if_pos c]; exact ha
    · rw [if_neg c]; omega
theorem LKL_i {slips : Int32} {s : Nat} (h : 0 ≤ slips.toInt ∧ slips.toInt ≤ 100) : ∀ j : Nat, j ≤ 4 → (LKL slips s j).toInt = (LKn slips.toInt.toNat s j : Int)
  | 0, _ => by show (1 : Int64).toInt = 1; decide
  | j + 1, hj => by
    have ih := LKL_i (s := s) h j (by omega)
    have b := LKn_le (a := slips.toInt.toNat) (s := s) (by omega) j
    have b2 := LKn_le (a := slips.toInt.toNat) (s := s) (by omega) (j + 1)
    have q := p100 (show j ≤ 4 by omega)
    have q2 := p100 hj
    have e : ((if s.testBit j then slips.toInt64 else ((100 : Int32) - slips).toInt64)).toInt = ((if s.testBit j then slips.toInt.toNat else 100 - slips.toInt.toNat : Nat) : Int) := by
      by_cases c : s.testBit j = true
      · rw [if_pos c, if_pos c, Int32.toInt_toInt64]; omega
      · have k : (100 : Int32).toInt = 100 := by decide
        rw [if_neg c, if_neg c, Int32.toInt_toInt64, fb_subI (by rw [k]; omega) (by rw [k]; omega), k]; omega
    have m : ((LKn slips.toInt.toNat s j : Nat) : Int) * ((if s.testBit j then slips.toInt.toNat else 100 - slips.toInt.toNat : Nat) : Int) = ((LKn slips.toInt.toNat s (j + 1) : Nat) : Int) := by
      rw [LKn, Int.natCast_mul]
    rw [LKL, fb_mulL (by rw [ih, e, m]; omega) (by rw [ih, e, m]; omega), ih, e, m]
theorem sumN_congr {f g : Nat → Nat} : ∀ n : Nat, (∀ i : Nat, i < n → f i = g i) → sumN f n = sumN g n
  | 0, _ => rfl
  | n + 1, h => by rw [sumN, sumN, sumN_congr n (fun i hi => h i (by omega)), h n (by omega)]
theorem sumN_mul {f : Nat → Nat} {c : Nat} : ∀ n : Nat, sumN (fun i => f i * c) n = sumN f n * c
  | 0 => by rw [sumN, sumN, Nat.zero_mul]
  | n + 1 => by rw [sumN, sumN, sumN_mul n, Nat.add_mul]
theorem sumN_split {f : Nat → Nat} {n : Nat} : ∀ m : Nat, sumN f (n + m) = sumN f n + sumN (fun i => f (n + i)) m
  | 0 => by rw [Nat.add_zero, sumN, Nat.add_zero]
  | m + 1 => by rw [← Nat.add_assoc, sumN, sumN_split m, sumN, Nat.add_assoc]
theorem LKn_hi {a x U : Nat} : ∀ j : Nat, j ≤ U → LKn a (2 ^ U + x) j = LKn a x j
  | 0, _ => rfl
  | j + 1, h => by
    rw [LKn, LKn, LKn_hi j (by omega), Nat.testBit_two_pow_add_gt (by omega)]
theorem LKn_sum {a : Nat} (ha : a ≤ 100) : ∀ U : Nat, sumN (fun s => LKn a s U) (2 ^ U) = 100 ^ U
  | 0 => rfl
  | U + 1 => by
    have ih := LKn_sum ha U
    have e1 : sumN (fun s => LKn a s (U + 1)) (2 ^ U) = 100 ^ U * (100 - a) := by
      rw [← ih, ← sumN_mul]
      refine sumN_congr _ (fun s hs => ?_)
      show LKn a s (U + 1) = _
      rw [LKn, Nat.testBit_lt_two_pow hs, if_neg (by decide)]
    have e2 : sumN (fun s => LKn a (2 ^ U + s) (U + 1)) (2 ^ U) = 100 ^ U * a := by
      rw [← ih, ← sumN_mul]
      refine sumN_congr _ (fun s hs => ?_)
      show LKn a (2 ^ U + s) (U + 1) = _
      rw [LKn, LKn_hi U (Nat.le_refl _), if_pos (by rw [Nat.testBit_two_pow_add_eq, Nat.testBit_lt_two_pow hs]; rfl)]
    rw [Nat.pow_succ 2 U, Nat.mul_two, sumN_split, e1]
    show 100 ^ U * (100 - a) + sumN (fun s => LKn a (2 ^ U + s) (U + 1)) (2 ^ U) = _
    rw [e2, ← Nat.mul_add, Nat.sub_add_cancel ha, Nat.pow_succ]
theorem AAs_i {slips : Int32} {U : Nat} (h : 0 ≤ slips.toInt ∧ slips.toInt ≤ 100) (hU : U ≤ 4) : ∀ n : Nat, n ≤ 16 → (AAs slips U n).toInt = (sumN (fun s => LKn slips.toInt.toNat s U) n : Int) ∧ sumN (fun s => LKn slips.toInt.toNat s U) n ≤ n * 100000000
  | 0, _ => ⟨by show (0 : Int64).toInt = 0; decide, Nat.zero_le _⟩
  | n + 1, hn => by
    obtain ⟨i1, i2⟩ := AAs_i h hU n (by omega)
    have b := LKn_le (a := slips.toInt.toNat) (s := n) (by omega) U
    have q := p100 hU
    have e := LKL_i (s := n) h U hU
    refine ⟨?_, ?_⟩
    · rw [AAs, fb_addL (by rw [i1, e]; omega) (by rw [i1, e]; omega), i1, e, sumN]; omega
    · rw [sumN]; omega
theorem AAs_eq {slips : Int32} {U : Nat} (h : 0 ≤ slips.toInt ∧ slips.toInt ≤ 100) (hU : U ≤ 4) : AAs slips U (2 ^ U) = ALL U := by
  have h16 := u16 hU
  refine l_inj ?_
  rw [(AAs_i h hU _ h16.2).1, all_i U hU, LKn_sum (by omega)]
theorem EEs_in {slips : Int32} {U : Nat} {T : Nat → Int32} {x : Int32} (h : 0 ≤ slips.toInt ∧ slips.toInt ≤ 100) (hU : U ≤ 4) : ∀ n : Nat, n ≤ 16 → 0 ≤ (EEs slips U T x n).toInt ∧ (EEs slips U T x n).toInt ≤ n * 100000000
  | 0, _ => by show 0 ≤ (0 : Int64).toInt ∧ (0 : Int64).toInt ≤ _; rw [lz_i]; omega
  | n + 1, hn => by
    have ih := EEs_in (T := T) (x := x) h hU n (by omega)
    have b := LKn_le (a := slips.toInt.toNat) (s := n) (by omega) U
    have q := p100 hU
    have e := LKL_i (s := n) h U hU
    rw [EEs]
    by_cases c : T n < x
    · rw [if_pos c]; omega
    · rw [if_neg c, fb_addL (by rw [e]; omega) (by rw [e]; omega), e]; omega
theorem SSs_in {slips : Int32} {U : Nat} {T : Nat → Int32} (h : 0 ≤ slips.toInt ∧ slips.toInt ≤ 100) (hU : U ≤ 4) (hT : ∀ s : Nat, s < 16 → 0 ≤ (T s).toInt ∧ (T s).toInt ≤ 128304) : ∀ n : Nat, n ≤ 16 → 0 ≤ (SSs slips U T n).toInt ∧ (SSs slips U T n).toInt ≤ n * 12830400000000
  | 0, _ => by show 0 ≤ (0 : Int64).toInt ∧ (0 : Int64).toInt ≤ _; rw [lz_i]; omega
  | n + 1, hn => by
    have ih := SSs_in h hU hT n (by omega)
    have b := LKn_le (a := slips.toInt.toNat) (s := n) (by omega) U
    have q := p100 hU
    have e := LKL_i (s := n) h U hU
    obtain ⟨t1, t2⟩ := hT n (by omega)
    have p1 : 0 ≤ (LKL slips n U).toInt * (T n).toInt := Int.mul_nonneg (by omega) t1
    have p2 : (LKL slips n U).toInt * (T n).toInt ≤ 100000000 * 128304 := Int.mul_le_mul (by omega) t2 t1 (by decide)
    have e2 : (LKL slips n U * (T n).toInt64).toInt = (LKL slips n U).toInt * (T n).toInt := by
      rw [fb_mulL (by rw [Int32.toInt_toInt64]; omega) (by rw [Int32.toInt_toInt64]; omega), Int32.toInt_toInt64]
    rw [SSs, fb_addL (by rw [e2]; omega) (by rw [e2]; omega), e2]
    omega
theorem lk_loop {slips : Int32} {U s : Nat} (hU : U ≤ 4) (hs : s < 16) : ∀ (m j f : Nat), U - j = m → j ≤ U → m < f → HX1_likelihood_0 (nI U) slips (nI s) f (nI j) (LKL slips s j) = LKL slips s U := by
  intro m
  induction m with
  | zero =>
    intro j f hm hj hf
    obtain ⟨f, rfl⟩ : ∃ g, f = g + 1 := ⟨f - 1, by omega⟩
    obtain rfl : j = U := by omega
    rw [HX1_likelihood_0_eq, if_pos (nI_le (Nat.le_refl _) (by omega))]
  | succ m ih =>
    intro j f hm hj hf
    obtain ⟨f, rfl⟩ : ∃ g, f = g + 1 := ⟨f - 1, by omega⟩
    have hn := ih (j + 1) f (by omega) (by omega) (by omega)
    rw [HX1_likelihood_0_eq, if_neg (show ¬ nI U ≤ nI j by rw [nI_leI (by omega) (by omega)]; omega)]
    simp only [lt_ap]
    rw [nI_o1]
    by_cases c : s.testBit j = true
    · rw [if_pos ((bt_one (by omega) (by omega)).mpr c)]
      rw [LKL, if_pos c] at hn; exact hn
    · rw [if_neg (fun q => c ((bt_one (by omega) (by omega)).mp q))]
      rw [LKL, if_neg c] at hn; exact hn
theorem lkh_eq {slips : Int32} {U s : Nat} (hU : U ≤ 4) (hs : s < 16) : PX1_likelihood (nI U) slips (nI s) = LKL slips s U := by
  have e := lk_loop (slips := slips) hU hs U 0 (((2147483647 - (0 : Int32).toInt).toNat) + 1) rfl (by omega) (by rw [kc_0]; omega)
  rw [nI_0] at e
  rw [PX1_likelihood_eq]
  exact e
theorem al_loop {U : Nat} (hU : U ≤ 4) : ∀ (m j f : Nat), U - j = m → j ≤ U → m < f → HX1_allLikelihood_0 (nI U) f (nI j) (ALL j) = ALL U := by
  intro m
  induction m with
  | zero =>
    intro j f hm hj hf
    obtain ⟨f, rfl⟩ : ∃ g, f = g + 1 := ⟨f - 1, by omega⟩
    obtain rfl : j = U := by omega
    rw [HX1_allLikelihood_0_eq, if_pos (nI_le (Nat.le_refl _) (by omega))]
  | succ m ih =>
    intro j f hm hj hf
    obtain ⟨f, rfl⟩ : ∃ g, f = g + 1 := ⟨f - 1, by omega⟩
    have hn := ih (j + 1) f (by omega) (by omega) (by omega)
    rw [HX1_allLikelihood_0_eq, if_neg (show ¬ nI U ≤ nI j by rw [nI_leI (by omega) (by omega)]; omega)]
    simp only [lt_ap]
    rw [nI_o1]
    exact hn
theorem al_eq {U : Nat} (hU : U ≤ 4) : PX1_allLikelihood (nI U) = ALL U := by
  have e := al_loop hU U 0 (((2147483647 - (0 : Int32).toInt).toNat) + 1) rfl (by omega) (by rw [kc_0]; omega)
  rw [nI_0] at e
  rw [PX1_allLikelihood_eq]
  exact e
end F19
end
section
/-! odds and mean on both sides -/
section F20
section WQ
variable {N : Nat} {words unsures slips throne said unit : Int32} {kind parts pn wt tw uw uo r told st W W' o Q w ws steps below above : Nat → Int32}
theorem ts1_loop (hC : CR N words unsures slips throne said kind parts pn wt tw uw uo r told) (hS : StR N parts pn w o st) (hI : CI N unit kind parts pn wt ws steps below above) (hR : ROk r) {U s t : Nat} (hU : U ≤ 4) (hu : unsures = nI U) (hs : s < 16) (hth : r 6 = nI t) (ht : t < N) {p0 : Int32} {A E S : Int64} {T : Nat → Int32} {K : Int32 → Int64 → Int64 → Int64 → (Nat → Int32) → Int64 × Int64 × Int64 × (Nat → Int32)} : ∀ (m j f : Nat), U - j = m → j ≤ U → m < f → ∃ T' : Nat → Int32, HX7_trySlips_1 r told st unit (-1) p0 (nI s) A E S T K f (nI j) (LKL slips s j) = K (nI (s + 1)) (A + LKL slips s U) (if TU unit kind parts pn wt ws uw uo w U t s < p0 * unit then E else E + LKL slips s U) (S + LKL slips s U * (TU unit kind parts pn wt ws uw uo w U t s).toInt64) T' := by
  have h3 : r 3 = nI U := hC.2.2.2.2.1.trans hu
  have h0 : r 0 = slips := hC.2.2.2.2.2.1
  have z0 : (0 : Int32).toNatClampNeg = 0 := by decide
  intro m
  induction m with
  | zero =>
    intro j f hm hj hf
    obtain ⟨f, rfl⟩ : ∃ g, f = g + 1 := ⟨f - 1, by omega⟩
    obtain rfl : j = U := by omega
    obtain ⟨Q', e, hQ'⟩ := tu7 hC hR hU hu hs hS T
    have hv : PX7_throneBy r told unit (-1) Q' = TU unit kind parts pn wt ws uw uo w j t s := tv_eq hC hQ' hI hR ht hth
    refine ⟨Q', ?_⟩
    rw [HX7_trySlips_1_eq, lt_ap, three_cl, h3, if_pos (nI_le (Nat.le_refl _) (by omega)), e]
    simp only [lt_ap]
    rw [hv, nI_o1]
    by_cases c : TU unit kind parts pn wt ws uw uo w j t s < p0 * unit
    · rw [if_pos c, if_pos c, Int64.add_zero]
    · rw [if_neg c, if_neg c]
  | succ m ih =>
    intro j f hm hj hf
    obtain ⟨f, rfl⟩ : ∃ g, f = g + 1 := ⟨f - 1, by omega⟩
    obtain ⟨T', hn⟩ := ih (j + 1) f (by omega) (by omega) (by omega)
    refine ⟨T', ?_⟩
    rw [HX7_trySlips_1_eq, lt_ap, three_cl, h3, if_neg (show ¬ nI U ≤ nI j by rw [nI_leI (by omega) (by omega)]; omega)]
    simp only [lt_ap]
    rw [hasBit_eq (by omega) (by omega), nI_o1, z0, h0]
    by_cases c : s.testBit j = true
    · rw [if_pos c, if_neg (show ¬ (1 : Int32) = 0 by decide)]
      rw [LKL, if_pos c] at hn; exact hn
    · rw [if_neg c, if_pos rfl]
      rw [LKL, if_neg c] at hn; exact hn
theorem ts0_loop (hC : CR N words unsures slips throne said kind parts pn wt tw uw uo r told) (hS : StR N parts pn w o st) (hI : CI N unit kind parts pn wt ws steps below above) (hR : ROk r) {U t : Nat} (hU : U ≤ 4) (hu : unsures = nI U) (hth : r 6 = nI t) (ht : t < N) {p0 : Int32} : ∀ (m s f : Nat) (T : Nat → Int32), 2 ^ U - s = m → s ≤ 2 ^ U → m < f → ∃ T' : Nat → Int32, HX7_trySlips_0 r told st unit (-1) p0 f (nI s) (AAs slips U s) (EEs slips U (TU unit kind parts pn wt ws uw uo w U t) (p0 * unit) s) (SSs slips U (TU unit kind parts pn wt ws uw uo w U t) s) T = (AAs slips U (2 ^ U), EEs slips U (TU unit kind parts pn wt ws uw uo w U t) (p0 * unit) (2 ^ U), SSs slips U (TU unit kind parts pn wt ws uw uo w U t) (2 ^ U), T') := by
  have h16 := u16 hU
  have h3 : r 3 = nI U := hC.2.2.2.2.1.trans hu
  intro m
  induction m with
  | zero =>
    intro s f T hm hs hf
    obtain ⟨f, rfl⟩ : ∃ g, f = g + 1 := ⟨f - 1, by omega⟩
    obtain rfl : s = 2 ^ U := by omega
    refine ⟨T, ?_⟩
    rw [HX7_trySlips_0_eq]
    simp only [lt_ap]
    rw [three_cl, h3, bt_shl U (by omega), if_pos (nI_le (Nat.le_refl _) (by omega))]
  | succ m ih =>
    intro s f T hm hs hf
    obtain ⟨f, rfl⟩ : ∃ g, f = g + 1 := ⟨f - 1, by omega⟩
    obtain ⟨T1, e1⟩ := ts1_loop hC hS hI hR hU hu (show s < 16 by omega) hth ht (p0 := p0) (A := AAs slips U s) (E := EEs slips U (TU unit kind parts pn wt ws uw uo w U t) (p0 * unit) s) (S := SSs slips U (TU unit kind parts pn wt ws uw uo w U t) s) (T := T) (K := fun z_11205 z_11206 z_11207 z_11208 f_11209 => HX7_trySlips_0 r told st unit (-1) p0 f z_11205 z_11206 z_11207 z_11208 f_11209) U 0 ((((r 3).toInt - (0 : Int32).toInt).toNat) + 1) rfl (by omega) (by rw [h3, nI_toInt (by omega), kc_0]; omega)
    obtain ⟨T2, e2⟩ := ih (s + 1) f T1 (by omega) (by omega) (by omega)
    refine ⟨T2, ?_⟩
    rw [HX7_trySlips_0_eq]
    simp only [lt_ap]
    rw [three_cl, h3, bt_shl U (by omega), if_neg (show ¬ nI (2 ^ U) ≤ nI s by rw [nI_leI (by omega) (by omega)]; omega)]
    rw [h3, nI_0] at e1
    rw [AAs, EEs, SSs] at e2
    exact e1.trans e2
theorem ts_eq (hC : CR N words unsures slips throne said kind parts pn wt tw uw uo r told) (hS : StR N parts pn w o st) (hI : CI N unit kind parts pn wt ws steps below above) (hR : ROk r) {U t : Nat} (hU : U ≤ 4) (hu : unsures = nI U) (hth : r 6 = nI t) (ht : t < N) (p0 : Int32) (T : Nat → Int32) : ∃ T' : Nat → Int32, PX7_trySlips r told st unit (-1) T p0 = (AAs slips U (2 ^ U), EEs slips U (TU unit kind parts pn wt ws uw uo w U t) (p0 * unit) (2 ^ U), SSs slips U (TU unit kind parts pn wt ws uw uo w U t) (2 ^ U), T') := by
  have h16 := u16 hU
  have h3 : r 3 = nI U := hC.2.2.2.2.1.trans hu
  have hp : ((2 : Int) ^ (r 3).toInt.toNat - (0 : Int32).toInt).toNat = 2 ^ U := by
    rw [h3, nI_toInt (by omega), kc_0, Int.toNat_natCast, Int.sub_zero, show (2 : Int) ^ U = ((2 ^ U : Nat) : Int) by rw [Int.natCast_pow]; rfl, Int.toNat_natCast]
  obtain ⟨T', e⟩ := ts0_loop hC hS hI hR hU hu hth ht (p0 := p0) (2 ^ U) 0 (2 ^ U + 1) T rfl (by omega) (by omega)
  refine ⟨T', ?_⟩
  rw [PX7_trySlips_eq, hp]
  rw [nI_0] at e
  exact e
theorem od_loop (hC : CR N words unsures slips throne said kind parts pn wt tw uw uo r told) (hI : CI N unit kind parts pn wt ws steps below above) (hR : ROk r) {U t : Nat} (hU : U ≤ 4) (hu : ∀ j : Nat, j < U → 0 ≤ (uo j).toInt ∧ (uo j).toInt ≤ 99) (hd : ∀ j : Nat, j < U → (uw j).toNatClampNeg < 18) (hW : ∀ k : Nat, k < N → kind k = 0 → 0 ≤ (w k).toInt ∧ (w k).toInt ≤ 99) (hun : 1 ≤ unit.toInt ∧ unit.toInt ≤ 1296) (hth : throne = nI t) (ht : t < N) {p0 p1 x : Int32} : ∀ (m s f : Nat) (V S : Nat → Int32), 2 ^ U - s = m → s ≤ 2 ^ U → m < f → ∃ L' G' : Nat → Int32, HX6_odds_0 (nI N) (nI U) slips throne unit kind parts pn wt ws uw uo w p0 p1 x f (nI s) (EEs slips U (TU unit kind parts pn wt ws uw uo w U t) (p0 * unit) s) V S = (PX6_inLowestTerms (EEs slips U (TU unit kind parts pn wt ws uw uo w U t) (p0 * unit) (2 ^ U)) (ALL U) p1, x, L', G') := by
  have h16 := u16 hU
  intro m
  induction m with
  | zero =>
    intro s f V S hm hs hf
    obtain ⟨f, rfl⟩ : ∃ g, f = g + 1 := ⟨f - 1, by omega⟩
    obtain rfl : s = 2 ^ U := by omega
    refine ⟨V, S, ?_⟩
    rw [HX6_odds_0_eq, lt_ap, us_eq hU, if_pos (nI_le (Nat.le_refl _) (by omega))]
    simp only [lt_ap]
    rw [al_eq hU]
  | succ m ih =>
    intro s f V S hm hs hf
    obtain ⟨f, rfl⟩ : ∃ g, f = g + 1 := ⟨f - 1, by omega⟩
    obtain ⟨L1, G1, e⟩ := tu6 hC hI hR hU hu hd hW (show s < 16 by omega) hun hth ht V S
    obtain ⟨L', G', hn⟩ := ih (s + 1) f L1 G1 (by omega) (by omega) (by omega)
    refine ⟨L', G', ?_⟩
    rw [HX6_odds_0_eq, lt_ap, us_eq hU, if_neg (show ¬ nI (2 ^ U) ≤ nI s by rw [nI_leI (by omega) (by omega)]; omega), un3_eq e]
    simp only [lt_ap]
    rw [lkh_eq hU (by omega), nI_o1]
    rw [EEs] at hn
    by_cases c : TU unit kind parts pn wt ws uw uo w U t s < p0 * unit
    · rw [if_pos c] at hn ⊢; exact hn
    · rw [if_neg c] at hn ⊢; exact hn
theorem me_loop (hC : CR N words unsures slips throne said kind parts pn wt tw uw uo r told) (hI : CI N unit kind parts pn wt ws steps below above) (hR : ROk r) {U t : Nat} (hU : U ≤ 4) (hu : ∀ j : Nat, j < U → 0 ≤ (uo j).toInt ∧ (uo j).toInt ≤ 99) (hd : ∀ j : Nat, j < U → (uw j).toNatClampNeg < 18) (hW : ∀ k : Nat, k < N → kind k = 0 → 0 ≤ (w k).toInt ∧ (w k).toInt ≤ 99) (hun : 1 ≤ unit.toInt ∧ unit.toInt ≤ 1296) (hth : throne = nI t) (ht : t < N) {p0 x : Int32} : ∀ (m s f : Nat) (V S : Nat → Int32), 2 ^ U - s = m → s ≤ 2 ^ U → m < f → ∃ L' G' : Nat → Int32, HX6_mean_0 (nI N) (nI U) slips throne unit kind parts pn wt ws uw uo w p0 x f (nI s) (SSs slips U (TU unit kind parts pn wt ws uw uo w U t) s) V S = (PX6_inLowestTerms (SSs slips U (TU unit kind parts pn wt ws uw uo w U t) (2 ^ U)) (ALL U * unit.toInt64) p0, x, L', G') := by
  have h16 := u16 hU
  intro m
  induction m with
  | zero =>
    intro s f V S hm hs hf
    obtain ⟨f, rfl⟩ : ∃ g, f = g + 1 := ⟨f - 1, by omega⟩
    obtain rfl : s = 2 ^ U := by omega
    refine ⟨V, S, ?_⟩
    rw [HX6_mean_0_eq, lt_ap, us_eq hU, if_pos (nI_le (Nat.le_refl _) (by omega))]
    simp only [lt_ap]
    rw [al_eq hU]
  | succ m ih =>
    intro s f V S hm hs hf
    obtain ⟨f, rfl⟩ : ∃ g, f = g + 1 := ⟨f - 1, by omega⟩
    obtain ⟨L1, G1, e⟩ := tu6 hC hI hR hU hu hd hW (show s < 16 by omega) hun hth ht V S
    obtain ⟨L', G', hn⟩ := ih (s + 1) f L1 G1 (by omega) (by omega) (by omega)
    refine ⟨L', G', ?_⟩
    rw [HX6_mean_0_eq, lt_ap, us_eq hU, if_neg (show ¬ nI (2 ^ U) ≤ nI s by rw [nI_leI (by omega) (by omega)]; omega), lt_ap, lkh_eq hU (by omega), un3_eq e]
    simp only [lt_ap]
    rw [nI_o1]
    rw [SSs] at hn
    exact hn
theorem TU_in (hC : CR N words unsures slips throne said kind parts pn wt tw uw uo r told) (hI : CI N unit kind parts pn wt ws steps below above) (hR : ROk r) {U t : Nat} (hU : U ≤ 4) (hu : ∀ j : Nat, j < U → 0 ≤ (uo j).toInt ∧ (uo j).toInt ≤ 99) (hW : ∀ k : Nat, k < N → kind k = 0 → 0 ≤ (w k).toInt ∧ (w k).toInt ≤ 99) (hun : 1 ≤ unit.toInt ∧ unit.toInt ≤ 1296) (ht : t < N) (s : Nat) : 0 ≤ (TU unit kind parts pn wt ws uw uo w U t s).toInt ∧ (TU unit kind parts pn wt ws uw uo w U t s).toInt ≤ 128304 := by
  have hN := hI.1
  exact VV_in hC hI hR (SW_in (uw := uw) (s := s) hU hu hW U (Nat.le_refl _)) hun t 18 (by omega) ht
end WQ
section FJ
variable {nodes words unsures slips throne said : Int32} {kind parts pn wt tw uw uo w o : Nat → Int32} {ic : Int32} {iw0 io0 iw1 io1 iw2 io2 : Nat → Int32} {ac : Int32} {an ao as : Nat → Int32} {hc : Int32} {r told st und kept : Nat → Int32} {undos images : Int32} {unit : Int32} {ws steps below above : Nat → Int32} {scale night : Int32}
theorem odds_join (h : Rel nodes words unsures slips throne said kind parts pn wt tw uw uo w o ic iw0 io0 iw1 io1 iw2 io2 ac an ao as hc r told st und kept undos images) (hx : CIS nodes unit kind parts pn wt ws steps below above) (hs : PX7_layScale r = scale) (hM : ROk r ∧ RowOk r st ∧ RowOk r told ∧ WorOk st ∧ night.toInt = -1 ∧ 1 ≤ scale.toInt ∧ scale.toInt ≤ 1296) (hT : WorOk told) (hu9 : ∀ j : Nat, j < 4 → 0 ≤ (r (118 + 2 * j)).toInt ∧ (r (118 + 2 * j)).toInt ≤ 99) {lv lv' lu lu' T T' : Nat → Int32} {p0 p1 rf t1 t2 : Int32} {q6 q7 aw ew sm aw' ew' sm' : Int64} (e6 : PX6_odds nodes unsures slips throne unit kind parts pn wt ws uw uo w lv lu p0 p1 = (q6, rf, lv', lu')) (e7 : PX7_odds hc r told st scale night T aw ew sm p0 p1 = (q7, t1, t2, aw', ew', sm', T')) : q6 = q7 ∧ rf = t2 := by
  obtain ⟨hR, hQ, hQt, hW, hnt, hsc⟩ := hM
  obtain rfl : night = -1 := (fz_eq _ _).mpr (hnt.trans (by decide))
  have k99 : (99 : Int32).toInt = 99 := by decide
  have key : ∃ (q : Int64) (f t : Int32) (a1 a2 a3 : Int64) (a b c : Nat → Int32), PX6_odds nodes unsures slips throne unit kind parts pn wt ws uw uo w lv lu p0 p1 = (q, f, a, b) ∧ PX7_odds hc r told st scale (-1) T aw ew sm p0 p1 = (q, t, f, a1, a2, a3, c) := by
    rcases h with ⟨rfl, h0⟩ | ⟨N, c, d, rfl, rfl, rfl, rfl, hc, rfl, rfl, hd, hC, hS, hU, hI⟩
    · obtain ⟨h2, h3, h4, h5, h6, h7, rfl, h8, h9⟩ := h0
      refine ⟨-1, 1, 0, aw, ew, sm, lv, lu, T, ?_, ?_⟩
      · rw [PX6_odds_eq, ln_0, un2_eq rfl, if_neg (show ¬ (1 : Int32) = 0 by decide)]
      · rw [PX7_odds_eq, PX7_good_eq, un2_eq rfl]
        simp only [lt_ap]
        rw [why_0, if_neg (show ¬ (1 : Int32) = 0 by decide), if_pos rfl, no_eq, un2_eq rfl, l2_no]
    · obtain ⟨hN0, hN, hr⟩ := hC.N
      obtain ⟨M, hM, hX⟩ := hx
      obtain rfl : N = M := (nI_eq (by omega) (by have := hX.1; omega)).mp hM
      obtain rfl : unit = scale := (ls_eq hC hX).symm.trans hs
      obtain ⟨U, t, p, hU4, hu, h3, t1, t2, ht6, hu0, hd0, -, -⟩ := us_pre hC hX hR hsc hT hu9
      have h16 := u16 hU4
      have hsl : 0 ≤ slips.toInt ∧ slips.toInt ≤ 100 := by have q := hR.slips; rw [hC.2.2.2.2.2.1] at q; exact q
      have hWw := w_in hC hS hW
      by_cases c0 : 0 ≤ p0.toInt ∧ p0.toInt ≤ 99
      · obtain ⟨T', e7'⟩ := ts_eq hC hS hX hR hU4 hu ht6 t1 p0 T
        obtain ⟨L', G', e6'⟩ := od_loop (slips := slips) hC hX hR hU4 hu0 hd0 hWw hsc t2 t1 (p0 := p0) (p1 := p1) (x := 0) (2 ^ U) 0 (((2147483647 - (0 : Int32).toInt).toNat) + 1) lv lu rfl (by omega) (by rw [kc_0]; omega)
        rw [nI_0] at e6'
        have hE := EEs_in (T := TU unit kind parts pn wt ws uw uo w U t) (x := p0 * unit) hsl hU4 (2 ^ U) h16.2
        have hA := all_i U hU4
        have q := p100 hU4
        refine ⟨PX6_inLowestTerms (EEs slips U (TU unit kind parts pn wt ws uw uo w U t) (p0 * unit) (2 ^ U)) (ALL U) p1, 0, 0, AAs slips U (2 ^ U), EEs slips U (TU unit kind parts pn wt ws uw uo w U t) (p0 * unit) (2 ^ U), SSs slips U (TU unit kind parts pn wt ws uw uo w U t) (2 ^ U), L', G', T', ?_, ?_⟩
        · rw [PX6_odds_eq, ln_N hN0 hN, kc_0, k99, if_pos c0, un2_eq rfl, if_pos rfl, hu]
          exact e6'
        · rw [PX7_odds_eq, PX7_good_eq, un2_eq rfl]
          simp only [lt_ap]
          rw [in_eq, kc_0, k99, if_pos c0, why_n, if_neg (show ¬ (1 : Int32) = 0 by decide), if_pos rfl, un4_eq e7', AAs_eq hsl hU4, lowest_eq hE.1 (by rw [hA]; omega)]
      · refine ⟨-1, 2, 0, aw, ew, sm, lv, lu, T, ?_, ?_⟩
        · rw [PX6_odds_eq, ln_N hN0 hN, kc_0, k99, if_neg c0, un2_eq rfl, if_neg (show ¬ (1 : Int32) = 0 by decide)]
        · rw [PX7_odds_eq, PX7_good_eq, un2_eq rfl]
          simp only [lt_ap]
          rw [in_eq, kc_0, k99, if_neg c0, why_n, if_pos rfl, if_neg (show ¬ (2 : Int32) = 0 by decide), if_neg (show ¬ (2 : Int32) = 1 by decide), no_eq, un2_eq rfl, l2_no]
  obtain ⟨q, f, t, a1, a2, a3, a, b, c, g6, g7⟩ := key
  have x := g6.symm.trans e6
  have y := g7.symm.trans e7
  simp only [Prod.mk.injEq] at x y
  obtain ⟨rfl, rfl, -⟩ := x
  obtain ⟨rfl, -, rfl, -⟩ := y
  exact ⟨rfl, rfl⟩
theorem mean_join (h : Rel nodes words unsures slips throne said kind parts pn wt tw uw uo w o ic iw0 io0 iw1 io1 iw2 io2 ac an ao as hc r told st und kept undos images) (hx : CIS nodes unit kind parts pn wt ws steps below above) (hs : PX7_layScale r = scale) (hM : ROk r ∧ RowOk r st ∧ RowOk r told ∧ WorOk st ∧ night.toInt = -1 ∧ 1 ≤ scale.toInt ∧ scale.toInt ≤ 1296) (hT : WorOk told) (hu9 : ∀ j : Nat, j < 4 → 0 ≤ (r (118 + 2 * j)).toInt ∧ (r (118 + 2 * j)).toInt ≤ 99) {lv lv' lu lu' T T' : Nat → Int32} {p0 rf t1 t2 : Int32} {q6 q7 aw ew sm aw' ew' sm' : Int64} (e6 : PX6_mean nodes unsures slips throne unit kind parts pn wt ws uw uo w lv lu p0 = (q6, rf, lv', lu')) (e7 : PX7_mean hc r told st scale night T aw ew sm p0 = (q7, t1, t2, aw', ew', sm', T')) : q6 = q7 ∧ rf = t2 := by
  obtain ⟨hR, hQ, hQt, hW, hnt, hsc⟩ := hM
  obtain rfl : night = -1 := (fz_eq _ _).mpr (hnt.trans (by decide))
  have key : ∃ (q : Int64) (f t : Int32) (a1 a2 a3 : Int64) (a b c : Nat → Int32), PX6_mean nodes unsures slips throne unit kind parts pn wt ws uw uo w lv lu p0 = (q, f, a, b) ∧ PX7_mean hc r told st scale (-1) T aw ew sm p0 = (q, t, f, a1, a2, a3, c) := by
    rcases h with ⟨rfl, h0⟩ | ⟨N, c, d, rfl, rfl, rfl, rfl, hc, rfl, rfl, hd, hC, hS, hU, hI⟩
    · obtain ⟨h2, h3, h4, h5, h6, h7, rfl, h8, h9⟩ := h0
      refine ⟨-1, 1, 0, aw, ew, sm, lv, lu, T, ?_, ?_⟩
      · rw [PX6_mean_eq, lc_0, un2_eq rfl, if_neg (show ¬ (1 : Int32) = 0 by decide)]
      · rw [PX7_mean_eq, PX7_good_eq, un2_eq rfl, if_pos rfl, no_eq, un2_eq rfl, lt_ap, l2_no]
    · obtain ⟨hN0, hN, hr⟩ := hC.N
      obtain ⟨M, hM, hX⟩ := hx
      obtain rfl : N = M := (nI_eq (by omega) (by have := hX.1; omega)).mp hM
      obtain rfl : unit = scale := (ls_eq hC hX).symm.trans hs
      obtain ⟨U, t, p, hU4, hu, h3, t1, t2, ht6, hu0, hd0, -, -⟩ := us_pre hC hX hR hsc hT hu9
      have h16 := u16 hU4
      have hsl : 0 ≤ slips.toInt ∧ slips.toInt ≤ 100 := by have q := hR.slips; rw [hC.2.2.2.2.2.1] at q; exact q
      have hWw := w_in hC hS hW
      obtain ⟨T', e7'⟩ := ts_eq hC hS hX hR hU4 hu ht6 t1 0 T
      obtain ⟨L', G', e6'⟩ := me_loop (slips := slips) hC hX hR hU4 hu0 hd0 hWw hsc t2 t1 (p0 := p0) (x := 0) (2 ^ U) 0 (((2147483647 - (0 : Int32).toInt).toNat) + 1) lv lu rfl (by omega) (by rw [kc_0]; omega)
      rw [nI_0] at e6'
      have hE := SSs_in (T := TU unit kind parts pn wt ws uw uo w U t) hsl hU4 (fun s _ => TU_in hC hX hR hU4 hu0 hWw hsc t1 s) (2 ^ U) h16.2
      have hA := all_i U hU4
      have q := p100 hU4
      have hD : (ALL U * unit.toInt64).toInt = ((100 ^ U : Nat) : Int) * unit.toInt := by
        have m1 : ((100 ^ U : Nat) : Int) * unit.toInt ≤ 100000000 * 1296 := Int.mul_le_mul (by omega) hsc.2 (by omega) (by decide)
        have m0 : 0 ≤ ((100 ^ U : Nat) : Int) * unit.toInt := Int.mul_nonneg (by omega) (by omega)
        rw [fb_mulL (by rw [hA, Int32.toInt_toInt64]; omega) (by rw [hA, Int32.toInt_toInt64]; omega), hA, Int32.toInt_toInt64]
      have hD1 : 1 ≤ (ALL U * unit.toInt64).toInt := by
        rw [hD]
        exact Int.le_trans (show (1 : Int) ≤ 1 * 1 by decide) (Int.mul_le_mul (by omega) hsc.1 (by decide) (by omega))
      refine ⟨PX6_inLowestTerms (SSs slips U (TU unit kind parts pn wt ws uw uo w U t) (2 ^ U)) (ALL U * unit.toInt64) p0, 0, 0, AAs slips U (2 ^ U), EEs slips U (TU unit kind parts pn wt ws uw uo w U t) (0 * unit) (2 ^ U), SSs slips U (TU unit kind parts pn wt ws uw uo w U t) (2 ^ U), L', G', T', ?_, ?_⟩
      · rw [PX6_mean_eq, lc_N hN0 hN, un2_eq rfl, if_pos rfl, hu]
        exact e6'
      · rw [PX7_mean_eq, PX7_good_eq, un2_eq rfl, if_neg (show ¬ (1 : Int32) = 0 by decide), un4_eq e7']
        simp only [lt_ap]
        rw [AAs_eq hsl hU4, lowest_eq hE.1 hD1]
  obtain ⟨q, f, t, a1, a2, a3, a, b, c, g6, g7⟩ := key
  have x := g6.symm.trans e6
  have y := g7.symm.trans e7
  simp only [Prod.mk.injEq] at x y
  obtain ⟨rfl, rfl, -⟩ := x
  obtain ⟨rfl, -, rfl, -⟩ := y
  exact ⟨rfl, rfl⟩
end FJ
end F20
end
