/-! hearing: what both sides have heard and cut, a part cut off, a ruler's step -/
section G1
/-- bounds as both sides have them: the same one, or below (above) all worths -/
def LoR (X : Int) (a b : Int32) : Prop := (a = b ∧ 0 ≤ a.toInt ∧ a.toInt ≤ X) ∨ (a.toInt = -1 ∧ b.toInt = -100000000)
def HiR (X : Int) (a b : Int32) : Prop := (a = b ∧ 0 ≤ a.toInt ∧ a.toInt ≤ X) ∨ (X < a.toInt ∧ b.toInt = 100000000)
/-- the words heard, as bits -/
def hO (h : Nat → Int32) : Nat → Int32
  | 0 => 0
  | b + 1 => hO h b ||| ((1 : Int32) <<< (h b &&& 31))
theorem hO_congr {h h' : Nat → Int32} : ∀ b : Nat, (∀ x : Nat, x < b → h' x = h x) → hO h' b = hO h b
  | 0, _ => rfl
  | b + 1, e => by rw [hO, hO, hO_congr b (fun x hx => e x (by omega)), e b (by omega)]
def HS (b c : Nat) (bits : Int32) (hw cp hr cr : Nat → Int32) : Prop := (∀ x : Nat, x < b → hw x = hr x) ∧ (∀ x : Nat, x < c → cp x = cr x) ∧ bits = hO hr b
/-- both sides hear the same, and no more than W breaths and cuts -/
def HOut (W : Nat) (X : Int) (b0 c0 : Nat) (R6 : Int32 × Int32 × Int32 × Int32 × (Nat → Int32) × (Nat → Int32)) (R7 : Int32 × Int32 × Int32 × (Nat → Int32) × (Nat → Int32)) : Prop := ∃ (v : Int32) (b c : Nat) (bits : Int32) (hw cp hr cr : Nat → Int32), R6 = (v, nI b, bits, nI c, hw, cp) ∧ R7 = (v, nI b, nI c, hr, cr) ∧ (0 ≤ v.toInt ∧ v.toInt ≤ X) ∧ b + c ≤ b0 + c0 + W ∧ HS b c bits hw cp hr cr
theorem un6_id {A0 A1 A2 A3 A4 A5 : Type} (t : A0 × A1 × A2 × A3 × A4 × A5) : un6_ t (fun a b c d e f => (a, b, c, d, e, f)) = t := by
  obtain ⟨a, b, c, d, e, f⟩ := t
  exact un6_eq rfl
theorem un5_id {A0 A1 A2 A3 A4 : Type} (t : A0 × A1 × A2 × A3 × A4) : un5_ t (fun a b c d e => (a, b, c, d, e)) = t := by
  obtain ⟨a, b, c, d, e⟩ := t
  exact un5_eq rfl
/-- how high a node stands among the rulers -/
def hgt (r : Nat → Int32) (k : Nat) : Nat := if (r (9 + k)).toInt = 0 then 0 else rkI r k + 1
section WQ
variable {N : Nat} {words unsures slips throne said unit : Int32} {kind parts pn wt tw uw uo r told W o Q ws steps below above : Nat → Int32}
theorem pq_eq (hS : StR N parts pn W o Q) (hN : N ≤ 18) {k i q : Nat} (hk : k < N) (hp : parts k = nI q) (hq : q ≤ 4) (hi : i < q) : PX5_partAt o pn (nI k) (nI i) = Q (4 * k + i) := by
  obtain ⟨-, h1, -⟩ := hS k hk
  rw [hp, nI_toInt (by omega)] at h1
  obtain ⟨a, b, c⟩ := h1 i (by omega)
  rw [pt_eq (by omega) (by omega) a (by omega)]
  exact c
theorem wg_eq {k i : Nat} (hk : k < 18) (hi : i < 4) (h0 : 0 ≤ (o (4 * k + i)).toInt) (h3 : (o (4 * k + i)).toInt ≤ 3) : PX5_weightAt o wt (nI k) (nI i) = wt (4 * k + (o (4 * k + i)).toInt.toNat) := by
  rw [PX5_weightAt_eq]
  simp only [lt_ap]
  rw [nI_m4 (by omega), nI_add, nI_clamp (show 4 * k + i < 2 ^ 31 by omega)]
  have e : o (4 * k + i) = nI (o (4 * k + i)).toInt.toNat := by rw [fz_eq, nI_toInt (by omega)]; omega
  have e2 : nI (4 * k) + o (4 * k + i) = nI (4 * k + (o (4 * k + i)).toInt.toNat) := by rw [← nI_add, ← e]
  rw [e2, nI_clamp (by omega)]
/-- a part as it stands now -/
theorem hp_at (hC : CR N words unsures slips throne said kind parts pn wt tw uw uo r told) (hS : StR N parts pn W o Q) {k i q : Nat} (hk : k < N) (hp : parts k = nI q) (hD : ND k q kind pn wt ws steps below) (hi : i < q) : ∃ j : Nat, j < k ∧ (o (4 * k + i)).toInt.toNat < q ∧ PX5_partAt o pn (nI k) (nI i) = nI j ∧ Q (4 * k + i) = nI j ∧ PX5_weightAt o wt (nI k) (nI i) = wt (4 * k + (o (4 * k + i)).toInt.toNat) ∧ PX7_weightOf r told (nI k) (nI j) = wt (4 * k + (o (4 * k + i)).toInt.toNat) := by
  have hN := hC.N.2.1
  have hq := hD.1
  have hS2 := hS
  obtain ⟨-, h1, -⟩ := hS k hk
  rw [hp, nI_toInt (by omega)] at h1
  obtain ⟨a, b, c⟩ := h1 i (by omega)
  obtain ⟨j, j1, j2⟩ := hD.2.2.2.2.1 (o (4 * k + i)).toInt.toNat (by omega)
  have e := c.symm.trans j2
  refine ⟨j, j1, by omega, (pq_eq hS2 hN hk hp hq hi).trans e, e, wg_eq (by omega) (by omega) a (by omega), ?_⟩
  rw [← j2]
  exact wo_eq hC hk hp hD (by omega)
/-- the reference's row keeps what a hearing wants to know -/
theorem row_of (hC : CR N words unsures slips throne said kind parts pn wt tw uw uo r told) (hS : StR N parts pn W o Q) (hI : CI N unit kind parts pn wt ws steps below above) : RowOk r Q := by
  obtain ⟨hN0, hN, hr⟩ := hC.N
  have hk' : ∀ k : Nat, (k : Int) < (r 1).toInt → k < N := fun k h => by
    rw [hr, nI_toInt (by omega)] at h
    omega
  refine ⟨fun k i hk hi => ?_, fun k i j hk hij hj => ?_⟩
  · have hk := hk' k hk
    obtain ⟨q, hp, hD⟩ := hI.2.1 k hk
    have hq := hD.1
    rw [many_q hC hk hp, nI_toInt (by omega)] at hi
    obtain ⟨j, j1, -, -, j2, -⟩ := hp_at hC hS hk hp hD (i := i) (by omega)
    rw [j2, nI_toInt (by omega)]
    omega
  · have hk := hk' k hk
    obtain ⟨q, hp, hD⟩ := hI.2.1 k hk
    have hq := hD.1
    rw [many_q hC hk hp, nI_toInt (by omega)] at hj
    obtain ⟨s, s1, s2, s3⟩ := st_perm hS hk hp hq
    rw [s3 i (by omega), s3 j (by omega)]
    have hne : ¬ s i = s j := fun e => by
      have := s2 i j (by omega) (by omega) e
      omega
    have a := s1 i (by omega)
    have b := s1 j (by omega)
    rcases Nat.lt_or_ge (s i) (s j) with c | c
    · exact hD.2.2.2.2.2 (s i) (s j) c b
    · exact fun e => hD.2.2.2.2.2 (s j) (s i) (by omega) a e.symm
theorem hgt_lt {k j : Nat} (hk : ¬ (r (9 + k)).toInt = 0) (hj : j < k) : hgt r j + 1 ≤ hgt r k := by
  unfold hgt
  rw [if_neg hk]
  by_cases c : (r (9 + j)).toInt = 0
  · rw [if_pos c]; omega
  · rw [if_neg c]
    have h : rkI r j + 1 ≤ rkI r k := cntP_lt (P := fun j => (r (9 + j)).toInt ≠ 0) hj c
    omega
theorem cut_sim (hS : StR N parts pn W o Q) (hN : N ≤ 18) {k q : Nat} {v : Int32} (hk : k < N) (hp : parts k = nI q) (hq : q ≤ 4) (hm : r (27 + k) = nI q) : ∀ (m i f6 f7 c : Nat) (cp cr : Nat → Int32), q - i = m → i ≤ q → m < f6 → m < f7 → c + m ≤ 512 → (∀ x : Nat, x < c → cp x = cr x) → ∃ cp' cr' : Nat → Int32, HX2_noteCuts_0 parts pn o (nI k) f6 (nI i) (nI c) cp = (nI (c + m), cp') ∧ HX7_cutFrom_0 r Q (nI k) v f7 (nI i) (nI c) cr = (v, nI (c + m), cr') ∧ ∀ x : Nat, x < c + m → cp' x = cr' x := by
  intro m
  induction m with
  | zero =>
    intro i f6 f7 c cp cr hd hi h6 h7 hc hx
    obtain ⟨f6, rfl⟩ : ∃ g, f6 = g + 1 := ⟨f6 - 1, by omega⟩
    obtain ⟨f7, rfl⟩ : ∃ g, f7 = g + 1 := ⟨f7 - 1, by omega⟩
    obtain rfl : i = q := by omega
    refine ⟨cp, cr, ?_, ?_, hx⟩
    · rw [HX2_noteCuts_0_eq, lt_ap, nI_clamp (show k < 2 ^ 31 by omega), hp, if_pos (nI_le (Nat.le_refl _) (by omega)), Nat.add_zero]
    · rw [HX7_cutFrom_0_eq]
      simp only [lt_ap]
      rw [show (27 : Int32) + nI k = nI (27 + k) from nI_add 27 k, nI_clamp (show 27 + k < 2 ^ 31 by omega), hm, if_pos (nI_le (Nat.le_refl _) (by omega)), Nat.add_zero]
  | succ m ih =>
    intro i f6 f7 c cp cr hd hi h6 h7 hc hx
    obtain ⟨f6, rfl⟩ : ∃ g, f6 = g + 1 := ⟨f6 - 1, by omega⟩
    obtain ⟨f7, rfl⟩ : ∃ g, f7 = g + 1 := ⟨f7 - 1, by omega⟩
    obtain ⟨cp', cr', a, b, e⟩ := ih (i + 1) f6 f7 (c + 1) (upd cp c (Q (4 * k + i))) (upd cr c (Q (4 * k + i))) (by omega) (by omega) (by omega) (by omega) (by omega) (fun x hx2 => by
      by_cases y : x = c
      · rw [y, upd_at, upd_at]
      · rw [upd_ne y, upd_ne y]; exact hx x (by omega))
    rw [show c + (m + 1) = c + 1 + m by omega]
    refine ⟨cp', cr', ?_, ?_, e⟩
    · rw [HX2_noteCuts_0_eq]
      simp only [lt_ap]
      rw [nI_clamp (show k < 2 ^ 31 by omega), hp, if_neg (show ¬ nI q ≤ nI i by rw [nI_leI (by omega) (by omega)]; omega), if_neg (show ¬ (512 : Int32) ≤ nI c by rw [show (512 : Int32) = nI 512 by decide, nI_leI (by omega) (by omega)]; omega), pq_eq hS hN hk hp hq (by omega), nI_clamp (show c < 2 ^ 31 by omega), nI_1 c, nI_o1]
      exact a
    · rw [HX7_cutFrom_0_eq]
      simp only [lt_ap]
      rw [show (27 : Int32) + nI k = nI (27 + k) from nI_add 27 k, nI_clamp (show 27 + k < 2 ^ 31 by omega), hm, if_neg (show ¬ nI q ≤ nI i by rw [nI_leI (by omega) (by omega)]; omega), nI_m4' (by omega), nI_add, nI_clamp (show 4 * k + i < 2 ^ 31 by omega), nI_clamp (show c < 2 ^ 31 by omega), nI_1 c, nI_o1]
      exact b
end WQ
/-! a ruler's step -/
section KS
variable {F6 : Int32 → Int32 → (Nat → Int32) → (Nat → Int32) → (Nat → Int32) → (Nat → Int32) → (Nat → Int32) → (Nat → Int32) → (Nat → Int32) → Int32 → Int32 → Int32 → (Nat → Int32) → (Nat → Int32) → Int32 → Int32 → Int32 → Int32 → Int32 × Int32 × Int32 × Int32 × (Nat → Int32) × (Nat → Int32)} {F7 : (Nat → Int32) → (Nat → Int32) → Int32 → (Nat → Int32) → Int32 → Int32 → (Nat → Int32) → (Nat → Int32) → Int32 → Int32 → Int32 → Int32 × Int32 × Int32 × (Nat → Int32) × (Nat → Int32)} {nodes un : Int32} {kind parts pn wt ws w o r told Q hw cp hr cr hw' cp' hr' cr' : Nat → Int32} {k d i q f : Nat} {hi got lo n b c bits v b' c' bits' pt g hi7 lo7 : Int32}
theorem k6_step (hk : k < 2 ^ 31) (hp : parts k = nI q) (hq : q ≤ 4) (hi4 : i < q) (hpa : PX5_partAt o pn (nI k) (nI i) = pt) (e : F6 nodes un kind parts pn wt ws w o b bits c hw cp pt lo hi (nI (d + 1)) = (v, b', bits', c', hw', cp')) (hg : g = if i = 0 then v else if v ≤ got then got else v) : HX2_listenToRuler_0 F6 nodes un kind parts pn wt ws w o (nI k) (nI d) (f + 1) (nI i) hi got lo b bits c hw cp = if g < hi then HX2_listenToRuler_0 F6 nodes un kind parts pn wt ws w o (nI k) (nI d) f (nI (i + 1)) hi g (if lo < g then g else lo) b' bits' c' hw' cp' else un2_ (PX2_noteCuts c' cp' parts pn o (nI k) (nI (i + 1))) (fun x y => (g, b', bits', x, hw', y)) := by
  rw [HX2_listenToRuler_0_eq]
  simp only [lt_ap]
  rw [nI_clamp hk, hp, if_neg (show ¬ nI q ≤ nI i by rw [nI_leI (by omega) (by omega)]; omega), hpa, nI_1 d, un6_eq e, nI_o1, nI_1 i]
  by_cases hz : i = 0
  · rw [if_pos (show nI i = 0 by rw [hz]; exact nI_0), hg, if_pos hz]
  · rw [if_neg (show ¬ nI i = 0 from nI_ne0 (by omega) (by omega)), hg, if_neg hz]
    by_cases y : v ≤ got
    · rw [if_pos y, if_pos y]
    · rw [if_neg y, if_neg y]
theorem q6_step (hk : k < 2 ^ 31) (hp : parts k = nI q) (hq : q ≤ 4) (hi4 : i < q) (hpa : PX5_partAt o pn (nI k) (nI i) = pt) (e : F6 nodes un kind parts pn wt ws w o b bits c hw cp pt lo hi (nI (d + 1)) = (v, b', bits', c', hw', cp')) (hg : g = if i = 0 then v else if got ≤ v then got else v) : HX2_listenToRuler_1 F6 nodes un kind parts pn wt ws w o (nI k) (nI d) (f + 1) (nI i) hi got lo b bits c hw cp = if lo < g then HX2_listenToRuler_1 F6 nodes un kind parts pn wt ws w o (nI k) (nI d) f (nI (i + 1)) (if g < hi then g else hi) g lo b' bits' c' hw' cp' else un2_ (PX2_noteCuts c' cp' parts pn o (nI k) (nI (i + 1))) (fun x y => (g, b', bits', x, hw', y)) := by
  rw [HX2_listenToRuler_1_eq]
  simp only [lt_ap]
  rw [nI_clamp hk, hp, if_neg (show ¬ nI q ≤ nI i by rw [nI_leI (by omega) (by omega)]; omega), hpa, nI_1 d, un6_eq e, nI_o1, nI_1 i]
  by_cases hz : i = 0
  · rw [if_pos (show nI i = 0 by rw [hz]; exact nI_0), hg, if_pos hz]
  · rw [if_neg (show ¬ nI i = 0 from nI_ne0 (by omega) (by omega)), hg, if_neg hz]
    by_cases y : got ≤ v
    · rw [if_pos y, if_pos y]
    · rw [if_neg y, if_neg y]
theorem k7_step (hk : k < 18) (hq : q ≤ 4) (hi4 : i < q) (hQ : Q (4 * k + i) = pt) (e : F7 r told un Q b c hr cr pt (if n ≤ lo7 then lo7 else n) hi7 = (v, b', c', hr', cr')) (hg : g = if v ≤ n then n else v) : HX7_hear_1 F7 r told un Q (nI k) lo7 hi7 1 (nI q) (f + 1) (nI i) n b c hr cr = if g < hi7 then HX7_hear_1 F7 r told un Q (nI k) lo7 hi7 1 (nI q) f (nI (i + 1)) g b' c' hr' cr' else un3_ (PX7_cutFrom r cr' c' Q (nI k) (nI (i + 1)) g) (fun x y z => (x, b', y, hr', z)) := by
  rw [HX7_hear_1_eq, if_neg (show ¬ nI q ≤ nI i by rw [nI_leI (by omega) (by omega)]; omega)]
  simp only [lt_ap]
  rw [nI_m4' (by omega), nI_add, nI_clamp (show 4 * k + i < 2 ^ 31 by omega), hQ, if_neg (show ¬ (1 : Int32) = 3 by decide), if_pos trivial, nI_o1, nI_1 i, hg]
  by_cases y : n ≤ lo7
  · rw [if_pos y] at e
    rw [if_pos y, un5_eq e]
    by_cases z : v ≤ n
    · rw [if_pos z, if_pos z]
    · rw [if_neg z, if_neg z]
  · rw [if_neg y] at e
    rw [if_neg y, un5_eq e]
    by_cases z : v ≤ n
    · rw [if_pos z, if_pos z]
    · rw [if_neg z, if_neg z]
theorem q7_step (hk : k < 18) (hq : q ≤ 4) (hi4 : i < q) (hQ : Q (4 * k + i) = pt) (e : F7 r told un Q b c hr cr pt lo7 (if hi7 ≤ n then hi7 else n) = (v, b', c', hr', cr')) (hg : g = if n ≤ v then n else v) : HX7_hear_0 F7 r told un Q (nI k) lo7 hi7 2 (nI q) (f + 1) (nI i) n b c hr cr = if lo7 < g then HX7_hear_0 F7 r told un Q (nI k) lo7 hi7 2 (nI q) f (nI (i + 1)) g b' c' hr' cr' else un3_ (PX7_cutFrom r cr' c' Q (nI k) (nI (i + 1)) g) (fun x y z => (x, b', y, hr', z)) := by
  rw [HX7_hear_0_eq, if_neg (show ¬ nI q ≤ nI i by rw [nI_leI (by omega) (by omega)]; omega)]
  simp only [lt_ap]
  rw [nI_m4' (by omega), nI_add, nI_clamp (show 4 * k + i < 2 ^ 31 by omega), hQ, if_neg (show ¬ (2 : Int32) = 3 by decide), if_neg (show ¬ (2 : Int32) = 1 by decide), nI_o1, nI_1 i, hg]
  by_cases y : hi7 ≤ n
  · rw [if_pos y] at e
    rw [if_pos y, un5_eq e]
    by_cases z : n ≤ v
    · rw [if_pos z, if_pos z]
    · rw [if_neg z, if_neg z]
  · rw [if_neg y] at e
    rw [if_neg y, un5_eq e]
    by_cases z : n ≤ v
    · rw [if_pos z, if_pos z]
    · rw [if_neg z, if_neg z]
end KS
end G1
