/-! the reading of a court: what the fresh rows keep -/
/-- an implication that the numbers' tactic is not to read -/
def ImpP (a c : Prop) : Prop := a → c
def FOk (f : Nat → Int32) : Prop :=
  (0 ≤ (f 0).toInt ∧ (f 0).toInt ≤ 100) ∧
  ((f 1).toInt = (f 2).toInt + (f 7).toInt) ∧
  (0 ≤ (f 2).toInt ∧ (f 2).toInt ≤ 10) ∧
  (0 ≤ (f 3).toInt ∧ (f 3).toInt ≤ 4) ∧
  (-1 ≤ (f 6).toInt ∧ (f 6).toInt < (f 1).toInt) ∧
  (0 ≤ (f 7).toInt ∧ (f 7).toInt ≤ 8) ∧
  (0 ≤ (f 8).toInt ∧ (f 8).toInt ≤ 2) ∧
  (∀ j : Nat, 9 ≤ j → j < 27 → 0 ≤ (f j).toInt ∧ (f j).toInt ≤ 3) ∧
  (∀ j : Nat, 27 ≤ j → j < 45 → 0 ≤ (f j).toInt ∧ (f j).toInt ≤ 4) ∧
  (∀ j : Nat, 45 ≤ j → j < 117 → 0 ≤ (f j).toInt ∧ (f j).toInt ≤ 9) ∧
  (∀ j : Nat, j < 4 → (0 ≤ (f (117 + 2 * j)).toInt ∧ (f (117 + 2 * j)).toInt ≤ 17) ∧ 0 ≤ (f (118 + 2 * j)).toInt ∧ (f (118 + 2 * j)).toInt ≤ 99) ∧
  (∀ k : Nat, (k : Int) < (f 1).toInt → (f (9 + k)).toInt ≠ 0 → 1 ≤ (f (27 + k)).toInt) ∧
  (∀ k i : Nat, (k : Int) < (f 1).toInt → (f (9 + k)).toInt = 3 → (i : Int) < (f (27 + k)).toInt → 1 ≤ (f (45 + 4 * k + i)).toInt) ∧
  ((cntP (fun k => (f (9 + k)).toInt = 0) (f 1).toInt.toNat : Int) = (f 2).toInt) ∧
  ((cntP (fun k => (f (9 + k)).toInt ≠ 0) (f 1).toInt.toNat : Int) = (f 7).toInt) ∧
  ((cntP (fun k => (f (9 + k)).toInt = 3) (f 1).toInt.toNat : Int) = (f 8).toInt) ∧
  (∀ n : Nat, n < 18 → 0 < (f (125 + n)).toInt → (n : Int) < (f 1).toInt) ∧
  (∀ k : Nat, k < 18 → (f 1).toInt ≤ (k : Int) → (f (27 + k)).toInt = 0)
theorem FOk.lins {f : Nat → Int32} (h : FOk f) : (0 ≤ (f 0).toInt ∧ (f 0).toInt ≤ 100) ∧ (f 1).toInt = (f 2).toInt + (f 7).toInt ∧ (0 ≤ (f 2).toInt ∧ (f 2).toInt ≤ 10) ∧ (0 ≤ (f 3).toInt ∧ (f 3).toInt ≤ 4) ∧ (-1 ≤ (f 6).toInt ∧ (f 6).toInt < (f 1).toInt) ∧ (0 ≤ (f 7).toInt ∧ (f 7).toInt ≤ 8) ∧ 0 ≤ (f 8).toInt ∧ (f 8).toInt ≤ 2 :=
  ⟨h.1, h.2.1, h.2.2.1, h.2.2.2.1, h.2.2.2.2.1, h.2.2.2.2.2.1, h.2.2.2.2.2.2.1⟩
theorem FOk.dnode {f : Nat → Int32} (h : FOk f) : ∀ j : Nat, j < 4 → 0 ≤ (f (117 + 2 * j)).toInt ∧ (f (117 + 2 * j)).toInt ≤ 17 := fun j hj => (h.2.2.2.2.2.2.2.2.2.2.1 j hj).1
theorem FOk.names {f : Nat → Int32} (h : FOk f) : ∀ n : Nat, n < 18 → 0 < (f (125 + n)).toInt → (n : Int) < (f 1).toInt := h.2.2.2.2.2.2.2.2.2.2.2.2.2.2.2.2.1
theorem cnt_le {P : Nat → Prop} [DecidablePred P] {a b : Nat} (h : a ≤ b) : cntP P a ≤ cntP P b := by
  have h1 := cntP_mono (P := P) a (b - a)
  rw [show a + (b - a) = b from by omega] at h1
  exact h1
theorem FOk.toR {f : Nat → Int32} (h : FOk f) : ROk f := by
  have hl := h.lins
  obtain ⟨h0, h1, h2, h3, h4, h5, h6, h7, h8, h9, h10, h11, h12, h13, h14, h15, h16, h17⟩ := h
  refine ⟨h0, by omega, h3, h7, h8, h9, h10, h11, h12, fun n hn => ?_, fun n hn => ?_, fun n hn => ?_⟩
  · have := cnt_le (P := fun k => (f (9 + k)).toInt = 0) (show n ≤ (f 1).toInt.toNat by omega); omega
  · have := cnt_le (P := fun k => (f (9 + k)).toInt ≠ 0) (show n ≤ (f 1).toInt.toNat by omega); omega
  · have := cnt_le (P := fun k => (f (9 + k)).toInt = 3) (show n ≤ (f 1).toInt.toNat by omega); omega
theorem cntC {P Q : Nat → Prop} [DecidablePred P] [DecidablePred Q] {m : Nat} (h : ∀ q, q < m → (P q ↔ Q q)) : cntP P m = cntP Q m := cnt_congr m h
def POk (f r : Nat → Int32) : Prop := FOk f ∧ RowOk f r ∧ WorOk r
theorem POk.lins {f r : Nat → Int32} (h : POk f r) : (0 ≤ (f 0).toInt ∧ (f 0).toInt ≤ 100) ∧ (f 1).toInt = (f 2).toInt + (f 7).toInt ∧ (0 ≤ (f 2).toInt ∧ (f 2).toInt ≤ 10) ∧ (0 ≤ (f 3).toInt ∧ (f 3).toInt ≤ 4) ∧ (-1 ≤ (f 6).toInt ∧ (f 6).toInt < (f 1).toInt) ∧ (0 ≤ (f 7).toInt ∧ (f 7).toInt ≤ 8) ∧ 0 ≤ (f 8).toInt ∧ (f 8).toInt ≤ 2 := h.1.lins
theorem FOk.put {f g : Nat → Int32} {q : Nat} {x : Int32} (h : FOk f) (e : g = upd f q x)
    (hq : (q = 0 ∧ 0 ≤ x.toInt ∧ x.toInt ≤ 100) ∨ q = 4 ∨ q = 5 ∨ (q = 6 ∧ -1 ≤ x.toInt ∧ x.toInt < (f 1).toInt) ∨ (q = 3 ∧ 0 ≤ x.toInt ∧ x.toInt ≤ 4) ∨ (45 ≤ q ∧ q < 117 ∧ 45 + 4 * (f 1).toInt ≤ (q : Int) ∧ 0 ≤ x.toInt ∧ x.toInt ≤ 9) ∨ (117 ≤ q ∧ q < 125 ∧ ((q % 2 = 0 ∧ 0 ≤ x.toInt ∧ x.toInt ≤ 99) ∨ (q % 2 = 1 ∧ 0 ≤ x.toInt ∧ x.toInt ≤ 17)))) : FOk g := by
  subst e
  have hl := h.lins
  obtain ⟨h0, h1, h2, h3, h4, h5, h6, h7, h8, h9, h10, h11, h12, h13, h14, h15, h16, h17⟩ := h
  have un : ∀ j : Nat, j ≠ q → upd f q x j = f j := fun j hj => pk_un hj
  have e1 : upd f q x 1 = f 1 := un 1 (by omega)
  have e2 : upd f q x 2 = f 2 := un 2 (by omega)
  have e7 : upd f q x 7 = f 7 := un 7 (by omega)
  have e8 : upd f q x 8 = f 8 := un 8 (by omega)
  have ek : ∀ k : Nat, k < 18 → upd f q x (9 + k) = f (9 + k) := fun k hk => un _ (by omega)
  have em : ∀ k : Nat, k < 18 → upd f q x (27 + k) = f (27 + k) := fun k hk => un _ (by omega)
  have at' : ∀ {lo hi : Int} (j : Nat), (j = q → lo ≤ x.toInt ∧ x.toInt ≤ hi) → (j ≠ q → lo ≤ (f j).toInt ∧ (f j).toInt ≤ hi) → lo ≤ (upd f q x j).toInt ∧ (upd f q x j).toInt ≤ hi := by
    intro lo hi j ha hb
    by_cases hj : j = q
    · rw [hj, pk_us]; exact ha hj
    · rw [un j hj]; exact hb hj
  have c0 : cntP (fun k => (upd f q x (9 + k)).toInt = 0) (f 1).toInt.toNat = cntP (fun k => (f (9 + k)).toInt = 0) (f 1).toInt.toNat := cntC (fun k hk => by rw [ek k (by omega)])
  have c1 : cntP (fun k => (upd f q x (9 + k)).toInt ≠ 0) (f 1).toInt.toNat = cntP (fun k => (f (9 + k)).toInt ≠ 0) (f 1).toInt.toNat := cntC (fun k hk => by rw [ek k (by omega)])
  have c3 : cntP (fun k => (upd f q x (9 + k)).toInt = 3) (f 1).toInt.toNat = cntP (fun k => (f (9 + k)).toInt = 3) (f 1).toInt.toNat := cntC (fun k hk => by rw [ek k (by omega)])
  refine ⟨?_, ?_, ?_, ?_, ?_, ?_, ?_, ?_, ?_, ?_, ?_, ?_, ?_, ?_, ?_, ?_, ?_, ?_⟩
  · exact at' 0 (fun hj => by omega) (fun _ => h0)
  · rw [e1, e2, e7]; exact h1
  · rw [e2]; exact h2
  · exact at' 3 (fun hj => by omega) (fun _ => h3)
  · rw [e1]
    by_cases hj : 6 = q
    · rw [← hj, pk_us]; omega
    · rw [un 6 hj]; exact h4
  · rw [e7]; exact h5
  · rw [e8]; exact h6
  · exact fun j ha hb => at' j (fun hj => by omega) (fun _ => h7 j ha hb)
  · exact fun j ha hb => at' j (fun hj => by omega) (fun _ => h8 j ha hb)
  · exact fun j ha hb => at' j (fun hj => by omega) (fun _ => h9 j ha hb)
  · exact fun j ha => ⟨at' _ (fun hj => by omega) (fun _ => (h10 j ha).1), at' _ (fun hj => by omega) (fun _ => (h10 j ha).2)⟩
  · intro k hk
    rw [e1] at hk
    rw [ek k (by omega), em k (by omega)]
    exact h11 k hk
  · intro k i hk hc hi
    rw [e1] at hk
    rw [ek k (by omega)] at hc
    rw [em k (by omega)] at hi
    have := h8 (27 + k) (by omega) (by omega)
    rw [un _ (by omega)]
    exact h12 k i hk hc hi
  · rw [e1, e2]; omega
  · rw [e1, e7]; omega
  · rw [e1, e8]; omega
  · intro n hn
    rw [e1, un _ (by omega)]
    exact h16 n hn
  · intro k hk
    rw [e1, em k hk]
    exact h17 k hk
theorem RowOk.fr {f f' r : Nat → Int32} (h : RowOk f r) (e1 : f' 1 = f 1) (em : ∀ k : Nat, (k : Int) < (f 1).toInt → f' (27 + k) = f (27 + k)) : RowOk f' r := by
  refine ⟨fun k i hk hi => ?_, fun k i j hk hij hj => ?_⟩
  · rw [e1] at hk; rw [em k hk] at hi; exact h.lt k i hk hi
  · rw [e1] at hk; rw [em k hk] at hj; exact h.ne k i j hk hij hj
theorem POk.put {f g r : Nat → Int32} {q : Nat} {x : Int32} (h : POk f r) (e : g = upd f q x)
    (hq : (q = 0 ∧ 0 ≤ x.toInt ∧ x.toInt ≤ 100) ∨ q = 4 ∨ q = 5 ∨ (q = 6 ∧ -1 ≤ x.toInt ∧ x.toInt < (f 1).toInt) ∨ (q = 3 ∧ 0 ≤ x.toInt ∧ x.toInt ≤ 4) ∨ (45 ≤ q ∧ q < 117 ∧ 45 + 4 * (f 1).toInt ≤ (q : Int) ∧ 0 ≤ x.toInt ∧ x.toInt ≤ 9) ∨ (117 ≤ q ∧ q < 125 ∧ ((q % 2 = 0 ∧ 0 ≤ x.toInt ∧ x.toInt ≤ 99) ∨ (q % 2 = 1 ∧ 0 ≤ x.toInt ∧ x.toInt ≤ 17)))) : POk g r := by
  have hl := h.lins
  refine ⟨h.1.put e hq, RowOk.fr h.2.1 ?_ (fun k hk => ?_), h.2.2⟩
  · rw [e, pk_un (by omega)]
  · rw [e, pk_un (by omega)]
/-- what stands at a place beside the one that was written -/
theorem put_at {f g : Nat → Int32} {q j : Nat} {x : Int32} (e : g = upd f q x) (h : j ≠ q) : (g j).toInt = (f j).toInt := by rw [e, pk_un h]
theorem put_is {f g : Nat → Int32} {q j : Nat} {x : Int32} (e : g = upd f q x) (h : j = q) : (g j).toInt = x.toInt := by rw [e, h, pk_us]
theorem POk.wor {f r g : Nat → Int32} {q : Nat} {x : Int32} (h : POk f r) (e : g = upd r q x) (hq : 72 ≤ q) (h0 : 0 ≤ x.toInt) (h1 : x.toInt ≤ 99) : POk f g :=
  ⟨h.1, RowOk.hi h.1.toR h.2.1 e hq, WorOk.upd h.2.2 e h0 h1⟩
theorem POk.prt {f r g : Nat → Int32} {q : Nat} {x : Int32} (h : POk f r) (e : g = upd r q x) (hq : 4 * (f 1).toInt ≤ (q : Int)) (h72 : q < 72) : POk f g := by
  have hR := h.1.toR
  refine ⟨h.1, ⟨fun k i hk hi => ?_, fun k i j hk hij hj => ?_⟩, h.2.2.congr (fun j h1 h2 => by rw [e, pk_un (by omega)])⟩
  · have hm := hR.many (27 + k) (by omega) (by have := hR.nodes; omega)
    rw [e, pk_un (by omega)]; exact h.2.1.lt k i hk hi
  · have hm := hR.many (27 + k) (by omega) (by have := hR.nodes; omega)
    rw [e, pk_un (by omega), pk_un (by omega)]; exact h.2.1.ne k i j hk hij hj
/-- a node is laid -/
def LayI (f : Nat → Int32) (kd : Int32) (g : Nat → Int32) : Prop :=
  (g 1).toInt = (f 1).toInt + 1 ∧ g (9 + (f 1).toNatClampNeg) = kd ∧ (∀ j : Nat, j < 125 → j ≠ 1 → j ≠ 9 + (f 1).toNatClampNeg → g j = f j) ∧ ∀ j : Nat, j < 18 → j ≠ (f 1).toNatClampNeg → g (125 + j) = f (125 + j)
theorem lay_of {f g1 g2 g3 g4 fl : Nat → Int32} {n c q2 q3 q4 : Nat} {v kd x : Int32} (hn : n = (f 1).toNatClampNeg) (h18 : n < 18) (hp : 0 ≤ (f 1).toInt) (e1 : CopyOk fl f (0 : Int32).toNatClampNeg c (8 : Int32).toNatClampNeg g1) (hc : 143 ≤ c) (e2 : g2 = upd g1 q2 v) (hq2 : q2 = 125 + n) (e3 : g3 = upd g2 q3 kd) (hq3 : q3 = 9 + n) (e4 : g4 = upd g3 q4 x) (hq4 : q4 = 1) (hx : x.toInt = (f 1).toInt + 1) : LayI f kd g4 := by
  have lo : ∀ j : Nat, j < 143 → g1 j = f j := fun j hj => by rw [e1 j, if_neg (by omega)]
  subst hq2; subst hq3; subst hq4
  refine ⟨by rw [e4, pk_us, hx], ?_, fun j hj h1 h9 => ?_, fun j hj hne => ?_⟩
  · rw [← hn, e4, pk_un (by omega), e3, pk_us]
  · rw [← hn] at h9
    rw [e4, pk_un (by omega), e3, pk_un (by omega), e2, pk_un (by omega), lo j (by omega)]
  · rw [← hn] at hne
    rw [e4, pk_un (by omega), e3, pk_un (by omega), e2, pk_un (by omega), lo _ (by omega)]
/-- the parts of a node that isn't laid yet -/
def InOk (f r : Nat → Int32) (n m : Nat) (kd : Int) : Prop :=
  (∀ i : Nat, i < m → 0 ≤ (r (4 * n + i)).toInt ∧ (r (4 * n + i)).toInt < n) ∧ (∀ i j : Nat, i < j → j < m → r (4 * n + i) ≠ r (4 * n + j)) ∧ (kd = 3 → ∀ i : Nat, i < m → 1 ≤ (f (45 + 4 * n + i)).toInt)
theorem in_zero {f r : Nat → Int32} {n : Nat} {kd : Int} : InOk f r n 0 kd := ⟨fun i hi => by omega, fun i j _ hj => by omega, fun _ i hi => by omega⟩
theorem in_step {f r f' r' : Nat → Int32} {n m m' q1 q2 : Nat} {kd : Int} {k w : Int32} (h : InOk f r n m kd) (hn : n = (f 1).toNatClampNeg) (e1 : r' = upd r q1 k) (hq1 : q1 = 4 * n + m) (e2 : f' = upd f q2 w) (hq2 : q2 = 45 + 4 * n + m) (hk0 : 0 ≤ k.toInt) (hk1 : k.toInt < n) (hne : ∀ i : Nat, i < m → (r (4 * n + i)).toInt ≠ k.toInt) (hw : kd = 3 → 1 ≤ w.toInt) (hm : m' = m + 1) : InOk f' r' (f' 1).toNatClampNeg m' kd := by
  have f1 : f' 1 = f 1 := by rw [e2, pk_un (by omega)]
  rw [f1, ← hn]
  subst hq1; subst hq2; subst hm
  have rl : ∀ i : Nat, i < m → r' (4 * n + i) = r (4 * n + i) := fun i hi => by rw [e1, pk_un (by omega)]
  have rm : r' (4 * n + m) = k := by rw [e1, pk_us]
  refine ⟨fun i hi => ?_, fun i j hij hj => ?_, fun h3 i hi => ?_⟩
  · by_cases hi' : i = m
    · rw [hi', rm]; exact ⟨hk0, hk1⟩
    · rw [rl i (by omega)]; exact h.1 i (by omega)
  · by_cases hj' : j = m
    · rw [hj', rm, rl i (by omega)]
      exact fun e => hne i (by omega) (by rw [e])
    · rw [rl i (by omega), rl j (by omega)]; exact h.2.1 i j hij (by omega)
  · by_cases hi' : i = m
    · rw [hi', e2, pk_us]; exact hw h3
    · rw [e2, pk_un (by omega)]; exact h.2.2 h3 i (by omega)
theorem cnt_up {P Q : Nat → Prop} [DecidablePred P] [DecidablePred Q] (n : Nat) (h : ∀ q, q < n → (Q q ↔ P q)) : (Q n → cntP Q (n + 1) = cntP P n + 1) ∧ (¬ Q n → cntP Q (n + 1) = cntP P n) := by
  have h1 := cnt_at (P := Q) n
  rw [cntC h] at h1
  exact h1
theorem POk.node {f g r : Nat → Int32} {n m : Nat} {kd : Int} (h : POk f r) (hn : (n : Int) = (f 1).toInt) (h17 : n < 18) (g1 : (g 1).toInt = (f 1).toInt + 1) (g9 : (g (9 + n)).toInt = kd) (hkd : 0 ≤ kd ∧ kd ≤ 3) (gm : (g (27 + n)).toInt = m) (hm : m ≤ 4) (hm0 : kd = 0 → m = 0) (hm1 : kd ≠ 0 → 1 ≤ m)
    (g2 : (g 2).toInt = (f 2).toInt + (if kd = 0 then 1 else 0)) (g7 : (g 7).toInt = (f 7).toInt + (if kd ≠ 0 then 1 else 0)) (g8 : (g 8).toInt = (f 8).toInt + (if kd = 3 then 1 else 0)) (b2 : (g 2).toInt ≤ 10) (b7 : (g 7).toInt ≤ 8) (b8 : (g 8).toInt ≤ 2)
    (same : ∀ j : Nat, j < 125 → j ≠ 1 → j ≠ 2 → j ≠ 7 → j ≠ 8 → j ≠ 9 + n → j ≠ 27 + n → g j = f j) (nm : ∀ j : Nat, j < 18 → j ≠ n → g (125 + j) = f (125 + j)) (hI : InOk f r n m kd) : POk g r := by
  have hl := h.lins
  obtain ⟨hF, hQ, hW⟩ := h
  obtain ⟨h0, h1, h2, h3, h4, h5, h6, h7, h8, h9, h10, h11, h12, h13, h14, h15, h16, h17'⟩ := hF
  have ek : ∀ k : Nat, k < n → g (9 + k) = f (9 + k) := fun k hk => same _ (by omega) (by omega) (by omega) (by omega) (by omega) (by omega) (by omega)
  have em : ∀ k : Nat, k < 18 → k ≠ n → g (27 + k) = f (27 + k) := fun k hk hk' => same _ (by omega) (by omega) (by omega) (by omega) (by omega) (by omega) (by omega)
  have ew : ∀ j : Nat, 45 ≤ j → j < 125 → g j = f j := fun j ha hb => same _ (by omega) (by omega) (by omega) (by omega) (by omega) (by omega) (by omega)
  have nT : (f 1).toInt.toNat = n := by omega
  have gT : (g 1).toInt.toNat = n + 1 := by omega
  rw [nT] at h13 h14 h15
  have u0 := cnt_up (P := fun k => (f (9 + k)).toInt = 0) (Q := fun k => (g (9 + k)).toInt = 0) n (fun k hk => by rw [ek k hk])
  have u1 := cnt_up (P := fun k => (f (9 + k)).toInt ≠ 0) (Q := fun k => (g (9 + k)).toInt ≠ 0) n (fun k hk => by rw [ek k hk])
  have u3 := cnt_up (P := fun k => (f (9 + k)).toInt = 3) (Q := fun k => (g (9 + k)).toInt = 3) n (fun k hk => by rw [ek k hk])
  refine ⟨⟨?_, ?_, ?_, ?_, ?_, ?_, ?_, ?_, ?_, ?_, ?_, ?_, ?_, ?_, ?_, ?_, ?_, ?_⟩, ⟨?_, ?_⟩, hW⟩
  · rw [same 0 (by omega) (by omega) (by omega) (by omega) (by omega) (by omega) (by omega)]; exact h0
  · by_cases hz : kd = 0
    · rw [if_pos hz] at g2; rw [if_neg (fun h => h hz)] at g7; omega
    · rw [if_neg hz] at g2; rw [if_pos hz] at g7; omega
  · refine ⟨?_, b2⟩
    rw [g2]; split <;> omega
  · rw [same 3 (by omega) (by omega) (by omega) (by omega) (by omega) (by omega) (by omega)]; exact h3
  · rw [same 6 (by omega) (by omega) (by omega) (by omega) (by omega) (by omega) (by omega)]; omega
  · refine ⟨?_, b7⟩
    rw [g7]; split <;> omega
  · refine ⟨?_, b8⟩
    rw [g8]; split <;> omega
  · intro j ha hb
    by_cases hj : j = 9 + n
    · rw [hj, g9]; exact hkd
    · rw [same j (by omega) (by omega) (by omega) (by omega) (by omega) hj (by omega)]; exact h7 j ha hb
  · intro j ha hb
    by_cases hj : j = 27 + n
    · rw [hj, gm]; omega
    · rw [same j (by omega) (by omega) (by omega) (by omega) (by omega) (by omega) hj]; exact h8 j ha hb
  · intro j ha hb
    rw [ew j ha (by omega)]; exact h9 j ha hb
  · intro j ha
    rw [ew (117 + 2 * j) (by omega) (by omega), ew (118 + 2 * j) (by omega) (by omega)]; exact h10 j ha
  · intro k hk hk0
    by_cases hkn : k = n
    · rw [hkn] at hk0 ⊢; rw [gm]; rw [g9] at hk0; have := hm1 hk0; omega
    · rw [ek k (by omega)] at hk0; rw [em k (by omega) hkn]; exact h11 k (by omega) hk0
  · intro k i hk hk3 hi
    by_cases hkn : k = n
    · rw [hkn] at hk3 hi ⊢; rw [gm] at hi; rw [g9] at hk3
      rw [ew _ (by omega) (by omega)]; exact hI.2.2 hk3 i (by omega)
    · rw [ek k (by omega)] at hk3; rw [em k (by omega) hkn] at hi
      have := h8 (27 + k) (by omega) (by omega)
      rw [ew _ (by omega) (by omega)]; exact h12 k i (by omega) hk3 hi
  · rw [gT, g2]
    by_cases hz : kd = 0
    · have := u0.1 (by show (g (9 + n)).toInt = 0; omega); rw [if_pos hz]; omega
    · have := u0.2 (by show ¬ (g (9 + n)).toInt = 0; omega); rw [if_neg hz]; omega
  · rw [gT, g7]
    by_cases hz : kd = 0
    · have := u1.2 (by show ¬ (g (9 + n)).toInt ≠ 0; omega); rw [if_neg (fun h => h hz)]; omega
    · have := u1.1 (by show (g (9 + n)).toInt ≠ 0; omega); rw [if_pos hz]; omega
  · rw [gT, g8]
    by_cases hz : kd = 3
    · have := u3.1 (by show (g (9 + n)).toInt = 3; omega); rw [if_pos hz]; omega
    · have := u3.2 (by show ¬ (g (9 + n)).toInt = 3; omega); rw [if_neg hz]; omega
  · intro j hj hp
    by_cases hjn : j = n
    · omega
    · rw [nm j hj hjn] at hp; have := h16 j hj hp; omega
  · intro k hk hk1
    rw [em k hk (by omega)]; exact h17' k hk (by omega)
  · intro k i hk hi
    by_cases hkn : k = n
    · rw [hkn] at hi ⊢; rw [gm] at hi; exact hI.1 i (by omega)
    · rw [em k (by omega) hkn] at hi; exact hQ.lt k i (by omega) hi
  · intro k i j hk hij hj
    by_cases hkn : k = n
    · rw [hkn] at hj ⊢; rw [gm] at hj; exact hI.2.1 i j hij (by omega)
    · rw [em k (by omega) hkn] at hj; exact hQ.ne k i j (by omega) hij hj
/-- a word's line -/
theorem POk.word {f f' g r : Nat → Int32} {q : Nat} {kd x : Int32} (h : POk f r) (L : LayI f kd f') (hkd : kd.toInt = 0) (e : g = upd f' q x) (hq : q = 2) (hx : x.toInt = (f' 2).toInt + 1) (h9 : (f 2).toInt ≤ 9) : POk g r := by
  have hl := h.lins
  have hn := ti_cl (x := f 1) rfl (by omega)
  have h17 := h.1.2.2.2.2.2.2.2.2.2.2.2.2.2.2.2.2.2 (f 1).toNatClampNeg (by omega) (by omega)
  subst hq
  have f2 : f' 2 = f 2 := L.2.2.1 2 (by omega) (by omega) (by omega)
  have un : ∀ j : Nat, j < 125 → j ≠ 1 → j ≠ 2 → j ≠ 9 + (f 1).toNatClampNeg → g j = f j := fun j hj ha hb hc => by rw [e, pk_un hb, L.2.2.1 j hj ha hc]
  rw [f2] at hx
  have g2 : (g 2).toInt = (f 2).toInt + 1 := by rw [e, pk_us, hx]
  refine POk.node (n := (f 1).toNatClampNeg) (m := 0) (kd := 0) h hn (by omega) ?_ ?_ (by omega) ?_ (by omega) (fun _ => rfl) (fun z => absurd rfl z) ?_ ?_ ?_ (by omega) ?_ ?_ (fun j hj ha hb _ _ hc _ => un j hj ha hb hc) (fun j hj hc => ?_) in_zero
  · rw [e, pk_un (by omega), L.1]
  · rw [e, pk_un (by omega), L.2.1, hkd]
  · rw [un _ (by omega) (by omega) (by omega) (by omega), h17]; rfl
  · rw [if_pos rfl]; exact g2
  · rw [if_neg (by omega), un 7 (by omega) (by omega) (by omega) (by omega)]; omega
  · rw [if_neg (by omega), un 8 (by omega) (by omega) (by omega) (by omega)]; omega
  · rw [un 7 (by omega) (by omega) (by omega) (by omega)]; omega
  · rw [un 8 (by omega) (by omega) (by omega) (by omega)]; omega
  · rw [e, pk_un (by omega), L.2.2.2 j hj hc]
/-- a king's, a queen's, chance's line -/
theorem POk.inner {f fa fb fc g r : Nat → Int32} {q1 q2 q3 m : Nat} {kd x1 x2 x3 : Int32} (h : POk f r) (e1 : fa = upd f q1 x1) (hq1 : q1 = 27 + (f 1).toNatClampNeg) (hx1 : x1.toInt = m) (hm : m ≤ 4) (hm1 : 1 ≤ m) (L : LayI fa kd fb) (hkd : 1 ≤ kd.toInt ∧ kd.toInt ≤ 3) (e2 : fc = upd fb q2 x2) (hq2 : q2 = 7) (hx2 : x2.toInt = (fb 7).toInt + 1) (e3 : g = upd fc q3 x3) (hq3 : q3 = 8) (hx3 : x3.toInt = (fc 8).toInt + (if kd.toInt = 3 then 1 else 0)) (b7 : (f 7).toInt ≤ 7) (b8 : kd.toInt = 3 → (f 8).toInt ≤ 1) (hI : InOk f r (f 1).toNatClampNeg m kd.toInt) : POk g r := by
  have hl := h.lins
  have b17 : (f 1).toInt ≤ 17 := by omega
  have hn := ti_cl (x := f 1) rfl (by omega)
  subst hq1; subst hq2; subst hq3
  have a1 : fa 1 = f 1 := by rw [e1, pk_un (by omega)]
  have aU : ∀ j : Nat, j ≠ 27 + (f 1).toNatClampNeg → fa j = f j := fun j hj => by rw [e1, pk_un hj]
  have L1 := L.1
  have L2 := L.2.1
  have L3 := L.2.2.1
  have L4 := L.2.2.2
  rw [a1] at L1 L2 L3 L4
  have un : ∀ j : Nat, j < 125 → j ≠ 1 → j ≠ 2 → j ≠ 7 → j ≠ 8 → j ≠ 9 + (f 1).toNatClampNeg → j ≠ 27 + (f 1).toNatClampNeg → g j = f j := fun j hj ha _ hb hc hd he => by rw [e3, pk_un hc, e2, pk_un hb, L3 j hj ha hd, aU j he]
  have b7e : fb 7 = f 7 := by rw [L3 7 (by omega) (by omega) (by omega), aU 7 (by omega)]
  have c8e : fc 8 = f 8 := by rw [e2, pk_un (by omega), L3 8 (by omega) (by omega) (by omega), aU 8 (by omega)]
  rw [b7e] at hx2
  rw [c8e] at hx3
  have g7 : (g 7).toInt = (f 7).toInt + 1 := by rw [e3, pk_un (by omega), e2, pk_us, hx2]
  have g8 : (g 8).toInt = (f 8).toInt + (if kd.toInt = 3 then 1 else 0) := by rw [e3, pk_us, hx3]
  have g2 : (g 2).toInt = (f 2).toInt := by rw [e3, pk_un (by omega), e2, pk_un (by omega), L3 2 (by omega) (by omega) (by omega), aU 2 (by omega)]
  refine POk.node (n := (f 1).toNatClampNeg) (m := m) (kd := kd.toInt) h hn (by omega) ?_ ?_ (by omega) ?_ hm (fun z => by omega) (fun _ => hm1) ?_ ?_ g8 (by omega) (by omega) ?_ un (fun j hj hc => ?_) hI
  · rw [e3, pk_un (by omega), e2, pk_un (by omega), L1]
  · rw [e3, pk_un (by omega), e2, pk_un (by omega), L2]
  · rw [e3, pk_un (by omega), e2, pk_un (by omega), L3 _ (by omega) (by omega) (by omega), e1, pk_us, hx1]
  · rw [if_neg (by omega)]; omega
  · rw [if_pos (by omega)]; exact g7
  · rw [g8]
    by_cases hz : kd.toInt = 3
    · have := b8 hz; rw [if_pos hz]; omega
    · rw [if_neg hz]; omega
  · rw [e3, pk_un (by omega), e2, pk_un (by omega), L4 j hj hc, aU _ (by omega)]
/-- rows laid bare -/
def ZerI (k : Nat) (g : Nat → Int32) : Prop := ∀ j : Nat, j < k → g j = 0
theorem zer_zero {g : Nat → Int32} : ZerI 0 g := fun j hj => by omega
theorem zer_step {g g' : Nat → Int32} {k k' q : Nat} {x : Int32} (h : ZerI k g) (e : g' = upd g q x) (hq : q = k) (hx : x = 0) (hk : k' = k + 1) : ZerI k' g' := by
  subst hq; subst hk
  intro j hj
  rw [e]
  by_cases hj' : j = q
  · rw [hj', pk_us, hx]
  · rw [pk_un hj']; exact h j (by omega)
theorem cnt_none {P : Nat → Prop} [DecidablePred P] : cntP P 0 = 0 := rfl
theorem POk.zero {f g r : Nat → Int32} {q : Nat} {x : Int32} (h : ZerI 287 f) (e : g = upd f q x) (hq : q = 6) (hx : x.toInt = -1) (hr : ZerI 90 r) : POk g r := by
  subst hq
  have z : ∀ j : Nat, j < 287 → j ≠ 6 → (g j).toInt = 0 := fun j hj h6 => by rw [e, pk_un h6, h j hj]; rfl
  have g6 : (g 6).toInt = -1 := by rw [e, pk_us, hx]
  have g1 := z 1 (by omega) (by omega)
  have t1 : (g 1).toInt.toNat = 0 := by omega
  have g0 := z 0 (by omega) (by omega)
  have g2 := z 2 (by omega) (by omega)
  have g3 := z 3 (by omega) (by omega)
  have g7 := z 7 (by omega) (by omega)
  have g8 := z 8 (by omega) (by omega)
  refine ⟨⟨by omega, by omega, by omega, by omega, by omega, by omega, by omega, fun j ha hb => ?_, fun j ha hb => ?_, fun j ha hb => ?_, fun j ha => ?_, fun k hk => by omega, fun k i hk => by omega, ?_, ?_, ?_, fun n hn hp => ?_, fun k hk _ => z _ (by omega) (by omega)⟩, ⟨fun k i hk => by omega, fun k i j hk => by omega⟩, fun j ha hb => ?_⟩
  · have := z j (by omega) (by omega); omega
  · have := z j (by omega) (by omega); omega
  · have := z j (by omega) (by omega); omega
  · have q1 := z (117 + 2 * j) (by omega) (by omega); have q2 := z (118 + 2 * j) (by omega) (by omega); omega
  · rw [t1, cnt_none]; omega
  · rw [t1, cnt_none]; omega
  · rw [t1, cnt_none]; omega
  · have := z (125 + n) (by omega) (by omega); omega
  · have : (r j).toInt = 0 := by rw [hr j hb]; rfl
    omega
/-- the rows that the court takes over -/
theorem cp_all {f t g : Nat → Int32} {m : Nat} {c : Int32} (e : CopyOk f t (0 : Int32).toNatClampNeg (0 : Int32).toNatClampNeg c.toNatClampNeg g) (hc : c.toNatClampNeg = m) : ∀ j : Nat, j < m → g j = f j := by
  intro j hj
  rw [e j, show (0 : Int32).toNatClampNeg = 0 from rfl, if_pos (by omega)]; congr 1; omega
theorem ROk.congr {f g : Nat → Int32} (h : ROk f) (e : ∀ j : Nat, j < 287 → g j = f j) : ROk g := by
  have hn := h.nodes
  have e1 : g 1 = f 1 := e 1 (by omega)
  have ek : ∀ k : Nat, (k : Int) < (f 1).toInt → g (9 + k) = f (9 + k) := fun k hk => e _ (by omega)
  refine ⟨by rw [e 0 (by omega)]; exact h.slips, by rw [e1]; exact hn, by rw [e 3 (by omega)]; exact h.uns, fun j ha hb => by rw [e j (by omega)]; exact h.kind j ha hb, fun j ha hb => by rw [e j (by omega)]; exact h.many j ha hb, fun j ha hb => by rw [e j (by omega)]; exact h.wts j ha hb, fun j ha => by rw [e (117 + 2 * j) (by omega), e (118 + 2 * j) (by omega)]; exact h.dn2 j ha, fun k hk hk0 => ?_, fun k i hk hk3 hi => ?_, fun n hn' => ?_, fun n hn' => ?_, fun n hn' => ?_⟩
  · rw [e1] at hk; rw [ek k hk] at hk0; rw [e _ (by omega)]; exact h.inner k hk hk0
  · rw [e1] at hk; rw [ek k hk] at hk3; rw [e _ (by omega)] at hi
    have := h.many (27 + k) (by omega) (by omega)
    rw [e _ (by omega)]; exact h.chance k i hk hk3 hi
  · rw [e1] at hn'; rw [cntC (fun k hk => by rw [ek k (by omega)])]; exact h.cw n hn'
  · rw [e1] at hn'; rw [cntC (fun k hk => by rw [ek k (by omega)])]; exact h.ci n hn'
  · rw [e1] at hn'; rw [cntC (fun k hk => by rw [ek k (by omega)])]; exact h.cc n hn'
/-- the scale: at most two of chance -/
def ScI (c : Nat) (s : Int) : Prop := (c = 0 ∧ s = 1) ∨ (c = 1 ∧ 1 ≤ s ∧ s ≤ 36) ∨ (2 ≤ c ∧ 1 ≤ s ∧ s ≤ 1296)
theorem sc_mul {c : Nat} {x y z : Int32} (h : ScI c x.toInt) (hc : c + 1 ≤ 2) (e : z = x * y) (hy : 1 ≤ y.toInt ∧ y.toInt ≤ 36) : ScI (c + 1) z.toInt ∧ 1 ≤ z.toInt ∧ z.toInt ≤ 1296 := by
  rcases h with ⟨h0, h1⟩ | ⟨h0, h1, h2⟩ | ⟨h0, _, _⟩
  · have hz : z.toInt = x.toInt * y.toInt := by rw [e]; exact fb_mulI (by rw [h1]; omega) (by rw [h1]; omega)
    rw [h1] at hz
    exact ⟨Or.inr (Or.inl ⟨by omega, by omega, by omega⟩), by omega, by omega⟩
  · have m1 : x.toInt * y.toInt ≤ 36 * 36 := Int.mul_le_mul h2 hy.2 (by omega) (by omega)
    have m2 : 1 * 1 ≤ x.toInt * y.toInt := Int.mul_le_mul h1 hy.1 (by omega) (by omega)
    have hz : z.toInt = x.toInt * y.toInt := by rw [e]; exact fb_mulI (by omega) (by omega)
    exact ⟨Or.inr (Or.inr ⟨by omega, by omega, by omega⟩), by omega, by omega⟩
  · omega
/-- how far a court's reading is from its end -/
theorem crtM_step {f t e f' t' e' : Int} {n : Nat} (hm : crtM f t e < n + 1) (hf : f ≤ 0) (ht : t = 59) (h9 : e ≤ 900) (he : e' ≤ 900) (hs : f' ≤ 0 ∧ t' = 59 → e + 1 ≤ e') : crtM f' t' e' < n := by
  unfold crtM at hm ⊢
  rw [if_pos ⟨hf, ht⟩] at hm
  by_cases hc : f' ≤ 0 ∧ t' = 59
  · rw [if_pos hc]; have := hs hc; omega
  · rw [if_neg hc]; omega
section VJ
variable {p : Program} {l : Launch} {e : Env} {R : Room} {s : State} {m : MethodId} {args : Array Value} {below : List Frame} {meth : Method} {c : Code} {H : Heap} {locs : List Loc} {cells slots : Nat} {Q : State → Prop}
variable {cc : ByteArray} {pc : Nat} {ls : Array Slot} {rest : List Value}
theorem vz_jgeB (hexec : p.tables.exec = Jvm.exec) (hb : c.code = cc) {x y : Int32} (d0 : decode cc pc = .ok (.if_icmp .ge 7, 3)) (d1 : decode cc (pc + 3) = .ok (.iconst 1, 1)) (d2 : decode cc (pc + 4) = .ok (.goto 4, 3)) (d3 : decode cc (pc + 7) = .ok (.iconst 0, 1))
    (kk : ∀ b : Int32, 0 ≤ b.toInt ∧ b.toInt ≤ 1 → (1 ≤ b.toInt → x.toInt < y.toInt) → W p l e R s m args below meth c H locs cells slots Q (F0 m (pc + 8) ls (.int b :: rest))) : W p l e R s m args below meth c H locs cells slots Q (F0 m pc ls (.int y :: .int x :: rest)) :=
  lv_icmp_ge (tgt := pc + 7) hexec hb d0 (by omega) (fun _ => lv_iconst (v := 0) hexec hb d3 (by decide) (kk 0 (by decide) (fun h => absurd h (by decide)))) (fun c9 => lv_iconst (v := 1) hexec hb d1 (by decide) (lv_goto (tgt := pc + 8) hexec hb d2 (by omega) (kk 1 (by decide) (fun _ => by rw [fz_le] at c9; omega))))
theorem vz_jgeX (hexec : p.tables.exec = Jvm.exec) (hb : c.code = cc) {x y : Int32} (d0 : decode cc pc = .ok (.if_icmp .ge 7, 3)) (d1 : decode cc (pc + 3) = .ok (.iconst 1, 1)) (d2 : decode cc (pc + 4) = .ok (.goto 4, 3)) (d3 : decode cc (pc + 7) = .ok (.iconst 0, 1))
    (kk : ∀ b : Int32, (b = if y ≤ x then (0 : Int32) else 1) → 0 ≤ b.toInt ∧ b.toInt ≤ 1 → (1 ≤ b.toInt → x.toInt < y.toInt) → W p l e R s m args below meth c H locs cells slots Q (F0 m (pc + 8) ls (.int b :: rest))) : W p l e R s m args below meth c H locs cells slots Q (F0 m pc ls (.int y :: .int x :: rest)) :=
  lv_icmp_ge (tgt := pc + 7) hexec hb d0 (by omega) (fun c8 => lv_iconst (v := 0) hexec hb d3 (by decide) (kk 0 (if_pos c8).symm (by decide) (fun h => absurd h (by decide)))) (fun c9 => lv_iconst (v := 1) hexec hb d1 (by decide) (lv_goto (tgt := pc + 8) hexec hb d2 (by omega) (kk 1 (if_neg c9).symm (by decide) (fun _ => by rw [fz_le] at c9; omega))))
end VJ
theorem kc_143 : (143 : Int32).toInt = 143 := by decide
theorem kc_125 : (125 : Int32).toInt = 125 := by decide
/-- the parts before a place are unlike a number, unless it failed -/
def NeI (fa : Int) (i : Nat) (r : Nat → Int32) (n : Nat) (k : Int) : Prop := fa ≤ 0 → ∀ i9 : Nat, i9 < i → (r (4 * n + i9)).toInt ≠ k
