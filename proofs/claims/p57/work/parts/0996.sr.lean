/-! what both sides have read so far -/
theorem upd_ne {f : Nat → Int32} {i j : Nat} {v : Int32} (h : ¬ j = i) : upd f i v j = f j := if_neg h
theorem upd_at (f : Nat → Int32) (i : Nat) (v : Int32) : upd f i v i = v := if_pos rfl
/-- the nodes: kinds, parts, weights, worths -/
def KR (N : Nat) (kind parts pn wt tw fsh rd : Nat → Int32) : Prop :=
  (∀ k : Nat, k < N → kind k = fsh (9 + k) ∧ parts k = fsh (27 + k) ∧ tw k = rd (72 + k) ∧ 0 ≤ (fsh (27 + k)).toInt ∧ (fsh (27 + k)).toInt ≤ 4 ∧ ∀ i : Nat, (i : Int) < (fsh (27 + k)).toInt → pn (4 * k + i) = rd (4 * k + i) ∧ wt (4 * k + i) = fsh (45 + 4 * k + i)) ∧ ∀ k : Nat, N ≤ k → k < 18 → fsh (27 + k) = 0 ∧ rd (72 + k) = 0
/-- the words of which nobody is sure -/
def UR (Q : Nat) (uw uo fsh : Nat → Int32) : Prop := ∀ j : Nat, j < Q → uw j = fsh (117 + 2 * j) ∧ uo j = fsh (118 + 2 * j)
theorem NamesR.congr {names : Nat → Int64} {f g : Nat → Int32} {N : Nat} (h : NamesR names f N) (hN : N ≤ 18) (e : ∀ j : Nat, 125 ≤ j → j < 287 → g j = f j) : NamesR names g N := by
  refine ⟨fun k hk => ?_, fun k h1 h2 => by rw [e _ (by omega) (by omega)]; exact h.2 k h1 h2⟩
  obtain ⟨len, l1, l2, l3, l4, l5⟩ := h.1 k hk
  refine ⟨len, l1, l2, by rw [e _ (by omega) (by omega)]; exact l3, fun i hi => ?_, ?_⟩
  · show 97 ≤ (g (143 + 8 * k + i)).toInt ∧ (g (143 + 8 * k + i)).toInt ≤ 122
    rw [e _ (by omega) (by omega)]; exact l4 i hi
  · rw [l5]
    exact lcode_congr (fun i hi => (e _ (by omega) (by omega)).symm)
theorem KR.congr {N : Nat} {kind parts pn wt tw f g rd : Nat → Int32} (h : KR N kind parts pn wt tw f rd) (hN : N ≤ 18) (e : ∀ j : Nat, 9 ≤ j → j < 117 → g j = f j) : KR N kind parts pn wt tw g rd := by
  refine ⟨fun k hk => ?_, fun k h1 h2 => by rw [e _ (by omega) (by omega)]; exact h.2 k h1 h2⟩
  obtain ⟨h1, h2, h3, h4, h5, h6⟩ := h.1 k hk
  rw [e (9 + k) (by omega) (by omega), e (27 + k) (by omega) (by omega)]
  refine ⟨h1, h2, h3, h4, h5, fun i hi => ?_⟩
  rw [e (45 + 4 * k + i) (by omega) (by omega)]
  exact h6 i hi
theorem UR.congr {Q : Nat} {uw uo f g : Nat → Int32} (h : UR Q uw uo f) (hQ : Q ≤ 4) (e : ∀ j : Nat, 117 ≤ j → j < 125 → g j = f j) : UR Q uw uo g := fun j hj => by
  rw [e _ (by omega) (by omega), e _ (by omega) (by omega)]
  exact h j hj
/-- the numbers ahead -/
def HR (N W C Q : Nat) (told nodes words chances unsures slips throne said : Int32) (fsh : Nat → Int32) : Prop :=
  nodes = nI N ∧ words = nI W ∧ chances = nI C ∧ unsures = nI Q ∧ W ≤ N ∧ W ≤ 10 ∧ N - W ≤ 8 ∧ C ≤ 2 ∧ Q ≤ 4 ∧ fsh 1 = nI N ∧ fsh 2 = nI W ∧ fsh 7 = nI (N - W) ∧ fsh 8 = nI C ∧ fsh 3 = nI Q ∧ (told = 0 ∨ told = 1) ∧ fsh 5 = told ∧ fsh 0 = slips ∧ fsh 6 = throne ∧ (fsh 4).toInt = said.toInt + 1 ∧ -1 ≤ throne.toInt ∧ throne.toInt < N ∧ -1 ≤ said.toInt ∧ said.toInt ≤ 99 ∧ (told = 0 → N = 0 ∧ Q = 0 ∧ throne.toInt = -1 ∧ said.toInt = -1 ∧ C = 0)
def SR (names : Nat → Int64) (told nodes words chances unsures slips throne said : Int32) (kind parts pn wt tw uw uo fsh rd : Nat → Int32) : Prop :=
  ∃ N W C Q : Nat, HR N W C Q told nodes words chances unsures slips throne said fsh ∧ KR N kind parts pn wt tw fsh rd ∧ UR Q uw uo fsh ∧ NamesR names fsh N
theorem HR.N18 {N W C Q : Nat} {told nodes words chances unsures slips throne said : Int32} {fsh : Nat → Int32} (h : HR N W C Q told nodes words chances unsures slips throne said fsh) : N ≤ 18 := by
  obtain ⟨-, -, -, -, h1, h2, h3, -⟩ := h
  omega
section SRS
variable {names : Nat → Int64} {told nodes words chances unsures slips throne said : Int32} {kind parts pn wt tw uw uo fsh rd : Nat → Int32}
theorem SR.saidP (h : SR names told nodes words chances unsures slips throne said kind parts pn wt tw uw uo fsh rd) (ht : ¬ told = 0) {s : Int32} (h0 : 0 ≤ s.toInt) (h1 : s.toInt ≤ 99) : SR names told nodes words chances unsures slips throne s kind parts pn wt tw uw uo (upd fsh 4 (s + 1)) rd := by
  obtain ⟨N, W, C, Q, hH, hKR, hUR, hNR⟩ := h
  have hN := hH.N18
  obtain ⟨a1, a2, a3, a4, a5, a6, a7, a8, a9, b1, b2, b3, b4, b5, b6, b7, b8, b9, c1, c2, c3, c4, c5, c6⟩ := hH
  refine ⟨N, W, C, Q, ⟨a1, a2, a3, a4, a5, a6, a7, a8, a9, by rw [upd_ne (by decide)]; exact b1, by rw [upd_ne (by decide)]; exact b2, by rw [upd_ne (by decide)]; exact b3, by rw [upd_ne (by decide)]; exact b4, by rw [upd_ne (by decide)]; exact b5, b6, by rw [upd_ne (by decide)]; exact b7, by rw [upd_ne (by decide)]; exact b8, by rw [upd_ne (by decide)]; exact b9, ?_, c2, c3, by omega, h1, fun q => absurd q ht⟩, hKR.congr hN (fun j q1 q2 => upd_ne (by omega)), hUR.congr a9 (fun j q1 q2 => upd_ne (by omega)), hNR.congr hN (fun j q1 q2 => upd_ne (by omega))⟩
  rw [upd_at, fb_addI (by rw [kc_1]; omega) (by rw [kc_1]; omega), kc_1]
theorem SR.court (h : SR names told nodes words chances unsures slips throne said kind parts pn wt tw uw uo fsh rd) (s : Int32) : SR names 1 nodes words chances unsures s throne said kind parts pn wt tw uw uo (upd (upd fsh 0 s) 5 1) rd := by
  obtain ⟨N, W, C, Q, hH, hKR, hUR, hNR⟩ := h
  have hN := hH.N18
  obtain ⟨a1, a2, a3, a4, a5, a6, a7, a8, a9, b1, b2, b3, b4, b5, b6, b7, b8, b9, c1, c2, c3, c4, c5, c6⟩ := hH
  refine ⟨N, W, C, Q, ⟨a1, a2, a3, a4, a5, a6, a7, a8, a9, by rw [upd_ne (by decide), upd_ne (by decide)]; exact b1, by rw [upd_ne (by decide), upd_ne (by decide)]; exact b2, by rw [upd_ne (by decide), upd_ne (by decide)]; exact b3, by rw [upd_ne (by decide), upd_ne (by decide)]; exact b4, by rw [upd_ne (by decide), upd_ne (by decide)]; exact b5, Or.inr rfl, upd_at _ _ _, by rw [upd_ne (by decide), upd_at], by rw [upd_ne (by decide), upd_ne (by decide)]; exact b9, by rw [upd_ne (by decide), upd_ne (by decide)]; exact c1, c2, c3, c4, c5, fun q => absurd q (by decide)⟩, hKR.congr hN (fun j q1 q2 => by rw [upd_ne (by omega), upd_ne (by omega)]), hUR.congr a9 (fun j q1 q2 => by rw [upd_ne (by omega), upd_ne (by omega)]), hNR.congr hN (fun j q1 q2 => by rw [upd_ne (by omega), upd_ne (by omega)])⟩
theorem SR.throneP (h : SR names told nodes words chances unsures slips throne said kind parts pn wt tw uw uo fsh rd) (ht : ¬ told = 0) {N j : Nat} (hN0 : nodes = nI N) (hN18 : N ≤ 18) (hj : j < N) : SR names told nodes words chances unsures slips (nI j) said kind parts pn wt tw uw uo (upd fsh 6 (nI j)) rd := by
  obtain ⟨M, W, C, Q, hH, hKR, hUR, hNR⟩ := h
  have hN := hH.N18
  obtain ⟨a1, a2, a3, a4, a5, a6, a7, a8, a9, b1, b2, b3, b4, b5, b6, b7, b8, b9, c1, c2, c3, c4, c5, c6⟩ := hH
  have hMN : M = N := (nI_eq (by omega) (by omega)).mp (a1.symm.trans hN0)
  refine ⟨M, W, C, Q, ⟨a1, a2, a3, a4, a5, a6, a7, a8, a9, by rw [upd_ne (by decide)]; exact b1, by rw [upd_ne (by decide)]; exact b2, by rw [upd_ne (by decide)]; exact b3, by rw [upd_ne (by decide)]; exact b4, by rw [upd_ne (by decide)]; exact b5, b6, by rw [upd_ne (by decide)]; exact b7, by rw [upd_ne (by decide)]; exact b8, upd_at _ _ _, by rw [upd_ne (by decide)]; exact c1, by rw [nI_toInt (by omega)]; omega, by rw [nI_toInt (by omega)]; omega, c4, c5, fun q => absurd q ht⟩, hKR.congr hN (fun j q1 q2 => upd_ne (by omega)), hUR.congr a9 (fun j q1 q2 => upd_ne (by omega)), hNR.congr hN (fun j q1 q2 => upd_ne (by omega))⟩
end SRS
