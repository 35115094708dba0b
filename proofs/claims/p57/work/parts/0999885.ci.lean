/-! what a court that was read keeps by itself -/
section E1
theorem lt_ap {α β : Type} (a : α) (f : α → β) : lt_ a f = f a := lt_eq rfl
theorem lt_Q {α β : Type} {Q : β → Prop} {v : α} {f : α → β} (h : ∀ x, v = x → Q (f x)) : Q (lt_ v f) := h v rfl
theorem ite_Q {β : Type} {Q : β → Prop} {c : Prop} {d : Decidable c} {a b : β} (ha : c → Q a) (hb : ¬ c → Q b) : Q (@ite β c d a b) := by
  by_cases h : c
  · rw [if_pos h]; exact ha h
  · rw [if_neg h]; exact hb h
theorem un2_Q {A0 A1 B : Type} {Q : B → Prop} {t : A0 × A1} {f : A0 → A1 → B} (h : ∀ a0 a1, t = (a0, a1) → Q (f a0 a1)) : Q (un2_ t f) := h _ _ rfl
theorem un3_Q {A0 A1 A2 B : Type} {Q : B → Prop} {t : A0 × A1 × A2} {f : A0 → A1 → A2 → B} (h : ∀ a0 a1 a2, t = (a0, a1, a2) → Q (f a0 a1 a2)) : Q (un3_ t f) := h _ _ _ rfl
theorem un4_Q {A0 A1 A2 A3 B : Type} {Q : B → Prop} {t : A0 × A1 × A2 × A3} {f : A0 → A1 → A2 → A3 → B} (h : ∀ a0 a1 a2 a3, t = (a0, a1, a2, a3) → Q (f a0 a1 a2 a3)) : Q (un4_ t f) := h _ _ _ _ rfl
theorem un5_Q {A0 A1 A2 A3 A4 B : Type} {Q : B → Prop} {t : A0 × A1 × A2 × A3 × A4} {f : A0 → A1 → A2 → A3 → A4 → B} (h : ∀ a0 a1 a2 a3 a4, t = (a0, a1, a2, a3, a4) → Q (f a0 a1 a2 a3 a4)) : Q (un5_ t f) := h _ _ _ _ _ rfl
theorem un6_Q {A0 A1 A2 A3 A4 A5 B : Type} {Q : B → Prop} {t : A0 × A1 × A2 × A3 × A4 × A5} {f : A0 → A1 → A2 → A3 → A4 → A5 → B} (h : ∀ a0 a1 a2 a3 a4 a5, t = (a0, a1, a2, a3, a4, a5) → Q (f a0 a1 a2 a3 a4 a5)) : Q (un6_ t f) := h _ _ _ _ _ _ rfl
theorem un7_Q {A0 A1 A2 A3 A4 A5 A6 B : Type} {Q : B → Prop} {t : A0 × A1 × A2 × A3 × A4 × A5 × A6} {f : A0 → A1 → A2 → A3 → A4 → A5 → A6 → B} (h : ∀ a0 a1 a2 a3 a4 a5 a6, t = (a0, a1, a2, a3, a4, a5, a6) → Q (f a0 a1 a2 a3 a4 a5 a6)) : Q (un7_ t f) := h _ _ _ _ _ _ _ rfl
theorem un8_Q {A0 A1 A2 A3 A4 A5 A6 A7 B : Type} {Q : B → Prop} {t : A0 × A1 × A2 × A3 × A4 × A5 × A6 × A7} {f : A0 → A1 → A2 → A3 → A4 → A5 → A6 → A7 → B} (h : ∀ a0 a1 a2 a3 a4 a5 a6 a7, t = (a0, a1, a2, a3, a4, a5, a6, a7) → Q (f a0 a1 a2 a3 a4 a5 a6 a7)) : Q (un8_ t f) := h _ _ _ _ _ _ _ _ rfl
theorem un9_Q {A0 A1 A2 A3 A4 A5 A6 A7 A8 B : Type} {Q : B → Prop} {t : A0 × A1 × A2 × A3 × A4 × A5 × A6 × A7 × A8} {f : A0 → A1 → A2 → A3 → A4 → A5 → A6 → A7 → A8 → B} (h : ∀ a0 a1 a2 a3 a4 a5 a6 a7 a8, t = (a0, a1, a2, a3, a4, a5, a6, a7, a8) → Q (f a0 a1 a2 a3 a4 a5 a6 a7 a8)) : Q (un9_ t f) := h _ _ _ _ _ _ _ _ _ rfl
theorem un10_Q {A0 A1 A2 A3 A4 A5 A6 A7 A8 A9 B : Type} {Q : B → Prop} {t : A0 × A1 × A2 × A3 × A4 × A5 × A6 × A7 × A8 × A9} {f : A0 → A1 → A2 → A3 → A4 → A5 → A6 → A7 → A8 → A9 → B} (h : ∀ a0 a1 a2 a3 a4 a5 a6 a7 a8 a9, t = (a0, a1, a2, a3, a4, a5, a6, a7, a8, a9) → Q (f a0 a1 a2 a3 a4 a5 a6 a7 a8 a9)) : Q (un10_ t f) := h _ _ _ _ _ _ _ _ _ _ rfl
theorem un11_Q {A0 A1 A2 A3 A4 A5 A6 A7 A8 A9 A10 B : Type} {Q : B → Prop} {t : A0 × A1 × A2 × A3 × A4 × A5 × A6 × A7 × A8 × A9 × A10} {f : A0 → A1 → A2 → A3 → A4 → A5 → A6 → A7 → A8 → A9 → A10 → B} (h : ∀ a0 a1 a2 a3 a4 a5 a6 a7 a8 a9 a10, t = (a0, a1, a2, a3, a4, a5, a6, a7, a8, a9, a10) → Q (f a0 a1 a2 a3 a4 a5 a6 a7 a8 a9 a10)) : Q (un11_ t f) := h _ _ _ _ _ _ _ _ _ _ _ rfl
theorem un12_Q {A0 A1 A2 A3 A4 A5 A6 A7 A8 A9 A10 A11 B : Type} {Q : B → Prop} {t : A0 × A1 × A2 × A3 × A4 × A5 × A6 × A7 × A8 × A9 × A10 × A11} {f : A0 → A1 → A2 → A3 → A4 → A5 → A6 → A7 → A8 → A9 → A10 → A11 → B} (h : ∀ a0 a1 a2 a3 a4 a5 a6 a7 a8 a9 a10 a11, t = (a0, a1, a2, a3, a4, a5, a6, a7, a8, a9, a10, a11) → Q (f a0 a1 a2 a3 a4 a5 a6 a7 a8 a9 a10 a11)) : Q (un12_ t f) := h _ _ _ _ _ _ _ _ _ _ _ _ rfl
theorem un13_Q {A0 A1 A2 A3 A4 A5 A6 A7 A8 A9 A10 A11 A12 B : Type} {Q : B → Prop} {t : A0 × A1 × A2 × A3 × A4 × A5 × A6 × A7 × A8 × A9 × A10 × A11 × A12} {f : A0 → A1 → A2 → A3 → A4 → A5 → A6 → A7 → A8 → A9 → A10 → A11 → A12 → B} (h : ∀ a0 a1 a2 a3 a4 a5 a6 a7 a8 a9 a10 a11 a12, t = (a0, a1, a2, a3, a4, a5, a6, a7, a8, a9, a10, a11, a12) → Q (f a0 a1 a2 a3 a4 a5 a6 a7 a8 a9 a10 a11 a12)) : Q (un13_ t f) := h _ _ _ _ _ _ _ _ _ _ _ _ _ rfl
theorem un16_Q {A0 A1 A2 A3 A4 A5 A6 A7 A8 A9 A10 A11 A12 A13 A14 A15 B : Type} {Q : B → Prop} {t : A0 × A1 × A2 × A3 × A4 × A5 × A6 × A7 × A8 × A9 × A10 × A11 × A12 × A13 × A14 × A15} {f : A0 → A1 → A2 → A3 → A4 → A5 → A6 → A7 → A8 → A9 → A10 → A11 → A12 → A13 → A14 → A15 → B} (h : ∀ a0 a1 a2 a3 a4 a5 a6 a7 a8 a9 a10 a11 a12 a13 a14 a15, t = (a0, a1, a2, a3, a4, a5, a6, a7, a8, a9, a10, a11, a12, a13, a14, a15) → Q (f a0 a1 a2 a3 a4 a5 a6 a7 a8 a9 a10 a11 a12 a13 a14 a15)) : Q (un16_ t f) := h _ _ _ _ _ _ _ _ _ _ _ _ _ _ _ _ rfl
theorem un21_Q {A0 A1 A2 A3 A4 A5 A6 A7 A8 A9 A10 A11 A12 A13 A14 A15 A16 A17 A18 A19 A20 B : Type} {Q : B → Prop} {t : A0 × A1 × A2 × A3 × A4 × A5 × A6 × A7 × A8 × A9 × A10 × A11 × A12 × A13 × A14 × A15 × A16 × A17 × A18 × A19 × A20} {f : A0 → A1 → A2 → A3 → A4 → A5 → A6 → A7 → A8 → A9 → A10 → A11 → A12 → A13 → A14 → A15 → A16 → A17 → A18 → A19 → A20 → B} (h : ∀ a0 a1 a2 a3 a4 a5 a6 a7 a8 a9 a10 a11 a12 a13 a14 a15 a16 a17 a18 a19 a20, t = (a0, a1, a2, a3, a4, a5, a6, a7, a8, a9, a10, a11, a12, a13, a14, a15, a16, a17, a18, a19, a20) → Q (f a0 a1 a2 a3 a4 a5 a6 a7 a8 a9 a10 a11 a12 a13 a14 a15 a16 a17 a18 a19 a20)) : Q (un21_ t f) := h _ _ _ _ _ _ _ _ _ _ _ _ _ _ _ _ _ _ _ _ _ rfl
theorem un23_Q {A0 A1 A2 A3 A4 A5 A6 A7 A8 A9 A10 A11 A12 A13 A14 A15 A16 A17 A18 A19 A20 A21 A22 B : Type} {Q : B → Prop} {t : A0 × A1 × A2 × A3 × A4 × A5 × A6 × A7 × A8 × A9 × A10 × A11 × A12 × A13 × A14 × A15 × A16 × A17 × A18 × A19 × A20 × A21 × A22} {f : A0 → A1 → A2 → A3 → A4 → A5 → A6 → A7 → A8 → A9 → A10 → A11 → A12 → A13 → A14 → A15 → A16 → A17 → A18 → A19 → A20 → A21 → A22 → B} (h : ∀ a0 a1 a2 a3 a4 a5 a6 a7 a8 a9 a10 a11 a12 a13 a14 a15 a16 a17 a18 a19 a20 a21 a22, t = (a0, a1, a2, a3, a4, a5, a6, a7, a8, a9, a10, a11, a12, a13, a14, a15, a16, a17, a18, a19, a20, a21, a22) → Q (f a0 a1 a2 a3 a4 a5 a6 a7 a8 a9 a10 a11 a12 a13 a14 a15 a16 a17 a18 a19 a20 a21 a22)) : Q (un23_ t f) := h _ _ _ _ _ _ _ _ _ _ _ _ _ _ _ _ _ _ _ _ _ _ _ rfl
theorem un30_Q {A0 A1 A2 A3 A4 A5 A6 A7 A8 A9 A10 A11 A12 A13 A14 A15 A16 A17 A18 A19 A20 A21 A22 A23 A24 A25 A26 A27 A28 A29 B : Type} {Q : B → Prop} {t : A0 × A1 × A2 × A3 × A4 × A5 × A6 × A7 × A8 × A9 × A10 × A11 × A12 × A13 × A14 × A15 × A16 × A17 × A18 × A19 × A20 × A21 × A22 × A23 × A24 × A25 × A26 × A27 × A28 × A29} {f : A0 → A1 → A2 → A3 → A4 → A5 → A6 → A7 → A8 → A9 → A10 → A11 → A12 → A13 → A14 → A15 → A16 → A17 → A18 → A19 → A20 → A21 → A22 → A23 → A24 → A25 → A26 → A27 → A28 → A29 → B} (h : ∀ a0 a1 a2 a3 a4 a5 a6 a7 a8 a9 a10 a11 a12 a13 a14 a15 a16 a17 a18 a19 a20 a21 a22 a23 a24 a25 a26 a27 a28 a29, t = (a0, a1, a2, a3, a4, a5, a6, a7, a8, a9, a10, a11, a12, a13, a14, a15, a16, a17, a18, a19, a20, a21, a22, a23, a24, a25, a26, a27, a28, a29) → Q (f a0 a1 a2 a3 a4 a5 a6 a7 a8 a9 a10 a11 a12 a13 a14 a15 a16 a17 a18 a19 a20 a21 a22 a23 a24 a25 a26 a27 a28 a29)) : Q (un30_ t f) := h _ _ _ _ _ _ _ _ _ _ _ _ _ _ _ _ _ _ _ _ _ _ _ _ _ _ _ _ _ _ rfl
theorem un32_Q {A0 A1 A2 A3 A4 A5 A6 A7 A8 A9 A10 A11 A12 A13 A14 A15 A16 A17 A18 A19 A20 A21 A22 A23 A24 A25 A26 A27 A28 A29 A30 A31 B : Type} {Q : B → Prop} {t : A0 × A1 × A2 × A3 × A4 × A5 × A6 × A7 × A8 × A9 × A10 × A11 × A12 × A13 × A14 × A15 × A16 × A17 × A18 × A19 × A20 × A21 × A22 × A23 × A24 × A25 × A26 × A27 × A28 × A29 × A30 × A31} {f : A0 → A1 → A2 → A3 → A4 → A5 → A6 → A7 → A8 → A9 → A10 → A11 → A12 → A13 → A14 → A15 → A16 → A17 → A18 → A19 → A20 → A21 → A22 → A23 → A24 → A25 → A26 → A27 → A28 → A29 → A30 → A31 → B} (h : ∀ a0 a1 a2 a3 a4 a5 a6 a7 a8 a9 a10 a11 a12 a13 a14 a15 a16 a17 a18 a19 a20 a21 a22 a23 a24 a25 a26 a27 a28 a29 a30 a31, t = (a0, a1, a2, a3, a4, a5, a6, a7, a8, a9, a10, a11, a12, a13, a14, a15, a16, a17, a18, a19, a20, a21, a22, a23, a24, a25, a26, a27, a28, a29, a30, a31) → Q (f a0 a1 a2 a3 a4 a5 a6 a7 a8 a9 a10 a11 a12 a13 a14 a15 a16 a17 a18 a19 a20 a21 a22 a23 a24 a25 a26 a27 a28 a29 a30 a31)) : Q (un32_ t f) := h _ _ _ _ _ _ _ _ _ _ _ _ _ _ _ _ _ _ _ _ _ _ _ _ _ _ _ _ _ _ _ _ rfl
/-- sums, the greatest, what is joined: over the parts as told -/
def sI (f : Nat → Int32) (b : Nat) : Nat → Int32
  | 0 => 0
  | m + 1 => sI f b m + f (b + m)
def sT (steps pn : Nat → Int32) (b : Nat) : Nat → Int32
  | 0 => 0
  | m + 1 => if sT steps pn b m < steps (pn (b + m)).toNatClampNeg + 1 then steps (pn (b + m)).toNatClampNeg + 1 else sT steps pn b m
def sB (below pn : Nat → Int32) (b : Nat) (z : Int32) : Nat → Int32
  | 0 => z
  | m + 1 => sB below pn b z m ||| below (pn (b + m)).toNatClampNeg
def sA1 (pn : Nat → Int32) (k n : Nat) (v : Int32) : Nat → Int32
  | 0 => v
  | m + 1 => if pn (4 * n + m) = nI k then sA1 pn k n v m ||| ((1 : Int32) <<< (nI n &&& 31)) else sA1 pn k n v m
def sA (parts pn : Nat → Int32) (k : Nat) : Nat → Int32
  | 0 => 0
  | n + 1 => sA1 pn k n (sA parts pn k n) (parts n).toNatClampNeg
def uI (kind ws : Nat → Int32) : Nat → Int32
  | 0 => 1
  | k + 1 => if kind k = 3 then uI kind ws k * ws k else uI kind ws k
theorem sI_congr {f g : Nat → Int32} {b : Nat} : ∀ (m : Nat), (∀ i : Nat, i < m → g (b + i) = f (b + i)) → sI g b m = sI f b m
  | 0, _ => rfl
  | m + 1, h => by rw [sI, sI, sI_congr m (fun i hi => h i (by omega)), h m (by omega)]
theorem sT_congr {s t f g : Nat → Int32} {b : Nat} : ∀ (m : Nat), (∀ i : Nat, i < m → g (b + i) = f (b + i) ∧ t (f (b + i)).toNatClampNeg = s (f (b + i)).toNatClampNeg) → sT t g b m = sT s f b m
  | 0, _ => rfl
  | m + 1, h => by rw [sT, sT, sT_congr m (fun i hi => h i (by omega)), (h m (by omega)).1, (h m (by omega)).2]
theorem sB_congr {s t f g : Nat → Int32} {b : Nat} {z : Int32} : ∀ (m : Nat), (∀ i : Nat, i < m → g (b + i) = f (b + i) ∧ t (f (b + i)).toNatClampNeg = s (f (b + i)).toNatClampNeg) → sB t g b z m = sB s f b z m
  | 0, _ => rfl
  | m + 1, h => by rw [sB, sB, sB_congr m (fun i hi => h i (by omega)), (h m (by omega)).1, (h m (by omega)).2]
theorem sA1_congr {f g : Nat → Int32} {k n : Nat} {v : Int32} : ∀ (m : Nat), (∀ i : Nat, i < m → g (4 * n + i) = f (4 * n + i)) → sA1 g k n v m = sA1 f k n v m
  | 0, _ => rfl
  | m + 1, h => by rw [sA1, sA1, sA1_congr m (fun i hi => h i (by omega)), h m (by omega)]
theorem sA_congr {p q f g : Nat → Int32} {k : Nat} : ∀ (n : Nat), (∀ j : Nat, j < n → q j = p j ∧ ∀ i : Nat, i < (p j).toNatClampNeg → g (4 * j + i) = f (4 * j + i)) → sA q g k n = sA p f k n
  | 0, _ => rfl
  | n + 1, h => by rw [sA, sA, sA_congr n (fun j hj => h j (by omega)), (h n (by omega)).1, sA1_congr _ (h n (by omega)).2]
theorem uI_congr {a b f g : Nat → Int32} : ∀ (n : Nat), (∀ j : Nat, j < n → b j = a j ∧ g j = f j) → uI b g n = uI a f n
  | 0, _ => rfl
  | n + 1, h => by rw [uI, uI, uI_congr n (fun j hj => h j (by omega)), (h n (by omega)).1, (h n (by omega)).2]
theorem sA1_none {pn : Nat → Int32} {k n : Nat} {v : Int32} : ∀ (m : Nat), (∀ i : Nat, i < m → ¬ pn (4 * n + i) = nI k) → sA1 pn k n v m = v
  | 0, _ => rfl
  | m + 1, h => by rw [sA1, if_neg (h m (by omega)), sA1_none m (fun i hi => h i (by omega))]
theorem sA_none {parts pn : Nat → Int32} {k : Nat} : ∀ (n : Nat), (∀ j : Nat, j < n → ∀ i : Nat, i < (parts j).toNatClampNeg → ¬ pn (4 * j + i) = nI k) → sA parts pn k n = 0
  | 0, _ => rfl
  | n + 1, h => by rw [sA, sA_none n (fun j hj => h j (by omega)), sA1_none _ (h n (by omega))]
/-- a node with q parts -/
def ND (k q : Nat) (kind pn wt ws steps below : Nat → Int32) : Prop := q ≤ 4 ∧ ws k = sI wt (4 * k) q ∧ steps k = sT steps pn (4 * k) q ∧ below k = sB below pn (4 * k) (if kind k = 0 then (1 : Int32) <<< (nI k &&& 31) else 0) q ∧ (∀ i : Nat, i < q → ∃ j : Nat, j < k ∧ pn (4 * k + i) = nI j) ∧ (∀ i j : Nat, i < j → j < q → ¬ pn (4 * k + i) = pn (4 * k + j))
def CI (N : Nat) (unit : Int32) (kind parts pn wt ws steps below above : Nat → Int32) : Prop := N ≤ 18 ∧ (∀ k : Nat, k < N → ∃ q : Nat, parts k = nI q ∧ ND k q kind pn wt ws steps below) ∧ unit = uI kind ws N ∧ ∀ k : Nat, k < N → above k = sA parts pn k N
/-- between two lines -/
def CIS (nodes unit : Int32) (kind parts pn wt ws steps below above : Nat → Int32) : Prop := ∃ N : Nat, nodes = nI N ∧ CI N unit kind parts pn wt ws steps below above
/-- within a line: the node N is begun and has m parts -/
def CP (N m : Nat) (unit : Int32) (kind parts pn wt ws steps below above : Nat → Int32) : Prop := N < 18 ∧ parts N = nI m ∧ ND N m kind pn wt ws steps below ∧ (∀ k : Nat, k < N → ∃ q : Nat, parts k = nI q ∧ ND k q kind pn wt ws steps below) ∧ unit = uI kind ws N ∧ (∀ k : Nat, k < N → above k = sA1 pn k N (sA parts pn k N) m) ∧ above N = 0
section NDS
variable {kind parts pn wt ws steps below above : Nat → Int32}
theorem ND.congr {k q : Nat} {kind' pn' wt' ws' steps' below' : Nat → Int32} (hk : k < 18) (h : ND k q kind pn wt ws steps below) (e1 : kind' k = kind k) (e2 : ∀ i : Nat, i < q → pn' (4 * k + i) = pn (4 * k + i)) (e3 : ∀ i : Nat, i < q → wt' (4 * k + i) = wt (4 * k + i)) (e4 : ws' k = ws k) (e5 : ∀ j : Nat, j ≤ k → steps' j = steps j) (e6 : ∀ j : Nat, j ≤ k → below' j = below j) : ND k q kind' pn' wt' ws' steps' below' := by
  obtain ⟨h1, h2, h3, h4, h5, h6⟩ := h
  have hj : ∀ i : Nat, i < q → ∀ f g : Nat → Int32, (∀ j : Nat, j ≤ k → g j = f j) → g (pn (4 * k + i)).toNatClampNeg = f (pn (4 * k + i)).toNatClampNeg := fun i hi f g e => by
    obtain ⟨j, q1, q2⟩ := h5 i hi
    rw [q2, nI_clamp (by omega)]
    exact e j (by omega)
  refine ⟨h1, ?_, ?_, ?_, fun i hi => ?_, fun i j a b => ?_⟩
  · rw [e4, h2]; exact (sI_congr q (fun i hi => e3 i hi)).symm
  · rw [e5 k (Nat.le_refl _), h3]; exact (sT_congr q (fun i hi => ⟨e2 i hi, hj i hi _ _ e5⟩)).symm
  · rw [e6 k (Nat.le_refl _), h4, e1]; exact (sB_congr q (fun i hi => ⟨e2 i hi, hj i hi _ _ e6⟩)).symm
  · rw [e2 i hi]; exact h5 i hi
  · rw [e2 i (by omega), e2 j b]; exact h6 i j a b
theorem CI.beg {N : Nat} {unit p0 : Int32} (h : CI N unit kind parts pn wt ws steps below above) (hN : N < 18) : CP N 0 unit (upd kind N p0) (upd parts N 0) pn wt (upd ws N 0) (upd steps N 0) (upd below N (if p0 = 0 then (1 : Int32) <<< (nI N &&& 31) else 0)) (upd above N 0) := by
  obtain ⟨-, h2, h3, h4⟩ := h
  refine ⟨hN, upd_at _ _ _, ⟨Nat.zero_le _, upd_at _ _ _, upd_at _ _ _, ?_, fun i hi => absurd hi (by omega), fun i j _ hj => absurd hj (by omega)⟩, fun k hk => ?_, ?_, fun k hk => ?_, upd_at _ _ _⟩
  · rw [upd_at, upd_at]; rfl
  · obtain ⟨q, q1, q2⟩ := h2 k hk
    exact ⟨q, by rw [upd_ne (by omega)]; exact q1, q2.congr (by omega) (upd_ne (by omega)) (fun _ _ => rfl) (fun _ _ => rfl) (upd_ne (by omega)) (fun j hj => upd_ne (by omega)) (fun j hj => upd_ne (by omega))⟩
  · rw [h3]
    exact (uI_congr N (fun j hj => ⟨upd_ne (by omega), upd_ne (by omega)⟩)).symm
  · rw [upd_ne (by omega), h4 k hk]
    exact (sA_congr N (fun j hj => ⟨upd_ne (by omega), fun _ _ => rfl⟩)).symm
theorem CP.add {N m j : Nat} {unit w : Int32} (h : CP N m unit kind parts pn wt ws steps below above) (hm : m < 4) (hj : j < N) (hn : ¬ ∃ i : Nat, i < m ∧ pn (4 * N + i) = nI j) : CP N (m + 1) unit kind (upd parts N (nI (m + 1))) (upd pn (4 * N + m) (nI j)) (upd wt (4 * N + m) w) (upd ws N (ws N + w)) (upd steps N (if steps N < steps j + 1 then steps j + 1 else steps N)) (upd below N (below N ||| below j)) (upd above j (above j ||| ((1 : Int32) <<< (nI N &&& 31)))) := by
  obtain ⟨hN, h1, ⟨d1, d2, d3, d4, d5, d6⟩, h3, h4, h5, h6⟩ := h
  have hpn : ∀ i : Nat, i < m → upd pn (4 * N + m) (nI j) (4 * N + i) = pn (4 * N + i) := fun i hi => upd_ne (by omega)
  have hlow : ∀ k : Nat, k < N → ∀ i : Nat, i < 4 → upd pn (4 * N + m) (nI j) (4 * k + i) = pn (4 * k + i) := fun k hk i hi => upd_ne (by omega)
  have hcl : (nI j).toNatClampNeg = j := nI_clamp (by omega)
  refine ⟨hN, upd_at _ _ _, ⟨by omega, ?_, ?_, ?_, fun i hi => ?_, fun i k a b => ?_⟩, fun k hk => ?_, ?_, fun k hk => ?_, ?_⟩
  · rw [upd_at, sI, sI_congr m (fun i hi => upd_ne (by omega)), upd_at, d2]
  · rw [upd_at, sT, upd_at, hcl, upd_ne (show ¬ j = N by omega), d3]
    rw [sT_congr m (s := steps) (f := pn) (fun i hi => ⟨hpn i hi, by obtain ⟨q, q1, q2⟩ := d5 i hi; rw [q2, nI_clamp (by omega)]; exact upd_ne (by omega)⟩)]
  · rw [upd_at, sB, upd_at, hcl, upd_ne (show ¬ j = N by omega), d4]
    rw [sB_congr m (s := below) (f := pn) (fun i hi => ⟨hpn i hi, by obtain ⟨q, q1, q2⟩ := d5 i hi; rw [q2, nI_clamp (by omega)]; exact upd_ne (by omega)⟩)]
  · by_cases e : i = m
    · rw [e, upd_at]; exact ⟨j, hj, rfl⟩
    · rw [hpn i (by omega)]; exact d5 i (by omega)
  · by_cases e : k = m
    · rw [e, upd_at, hpn i (by omega)]; exact fun c => hn ⟨i, by omega, c⟩
    · rw [hpn i (by omega), hpn k (by omega)]; exact d6 i k a (by omega)
  · obtain ⟨q, q1, q2⟩ := h3 k hk
    exact ⟨q, by rw [upd_ne (by omega)]; exact q1, q2.congr (by omega) rfl (fun i hi => hlow k hk i (by have := q2.1; omega)) (fun i hi => upd_ne (by have := q2.1; omega)) (upd_ne (by omega)) (fun i hi => upd_ne (by omega)) (fun i hi => upd_ne (by omega))⟩
  · rw [h4]
    exact (uI_congr N (fun i hi => ⟨rfl, upd_ne (by omega)⟩)).symm
  · have ep : sA (upd parts N (nI (m + 1))) (upd pn (4 * N + m) (nI j)) k N = sA parts pn k N := sA_congr N (fun i hi => ⟨upd_ne (by omega), fun i2 hi2 => by
      obtain ⟨q, q1, q2⟩ := h3 i hi
      rw [q1, nI_clamp (by have := q2.1; omega)] at hi2
      exact hlow i hi i2 (by have := q2.1; omega)⟩)
    rw [sA1, upd_at, sA1_congr m hpn, ep]
    by_cases e : k = j
    · rw [e, upd_at, if_pos rfl, ← e, h5 k hk]
    · rw [upd_ne e, if_neg (fun c => e ((nI_eq (by omega) (by omega)).mp c).symm), h5 k hk]
  · rw [upd_ne (by omega)]; exact h6
theorem CP.fin {N m : Nat} {unit : Int32} (h : CP N m unit kind parts pn wt ws steps below above) : CI (N + 1) (if kind N = 3 then unit * ws N else unit) kind parts pn wt ws steps below above := by
  obtain ⟨hN, h1, hD, h3, h4, h5, h6⟩ := h
  have hm := hD.1
  refine ⟨by omega, fun k hk => ?_, ?_, fun k hk => ?_⟩
  · by_cases e : k = N
    · rw [e]; exact ⟨m, h1, hD⟩
    · exact h3 k (by omega)
  · rw [h4]; rfl
  · rw [sA, h1, nI_clamp (by omega)]
    by_cases e : k = N
    · rw [e, h6]
      have hz : ∀ i : Nat, i < m → ¬ pn (4 * N + i) = nI N := fun i hi c => by
        obtain ⟨q, q1, q2⟩ := hD.2.2.2.2.1 i hi
        have := (nI_eq (by omega) (by omega)).mp (q2.symm.trans c)
        omega
      rw [sA1_none m hz]
      refine (sA_none N (fun j hj i hi c => ?_)).symm
      obtain ⟨q, q1, q2⟩ := h3 j hj
      rw [q1, nI_clamp (by have := q2.1; omega)] at hi
      obtain ⟨z, z1, z2⟩ := q2.2.2.2.2.1 i hi
      have := (nI_eq (by omega) (by omega)).mp (z2.symm.trans c)
      omega
    · exact h5 k (by omega)
end NDS
end E1
