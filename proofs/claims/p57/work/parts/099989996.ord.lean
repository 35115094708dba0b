/-! orders of a node's parts: the numbers alone; the class's orders -/
section G6
def gd : List Nat → Nat → Nat
  | [], _ => 0
  | a :: _, 0 => a
  | _ :: l, x + 1 => gd l x
def has : List Nat → Nat → Bool
  | [], _ => false
  | a :: l, p => a == p || has l p
theorem gd_lt (p : Nat) : ∀ (L : List Nat) (x : Nat), x < L.length → gd (L ++ [p]) x = gd L x
  | [], x, h => absurd h (Nat.not_lt_zero x)
  | _ :: _, 0, _ => rfl
  | _ :: l, x + 1, h => gd_lt p l x (Nat.lt_of_succ_lt_succ h)
theorem gd_end (p : Nat) : ∀ L : List Nat, gd (L ++ [p]) L.length = p
  | [] => rfl
  | _ :: l => gd_end p l
theorem has_snoc (p q : Nat) : ∀ L : List Nat, has (L ++ [p]) q = (has L q || p == q)
  | [] => by
    show (p == q || false) = (false || p == q)
    rw [Bool.or_false, Bool.false_or]
  | a :: l => by
    show (a == q || has (l ++ [p]) q) = ((a == q || has l q) || p == q)
    rw [has_snoc p q l, Bool.or_assoc]
theorem has_no (p : Nat) : ∀ (L : List Nat) (x : Nat), has L p = false → x < L.length → ¬ gd L x = p
  | [], x, _, h => absurd h (Nat.not_lt_zero x)
  | a :: l, 0, h, _ => fun e => by
    have h2 : (a == p || has l p) = false := h
    rw [Bool.or_eq_false_iff] at h2
    have e2 : a = p := e
    have h3 := h2.1
    rw [e2, beq_self_eq_true] at h3
    exact absurd h3 (by decide)
  | a :: l, x + 1, h, hx => by
    have h2 : (a == p || has l p) = false := h
    rw [Bool.or_eq_false_iff] at h2
    exact has_no p l x h2.2 (Nat.lt_of_succ_lt_succ hx)
theorem len_snoc (L : List Nat) (p : Nat) : (L ++ [p]).length = L.length + 1 := by
  rw [List.length_append]
  rfl
/-- a row whose node k has its parts in the order that L says -/
def rowL (f : Nat → Int32) (k : Nat) (L : List Nat) (q : Nat) : Int32 := if 4 * k ≤ q ∧ q < 4 * k + L.length then f (4 * k + gd L (q - 4 * k)) else f q
def trs (g : Nat → List (List Nat)) : Nat → List (List Nat)
  | 0 => []
  | p + 1 => trs g p ++ g p
/-- the reference's orders: L goes on with n more of m -/
def tr (m : Nat) : Nat → List Nat → List (List Nat)
  | 0, L => [L]
  | n + 1, L => trs (fun p => if has L p then [] else tr m n (L ++ [p])) m
def sumL (b : List Nat → Nat) : List (List Nat) → Nat
  | [] => 0
  | x :: l => b x + sumL b l
def minL (b : List Nat → Nat) : Nat → List (List Nat) → Nat
  | z, [] => z
  | z, x :: l => minL b (min z (b x)) l
theorem sumL_app (b : List Nat → Nat) : ∀ l l' : List (List Nat), sumL b (l ++ l') = sumL b l + sumL b l'
  | [], l' => (Nat.zero_add _).symm
  | x :: l, l' => by
    show b x + sumL b (l ++ l') = b x + sumL b l + sumL b l'
    rw [sumL_app b l l', Nat.add_assoc]
theorem minL_app (b : List Nat → Nat) : ∀ (l l' : List (List Nat)) (z : Nat), minL b z (l ++ l') = minL b (minL b z l) l'
  | [], _, _ => rfl
  | x :: l, l', z => minL_app b l l' (min z (b x))
theorem sumL_perm (b : List Nat → Nat) {l l' : List (List Nat)} (h : l.Perm l') : sumL b l = sumL b l' := by
  induction h with
  | nil => rfl
  | cons x _ ih =>
    show b x + _ = b x + _
    rw [ih]
  | swap x y l =>
    show b y + (b x + sumL b l) = b x + (b y + sumL b l)
    omega
  | trans _ _ h1 h2 => exact h1.trans h2
theorem minL_perm (b : List Nat → Nat) {l l' : List (List Nat)} (h : l.Perm l') : ∀ z : Nat, minL b z l = minL b z l' := by
  induction h with
  | nil => exact fun _ => rfl
  | cons x _ ih => exact fun z => ih (min z (b x))
  | swap x y l =>
    intro z
    show minL b (min (min z (b y)) (b x)) l = minL b (min (min z (b x)) (b y)) l
    rw [show min (min z (b y)) (b x) = min (min z (b x)) (b y) by omega]
  | trans _ _ h1 h2 => exact fun z => (h1 z).trans (h2 z)
theorem minL_le (b : List Nat → Nat) : ∀ (l : List (List Nat)) (z : Nat), minL b z l ≤ z
  | [], z => Nat.le_refl z
  | x :: l, z => Nat.le_trans (minL_le b l (min z (b x))) (Nat.min_le_left z (b x))
/-- the class's orders: the code's digits -/
def po (m : Nat) : Nat → Nat → (Nat → Nat) → (Nat → Nat) → (Nat → Nat)
  | 0, _, _, ρ => ρ
  | n + 1, c, l, ρ => po m n (c / (n + 1)) (fun j => if c % (n + 1) ≤ j ∧ j < n then l (j + 1) else l j) (fun x => if x = m - (n + 1) then l (c % (n + 1)) else ρ x)
def lst (ρ : Nat → Nat) : Nat → List Nat
  | 0 => []
  | m + 1 => lst ρ m ++ [ρ m]
theorem lst_len (ρ : Nat → Nat) : ∀ m : Nat, (lst ρ m).length = m
  | 0 => rfl
  | m + 1 => by rw [lst, len_snoc, lst_len ρ m]
theorem lst_gd (ρ : Nat → Nat) : ∀ m x : Nat, x < m → gd (lst ρ m) x = ρ x
  | 0, x, h => absurd h (Nat.not_lt_zero x)
  | m + 1, x, h => by
    rw [lst]
    by_cases c : x = m
    · have e := gd_end (ρ m) (lst ρ m)
      rw [lst_len] at e
      rw [c]; exact e
    · rw [gd_lt _ _ _ (by rw [lst_len]; omega)]
      exact lst_gd ρ m x (by omega)
/-- the order of a code -/
def cdL (m c : Nat) : List Nat := lst (po m m c (fun j => j) (fun _ => 0)) m
theorem cdL_len (m c : Nat) : (cdL m c).length = m := lst_len _ m
def LC (m : Nat) : Nat → List (List Nat)
  | 0 => []
  | c + 1 => LC m c ++ [cdL m c]
def fct : Nat → Nat
  | 0 => 1
  | m + 1 => (m + 1) * fct m
theorem lcp_0 : (LC 0 (fct 0)).Perm (tr 0 0 []) := by decide +kernel
theorem lcp_1 : (LC 1 (fct 1)).Perm (tr 1 1 []) := by decide +kernel
theorem lcp_2 : (LC 2 (fct 2)).Perm (tr 2 2 []) := by decide +kernel
theorem lcp_3 : (LC 3 (fct 3)).Perm (tr 3 3 []) := by decide +kernel
theorem lcp_4 : (LC 4 (fct 4)).Perm (tr 4 4 []) := by decide +kernel
theorem lcp_perm {m : Nat} (h : m ≤ 4) : (LC m (fct m)).Perm (tr m m []) := by
  rcases (show m = 0 ∨ m = 1 ∨ m = 2 ∨ m = 3 ∨ m = 4 by omega) with rfl | rfl | rfl | rfl | rfl
  · exact lcp_0
  · exact lcp_1
  · exact lcp_2
  · exact lcp_3
  · exact lcp_4
theorem fct_in {m : Nat} (h : m ≤ 4) : 1 ≤ fct m ∧ fct m ≤ 24 := by
  rcases (show m = 0 ∨ m = 1 ∨ m = 2 ∨ m = 3 ∨ m = 4 by omega) with rfl | rfl | rfl | rfl | rfl <;> decide
/-- every code's order is one -/
def okL (m : Nat) (L : List Nat) : Bool := (List.range m).all (fun x => Nat.blt (gd L x) m && (List.range m).all (fun y => x == y || gd L x != gd L y))
theorem ok_all : (List.range 5).all (fun m => (List.range (fct m)).all (fun c => okL m (cdL m c))) = true := by decide +kernel
theorem okL_at {m : Nat} {L : List Nat} (h : okL m L = true) : (∀ x : Nat, x < m → gd L x < m) ∧ ∀ x y : Nat, x < m → y < m → gd L x = gd L y → x = y := by
  unfold okL at h
  simp only [List.all_eq_true, List.mem_range, Bool.and_eq_true, Bool.or_eq_true, beq_iff_eq, bne_iff_ne, Nat.blt_eq] at h
  refine ⟨fun x hx => (h x hx).1, fun x y hx hy e => ?_⟩
  rcases (h x hx).2 y hy with q | q
  · exact q
  · exact absurd e q
theorem cd_ok {m c : Nat} (hm : m ≤ 4) (hc : c < fct m) : (∀ x : Nat, x < m → gd (cdL m c) x < m) ∧ ∀ x y : Nat, x < m → y < m → gd (cdL m c) x = gd (cdL m c) y → x = y := by
  have h := ok_all
  simp only [List.all_eq_true, List.mem_range] at h
  exact okL_at (h m (by omega) c hc)
theorem nI_div {a b : Nat} (ha : a < 2 ^ 31) (hb : 0 < b) (hb2 : b < 2 ^ 31) : nI a / nI b = nI (a / b) := by
  have hl : a / b ≤ a := Nat.div_le_self a b
  refine (fz_eq _ _).mpr ?_
  rw [ti_divE (z := nI a / nI b) rfl (nI_toInt ha) (nI_toInt hb2) (by omega) (by omega), nI_toInt (by omega)]
  rfl
theorem nI_mulN (a b : Nat) : nI a * nI b = nI (a * b) := (Int32.ofNat_mul a b).symm
theorem nI_mod {a b : Nat} (ha : a < 2 ^ 31) (hb : 0 < b) (hb2 : b < 2 ^ 31) : nI a - nI a / nI b * nI b = nI (a % b) := by
  have e := Nat.div_add_mod a b
  rw [Nat.mul_comm] at e
  rw [nI_div ha hb hb2, nI_mulN, nI_sub' (by omega) ha, show a - a / b * b = a % b by omega]
/-- what is left moves up -/
theorem po_2 {n rest k4 : Nat} {f2 : Nat → Int32} {K : Int32 → Int32 → (Nat → Int32) → (Nat → Int32) → (Nat → Int32) × (Nat → Int32)} {L0 : Nat → Int32} {pick : Nat} (hn : n ≤ 3) : ∀ (d j f : Nat) (L : Nat → Int32), n - j = d → pick ≤ j → j ≤ n → d < f → (∀ x : Nat, L x = if pick ≤ x ∧ x < j then L0 (x + 1) else L0 x) → ∃ L' : Nat → Int32, HX5_putInOrder_2 (nI (n + 1)) (nI rest) f2 K f (nI j) L = K (nI n) (nI rest) f2 L' ∧ ∀ x : Nat, L' x = if pick ≤ x ∧ x < n then L0 (x + 1) else L0 x := by
  intro d
  induction d with
  | zero =>
    intro j f L hd hp hj hf hL
    obtain ⟨f, rfl⟩ : ∃ g, f = g + 1 := ⟨f - 1, by omega⟩
    obtain rfl : j = n := by omega
    refine ⟨L, ?_, hL⟩
    rw [HX5_putInOrder_2_eq]
    simp only [lt_ap]
    rw [nI_pred, if_pos (nI_le (Nat.le_refl _) (by omega)), nI_om1]
  | succ d ih =>
    intro j f L hd hp hj hf hL
    obtain ⟨f, rfl⟩ : ∃ g, f = g + 1 := ⟨f - 1, by omega⟩
    rw [HX5_putInOrder_2_eq]
    simp only [lt_ap]
    rw [nI_pred, if_neg (show ¬ nI n ≤ nI j by rw [nI_leI (by omega) (by omega)]; omega), nI_1 j, nI_clamp (show j + 1 < 2 ^ 31 by omega), nI_clamp (show j < 2 ^ 31 by omega), nI_o1]
    refine ih (j + 1) f _ (by omega) (by omega) (by omega) (by omega) (fun x => ?_)
    by_cases e : x = j
    · rw [e, upd_at, hL (j + 1), if_neg (show ¬ (pick ≤ j + 1 ∧ j + 1 < j) by omega), if_pos (show pick ≤ j ∧ j < j + 1 by omega)]
    · rw [upd_ne e, hL x]
      by_cases c : pick ≤ x ∧ x < j
      · rw [if_pos c, if_pos (show pick ≤ x ∧ x < j + 1 by omega)]
      · rw [if_neg c, if_neg (show ¬ (pick ≤ x ∧ x < j + 1) by omega)]
theorem po_1 {m k : Nat} (hm : m ≤ 4) (hk : k < 18) {o : Nat → Int32} : ∀ (n c f : Nat) (l ρ : Nat → Nat) (F L : Nat → Int32), n ≤ m → n < f → c < 2 ^ 31 → (∀ q : Nat, F q = if 4 * k ≤ q ∧ q < 4 * k + (m - n) then o (4 * k + ρ (q - 4 * k)) else o q) → (∀ j : Nat, j < n → L j = o (4 * k + l j)) → ∃ F' L' : Nat → Int32, HX5_putInOrder_1 (nI m) (nI (4 * k)) f (nI n) (nI c) F L = (F', L') ∧ ∀ q : Nat, F' q = if 4 * k ≤ q ∧ q < 4 * k + m then o (4 * k + po m n c l ρ (q - 4 * k)) else o q := by
  intro n
  induction n with
  | zero =>
    intro c f l ρ F L hn hf hc hF hL
    obtain ⟨f, rfl⟩ : ∃ g, f = g + 1 := ⟨f - 1, by omega⟩
    refine ⟨F, L, ?_, fun q => ?_⟩
    · rw [HX5_putInOrder_1_eq, if_pos (show nI 0 ≤ 0 by decide)]
    · rw [hF q]; rfl
  | succ n ih =>
    intro c f l ρ F L hn hf hc hF hL
    obtain ⟨f, rfl⟩ : ∃ g, f = g + 1 := ⟨f - 1, by omega⟩
    have hpk : c % (n + 1) < n + 1 := Nat.mod_lt c (by omega)
    have hcd : c / (n + 1) ≤ c := Nat.div_le_self c (n + 1)
    rw [HX5_putInOrder_1_eq, if_neg (nI_nle (by omega) (by omega))]
    simp only [lt_ap]
    rw [nI_mod hc (by omega) (by omega), nI_div hc (by omega) (by omega), nI_add, nI_sub' (by omega) (by omega), nI_clamp (show c % (n + 1) < 2 ^ 31 by omega), nI_clamp (show 4 * k + m - (n + 1) < 2 ^ 31 by omega)]
    obtain ⟨L', e, hL'⟩ := po_2 (n := n) (rest := c / (n + 1)) (k4 := 0) (f2 := upd F (4 * k + m - (n + 1)) (L (c % (n + 1)))) (K := fun z_677 z_678 f_679 f_680 => HX5_putInOrder_1 (nI m) (nI (4 * k)) f z_677 z_678 f_679 f_680) (L0 := L) (pick := c % (n + 1)) (by omega) (n - c % (n + 1)) (c % (n + 1)) (((2147483647 - (nI (c % (n + 1))).toInt).toNat) + 1) L rfl (Nat.le_refl _) (by omega) (by rw [nI_toInt (by omega)]; omega) (fun x => by rw [if_neg (show ¬ (c % (n + 1) ≤ x ∧ x < c % (n + 1)) by omega)])
    obtain ⟨F', L2, e2, h2⟩ := ih (c / (n + 1)) f (fun j => if c % (n + 1) ≤ j ∧ j < n then l (j + 1) else l j) (fun x => if x = m - (n + 1) then l (c % (n + 1)) else ρ x) (upd F (4 * k + m - (n + 1)) (L (c % (n + 1)))) L' (by omega) (by omega) (by omega) (fun q => by
      by_cases y : q = 4 * k + m - (n + 1)
      · rw [y, upd_at, hL _ hpk, if_pos (show 4 * k ≤ 4 * k + m - (n + 1) ∧ 4 * k + m - (n + 1) < 4 * k + (m - n) by omega), if_pos (show 4 * k + m - (n + 1) - 4 * k = m - (n + 1) by omega)]
      · rw [upd_ne y, hF q]
        by_cases z : 4 * k ≤ q ∧ q < 4 * k + (m - (n + 1))
        · rw [if_pos z, if_pos (show 4 * k ≤ q ∧ q < 4 * k + (m - n) by omega), if_neg (show ¬ q - 4 * k = m - (n + 1) by omega)]
        · rw [if_neg z, if_neg (show ¬ (4 * k ≤ q ∧ q < 4 * k + (m - n)) by omega)]) (fun j hj => by
      rw [hL' j]
      by_cases y : c % (n + 1) ≤ j ∧ j < n
      · rw [if_pos y, if_pos y]; exact hL (j + 1) (by omega)
      · rw [if_neg y, if_neg y]; exact hL j (by omega))
    exact ⟨F', L2, e.trans e2, h2⟩
theorem po_0 {m k c : Nat} (hm : m ≤ 4) (hk : k < 18) (hc : c < 2 ^ 31) {o : Nat → Int32} : ∀ (d i f : Nat) (L : Nat → Int32), m - i = d → i ≤ m → d < f → (∀ j : Nat, j < i → L j = o (4 * k + j)) → ∃ F' L' : Nat → Int32, HX5_putInOrder_0 o (nI m) (nI c) (nI (4 * k)) f (nI i) L = (F', L') ∧ ∀ q : Nat, F' q = if 4 * k ≤ q ∧ q < 4 * k + m then o (4 * k + po m m c (fun j => j) (fun _ => 0) (q - 4 * k)) else o q := by
  intro d
  induction d with
  | zero =>
    intro i f L hd hi hf hL
    obtain ⟨f, rfl⟩ : ∃ g, f = g + 1 := ⟨f - 1, by omega⟩
    obtain rfl : i = m := by omega
    rw [HX5_putInOrder_0_eq, if_pos (nI_le (Nat.le_refl _) (by omega))]
    exact po_1 hm hk i c (((nI i).toInt.toNat) + 1) (fun j => j) (fun _ => 0) o L (Nat.le_refl _) (by rw [nI_toInt (by omega)]; omega) hc (fun q => by rw [if_neg (show ¬ (4 * k ≤ q ∧ q < 4 * k + (i - i)) by omega)]) hL
  | succ d ih =>
    intro i f L hd hi hf hL
    obtain ⟨f, rfl⟩ : ∃ g, f = g + 1 := ⟨f - 1, by omega⟩
    rw [HX5_putInOrder_0_eq, if_neg (show ¬ nI m ≤ nI i by rw [nI_leI (by omega) (by omega)]; omega)]
    simp only [lt_ap]
    rw [nI_add, nI_clamp (show 4 * k + i < 2 ^ 31 by omega), nI_clamp (show i < 2 ^ 31 by omega), nI_o1]
    refine ih (i + 1) f _ (by omega) (by omega) (by omega) (fun j hj => ?_)
    by_cases e : j = i
    · rw [e, upd_at]
    · rw [upd_ne e]; exact hL j (by omega)
/-- putInOrder makes the code's order -/
theorem po_eq {m k c : Nat} (hm : m ≤ 4) (hk : k < 18) (hc : c < 2 ^ 31) (o L : Nat → Int32) : ∃ L' : Nat → Int32, PX5_putInOrder o L (nI k) (nI m) (nI c) = (rowL o k (cdL m c), L') := by
  obtain ⟨F', L', e, h⟩ := po_0 hm hk hc (o := o) m 0 (((2147483647 - (0 : Int32).toInt).toNat) + 1) L rfl (by omega) (by rw [kc_0]; omega) (fun j hj => absurd hj (by omega))
  rw [nI_0] at e
  have hF : F' = rowL o k (cdL m c) := by
    funext q
    rw [h q]
    unfold rowL
    rw [cdL_len]
    by_cases y : 4 * k ≤ q ∧ q < 4 * k + m
    · rw [if_pos y, if_pos y]
      unfold cdL
      rw [lst_gd _ m _ (by omega)]
    · rw [if_neg y, if_neg y]
  refine ⟨L', ?_⟩
  rw [PX5_putInOrder_eq, lt_ap, nI_m4 (by omega), ← hF]
  exact e
/-- how many orders -/
def prd : Nat → Nat → Nat → Nat
  | 0, _, a => a
  | d + 1, i, a => prd d (i + 1) (a * i)
theorem oo_loop {parts : Nat → Int32} {k m : Nat} (hk : k < 18) (hm : m ≤ 4) (hp : parts k = nI m) : ∀ (d i f a : Nat), m + 1 - i = d → 2 ≤ i → i ≤ 5 → d < f → HX6_ordersOf_0 parts (nI k) f (nI i) (nI a) = nI (prd d i a) := by
  intro d
  induction d with
  | zero =>
    intro i f a hd h2 hi hf
    obtain ⟨f, rfl⟩ : ∃ g, f = g + 1 := ⟨f - 1, by omega⟩
    rw [HX6_ordersOf_0_eq, lt_ap, nI_clamp (show k < 2 ^ 31 by omega), hp, if_pos (nI_lt (by omega) (by omega))]
    rfl
  | succ d ih =>
    intro i f a hd h2 hi hf
    obtain ⟨f, rfl⟩ : ∃ g, f = g + 1 := ⟨f - 1, by omega⟩
    rw [HX6_ordersOf_0_eq]
    simp only [lt_ap]
    rw [nI_clamp (show k < 2 ^ 31 by omega), hp, if_neg (nI_nlt (by omega) (by omega)), nI_mulN, nI_o1]
    exact ih (i + 1) f (a * i) (by omega) (by omega) (by omega) (by omega)
theorem oo_eq {parts : Nat → Int32} {k m : Nat} (hk : k < 18) (hm : m ≤ 4) (hp : parts k = nI m) : PX6_ordersOf parts (nI k) = nI (fct m) := by
  have e2 : (2 : Int32).toInt = 2 := by decide
  have e := oo_loop hk hm hp (m + 1 - 2) 2 (((5 - (2 : Int32).toInt).toNat) + 1) 1 rfl (by omega) (by omega) (by rw [e2]; omega)
  rw [PX6_ordersOf_eq]
  have h2 : (2 : Int32) = nI 2 := by decide
  have h1 : (1 : Int32) = nI 1 := by decide
  rw [← h2, ← h1] at e
  refine e.trans ?_
  rcases (show m = 0 ∨ m = 1 ∨ m = 2 ∨ m = 3 ∨ m = 4 by omega) with rfl | rfl | rfl | rfl | rfl <;> rfl
theorem StR.perm {N : Nat} {parts pn w o s : Nat → Int32} (h : StR N parts pn w o s) (hN : N ≤ 18) {k m : Nat} (hk : k < N) (hp : parts k = nI m) (hm : m ≤ 4) {L : List Nat} (hl : L.length = m) (hb : ∀ x : Nat, x < m → gd L x < m) (hi : ∀ x y : Nat, x < m → y < m → gd L x = gd L y → x = y) (hp4 : ∀ j : Nat, j < N → (parts j).toInt ≤ 4) : StR N parts pn w (rowL o k L) (rowL s k L) := by
  have hpm : (parts k).toInt = (m : Int) := by rw [hp, nI_toInt (by omega)]
  have row_in : ∀ (f : Nat → Int32) (i : Nat), i < m → rowL f k L (4 * k + i) = f (4 * k + gd L i) := fun f i hi => by
    unfold rowL
    rw [hl, if_pos (show 4 * k ≤ 4 * k + i ∧ 4 * k + i < 4 * k + m by omega), show 4 * k + i - 4 * k = i by omega]
  have row_out : ∀ (f : Nat → Int32) (q : Nat), ¬ (4 * k ≤ q ∧ q < 4 * k + m) → rowL f k L q = f q := fun f q hq => by
    unfold rowL
    rw [hl, if_neg hq]
  intro j hj
  obtain ⟨h1, h2, h3⟩ := h j hj
  have h4 := hp4 j hj
  refine ⟨by rw [row_out s (72 + j) (by omega)]; exact h1, fun i hx => ?_, fun x y hx hy e => ?_⟩
  · by_cases c : j = k
    · subst c
      rw [row_in o i (by omega), row_in s i (by omega)]
      exact h2 (gd L i) (by have := hb i (by omega); omega)
    · rw [row_out o _ (by omega), row_out s _ (by omega)]
      exact h2 i hx
  · by_cases c : j = k
    · subst c
      rw [row_in o x (by omega), row_in o y (by omega)] at e
      exact hi x y (by omega) (by omega) (h3 _ _ (by have := hb x (by omega); omega) (by have := hb y (by omega); omega) e)
    · rw [row_out o _ (by omega), row_out o _ (by omega)] at e
      exact h3 x y hx hy e
theorem rowL_congr {f g : Nat → Int32} {k m n : Nat} {L : List Nat} (hl : L.length = m) (hb : ∀ x : Nat, x < m → gd L x < m) (hn : 4 * k + m ≤ n) (h : ∀ q : Nat, q < n → g q = f q) : ∀ q : Nat, q < n → rowL g k L q = rowL f k L q := fun q hq => by
  unfold rowL
  rw [hl]
  by_cases c : 4 * k ≤ q ∧ q < 4 * k + m
  · rw [if_pos c, if_pos c]
    exact h _ (by have := hb (q - 4 * k) (by omega); omega)
  · rw [if_neg c, if_neg c]; exact h q hq
end G6
