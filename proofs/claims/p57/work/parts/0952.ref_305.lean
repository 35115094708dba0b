/-! rows that are copied, turned, laid anew -/
def CopyOk (f t : Nat → Int32) (a b k : Nat) (g : Nat → Int32) : Prop := ∀ j : Nat, g j = if b ≤ j ∧ j < b + k then f (a + (j - b)) else t j
theorem CopyOk.fn {f t g : Nat → Int32} {a b k : Nat} (h : CopyOk f t a b k g) : cpF f t a b k = g := funext fun j => (h j).symm
theorem copy_zero {f t : Nat → Int32} {a b : Nat} : CopyOk f t a b 0 t := by
  intro j
  rw [if_neg (by omega)]
theorem copy_step {f t g g' : Nat → Int32} {a b k k' i : Nat} {x : Int32} (h : CopyOk f t a b k g) (e : g' = upd g i x) (hi : i = b + k) (hx : x.toInt = (f (a + k)).toInt) (hk : k' = k + 1) : CopyOk f t a b k' g' := by
  subst hi; subst hk
  have hx := Int32.toInt_inj.mp hx
  intro j
  rw [e]
  by_cases hj : j = b + k
  · subst hj
    rw [pk_us, if_pos (by omega), hx, show b + k - b = k from by omega]
  · rw [pk_un hj, h j]
    by_cases h1 : b ≤ j ∧ j < b + k
    · rw [if_pos h1, if_pos (by omega)]
    · rw [if_neg h1, if_neg (by omega)]
theorem RowOk.congr {fr f g : Nat → Int32} (hR : ROk fr) (h : RowOk fr f) (e : ∀ j : Nat, j < 72 → g j = f j) : RowOk fr g := by
  have hn := hR.nodes
  refine ⟨fun k i hk hi => ?_, fun k i j hk hij hj => ?_⟩
  · have hm := hR.many (27 + k) (by omega) (by omega)
    rw [e _ (by omega)]; exact h.lt k i hk hi
  · have hm := hR.many (27 + k) (by omega) (by omega)
    rw [e _ (by omega), e _ (by omega)]; exact h.ne k i j hk hij hj
theorem RowOk.copy {fr f t g : Nat → Int32} (hR : ROk fr) (h : RowOk fr f) (c : CopyOk f t (0 : Int32).toNatClampNeg (0 : Int32).toNatClampNeg (90 : Int32).toNatClampNeg g) : RowOk fr g :=
  h.congr hR (fun j hj => by
    have c := c j
    rw [show (0 : Int32).toNatClampNeg = 0 from rfl, show (90 : Int32).toNatClampNeg = 90 from rfl, if_pos (by omega)] at c
    rw [c]; congr 1; omega)
theorem RowOk.hi {fr f g : Nat → Int32} {i : Nat} {x : Int32} (hR : ROk fr) (h : RowOk fr f) (e : g = upd f i x) (hi : 72 ≤ i) : RowOk fr g := by
  subst e
  exact h.congr hR (fun j hj => pk_un (by omega))
def WorOk (f : Nat → Int32) : Prop := ∀ j : Nat, 72 ≤ j → j < 90 → 0 ≤ (f j).toInt ∧ (f j).toInt ≤ 99
theorem WorOk.congr {f g : Nat → Int32} (h : WorOk f) (e : ∀ j : Nat, 72 ≤ j → j < 90 → g j = f j) : WorOk g := fun j h1 h2 => by rw [e j h1 h2]; exact h j h1 h2
/-- to the front -/
def FrontI (f : Nat → Int32) (b i n : Nat) (g : Nat → Int32) : Prop := ∀ j : Nat, g j = if b + n < j ∧ j ≤ b + i then f (j - 1) else f j
theorem front_zero {f : Nat → Int32} {b i : Nat} : FrontI f b i i f := by
  intro j
  rw [if_neg (by omega)]
theorem front_step {f g g' : Nat → Int32} {b i n n' q r : Nat} {x : Int32} (h : FrontI f b i n g) (e : g' = upd g q x) (hq : q = b + n) (hx : x.toInt = (g r).toInt) (hr : r + 1 = b + n) (hn : n = n' + 1) (hi : n ≤ i) : FrontI f b i n' g' := by
  subst hq
  have hx := Int32.toInt_inj.mp hx
  intro j
  rw [e]
  by_cases hj : j = b + n
  · subst hj
    rw [pk_us, if_pos (by omega), hx, h r, if_neg (by omega), show b + n - 1 = r from by omega]
  · rw [pk_un hj, h j]
    by_cases h1 : b + n < j ∧ j ≤ b + i
    · rw [if_pos h1, if_pos (by omega)]
    · rw [if_neg h1, if_neg (by omega)]
def piF (i j : Nat) : Nat := if j = 0 then i else if j ≤ i then j - 1 else j
theorem RowOk.turned {fr f g f' : Nat → Int32} {k m : Nat} {π : Nat → Nat} (hR : ROk fr) (h0 : RowOk fr f) (h : RowOk fr f') (hk : (k : Int) < (fr 1).toInt) (hm : (m : Int) = (fr (27 + k)).toInt) (hin : ∀ j : Nat, j < m → g (4 * k + j) = f' (4 * k + π j) ∧ π j < m) (hinj : ∀ i j : Nat, i < j → j < m → π i ≠ π j) (hout : ∀ j : Nat, j < 72 → (j < 4 * k ∨ 4 * k + 4 ≤ j) → g j = f j) : RowOk fr g := by
  have hn := hR.nodes
  refine ⟨fun k' i hk' hi => ?_, fun k' i j hk' hij hj => ?_⟩
  · have hm4 := hR.many (27 + k') (by omega) (by omega)
    by_cases e : k' = k
    · subst e
      obtain ⟨h1, h2⟩ := hin i (by omega)
      rw [h1]; exact h.lt k' _ hk' (by omega)
    · rw [hout _ (by omega) (by omega)]; exact h0.lt k' i hk' hi
  · have hm4 := hR.many (27 + k') (by omega) (by omega)
    by_cases e : k' = k
    · subst e
      obtain ⟨h1, h2⟩ := hin i (by omega)
      obtain ⟨h3, h4⟩ := hin j (by omega)
      rw [h1, h3]
      have hd := hinj i j hij (by omega)
      rcases Nat.lt_or_gt_of_ne hd with hd | hd
      · exact h.ne k' _ _ hk' hd (by omega)
      · exact (h.ne k' _ _ hk' hd (by omega)).symm
    · rw [hout _ (by omega) (by omega), hout _ (by omega) (by omega)]; exact h0.ne k' i j hk' hij hj
theorem RowOk.front {fr f g g' : Nat → Int32} {k i q : Nat} {x : Int32} (hR : ROk fr) (h : RowOk fr f) (hk : (k : Int) < (fr 1).toInt) (hi : (i : Int) < (fr (27 + k)).toInt) (hF : FrontI f (4 * k) i 0 g) (e : g' = upd g q x) (hq : q = 4 * k) (hx : x.toInt = (f (4 * k + i)).toInt) : RowOk fr g' := by
  subst hq
  have hx := Int32.toInt_inj.mp hx
  have hm4 := hR.many (27 + k) (by have := hR.nodes; omega) (by have := hR.nodes; omega)
  refine RowOk.turned (m := (fr (27 + k)).toInt.toNat) (π := piF i) hR h h hk (by omega) (fun j hj => ?_) (fun a b hab hb => ?_) (fun j hj ho => ?_)
  · rw [e]
    unfold piF
    by_cases h0 : j = 0
    · subst h0
      rw [if_pos rfl, Nat.add_zero, pk_us, hx]; exact ⟨rfl, by omega⟩
    · rw [if_neg h0, pk_un (by omega), hF]
      by_cases h1 : j ≤ i
      · rw [if_pos h1, if_pos (by omega), show 4 * k + j - 1 = 4 * k + (j - 1) from by omega]; exact ⟨rfl, by omega⟩
      · rw [if_neg h1, if_neg (by omega)]; exact ⟨rfl, hj⟩
  · unfold piF; (repeat' split) <;> omega
  · rw [e, pk_un (by omega), hF, if_neg (by omega)]
theorem front_keeps {f g g' : Nat → Int32} {b i q : Nat} {x : Int32} (hF : FrontI f b i 0 g) (e : g' = upd g q x) (hq : q = b) (hb : b + i < 72) : ∀ j : Nat, 72 ≤ j → g' j = f j := by
  intro j hj
  rw [e, pk_un (by omega), hF, if_neg (by omega)]
/-- rows of rows -/
def HistOk (fr h : Nat → Int32) (n : Int) : Prop := ∀ u : Nat, (u : Int) < n → RowOk fr (fun j => h (90 * u + j)) ∧ WorOk (fun j => h (90 * u + j))
theorem HistOk.none {fr h : Nat → Int32} {n : Int} (hn : n ≤ 0) : HistOk fr h n := fun u hu => by omega
theorem HistOk.put {fr h f g : Nat → Int32} {n : Int} {b : Nat} (hR : ROk fr) (hH : HistOk fr h n) (hf : RowOk fr f) (hw : WorOk f) (c : CopyOk f h (0 : Int32).toNatClampNeg b (90 : Int32).toNatClampNeg g) (hb : (b : Int) = 90 * n) : HistOk fr g (n + 1) := by
  intro u hu
  have cj : ∀ j : Nat, j < 90 → g (90 * u + j) = if (u : Int) = n then f j else h (90 * u + j) := by
    intro j hj
    rw [c]
    simp only [show (0 : Int32).toNatClampNeg = 0 from rfl, show (90 : Int32).toNatClampNeg = 90 from rfl]
    by_cases e : (u : Int) = n
    · rw [if_pos e, if_pos (by omega)]; congr 1; omega
    · rw [if_neg e, if_neg (by omega)]
  by_cases e : (u : Int) = n
  · exact ⟨hf.congr hR (fun j hj => by rw [cj j (by omega), if_pos e]), hw.congr (fun j _ hj => by rw [cj j hj, if_pos e])⟩
  · obtain ⟨h1, h2⟩ := hH u (by omega)
    exact ⟨h1.congr hR (fun j hj => by rw [cj j (by omega), if_neg e]), h2.congr (fun j _ hj => by rw [cj j hj, if_neg e])⟩
theorem HistOk.get {fr h t g : Nat → Int32} {n : Int} {u a : Nat} (hR : ROk fr) (hH : HistOk fr h n) (hu : (u : Int) < n) (c : CopyOk h t a (0 : Int32).toNatClampNeg (90 : Int32).toNatClampNeg g) (ha : a = 90 * u) : RowOk fr g ∧ WorOk g := by
  subst ha
  obtain ⟨h1, h2⟩ := hH u hu
  have cj : ∀ j : Nat, j < 90 → g j = h (90 * u + j) := by
    intro j hj
    rw [c]
    simp only [show (0 : Int32).toNatClampNeg = 0 from rfl, show (90 : Int32).toNatClampNeg = 90 from rfl]
    rw [if_pos (by omega)]; congr 1
  exact ⟨h1.congr hR (fun j hj => cj j (by omega)), h2.congr (fun j _ hj => cj j hj)⟩
def ShiftI (f : Nat → Int32) (k : Nat) (g : Nat → Int32) : Prop := ∀ j : Nat, g j = if j < k then f (j + 90) else f j
theorem shift_zero {f : Nat → Int32} : ShiftI f 0 f := fun j => by rw [if_neg (by omega)]
theorem shift_step {f g g' : Nat → Int32} {k k' q r : Nat} {x : Int32} (h : ShiftI f k g) (e : g' = upd g q x) (hq : q = k) (hx : x.toInt = (g r).toInt) (hr : r = k + 90) (hk : k' = k + 1) : ShiftI f k' g' := by
  subst hq; subst hk; subst hr
  have hx := Int32.toInt_inj.mp hx
  intro j
  rw [e]
  by_cases hj : j = q
  · subst hj
    rw [pk_us, if_pos (by omega), hx, h (j + 90), if_neg (by omega)]
  · rw [pk_un hj, h j]
    by_cases h1 : j < q
    · rw [if_pos h1, if_pos (by omega)]
    · rw [if_neg h1, if_neg (by omega)]
theorem HistOk.shift {fr h g : Nat → Int32} (hR : ROk fr) (hH : HistOk fr h 16) (hs : ShiftI h 1350 g) : HistOk fr g 15 := by
  intro u hu
  obtain ⟨h1, h2⟩ := hH (u + 1) (by omega)
  have cj : ∀ j : Nat, j < 90 → g (90 * u + j) = h (90 * (u + 1) + j) := by
    intro j hj
    rw [hs, if_pos (by omega)]; congr 1; omega
  exact ⟨h1.congr hR (fun j hj => cj j (by omega)), h2.congr (fun j _ hj => cj j hj)⟩
theorem HistOk.less {fr h : Nat → Int32} {n n' : Int} (hH : HistOk fr h n) (hn : n' ≤ n) : HistOk fr h n' := fun u hu => hH u (by omega)
theorem HistOk.eq {fr h : Nat → Int32} {n n' : Int} (hH : HistOk fr h n) (hn : n' = n) : HistOk fr h n' := hn ▸ hH
theorem WorOk.upd {f g : Nat → Int32} {i : Nat} {x : Int32} (h : WorOk f) (e : g = upd f i x) (h0 : 0 ≤ x.toInt) (h1 : x.toInt ≤ 99) : WorOk g := by
  subst e
  intro j h2 h3
  by_cases hj : j = i
  · subst hj; rw [pk_us]; exact ⟨h0, h1⟩
  · rw [pk_un hj]; exact h j h2 h3
theorem cnt_at {P : Nat → Prop} [DecidablePred P] (n : Nat) : (P n → cntP P (n + 1) = cntP P n + 1) ∧ (¬ P n → cntP P (n + 1) = cntP P n) := by
  refine ⟨fun h => ?_, fun h => ?_⟩
  · show cntP P n + (if P n then 1 else 0) = _; rw [if_pos h]
  · show cntP P n + (if P n then 1 else 0) = _; rw [if_neg h]; rfl
/-- a turn of a node's parts -/
def RotI (fs g0 : Nat → Int32) (b m s i : Nat) (g : Nat → Int32) : Prop := ∀ j : Nat, g j = if b ≤ j ∧ j < b + i then fs (b + (j - b + s) % m) else g0 j
theorem rot_zero {fs g0 : Nat → Int32} {b m s : Nat} : RotI fs g0 b m s 0 g0 := fun j => by rw [if_neg (by omega)]
theorem rot_step {fs g0 g g' : Nat → Int32} {b m s i i' q : Nat} {x : Int32} (h : RotI fs g0 b m s i g) (e : g' = upd g q x) (hq : q = b + i) (hx : x.toInt = (fs (b + (i + s) % m)).toInt) (hi : i' = i + 1) : RotI fs g0 b m s i' g' := by
  subst hq; subst hi
  have hx := Int32.toInt_inj.mp hx
  intro j
  rw [e]
  by_cases hj : j = b + i
  · subst hj
    rw [pk_us, if_pos (by omega), hx, show b + i - b = i from by omega]
  · rw [pk_un hj, h j]
    by_cases h1 : b ≤ j ∧ j < b + i
    · rw [if_pos h1, if_pos (by omega)]
    · rw [if_neg h1, if_neg (by omega)]
theorem RowOk.rot {fr fs g0 g : Nat → Int32} {k m s : Nat} (hR : ROk fr) (h0 : RowOk fr g0) (h : RowOk fr fs) (hk : (k : Int) < (fr 1).toInt) (hm : (m : Int) = (fr (27 + k)).toInt) (hm1 : 1 ≤ m) (hr : RotI fs g0 (4 * k) m s m g) : RowOk fr g := by
  have hm4 := hR.many (27 + k) (by have := hR.nodes; omega) (by have := hR.nodes; omega)
  refine RowOk.turned (m := m) (π := fun j => (j + s) % m) hR h0 h hk hm (fun j hj => ?_) (fun a b hab hb => ?_) (fun j hj ho => ?_)
  · rw [hr, if_pos (by omega), show 4 * k + j - 4 * k = j from by omega]
    exact ⟨rfl, Nat.mod_lt _ (by omega)⟩
  · show (a + s) % m ≠ (b + s) % m
    rcases (show m = 1 ∨ m = 2 ∨ m = 3 ∨ m = 4 by omega) with rfl | rfl | rfl | rfl <;> omega
  · rw [hr, if_neg (by omega)]
theorem ti_remE {x y z : Int32} {a b : Int} (h : z = x - x / y * y) (hx : x.toInt = a) (hy : y.toInt = b) (h0 : 0 ≤ a) (h1 : 0 < b) : z.toInt = a % b := by
  have hr := fb_rng x
  have hs := fb_rng y
  have hd := ti_divE (z := x / y) rfl hx hy h0 h1
  subst hx; subst hy
  have hm1 := Int.emod_nonneg x.toInt (show y.toInt ≠ 0 by omega)
  have hm2 := Int.emod_lt_of_pos x.toInt h1
  have hm3 := Int.mul_ediv_add_emod x.toInt y.toInt
  have hm4 : (x / y).toInt * y.toInt = x.toInt - x.toInt % y.toInt := by
    rw [hd, Int.mul_comm]; omega
  have hle : x.toInt % y.toInt ≤ x.toInt := by
    have := Int.ediv_nonneg h0 (Int.le_of_lt h1)
    have : 0 ≤ y.toInt * (x.toInt / y.toInt) := Int.mul_nonneg (Int.le_of_lt h1) this
    omega
  have hmul : (x / y * y).toInt = x.toInt - x.toInt % y.toInt := by
    rw [← hm4]; exact fb_mulI (by omega) (by omega)
  rw [h, fb_subI (by omega) (by omega)]
  omega
theorem modN {a b : Nat} {z : Int} (h : z = (a : Int) % (b : Int)) : z.toNat = a % b := by
  rw [h, ← Int.natCast_emod]; rfl
