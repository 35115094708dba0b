section
theorem kc_117 : (117 : Int32).toInt = 117 := by decide
theorem kc_122 : (122 : Int32).toInt = 122 := by decide
theorem kc_1350 : (1350 : Int32).toInt = 1350 := by decide
theorem kc_880 : (880 : Int32).toInt = 880 := by decide
theorem kc_m8 : ((-8) : Int32).toInt = (-8) := by decide
end
section
abbrev oc0 (a : Nat) (x0 : Int32) (x1 : Nat) (x2 : Nat) (x3 : Nat) : Nat × va_E := (a, .inr (0, [.int x0, .ref x1, .ref x2, .ref x3]))
abbrev oc1 (a : Nat) (x0 : Int32) (x1 : Int32) (x2 : Int32) (x3 : Int32) (x4 : Int32) (x5 : Int32) (x6 : Int32) (x7 : Int32) (x8 : Nat) (x9 : Nat) (x10 : Nat) (x11 : Nat) (x12 : Nat) (x13 : Nat) (x14 : Nat) (x15 : Nat) (x16 : Nat) (x17 : Nat) (x18 : Nat) : Nat × va_E := (a, .inr (1, [.int x0, .int x1, .int x2, .int x3, .int x4, .int x5, .int x6, .int x7, .ref x8, .ref x9, .ref x10, .ref x11, .ref x12, .ref x13, .ref x14, .ref x15, .ref x16, .ref x17, .ref x18]))
abbrev oc2 (a : Nat) (x0 : Int32) (x1 : Int32) (x2 : Int32) (x3 : Int32) (x4 : Int32) (x5 : Nat) (x6 : Nat) : Nat × va_E := (a, .inr (2, [.int x0, .int x1, .int x2, .int x3, .int x4, .ref x5, .ref x6]))
abbrev oc3 (a : Nat) (x0 : Int32) (x1 : Int32) (x2 : Int32) (x3 : Nat) (x4 : Int32) (x5 : Int32) (x6 : Int32) (x7 : Int32) (x8 : Int64) (x9 : Int32) (x10 : Int32) (x11 : Nat) (x12 : Int32) (x13 : Nat) (x14 : Nat) : Nat × va_E := (a, .inr (3, [.int x0, .int x1, .int x2, .ref x3, .int x4, .int x5, .int x6, .int x7, .long x8, .int x9, .int x10, .ref x11, .int x12, .ref x13, .ref x14]))
abbrev oc4 (a : Nat) (x0 : Nat) (x1 : Nat) : Nat × va_E := (a, .inr (4, [.ref x0, .ref x1]))
abbrev oc5 (a : Nat) (x0 : Nat) (x1 : Nat) (x2 : Nat) : Nat × va_E := (a, .inr (5, [.ref x0, .ref x1, .ref x2]))
abbrev oc6 (a : Nat) (x0 : Nat) (x1 : Nat) (x2 : Nat) (x3 : Nat) (x4 : Nat) (x5 : Int32) (x6 : Nat) (x7 : Nat) (x8 : Nat) (x9 : Int32) (x10 : Int32) (x11 : Int32) : Nat × va_E := (a, .inr (6, [.ref x0, .ref x1, .ref x2, .ref x3, .ref x4, .int x5, .ref x6, .ref x7, .ref x8, .int x9, .int x10, .int x11]))
abbrev oc7 (a : Nat) (x0 : Int32) (x1 : Nat) (x2 : Int32) (x3 : Int32) (x4 : Int32) (x5 : Int32) (x6 : Int32) (x7 : Int32) (x8 : Int32) (x9 : Int32) (x10 : Int32) (x11 : Int32) (x12 : Nat) (x13 : Int32) (x14 : Int32) (x15 : Nat) (x16 : Nat) (x17 : Nat) (x18 : Nat) (x19 : Nat) (x20 : Nat) (x21 : Nat) (x22 : Int32) (x23 : Int32) (x24 : Nat) (x25 : Int32) (x26 : Int32) (x27 : Int32) (x28 : Nat) (x29 : Nat) (x30 : Int32) (x31 : Int32) (x32 : Int32) (x33 : Nat) (x34 : Nat) (x35 : Int32) (x36 : Int32) (x37 : Int32) (x38 : Int32) (x39 : Nat) (x40 : Int32) (x41 : Int32) (x42 : Int32) (x43 : Int64) (x44 : Int64) (x45 : Int64) (x46 : Int32) (x47 : Int32) : Nat × va_E := (a, .inr (7, [.int x0, .ref x1, .int x2, .int x3, .int x4, .int x5, .int x6, .int x7, .int x8, .int x9, .int x10, .int x11, .ref x12, .int x13, .int x14, .ref x15, .ref x16, .ref x17, .ref x18, .ref x19, .ref x20, .ref x21, .int x22, .int x23, .ref x24, .int x25, .int x26, .int x27, .ref x28, .ref x29, .int x30, .int x31, .int x32, .ref x33, .ref x34, .int x35, .int x36, .int x37, .int x38, .ref x39, .int x40, .int x41, .int x42, .long x43, .long x44, .long x45, .int x46, .int x47]))
abbrev arI (a : Nat) (c : ClassId) (n : Nat) (f : Nat → Int32) : Nat × va_E := (a, .inl (c, n, .inl f))
abbrev arL (a : Nat) (c : ClassId) (n : Nat) (f : Nat → Int64) : Nat × va_E := (a, .inl (c, n, .inr (.inl f)))

/-! what a call leaves, in one row -/
theorem wl2 {D : va_G} {cl : List vw_C} {ws ws' : va_W} {H : Heap} {A : Nat → Prop} (hP : va_P D cl ws H) (hD : va_D A ws) (h : ws = ws') : va_P D cl ws' H ∧ va_D A ws' := by subst h; exact ⟨hP, hD⟩
theorem Bw.go {dC : Nat → ClassId} {dI : Nat → Nat → Nat} {A0 A : Nat → Prop} {ws wc w1 ws' : va_W} {tys ty1 tys' : List (ClassId × FieldType)} {s t : State} {H H1 : Heap} (h : Bw dC dI A w1 ty1 t) (hA : A = va_A wc H.size) (ht : t.heap = H1) (hvm : s.vm.Alike t.vm) (hP : va_P (dC, dI) vwCl ws H) (hD : va_D A0 ws) (hK : va_K (dC, dI) vwCl tys s) (isC isR : List Nat) (hC : isC.map (fun i => ws[i]?) = wc.map some) (hn : va_nd isR = true) (hdis : ∀ i ∈ isR, i ∉ isC) (isT : List Nat) (hk : ∀ q : Nat, q < H.size → ¬ va_A wc H.size q → H1[q]? = H[q]?) (hF : ∀ q, va_A wc H.size q → A0 q) (hR : isR.map (fun i => ws[i]?) = (isR.filterMap (fun i => ws[i]?)).map some) (hW : isR.filterMap (fun i => ws[i]?) ++ w1 = ws') (hT : isT.filterMap (fun i => tys[i]?) ++ ty1 = tys') : va_P (dC, dI) vwCl ws' H1 ∧ va_D A0 ws' ∧ va_K (dC, dI) vwCl tys' s := by
  subst hW
  subst hT
  exact Bw.back h hA ht hvm hP hD hK isC isR hC hR hn hdis isT rfl hk hF
theorem Bw.same {dC : Nat → ClassId} {dI : Nat → Nat → Nat} {A0 : Nat → Prop} {ws : va_W} {tys : List (ClassId × FieldType)} {s t : State} {H H1 : Heap} (_ : t.heap = H1) (_ : s.vm.Alike t.vm) (hP : va_P (dC, dI) vwCl ws H) (hD : va_D A0 ws) (hK : va_K (dC, dI) vwCl tys s) (hk : ∀ q : Nat, q < H.size → ¬ va_A [] H.size q → H1[q]? = H[q]?) (_ : ∀ q, va_A [] H.size q → A0 q) : va_P (dC, dI) vwCl ws H1 ∧ va_D A0 ws ∧ va_K (dC, dI) vwCl tys s :=
  ⟨fun k q h => (hP k q h).kept (hk q.1 (hP k q h).lt (fun z => by
    rcases z with ⟨j, e, z⟩ | z
    · simp at z
    · have := (hP k q h).lt
      omega)), hD, hK⟩
end
section
/-! sublists by masks: one pass over the list, in place of a lookup for each place -/
def ml_s {α : Type} : List Bool → List α → List α
  | true :: m, a :: l => a :: ml_s m l
  | false :: m, _ :: l => ml_s m l
  | _, _ => []
def ml_r {α : Type} : List Bool → List α → List α
  | true :: m, _ :: l => ml_r m l
  | false :: m, a :: l => a :: ml_r m l
  | _, _ => []
/-- the masked places' elements are put anew, in their order -/
def ml_p {α : Type} : List Bool → List α → List α → List α
  | true :: m, _ :: l, b :: y => b :: ml_p m l y
  | false :: m, a :: l, y => a :: ml_p m l y
  | _, _, y => y
theorem ml_s_mem {α : Type} (m : List Bool) : ∀ (l : List α) (q : α), q ∈ ml_s m l → q ∈ l := by
  induction m with
  | nil => intro l q h; cases l <;> exact absurd h List.not_mem_nil
  | cons c m ih =>
    intro l q h
    cases l with
    | nil => cases c <;> exact absurd h List.not_mem_nil
    | cons a l =>
      cases c with
      | true =>
        have h : q ∈ a :: ml_s m l := h
        rcases List.mem_cons.mp h with e | e
        · exact List.mem_cons.mpr (Or.inl e)
        · exact List.mem_cons.mpr (Or.inr (ih l q e))
      | false =>
        have h : q ∈ ml_s m l := h
        exact List.mem_cons.mpr (Or.inr (ih l q h))
theorem ml_r_mem {α : Type} (m : List Bool) : ∀ (l : List α) (q : α), q ∈ ml_r m l → q ∈ l := by
  induction m with
  | nil => intro l q h; cases l <;> exact absurd h List.not_mem_nil
  | cons c m ih =>
    intro l q h
    cases l with
    | nil => cases c <;> exact absurd h List.not_mem_nil
    | cons a l =>
      cases c with
      | false =>
        have h : q ∈ a :: ml_r m l := h
        rcases List.mem_cons.mp h with e | e
        · exact List.mem_cons.mpr (Or.inl e)
        · exact List.mem_cons.mpr (Or.inr (ih l q e))
      | true =>
        have h : q ∈ ml_r m l := h
        exact List.mem_cons.mpr (Or.inr (ih l q h))
theorem ml_p_mem {α : Type} (m : List Bool) : ∀ (l y : List α) (q : α), q ∈ ml_p m l y → q ∈ ml_r m l ∨ q ∈ y := by
  induction m with
  | nil => intro l y q h; cases l <;> exact Or.inr h
  | cons c m ih =>
    intro l y q h
    cases l with
    | nil => cases c <;> exact Or.inr h
    | cons a l =>
      cases c with
      | false =>
        have h : q ∈ a :: ml_p m l y := h
        show q ∈ a :: ml_r m l ∨ q ∈ y
        rcases List.mem_cons.mp h with e | e
        · exact Or.inl (List.mem_cons.mpr (Or.inl e))
        · rcases ih l y q e with g | g
          · exact Or.inl (List.mem_cons.mpr (Or.inr g))
          · exact Or.inr g
      | true =>
        show q ∈ ml_r m l ∨ q ∈ y
        cases y with
        | nil => exact Or.inr h
        | cons b y =>
          have h : q ∈ b :: ml_p m l y := h
          rcases List.mem_cons.mp h with e | e
          · exact Or.inr (List.mem_cons.mpr (Or.inl e))
          · rcases ih l y q e with g | g
            · exact Or.inl g
            · exact Or.inr (List.mem_cons.mpr (Or.inr g))
theorem ml_s_pw {α : Type} {R : α → α → Prop} (m : List Bool) : ∀ l : List α, l.Pairwise R → (ml_s m l).Pairwise R := by
  induction m with
  | nil => intro l h; cases l <;> exact List.Pairwise.nil
  | cons c m ih =>
    intro l h
    cases l with
    | nil => cases c <;> exact List.Pairwise.nil
    | cons a l =>
      obtain ⟨h1, h2⟩ := List.pairwise_cons.mp h
      cases c with
      | true =>
        show (a :: ml_s m l).Pairwise R
        exact List.pairwise_cons.mpr ⟨fun q hq => h1 q (ml_s_mem m l q hq), ih l h2⟩
      | false =>
        show (ml_s m l).Pairwise R
        exact ih l h2
theorem ml_r_pw {α : Type} {R : α → α → Prop} (m : List Bool) : ∀ l : List α, l.Pairwise R → (ml_r m l).Pairwise R := by
  induction m with
  | nil => intro l h; cases l <;> exact List.Pairwise.nil
  | cons c m ih =>
    intro l h
    cases l with
    | nil => cases c <;> exact List.Pairwise.nil
    | cons a l =>
      obtain ⟨h1, h2⟩ := List.pairwise_cons.mp h
      cases c with
      | false =>
        show (a :: ml_r m l).Pairwise R
        exact List.pairwise_cons.mpr ⟨fun q hq => h1 q (ml_r_mem m l q hq), ih l h2⟩
      | true =>
        show (ml_r m l).Pairwise R
        exact ih l h2
theorem ml_p_pw {α : Type} {R : α → α → Prop} (m : List Bool) : ∀ l y : List α, (ml_r m l).Pairwise R → y.Pairwise R → (∀ a ∈ ml_r m l, ∀ b ∈ y, R a b ∧ R b a) → (ml_p m l y).Pairwise R := by
  induction m with
  | nil => intro l y h1 h2 h3; cases l <;> exact h2
  | cons c m ih =>
    intro l y h1 h2 h3
    cases l with
    | nil => cases c <;> exact h2
    | cons x l =>
      cases c with
      | false =>
        have h1 : (x :: ml_r m l).Pairwise R := h1
        have h3 : ∀ a ∈ x :: ml_r m l, ∀ b ∈ y, R a b ∧ R b a := h3
        obtain ⟨g1, g2⟩ := List.pairwise_cons.mp h1
        show (x :: ml_p m l y).Pairwise R
        refine List.pairwise_cons.mpr ⟨fun q hq => ?_, ih l y g2 h2 (fun a ha b hb => h3 a (List.mem_cons.mpr (Or.inr ha)) b hb)⟩
        rcases ml_p_mem m l y q hq with e | e
        · exact g1 q e
        · exact (h3 x (List.mem_cons.mpr (Or.inl rfl)) q e).1
      | true =>
        have h1 : (ml_r m l).Pairwise R := h1
        have h3 : ∀ a ∈ ml_r m l, ∀ b ∈ y, R a b ∧ R b a := h3
        cases y with
        | nil => exact h2
        | cons b y =>
          obtain ⟨g1, g2⟩ := List.pairwise_cons.mp h2
          show (b :: ml_p m l y).Pairwise R
          refine List.pairwise_cons.mpr ⟨fun q hq => ?_, ih l y h1 g2 (fun a ha b' hb => h3 a ha b' (List.mem_cons.mpr (Or.inr hb)))⟩
          rcases ml_p_mem m l y q hq with e | e
          · exact (h3 q e b (List.mem_cons.mpr (Or.inl rfl))).2
          · exact g1 q e
theorem ml_sr (m : List Bool) : ∀ l : va_W, l.Pairwise (fun p q => p.1 ≠ q.1) → ∀ a ∈ ml_s m l, ∀ b ∈ ml_r m l, a.1 ≠ b.1 := by
  induction m with
  | nil => intro l h a ha; cases l <;> exact absurd ha List.not_mem_nil
  | cons c m ih =>
    intro l h a ha b hb
    cases l with
    | nil => cases c <;> exact absurd ha List.not_mem_nil
    | cons x l =>
      obtain ⟨h1, h2⟩ := List.pairwise_cons.mp h
      cases c with
      | true =>
        have ha : a ∈ x :: ml_s m l := ha
        have hb : b ∈ ml_r m l := hb
        rcases List.mem_cons.mp ha with e | e
        · rw [e]; exact h1 b (ml_r_mem m l b hb)
        · exact ih l h2 a e b hb
      | false =>
        have ha : a ∈ ml_s m l := ha
        have hb : b ∈ x :: ml_r m l := hb
        rcases List.mem_cons.mp hb with e | e
        · rw [e]; exact fun q => h1 a (ml_s_mem m l a ha) q.symm
        · exact ih l h2 a ha b e
theorem va_D.pw {A : Nat → Prop} {ws : va_W} (h : va_D A ws) : ws.Pairwise (fun p q => p.1 ≠ q.1) := by
  rw [List.pairwise_iff_getElem]
  intro i j hi hj hij e
  have := h.1 i j ws[i] ws[j] (List.getElem?_eq_getElem hi) (List.getElem?_eq_getElem hj) e
  omega
theorem va_D.ofPw {A : Nat → Prop} {ws : va_W} (h : ws.Pairwise (fun p q => p.1 ≠ q.1)) (hA : ∀ q ∈ ws, A q.1) : va_D A ws := by
  refine ⟨fun i j p q hi hj e => ?_, fun k q hk => hA q (List.mem_of_getElem? hk)⟩
  rw [List.pairwise_iff_getElem] at h
  obtain ⟨li, ei⟩ := List.getElem?_eq_some_iff.mp hi
  obtain ⟨lj, ej⟩ := List.getElem?_eq_some_iff.mp hj
  rcases Nat.lt_trichotomy i j with q1 | q1 | q1
  · exact absurd (show (ws[i]).1 = (ws[j]).1 by rw [ei, ej]; exact e) (h i j li lj q1)
  · exact q1
  · exact absurd (show (ws[j]).1 = (ws[i]).1 by rw [ei, ej]; exact e.symm) (h j i lj li q1)
theorem va_P.ms {D : va_G} {cl : List vw_C} {ws ws' : va_W} {H : Heap} (h : va_P D cl ws H) (m : List Bool) (hs : ml_s m ws = ws') : va_P D cl ws' H := by
  subst hs
  intro k q hk
  obtain ⟨i, hi⟩ := List.getElem?_of_mem (ml_s_mem m ws q (List.mem_of_getElem? hk))
  exact h i q hi
theorem va_K.ms {D : va_G} {cl : List vw_C} {tys tys' : List (ClassId × FieldType)} {U : State} (h : va_K D cl tys U) (m : List Bool) (hs : ml_s m tys = tys') : va_K D cl tys' U := by
  subst hs
  refine ⟨h.1, fun k q hk => ?_⟩
  obtain ⟨i, hi⟩ := List.getElem?_of_mem (ml_s_mem m tys q (List.mem_of_getElem? hk))
  exact h.2 i q hi
theorem va_K.mp {D : va_G} {cl : List vw_C} {tys ty1 : List (ClassId × FieldType)} {U : State} (h : va_K D cl tys U) (h1 : va_K D cl ty1 U) (m : List Bool) : va_K D cl (ml_p m tys ty1) U := by
  refine ⟨h.1, fun k q hk => ?_⟩
  rcases ml_p_mem m tys ty1 q (List.mem_of_getElem? hk) with e | e
  · obtain ⟨i, hi⟩ := List.getElem?_of_mem (ml_r_mem m tys q e)
    exact h.2 i q hi
  · obtain ⟨i, hi⟩ := List.getElem?_of_mem e
    exact h1.2 i q hi
theorem va_D.ms {A : Nat → Prop} {ws ws' : va_W} (h : va_D A ws) (m : List Bool) (hs : ml_s m ws = ws') : va_D A ws' := by
  subst hs
  refine va_D.ofPw (ml_s_pw m ws h.pw) (fun q hq => ?_)
  obtain ⟨i, hi⟩ := List.getElem?_of_mem (ml_s_mem m ws q hq)
  exact h.2 i q hi
theorem va_freeM {A0 : Nat → Prop} {ws wc : va_W} {H0 H : Heap} {locs : List Loc} (hD : va_D A0 ws) (hS : va_S A0 H0 H locs) (hA : ∀ q, H0.size ≤ q → A0 q) (m : List Bool) (hC : ml_s m ws = wc) : ∀ q, va_A wc H.size q → A0 q := by
  intro q h
  rcases h with ⟨k, e, h⟩ | h
  · exact (hD.ms m hC).2 k (q, e) h
  · exact hA q (Nat.le_trans hS.1 h)
theorem va_freeI {A0 : Nat → Prop} {ws : va_W} {H0 H : Heap} {locs : List Loc} (hD : va_D A0 ws) (hS : va_S A0 H0 H locs) (hA : ∀ q, H0.size ≤ q → A0 q) : ∀ q, va_A ws H.size q → A0 q := by
  intro q h
  rcases h with ⟨k, e, h⟩ | h
  · exact hD.2 k (q, e) h
  · exact hA q (Nat.le_trans hS.1 h)
theorem A_subM {WS wc : va_W} {sz : Nat} (m : List Bool) (hC : ml_s m WS = wc) : ∀ q, va_A wc sz q → va_A WS sz q := by
  subst hC
  intro q h
  rcases h with ⟨k, e, h⟩ | h
  · obtain ⟨i, hi⟩ := List.getElem?_of_mem (ml_s_mem m WS (q, e) (List.mem_of_getElem? h))
    exact Or.inl ⟨i, e, hi⟩
  · exact Or.inr h
/-- behind a call: the masked cells are the callee's, all others stay; the order stays -/
theorem Bw.goN {dC : Nat → ClassId} {dI : Nat → Nat → Nat} {A0 A : Nat → Prop} {ws wc w1 ws' : va_W} {ty1 : List (ClassId × FieldType)} {t : State} {H H1 : Heap} (h : Bw dC dI A w1 ty1 t) (hA : A = va_A wc H.size) (ht : t.heap = H1) (hP : va_P (dC, dI) vwCl ws H) (hD : va_D A0 ws) (m : List Bool) (hC : ml_s m ws = wc) (hk : ∀ q : Nat, q < H.size → ¬ va_A wc H.size q → H1[q]? = H[q]?) (hF : ∀ q, va_A wc H.size q → A0 q) (hW : ml_p m ws w1 = ws') : va_P (dC, dI) vwCl ws' H1 ∧ va_D A0 ws' := by
  subst hA
  subst hC
  subst hW
  obtain ⟨hP1, hK1, hD1⟩ := h
  rw [ht] at hP1
  have rest : ∀ q ∈ ml_r m ws, q.1 < H.size ∧ ¬ va_A (ml_s m ws) H.size q.1 := by
    intro q hq
    obtain ⟨i, hi⟩ := List.getElem?_of_mem (ml_r_mem m ws q hq)
    have l := (hP i q hi).lt
    refine ⟨l, fun z => ?_⟩
    rcases z with ⟨k, e, z⟩ | z
    · exact ml_sr m ws hD.pw (q.1, e) (List.mem_of_getElem? z) q hq rfl
    · omega
  have own : ∀ q ∈ w1, va_A (ml_s m ws) H.size q.1 := by
    intro q hq
    obtain ⟨j, hj⟩ := List.getElem?_of_mem hq
    exact hD1.2 j q hj
  refine ⟨fun k q hq => ?_, va_D.ofPw (ml_p_pw m ws w1 (ml_r_pw m ws hD.pw) hD1.pw (fun a ha b hb => ⟨fun e => (rest a ha).2 (by rw [e]; exact own b hb), fun e => (rest a ha).2 (by rw [← e]; exact own b hb)⟩)) (fun q hq => ?_)⟩
  · rcases ml_p_mem m ws w1 q (List.mem_of_getElem? hq) with e | e
    · obtain ⟨i, hi⟩ := List.getElem?_of_mem (ml_r_mem m ws q e)
      exact (hP i q hi).kept (hk q.1 (rest q e).1 (rest q e).2)
    · obtain ⟨i, hi⟩ := List.getElem?_of_mem e
      exact hP1 i q hi
  · rcases ml_p_mem m ws w1 q hq with e | e
    · obtain ⟨i, hi⟩ := List.getElem?_of_mem (ml_r_mem m ws q e)
      exact hD.2 i q hi
    · exact hF q.1 (own q e)
end
section
theorem own_of {s : State} {y : MethodName} {m : MethodId} {C : String} (h : s.methodNamed? y = some m) (hc : y.cls = C) : s.vm.findClass C = some m.cls := hc ▸ findClass_of_methodNamed h
section
variable {p : Program} {l : Launch} {e : Env} {R : Room} {s : State} {m : MethodId} {args : Array Value} {below : List Frame} {meth : Method} {c : Code} {H : Heap} {locs : List Loc} {cells slots : Nat}
variable {cc : ByteArray} {S : Type} {A : Nat → Prop} {pc : Nat} {ls : Array Slot}
theorem wq_i {post : Int32 → S → Prop} {B : S → State → Prop} {v : Int32} (hexec : p.tables.exec = Jvm.exec) (hb : c.code = cc) (hr : meth.sig.returnType = some .int) (u : S) (hp : post v u) (hB : ∀ t : State, t.heap = H → s.WarmedH t.vm → B u t) (hS : va_S A s.heap H locs) (hdg : decode cc pc = .ok (.ireturn, 1)) (hlocks : meth.locks = false) : W p l e R s m args below meth c H locs cells slots (MQ below (va_Qi post B A) args s cells slots A) (F0 m pc ls [.int v]) :=
  W.iret hexec hb hr (fun t ht hW => ⟨⟨v, u, rfl, hp, hB t ht hW⟩, hS.F ht⟩) hS.2.2 hdg hlocks
theorem wq_z {post : Int32 → S → Prop} {B : S → State → Prop} {v : Int32} {ty : FieldType} (hexec : p.tables.exec = Jvm.exec) (hb : c.code = cc) (hr : meth.sig.returnType = some ty) (hn : narrow ty (.int v) = .int v) (u : S) (hp : post v u) (hB : ∀ t : State, t.heap = H → s.WarmedH t.vm → B u t) (hS : va_S A s.heap H locs) (hdg : decode cc pc = .ok (.ireturn, 1)) (hlocks : meth.locks = false) : W p l e R s m args below meth c H locs cells slots (MQ below (va_Qi post B A) args s cells slots A) (F0 m pc ls [.int v]) :=
  W.zret hexec hb hr hn (fun t ht hW => ⟨⟨v, u, rfl, hp, hB t ht hW⟩, hS.F ht⟩) hS.2.2 hdg hlocks
theorem wq_l {post : Int64 → S → Prop} {B : S → State → Prop} {v : Int64} (hexec : p.tables.exec = Jvm.exec) (hb : c.code = cc) (hr : meth.sig.returnType = some .long) (u : S) (hp : post v u) (hB : ∀ t : State, t.heap = H → s.WarmedH t.vm → B u t) (hS : va_S A s.heap H locs) (hdg : decode cc pc = .ok (.lreturn, 1)) (hlocks : meth.locks = false) : W p l e R s m args below meth c H locs cells slots (MQ below (va_Ql post B A) args s cells slots A) (F0 m pc ls [.long v]) :=
  W.lret hexec hb hr (fun t ht hW => ⟨⟨v, u, rfl, hp, hB t ht hW⟩, hS.F ht⟩) hS.2.2 hdg hlocks
theorem wq_v {post : S → Prop} {B : S → State → Prop} (hexec : p.tables.exec = Jvm.exec) (hb : c.code = cc) (hr : meth.sig.returnType = none) (u : S) (hp : post u) (hB : ∀ t : State, t.heap = H → s.WarmedH t.vm → B u t) (hS : va_S A s.heap H locs) (hdg : decode cc pc = .ok (.return_, 1)) (hlocks : meth.locks = false) : W p l e R s m args below meth c H locs cells slots (MQ below (va_Qv post B A) args s cells slots A) (F0 m pc ls []) :=
  W.vret hexec hb hr (fun t ht hW => ⟨⟨u, rfl, hp, hB t ht hW⟩, hS.F ht⟩) hS.2.2 hdg hlocks
end
theorem pnX0 : plainName RX0 = true := by decide +kernel
theorem recvX0 {s : State} {H : Heap} {D : va_G} {a q0 : Nat} {fs : List Value} {ws : va_W} {tys : List (ClassId × FieldType)} (hK : va_K D vwCl tys s) (hP : va_P D vwCl ws H) (he : ws[q0]? = some (a, .inr (0, fs))) : ∃ cell : Cell, H[a]? = some cell ∧ cell.vm.isStatics = false ∧ s.vm.findClass RX0 = some cell.cls := va_recv (q := vwCl[0]) hK hP (ci := 0) (q0 := q0) rfl he
theorem pnX1 : plainName RX1 = true := by decide +kernel
theorem recvX1 {s : State} {H : Heap} {D : va_G} {a q0 : Nat} {fs : List Value} {ws : va_W} {tys : List (ClassId × FieldType)} (hK : va_K D vwCl tys s) (hP : va_P D vwCl ws H) (he : ws[q0]? = some (a, .inr (1, fs))) : ∃ cell : Cell, H[a]? = some cell ∧ cell.vm.isStatics = false ∧ s.vm.findClass RX1 = some cell.cls := va_recv (q := vwCl[1]) hK hP (ci := 1) (q0 := q0) rfl he
theorem pnX2 : plainName RX2 = true := by decide +kernel
theorem recvX2 {s : State} {H : Heap} {D : va_G} {a q0 : Nat} {fs : List Value} {ws : va_W} {tys : List (ClassId × FieldType)} (hK : va_K D vwCl tys s) (hP : va_P D vwCl ws H) (he : ws[q0]? = some (a, .inr (2, fs))) : ∃ cell : Cell, H[a]? = some cell ∧ cell.vm.isStatics = false ∧ s.vm.findClass RX2 = some cell.cls := va_recv (q := vwCl[2]) hK hP (ci := 2) (q0 := q0) rfl he
theorem pnX3 : plainName RX3 = true := by decide +kernel
theorem recvX3 {s : State} {H : Heap} {D : va_G} {a q0 : Nat} {fs : List Value} {ws : va_W} {tys : List (ClassId × FieldType)} (hK : va_K D vwCl tys s) (hP : va_P D vwCl ws H) (he : ws[q0]? = some (a, .inr (3, fs))) : ∃ cell : Cell, H[a]? = some cell ∧ cell.vm.isStatics = false ∧ s.vm.findClass RX3 = some cell.cls := va_recv (q := vwCl[3]) hK hP (ci := 3) (q0 := q0) rfl he
theorem pnX4 : plainName RX4 = true := by decide +kernel
theorem recvX4 {s : State} {H : Heap} {D : va_G} {a q0 : Nat} {fs : List Value} {ws : va_W} {tys : List (ClassId × FieldType)} (hK : va_K D vwCl tys s) (hP : va_P D vwCl ws H) (he : ws[q0]? = some (a, .inr (4, fs))) : ∃ cell : Cell, H[a]? = some cell ∧ cell.vm.isStatics = false ∧ s.vm.findClass RX4 = some cell.cls := va_recv (q := vwCl[4]) hK hP (ci := 4) (q0 := q0) rfl he
theorem pnX5 : plainName RX5 = true := by decide +kernel
theorem recvX5 {s : State} {H : Heap} {D : va_G} {a q0 : Nat} {fs : List Value} {ws : va_W} {tys : List (ClassId × FieldType)} (hK : va_K D vwCl tys s) (hP : va_P D vwCl ws H) (he : ws[q0]? = some (a, .inr (5, fs))) : ∃ cell : Cell, H[a]? = some cell ∧ cell.vm.isStatics = false ∧ s.vm.findClass RX5 = some cell.cls := va_recv (q := vwCl[5]) hK hP (ci := 5) (q0 := q0) rfl he
theorem pnX6 : plainName RX6 = true := by decide +kernel
theorem recvX6 {s : State} {H : Heap} {D : va_G} {a q0 : Nat} {fs : List Value} {ws : va_W} {tys : List (ClassId × FieldType)} (hK : va_K D vwCl tys s) (hP : va_P D vwCl ws H) (he : ws[q0]? = some (a, .inr (6, fs))) : ∃ cell : Cell, H[a]? = some cell ∧ cell.vm.isStatics = false ∧ s.vm.findClass RX6 = some cell.cls := va_recv (q := vwCl[6]) hK hP (ci := 6) (q0 := q0) rfl he
theorem pnX7 : plainName RX7 = true := by decide +kernel
theorem recvX7 {s : State} {H : Heap} {D : va_G} {a q0 : Nat} {fs : List Value} {ws : va_W} {tys : List (ClassId × FieldType)} (hK : va_K D vwCl tys s) (hP : va_P D vwCl ws H) (he : ws[q0]? = some (a, .inr (7, fs))) : ∃ cell : Cell, H[a]? = some cell ∧ cell.vm.isStatics = false ∧ s.vm.findClass RX7 = some cell.cls := va_recv (q := vwCl[7]) hK hP (ci := 7) (q0 := q0) rfl he
theorem ml_of {A : Nat → Prop} {ws wc : va_W} (_ : va_D A ws) (m : List Bool) (h : ml_s m ws = wc) : ml_s m ws = wc := h
theorem Bw.goA {dC : Nat → ClassId} {dI : Nat → Nat → Nat} {A0 A : Nat → Prop} {ws w1 ws' : va_W} {ty1 : List (ClassId × FieldType)} {t : State} {H H1 : Heap} (h : Bw dC dI A w1 ty1 t) (hA : A = va_A ws H.size) (ht : t.heap = H1) (hF : ∀ q, va_A ws H.size q → A0 q) (hW : w1 = ws') : va_P (dC, dI) vwCl ws' H1 ∧ va_D A0 ws' := by
  subst hW; subst ht; subst hA
  exact ⟨h.1, h.2.2.1, fun k q hk => hF _ (h.2.2.2 k q hk)⟩
theorem ms_lt {a b : Int} {n : Nat} (h : b.toNat < n + 1) (h1 : a < b) (h2 : 0 < b) : a.toNat < n := by omega
theorem cl_lt {x : Int32} {a : Int} {n : Nat} (hx : x.toInt = a) (h0 : 0 ≤ a) (h1 : a < (n : Int)) : x.toNatClampNeg < n := by
  have q := ti_cl hx h0
  omega
theorem bz_tb {v : Int32} (h : v = 0 ∨ v = 1) : 0 ≤ v.toInt ∧ v.toInt ≤ 1 := by
  rcases h with rfl | rfl <;> decide
end
section
/-! more numbers; copies of rows under bounds -/
theorem ti_div {x y z : Int32} {a b : Int} (h : z = x / y) (hx : x.toInt = a) (hy : y.toInt = b) (h0 : 0 ≤ a) (h1 : 0 < b) : 0 ≤ z.toInt ∧ z.toInt ≤ a := by
  have hr := fb_rng x
  subst hx; subst hy
  have e : (x / y).toInt = x.toInt / y.toInt := by
    rw [Int32.toInt_div, Int.tdiv_eq_ediv_of_nonneg h0]
    have q1 := Int.ediv_nonneg h0 (Int.le_of_lt h1)
    have q2 := Int.ediv_le_self y.toInt h0
    exact fb_bmod (by omega) (by omega)
  rw [h, e]
  exact ⟨Int.ediv_nonneg h0 (Int.le_of_lt h1), Int.ediv_le_self _ h0⟩
theorem ti_rem {x y z : Int32} {a b : Int} (h : z = x - x / y * y) (hx : x.toInt = a) (hy : y.toInt = b) (h0 : 0 ≤ a) (h1 : 0 < b) : 0 ≤ z.toInt ∧ z.toInt < b ∧ z.toInt ≤ a := by
  have hr := fb_rng x
  have hs := fb_rng y
  subst hx; subst hy
  have key : (x - x / y * y).toInt = x.toInt % y.toInt := by
    rw [Int32.toInt_sub, Int32.toInt_mul, Int32.toInt_div, Int.tdiv_eq_ediv_of_nonneg h0]
    have h2 := Int.emod_nonneg x.toInt (Int.ne_of_gt h1)
    have h3 := Int.emod_lt_of_pos x.toInt h1
    have h4 : x.toInt % y.toInt = x.toInt - y.toInt * (x.toInt / y.toInt) := Int.emod_def _ _
    rw [← fb_bmod (z := x.toInt % y.toInt) (by omega) (by omega), h4]
    simp only [Int.sub_bmod_bmod, Int.bmod_mul_bmod, Int.mul_comm]
    rw [← Int.sub_bmod_bmod, Int.mul_bmod_bmod, Int.sub_bmod_bmod]
  rw [h, key]
  refine ⟨Int.emod_nonneg _ (Int.ne_of_gt h1), Int.emod_lt_of_pos _ h1, ?_⟩
  have h4 := Int.emod_add_mul_ediv x.toInt y.toInt
  have q1 := Int.mul_nonneg (Int.le_of_lt h1) (Int.ediv_nonneg h0 (Int.le_of_lt h1))
  omega
theorem ti_max {x y z : Int32} {a b : Int} (h : z = if x < y then y else x) (hx : x.toInt = a) (hy : y.toInt = b) : a ≤ z.toInt ∧ b ≤ z.toInt ∧ (z.toInt = a ∨ z.toInt = b) := by
  subst hx; subst hy
  by_cases c : x < y
  · rw [if_pos c] at h; rw [fz_lt] at c; subst h; omega
  · rw [if_neg c] at h; rw [fz_lt] at c; subst h; omega
theorem ti_min {x y z : Int32} {a b : Int} (h : z = if y < x then y else x) (hx : x.toInt = a) (hy : y.toInt = b) : z.toInt ≤ a ∧ z.toInt ≤ b ∧ (z.toInt = a ∨ z.toInt = b) := by
  subst hx; subst hy
  by_cases c : y < x
  · rw [if_pos c] at h; rw [fz_lt] at c; subst h; omega
  · rw [if_neg c] at h; rw [fz_lt] at c; subst h; omega
theorem cpy_in {f g : Nat → Int32} {n sp : Nat} {lo hi : Int} (hf : ∀ j : Nat, j < n → lo ≤ (f j).toInt ∧ (f j).toInt ≤ hi) (hg : ∀ j : Nat, j < n → lo ≤ (g j).toInt ∧ (g j).toInt ≤ hi) : ∀ j : Nat, j < n → lo ≤ (va_cpy f g 0 0 n j).toInt ∧ (va_cpy f g 0 0 n j).toInt ≤ hi := by
  intro j hj
  unfold va_cpy
  rw [if_pos ⟨Nat.zero_le _, by omega⟩]
  simpa using hf j hj
theorem ti_shl {y z : Int32} {a : Int} (h : z = (1 : Int32) <<< (y &&& 31)) (hy : y.toInt = a) (h0 : 0 ≤ a) (h1 : a ≤ 4) : 1 ≤ z.toInt ∧ z.toInt ≤ 16 := by
  subst hy
  have hc : y = 0 ∨ y = 1 ∨ y = 2 ∨ y = 3 ∨ y = 4 := by
    simp only [fz_eq, kc_0, kc_1, kc_2, kc_3, kc_4]; omega
  rcases hc with rfl | rfl | rfl | rfl | rfl <;> subst h <;> decide
section VI8
variable {p : Program} {l : Launch} {e : Env} {R : Room} {s : State} {m : MethodId} {args : Array Value} {below : List Frame} {meth : Method} {c : Code} {H : Heap} {locs : List Loc} {cells slots : Nat} {Q : State → Prop}
variable {cc : ByteArray} {pc : Nat} {ls : Array Slot} {rest : List Value} {D : va_G} {cl : List vw_C} {A : Nat → Prop} {a : Nat} {tys : List (ClassId × FieldType)} {ws : va_W} {H0 : Heap}
/-- a whole row of ints copied onto another, of which nothing is known behind it -/
theorem vz_copyi (hexec : p.tables.exec = Jvm.exec) (hb : c.code = cc) (hml : c.maxLocals = ls.size) {own : String} {index : Nat} (hown : s.vm.findClass own = some m.cls) (hlink : (Cond.methodLink own index arraycopyName).before args s = true) (hnat : (Cond.native arraycopyName).before args s = true) (hstat : (Cond.static arraycopyName).before args s = true) (hini : (Cond.initialized "java/lang/System").before args s = true)
    (hK : va_K D cl tys s) (hP : va_P D cl ws H) (hD : va_D A ws) (hS : va_S A H0 H locs) (q0 q1 t0 t1 : Nat) {a0 : Nat} {c0 c1 : ClassId} {n : Nat} {f g : Nat → Int32} (ha0 : ws[q0]? = some (a0, .inl (c0, n, .inl f))) (ha1 : ws[q1]? = some (a, .inl (c1, n, .inl g))) (ht0 : tys[t0]? = some (c0, .int)) (ht1 : tys[t1]? = some (c1, .int))
    {k : Int32} (hk : k.toNatClampNeg = n) (hk0 : ¬ k < 0)
    (hframes : 1 ≤ R.frames) (hlocals : (rest.map fun v => v.category).sum + (nativeFrameWords "java/lang/System" "arraycopy" 5 + 11) ≤ R.locals) (hdg : decode cc pc = .ok (.invokestatic index, 3))
    (kk : ∀ (H1 : Heap) (locs1 : List Loc) (g1 : Nat → Int32), (∀ lo hi : Int, (∀ j : Nat, j < n → lo ≤ (f j).toInt ∧ (f j).toInt ≤ hi) → (∀ j : Nat, j < n → lo ≤ (g j).toInt ∧ (g j).toInt ≤ hi) → ∀ j : Nat, j < n → lo ≤ (g1 j).toInt ∧ (g1 j).toInt ≤ hi) → va_P D cl (ws.set q1 (a, .inl (c1, n, .inl g1))) H1 → va_D A (ws.set q1 (a, .inl (c1, n, .inl g1))) → va_S A H0 H1 locs1 → W p l e R s m args below meth c H1 locs1 cells slots Q (F0 m (pc + 3) ls rest)) : W p l e R s m args below meth c H locs cells slots Q (F0 m pc ls (.int k :: .int 0 :: .ref a :: .int 0 :: .ref a0 :: rest)) := by
  refine va_copyi hexec hb hml hown hlink hnat hstat hini hK hP hD hS q0 q1 t0 t1 (ty := .int) ha0 ha1 ht0 ht1 rfl (by decide) (by decide) hk0 (by rw [hk]; show 0 + n ≤ n; omega) (by rw [hk]; show 0 + n ≤ n; omega) (fun _ _ => rfl) hframes hlocals hdg (fun H1 locs1 h1 h2 h3 => kk H1 locs1 _ (fun lo hi hf hg => ?_) h1 h2 h3)
  rw [hk]
  exact cpy_in (sp := 0) hf hg
/-- a whole row of ints copied onto another, told exactly -/
theorem vz_copyE (hexec : p.tables.exec = Jvm.exec) (hb : c.code = cc) (hml : c.maxLocals = ls.size) {own : String} {index : Nat} (hown : s.vm.findClass own = some m.cls) (hlink : (Cond.methodLink own index arraycopyName).before args s = true) (hnat : (Cond.native arraycopyName).before args s = true) (hstat : (Cond.static arraycopyName).before args s = true) (hini : (Cond.initialized "java/lang/System").before args s = true)
    (hK : va_K D cl tys s) (hP : va_P D cl ws H) (hD : va_D A ws) (hS : va_S A H0 H locs) (q0 q1 t0 t1 : Nat) {a0 : Nat} {c0 c1 : ClassId} {n : Nat} {f g : Nat → Int32} (ha0 : ws[q0]? = some (a0, .inl (c0, n, .inl f))) (ha1 : ws[q1]? = some (a, .inl (c1, n, .inl g))) (ht0 : tys[t0]? = some (c0, .int)) (ht1 : tys[t1]? = some (c1, .int))
    {k : Int32} (hk : k.toNatClampNeg = n) (hk0 : ¬ k < 0)
    (hframes : 1 ≤ R.frames) (hlocals : (rest.map fun v => v.category).sum + (nativeFrameWords "java/lang/System" "arraycopy" 5 + 11) ≤ R.locals) (hdg : decode cc pc = .ok (.invokestatic index, 3))
    (kk : ∀ (H1 : Heap) (locs1 : List Loc) (g1 : Nat → Int32), g1 = va_cpy f g 0 0 n → (∀ lo hi : Int, (∀ j : Nat, j < n → lo ≤ (f j).toInt ∧ (f j).toInt ≤ hi) → (∀ j : Nat, j < n → lo ≤ (g j).toInt ∧ (g j).toInt ≤ hi) → ∀ j : Nat, j < n → lo ≤ (g1 j).toInt ∧ (g1 j).toInt ≤ hi) → va_P D cl (ws.set q1 (a, .inl (c1, n, .inl g1))) H1 → va_D A (ws.set q1 (a, .inl (c1, n, .inl g1))) → va_S A H0 H1 locs1 → W p l e R s m args below meth c H1 locs1 cells slots Q (F0 m (pc + 3) ls rest)) : W p l e R s m args below meth c H locs cells slots Q (F0 m pc ls (.int k :: .int 0 :: .ref a :: .int 0 :: .ref a0 :: rest)) := by
  refine va_copyi hexec hb hml hown hlink hnat hstat hini hK hP hD hS q0 q1 t0 t1 (ty := .int) ha0 ha1 ht0 ht1 rfl (by decide) (by decide) hk0 (by rw [hk]; show 0 + n ≤ n; omega) (by rw [hk]; show 0 + n ≤ n; omega) (fun _ _ => rfl) hframes hlocals hdg (fun H1 locs1 h1 h2 h3 => kk H1 locs1 _ (by rw [hk]; rfl) (fun lo hi hf hg => ?_) h1 h2 h3)
  rw [hk]
  exact cpy_in (sp := 0) hf hg
end VI8
end
section
theorem zb_nar {v : Int32} (h : 0 ≤ v.toInt ∧ v.toInt ≤ 1) : vp_nar .boolean v = v := by
  have hc : v = 0 ∨ v = 1 := by
    simp only [fz_eq, kc_0, kc_1]; omega
  rcases hc with rfl | rfl <;> rfl
theorem rel_upd {fo fs : Nat → Int32} {n k : Nat} {x s : Int32} (h : ∀ j : Nat, j < n → fs j = 0 → 0 ≤ (fo j).toInt ∧ (fo j).toInt ≤ 3) (hx : s = 0 → 0 ≤ x.toInt ∧ x.toInt ≤ 3) : ∀ j : Nat, j < n → upd fs k s j = 0 → 0 ≤ (upd fo k x j).toInt ∧ (upd fo k x j).toInt ≤ 3 := by
  intro j hj h0
  by_cases e : j = k
  · subst e; rw [pk_us] at h0 ⊢; exact hx h0
  · rw [pk_un e] at h0 ⊢; exact h j hj h0
theorem bz_ti {v : Int32} (h : v = 0 ∨ v = 1) : v.toInt = 0 ∨ v.toInt = 1 := by
  rcases h with rfl | rfl
  · exact Or.inl kc_0
  · exact Or.inr kc_1
/-- the reference's hasBit -/
def tb (x y : Int32) : Prop := (x >>> (y &&& 31)) &&& 1 = 1
end
