/-! what a call leaves, in one row -/
theorem wl2 {D : va_G} {cl : List vw_C} {ws ws' : va_W} {H : Heap} {A : Nat → Prop} (hP : va_P D cl ws H) (hD : va_D A ws) (h : ws = ws') : va_P D cl ws' H ∧ va_D A ws' := by subst h; exact ⟨hP, hD⟩
theorem Bw.go {dC : Nat → ClassId} {dI : Nat → Nat → Nat} {A0 A : Nat → Prop} {ws wc w1 ws' : va_W} {tys ty1 tys' : List (ClassId × FieldType)} {s t : State} {H H1 : Heap} (h : Bw dC dI A w1 ty1 t) (hA : A = va_A wc H.size) (ht : t.heap = H1) (hvm : s.vm.Alike t.vm) (hP : va_P (dC, dI) vwCl ws H) (hD : va_D A0 ws) (hK : va_K (dC, dI) vwCl tys s) (isC isR : List Nat) (hC : isC.map (fun i => ws[i]?) = wc.map some) (hn : va_nd isR = true) (hdis : ∀ i ∈ isR, i ∉ isC) (isT : List Nat) (hk : ∀ q : Nat, q < H.size → ¬ va_A wc H.size q → H1[q]? = H[q]?) (hF : ∀ q, va_A wc H.size q → A0 q) (hR : isR.map (fun i => ws[i]?) = (isR.filterMap (fun i => ws[i]?)).map some) (hW : isR.filterMap (fun i => ws[i]?) ++ w1 = ws') (hT : isT.filterMap (fun i => tys[i]?) ++ ty1 = tys') : va_P (dC, dI) vwCl ws' H1 ∧ va_D A0 ws' ∧ va_K (dC, dI) vwCl tys' s := by
  subst hW
  subst hT
  exact Bw.back h hA ht hvm hP hD hK isC isR hC hR hn hdis isT rfl hk hF
theorem Bw.same {dC : Nat → ClassId} {dI : Nat → Nat → Nat} {A0 : Nat → Prop} {ws : va_W} {tys : List (ClassId × FieldType)} {s t : State} {H H1 : Heap} (_ : t.heap = H1) (_ : s.vm.Alike t.vm) (hP : va_P (dC, dI) vwCl ws H) (hD : va_D A0 ws) (hK : va_K (dC, dI) vwCl tys s) (hk : ∀ q : Nat, q < H.size → ¬ va_A [] H.size q → H1[q]? = H[q]?) (_ : ∀ q, va_A [] H.size q → A0 q) : va_P (dC, dI) vwCl ws H1 ∧ va_D A0 ws ∧ va_K (dC, dI) vwCl tys s :=
  ⟨fun k q h => (hP k q h).kept (hk q.1 (hP k q h).lt (fun z => by
    rcases z with ⟨j, e, z⟩ | z
    · simp at z
    · have := (hP k q h).lt
      omega)), hD, hK⟩
