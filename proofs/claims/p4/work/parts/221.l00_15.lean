set_option maxHeartbeats 4000000 in
set_option maxRecDepth 100000 in
theorem tX2_listen_13 (l : Launch) (dC : Nat → ClassId) (dI : Nat → Nat → Nat) (sz : Nat) (oH : Nat) (iH_breaths : Int32) (iH_heardBits : Int32) (iH_cutCount : Int32) (iH_halfBreaths : Int32) (iH_halfQuestions : Int32) (rH_heardWords : Nat) (rH_cutParts : Nat) (oC : Nat) (oS : Nat) (p0 : Int32) (p1 : Int32) (p2 : Int32) (b_iH_breaths : 0 ≤ iH_breaths.toInt ∧ iH_breaths.toInt ≤ 100000000) (b_iH_cutCount : 0 ≤ iH_cutCount.toInt ∧ iH_cutCount.toInt ≤ 100000000) (hbr : iH_breaths.toInt + 0 ≤ 100000000) (hcu : iH_cutCount.toInt + 0 ≤ 100000000) : Met l yX2_listen (Cond.code yX2_listen cX2_listen 7 (some .int) :: wG) ({ frames := 0, cells := 0, slots := 0, locals := 0 }) (va_Pc [.ref oH, .ref oC, .ref oS, .int p0, .int p1, .int p2, .int 13] (Pw dC dI sz [(oH, .inr (2, [.int iH_breaths, .int iH_heardBits, .int iH_cutCount, .int iH_halfBreaths, .int iH_halfQuestions, .ref rH_heardWords, .ref rH_cutParts]))] [])) (va_Qi (fun (r : Int32) (_ : Nat) => True ∧ True) (fun (_ : Nat) (t : State) => Bw dC dI (va_A [(oH, .inr (2, [.int iH_breaths, .int iH_heardBits, .int iH_cutCount, .int iH_halfBreaths, .int iH_halfQuestions, .ref rH_heardWords, .ref rH_cutParts]))] sz) [(oH, .inr (2, [.int iH_breaths, .int iH_heardBits, .int iH_cutCount, .int iH_halfBreaths, .int iH_halfQuestions, .ref rH_heardWords, .ref rH_cutParts]))] [] t) (va_A [(oH, .inr (2, [.int iH_breaths, .int iH_heardBits, .int iH_cutCount, .int iH_halfBreaths, .int iH_halfQuestions, .ref rH_heardWords, .ref rH_cutParts]))] sz)) 0 0 (va_A [(oH, .inr (2, [.int iH_breaths, .int iH_heardBits, .int iH_cutCount, .int iH_halfBreaths, .int iH_halfQuestions, .ref rH_heardWords, .ref rH_cutParts]))] sz) := by
  refine Met.ofW (cc := cX2_listen) (maxL := 7) (ret := (some .int)) (by decide) rfl ?_
  intro p e s m args below meth c s₁ B hml hv
  obtain ⟨rfl, hsz, hP, hK, hD0, hE⟩ := hv
  have hx := B.exec
  have hb := B.bytes
  have hr := B.returns
  have hts : ∀ w ∈ wG, w.before ([.ref oH, .ref oC, .ref oS, .int p0, .int p1, .int p2, .int 13] : List Value).toArray s = true := fun w h => atoms_spec (ws := Cond.code yX2_listen cX2_listen 7 (some .int) :: wG) B.pre w (List.mem_cons_of_mem _ h)
  have hown : s.vm.findClass RX2 = some m.cls := findClass_of_methodNamed B.named
  have hlocks := B.notSynchronized
  subst hsz
  have hD := hD0.self (sz := s.heap.size)
  generalize hAe : va_A [(oH, .inr (2, [.int iH_breaths, .int iH_heardBits, .int iH_cutCount, .int iH_halfBreaths, .int iH_halfQuestions, .ref rH_heardWords, .ref rH_cutParts]))] s.heap.size = A at hD hE ⊢
  have hA : ∀ q : Nat, s.heap.size ≤ q → A q := fun q h => by rw [← hAe]; exact Or.inr h
  have hS : va_S A s.heap s.heap [] := va_S.rf
  have hl := lv_entry ([.ref oH, .ref oC, .ref oS, .int p0, .int p1, .int p2, .int 13]) (n := 7) (Nat.le_of_ble_eq_true rfl)
  rw [lg_entry_eq]
  generalize (lg_sl ([.ref oH, .ref oC, .ref oS, .int p0, .int p1, .int p2, .int 13]) ++ List.replicate (7 - (lg_sl ([.ref oH, .ref oC, .ref oS, .int p0, .int p1, .int p2, .int 13])).length) Slot.unset).toArray = ls at hl ⊢
  have hl : lv_has ls 7 [(0, .ref oH), (1, .ref oC), (2, .ref oS), (3, .int p0), (4, .int p1), (5, .int p2), (6, .int 13)] := hl
  have rg_p0 := fb_rng p0
  have rg_p1 := fb_rng p1
  have rg_p2 := fb_rng p2
  refine lv_iload hx hb dX2_listen_0 (lv_at hl 6 rfl) ?_
  refine lv_bipush (v := 12) hx hb dX2_listen_2 (by decide) ?_
  refine lv_icmp_gt (tgt := 15) hx hb dX2_listen_4 (by decide) (fun _ => ?_) (fun c => absurd c (by decide))
  refine lv_iconst (v := 0) hx hb dX2_listen_15 (by decide) ?_
  have hP9 := hP.sub (ws' := [(oH, .inr (2, [.int iH_breaths, .int iH_heardBits, .int iH_cutCount, .int iH_halfBreaths, .int iH_halfQuestions, .ref rH_heardWords, .ref rH_cutParts]))]) [0] rfl
  have hD9 := hD.sub (ws' := [(oH, .inr (2, [.int iH_breaths, .int iH_heardBits, .int iH_cutCount, .int iH_halfBreaths, .int iH_halfQuestions, .ref rH_heardWords, .ref rH_cutParts]))]) [0] (by decide) rfl
  have hK9 := hK.sub (tys' := []) [] rfl
  exact W.iret hx hb hr (fun t ht hW => ⟨⟨_, 0, rfl, ⟨trivial, trivial⟩, Bw.to hP9 hD9 hK9 ht hW⟩, hS.F ht⟩) hS.2.2 dX2_listen_16
set_option maxHeartbeats 4000000 in
set_option maxRecDepth 100000 in
theorem tX2_much_13 (l : Launch) (dC : Nat → ClassId) (dI : Nat → Nat → Nat) (sz : Nat) (oH : Nat) (iH_breaths : Int32) (iH_heardBits : Int32) (iH_cutCount : Int32) (iH_halfBreaths : Int32) (iH_halfQuestions : Int32) (rH_heardWords : Nat) (rH_cutParts : Nat) (oC : Nat) (oS : Nat) (p0 : Int32) (p1 : Int32) (b_iH_breaths : 0 ≤ iH_breaths.toInt ∧ iH_breaths.toInt ≤ 100000000) (b_iH_cutCount : 0 ≤ iH_cutCount.toInt ∧ iH_cutCount.toInt ≤ 100000000) (hbr : iH_breaths.toInt + 0 ≤ 100000000) (hcu : iH_cutCount.toInt + 0 ≤ 100000000) : Met l yX2_isSoMuch (Cond.code yX2_isSoMuch cX2_isSoMuch 8 (some .boolean) :: wG) ({ frames := 0, cells := 0, slots := 0, locals := 0 }) (va_Pc [.ref oH, .ref oC, .ref oS, .int p0, .int p1, .int 13] (Pw dC dI sz [(oH, .inr (2, [.int iH_breaths, .int iH_heardBits, .int iH_cutCount, .int iH_halfBreaths, .int iH_halfQuestions, .ref rH_heardWords, .ref rH_cutParts]))] [])) (va_Qi (fun (r : Int32) (_ : Nat) => (r = 0 ∨ r = 1) ∧ True) (fun (_ : Nat) (t : State) => Bw dC dI (va_A [(oH, .inr (2, [.int iH_breaths, .int iH_heardBits, .int iH_cutCount, .int iH_halfBreaths, .int iH_halfQuestions, .ref rH_heardWords, .ref rH_cutParts]))] sz) [(oH, .inr (2, [.int iH_breaths, .int iH_heardBits, .int iH_cutCount, .int iH_halfBreaths, .int iH_halfQuestions, .ref rH_heardWords, .ref rH_cutParts]))] [] t) (va_A [(oH, .inr (2, [.int iH_breaths, .int iH_heardBits, .int iH_cutCount, .int iH_halfBreaths, .int iH_halfQuestions, .ref rH_heardWords, .ref rH_cutParts]))] sz)) 0 0 (va_A [(oH, .inr (2, [.int iH_breaths, .int iH_heardBits, .int iH_cutCount, .int iH_halfBreaths, .int iH_halfQuestions, .ref rH_heardWords, .ref rH_cutParts]))] sz) := by
  refine Met.ofW (cc := cX2_isSoMuch) (maxL := 8) (ret := (some .boolean)) (by decide) rfl ?_
  intro p e s m args below meth c s₁ B hml hv
  obtain ⟨rfl, hsz, hP, hK, hD0, hE⟩ := hv
  have hx := B.exec
  have hb := B.bytes
  have hr := B.returns
  have hts : ∀ w ∈ wG, w.before ([.ref oH, .ref oC, .ref oS, .int p0, .int p1, .int 13] : List Value).toArray s = true := fun w h => atoms_spec (ws := Cond.code yX2_isSoMuch cX2_isSoMuch 8 (some .boolean) :: wG) B.pre w (List.mem_cons_of_mem _ h)
  have hown : s.vm.findClass RX2 = some m.cls := findClass_of_methodNamed B.named
  have hlocks := B.notSynchronized
  subst hsz
  have hD := hD0.self (sz := s.heap.size)
  generalize hAe : va_A [(oH, .inr (2, [.int iH_breaths, .int iH_heardBits, .int iH_cutCount, .int iH_halfBreaths, .int iH_halfQuestions, .ref rH_heardWords, .ref rH_cutParts]))] s.heap.size = A at hD hE ⊢
  have hA : ∀ q : Nat, s.heap.size ≤ q → A q := fun q h => by rw [← hAe]; exact Or.inr h
  have hS : va_S A s.heap s.heap [] := va_S.rf
  have hl := lv_entry ([.ref oH, .ref oC, .ref oS, .int p0, .int p1, .int 13]) (n := 8) (Nat.le_of_ble_eq_true rfl)
  rw [lg_entry_eq]
  generalize (lg_sl ([.ref oH, .ref oC, .ref oS, .int p0, .int p1, .int 13]) ++ List.replicate (8 - (lg_sl ([.ref oH, .ref oC, .ref oS, .int p0, .int p1, .int 13])).length) Slot.unset).toArray = ls at hl ⊢
  have hl : lv_has ls 8 [(0, .ref oH), (1, .ref oC), (2, .ref oS), (3, .int p0), (4, .int p1), (5, .int 13)] := hl
  have rg_p0 := fb_rng p0
  have rg_p1 := fb_rng p1
  refine lv_iload hx hb dX2_isSoMuch_0 (lv_at hl 5 rfl) ?_
  refine lv_bipush (v := 12) hx hb dX2_isSoMuch_2 (by decide) ?_
  refine lv_icmp_gt (tgt := 15) hx hb dX2_isSoMuch_4 (by decide) (fun _ => ?_) (fun c => absurd c (by decide))
  refine lv_iconst (v := 0) hx hb dX2_isSoMuch_15 (by decide) ?_
  have hP9 := hP.sub (ws' := [(oH, .inr (2, [.int iH_breaths, .int iH_heardBits, .int iH_cutCount, .int iH_halfBreaths, .int iH_halfQuestions, .ref rH_heardWords, .ref rH_cutParts]))]) [0] rfl
  have hD9 := hD.sub (ws' := [(oH, .inr (2, [.int iH_breaths, .int iH_heardBits, .int iH_cutCount, .int iH_halfBreaths, .int iH_halfQuestions, .ref rH_heardWords, .ref rH_cutParts]))]) [0] (by decide) rfl
  have hK9 := hK.sub (tys' := []) [] rfl
  exact W.zret (v := 0) hx hb hr rfl (fun t ht hW => ⟨⟨_, 0, rfl, ⟨Or.inl rfl, trivial⟩, Bw.to hP9 hD9 hK9 ht hW⟩, hS.F ht⟩) hS.2.2 dX2_isSoMuch_16
