set_option maxHeartbeats 4000000 in
set_option maxRecDepth 100000 in
theorem tX7_isSmall_p (l : Launch) (dC : Nat → ClassId) (dI : Nat → Nat → Nat) (sz : Nat) (p0 : Int32)  : Met l yX7_isSmall (Cond.code yX7_isSmall cX7_isSmall 1 (some .boolean) :: wG) ({ frames := 0, cells := 0, slots := 0, locals := 0 }) (va_Pc [.int p0] (Pw dC dI sz [] [])) (va_Qi (fun (r : Int32) (_ : Nat) => ((r = 0 ∨ r = 1) ∧ (r.toInt = 1 → 97 ≤ p0.toInt ∧ p0.toInt ≤ 122)) ∧ PX7_isSmall p0 = r) (fun (_ : Nat) (_ : State) => True) (va_A [] sz)) 0 0 (va_A [] sz) := by
  refine Met.ofW (cc := cX7_isSmall) (maxL := 1) (ret := (some .boolean)) (by decide) rfl ?_
  intro p e s m args below meth c s₁ B hml hv
  obtain ⟨rfl, hsz, hP, hK, hD0, hE⟩ := hv
  have hx := B.exec
  have hb := B.bytes
  have hr := B.returns
  have hts : ∀ w ∈ wG, w.before ([.int p0] : List Value).toArray s = true := fun w h => atoms_spec (ws := Cond.code yX7_isSmall cX7_isSmall 1 (some .boolean) :: wG) B.pre w (List.mem_cons_of_mem _ h)
  have hown : s.vm.findClass RX7 = some m.cls := findClass_of_methodNamed B.named
  have hlocks := B.notSynchronized
  subst hsz
  generalize hAe : va_A [] s.heap.size = A at hE ⊢
  have hA : ∀ q : Nat, s.heap.size ≤ q → A q := fun q h => by rw [← hAe]; exact Or.inr h
  have hS : va_S A s.heap s.heap [] := va_S.rf
  have hl := lv_entry ([.int p0]) (n := 1) (Nat.le_of_ble_eq_true rfl)
  rw [lg_entry_eq]
  generalize (lg_sl ([.int p0]) ++ List.replicate (1 - (lg_sl ([.int p0])).length) Slot.unset).toArray = ls at hl ⊢
  have hl : lv_has ls 1 [(0, .int p0)] := hl
  have hG := PX7_isSmall_eq p0
  refine lv_iload_n hx hb dX7_isSmall_0 rfl (lv_at hl 0 rfl) ?_
  refine lv_bipush (v := 97) hx hb dX7_isSmall_1 (by decide) ?_
  refine lv_icmp_lt (tgt := 16) hx hb dX7_isSmall_3 (by decide) (fun c_4734 => ?_) (fun c_4734 => ?_)
  · skip
    have hG := hG.trans (if_pos c_4734)
    have gc_4734 := ti_lt c_4734 rfl kc_97
    refine lv_iconst (v := 0) hx hb dX7_isSmall_16 (by decide) ?_
    exact W.zret (v := 0) hx hb hr rfl (fun t ht hW => ⟨⟨_, 0, rfl, ⟨⟨Or.inl rfl, (by have q0 := kc_0; have q1 := kc_1; omega)⟩, hG⟩, trivial⟩, hS.F ht⟩) hS.2.2 dX7_isSmall_17
  · skip
    have hG := hG.trans (if_neg c_4734)
    have gc_4734 := ti_nlt c_4734 rfl kc_97
    refine lv_iload_n hx hb dX7_isSmall_6 rfl (lv_at hl 0 rfl) ?_
    refine lv_bipush (v := 122) hx hb dX7_isSmall_7 (by decide) ?_
    refine lv_icmp_gt (tgt := 16) hx hb dX7_isSmall_9 (by decide) (fun c_4735 => ?_) (fun c_4735 => ?_)
    · skip
      have hG := hG.trans (if_pos c_4735)
      have gc_4735 := ti_lt c_4735 kc_122 rfl
      refine lv_iconst (v := 0) hx hb dX7_isSmall_16 (by decide) ?_
      exact W.zret (v := 0) hx hb hr rfl (fun t ht hW => ⟨⟨_, 0, rfl, ⟨⟨Or.inl rfl, (by have q0 := kc_0; have q1 := kc_1; omega)⟩, hG⟩, trivial⟩, hS.F ht⟩) hS.2.2 dX7_isSmall_17
    · skip
      have hG := hG.trans (if_neg c_4735)
      have gc_4735 := ti_nlt c_4735 kc_122 rfl
      refine lv_iconst (v := 1) hx hb dX7_isSmall_12 (by decide) ?_
      refine lv_goto (tgt := 17) hx hb dX7_isSmall_13 (by decide) ?_
      exact W.zret (v := 1) hx hb hr rfl (fun t ht hW => ⟨⟨_, 0, rfl, ⟨⟨Or.inr rfl, (by have q0 := kc_0; have q1 := kc_1; omega)⟩, hG⟩, trivial⟩, hS.F ht⟩) hS.2.2 dX7_isSmall_17
set_option maxHeartbeats 4000000 in
set_option maxRecDepth 100000 in
theorem tX7_isDigit_p (l : Launch) (dC : Nat → ClassId) (dI : Nat → Nat → Nat) (sz : Nat) (p0 : Int32)  : Met l yX7_isDigit (Cond.code yX7_isDigit cX7_isDigit 1 (some .boolean) :: wG) ({ frames := 0, cells := 0, slots := 0, locals := 0 }) (va_Pc [.int p0] (Pw dC dI sz [] [])) (va_Qi (fun (r : Int32) (_ : Nat) => ((r = 0 ∨ r = 1) ∧ (r.toInt = 1 → 48 ≤ p0.toInt ∧ p0.toInt ≤ 57)) ∧ PX7_isDigit p0 = r) (fun (_ : Nat) (_ : State) => True) (va_A [] sz)) 0 0 (va_A [] sz) := by
  refine Met.ofW (cc := cX7_isDigit) (maxL := 1) (ret := (some .boolean)) (by decide) rfl ?_
  intro p e s m args below meth c s₁ B hml hv
  obtain ⟨rfl, hsz, hP, hK, hD0, hE⟩ := hv
  have hx := B.exec
  have hb := B.bytes
  have hr := B.returns
  have hts : ∀ w ∈ wG, w.before ([.int p0] : List Value).toArray s = true := fun w h => atoms_spec (ws := Cond.code yX7_isDigit cX7_isDigit 1 (some .boolean) :: wG) B.pre w (List.mem_cons_of_mem _ h)
  have hown : s.vm.findClass RX7 = some m.cls := findClass_of_methodNamed B.named
  have hlocks := B.notSynchronized
  subst hsz
  generalize hAe : va_A [] s.heap.size = A at hE ⊢
  have hA : ∀ q : Nat, s.heap.size ≤ q → A q := fun q h => by rw [← hAe]; exact Or.inr h
  have hS : va_S A s.heap s.heap [] := va_S.rf
  have hl := lv_entry ([.int p0]) (n := 1) (Nat.le_of_ble_eq_true rfl)
  rw [lg_entry_eq]
  generalize (lg_sl ([.int p0]) ++ List.replicate (1 - (lg_sl ([.int p0])).length) Slot.unset).toArray = ls at hl ⊢
  have hl : lv_has ls 1 [(0, .int p0)] := hl
  have hG := PX7_isDigit_eq p0
  refine lv_iload_n hx hb dX7_isDigit_0 rfl (lv_at hl 0 rfl) ?_
  refine lv_bipush (v := 48) hx hb dX7_isDigit_1 (by decide) ?_
  refine lv_icmp_lt (tgt := 16) hx hb dX7_isDigit_3 (by decide) (fun c_4736 => ?_) (fun c_4736 => ?_)
  · skip
    have hG := hG.trans (if_pos c_4736)
    have gc_4736 := ti_lt c_4736 rfl kc_48
    refine lv_iconst (v := 0) hx hb dX7_isDigit_16 (by decide) ?_
    exact W.zret (v := 0) hx hb hr rfl (fun t ht hW => ⟨⟨_, 0, rfl, ⟨⟨Or.inl rfl, (by have q0 := kc_0; have q1 := kc_1; omega)⟩, hG⟩, trivial⟩, hS.F ht⟩) hS.2.2 dX7_isDigit_17
  · skip
    have hG := hG.trans (if_neg c_4736)
    have gc_4736 := ti_nlt c_4736 rfl kc_48
    refine lv_iload_n hx hb dX7_isDigit_6 rfl (lv_at hl 0 rfl) ?_
    refine lv_bipush (v := 57) hx hb dX7_isDigit_7 (by decide) ?_
    refine lv_icmp_gt (tgt := 16) hx hb dX7_isDigit_9 (by decide) (fun c_4737 => ?_) (fun c_4737 => ?_)
    · skip
      have hG := hG.trans (if_pos c_4737)
      have gc_4737 := ti_lt c_4737 kc_57 rfl
      refine lv_iconst (v := 0) hx hb dX7_isDigit_16 (by decide) ?_
      exact W.zret (v := 0) hx hb hr rfl (fun t ht hW => ⟨⟨_, 0, rfl, ⟨⟨Or.inl rfl, (by have q0 := kc_0; have q1 := kc_1; omega)⟩, hG⟩, trivial⟩, hS.F ht⟩) hS.2.2 dX7_isDigit_17
    · skip
      have hG := hG.trans (if_neg c_4737)
      have gc_4737 := ti_nlt c_4737 kc_57 rfl
      refine lv_iconst (v := 1) hx hb dX7_isDigit_12 (by decide) ?_
      refine lv_goto (tgt := 17) hx hb dX7_isDigit_13 (by decide) ?_
      exact W.zret (v := 1) hx hb hr rfl (fun t ht hW => ⟨⟨_, 0, rfl, ⟨⟨Or.inr rfl, (by have q0 := kc_0; have q1 := kc_1; omega)⟩, hG⟩, trivial⟩, hS.F ht⟩) hS.2.2 dX7_isDigit_17
set_option maxHeartbeats 4000000 in
set_option maxRecDepth 100000 in
theorem tX7_see_p (l : Launch) (dC : Nat → ClassId) (dI : Nat → Nat → Nat) (sz : Nat) (oM : Nat) (iM_thrown : Int32) (rM_tape : Nat) (fM_tape : Nat → Int32) (kM_tape : ClassId) (iM_taped : Int32) (iM_size : Int32) (iM_at : Int32) (iM_end : Int32) (iM_token : Int32) (iM_whole : Int32) (iM_nameSize : Int32) (iM_fault : Int32) (iM_place : Int32) (iM_trouble : Int32) (rM_letters : Nat) (iM_failed : Int32) (iM_hasCourt : Int32) (rM_r : Nat) (rM_fresh : Nat) (rM_told : Nat) (rM_read : Nat) (rM_st : Nat) (rM_undone : Nat) (rM_kept : Nat) (iM_undos : Int32) (iM_images : Int32) (rM_fresher : Nat) (iM_fresherSize : Int32) (iM_scale : Int32) (iM_night : Int32) (rM_heardRow : Nat) (rM_cutRow : Nat) (iM_breaths : Int32) (iM_cutMany : Int32) (iM_allBreaths : Int32) (rM_trial : Nat) (rM_words : Nat) (iM_fewestBreaths : Int32) (iM_orderMany : Int32) (iM_orderSum : Int32) (iM_leastOrder : Int32) (rM_often : Nat) (iM_setMany : Int32) (iM_someOf : Int32) (iM_allOf : Int32) (iM_allWeight : Int64) (iM_enoughWeight : Int64) (iM_worthSum : Int64) (iM_firstRest : Int32) (iM_leastDrawn : Int32) (p0 : Int32) (b_iM_taped : 0 ≤ iM_taped.toInt ∧ iM_taped.toInt ≤ 900) (b_iM_size : 0 ≤ iM_size.toInt ∧ iM_size.toInt ≤ 900) (b_iM_end : 0 ≤ iM_end.toInt ∧ iM_end.toInt ≤ 900) (b_iM_nameSize : 0 ≤ iM_nameSize.toInt ∧ iM_nameSize.toInt ≤ 900) (b_iM_failed : 0 ≤ iM_failed.toInt ∧ iM_failed.toInt ≤ 1) (b_iM_hasCourt : 0 ≤ iM_hasCourt.toInt ∧ iM_hasCourt.toInt ≤ 1) (b_iM_undos : 0 ≤ iM_undos.toInt ∧ iM_undos.toInt ≤ 16) (b_iM_images : 0 ≤ iM_images.toInt ∧ iM_images.toInt ≤ 3) (b_iM_scale : 1 ≤ iM_scale.toInt ∧ iM_scale.toInt ≤ 1296) (b_iM_breaths : 0 ≤ iM_breaths.toInt ∧ iM_breaths.toInt ≤ 399) (b_iM_cutMany : 0 ≤ iM_cutMany.toInt ∧ iM_cutMany.toInt ≤ 399) (hs : 0 ≤ p0.toInt) : Met l yX7_see (Cond.code yX7_see cX7_see 2 (some .int) :: wG) ({ frames := 0, cells := 0, slots := 0, locals := 0 }) (va_Pc [.ref oM, .int p0] (Pw dC dI sz [(oc7 oM iM_thrown rM_tape iM_taped iM_size iM_at iM_end iM_token iM_whole iM_nameSize iM_fault iM_place iM_trouble rM_letters iM_failed iM_hasCourt rM_r rM_fresh rM_told rM_read rM_st rM_undone rM_kept iM_undos iM_images rM_fresher iM_fresherSize iM_scale iM_night rM_heardRow rM_cutRow iM_breaths iM_cutMany iM_allBreaths rM_trial rM_words iM_fewestBreaths iM_orderMany iM_orderSum iM_leastOrder rM_often iM_setMany iM_someOf iM_allOf iM_allWeight iM_enoughWeight iM_worthSum iM_firstRest iM_leastDrawn), (arI rM_tape kM_tape 900 fM_tape)] [(kM_tape, .int)])) (va_Qi (fun (r : Int32) (_ : Nat) => (True ∧ (r.toInt ≠ -1 → p0.toInt < iM_size.toInt)) ∧ PX7_see_p fM_tape iM_size p0 = r) (fun (_ : Nat) (t : State) => Bw dC dI (va_A [(oc7 oM iM_thrown rM_tape iM_taped iM_size iM_at iM_end iM_token iM_whole iM_nameSize iM_fault iM_place iM_trouble rM_letters iM_failed iM_hasCourt rM_r rM_fresh rM_told rM_read rM_st rM_undone rM_kept iM_undos iM_images rM_fresher iM_fresherSize iM_scale iM_night rM_heardRow rM_cutRow iM_breaths iM_cutMany iM_allBreaths rM_trial rM_words iM_fewestBreaths iM_orderMany iM_orderSum iM_leastOrder rM_often iM_setMany iM_someOf iM_allOf iM_allWeight iM_enoughWeight iM_worthSum iM_firstRest iM_leastDrawn), (arI rM_tape kM_tape 900 fM_tape)] sz) [(oc7 oM iM_thrown rM_tape iM_taped iM_size iM_at iM_end iM_token iM_whole iM_nameSize iM_fault iM_place iM_trouble rM_letters iM_failed iM_hasCourt rM_r rM_fresh rM_told rM_read rM_st rM_undone rM_kept iM_undos iM_images rM_fresher iM_fresherSize iM_scale iM_night rM_heardRow rM_cutRow iM_breaths iM_cutMany iM_allBreaths rM_trial rM_words iM_fewestBreaths iM_orderMany iM_orderSum iM_leastOrder rM_often iM_setMany iM_someOf iM_allOf iM_allWeight iM_enoughWeight iM_worthSum iM_firstRest iM_leastDrawn), (arI rM_tape kM_tape 900 fM_tape)] [(kM_tape, .int)] t) (va_A [(oc7 oM iM_thrown rM_tape iM_taped iM_size iM_at iM_end iM_token iM_whole iM_nameSize iM_fault iM_place iM_trouble rM_letters iM_failed iM_hasCourt rM_r rM_fresh rM_told rM_read rM_st rM_undone rM_kept iM_undos iM_images rM_fresher iM_fresherSize iM_scale iM_night rM_heardRow rM_cutRow iM_breaths iM_cutMany iM_allBreaths rM_trial rM_words iM_fewestBreaths iM_orderMany iM_orderSum iM_leastOrder rM_often iM_setMany iM_someOf iM_allOf iM_allWeight iM_enoughWeight iM_worthSum iM_firstRest iM_leastDrawn), (arI rM_tape kM_tape 900 fM_tape)] sz)) 0 0 (va_A [(oc7 oM iM_thrown rM_tape iM_taped iM_size iM_at iM_end iM_token iM_whole iM_nameSize iM_fault iM_place iM_trouble rM_letters iM_failed iM_hasCourt rM_r rM_fresh rM_told rM_read rM_st rM_undone rM_kept iM_undos iM_images rM_fresher iM_fresherSize iM_scale iM_night rM_heardRow rM_cutRow iM_breaths iM_cutMany iM_allBreaths rM_trial rM_words iM_fewestBreaths iM_orderMany iM_orderSum iM_leastOrder rM_often iM_setMany iM_someOf iM_allOf iM_allWeight iM_enoughWeight iM_worthSum iM_firstRest iM_leastDrawn), (arI rM_tape kM_tape 900 fM_tape)] sz) := by
  refine Met.ofW (cc := cX7_see) (maxL := 2) (ret := (some .int)) (by decide) rfl ?_
  intro p e s m args below meth c s₁ B hml hv
  obtain ⟨rfl, hsz, hP, hK, hD0, hE⟩ := hv
  have hx := B.exec
  have hb := B.bytes
  have hr := B.returns
  have hts : ∀ w ∈ wG, w.before ([.ref oM, .int p0] : List Value).toArray s = true := fun w h => atoms_spec (ws := Cond.code yX7_see cX7_see 2 (some .int) :: wG) B.pre w (List.mem_cons_of_mem _ h)
  have hown : s.vm.findClass RX7 = some m.cls := findClass_of_methodNamed B.named
  have hlocks := B.notSynchronized
  subst hsz
  have hD := hD0.self (sz := s.heap.size)
  generalize hAe : va_A [(oc7 oM iM_thrown rM_tape iM_taped iM_size iM_at iM_end iM_token iM_whole iM_nameSize iM_fault iM_place iM_trouble rM_letters iM_failed iM_hasCourt rM_r rM_fresh rM_told rM_read rM_st rM_undone rM_kept iM_undos iM_images rM_fresher iM_fresherSize iM_scale iM_night rM_heardRow rM_cutRow iM_breaths iM_cutMany iM_allBreaths rM_trial rM_words iM_fewestBreaths iM_orderMany iM_orderSum iM_leastOrder rM_often iM_setMany iM_someOf iM_allOf iM_allWeight iM_enoughWeight iM_worthSum iM_firstRest iM_leastDrawn), (arI rM_tape kM_tape 900 fM_tape)] s.heap.size = A at hD hE ⊢
  have hA : ∀ q : Nat, s.heap.size ≤ q → A q := fun q h => by rw [← hAe]; exact Or.inr h
  have hS : va_S A s.heap s.heap [] := va_S.rf
  have hl := lv_entry ([.ref oM, .int p0]) (n := 2) (Nat.le_of_ble_eq_true rfl)
  rw [lg_entry_eq]
  generalize (lg_sl ([.ref oM, .int p0]) ++ List.replicate (2 - (lg_sl ([.ref oM, .int p0])).length) Slot.unset).toArray = ls at hl ⊢
  have hl : lv_has ls 2 [(0, .ref oM), (1, .int p0)] := hl
  have hG := PX7_see_p_eq fM_tape iM_size p0
  refine lv_iload_n hx hb dX7_see_0 rfl (lv_at hl 1 rfl) ?_
  refine lv_aload_n hx hb dX7_see_1 rfl (lv_at hl 0 rfl) ?_
  refine va_get (D := (dC, dI)) (ci := 7) (v := .int iM_size) (C := RX7) (T := TX7) (N := 48) hx hb hts inX7 hown hK hP 0 rfl rfl 3 (by decide) (hts _ wd_381) (fun _ h9 => h9) rfl dX7_see_2 ?_
  refine lv_icmp_ge (tgt := 17) hx hb dX7_see_5 (by decide) (fun c_4740 => ?_) (fun c_4740 => ?_)
  · skip
    have hG := hG.trans (if_pos c_4740)
    have gc_4740 := ti_le c_4740 rfl rfl
    refine lv_iconst (v := (-1)) hx hb dX7_see_17 (by decide) ?_
    exact W.iret hx hb hr (fun t ht hW => ⟨⟨_, 0, rfl, ⟨⟨trivial, (by have q := kc_m1; first | omega | assumption)⟩, hG⟩, Bw.to (hP.sub [0, 1] rfl) (hD.sub [0, 1] (by decide) rfl) (hK.sub [0] rfl) ht hW⟩, hS.F ht⟩) hS.2.2 dX7_see_18
  · skip
    have hG := hG.trans (if_neg c_4740)
    have gc_4740 := ti_nle c_4740 rfl rfl
    refine lv_aload_n hx hb dX7_see_8 rfl (lv_at hl 0 rfl) ?_
    refine va_get (D := (dC, dI)) (ci := 7) (v := .ref rM_tape) (C := RX7) (T := TX7) (N := 48) hx hb hts inX7 hown hK hP 0 rfl rfl 1 (by decide) (hts _ wd_152) (fun _ h9 => h9) rfl dX7_see_9 ?_
    refine lv_iload_n hx hb dX7_see_12 rfl (lv_at hl 1 rfl) ?_
    refine va_iald hx hb hK hP 1 0 rfl rfl (ti_in rfl (by omega) (by omega)) dX7_see_13 ?_
    refine lv_topi (fun x_4741 ex_4741 => ?_)
    have hG := hG.trans (lt_eq ex_4741)
    have kx_4741 : (fM_tape p0.toNatClampNeg).toInt = x_4741.toInt := by rw [ex_4741]
    have cx_4741 := kx_4741
    refine lv_goto (tgt := 18) hx hb dX7_see_14 (by decide) ?_
    exact W.iret hx hb hr (fun t ht hW => ⟨⟨_, 0, rfl, ⟨⟨trivial, (by first | omega | assumption)⟩, hG⟩, Bw.to (hP.sub [0, 1] rfl) (hD.sub [0, 1] (by decide) rfl) (hK.sub [0] rfl) ht hW⟩, hS.F ht⟩) hS.2.2 dX7_see_18
set_option maxHeartbeats 4000000 in
set_option maxRecDepth 100000 in
theorem tX7_next (l : Launch) (dC : Nat → ClassId) (dI : Nat → Nat → Nat) (sz : Nat) (oM : Nat) (iM_thrown : Int32) (rM_tape : Nat) (fM_tape : Nat → Int32) (kM_tape : ClassId) (iM_taped : Int32) (iM_size : Int32) (iM_at : Int32) (iM_end : Int32) (iM_token : Int32) (iM_whole : Int32) (iM_nameSize : Int32) (iM_fault : Int32) (iM_place : Int32) (iM_trouble : Int32) (rM_letters : Nat) (fM_letters : Nat → Int32) (kM_letters : ClassId) (iM_failed : Int32) (iM_hasCourt : Int32) (rM_r : Nat) (rM_fresh : Nat) (rM_told : Nat) (rM_read : Nat) (rM_st : Nat) (rM_undone : Nat) (rM_kept : Nat) (iM_undos : Int32) (iM_images : Int32) (rM_fresher : Nat) (iM_fresherSize : Int32) (iM_scale : Int32) (iM_night : Int32) (rM_heardRow : Nat) (rM_cutRow : Nat) (iM_breaths : Int32) (iM_cutMany : Int32) (iM_allBreaths : Int32) (rM_trial : Nat) (rM_words : Nat) (iM_fewestBreaths : Int32) (iM_orderMany : Int32) (iM_orderSum : Int32) (iM_leastOrder : Int32) (rM_often : Nat) (iM_setMany : Int32) (iM_someOf : Int32) (iM_allOf : Int32) (iM_allWeight : Int64) (iM_enoughWeight : Int64) (iM_worthSum : Int64) (iM_firstRest : Int32) (iM_leastDrawn : Int32) (b_iM_taped : 0 ≤ iM_taped.toInt ∧ iM_taped.toInt ≤ 900) (b_iM_size : 0 ≤ iM_size.toInt ∧ iM_size.toInt ≤ 900) (b_iM_end : 0 ≤ iM_end.toInt ∧ iM_end.toInt ≤ 900) (b_iM_nameSize : 0 ≤ iM_nameSize.toInt ∧ iM_nameSize.toInt ≤ 900) (b_iM_failed : 0 ≤ iM_failed.toInt ∧ iM_failed.toInt ≤ 1) (b_iM_hasCourt : 0 ≤ iM_hasCourt.toInt ∧ iM_hasCourt.toInt ≤ 1) (b_iM_undos : 0 ≤ iM_undos.toInt ∧ iM_undos.toInt ≤ 16) (b_iM_images : 0 ≤ iM_images.toInt ∧ iM_images.toInt ≤ 3) (b_iM_scale : 1 ≤ iM_scale.toInt ∧ iM_scale.toInt ≤ 1296) (b_iM_breaths : 0 ≤ iM_breaths.toInt ∧ iM_breaths.toInt ≤ 399) (b_iM_cutMany : 0 ≤ iM_cutMany.toInt ∧ iM_cutMany.toInt ≤ 399) (r_T : ImpP (iM_token.toInt = 2) (iM_nameSize.toInt ≤ 8))  : Met l yX7_next (Cond.code yX7_next cX7_next 4 none :: wG) ({ frames := 1, cells := 0, slots := 0, locals := 21 }) (va_Pc [.ref oM] (Pw dC dI sz [(oc7 oM iM_thrown rM_tape iM_taped iM_size iM_at iM_end iM_token iM_whole iM_nameSize iM_fault iM_place iM_trouble rM_letters iM_failed iM_hasCourt rM_r rM_fresh rM_told rM_read rM_st rM_undone rM_kept iM_undos iM_images rM_fresher iM_fresherSize iM_scale iM_night rM_heardRow rM_cutRow iM_breaths iM_cutMany iM_allBreaths rM_trial rM_words iM_fewestBreaths iM_orderMany iM_orderSum iM_leastOrder rM_often iM_setMany iM_someOf iM_allOf iM_allWeight iM_enoughWeight iM_worthSum iM_firstRest iM_leastDrawn), (arI rM_tape kM_tape 900 fM_tape), (arI rM_letters kM_letters 8 fM_letters)] [(kM_tape, .int), (kM_letters, .int)])) (va_Qv (fun (_ : Nat) => True) (fun (_ : Nat) (t : State) => ∃ (niM_at : Int32) (niM_end : Int32) (niM_token : Int32) (niM_whole : Int32) (niM_nameSize : Int32) (nfM_letters : Nat → Int32), (0 ≤ niM_end.toInt ∧ niM_end.toInt ≤ 900) ∧ (0 ≤ niM_nameSize.toInt ∧ niM_nameSize.toInt ≤ 900) ∧ (iM_end.toInt ≤ niM_end.toInt) ∧ (ImpP (niM_token.toInt = 2) (niM_nameSize.toInt ≤ 8)) ∧ (ImpP (niM_token.toInt = 59 ) (iM_end.toInt + 1 ≤ niM_end.toInt)) ∧ (PX7_next fM_tape iM_size iM_end fM_letters = (niM_at, niM_end, niM_token, niM_whole, niM_nameSize, nfM_letters)) ∧ Bw dC dI (va_A [(oc7 oM iM_thrown rM_tape iM_taped iM_size iM_at iM_end iM_token iM_whole iM_nameSize iM_fault iM_place iM_trouble rM_letters iM_failed iM_hasCourt rM_r rM_fresh rM_told rM_read rM_st rM_undone rM_kept iM_undos iM_images rM_fresher iM_fresherSize iM_scale iM_night rM_heardRow rM_cutRow iM_breaths iM_cutMany iM_allBreaths rM_trial rM_words iM_fewestBreaths iM_orderMany iM_orderSum iM_leastOrder rM_often iM_setMany iM_someOf iM_allOf iM_allWeight iM_enoughWeight iM_worthSum iM_firstRest iM_leastDrawn), (arI rM_tape kM_tape 900 fM_tape), (arI rM_letters kM_letters 8 fM_letters)] sz) [(oc7 oM iM_thrown rM_tape iM_taped iM_size niM_at niM_end niM_token niM_whole niM_nameSize iM_fault iM_place iM_trouble rM_letters iM_failed iM_hasCourt rM_r rM_fresh rM_told rM_read rM_st rM_undone rM_kept iM_undos iM_images rM_fresher iM_fresherSize iM_scale iM_night rM_heardRow rM_cutRow iM_breaths iM_cutMany iM_allBreaths rM_trial rM_words iM_fewestBreaths iM_orderMany iM_orderSum iM_leastOrder rM_often iM_setMany iM_someOf iM_allOf iM_allWeight iM_enoughWeight iM_worthSum iM_firstRest iM_leastDrawn), (arI rM_tape kM_tape 900 fM_tape), (arI rM_letters kM_letters 8 nfM_letters)] [(kM_tape, .int), (kM_letters, .int)] t) (va_A [(oc7 oM iM_thrown rM_tape iM_taped iM_size iM_at iM_end iM_token iM_whole iM_nameSize iM_fault iM_place iM_trouble rM_letters iM_failed iM_hasCourt rM_r rM_fresh rM_told rM_read rM_st rM_undone rM_kept iM_undos iM_images rM_fresher iM_fresherSize iM_scale iM_night rM_heardRow rM_cutRow iM_breaths iM_cutMany iM_allBreaths rM_trial rM_words iM_fewestBreaths iM_orderMany iM_orderSum iM_leastOrder rM_often iM_setMany iM_someOf iM_allOf iM_allWeight iM_enoughWeight iM_worthSum iM_firstRest iM_leastDrawn), (arI rM_tape kM_tape 900 fM_tape), (arI rM_letters kM_letters 8 fM_letters)] sz)) 0 0 (va_A [(oc7 oM iM_thrown rM_tape iM_taped iM_size iM_at iM_end iM_token iM_whole iM_nameSize iM_fault iM_place iM_trouble rM_letters iM_failed iM_hasCourt rM_r rM_fresh rM_told rM_read rM_st rM_undone rM_kept iM_undos iM_images rM_fresher iM_fresherSize iM_scale iM_night rM_heardRow rM_cutRow iM_breaths iM_cutMany iM_allBreaths rM_trial rM_words iM_fewestBreaths iM_orderMany iM_orderSum iM_leastOrder rM_often iM_setMany iM_someOf iM_allOf iM_allWeight iM_enoughWeight iM_worthSum iM_firstRest iM_leastDrawn), (arI rM_tape kM_tape 900 fM_tape), (arI rM_letters kM_letters 8 fM_letters)] sz) := by
  refine Met.ofW (cc := cX7_next) (maxL := 4) (ret := none) (by decide) rfl ?_
  intro p e s m args below meth c s₁ B hml hv
  obtain ⟨rfl, hsz, hP, hK, hD0, hE⟩ := hv
  have hx := B.exec
  have hb := B.bytes
  have hr := B.returns
  have hts : ∀ w ∈ wG, w.before ([.ref oM] : List Value).toArray s = true := fun w h => atoms_spec (ws := Cond.code yX7_next cX7_next 4 none :: wG) B.pre w (List.mem_cons_of_mem _ h)
  have hown : s.vm.findClass RX7 = some m.cls := findClass_of_methodNamed B.named
  have hlocks := B.notSynchronized
  subst hsz
  have hD := hD0.self (sz := s.heap.size)
  generalize hAe : va_A [(oc7 oM iM_thrown rM_tape iM_taped iM_size iM_at iM_end iM_token iM_whole iM_nameSize iM_fault iM_place iM_trouble rM_letters iM_failed iM_hasCourt rM_r rM_fresh rM_told rM_read rM_st rM_undone rM_kept iM_undos iM_images rM_fresher iM_fresherSize iM_scale iM_night rM_heardRow rM_cutRow iM_breaths iM_cutMany iM_allBreaths rM_trial rM_words iM_fewestBreaths iM_orderMany iM_orderSum iM_leastOrder rM_often iM_setMany iM_someOf iM_allOf iM_allWeight iM_enoughWeight iM_worthSum iM_firstRest iM_leastDrawn), (arI rM_tape kM_tape 900 fM_tape), (arI rM_letters kM_letters 8 fM_letters)] s.heap.size = A at hD hE ⊢
  have hA : ∀ q : Nat, s.heap.size ≤ q → A q := fun q h => by rw [← hAe]; exact Or.inr h
  have hS : va_S A s.heap s.heap [] := va_S.rf
  have hl := lv_entry ([.ref oM]) (n := 4) (Nat.le_of_ble_eq_true rfl)
  rw [lg_entry_eq]
  generalize (lg_sl ([.ref oM]) ++ List.replicate (4 - (lg_sl ([.ref oM])).length) Slot.unset).toArray = ls at hl ⊢
  have hl : lv_has ls 4 [(0, .ref oM)] := hl
  have hG := PX7_next_eq fM_tape iM_size iM_end fM_letters
  refine lv_aload_n hx hb dX7_next_0 rfl (lv_at hl 0 rfl) ?_
  refine va_get (D := (dC, dI)) (ci := 7) (v := .int iM_end) (C := RX7) (T := TX7) (N := 48) hx hb hts inX7 hown hK hP 0 rfl rfl 5 (by decide) (hts _ wd_382) (fun _ h9 => h9) rfl dX7_next_1 ?_
  refine lv_istore_n (lv' := [(1, .int iM_end), (0, .ref oM)]) hx hb dX7_next_4 rfl hl (by decide) rfl (fun ls hl => ?_)
  have hl := lv_sub hl (l' := [(1, .int iM_end), (0, .ref oM)]) [0, 1] rfl
  have key_n_4797 : ∀ (n_4797 : Nat) (z_4796 : Int32) (H : Heap) (locs : List Loc) (ls : Array Slot), (iM_end.toInt ≤ z_4796.toInt ∧ z_4796.toInt ≤ 900) → (900 - z_4796.toInt).toNat < n_4797 → (PX7_next fM_tape iM_size iM_end fM_letters = HX7_next_0 fM_tape iM_size fM_letters n_4797 z_4796) → va_P (dC, dI) vwCl [(oc7 oM iM_thrown rM_tape iM_taped iM_size iM_at iM_end iM_token iM_whole iM_nameSize iM_fault iM_place iM_trouble rM_letters iM_failed iM_hasCourt rM_r rM_fresh rM_told rM_read rM_st rM_undone rM_kept iM_undos iM_images rM_fresher iM_fresherSize iM_scale iM_night rM_heardRow rM_cutRow iM_breaths iM_cutMany iM_allBreaths rM_trial rM_words iM_fewestBreaths iM_orderMany iM_orderSum iM_leastOrder rM_often iM_setMany iM_someOf iM_allOf iM_allWeight iM_enoughWeight iM_worthSum iM_firstRest iM_leastDrawn), (arI rM_tape kM_tape 900 fM_tape), (arI rM_letters kM_letters 8 fM_letters)] H → va_D A [(oc7 oM iM_thrown rM_tape iM_taped iM_size iM_at iM_end iM_token iM_whole iM_nameSize iM_fault iM_place iM_trouble rM_letters iM_failed iM_hasCourt rM_r rM_fresh rM_told rM_read rM_st rM_undone rM_kept iM_undos iM_images rM_fresher iM_fresherSize iM_scale iM_night rM_heardRow rM_cutRow iM_breaths iM_cutMany iM_allBreaths rM_trial rM_words iM_fewestBreaths iM_orderMany iM_orderSum iM_leastOrder rM_often iM_setMany iM_someOf iM_allOf iM_allWeight iM_enoughWeight iM_worthSum iM_firstRest iM_leastDrawn), (arI rM_tape kM_tape 900 fM_tape), (arI rM_letters kM_letters 8 fM_letters)] → va_S A s.heap H locs → lv_has ls 4 [(1, .int z_4796), (0, .ref oM)] → W p l e (headSpec (Cond.code yX7_next cX7_next 4 none :: wG) ({ frames := 1, cells := 0, slots := 0, locals := 21 })).room s m ([.ref oM] : List Value).toArray below meth c H locs 0 0 (MQ below (va_Qv (fun (_ : Nat) => True) (fun (_ : Nat) (t : State) => ∃ (niM_at : Int32) (niM_end : Int32) (niM_token : Int32) (niM_whole : Int32) (niM_nameSize : Int32) (nfM_letters : Nat → Int32), (0 ≤ niM_end.toInt ∧ niM_end.toInt ≤ 900) ∧ (0 ≤ niM_nameSize.toInt ∧ niM_nameSize.toInt ≤ 900) ∧ (iM_end.toInt ≤ niM_end.toInt) ∧ (ImpP (niM_token.toInt = 2) (niM_nameSize.toInt ≤ 8)) ∧ (ImpP (niM_token.toInt = 59 ) (iM_end.toInt + 1 ≤ niM_end.toInt)) ∧ (PX7_next fM_tape iM_size iM_end fM_letters = (niM_at, niM_end, niM_token, niM_whole, niM_nameSize, nfM_letters)) ∧ Bw dC dI A [(oc7 oM iM_thrown rM_tape iM_taped iM_size niM_at niM_end niM_token niM_whole niM_nameSize iM_fault iM_place iM_trouble rM_letters iM_failed iM_hasCourt rM_r rM_fresh rM_told rM_read rM_st rM_undone rM_kept iM_undos iM_images rM_fresher iM_fresherSize iM_scale iM_night rM_heardRow rM_cutRow iM_breaths iM_cutMany iM_allBreaths rM_trial rM_words iM_fewestBreaths iM_orderMany iM_orderSum iM_leastOrder rM_often iM_setMany iM_someOf iM_allOf iM_allWeight iM_enoughWeight iM_worthSum iM_firstRest iM_leastDrawn), (arI rM_tape kM_tape 900 fM_tape), (arI rM_letters kM_letters 8 nfM_letters)] [(kM_tape, .int), (kM_letters, .int)] t) A) ([.ref oM] : List Value).toArray s 0 0 A) (F0 m 5 ls []) := by
    intro n_4797
    induction n_4797 with
    | zero => intro z_4796 H locs ls hi0_n_4797 hm; exact absurd hm (by omega)
    | succ n_4797 ih_n_4797 =>
      intro z_4796 H locs ls hi0_n_4797 hm hG hP hD hS hl
      have hG := hG.trans (HX7_next_0_eq _ _ _ _ _)
      refine lv_aload_n hx hb dX7_next_5 rfl (lv_at hl 1 rfl) ?_
      refine lv_iload_n hx hb dX7_next_6 rfl (lv_at hl 0 rfl) ?_
      have hFc := va_free (wc := [(oc7 oM iM_thrown rM_tape iM_taped iM_size iM_at iM_end iM_token iM_whole iM_nameSize iM_fault iM_place iM_trouble rM_letters iM_failed iM_hasCourt rM_r rM_fresh rM_told rM_read rM_st rM_undone rM_kept iM_undos iM_images rM_fresher iM_fresherSize iM_scale iM_night rM_heardRow rM_cutRow iM_breaths iM_cutMany iM_allBreaths rM_trial rM_words iM_fewestBreaths iM_orderMany iM_orderSum iM_leastOrder rM_often iM_setMany iM_someOf iM_allOf iM_allWeight iM_enoughWeight iM_worthSum iM_firstRest iM_leastDrawn), (arI rM_tape kM_tape 900 fM_tape)]) hD hS hA [0, 1] rfl
      refine va_calli (va_runV (As := [.int z_4796]) (rest := []) ⟨hx, hb, hml, hown, hts⟩ (tX7_see_p l dC dI _ oM iM_thrown rM_tape fM_tape kM_tape iM_taped iM_size iM_at iM_end iM_token iM_whole iM_nameSize iM_fault iM_place iM_trouble rM_letters iM_failed iM_hasCourt rM_r rM_fresh rM_told rM_read rM_st rM_undone rM_kept iM_undos iM_images rM_fresher iM_fresherSize iM_scale iM_night rM_heardRow rM_cutRow iM_breaths iM_cutMany iM_allBreaths rM_trial rM_words iM_fewestBreaths iM_orderMany iM_orderSum iM_leastOrder rM_often iM_setMany iM_someOf iM_allOf iM_allWeight iM_enoughWeight iM_worthSum iM_firstRest iM_leastDrawn z_4796 (by first | omega | decide) (by first | omega | decide) (by first | omega | decide) (by first | omega | decide) (by first | omega | decide) (by first | omega | decide) (by first | omega | decide) (by first | omega | decide) (by first | omega | decide) (by first | omega | decide) (by first | omega | decide) (by first | omega | decide | assumption | (have q0 := kc_0; have q1 := kc_1; omega) | (intro h; exact absurd h (by decide)))) (cwV 1 hts (wd_V wd_406 wd_407 wd_408 wd_5 (wd_c wd_409)) rfl rfl rfl (by decide +kernel) ⟨Nat.le_of_ble_eq_true rfl, Nat.le_of_ble_eq_true rfl⟩) ⟨Pw.fb, va_recv hK hP (ci := 7) (q0 := 0) rfl rfl, fun U hU hW => Pw.to (hP.sub [0, 1] rfl) (hD.sub [0, 1] (by decide) rfl) (hK.sub [0] rfl) hE hS hFc hU hW⟩ rfl rfl hl.1 rfl (lv_room (Nat.le_of_ble_eq_true rfl)) dX7_next_7 ⟨Nat.le_of_ble_eq_true rfl, Nat.le_of_ble_eq_true rfl⟩) hS (fun q _ h => hFc q h) hFc (fun r u t H locs ht hvm hw hB hz1 hk1 hS => ?_)
      have hru9 := hw.2
      have hw := hw.1
      obtain ⟨hP, hD, hK⟩ := Bw.go (ws' := [(arI rM_letters kM_letters 8 fM_letters), (oc7 oM iM_thrown rM_tape iM_taped iM_size iM_at iM_end iM_token iM_whole iM_nameSize iM_fault iM_place iM_trouble rM_letters iM_failed iM_hasCourt rM_r rM_fresh rM_told rM_read rM_st rM_undone rM_kept iM_undos iM_images rM_fresher iM_fresherSize iM_scale iM_night rM_heardRow rM_cutRow iM_breaths iM_cutMany iM_allBreaths rM_trial rM_words iM_fewestBreaths iM_orderMany iM_orderSum iM_leastOrder rM_often iM_setMany iM_someOf iM_allOf iM_allWeight iM_enoughWeight iM_worthSum iM_firstRest iM_leastDrawn), (arI rM_tape kM_tape 900 fM_tape)]) (tys' := [(kM_letters, .int), (kM_tape, .int)]) hB rfl ht hvm hP hD hK [0, 1] [2] rfl (by decide) (by decide) [1] hk1 hFc rfl rfl rfl
      clear hz1 hk1 hvm ht hB
      obtain ⟨x_4798, rfl⟩ : ∃ z, z = r := ⟨_, rfl⟩
      have hG := hG.trans (lt_eq hru9.symm)
      have lx_4798 := hw.2
      refine lv_bipush (v := 32) hx hb dX7_next_10 (by decide) ?_
      refine lv_icmp_ne (tgt := 21) hx hb dX7_next_12 (by decide) (fun c_4799 => ?_) (fun c_4799 => ?_)
      · skip
        have hG := hG.trans (if_neg c_4799)
        have gc_4799 := ti_ne c_4799 rfl kc_32
        refine lv_aload_n hx hb dX7_next_21 rfl (lv_at hl 1 rfl) ?_
        refine lv_iload_n hx hb dX7_next_22 rfl (lv_at hl 0 rfl) ?_
        refine va_put (D := (dC, dI)) (ci := 7) (v := .int z_4796) (ty := .int) (C := RX7) (T := TX7) (N := 48) hx hb hts inX7 tyX7 tyX7_ok nmX7 hown hK hP hD hS 1 rfl rfl 4 (by decide) (hts _ wd_384) (fun _ h9 => h9) rfl (by decide +kernel) rfl rfl (Nat.le_of_ble_eq_true rfl) dX7_next_23 (fun H locs hP hD hS => ?_)
        obtain ⟨hP, hD⟩ := wl2 (ws' := [(arI rM_letters kM_letters 8 fM_letters), (oc7 oM iM_thrown rM_tape iM_taped iM_size z_4796 iM_end iM_token iM_whole iM_nameSize iM_fault iM_place iM_trouble rM_letters iM_failed iM_hasCourt rM_r rM_fresh rM_told rM_read rM_st rM_undone rM_kept iM_undos iM_images rM_fresher iM_fresherSize iM_scale iM_night rM_heardRow rM_cutRow iM_breaths iM_cutMany iM_allBreaths rM_trial rM_words iM_fewestBreaths iM_orderMany iM_orderSum iM_leastOrder rM_often iM_setMany iM_someOf iM_allOf iM_allWeight iM_enoughWeight iM_worthSum iM_firstRest iM_leastDrawn), (arI rM_tape kM_tape 900 fM_tape)]) hP hD rfl
        refine lv_aload_n hx hb dX7_next_26 rfl (lv_at hl 1 rfl) ?_
        refine lv_iload_n hx hb dX7_next_27 rfl (lv_at hl 0 rfl) ?_
        have hFc := va_free (wc := [(oc7 oM iM_thrown rM_tape iM_taped iM_size z_4796 iM_end iM_token iM_whole iM_nameSize iM_fault iM_place iM_trouble rM_letters iM_failed iM_hasCourt rM_r rM_fresh rM_told rM_read rM_st rM_undone rM_kept iM_undos iM_images rM_fresher iM_fresherSize iM_scale iM_night rM_heardRow rM_cutRow iM_breaths iM_cutMany iM_allBreaths rM_trial rM_words iM_fewestBreaths iM_orderMany iM_orderSum iM_leastOrder rM_often iM_setMany iM_someOf iM_allOf iM_allWeight iM_enoughWeight iM_worthSum iM_firstRest iM_leastDrawn), (arI rM_tape kM_tape 900 fM_tape)]) hD hS hA [1, 2] rfl
        refine va_calli (va_runV (As := [.int z_4796]) (rest := []) ⟨hx, hb, hml, hown, hts⟩ (tX7_see_p l dC dI _ oM iM_thrown rM_tape fM_tape kM_tape iM_taped iM_size z_4796 iM_end iM_token iM_whole iM_nameSize iM_fault iM_place iM_trouble rM_letters iM_failed iM_hasCourt rM_r rM_fresh rM_told rM_read rM_st rM_undone rM_kept iM_undos iM_images rM_fresher iM_fresherSize iM_scale iM_night rM_heardRow rM_cutRow iM_breaths iM_cutMany iM_allBreaths rM_trial rM_words iM_fewestBreaths iM_orderMany iM_orderSum iM_leastOrder rM_often iM_setMany iM_someOf iM_allOf iM_allWeight iM_enoughWeight iM_worthSum iM_firstRest iM_leastDrawn z_4796 (by first | omega | decide) (by first | omega | decide) (by first | omega | decide) (by first | omega | decide) (by first | omega | decide) (by first | omega | decide) (by first | omega | decide) (by first | omega | decide) (by first | omega | decide) (by first | omega | decide) (by first | omega | decide) (by first | omega | decide | assumption | (have q0 := kc_0; have q1 := kc_1; omega) | (intro h; exact absurd h (by decide)))) (cwV 1 hts (wd_V wd_406 wd_407 wd_408 wd_5 (wd_c wd_409)) rfl rfl rfl (by decide +kernel) ⟨Nat.le_of_ble_eq_true rfl, Nat.le_of_ble_eq_true rfl⟩) ⟨Pw.fb, va_recv hK hP (ci := 7) (q0 := 1) rfl rfl, fun U hU hW => Pw.to (hP.sub [1, 2] rfl) (hD.sub [1, 2] (by decide) rfl) (hK.sub [1] rfl) hE hS hFc hU hW⟩ rfl rfl hl.1 rfl (lv_room (Nat.le_of_ble_eq_true rfl)) dX7_next_28 ⟨Nat.le_of_ble_eq_true rfl, Nat.le_of_ble_eq_true rfl⟩) hS (fun q _ h => hFc q h) hFc (fun r u t H locs ht hvm hw hB hz1 hk1 hS => ?_)
        have hru9 := hw.2
        have hw := hw.1
        obtain ⟨hP, hD, hK⟩ := Bw.go (ws' := [(arI rM_letters kM_letters 8 fM_letters), (oc7 oM iM_thrown rM_tape iM_taped iM_size z_4796 iM_end iM_token iM_whole iM_nameSize iM_fault iM_place iM_trouble rM_letters iM_failed iM_hasCourt rM_r rM_fresh rM_told rM_read rM_st rM_undone rM_kept iM_undos iM_images rM_fresher iM_fresherSize iM_scale iM_night rM_heardRow rM_cutRow iM_breaths iM_cutMany iM_allBreaths rM_trial rM_words iM_fewestBreaths iM_orderMany iM_orderSum iM_leastOrder rM_often iM_setMany iM_someOf iM_allOf iM_allWeight iM_enoughWeight iM_worthSum iM_firstRest iM_leastDrawn), (arI rM_tape kM_tape 900 fM_tape)]) (tys' := [(kM_letters, .int), (kM_tape, .int)]) hB rfl ht hvm hP hD hK [1, 2] [0] rfl (by decide) (by decide) [0] hk1 hFc rfl rfl rfl
        clear hz1 hk1 hvm ht hB
        obtain ⟨x_4800, rfl⟩ : ∃ z, z = r := ⟨_, rfl⟩
        have hG := hG.trans (lt_eq hru9.symm)
        have lx_4800 := hw.2
        refine lv_istore_n (lv' := [(2, .int x_4800), (1, .int z_4796), (0, .ref oM)]) hx hb dX7_next_31 rfl hl (by decide) rfl (fun ls hl => ?_)
        refine lv_aload_n hx hb dX7_next_32 rfl (lv_at hl 2 rfl) ?_
        refine lv_iconst (v := 0) hx hb dX7_next_33 (by decide) ?_
        refine va_put (D := (dC, dI)) (ci := 7) (v := .int 0) (ty := .int) (C := RX7) (T := TX7) (N := 48) hx hb hts inX7 tyX7 tyX7_ok nmX7 hown hK hP hD hS 1 rfl rfl 8 (by decide) (hts _ wd_404) (fun _ h9 => h9) rfl (by decide +kernel) rfl rfl (Nat.le_of_ble_eq_true rfl) dX7_next_34 (fun H locs hP hD hS => ?_)
        obtain ⟨hP, hD⟩ := wl2 (ws' := [(arI rM_letters kM_letters 8 fM_letters), (oc7 oM iM_thrown rM_tape iM_taped iM_size z_4796 iM_end iM_token iM_whole 0 iM_fault iM_place iM_trouble rM_letters iM_failed iM_hasCourt rM_r rM_fresh rM_told rM_read rM_st rM_undone rM_kept iM_undos iM_images rM_fresher iM_fresherSize iM_scale iM_night rM_heardRow rM_cutRow iM_breaths iM_cutMany iM_allBreaths rM_trial rM_words iM_fewestBreaths iM_orderMany iM_orderSum iM_leastOrder rM_often iM_setMany iM_someOf iM_allOf iM_allWeight iM_enoughWeight iM_worthSum iM_firstRest iM_leastDrawn), (arI rM_tape kM_tape 900 fM_tape)]) hP hD rfl
        refine lv_aload_n hx hb dX7_next_37 rfl (lv_at hl 2 rfl) ?_
        refine lv_iconst (v := 0) hx hb dX7_next_38 (by decide) ?_
        refine va_put (D := (dC, dI)) (ci := 7) (v := .int 0) (ty := .int) (C := RX7) (T := TX7) (N := 48) hx hb hts inX7 tyX7 tyX7_ok nmX7 hown hK hP hD hS 1 rfl rfl 7 (by decide) (hts _ wd_405) (fun _ h9 => h9) rfl (by decide +kernel) rfl rfl (Nat.le_of_ble_eq_true rfl) dX7_next_39 (fun H locs hP hD hS => ?_)
        obtain ⟨hP, hD⟩ := wl2 (ws' := [(arI rM_letters kM_letters 8 fM_letters), (oc7 oM iM_thrown rM_tape iM_taped iM_size z_4796 iM_end iM_token 0 0 iM_fault iM_place iM_trouble rM_letters iM_failed iM_hasCourt rM_r rM_fresh rM_told rM_read rM_st rM_undone rM_kept iM_undos iM_images rM_fresher iM_fresherSize iM_scale iM_night rM_heardRow rM_cutRow iM_breaths iM_cutMany iM_allBreaths rM_trial rM_words iM_fewestBreaths iM_orderMany iM_orderSum iM_leastOrder rM_often iM_setMany iM_someOf iM_allOf iM_allWeight iM_enoughWeight iM_worthSum iM_firstRest iM_leastDrawn), (arI rM_tape kM_tape 900 fM_tape)]) hP hD rfl
        refine lv_iload_n hx hb dX7_next_42 rfl (lv_at hl 0 rfl) ?_
        refine lv_iconst (v := (-1)) hx hb dX7_next_43 (by decide) ?_
        refine lv_icmp_ne (tgt := 60) hx hb dX7_next_44 (by decide) (fun c_4801 => ?_) (fun c_4801 => ?_)
        · skip
          have hG := hG.trans (if_neg c_4801)
          have gc_4801 := ti_ne c_4801 rfl kc_m1
          have h_4802 := lx_4800 (by omega)
          clear lx_4800
          refine lv_iload_n hx hb dX7_next_60 rfl (lv_at hl 0 rfl) ?_
          have hFc : ∀ q, va_A [] _ q → A q := fun q h => hA q (Nat.le_trans hS.1 (va_nilA h))
          refine va_calli (va_runS (As := [.int x_4800]) (rest := []) ⟨hx, hb, hml, hown, hts⟩ (tX7_isSmall_p l dC dI _ x_4800 ) (va_cwS 1 hts (wd_S wd_410 wd_411 wd_5 (wd_c wd_412)) rfl rfl rfl (by decide +kernel) ⟨Nat.le_of_ble_eq_true rfl, Nat.le_of_ble_eq_true rfl⟩) ⟨Pw.fb, fun U hU hW => Pn.to hK hE hS hA hU hW⟩ rfl rfl hl.1 rfl (lv_room (Nat.le_of_ble_eq_true rfl)) dX7_next_61 ⟨Nat.le_of_ble_eq_true rfl, Nat.le_of_ble_eq_true rfl⟩) hS (fun q _ h => hFc q h) hFc (fun r u t H locs ht hvm hw hB hz1 hk1 hS => ?_)
          obtain ⟨hP, hD, hK⟩ := Bw.same ht hvm hP hD hK hk1 hFc
          clear hz1 hk1 hvm ht hB
          have hq9 := hw.2
          have hw := hw.1
          obtain ⟨x_4803, rfl⟩ : ∃ z, z = r := ⟨_, rfl⟩
          have hq_x_4803 := hq9
          have hG := hG.trans (lt_eq hq_x_4803.symm)
          have bx_4803 := hw.1
          have dx_4803 := bz_ti bx_4803
          have lx_4803 := hw.2
          refine lv_if_eq (tgt := 143) hx hb dX7_next_64 (by decide) (fun c_4804 => ?_) (fun c_4804 => ?_)
          · skip
            have hG := hG.trans (if_pos c_4804)
            have gc_4804 := ti_eq c_4804 rfl kc_0
            clear lx_4803
            refine lv_iload_n hx hb dX7_next_143 rfl (lv_at hl 0 rfl) ?_
            have hFc : ∀ q, va_A [] _ q → A q := fun q h => hA q (Nat.le_trans hS.1 (va_nilA h))
            refine va_calli (va_runS (As := [.int x_4800]) (rest := []) ⟨hx, hb, hml, hown, hts⟩ (tX7_isDigit_p l dC dI _ x_4800 ) (va_cwS 1 hts (wd_S wd_413 wd_414 wd_5 (wd_c wd_415)) rfl rfl rfl (by decide +kernel) ⟨Nat.le_of_ble_eq_true rfl, Nat.le_of_ble_eq_true rfl⟩) ⟨Pw.fb, fun U hU hW => Pn.to hK hE hS hA hU hW⟩ rfl rfl hl.1 rfl (lv_room (Nat.le_of_ble_eq_true rfl)) dX7_next_144 ⟨Nat.le_of_ble_eq_true rfl, Nat.le_of_ble_eq_true rfl⟩) hS (fun q _ h => hFc q h) hFc (fun r u t H locs ht hvm hw hB hz1 hk1 hS => ?_)
            obtain ⟨hP, hD, hK⟩ := Bw.same ht hvm hP hD hK hk1 hFc
            clear hz1 hk1 hvm ht hB
            have hq9 := hw.2
            have hw := hw.1
            obtain ⟨x_4805, rfl⟩ : ∃ z, z = r := ⟨_, rfl⟩
            have hq_x_4805 := hq9
            have hG := hG.trans (lt_eq hq_x_4805.symm)
            have bx_4805 := hw.1
            have dx_4805 := bz_ti bx_4805
            have lx_4805 := hw.2
            refine lv_if_eq (tgt := 219) hx hb dX7_next_147 (by decide) (fun c_4806 => ?_) (fun c_4806 => ?_)
            · skip
              have hG := hG.trans (if_pos c_4806)
              have gc_4806 := ti_eq c_4806 rfl kc_0
              clear lx_4805
              refine lv_aload_n hx hb dX7_next_219 rfl (lv_at hl 2 rfl) ?_
              refine lv_iload_n hx hb dX7_next_220 rfl (lv_at hl 1 rfl) ?_
              refine lv_iconst (v := 1) hx hb dX7_next_221 (by decide) ?_
              refine lv_iadd hx hb dX7_next_222 ?_
              refine lv_topi (fun x_4807 ex_4807 => ?_)
              have hG := hG.trans (lt_eq ex_4807)
              have vx_4807 : x_4807.toInt = z_4796.toInt + 1 := by have q := ti_add ex_4807 rfl kc_1 (by omega) (by omega); omega
              refine va_put (D := (dC, dI)) (ci := 7) (v := .int x_4807) (ty := .int) (C := RX7) (T := TX7) (N := 48) hx hb hts inX7 tyX7 tyX7_ok nmX7 hown hK hP hD hS 1 rfl rfl 5 (by decide) (hts _ wd_382) (fun _ h9 => h9) rfl (by decide +kernel) rfl rfl (Nat.le_of_ble_eq_true rfl) dX7_next_223 (fun H locs hP hD hS => ?_)
              obtain ⟨hP, hD⟩ := wl2 (ws' := [(arI rM_letters kM_letters 8 fM_letters), (oc7 oM iM_thrown rM_tape iM_taped iM_size z_4796 x_4807 iM_token 0 0 iM_fault iM_place iM_trouble rM_letters iM_failed iM_hasCourt rM_r rM_fresh rM_told rM_read rM_st rM_undone rM_kept iM_undos iM_images rM_fresher iM_fresherSize iM_scale iM_night rM_heardRow rM_cutRow iM_breaths iM_cutMany iM_allBreaths rM_trial rM_words iM_fewestBreaths iM_orderMany iM_orderSum iM_leastOrder rM_often iM_setMany iM_someOf iM_allOf iM_allWeight iM_enoughWeight iM_worthSum iM_firstRest iM_leastDrawn), (arI rM_tape kM_tape 900 fM_tape)]) hP hD rfl
              refine lv_aload_n hx hb dX7_next_226 rfl (lv_at hl 2 rfl) ?_
              refine lv_iload_n hx hb dX7_next_227 rfl (lv_at hl 0 rfl) ?_
              refine lv_bipush (v := 59) hx hb dX7_next_228 (by decide) ?_
              refine lv_icmp_eq (tgt := 239) hx hb dX7_next_230 (by decide) (fun c_4808 => ?_) (fun c_4808 => ?_)
              · skip
                have hG := hG.trans (if_pos c_4808)
                have gc_4808 := ti_eq c_4808 rfl kc_59
                refine lv_iload_n hx hb dX7_next_239 rfl (lv_at hl 0 rfl) ?_
                refine lv_goto (tgt := 244) hx hb dX7_next_240 (by decide) ?_
                refine va_put (D := (dC, dI)) (ci := 7) (v := .int x_4800) (ty := .int) (C := RX7) (T := TX7) (N := 48) hx hb hts inX7 tyX7 tyX7_ok nmX7 hown hK hP hD hS 1 rfl rfl 6 (by decide) (hts _ wd_383) (fun _ h9 => h9) rfl (by decide +kernel) rfl rfl (Nat.le_of_ble_eq_true rfl) dX7_next_244 (fun H locs hP hD hS => ?_)
                obtain ⟨hP, hD⟩ := wl2 (ws' := [(arI rM_letters kM_letters 8 fM_letters), (oc7 oM iM_thrown rM_tape iM_taped iM_size z_4796 x_4807 x_4800 0 0 iM_fault iM_place iM_trouble rM_letters iM_failed iM_hasCourt rM_r rM_fresh rM_told rM_read rM_st rM_undone rM_kept iM_undos iM_images rM_fresher iM_fresherSize iM_scale iM_night rM_heardRow rM_cutRow iM_breaths iM_cutMany iM_allBreaths rM_trial rM_words iM_fewestBreaths iM_orderMany iM_orderSum iM_leastOrder rM_often iM_setMany iM_someOf iM_allOf iM_allWeight iM_enoughWeight iM_worthSum iM_firstRest iM_leastDrawn), (arI rM_tape kM_tape 900 fM_tape)]) hP hD rfl
                exact W.vret hx hb hr (fun t ht hW => ⟨⟨0, rfl, trivial, ⟨z_4796, x_4807, x_4800, 0, 0, fM_letters, (by have q := vx_4807; omega), (by decide), (by have q0 := kc_0; have q1 := kc_1; have q2 := kc_2; have q3 := kc_3; omega), (fun h9 => by have q0 := kc_0; have q1 := kc_1; have q2 := kc_2; have q3 := kc_3; omega), (fun h9 => by have q0 := kc_0; have q1 := kc_1; have q2 := kc_2; have q3 := kc_3; omega), hG, Bw.to (hP.sub [1, 2, 0] rfl) (hD.sub [1, 2, 0] (by decide) rfl) (hK.sub [1, 0] rfl) ht hW⟩⟩, hS.F ht⟩) hS.2.2 dX7_next_247
              · skip
                have hG := hG.trans (if_neg c_4808)
                have gc_4808 := ti_ne c_4808 rfl kc_59
                refine lv_iload_n hx hb dX7_next_233 rfl (lv_at hl 0 rfl) ?_
                refine lv_bipush (v := 44) hx hb dX7_next_234 (by decide) ?_
                refine lv_icmp_ne (tgt := 243) hx hb dX7_next_236 (by decide) (fun c_4809 => ?_) (fun c_4809 => ?_)
                · skip
                  have hG := hG.trans (if_neg c_4809)
                  have gc_4809 := ti_ne c_4809 rfl kc_44
                  refine lv_iconst (v := 1) hx hb dX7_next_243 (by decide) ?_
                  refine va_put (D := (dC, dI)) (ci := 7) (v := .int 1) (ty := .int) (C := RX7) (T := TX7) (N := 48) hx hb hts inX7 tyX7 tyX7_ok nmX7 hown hK hP hD hS 1 rfl rfl 6 (by decide) (hts _ wd_383) (fun _ h9 => h9) rfl (by decide +kernel) rfl rfl (Nat.le_of_ble_eq_true rfl) dX7_next_244 (fun H locs hP hD hS => ?_)
                  obtain ⟨hP, hD⟩ := wl2 (ws' := [(arI rM_letters kM_letters 8 fM_letters), (oc7 oM iM_thrown rM_tape iM_taped iM_size z_4796 x_4807 1 0 0 iM_fault iM_place iM_trouble rM_letters iM_failed iM_hasCourt rM_r rM_fresh rM_told rM_read rM_st rM_undone rM_kept iM_undos iM_images rM_fresher iM_fresherSize iM_scale iM_night rM_heardRow rM_cutRow iM_breaths iM_cutMany iM_allBreaths rM_trial rM_words iM_fewestBreaths iM_orderMany iM_orderSum iM_leastOrder rM_often iM_setMany iM_someOf iM_allOf iM_allWeight iM_enoughWeight iM_worthSum iM_firstRest iM_leastDrawn), (arI rM_tape kM_tape 900 fM_tape)]) hP hD rfl
                  exact W.vret hx hb hr (fun t ht hW => ⟨⟨0, rfl, trivial, ⟨z_4796, x_4807, 1, 0, 0, fM_letters, (by have q := vx_4807; omega), (by decide), (by have q0 := kc_0; have q1 := kc_1; have q2 := kc_2; have q3 := kc_3; omega), (fun h9 => by have q0 := kc_0; have q1 := kc_1; have q2 := kc_2; have q3 := kc_3; omega), (fun h9 => by have q0 := kc_0; have q1 := kc_1; have q2 := kc_2; have q3 := kc_3; omega), hG, Bw.to (hP.sub [1, 2, 0] rfl) (hD.sub [1, 2, 0] (by decide) rfl) (hK.sub [1, 0] rfl) ht hW⟩⟩, hS.F ht⟩) hS.2.2 dX7_next_247
                · skip
                  have hG := hG.trans (if_pos c_4809)
                  have gc_4809 := ti_eq c_4809 rfl kc_44
                  refine lv_iload_n hx hb dX7_next_239 rfl (lv_at hl 0 rfl) ?_
                  refine lv_goto (tgt := 244) hx hb dX7_next_240 (by decide) ?_
                  refine va_put (D := (dC, dI)) (ci := 7) (v := .int x_4800) (ty := .int) (C := RX7) (T := TX7) (N := 48) hx hb hts inX7 tyX7 tyX7_ok nmX7 hown hK hP hD hS 1 rfl rfl 6 (by decide) (hts _ wd_383) (fun _ h9 => h9) rfl (by decide +kernel) rfl rfl (Nat.le_of_ble_eq_true rfl) dX7_next_244 (fun H locs hP hD hS => ?_)
                  obtain ⟨hP, hD⟩ := wl2 (ws' := [(arI rM_letters kM_letters 8 fM_letters), (oc7 oM iM_thrown rM_tape iM_taped iM_size z_4796 x_4807 x_4800 0 0 iM_fault iM_place iM_trouble rM_letters iM_failed iM_hasCourt rM_r rM_fresh rM_told rM_read rM_st rM_undone rM_kept iM_undos iM_images rM_fresher iM_fresherSize iM_scale iM_night rM_heardRow rM_cutRow iM_breaths iM_cutMany iM_allBreaths rM_trial rM_words iM_fewestBreaths iM_orderMany iM_orderSum iM_leastOrder rM_often iM_setMany iM_someOf iM_allOf iM_allWeight iM_enoughWeight iM_worthSum iM_firstRest iM_leastDrawn), (arI rM_tape kM_tape 900 fM_tape)]) hP hD rfl
                  exact W.vret hx hb hr (fun t ht hW => ⟨⟨0, rfl, trivial, ⟨z_4796, x_4807, x_4800, 0, 0, fM_letters, (by have q := vx_4807; omega), (by decide), (by have q0 := kc_0; have q1 := kc_1; have q2 := kc_2; have q3 := kc_3; omega), (fun h9 => by have q0 := kc_0; have q1 := kc_1; have q2 := kc_2; have q3 := kc_3; omega), (fun h9 => by have q0 := kc_0; have q1 := kc_1; have q2 := kc_2; have q3 := kc_3; omega), hG, Bw.to (hP.sub [1, 2, 0] rfl) (hD.sub [1, 2, 0] (by decide) rfl) (hK.sub [1, 0] rfl) ht hW⟩⟩, hS.F ht⟩) hS.2.2 dX7_next_247
            · skip
              have hG := hG.trans (if_neg c_4806)
              have gc_4806 := ti_ne c_4806 rfl kc_0
              replace gc_4806 : (-1) * x_4805.toInt + 1 ≤ 0 := by omega
              have h_4810 := lx_4805 (by omega)
              clear lx_4805
              refine lv_iconst (v := 0) hx hb dX7_next_150 (by decide) ?_
              refine lv_istore_n (lv' := [(3, .int 0), (2, .int x_4800), (1, .int z_4796), (0, .ref oM)]) hx hb dX7_next_151 rfl hl (by decide) rfl (fun ls hl => ?_)
              have hl := lv_sub hl (l' := [(3, .int 0), (2, .int x_4800), (1, .int z_4796), (0, .ref oM)]) [0, 1, 2, 3] rfl
              have key_n_4814 : ∀ (n_4814 : Nat) (z_4811 : Int32) (z_4812 : Int32) (z_4813 : Int32) (H : Heap) (locs : List Loc) (ls : Array Slot), (iM_end.toInt ≤ z_4811.toInt ∧ z_4811.toInt ≤ 900) → (0 ≤ z_4812.toInt ∧ z_4812.toInt ≤ z_4811.toInt) → (900 - z_4811.toInt).toNat < n_4814 → (PX7_next fM_tape iM_size iM_end fM_letters = HX7_next_1 fM_tape iM_size fM_letters z_4796 n_4814 z_4811 z_4812 z_4813) → va_P (dC, dI) vwCl [(arI rM_letters kM_letters 8 fM_letters), (oc7 oM iM_thrown rM_tape iM_taped iM_size z_4796 iM_end iM_token z_4813 0 iM_fault iM_place iM_trouble rM_letters iM_failed iM_hasCourt rM_r rM_fresh rM_told rM_read rM_st rM_undone rM_kept iM_undos iM_images rM_fresher iM_fresherSize iM_scale iM_night rM_heardRow rM_cutRow iM_breaths iM_cutMany iM_allBreaths rM_trial rM_words iM_fewestBreaths iM_orderMany iM_orderSum iM_leastOrder rM_often iM_setMany iM_someOf iM_allOf iM_allWeight iM_enoughWeight iM_worthSum iM_firstRest iM_leastDrawn), (arI rM_tape kM_tape 900 fM_tape)] H → va_D A [(arI rM_letters kM_letters 8 fM_letters), (oc7 oM iM_thrown rM_tape iM_taped iM_size z_4796 iM_end iM_token z_4813 0 iM_fault iM_place iM_trouble rM_letters iM_failed iM_hasCourt rM_r rM_fresh rM_told rM_read rM_st rM_undone rM_kept iM_undos iM_images rM_fresher iM_fresherSize iM_scale iM_night rM_heardRow rM_cutRow iM_breaths iM_cutMany iM_allBreaths rM_trial rM_words iM_fewestBreaths iM_orderMany iM_orderSum iM_leastOrder rM_often iM_setMany iM_someOf iM_allOf iM_allWeight iM_enoughWeight iM_worthSum iM_firstRest iM_leastDrawn), (arI rM_tape kM_tape 900 fM_tape)] → va_S A s.heap H locs → lv_has ls 4 [(3, .int z_4812), (2, .int x_4800), (1, .int z_4811), (0, .ref oM)] → W p l e (headSpec (Cond.code yX7_next cX7_next 4 none :: wG) ({ frames := 1, cells := 0, slots := 0, locals := 21 })).room s m ([.ref oM] : List Value).toArray below meth c H locs 0 0 (MQ below (va_Qv (fun (_ : Nat) => True) (fun (_ : Nat) (t : State) => ∃ (niM_at : Int32) (niM_end : Int32) (niM_token : Int32) (niM_whole : Int32) (niM_nameSize : Int32) (nfM_letters : Nat → Int32), (0 ≤ niM_end.toInt ∧ niM_end.toInt ≤ 900) ∧ (0 ≤ niM_nameSize.toInt ∧ niM_nameSize.toInt ≤ 900) ∧ (iM_end.toInt ≤ niM_end.toInt) ∧ (ImpP (niM_token.toInt = 2) (niM_nameSize.toInt ≤ 8)) ∧ (ImpP (niM_token.toInt = 59 ) (iM_end.toInt + 1 ≤ niM_end.toInt)) ∧ (PX7_next fM_tape iM_size iM_end fM_letters = (niM_at, niM_end, niM_token, niM_whole, niM_nameSize, nfM_letters)) ∧ Bw dC dI A [(oc7 oM iM_thrown rM_tape iM_taped iM_size niM_at niM_end niM_token niM_whole niM_nameSize iM_fault iM_place iM_trouble rM_letters iM_failed iM_hasCourt rM_r rM_fresh rM_told rM_read rM_st rM_undone rM_kept iM_undos iM_images rM_fresher iM_fresherSize iM_scale iM_night rM_heardRow rM_cutRow iM_breaths iM_cutMany iM_allBreaths rM_trial rM_words iM_fewestBreaths iM_orderMany iM_orderSum iM_leastOrder rM_often iM_setMany iM_someOf iM_allOf iM_allWeight iM_enoughWeight iM_worthSum iM_firstRest iM_leastDrawn), (arI rM_tape kM_tape 900 fM_tape), (arI rM_letters kM_letters 8 nfM_letters)] [(kM_tape, .int), (kM_letters, .int)] t) A) ([.ref oM] : List Value).toArray s 0 0 A) (F0 m 152 ls []) := by
                intro n_4814
                induction n_4814 with
                | zero => intro z_4811 z_4812 z_4813 H locs ls hi0_n_4814 hi1_n_4814 hm; exact absurd hm (by omega)
                | succ n_4814 ih_n_4814 =>
                  intro z_4811 z_4812 z_4813 H locs ls hi0_n_4814 hi1_n_4814 hm hG hP hD hS hl
                  have hG := hG.trans (HX7_next_1_eq _ _ _ _ _ _ _ _)
                  refine lv_aload_n hx hb dX7_next_152 rfl (lv_at hl 3 rfl) ?_
                  refine lv_iload_n hx hb dX7_next_153 rfl (lv_at hl 2 rfl) ?_
                  have hFc := va_free (wc := [(oc7 oM iM_thrown rM_tape iM_taped iM_size z_4796 iM_end iM_token z_4813 0 iM_fault iM_place iM_trouble rM_letters iM_failed iM_hasCourt rM_r rM_fresh rM_told rM_read rM_st rM_undone rM_kept iM_undos iM_images rM_fresher iM_fresherSize iM_scale iM_night rM_heardRow rM_cutRow iM_breaths iM_cutMany iM_allBreaths rM_trial rM_words iM_fewestBreaths iM_orderMany iM_orderSum iM_leastOrder rM_often iM_setMany iM_someOf iM_allOf iM_allWeight iM_enoughWeight iM_worthSum iM_firstRest iM_leastDrawn), (arI rM_tape kM_tape 900 fM_tape)]) hD hS hA [1, 2] rfl
                  refine va_calli (va_runV (As := [.int z_4811]) (rest := []) ⟨hx, hb, hml, hown, hts⟩ (tX7_see_p l dC dI _ oM iM_thrown rM_tape fM_tape kM_tape iM_taped iM_size z_4796 iM_end iM_token z_4813 0 iM_fault iM_place iM_trouble rM_letters iM_failed iM_hasCourt rM_r rM_fresh rM_told rM_read rM_st rM_undone rM_kept iM_undos iM_images rM_fresher iM_fresherSize iM_scale iM_night rM_heardRow rM_cutRow iM_breaths iM_cutMany iM_allBreaths rM_trial rM_words iM_fewestBreaths iM_orderMany iM_orderSum iM_leastOrder rM_often iM_setMany iM_someOf iM_allOf iM_allWeight iM_enoughWeight iM_worthSum iM_firstRest iM_leastDrawn z_4811 (by first | omega | decide) (by first | omega | decide) (by first | omega | decide) (by first | decide | omega) (by first | omega | decide) (by first | omega | decide) (by first | omega | decide) (by first | omega | decide) (by first | omega | decide) (by first | omega | decide) (by first | omega | decide) (by first | omega | decide | assumption | (have q0 := kc_0; have q1 := kc_1; omega) | (intro h; exact absurd h (by decide)))) (cwV 1 hts (wd_V wd_406 wd_407 wd_408 wd_5 (wd_c wd_409)) rfl rfl rfl (by decide +kernel) ⟨Nat.le_of_ble_eq_true rfl, Nat.le_of_ble_eq_true rfl⟩) ⟨Pw.fb, va_recv hK hP (ci := 7) (q0 := 1) rfl rfl, fun U hU hW => Pw.to (hP.sub [1, 2] rfl) (hD.sub [1, 2] (by decide) rfl) (hK.sub [1] rfl) hE hS hFc hU hW⟩ rfl rfl hl.1 rfl (lv_room (Nat.le_of_ble_eq_true rfl)) dX7_next_154 ⟨Nat.le_of_ble_eq_true rfl, Nat.le_of_ble_eq_true rfl⟩) hS (fun q _ h => hFc q h) hFc (fun r u t H locs ht hvm hw hB hz1 hk1 hS => ?_)
                  have hru9 := hw.2
                  have hw := hw.1
                  obtain ⟨hP, hD, hK⟩ := Bw.go (ws' := [(arI rM_letters kM_letters 8 fM_letters), (oc7 oM iM_thrown rM_tape iM_taped iM_size z_4796 iM_end iM_token z_4813 0 iM_fault iM_place iM_trouble rM_letters iM_failed iM_hasCourt rM_r rM_fresh rM_told rM_read rM_st rM_undone rM_kept iM_undos iM_images rM_fresher iM_fresherSize iM_scale iM_night rM_heardRow rM_cutRow iM_breaths iM_cutMany iM_allBreaths rM_trial rM_words iM_fewestBreaths iM_orderMany iM_orderSum iM_leastOrder rM_often iM_setMany iM_someOf iM_allOf iM_allWeight iM_enoughWeight iM_worthSum iM_firstRest iM_leastDrawn), (arI rM_tape kM_tape 900 fM_tape)]) (tys' := [(kM_letters, .int), (kM_tape, .int)]) hB rfl ht hvm hP hD hK [1, 2] [0] rfl (by decide) (by decide) [0] hk1 hFc rfl rfl rfl
                  clear hz1 hk1 hvm ht hB
                  obtain ⟨x_4815, rfl⟩ : ∃ z, z = r := ⟨_, rfl⟩
                  have hG := hG.trans (lt_eq hru9.symm)
                  have lx_4815 := hw.2
                  have hFc : ∀ q, va_A [] _ q → A q := fun q h => hA q (Nat.le_trans hS.1 (va_nilA h))
                  refine va_calli (va_runS (As := [.int x_4815]) (rest := []) ⟨hx, hb, hml, hown, hts⟩ (tX7_isDigit_p l dC dI _ x_4815 ) (va_cwS 1 hts (wd_S wd_413 wd_414 wd_5 (wd_c wd_415)) rfl rfl rfl (by decide +kernel) ⟨Nat.le_of_ble_eq_true rfl, Nat.le_of_ble_eq_true rfl⟩) ⟨Pw.fb, fun U hU hW => Pn.to hK hE hS hA hU hW⟩ rfl rfl hl.1 rfl (lv_room (Nat.le_of_ble_eq_true rfl)) dX7_next_157 ⟨Nat.le_of_ble_eq_true rfl, Nat.le_of_ble_eq_true rfl⟩) hS (fun q _ h => hFc q h) hFc (fun r u t H locs ht hvm hw hB hz1 hk1 hS => ?_)
                  obtain ⟨hP, hD, hK⟩ := Bw.same ht hvm hP hD hK hk1 hFc
                  clear hz1 hk1 hvm ht hB
                  have hq9 := hw.2
                  have hw := hw.1
                  obtain ⟨x_4816, rfl⟩ : ∃ z, z = r := ⟨_, rfl⟩
                  have hq_x_4816 := hq9
                  have hG := hG.trans (lt_eq hq_x_4816.symm)
                  have bx_4816 := hw.1
                  have dx_4816 := bz_ti bx_4816
                  have lx_4816 := hw.2
                  refine lv_if_eq (tgt := 197) hx hb dX7_next_160 (by decide) (fun c_4817 => ?_) (fun c_4817 => ?_)
                  · skip
                    have hG := hG.trans (if_pos c_4817)
                    have gc_4817 := ti_eq c_4817 rfl kc_0
                    clear lx_4816
                    refine lv_aload_n hx hb dX7_next_197 rfl (lv_at hl 3 rfl) ?_
                    refine lv_iload_n hx hb dX7_next_198 rfl (lv_at hl 2 rfl) ?_
                    refine va_put (D := (dC, dI)) (ci := 7) (v := .int z_4811) (ty := .int) (C := RX7) (T := TX7) (N := 48) hx hb hts inX7 tyX7 tyX7_ok nmX7 hown hK hP hD hS 1 rfl rfl 5 (by decide) (hts _ wd_382) (fun _ h9 => h9) rfl (by decide +kernel) rfl rfl (Nat.le_of_ble_eq_true rfl) dX7_next_199 (fun H locs hP hD hS => ?_)
                    obtain ⟨hP, hD⟩ := wl2 (ws' := [(arI rM_letters kM_letters 8 fM_letters), (oc7 oM iM_thrown rM_tape iM_taped iM_size z_4796 z_4811 iM_token z_4813 0 iM_fault iM_place iM_trouble rM_letters iM_failed iM_hasCourt rM_r rM_fresh rM_told rM_read rM_st rM_undone rM_kept iM_undos iM_images rM_fresher iM_fresherSize iM_scale iM_night rM_heardRow rM_cutRow iM_breaths iM_cutMany iM_allBreaths rM_trial rM_words iM_fewestBreaths iM_orderMany iM_orderSum iM_leastOrder rM_often iM_setMany iM_someOf iM_allOf iM_allWeight iM_enoughWeight iM_worthSum iM_firstRest iM_leastDrawn), (arI rM_tape kM_tape 900 fM_tape)]) hP hD rfl
                    refine lv_aload_n hx hb dX7_next_202 rfl (lv_at hl 3 rfl) ?_
                    refine lv_iload_n hx hb dX7_next_203 rfl (lv_at hl 0 rfl) ?_
                    refine lv_iconst (v := 3) hx hb dX7_next_204 (by decide) ?_
                    refine lv_icmp_le (tgt := 212) hx hb dX7_next_205 (by decide) (fun c_4818 => ?_) (fun c_4818 => ?_)
                    · skip
                      have hG := hG.trans (if_pos c_4818)
                      have gc_4818 := ti_le c_4818 rfl kc_3
                      refine lv_iconst (v := 3) hx hb dX7_next_212 (by decide) ?_
                      refine va_put (D := (dC, dI)) (ci := 7) (v := .int 3) (ty := .int) (C := RX7) (T := TX7) (N := 48) hx hb hts inX7 tyX7 tyX7_ok nmX7 hown hK hP hD hS 1 rfl rfl 6 (by decide) (hts _ wd_383) (fun _ h9 => h9) rfl (by decide +kernel) rfl rfl (Nat.le_of_ble_eq_true rfl) dX7_next_213 (fun H locs hP hD hS => ?_)
                      obtain ⟨hP, hD⟩ := wl2 (ws' := [(arI rM_letters kM_letters 8 fM_letters), (oc7 oM iM_thrown rM_tape iM_taped iM_size z_4796 z_4811 3 z_4813 0 iM_fault iM_place iM_trouble rM_letters iM_failed iM_hasCourt rM_r rM_fresh rM_told rM_read rM_st rM_undone rM_kept iM_undos iM_images rM_fresher iM_fresherSize iM_scale iM_night rM_heardRow rM_cutRow iM_breaths iM_cutMany iM_allBreaths rM_trial rM_words iM_fewestBreaths iM_orderMany iM_orderSum iM_leastOrder rM_often iM_setMany iM_someOf iM_allOf iM_allWeight iM_enoughWeight iM_worthSum iM_firstRest iM_leastDrawn), (arI rM_tape kM_tape 900 fM_tape)]) hP hD rfl
                      refine lv_goto (tgt := 247) hx hb dX7_next_216 (by decide) ?_
                      exact W.vret hx hb hr (fun t ht hW => ⟨⟨0, rfl, trivial, ⟨z_4796, z_4811, 3, z_4813, 0, fM_letters, (by omega), (by decide), (by have q0 := kc_0; have q1 := kc_1; have q2 := kc_2; have q3 := kc_3; omega), (fun h9 => by have q0 := kc_0; have q1 := kc_1; have q2 := kc_2; have q3 := kc_3; omega), (fun h9 => by have q0 := kc_0; have q1 := kc_1; have q2 := kc_2; have q3 := kc_3; omega), hG, Bw.to (hP.sub [1, 2, 0] rfl) (hD.sub [1, 2, 0] (by decide) rfl) (hK.sub [1, 0] rfl) ht hW⟩⟩, hS.F ht⟩) hS.2.2 dX7_next_247
                    · skip
                      have hG := hG.trans (if_neg c_4818)
                      have gc_4818 := ti_nle c_4818 rfl kc_3
                      refine lv_iconst (v := 1) hx hb dX7_next_208 (by decide) ?_
                      refine lv_goto (tgt := 213) hx hb dX7_next_209 (by decide) ?_
                      refine va_put (D := (dC, dI)) (ci := 7) (v := .int 1) (ty := .int) (C := RX7) (T := TX7) (N := 48) hx hb hts inX7 tyX7 tyX7_ok nmX7 hown hK hP hD hS 1 rfl rfl 6 (by decide) (hts _ wd_383) (fun _ h9 => h9) rfl (by decide +kernel) rfl rfl (Nat.le_of_ble_eq_true rfl) dX7_next_213 (fun H locs hP hD hS => ?_)
                      obtain ⟨hP, hD⟩ := wl2 (ws' := [(arI rM_letters kM_letters 8 fM_letters), (oc7 oM iM_thrown rM_tape iM_taped iM_size z_4796 z_4811 1 z_4813 0 iM_fault iM_place iM_trouble rM_letters iM_failed iM_hasCourt rM_r rM_fresh rM_told rM_read rM_st rM_undone rM_kept iM_undos iM_images rM_fresher iM_fresherSize iM_scale iM_night rM_heardRow rM_cutRow iM_breaths iM_cutMany iM_allBreaths rM_trial rM_words iM_fewestBreaths iM_orderMany iM_orderSum iM_leastOrder rM_often iM_setMany iM_someOf iM_allOf iM_allWeight iM_enoughWeight iM_worthSum iM_firstRest iM_leastDrawn), (arI rM_tape kM_tape 900 fM_tape)]) hP hD rfl
                      refine lv_goto (tgt := 247) hx hb dX7_next_216 (by decide) ?_
                      exact W.vret hx hb hr (fun t ht hW => ⟨⟨0, rfl, trivial, ⟨z_4796, z_4811, 1, z_4813, 0, fM_letters, (by omega), (by decide), (by have q0 := kc_0; have q1 := kc_1; have q2 := kc_2; have q3 := kc_3; omega), (fun h9 => by have q0 := kc_0; have q1 := kc_1; have q2 := kc_2; have q3 := kc_3; omega), (fun h9 => by have q0 := kc_0; have q1 := kc_1; have q2 := kc_2; have q3 := kc_3; omega), hG, Bw.to (hP.sub [1, 2, 0] rfl) (hD.sub [1, 2, 0] (by decide) rfl) (hK.sub [1, 0] rfl) ht hW⟩⟩, hS.F ht⟩) hS.2.2 dX7_next_247
                  · skip
                    have hG := hG.trans (if_neg c_4817)
                    have gc_4817 := ti_ne c_4817 rfl kc_0
                    replace gc_4817 : (-1) * x_4816.toInt + 1 ≤ 0 := by omega
                    have h_4819 := lx_4816 (by omega)
                    clear lx_4816
                    have h_4820 := lx_4815 (by omega)
                    clear lx_4815
                    refine lv_iload_n hx hb dX7_next_163 rfl (lv_at hl 0 rfl) ?_
                    refine lv_iconst (v := 3) hx hb dX7_next_164 (by decide) ?_
                    refine lv_icmp_ge (tgt := 188) hx hb dX7_next_165 (by decide) (fun c_4821 => ?_) (fun c_4821 => ?_)
                    · skip
                      have hG := hG.trans (if_pos c_4821)
                      have gc_4821 := ti_le c_4821 kc_3 rfl
                      obtain ⟨x_4822, ex_4822⟩ : ∃ z : Int32, z = z_4812 + Int32.ofInt 1 := ⟨_, rfl⟩
                      have hG := hG.trans (lt_eq ex_4822)
                      have vx_4822 : x_4822.toInt = z_4812.toInt + 1 := by have q := ti_add (y := 1) ex_4822 rfl kc_1 (by omega) (by omega); omega
                      refine lv_iinc (v := x_4822) (lv' := [(3, .int x_4822), (2, .int x_4800), (1, .int z_4811), (0, .ref oM)]) hx hb dX7_next_188 hl (k := 0) rfl ex_4822.symm (by decide) rfl (fun ls hl => ?_)
                      obtain ⟨x_4823, ex_4823⟩ : ∃ z : Int32, z = z_4811 + Int32.ofInt 1 := ⟨_, rfl⟩
                      have hG := hG.trans (lt_eq ex_4823)
                      have vx_4823 : x_4823.toInt = z_4811.toInt + 1 := by have q := ti_add (y := 1) ex_4823 rfl kc_1 (by omega) (by omega); omega
                      refine lv_iinc (v := x_4823) (lv' := [(1, .int x_4823), (3, .int x_4822), (2, .int x_4800), (0, .ref oM)]) hx hb dX7_next_191 hl (k := 2) rfl ex_4823.symm (by decide) rfl (fun ls hl => ?_)
                      refine lv_goto (tgt := 152) hx hb dX7_next_194 (by decide) ?_
                      exact ih_n_4814 x_4823 x_4822 z_4813 _ _ _  (by first | omega | decide | assumption) (by first | omega | decide | assumption) (by omega) hG (hP.sub [0, 1, 2] rfl) (hD.sub [0, 1, 2] (by decide) rfl) hS (lv_sub hl [1, 2, 0, 3] rfl)
                    · skip
                      have hG := hG.trans (if_neg c_4821)
                      have gc_4821 := ti_nle c_4821 kc_3 rfl
                      refine lv_aload_n hx hb dX7_next_168 rfl (lv_at hl 3 rfl) ?_
                      refine lv_bipush (v := 10) hx hb dX7_next_169 (by decide) ?_
                      refine lv_aload_n hx hb dX7_next_171 rfl (lv_at hl 3 rfl) ?_
                      refine va_get (D := (dC, dI)) (ci := 7) (v := .int z_4813) (C := RX7) (T := TX7) (N := 48) hx hb hts inX7 hown hK hP 1 rfl rfl 7 (by decide) (hts _ wd_405) (fun _ h9 => h9) rfl dX7_next_172 ?_
                      refine lv_imul hx hb dX7_next_175 ?_
                      refine lv_topi (fun x_4824 ex_4824 => ?_)
                      have hG := hG.trans (lt_eq ex_4824)
                      refine lv_aload_n hx hb dX7_next_176 rfl (lv_at hl 3 rfl) ?_
                      refine lv_iload_n hx hb dX7_next_177 rfl (lv_at hl 2 rfl) ?_
                      have hFc := va_free (wc := [(oc7 oM iM_thrown rM_tape iM_taped iM_size z_4796 iM_end iM_token z_4813 0 iM_fault iM_place iM_trouble rM_letters iM_failed iM_hasCourt rM_r rM_fresh rM_told rM_read rM_st rM_undone rM_kept iM_undos iM_images rM_fresher iM_fresherSize iM_scale iM_night rM_heardRow rM_cutRow iM_breaths iM_cutMany iM_allBreaths rM_trial rM_words iM_fewestBreaths iM_orderMany iM_orderSum iM_leastOrder rM_often iM_setMany iM_someOf iM_allOf iM_allWeight iM_enoughWeight iM_worthSum iM_firstRest iM_leastDrawn), (arI rM_tape kM_tape 900 fM_tape)]) hD hS hA [1, 2] rfl
                      refine va_calli (va_runV (As := [.int z_4811]) (rest := [.int x_4824, .ref oM]) ⟨hx, hb, hml, hown, hts⟩ (tX7_see_p l dC dI _ oM iM_thrown rM_tape fM_tape kM_tape iM_taped iM_size z_4796 iM_end iM_token z_4813 0 iM_fault iM_place iM_trouble rM_letters iM_failed iM_hasCourt rM_r rM_fresh rM_told rM_read rM_st rM_undone rM_kept iM_undos iM_images rM_fresher iM_fresherSize iM_scale iM_night rM_heardRow rM_cutRow iM_breaths iM_cutMany iM_allBreaths rM_trial rM_words iM_fewestBreaths iM_orderMany iM_orderSum iM_leastOrder rM_often iM_setMany iM_someOf iM_allOf iM_allWeight iM_enoughWeight iM_worthSum iM_firstRest iM_leastDrawn z_4811 (by first | omega | decide) (by first | omega | decide) (by first | omega | decide) (by first | decide | omega) (by first | omega | decide) (by first | omega | decide) (by first | omega | decide) (by first | omega | decide) (by first | omega | decide) (by first | omega | decide) (by first | omega | decide) (by first | omega | decide | assumption | (have q0 := kc_0; have q1 := kc_1; omega) | (intro h; exact absurd h (by decide)))) (cwV 1 hts (wd_V wd_406 wd_407 wd_408 wd_5 (wd_c wd_409)) rfl rfl rfl (by decide +kernel) ⟨Nat.le_of_ble_eq_true rfl, Nat.le_of_ble_eq_true rfl⟩) ⟨Pw.fb, va_recv hK hP (ci := 7) (q0 := 1) rfl rfl, fun U hU hW => Pw.to (hP.sub [1, 2] rfl) (hD.sub [1, 2] (by decide) rfl) (hK.sub [1] rfl) hE hS hFc hU hW⟩ rfl rfl hl.1 rfl (lv_room (Nat.le_of_ble_eq_true rfl)) dX7_next_178 ⟨Nat.le_of_ble_eq_true rfl, Nat.le_of_ble_eq_true rfl⟩) hS (fun q _ h => hFc q h) hFc (fun r u t H locs ht hvm hw hB hz1 hk1 hS => ?_)
                      have hru9 := hw.2
                      have hw := hw.1
                      obtain ⟨hP, hD, hK⟩ := Bw.go (ws' := [(arI rM_letters kM_letters 8 fM_letters), (oc7 oM iM_thrown rM_tape iM_taped iM_size z_4796 iM_end iM_token z_4813 0 iM_fault iM_place iM_trouble rM_letters iM_failed iM_hasCourt rM_r rM_fresh rM_told rM_read rM_st rM_undone rM_kept iM_undos iM_images rM_fresher iM_fresherSize iM_scale iM_night rM_heardRow rM_cutRow iM_breaths iM_cutMany iM_allBreaths rM_trial rM_words iM_fewestBreaths iM_orderMany iM_orderSum iM_leastOrder rM_often iM_setMany iM_someOf iM_allOf iM_allWeight iM_enoughWeight iM_worthSum iM_firstRest iM_leastDrawn), (arI rM_tape kM_tape 900 fM_tape)]) (tys' := [(kM_letters, .int), (kM_tape, .int)]) hB rfl ht hvm hP hD hK [1, 2] [0] rfl (by decide) (by decide) [0] hk1 hFc rfl rfl rfl
                      clear hz1 hk1 hvm ht hB
                      obtain ⟨x_4825, rfl⟩ : ∃ z, z = r := ⟨_, rfl⟩
                      have hG := hG.trans (lt_eq hru9.symm)
                      have lx_4825 := hw.2
                      refine lv_iadd hx hb dX7_next_181 ?_
                      refine lv_topi (fun x_4826 ex_4826 => ?_)
                      have hG := hG.trans (lt_eq ex_4826)
                      refine lv_bipush (v := 48) hx hb dX7_next_182 (by decide) ?_
                      refine lv_isub hx hb dX7_next_184 ?_
                      refine lv_topi (fun x_4827 ex_4827 => ?_)
                      have hG := hG.trans (lt_eq ex_4827)
                      refine va_put (D := (dC, dI)) (ci := 7) (v := .int x_4827) (ty := .int) (C := RX7) (T := TX7) (N := 48) hx hb hts inX7 tyX7 tyX7_ok nmX7 hown hK hP hD hS 1 rfl rfl 7 (by decide) (hts _ wd_405) (fun _ h9 => h9) rfl (by decide +kernel) rfl rfl (Nat.le_of_ble_eq_true rfl) dX7_next_185 (fun H locs hP hD hS => ?_)
                      obtain ⟨hP, hD⟩ := wl2 (ws' := [(arI rM_letters kM_letters 8 fM_letters), (oc7 oM iM_thrown rM_tape iM_taped iM_size z_4796 iM_end iM_token x_4827 0 iM_fault iM_place iM_trouble rM_letters iM_failed iM_hasCourt rM_r rM_fresh rM_told rM_read rM_st rM_undone rM_kept iM_undos iM_images rM_fresher iM_fresherSize iM_scale iM_night rM_heardRow rM_cutRow iM_breaths iM_cutMany iM_allBreaths rM_trial rM_words iM_fewestBreaths iM_orderMany iM_orderSum iM_leastOrder rM_often iM_setMany iM_someOf iM_allOf iM_allWeight iM_enoughWeight iM_worthSum iM_firstRest iM_leastDrawn), (arI rM_tape kM_tape 900 fM_tape)]) hP hD rfl
                      obtain ⟨x_4828, ex_4828⟩ : ∃ z : Int32, z = z_4812 + Int32.ofInt 1 := ⟨_, rfl⟩
                      have hG := hG.trans (lt_eq ex_4828)
                      have vx_4828 : x_4828.toInt = z_4812.toInt + 1 := by have q := ti_add (y := 1) ex_4828 rfl kc_1 (by omega) (by omega); omega
                      refine lv_iinc (v := x_4828) (lv' := [(3, .int x_4828), (2, .int x_4800), (1, .int z_4811), (0, .ref oM)]) hx hb dX7_next_188 hl (k := 0) rfl ex_4828.symm (by decide) rfl (fun ls hl => ?_)
                      obtain ⟨x_4829, ex_4829⟩ : ∃ z : Int32, z = z_4811 + Int32.ofInt 1 := ⟨_, rfl⟩
                      have hG := hG.trans (lt_eq ex_4829)
                      have vx_4829 : x_4829.toInt = z_4811.toInt + 1 := by have q := ti_add (y := 1) ex_4829 rfl kc_1 (by omega) (by omega); omega
                      refine lv_iinc (v := x_4829) (lv' := [(1, .int x_4829), (3, .int x_4828), (2, .int x_4800), (0, .ref oM)]) hx hb dX7_next_191 hl (k := 2) rfl ex_4829.symm (by decide) rfl (fun ls hl => ?_)
                      refine lv_goto (tgt := 152) hx hb dX7_next_194 (by decide) ?_
                      exact ih_n_4814 x_4829 x_4828 x_4827 _ _ _  (by first | omega | decide | assumption) (by first | omega | decide | assumption) (by omega) hG (hP.sub [0, 1, 2] rfl) (hD.sub [0, 1, 2] (by decide) rfl) hS (lv_sub hl [1, 2, 0, 3] rfl)
              exact key_n_4814 (((900 - z_4796.toInt).toNat) + 1) z_4796 0 0 _ _ _  (by first | omega | decide | assumption | (have q0 := kc_0; have q1 := kc_1; omega)) (by first | omega | decide | assumption | (have q0 := kc_0; have q1 := kc_1; omega)) (by omega) hG hP hD hS hl
          · skip
            have hG := hG.trans (if_neg c_4804)
            have gc_4804 := ti_ne c_4804 rfl kc_0
            replace gc_4804 : (-1) * x_4803.toInt + 1 ≤ 0 := by omega
            have h_4830 := lx_4803 (by omega)
            clear lx_4803
            have hl := lv_sub hl (l' := [(2, .int x_4800), (1, .int z_4796), (0, .ref oM)]) [0, 1, 2] rfl
            have key_n_4834 : ∀ (n_4834 : Nat) (z_4831 : Int32) (z_4832 : Int32) (f_4833 : Nat → Int32) (H : Heap) (locs : List Loc) (ls : Array Slot), (0 ≤ z_4832.toInt ∧ z_4832.toInt ≤ 900) → (iM_end.toInt ≤ z_4831.toInt ∧ z_4831.toInt ≤ 900) → (0 ≤ z_4832.toInt ∧ z_4832.toInt ≤ z_4831.toInt) → (900 - z_4831.toInt).toNat < n_4834 → (PX7_next fM_tape iM_size iM_end fM_letters = HX7_next_2 fM_tape iM_size z_4796 n_4834 z_4831 z_4832 f_4833) → va_P (dC, dI) vwCl [(arI rM_letters kM_letters 8 f_4833), (oc7 oM iM_thrown rM_tape iM_taped iM_size z_4796 iM_end iM_token 0 z_4832 iM_fault iM_place iM_trouble rM_letters iM_failed iM_hasCourt rM_r rM_fresh rM_told rM_read rM_st rM_undone rM_kept iM_undos iM_images rM_fresher iM_fresherSize iM_scale iM_night rM_heardRow rM_cutRow iM_breaths iM_cutMany iM_allBreaths rM_trial rM_words iM_fewestBreaths iM_orderMany iM_orderSum iM_leastOrder rM_often iM_setMany iM_someOf iM_allOf iM_allWeight iM_enoughWeight iM_worthSum iM_firstRest iM_leastDrawn), (arI rM_tape kM_tape 900 fM_tape)] H → va_D A [(arI rM_letters kM_letters 8 f_4833), (oc7 oM iM_thrown rM_tape iM_taped iM_size z_4796 iM_end iM_token 0 z_4832 iM_fault iM_place iM_trouble rM_letters iM_failed iM_hasCourt rM_r rM_fresh rM_told rM_read rM_st rM_undone rM_kept iM_undos iM_images rM_fresher iM_fresherSize iM_scale iM_night rM_heardRow rM_cutRow iM_breaths iM_cutMany iM_allBreaths rM_trial rM_words iM_fewestBreaths iM_orderMany iM_orderSum iM_leastOrder rM_often iM_setMany iM_someOf iM_allOf iM_allWeight iM_enoughWeight iM_worthSum iM_firstRest iM_leastDrawn), (arI rM_tape kM_tape 900 fM_tape)] → va_S A s.heap H locs → lv_has ls 4 [(2, .int x_4800), (1, .int z_4831), (0, .ref oM)] → W p l e (headSpec (Cond.code yX7_next cX7_next 4 none :: wG) ({ frames := 1, cells := 0, slots := 0, locals := 21 })).room s m ([.ref oM] : List Value).toArray below meth c H locs 0 0 (MQ below (va_Qv (fun (_ : Nat) => True) (fun (_ : Nat) (t : State) => ∃ (niM_at : Int32) (niM_end : Int32) (niM_token : Int32) (niM_whole : Int32) (niM_nameSize : Int32) (nfM_letters : Nat → Int32), (0 ≤ niM_end.toInt ∧ niM_end.toInt ≤ 900) ∧ (0 ≤ niM_nameSize.toInt ∧ niM_nameSize.toInt ≤ 900) ∧ (iM_end.toInt ≤ niM_end.toInt) ∧ (ImpP (niM_token.toInt = 2) (niM_nameSize.toInt ≤ 8)) ∧ (ImpP (niM_token.toInt = 59 ) (iM_end.toInt + 1 ≤ niM_end.toInt)) ∧ (PX7_next fM_tape iM_size iM_end fM_letters = (niM_at, niM_end, niM_token, niM_whole, niM_nameSize, nfM_letters)) ∧ Bw dC dI A [(oc7 oM iM_thrown rM_tape iM_taped iM_size niM_at niM_end niM_token niM_whole niM_nameSize iM_fault iM_place iM_trouble rM_letters iM_failed iM_hasCourt rM_r rM_fresh rM_told rM_read rM_st rM_undone rM_kept iM_undos iM_images rM_fresher iM_fresherSize iM_scale iM_night rM_heardRow rM_cutRow iM_breaths iM_cutMany iM_allBreaths rM_trial rM_words iM_fewestBreaths iM_orderMany iM_orderSum iM_leastOrder rM_often iM_setMany iM_someOf iM_allOf iM_allWeight iM_enoughWeight iM_worthSum iM_firstRest iM_leastDrawn), (arI rM_tape kM_tape 900 fM_tape), (arI rM_letters kM_letters 8 nfM_letters)] [(kM_tape, .int), (kM_letters, .int)] t) A) ([.ref oM] : List Value).toArray s 0 0 A) (F0 m 67 ls []) := by
              intro n_4834
              induction n_4834 with
              | zero => intro z_4831 z_4832 f_4833 H locs ls b_z_4832 hi0_n_4834 hi1_n_4834 hm; exact absurd hm (by omega)
              | succ n_4834 ih_n_4834 =>
                intro z_4831 z_4832 f_4833 H locs ls b_z_4832 hi0_n_4834 hi1_n_4834 hm hG hP hD hS hl
                have hG := hG.trans (HX7_next_2_eq _ _ _ _ _ _ _)
                refine lv_aload_n hx hb dX7_next_67 rfl (lv_at hl 2 rfl) ?_
                refine lv_iload_n hx hb dX7_next_68 rfl (lv_at hl 1 rfl) ?_
                have hFc := va_free (wc := [(oc7 oM iM_thrown rM_tape iM_taped iM_size z_4796 iM_end iM_token 0 z_4832 iM_fault iM_place iM_trouble rM_letters iM_failed iM_hasCourt rM_r rM_fresh rM_told rM_read rM_st rM_undone rM_kept iM_undos iM_images rM_fresher iM_fresherSize iM_scale iM_night rM_heardRow rM_cutRow iM_breaths iM_cutMany iM_allBreaths rM_trial rM_words iM_fewestBreaths iM_orderMany iM_orderSum iM_leastOrder rM_often iM_setMany iM_someOf iM_allOf iM_allWeight iM_enoughWeight iM_worthSum iM_firstRest iM_leastDrawn), (arI rM_tape kM_tape 900 fM_tape)]) hD hS hA [1, 2] rfl
                refine va_calli (va_runV (As := [.int z_4831]) (rest := []) ⟨hx, hb, hml, hown, hts⟩ (tX7_see_p l dC dI _ oM iM_thrown rM_tape fM_tape kM_tape iM_taped iM_size z_4796 iM_end iM_token 0 z_4832 iM_fault iM_place iM_trouble rM_letters iM_failed iM_hasCourt rM_r rM_fresh rM_told rM_read rM_st rM_undone rM_kept iM_undos iM_images rM_fresher iM_fresherSize iM_scale iM_night rM_heardRow rM_cutRow iM_breaths iM_cutMany iM_allBreaths rM_trial rM_words iM_fewestBreaths iM_orderMany iM_orderSum iM_leastOrder rM_often iM_setMany iM_someOf iM_allOf iM_allWeight iM_enoughWeight iM_worthSum iM_firstRest iM_leastDrawn z_4831 (by first | omega | decide) (by first | omega | decide) (by first | omega | decide) (by first | exact b_z_4832 | omega | decide) (by first | omega | decide) (by first | omega | decide) (by first | omega | decide) (by first | omega | decide) (by first | omega | decide) (by first | omega | decide) (by first | omega | decide) (by first | omega | decide | assumption | (have q0 := kc_0; have q1 := kc_1; omega) | (intro h; exact absurd h (by decide)))) (cwV 1 hts (wd_V wd_406 wd_407 wd_408 wd_5 (wd_c wd_409)) rfl rfl rfl (by decide +kernel) ⟨Nat.le_of_ble_eq_true rfl, Nat.le_of_ble_eq_true rfl⟩) ⟨Pw.fb, va_recv hK hP (ci := 7) (q0 := 1) rfl rfl, fun U hU hW => Pw.to (hP.sub [1, 2] rfl) (hD.sub [1, 2] (by decide) rfl) (hK.sub [1] rfl) hE hS hFc hU hW⟩ rfl rfl hl.1 rfl (lv_room (Nat.le_of_ble_eq_true rfl)) dX7_next_69 ⟨Nat.le_of_ble_eq_true rfl, Nat.le_of_ble_eq_true rfl⟩) hS (fun q _ h => hFc q h) hFc (fun r u t H locs ht hvm hw hB hz1 hk1 hS => ?_)
                have hru9 := hw.2
                have hw := hw.1
                obtain ⟨hP, hD, hK⟩ := Bw.go (ws' := [(arI rM_letters kM_letters 8 f_4833), (oc7 oM iM_thrown rM_tape iM_taped iM_size z_4796 iM_end iM_token 0 z_4832 iM_fault iM_place iM_trouble rM_letters iM_failed iM_hasCourt rM_r rM_fresh rM_told rM_read rM_st rM_undone rM_kept iM_undos iM_images rM_fresher iM_fresherSize iM_scale iM_night rM_heardRow rM_cutRow iM_breaths iM_cutMany iM_allBreaths rM_trial rM_words iM_fewestBreaths iM_orderMany iM_orderSum iM_leastOrder rM_often iM_setMany iM_someOf iM_allOf iM_allWeight iM_enoughWeight iM_worthSum iM_firstRest iM_leastDrawn), (arI rM_tape kM_tape 900 fM_tape)]) (tys' := [(kM_letters, .int), (kM_tape, .int)]) hB rfl ht hvm hP hD hK [1, 2] [0] rfl (by decide) (by decide) [0] hk1 hFc rfl rfl rfl
                clear hz1 hk1 hvm ht hB
                obtain ⟨x_4835, rfl⟩ : ∃ z, z = r := ⟨_, rfl⟩
                have hG := hG.trans (lt_eq hru9.symm)
                have lx_4835 := hw.2
                have hFc : ∀ q, va_A [] _ q → A q := fun q h => hA q (Nat.le_trans hS.1 (va_nilA h))
                refine va_calli (va_runS (As := [.int x_4835]) (rest := []) ⟨hx, hb, hml, hown, hts⟩ (tX7_isSmall_p l dC dI _ x_4835 ) (va_cwS 1 hts (wd_S wd_410 wd_411 wd_5 (wd_c wd_412)) rfl rfl rfl (by decide +kernel) ⟨Nat.le_of_ble_eq_true rfl, Nat.le_of_ble_eq_true rfl⟩) ⟨Pw.fb, fun U hU hW => Pn.to hK hE hS hA hU hW⟩ rfl rfl hl.1 rfl (lv_room (Nat.le_of_ble_eq_true rfl)) dX7_next_72 ⟨Nat.le_of_ble_eq_true rfl, Nat.le_of_ble_eq_true rfl⟩) hS (fun q _ h => hFc q h) hFc (fun r u t H locs ht hvm hw hB hz1 hk1 hS => ?_)
                obtain ⟨hP, hD, hK⟩ := Bw.same ht hvm hP hD hK hk1 hFc
                clear hz1 hk1 hvm ht hB
                have hq9 := hw.2
                have hw := hw.1
                obtain ⟨x_4836, rfl⟩ : ∃ z, z = r := ⟨_, rfl⟩
                have hq_x_4836 := hq9
                have hG := hG.trans (lt_eq hq_x_4836.symm)
                have bx_4836 := hw.1
                have dx_4836 := bz_ti bx_4836
                have lx_4836 := hw.2
                refine lv_if_eq (tgt := 117) hx hb dX7_next_75 (by decide) (fun c_4837 => ?_) (fun c_4837 => ?_)
                · skip
                  have hG := hG.trans (if_pos c_4837)
                  have gc_4837 := ti_eq c_4837 rfl kc_0
                  clear lx_4836
                  refine lv_aload_n hx hb dX7_next_117 rfl (lv_at hl 2 rfl) ?_
                  refine lv_iload_n hx hb dX7_next_118 rfl (lv_at hl 1 rfl) ?_
                  refine va_put (D := (dC, dI)) (ci := 7) (v := .int z_4831) (ty := .int) (C := RX7) (T := TX7) (N := 48) hx hb hts inX7 tyX7 tyX7_ok nmX7 hown hK hP hD hS 1 rfl rfl 5 (by decide) (hts _ wd_382) (fun _ h9 => h9) rfl (by decide +kernel) rfl rfl (Nat.le_of_ble_eq_true rfl) dX7_next_119 (fun H locs hP hD hS => ?_)
                  obtain ⟨hP, hD⟩ := wl2 (ws' := [(arI rM_letters kM_letters 8 f_4833), (oc7 oM iM_thrown rM_tape iM_taped iM_size z_4796 z_4831 iM_token 0 z_4832 iM_fault iM_place iM_trouble rM_letters iM_failed iM_hasCourt rM_r rM_fresh rM_told rM_read rM_st rM_undone rM_kept iM_undos iM_images rM_fresher iM_fresherSize iM_scale iM_night rM_heardRow rM_cutRow iM_breaths iM_cutMany iM_allBreaths rM_trial rM_words iM_fewestBreaths iM_orderMany iM_orderSum iM_leastOrder rM_often iM_setMany iM_someOf iM_allOf iM_allWeight iM_enoughWeight iM_worthSum iM_firstRest iM_leastDrawn), (arI rM_tape kM_tape 900 fM_tape)]) hP hD rfl
                  refine lv_aload_n hx hb dX7_next_122 rfl (lv_at hl 2 rfl) ?_
                  refine lv_aload_n hx hb dX7_next_123 rfl (lv_at hl 2 rfl) ?_
                  refine va_get (D := (dC, dI)) (ci := 7) (v := .int z_4832) (C := RX7) (T := TX7) (N := 48) hx hb hts inX7 hown hK hP 1 rfl rfl 8 (by decide) (hts _ wd_404) (fun _ h9 => h9) rfl dX7_next_124 ?_
                  refine lv_bipush (v := 8) hx hb dX7_next_127 (by decide) ?_
                  refine lv_icmp_le (tgt := 136) hx hb dX7_next_129 (by decide) (fun c_4838 => ?_) (fun c_4838 => ?_)
                  · skip
                    have hG := hG.trans (if_pos c_4838)
                    have gc_4838 := ti_le c_4838 rfl kc_8
                    refine lv_iconst (v := 2) hx hb dX7_next_136 (by decide) ?_
                    refine va_put (D := (dC, dI)) (ci := 7) (v := .int 2) (ty := .int) (C := RX7) (T := TX7) (N := 48) hx hb hts inX7 tyX7 tyX7_ok nmX7 hown hK hP hD hS 1 rfl rfl 6 (by decide) (hts _ wd_383) (fun _ h9 => h9) rfl (by decide +kernel) rfl rfl (Nat.le_of_ble_eq_true rfl) dX7_next_137 (fun H locs hP hD hS => ?_)
                    obtain ⟨hP, hD⟩ := wl2 (ws' := [(arI rM_letters kM_letters 8 f_4833), (oc7 oM iM_thrown rM_tape iM_taped iM_size z_4796 z_4831 2 0 z_4832 iM_fault iM_place iM_trouble rM_letters iM_failed iM_hasCourt rM_r rM_fresh rM_told rM_read rM_st rM_undone rM_kept iM_undos iM_images rM_fresher iM_fresherSize iM_scale iM_night rM_heardRow rM_cutRow iM_breaths iM_cutMany iM_allBreaths rM_trial rM_words iM_fewestBreaths iM_orderMany iM_orderSum iM_leastOrder rM_often iM_setMany iM_someOf iM_allOf iM_allWeight iM_enoughWeight iM_worthSum iM_firstRest iM_leastDrawn), (arI rM_tape kM_tape 900 fM_tape)]) hP hD rfl
                    refine lv_goto (tgt := 247) hx hb dX7_next_140 (by decide) ?_
                    exact W.vret hx hb hr (fun t ht hW => ⟨⟨0, rfl, trivial, ⟨z_4796, z_4831, 2, 0, z_4832, f_4833, (by omega), b_z_4832, (by have q0 := kc_0; have q1 := kc_1; have q2 := kc_2; have q3 := kc_3; omega), (fun h9 => by have q0 := kc_0; have q1 := kc_1; have q2 := kc_2; have q3 := kc_3; omega), (fun h9 => by have q0 := kc_0; have q1 := kc_1; have q2 := kc_2; have q3 := kc_3; omega), hG, Bw.to (hP.sub [1, 2, 0] rfl) (hD.sub [1, 2, 0] (by decide) rfl) (hK.sub [1, 0] rfl) ht hW⟩⟩, hS.F ht⟩) hS.2.2 dX7_next_247
                  · skip
                    have hG := hG.trans (if_neg c_4838)
                    have gc_4838 := ti_nle c_4838 rfl kc_8
                    refine lv_iconst (v := 1) hx hb dX7_next_132 (by decide) ?_
                    refine lv_goto (tgt := 137) hx hb dX7_next_133 (by decide) ?_
                    refine va_put (D := (dC, dI)) (ci := 7) (v := .int 1) (ty := .int) (C := RX7) (T := TX7) (N := 48) hx hb hts inX7 tyX7 tyX7_ok nmX7 hown hK hP hD hS 1 rfl rfl 6 (by decide) (hts _ wd_383) (fun _ h9 => h9) rfl (by decide +kernel) rfl rfl (Nat.le_of_ble_eq_true rfl) dX7_next_137 (fun H locs hP hD hS => ?_)
                    obtain ⟨hP, hD⟩ := wl2 (ws' := [(arI rM_letters kM_letters 8 f_4833), (oc7 oM iM_thrown rM_tape iM_taped iM_size z_4796 z_4831 1 0 z_4832 iM_fault iM_place iM_trouble rM_letters iM_failed iM_hasCourt rM_r rM_fresh rM_told rM_read rM_st rM_undone rM_kept iM_undos iM_images rM_fresher iM_fresherSize iM_scale iM_night rM_heardRow rM_cutRow iM_breaths iM_cutMany iM_allBreaths rM_trial rM_words iM_fewestBreaths iM_orderMany iM_orderSum iM_leastOrder rM_often iM_setMany iM_someOf iM_allOf iM_allWeight iM_enoughWeight iM_worthSum iM_firstRest iM_leastDrawn), (arI rM_tape kM_tape 900 fM_tape)]) hP hD rfl
                    refine lv_goto (tgt := 247) hx hb dX7_next_140 (by decide) ?_
                    exact W.vret hx hb hr (fun t ht hW => ⟨⟨0, rfl, trivial, ⟨z_4796, z_4831, 1, 0, z_4832, f_4833, (by omega), b_z_4832, (by have q0 := kc_0; have q1 := kc_1; have q2 := kc_2; have q3 := kc_3; omega), (fun h9 => by have q0 := kc_0; have q1 := kc_1; have q2 := kc_2; have q3 := kc_3; omega), (fun h9 => by have q0 := kc_0; have q1 := kc_1; have q2 := kc_2; have q3 := kc_3; omega), hG, Bw.to (hP.sub [1, 2, 0] rfl) (hD.sub [1, 2, 0] (by decide) rfl) (hK.sub [1, 0] rfl) ht hW⟩⟩, hS.F ht⟩) hS.2.2 dX7_next_247
                · skip
                  have hG := hG.trans (if_neg c_4837)
                  have gc_4837 := ti_ne c_4837 rfl kc_0
                  replace gc_4837 : (-1) * x_4836.toInt + 1 ≤ 0 := by omega
                  have h_4839 := lx_4836 (by omega)
                  clear lx_4836
                  have h_4840 := lx_4835 (by omega)
                  clear lx_4835
                  refine lv_aload_n hx hb dX7_next_78 rfl (lv_at hl 2 rfl) ?_
                  refine va_get (D := (dC, dI)) (ci := 7) (v := .int z_4832) (C := RX7) (T := TX7) (N := 48) hx hb hts inX7 hown hK hP 1 rfl rfl 8 (by decide) (hts _ wd_404) (fun _ h9 => h9) rfl dX7_next_79 ?_
                  refine lv_bipush (v := 8) hx hb dX7_next_82 (by decide) ?_
                  refine lv_icmp_ge (tgt := 101) hx hb dX7_next_84 (by decide) (fun c_4841 => ?_) (fun c_4841 => ?_)
                  · skip
                    have hG := hG.trans (if_pos c_4841)
                    have gc_4841 := ti_le c_4841 kc_8 rfl
                    refine lv_aload_n hx hb dX7_next_101 rfl (lv_at hl 2 rfl) ?_
                    refine lv_dup hx hb dX7_next_102 rfl ?_
                    refine va_get (D := (dC, dI)) (ci := 7) (v := .int z_4832) (C := RX7) (T := TX7) (N := 48) hx hb hts inX7 hown hK hP 1 rfl rfl 8 (by decide) (hts _ wd_404) (fun _ h9 => h9) rfl dX7_next_103 ?_
                    refine lv_iconst (v := 1) hx hb dX7_next_106 (by decide) ?_
                    refine lv_iadd hx hb dX7_next_107 ?_
                    refine lv_topi (fun x_4842 ex_4842 => ?_)
                    have hG := hG.trans (lt_eq ex_4842)
                    have vx_4842 : x_4842.toInt = z_4832.toInt + 1 := by have q := ti_add ex_4842 rfl kc_1 (by omega) (by omega); omega
                    refine va_put (D := (dC, dI)) (ci := 7) (v := .int x_4842) (ty := .int) (C := RX7) (T := TX7) (N := 48) hx hb hts inX7 tyX7 tyX7_ok nmX7 hown hK hP hD hS 1 rfl rfl 8 (by decide) (hts _ wd_404) (fun _ h9 => h9) rfl (by decide +kernel) rfl rfl (Nat.le_of_ble_eq_true rfl) dX7_next_108 (fun H locs hP hD hS => ?_)
                    obtain ⟨hP, hD⟩ := wl2 (ws' := [(arI rM_letters kM_letters 8 f_4833), (oc7 oM iM_thrown rM_tape iM_taped iM_size z_4796 iM_end iM_token 0 x_4842 iM_fault iM_place iM_trouble rM_letters iM_failed iM_hasCourt rM_r rM_fresh rM_told rM_read rM_st rM_undone rM_kept iM_undos iM_images rM_fresher iM_fresherSize iM_scale iM_night rM_heardRow rM_cutRow iM_breaths iM_cutMany iM_allBreaths rM_trial rM_words iM_fewestBreaths iM_orderMany iM_orderSum iM_leastOrder rM_often iM_setMany iM_someOf iM_allOf iM_allWeight iM_enoughWeight iM_worthSum iM_firstRest iM_leastDrawn), (arI rM_tape kM_tape 900 fM_tape)]) hP hD rfl
                    obtain ⟨x_4843, ex_4843⟩ : ∃ z : Int32, z = z_4831 + Int32.ofInt 1 := ⟨_, rfl⟩
                    have hG := hG.trans (lt_eq ex_4843)
                    have vx_4843 : x_4843.toInt = z_4831.toInt + 1 := by have q := ti_add (y := 1) ex_4843 rfl kc_1 (by omega) (by omega); omega
                    refine lv_iinc (v := x_4843) (lv' := [(1, .int x_4843), (2, .int x_4800), (0, .ref oM)]) hx hb dX7_next_111 hl (k := 1) rfl ex_4843.symm (by decide) rfl (fun ls hl => ?_)
                    refine lv_goto (tgt := 67) hx hb dX7_next_114 (by decide) ?_
                    exact ih_n_4834 x_4843 x_4842 f_4833 _ _ _ (by have q := vx_4842; omega) (by first | omega | decide | assumption) (by first | omega | decide | assumption) (by omega) hG (hP.sub [0, 1, 2] rfl) (hD.sub [0, 1, 2] (by decide) rfl) hS (lv_sub hl [1, 0, 2] rfl)
                  · skip
                    have hG := hG.trans (if_neg c_4841)
                    have gc_4841 := ti_nle c_4841 kc_8 rfl
                    refine lv_aload_n hx hb dX7_next_87 rfl (lv_at hl 2 rfl) ?_
                    refine va_get (D := (dC, dI)) (ci := 7) (v := .ref rM_letters) (C := RX7) (T := TX7) (N := 48) hx hb hts inX7 hown hK hP 1 rfl rfl 12 (by decide) (hts _ wd_154) (fun _ h9 => h9) rfl dX7_next_88 ?_
                    refine lv_aload_n hx hb dX7_next_91 rfl (lv_at hl 2 rfl) ?_
                    refine va_get (D := (dC, dI)) (ci := 7) (v := .int z_4832) (C := RX7) (T := TX7) (N := 48) hx hb hts inX7 hown hK hP 1 rfl rfl 8 (by decide) (hts _ wd_404) (fun _ h9 => h9) rfl dX7_next_92 ?_
                    refine lv_aload_n hx hb dX7_next_95 rfl (lv_at hl 2 rfl) ?_
                    refine lv_iload_n hx hb dX7_next_96 rfl (lv_at hl 1 rfl) ?_
                    have hFc := va_free (wc := [(oc7 oM iM_thrown rM_tape iM_taped iM_size z_4796 iM_end iM_token 0 z_4832 iM_fault iM_place iM_trouble rM_letters iM_failed iM_hasCourt rM_r rM_fresh rM_told rM_read rM_st rM_undone rM_kept iM_undos iM_images rM_fresher iM_fresherSize iM_scale iM_night rM_heardRow rM_cutRow iM_breaths iM_cutMany iM_allBreaths rM_trial rM_words iM_fewestBreaths iM_orderMany iM_orderSum iM_leastOrder rM_often iM_setMany iM_someOf iM_allOf iM_allWeight iM_enoughWeight iM_worthSum iM_firstRest iM_leastDrawn), (arI rM_tape kM_tape 900 fM_tape)]) hD hS hA [1, 2] rfl
                    refine va_calli (va_runV (As := [.int z_4831]) (rest := [.int z_4832, .ref rM_letters]) ⟨hx, hb, hml, hown, hts⟩ (tX7_see_p l dC dI _ oM iM_thrown rM_tape fM_tape kM_tape iM_taped iM_size z_4796 iM_end iM_token 0 z_4832 iM_fault iM_place iM_trouble rM_letters iM_failed iM_hasCourt rM_r rM_fresh rM_told rM_read rM_st rM_undone rM_kept iM_undos iM_images rM_fresher iM_fresherSize iM_scale iM_night rM_heardRow rM_cutRow iM_breaths iM_cutMany iM_allBreaths rM_trial rM_words iM_fewestBreaths iM_orderMany iM_orderSum iM_leastOrder rM_often iM_setMany iM_someOf iM_allOf iM_allWeight iM_enoughWeight iM_worthSum iM_firstRest iM_leastDrawn z_4831 (by first | omega | decide) (by first | omega | decide) (by first | omega | decide) (by first | exact b_z_4832 | omega | decide) (by first | omega | decide) (by first | omega | decide) (by first | omega | decide) (by first | omega | decide) (by first | omega | decide) (by first | omega | decide) (by first | omega | decide) (by first | omega | decide | assumption | (have q0 := kc_0; have q1 := kc_1; omega) | (intro h; exact absurd h (by decide)))) (cwV 1 hts (wd_V wd_406 wd_407 wd_408 wd_5 (wd_c wd_409)) rfl rfl rfl (by decide +kernel) ⟨Nat.le_of_ble_eq_true rfl, Nat.le_of_ble_eq_true rfl⟩) ⟨Pw.fb, va_recv hK hP (ci := 7) (q0 := 1) rfl rfl, fun U hU hW => Pw.to (hP.sub [1, 2] rfl) (hD.sub [1, 2] (by decide) rfl) (hK.sub [1] rfl) hE hS hFc hU hW⟩ rfl rfl hl.1 rfl (lv_room (Nat.le_of_ble_eq_true rfl)) dX7_next_97 ⟨Nat.le_of_ble_eq_true rfl, Nat.le_of_ble_eq_true rfl⟩) hS (fun q _ h => hFc q h) hFc (fun r u t H locs ht hvm hw hB hz1 hk1 hS => ?_)
                    have hru9 := hw.2
                    have hw := hw.1
                    obtain ⟨hP, hD, hK⟩ := Bw.go (ws' := [(arI rM_letters kM_letters 8 f_4833), (oc7 oM iM_thrown rM_tape iM_taped iM_size z_4796 iM_end iM_token 0 z_4832 iM_fault iM_place iM_trouble rM_letters iM_failed iM_hasCourt rM_r rM_fresh rM_told rM_read rM_st rM_undone rM_kept iM_undos iM_images rM_fresher iM_fresherSize iM_scale iM_night rM_heardRow rM_cutRow iM_breaths iM_cutMany iM_allBreaths rM_trial rM_words iM_fewestBreaths iM_orderMany iM_orderSum iM_leastOrder rM_often iM_setMany iM_someOf iM_allOf iM_allWeight iM_enoughWeight iM_worthSum iM_firstRest iM_leastDrawn), (arI rM_tape kM_tape 900 fM_tape)]) (tys' := [(kM_letters, .int), (kM_tape, .int)]) hB rfl ht hvm hP hD hK [1, 2] [0] rfl (by decide) (by decide) [0] hk1 hFc rfl rfl rfl
                    clear hz1 hk1 hvm ht hB
                    obtain ⟨x_4844, rfl⟩ : ∃ z, z = r := ⟨_, rfl⟩
                    have hG := hG.trans (lt_eq hru9.symm)
                    have lx_4844 := hw.2
                    refine va_iast hx hb hK hP hD hS 0 0 rfl rfl (ti_in rfl (by omega) (by omega)) dX7_next_100 (fun H locs hP hD hS => ?_)
                    obtain ⟨f_4846, ef_4846⟩ : ∃ g : Nat → Int32, g = upd f_4833 z_4832.toNatClampNeg x_4844 := ⟨_, rfl⟩
                    rw [← ef_4846] at hP hD
                    have hG := hG.trans (lt_eq ef_4846)
                    obtain ⟨hP, hD⟩ := wl2 (ws' := [(arI rM_letters kM_letters 8 f_4846), (oc7 oM iM_thrown rM_tape iM_taped iM_size z_4796 iM_end iM_token 0 z_4832 iM_fault iM_place iM_trouble rM_letters iM_failed iM_hasCourt rM_r rM_fresh rM_told rM_read rM_st rM_undone rM_kept iM_undos iM_images rM_fresher iM_fresherSize iM_scale iM_night rM_heardRow rM_cutRow iM_breaths iM_cutMany iM_allBreaths rM_trial rM_words iM_fewestBreaths iM_orderMany iM_orderSum iM_leastOrder rM_often iM_setMany iM_someOf iM_allOf iM_allWeight iM_enoughWeight iM_worthSum iM_firstRest iM_leastDrawn), (arI rM_tape kM_tape 900 fM_tape)]) hP hD rfl
                    refine lv_aload_n hx hb dX7_next_101 rfl (lv_at hl 2 rfl) ?_
                    refine lv_dup hx hb dX7_next_102 rfl ?_
                    refine va_get (D := (dC, dI)) (ci := 7) (v := .int z_4832) (C := RX7) (T := TX7) (N := 48) hx hb hts inX7 hown hK hP 1 rfl rfl 8 (by decide) (hts _ wd_404) (fun _ h9 => h9) rfl dX7_next_103 ?_
                    refine lv_iconst (v := 1) hx hb dX7_next_106 (by decide) ?_
                    refine lv_iadd hx hb dX7_next_107 ?_
                    refine lv_topi (fun x_4847 ex_4847 => ?_)
                    have hG := hG.trans (lt_eq ex_4847)
                    have vx_4847 : x_4847.toInt = z_4832.toInt + 1 := by have q := ti_add ex_4847 rfl kc_1 (by omega) (by omega); omega
                    refine va_put (D := (dC, dI)) (ci := 7) (v := .int x_4847) (ty := .int) (C := RX7) (T := TX7) (N := 48) hx hb hts inX7 tyX7 tyX7_ok nmX7 hown hK hP hD hS 1 rfl rfl 8 (by decide) (hts _ wd_404) (fun _ h9 => h9) rfl (by decide +kernel) rfl rfl (Nat.le_of_ble_eq_true rfl) dX7_next_108 (fun H locs hP hD hS => ?_)
                    obtain ⟨hP, hD⟩ := wl2 (ws' := [(arI rM_letters kM_letters 8 f_4846), (oc7 oM iM_thrown rM_tape iM_taped iM_size z_4796 iM_end iM_token 0 x_4847 iM_fault iM_place iM_trouble rM_letters iM_failed iM_hasCourt rM_r rM_fresh rM_told rM_read rM_st rM_undone rM_kept iM_undos iM_images rM_fresher iM_fresherSize iM_scale iM_night rM_heardRow rM_cutRow iM_breaths iM_cutMany iM_allBreaths rM_trial rM_words iM_fewestBreaths iM_orderMany iM_orderSum iM_leastOrder rM_often iM_setMany iM_someOf iM_allOf iM_allWeight iM_enoughWeight iM_worthSum iM_firstRest iM_leastDrawn), (arI rM_tape kM_tape 900 fM_tape)]) hP hD rfl
                    obtain ⟨x_4848, ex_4848⟩ : ∃ z : Int32, z = z_4831 + Int32.ofInt 1 := ⟨_, rfl⟩
                    have hG := hG.trans (lt_eq ex_4848)
                    have vx_4848 : x_4848.toInt = z_4831.toInt + 1 := by have q := ti_add (y := 1) ex_4848 rfl kc_1 (by omega) (by omega); omega
                    refine lv_iinc (v := x_4848) (lv' := [(1, .int x_4848), (2, .int x_4800), (0, .ref oM)]) hx hb dX7_next_111 hl (k := 1) rfl ex_4848.symm (by decide) rfl (fun ls hl => ?_)
                    refine lv_goto (tgt := 67) hx hb dX7_next_114 (by decide) ?_
                    exact ih_n_4834 x_4848 x_4847 f_4846 _ _ _ (by have q := vx_4847; omega) (by first | omega | decide | assumption) (by first | omega | decide | assumption) (by omega) hG (hP.sub [0, 1, 2] rfl) (hD.sub [0, 1, 2] (by decide) rfl) hS (lv_sub hl [1, 0, 2] rfl)
            exact key_n_4834 (((900 - z_4796.toInt).toNat) + 1) z_4796 0 fM_letters _ _ _ (by decide) (by first | omega | decide | assumption | (have q0 := kc_0; have q1 := kc_1; omega)) (by first | omega | decide | assumption | (have q0 := kc_0; have q1 := kc_1; omega)) (by omega) hG hP hD hS hl
        · skip
          have hG := hG.trans (if_pos c_4801)
          have gc_4801 := ti_eq c_4801 rfl kc_m1
          refine lv_aload_n hx hb dX7_next_47 rfl (lv_at hl 2 rfl) ?_
          refine lv_iconst (v := 0) hx hb dX7_next_48 (by decide) ?_
          refine va_put (D := (dC, dI)) (ci := 7) (v := .int 0) (ty := .int) (C := RX7) (T := TX7) (N := 48) hx hb hts inX7 tyX7 tyX7_ok nmX7 hown hK hP hD hS 1 rfl rfl 6 (by decide) (hts _ wd_383) (fun _ h9 => h9) rfl (by decide +kernel) rfl rfl (Nat.le_of_ble_eq_true rfl) dX7_next_49 (fun H locs hP hD hS => ?_)
          obtain ⟨hP, hD⟩ := wl2 (ws' := [(arI rM_letters kM_letters 8 fM_letters), (oc7 oM iM_thrown rM_tape iM_taped iM_size z_4796 iM_end 0 0 0 iM_fault iM_place iM_trouble rM_letters iM_failed iM_hasCourt rM_r rM_fresh rM_told rM_read rM_st rM_undone rM_kept iM_undos iM_images rM_fresher iM_fresherSize iM_scale iM_night rM_heardRow rM_cutRow iM_breaths iM_cutMany iM_allBreaths rM_trial rM_words iM_fewestBreaths iM_orderMany iM_orderSum iM_leastOrder rM_often iM_setMany iM_someOf iM_allOf iM_allWeight iM_enoughWeight iM_worthSum iM_firstRest iM_leastDrawn), (arI rM_tape kM_tape 900 fM_tape)]) hP hD rfl
          refine lv_aload_n hx hb dX7_next_52 rfl (lv_at hl 2 rfl) ?_
          refine lv_iload_n hx hb dX7_next_53 rfl (lv_at hl 1 rfl) ?_
          refine va_put (D := (dC, dI)) (ci := 7) (v := .int z_4796) (ty := .int) (C := RX7) (T := TX7) (N := 48) hx hb hts inX7 tyX7 tyX7_ok nmX7 hown hK hP hD hS 1 rfl rfl 5 (by decide) (hts _ wd_382) (fun _ h9 => h9) rfl (by decide +kernel) rfl rfl (Nat.le_of_ble_eq_true rfl) dX7_next_54 (fun H locs hP hD hS => ?_)
          obtain ⟨hP, hD⟩ := wl2 (ws' := [(arI rM_letters kM_letters 8 fM_letters), (oc7 oM iM_thrown rM_tape iM_taped iM_size z_4796 z_4796 0 0 0 iM_fault iM_place iM_trouble rM_letters iM_failed iM_hasCourt rM_r rM_fresh rM_told rM_read rM_st rM_undone rM_kept iM_undos iM_images rM_fresher iM_fresherSize iM_scale iM_night rM_heardRow rM_cutRow iM_breaths iM_cutMany iM_allBreaths rM_trial rM_words iM_fewestBreaths iM_orderMany iM_orderSum iM_leastOrder rM_often iM_setMany iM_someOf iM_allOf iM_allWeight iM_enoughWeight iM_worthSum iM_firstRest iM_leastDrawn), (arI rM_tape kM_tape 900 fM_tape)]) hP hD rfl
          refine lv_goto (tgt := 247) hx hb dX7_next_57 (by decide) ?_
          exact W.vret hx hb hr (fun t ht hW => ⟨⟨0, rfl, trivial, ⟨z_4796, z_4796, 0, 0, 0, fM_letters, (by omega), (by decide), (by have q0 := kc_0; have q1 := kc_1; have q2 := kc_2; have q3 := kc_3; omega), (fun h9 => by have q0 := kc_0; have q1 := kc_1; have q2 := kc_2; have q3 := kc_3; omega), (fun h9 => by have q0 := kc_0; have q1 := kc_1; have q2 := kc_2; have q3 := kc_3; omega), hG, Bw.to (hP.sub [1, 2, 0] rfl) (hD.sub [1, 2, 0] (by decide) rfl) (hK.sub [1, 0] rfl) ht hW⟩⟩, hS.F ht⟩) hS.2.2 dX7_next_247
      · skip
        have hG := hG.trans (if_pos c_4799)
        have gc_4799 := ti_eq c_4799 rfl kc_32
        have h_4849 := lx_4798 (by omega)
        clear lx_4798
        obtain ⟨x_4850, ex_4850⟩ : ∃ z : Int32, z = z_4796 + Int32.ofInt 1 := ⟨_, rfl⟩
        have hG := hG.trans (lt_eq ex_4850)
        have vx_4850 : x_4850.toInt = z_4796.toInt + 1 := by have q := ti_add (y := 1) ex_4850 rfl kc_1 (by omega) (by omega); omega
        refine lv_iinc (v := x_4850) (lv' := [(1, .int x_4850), (0, .ref oM)]) hx hb dX7_next_15 hl (k := 0) rfl ex_4850.symm (by decide) rfl (fun ls hl => ?_)
        refine lv_goto (tgt := 5) hx hb dX7_next_18 (by decide) ?_
        exact ih_n_4797 x_4850 _ _ _  (by first | omega | decide | assumption) (by omega) hG (hP.sub [1, 2, 0] rfl) (hD.sub [1, 2, 0] (by decide) rfl) hS (lv_sub hl [0, 1] rfl)
  exact key_n_4797 (((900 - iM_end.toInt).toNat) + 1) iM_end _ _ _  (by first | omega | decide | assumption | (have q0 := kc_0; have q1 := kc_1; omega)) (by omega) hG hP hD hS hl
set_option maxHeartbeats 4000000 in
set_option maxRecDepth 100000 in
theorem tX7_wrong (l : Launch) (dC : Nat → ClassId) (dI : Nat → Nat → Nat) (sz : Nat) (oM : Nat) (iM_thrown : Int32) (rM_tape : Nat) (iM_taped : Int32) (iM_size : Int32) (iM_at : Int32) (iM_end : Int32) (iM_token : Int32) (iM_whole : Int32) (iM_nameSize : Int32) (iM_fault : Int32) (iM_place : Int32) (iM_trouble : Int32) (rM_letters : Nat) (iM_failed : Int32) (iM_hasCourt : Int32) (rM_r : Nat) (rM_fresh : Nat) (rM_told : Nat) (rM_read : Nat) (rM_st : Nat) (rM_undone : Nat) (rM_kept : Nat) (iM_undos : Int32) (iM_images : Int32) (rM_fresher : Nat) (iM_fresherSize : Int32) (iM_scale : Int32) (iM_night : Int32) (rM_heardRow : Nat) (rM_cutRow : Nat) (iM_breaths : Int32) (iM_cutMany : Int32) (iM_allBreaths : Int32) (rM_trial : Nat) (rM_words : Nat) (iM_fewestBreaths : Int32) (iM_orderMany : Int32) (iM_orderSum : Int32) (iM_leastOrder : Int32) (rM_often : Nat) (iM_setMany : Int32) (iM_someOf : Int32) (iM_allOf : Int32) (iM_allWeight : Int64) (iM_enoughWeight : Int64) (iM_worthSum : Int64) (iM_firstRest : Int32) (iM_leastDrawn : Int32) (p0 : Int32) (p1 : Int32) (b_iM_taped : 0 ≤ iM_taped.toInt ∧ iM_taped.toInt ≤ 900) (b_iM_size : 0 ≤ iM_size.toInt ∧ iM_size.toInt ≤ 900) (b_iM_end : 0 ≤ iM_end.toInt ∧ iM_end.toInt ≤ 900) (b_iM_nameSize : 0 ≤ iM_nameSize.toInt ∧ iM_nameSize.toInt ≤ 900) (b_iM_failed : 0 ≤ iM_failed.toInt ∧ iM_failed.toInt ≤ 1) (b_iM_hasCourt : 0 ≤ iM_hasCourt.toInt ∧ iM_hasCourt.toInt ≤ 1) (b_iM_undos : 0 ≤ iM_undos.toInt ∧ iM_undos.toInt ≤ 16) (b_iM_images : 0 ≤ iM_images.toInt ∧ iM_images.toInt ≤ 3) (b_iM_scale : 1 ≤ iM_scale.toInt ∧ iM_scale.toInt ≤ 1296) (b_iM_breaths : 0 ≤ iM_breaths.toInt ∧ iM_breaths.toInt ≤ 399) (b_iM_cutMany : 0 ≤ iM_cutMany.toInt ∧ iM_cutMany.toInt ≤ 399) (r_T : ImpP (iM_token.toInt = 2) (iM_nameSize.toInt ≤ 8))  : Met l yX7_wrong (Cond.code yX7_wrong cX7_wrong 3 none :: wG) ({ frames := 0, cells := 0, slots := 0, locals := 0 }) (va_Pc [.ref oM, .int p0, .int p1] (Pw dC dI sz [(oc7 oM iM_thrown rM_tape iM_taped iM_size iM_at iM_end iM_token iM_whole iM_nameSize iM_fault iM_place iM_trouble rM_letters iM_failed iM_hasCourt rM_r rM_fresh rM_told rM_read rM_st rM_undone rM_kept iM_undos iM_images rM_fresher iM_fresherSize iM_scale iM_night rM_heardRow rM_cutRow iM_breaths iM_cutMany iM_allBreaths rM_trial rM_words iM_fewestBreaths iM_orderMany iM_orderSum iM_leastOrder rM_often iM_setMany iM_someOf iM_allOf iM_allWeight iM_enoughWeight iM_worthSum iM_firstRest iM_leastDrawn)] [])) (va_Qv (fun (_ : Nat) => True) (fun (_ : Nat) (t : State) => ∃ (niM_fault : Int32) (niM_place : Int32) (niM_failed : Int32), (0 ≤ niM_failed.toInt ∧ niM_failed.toInt ≤ 1) ∧ (niM_failed.toInt = 1) ∧ (PX7_wrong iM_fault iM_place iM_failed p0 p1 = (niM_fault, niM_place, niM_failed)) ∧ Bw dC dI (va_A [(oc7 oM iM_thrown rM_tape iM_taped iM_size iM_at iM_end iM_token iM_whole iM_nameSize iM_fault iM_place iM_trouble rM_letters iM_failed iM_hasCourt rM_r rM_fresh rM_told rM_read rM_st rM_undone rM_kept iM_undos iM_images rM_fresher iM_fresherSize iM_scale iM_night rM_heardRow rM_cutRow iM_breaths iM_cutMany iM_allBreaths rM_trial rM_words iM_fewestBreaths iM_orderMany iM_orderSum iM_leastOrder rM_often iM_setMany iM_someOf iM_allOf iM_allWeight iM_enoughWeight iM_worthSum iM_firstRest iM_leastDrawn)] sz) [(oc7 oM iM_thrown rM_tape iM_taped iM_size iM_at iM_end iM_token iM_whole iM_nameSize niM_fault niM_place iM_trouble rM_letters niM_failed iM_hasCourt rM_r rM_fresh rM_told rM_read rM_st rM_undone rM_kept iM_undos iM_images rM_fresher iM_fresherSize iM_scale iM_night rM_heardRow rM_cutRow iM_breaths iM_cutMany iM_allBreaths rM_trial rM_words iM_fewestBreaths iM_orderMany iM_orderSum iM_leastOrder rM_often iM_setMany iM_someOf iM_allOf iM_allWeight iM_enoughWeight iM_worthSum iM_firstRest iM_leastDrawn)] [] t) (va_A [(oc7 oM iM_thrown rM_tape iM_taped iM_size iM_at iM_end iM_token iM_whole iM_nameSize iM_fault iM_place iM_trouble rM_letters iM_failed iM_hasCourt rM_r rM_fresh rM_told rM_read rM_st rM_undone rM_kept iM_undos iM_images rM_fresher iM_fresherSize iM_scale iM_night rM_heardRow rM_cutRow iM_breaths iM_cutMany iM_allBreaths rM_trial rM_words iM_fewestBreaths iM_orderMany iM_orderSum iM_leastOrder rM_often iM_setMany iM_someOf iM_allOf iM_allWeight iM_enoughWeight iM_worthSum iM_firstRest iM_leastDrawn)] sz)) 0 0 (va_A [(oc7 oM iM_thrown rM_tape iM_taped iM_size iM_at iM_end iM_token iM_whole iM_nameSize iM_fault iM_place iM_trouble rM_letters iM_failed iM_hasCourt rM_r rM_fresh rM_told rM_read rM_st rM_undone rM_kept iM_undos iM_images rM_fresher iM_fresherSize iM_scale iM_night rM_heardRow rM_cutRow iM_breaths iM_cutMany iM_allBreaths rM_trial rM_words iM_fewestBreaths iM_orderMany iM_orderSum iM_leastOrder rM_often iM_setMany iM_someOf iM_allOf iM_allWeight iM_enoughWeight iM_worthSum iM_firstRest iM_leastDrawn)] sz) := by
  refine Met.ofW (cc := cX7_wrong) (maxL := 3) (ret := none) (by decide) rfl ?_
  intro p e s m args below meth c s₁ B hml hv
  obtain ⟨rfl, hsz, hP, hK, hD0, hE⟩ := hv
  have hx := B.exec
  have hb := B.bytes
  have hr := B.returns
  have hts : ∀ w ∈ wG, w.before ([.ref oM, .int p0, .int p1] : List Value).toArray s = true := fun w h => atoms_spec (ws := Cond.code yX7_wrong cX7_wrong 3 none :: wG) B.pre w (List.mem_cons_of_mem _ h)
  have hown : s.vm.findClass RX7 = some m.cls := findClass_of_methodNamed B.named
  have hlocks := B.notSynchronized
  subst hsz
  have hD := hD0.self (sz := s.heap.size)
  generalize hAe : va_A [(oc7 oM iM_thrown rM_tape iM_taped iM_size iM_at iM_end iM_token iM_whole iM_nameSize iM_fault iM_place iM_trouble rM_letters iM_failed iM_hasCourt rM_r rM_fresh rM_told rM_read rM_st rM_undone rM_kept iM_undos iM_images rM_fresher iM_fresherSize iM_scale iM_night rM_heardRow rM_cutRow iM_breaths iM_cutMany iM_allBreaths rM_trial rM_words iM_fewestBreaths iM_orderMany iM_orderSum iM_leastOrder rM_often iM_setMany iM_someOf iM_allOf iM_allWeight iM_enoughWeight iM_worthSum iM_firstRest iM_leastDrawn)] s.heap.size = A at hD hE ⊢
  have hA : ∀ q : Nat, s.heap.size ≤ q → A q := fun q h => by rw [← hAe]; exact Or.inr h
  have hS : va_S A s.heap s.heap [] := va_S.rf
  have hl := lv_entry ([.ref oM, .int p0, .int p1]) (n := 3) (Nat.le_of_ble_eq_true rfl)
  rw [lg_entry_eq]
  generalize (lg_sl ([.ref oM, .int p0, .int p1]) ++ List.replicate (3 - (lg_sl ([.ref oM, .int p0, .int p1])).length) Slot.unset).toArray = ls at hl ⊢
  have hl : lv_has ls 3 [(0, .ref oM), (1, .int p0), (2, .int p1)] := hl
  have hG := PX7_wrong_eq iM_fault iM_place iM_failed p0 p1
  refine lv_aload_n hx hb dX7_wrong_0 rfl (lv_at hl 0 rfl) ?_
  refine va_get (D := (dC, dI)) (ci := 7) (v := .int iM_failed) (C := RX7) (T := TX7) (N := 48) hx hb hts inX7 hown hK hP 0 rfl rfl 13 (by decide) (hts _ wd_380) (fun _ h9 => h9) rfl dX7_wrong_1 ?_
  refine lv_if_eq (tgt := 8) hx hb dX7_wrong_4 (by decide) (fun c_4852 => ?_) (fun c_4852 => ?_)
  · skip
    have hG := hG.trans (if_pos c_4852)
    have gc_4852 := ti_eq c_4852 rfl kc_0
    refine lv_aload_n hx hb dX7_wrong_8 rfl (lv_at hl 0 rfl) ?_
    refine lv_iconst (v := 1) hx hb dX7_wrong_9 (by decide) ?_
    refine va_put (D := (dC, dI)) (ci := 7) (v := .int 1) (ty := .boolean) (C := RX7) (T := TX7) (N := 48) hx hb hts inX7 tyX7 tyX7_ok nmX7 hown hK hP hD hS 0 rfl rfl 13 (by decide) (hts _ wd_380) (fun _ h9 => h9) rfl (by decide +kernel) rfl rfl (Nat.le_of_ble_eq_true rfl) dX7_wrong_10 (fun H locs hP hD hS => ?_)
    obtain ⟨hP, hD⟩ := wl2 (ws' := [(oc7 oM iM_thrown rM_tape iM_taped iM_size iM_at iM_end iM_token iM_whole iM_nameSize iM_fault iM_place iM_trouble rM_letters 1 iM_hasCourt rM_r rM_fresh rM_told rM_read rM_st rM_undone rM_kept iM_undos iM_images rM_fresher iM_fresherSize iM_scale iM_night rM_heardRow rM_cutRow iM_breaths iM_cutMany iM_allBreaths rM_trial rM_words iM_fewestBreaths iM_orderMany iM_orderSum iM_leastOrder rM_often iM_setMany iM_someOf iM_allOf iM_allWeight iM_enoughWeight iM_worthSum iM_firstRest iM_leastDrawn)]) hP hD rfl
    refine lv_aload_n hx hb dX7_wrong_13 rfl (lv_at hl 0 rfl) ?_
    refine lv_iload_n hx hb dX7_wrong_14 rfl (lv_at hl 1 rfl) ?_
    refine va_put (D := (dC, dI)) (ci := 7) (v := .int p0) (ty := .int) (C := RX7) (T := TX7) (N := 48) hx hb hts inX7 tyX7 tyX7_ok nmX7 hown hK hP hD hS 0 rfl rfl 9 (by decide) (hts _ wd_379) (fun _ h9 => h9) rfl (by decide +kernel) rfl rfl (Nat.le_of_ble_eq_true rfl) dX7_wrong_15 (fun H locs hP hD hS => ?_)
    obtain ⟨hP, hD⟩ := wl2 (ws' := [(oc7 oM iM_thrown rM_tape iM_taped iM_size iM_at iM_end iM_token iM_whole iM_nameSize p0 iM_place iM_trouble rM_letters 1 iM_hasCourt rM_r rM_fresh rM_told rM_read rM_st rM_undone rM_kept iM_undos iM_images rM_fresher iM_fresherSize iM_scale iM_night rM_heardRow rM_cutRow iM_breaths iM_cutMany iM_allBreaths rM_trial rM_words iM_fewestBreaths iM_orderMany iM_orderSum iM_leastOrder rM_often iM_setMany iM_someOf iM_allOf iM_allWeight iM_enoughWeight iM_worthSum iM_firstRest iM_leastDrawn)]) hP hD rfl
    refine lv_aload_n hx hb dX7_wrong_18 rfl (lv_at hl 0 rfl) ?_
    refine lv_iload_n hx hb dX7_wrong_19 rfl (lv_at hl 2 rfl) ?_
    refine va_put (D := (dC, dI)) (ci := 7) (v := .int p1) (ty := .int) (C := RX7) (T := TX7) (N := 48) hx hb hts inX7 tyX7 tyX7_ok nmX7 hown hK hP hD hS 0 rfl rfl 10 (by decide) (hts _ wd_153) (fun _ h9 => h9) rfl (by decide +kernel) rfl rfl (Nat.le_of_ble_eq_true rfl) dX7_wrong_20 (fun H locs hP hD hS => ?_)
    obtain ⟨hP, hD⟩ := wl2 (ws' := [(oc7 oM iM_thrown rM_tape iM_taped iM_size iM_at iM_end iM_token iM_whole iM_nameSize p0 p1 iM_trouble rM_letters 1 iM_hasCourt rM_r rM_fresh rM_told rM_read rM_st rM_undone rM_kept iM_undos iM_images rM_fresher iM_fresherSize iM_scale iM_night rM_heardRow rM_cutRow iM_breaths iM_cutMany iM_allBreaths rM_trial rM_words iM_fewestBreaths iM_orderMany iM_orderSum iM_leastOrder rM_often iM_setMany iM_someOf iM_allOf iM_allWeight iM_enoughWeight iM_worthSum iM_firstRest iM_leastDrawn)]) hP hD rfl
    exact W.vret hx hb hr (fun t ht hW => ⟨⟨0, rfl, trivial, ⟨p0, p1, 1, (by decide), (by first | omega | decide | assumption), hG, Bw.to (hP.sub [0] rfl) (hD.sub [0] (by decide) rfl) (hK.sub [] rfl) ht hW⟩⟩, hS.F ht⟩) hS.2.2 dX7_wrong_23
  · skip
    have hG := hG.trans (if_neg c_4852)
    have gc_4852 := ti_ne c_4852 rfl kc_0
    replace gc_4852 : (-1) * iM_failed.toInt + 1 ≤ 0 := by omega
    exact W.vret hx hb hr (fun t ht hW => ⟨⟨0, rfl, trivial, ⟨iM_fault, iM_place, iM_failed, (by omega), (by first | omega | decide | assumption), hG, Bw.to (hP.sub [0] rfl) (hD.sub [0] (by decide) rfl) (hK.sub [] rfl) ht hW⟩⟩, hS.F ht⟩) hS.2.2 dX7_wrong_7
set_option maxHeartbeats 4000000 in
set_option maxRecDepth 100000 in
theorem tX7_isWord (l : Launch) (dC : Nat → ClassId) (dI : Nat → Nat → Nat) (sz : Nat) (oM : Nat) (iM_thrown : Int32) (rM_tape : Nat) (iM_taped : Int32) (iM_size : Int32) (iM_at : Int32) (iM_end : Int32) (iM_token : Int32) (iM_whole : Int32) (iM_nameSize : Int32) (iM_fault : Int32) (iM_place : Int32) (iM_trouble : Int32) (rM_letters : Nat) (fM_letters : Nat → Int32) (kM_letters : ClassId) (iM_failed : Int32) (iM_hasCourt : Int32) (rM_r : Nat) (rM_fresh : Nat) (rM_told : Nat) (rM_read : Nat) (rM_st : Nat) (rM_undone : Nat) (rM_kept : Nat) (iM_undos : Int32) (iM_images : Int32) (rM_fresher : Nat) (iM_fresherSize : Int32) (iM_scale : Int32) (iM_night : Int32) (rM_heardRow : Nat) (rM_cutRow : Nat) (iM_breaths : Int32) (iM_cutMany : Int32) (iM_allBreaths : Int32) (rM_trial : Nat) (rM_words : Nat) (iM_fewestBreaths : Int32) (iM_orderMany : Int32) (iM_orderSum : Int32) (iM_leastOrder : Int32) (rM_often : Nat) (iM_setMany : Int32) (iM_someOf : Int32) (iM_allOf : Int32) (iM_allWeight : Int64) (iM_enoughWeight : Int64) (iM_worthSum : Int64) (iM_firstRest : Int32) (iM_leastDrawn : Int32) (sA : Nat) (sV : Nat) (sN : Nat) (sF : Nat → Int32) (b_iM_taped : 0 ≤ iM_taped.toInt ∧ iM_taped.toInt ≤ 900) (b_iM_size : 0 ≤ iM_size.toInt ∧ iM_size.toInt ≤ 900) (b_iM_end : 0 ≤ iM_end.toInt ∧ iM_end.toInt ≤ 900) (b_iM_nameSize : 0 ≤ iM_nameSize.toInt ∧ iM_nameSize.toInt ≤ 900) (b_iM_failed : 0 ≤ iM_failed.toInt ∧ iM_failed.toInt ≤ 1) (b_iM_hasCourt : 0 ≤ iM_hasCourt.toInt ∧ iM_hasCourt.toInt ≤ 1) (b_iM_undos : 0 ≤ iM_undos.toInt ∧ iM_undos.toInt ≤ 16) (b_iM_images : 0 ≤ iM_images.toInt ∧ iM_images.toInt ≤ 3) (b_iM_scale : 1 ≤ iM_scale.toInt ∧ iM_scale.toInt ≤ 1296) (b_iM_breaths : 0 ≤ iM_breaths.toInt ∧ iM_breaths.toInt ≤ 399) (b_iM_cutMany : 0 ≤ iM_cutMany.toInt ∧ iM_cutMany.toInt ≤ 399) (r_T : ImpP (iM_token.toInt = 2) (iM_nameSize.toInt ≤ 8)) (hsn : sN ≤ 8) : Met l yX7_isWord (Cond.code yX7_isWord cX7_isWord 4 (some .boolean) :: wG) ({ frames := 4, cells := 0, slots := 0, locals := 111 }) (va_Pc [.ref oM, .ref sA] (Pq dC dI sz [(oc7 oM iM_thrown rM_tape iM_taped iM_size iM_at iM_end iM_token iM_whole iM_nameSize iM_fault iM_place iM_trouble rM_letters iM_failed iM_hasCourt rM_r rM_fresh rM_told rM_read rM_st rM_undone rM_kept iM_undos iM_images rM_fresher iM_fresherSize iM_scale iM_night rM_heardRow rM_cutRow iM_breaths iM_cutMany iM_allBreaths rM_trial rM_words iM_fewestBreaths iM_orderMany iM_orderSum iM_leastOrder rM_often iM_setMany iM_someOf iM_allOf iM_allWeight iM_enoughWeight iM_worthSum iM_firstRest iM_leastDrawn), (arI rM_letters kM_letters 8 fM_letters)] [(kM_letters, .int)] sA sV sN sF)) (va_Qi (fun (r : Int32) (_ : Nat) => ((r = 0 ∨ r = 1) ∧ (r.toInt = 1 → iM_token.toInt = 2)) ∧ PX7_isWord iM_token iM_nameSize fM_letters iM_failed sN sF = r) (fun (_ : Nat) (t : State) => Bw dC dI (va_A [(oc7 oM iM_thrown rM_tape iM_taped iM_size iM_at iM_end iM_token iM_whole iM_nameSize iM_fault iM_place iM_trouble rM_letters iM_failed iM_hasCourt rM_r rM_fresh rM_told rM_read rM_st rM_undone rM_kept iM_undos iM_images rM_fresher iM_fresherSize iM_scale iM_night rM_heardRow rM_cutRow iM_breaths iM_cutMany iM_allBreaths rM_trial rM_words iM_fewestBreaths iM_orderMany iM_orderSum iM_leastOrder rM_often iM_setMany iM_someOf iM_allOf iM_allWeight iM_enoughWeight iM_worthSum iM_firstRest iM_leastDrawn), (arI rM_letters kM_letters 8 fM_letters)] sz) [(oc7 oM iM_thrown rM_tape iM_taped iM_size iM_at iM_end iM_token iM_whole iM_nameSize iM_fault iM_place iM_trouble rM_letters iM_failed iM_hasCourt rM_r rM_fresh rM_told rM_read rM_st rM_undone rM_kept iM_undos iM_images rM_fresher iM_fresherSize iM_scale iM_night rM_heardRow rM_cutRow iM_breaths iM_cutMany iM_allBreaths rM_trial rM_words iM_fewestBreaths iM_orderMany iM_orderSum iM_leastOrder rM_often iM_setMany iM_someOf iM_allOf iM_allWeight iM_enoughWeight iM_worthSum iM_firstRest iM_leastDrawn), (arI rM_letters kM_letters 8 fM_letters)] [(kM_letters, .int)] t) (va_A [(oc7 oM iM_thrown rM_tape iM_taped iM_size iM_at iM_end iM_token iM_whole iM_nameSize iM_fault iM_place iM_trouble rM_letters iM_failed iM_hasCourt rM_r rM_fresh rM_told rM_read rM_st rM_undone rM_kept iM_undos iM_images rM_fresher iM_fresherSize iM_scale iM_night rM_heardRow rM_cutRow iM_breaths iM_cutMany iM_allBreaths rM_trial rM_words iM_fewestBreaths iM_orderMany iM_orderSum iM_leastOrder rM_often iM_setMany iM_someOf iM_allOf iM_allWeight iM_enoughWeight iM_worthSum iM_firstRest iM_leastDrawn), (arI rM_letters kM_letters 8 fM_letters)] sz)) 0 0 (va_A [(oc7 oM iM_thrown rM_tape iM_taped iM_size iM_at iM_end iM_token iM_whole iM_nameSize iM_fault iM_place iM_trouble rM_letters iM_failed iM_hasCourt rM_r rM_fresh rM_told rM_read rM_st rM_undone rM_kept iM_undos iM_images rM_fresher iM_fresherSize iM_scale iM_night rM_heardRow rM_cutRow iM_breaths iM_cutMany iM_allBreaths rM_trial rM_words iM_fewestBreaths iM_orderMany iM_orderSum iM_leastOrder rM_often iM_setMany iM_someOf iM_allOf iM_allWeight iM_enoughWeight iM_worthSum iM_firstRest iM_leastDrawn), (arI rM_letters kM_letters 8 fM_letters)] sz) := by
  refine Met.ofW (cc := cX7_isWord) (maxL := 4) (ret := (some .boolean)) (by decide) rfl ?_
  intro p e s m args below meth c s₁ B hml hv
  obtain ⟨rfl, ⟨hsz, hP, hK, hD0, hE⟩, hSw⟩ := hv
  have hx := B.exec
  have hb := B.bytes
  have hr := B.returns
  have hts : ∀ w ∈ wG, w.before ([.ref oM, .ref sA] : List Value).toArray s = true := fun w h => atoms_spec (ws := Cond.code yX7_isWord cX7_isWord 4 (some .boolean) :: wG) B.pre w (List.mem_cons_of_mem _ h)
  have hown : s.vm.findClass RX7 = some m.cls := findClass_of_methodNamed B.named
  have hlocks := B.notSynchronized
  subst hsz
  have hD := hD0.self (sz := s.heap.size)
  generalize hAe : va_A [(oc7 oM iM_thrown rM_tape iM_taped iM_size iM_at iM_end iM_token iM_whole iM_nameSize iM_fault iM_place iM_trouble rM_letters iM_failed iM_hasCourt rM_r rM_fresh rM_told rM_read rM_st rM_undone rM_kept iM_undos iM_images rM_fresher iM_fresherSize iM_scale iM_night rM_heardRow rM_cutRow iM_breaths iM_cutMany iM_allBreaths rM_trial rM_words iM_fewestBreaths iM_orderMany iM_orderSum iM_leastOrder rM_often iM_setMany iM_someOf iM_allOf iM_allWeight iM_enoughWeight iM_worthSum iM_firstRest iM_leastDrawn), (arI rM_letters kM_letters 8 fM_letters)] s.heap.size = A at hD hE hSw ⊢
  have hA : ∀ q : Nat, s.heap.size ≤ q → A q := fun q h => by rw [← hAe]; exact Or.inr h
  have hS : va_S A s.heap s.heap [] := va_S.rf
  have hl := lv_entry ([.ref oM, .ref sA]) (n := 4) (Nat.le_of_ble_eq_true rfl)
  rw [lg_entry_eq]
  generalize (lg_sl ([.ref oM, .ref sA]) ++ List.replicate (4 - (lg_sl ([.ref oM, .ref sA])).length) Slot.unset).toArray = ls at hl ⊢
  have hl : lv_has ls 4 [(0, .ref oM), (1, .ref sA)] := hl
  have hG := PX7_isWord_eq iM_token iM_nameSize fM_letters iM_failed sN sF
  refine lv_aload_n hx hb dX7_isWord_0 rfl (lv_at hl 0 rfl) ?_
  refine va_get (D := (dC, dI)) (ci := 7) (v := .int iM_failed) (C := RX7) (T := TX7) (N := 48) hx hb hts inX7 hown hK hP 0 rfl rfl 13 (by decide) (hts _ wd_380) (fun _ h9 => h9) rfl dX7_isWord_1 ?_
  refine lv_if_ne (tgt := 26) hx hb dX7_isWord_4 (by decide) (fun c_4869 => ?_) (fun c_4869 => ?_)
  · skip
    have hG := hG.trans (if_neg c_4869)
    have gc_4869 := ti_ne c_4869 rfl kc_0
    replace gc_4869 : (-1) * iM_failed.toInt + 1 ≤ 0 := by omega
    refine lv_iconst (v := 0) hx hb dX7_isWord_26 (by decide) ?_
    exact W.zret (v := 0) hx hb hr rfl (fun t ht hW => ⟨⟨_, 0, rfl, ⟨⟨Or.inl rfl, (by have q := kc_0; first | omega | assumption)⟩, hG⟩, Bw.to (hP.sub [0, 1] rfl) (hD.sub [0, 1] (by decide) rfl) (hK.sub [0] rfl) ht hW⟩, hS.F ht⟩) hS.2.2 dX7_isWord_27
  · skip
    have hG := hG.trans (if_pos c_4869)
    have gc_4869 := ti_eq c_4869 rfl kc_0
    refine lv_aload_n hx hb dX7_isWord_7 rfl (lv_at hl 0 rfl) ?_
    refine va_get (D := (dC, dI)) (ci := 7) (v := .int iM_token) (C := RX7) (T := TX7) (N := 48) hx hb hts inX7 hown hK hP 0 rfl rfl 6 (by decide) (hts _ wd_383) (fun _ h9 => h9) rfl dX7_isWord_8 ?_
    refine lv_iconst (v := 2) hx hb dX7_isWord_11 (by decide) ?_
    refine lv_icmp_ne (tgt := 26) hx hb dX7_isWord_12 (by decide) (fun c_4870 => ?_) (fun c_4870 => ?_)
    · skip
      have hG := hG.trans (if_neg c_4870)
      have gc_4870 := ti_ne c_4870 rfl kc_2
      refine lv_iconst (v := 0) hx hb dX7_isWord_26 (by decide) ?_
      exact W.zret (v := 0) hx hb hr rfl (fun t ht hW => ⟨⟨_, 0, rfl, ⟨⟨Or.inl rfl, (by have q := kc_0; first | omega | assumption)⟩, hG⟩, Bw.to (hP.sub [0, 1] rfl) (hD.sub [0, 1] (by decide) rfl) (hK.sub [0] rfl) ht hW⟩, hS.F ht⟩) hS.2.2 dX7_isWord_27
    · skip
      have hG := hG.trans (if_pos c_4870)
      have gc_4870 := ti_eq c_4870 rfl kc_2
      have h_4871 := r_T (by omega)
      clear r_T
      refine lv_aload_n hx hb dX7_isWord_15 rfl (lv_at hl 0 rfl) ?_
      refine va_get (D := (dC, dI)) (ci := 7) (v := .int iM_nameSize) (C := RX7) (T := TX7) (N := 48) hx hb hts inX7 hown hK hP 0 rfl rfl 8 (by decide) (hts _ wd_404) (fun _ h9 => h9) rfl dX7_isWord_16 ?_
      refine lv_aload_n hx hb dX7_isWord_19 rfl (lv_at hl 1 rfl) ?_
      have hFc : ∀ q, va_A [] _ q → A q := fun q h => hA q (Nat.le_trans hS.1 (va_nilA h))
      refine va_calli (va_runV (As := []) (rest := [.int iM_nameSize]) ⟨hx, hb, hml, hown, hts⟩ (c_length l dC dI _ sA sV sN sF) (cwV 0 hts (wd_V wd_424 wd_72 wd_73 wd_74 (wd_c wd_75)) rfl rfl rfl (by decide +kernel) ⟨Nat.le_of_ble_eq_true rfl, Nat.le_of_ble_eq_true rfl⟩) ⟨Ps.fb, va_Orecv hSw.1 hS, fun U hU hW => Ps.to hK hSw hE hS hA hU hW⟩ rfl rfl hl.1 rfl (lv_room (Nat.le_of_ble_eq_true rfl)) dX7_isWord_20 ⟨Nat.le_of_ble_eq_true rfl, Nat.le_of_ble_eq_true rfl⟩) hS (fun q _ h => hFc q h) hFc (fun r u t H locs ht hvm hw hB hz1 hk1 hS => ?_)
      obtain ⟨hP, hD, hK⟩ := Bw.same ht hvm hP hD hK hk1 hFc
      clear hz1 hk1 hvm ht hB
      obtain ⟨x_4872, rfl⟩ : ∃ z, z = r := ⟨_, rfl⟩
      have hG := hG.trans (lt_eq hw)
      have vx_4872 : x_4872.toInt = (sN : Int) := by rw [hw]; exact nI_toInt (by omega)
      refine lv_icmp_eq (tgt := 28) hx hb dX7_isWord_23 (by decide) (fun c_4873 => ?_) (fun c_4873 => ?_)
      · skip
        have hG := hG.trans (if_pos c_4873)
        have gc_4873 := ti_eq c_4873 rfl vx_4872
        refine lv_iconst (v := 1) hx hb dX7_isWord_28 (by decide) ?_
        refine lv_istore_n (lv' := [(2, .int 1), (0, .ref oM), (1, .ref sA)]) hx hb dX7_isWord_29 rfl hl (by decide) rfl (fun ls hl => ?_)
        refine lv_iconst (v := 0) hx hb dX7_isWord_30 (by decide) ?_
        refine lv_istore_n (lv' := [(3, .int 0), (2, .int 1), (0, .ref oM), (1, .ref sA)]) hx hb dX7_isWord_31 rfl hl (by decide) rfl (fun ls hl => ?_)
        have hl := lv_sub hl (l' := [(3, .int 0), (2, .int 1), (0, .ref oM), (1, .ref sA)]) [0, 1, 2, 3] rfl
        have key_n_4876 : ∀ (n_4876 : Nat) (z_4874 : Int32) (z_4875 : Int32) (H : Heap) (locs : List Loc) (ls : Array Slot), (0 ≤ z_4874.toInt ∧ z_4874.toInt ≤ iM_nameSize.toInt) → (0 ≤ z_4875.toInt ∧ z_4875.toInt ≤ 1) → (iM_nameSize.toInt - z_4874.toInt).toNat < n_4876 → (PX7_isWord iM_token iM_nameSize fM_letters iM_failed sN sF = HX7_isWord_0 iM_nameSize fM_letters sF n_4876 z_4874 z_4875) → va_P (dC, dI) vwCl [(oc7 oM iM_thrown rM_tape iM_taped iM_size iM_at iM_end iM_token iM_whole iM_nameSize iM_fault iM_place iM_trouble rM_letters iM_failed iM_hasCourt rM_r rM_fresh rM_told rM_read rM_st rM_undone rM_kept iM_undos iM_images rM_fresher iM_fresherSize iM_scale iM_night rM_heardRow rM_cutRow iM_breaths iM_cutMany iM_allBreaths rM_trial rM_words iM_fewestBreaths iM_orderMany iM_orderSum iM_leastOrder rM_often iM_setMany iM_someOf iM_allOf iM_allWeight iM_enoughWeight iM_worthSum iM_firstRest iM_leastDrawn), (arI rM_letters kM_letters 8 fM_letters)] H → va_D A [(oc7 oM iM_thrown rM_tape iM_taped iM_size iM_at iM_end iM_token iM_whole iM_nameSize iM_fault iM_place iM_trouble rM_letters iM_failed iM_hasCourt rM_r rM_fresh rM_told rM_read rM_st rM_undone rM_kept iM_undos iM_images rM_fresher iM_fresherSize iM_scale iM_night rM_heardRow rM_cutRow iM_breaths iM_cutMany iM_allBreaths rM_trial rM_words iM_fewestBreaths iM_orderMany iM_orderSum iM_leastOrder rM_often iM_setMany iM_someOf iM_allOf iM_allWeight iM_enoughWeight iM_worthSum iM_firstRest iM_leastDrawn), (arI rM_letters kM_letters 8 fM_letters)] → va_S A s.heap H locs → lv_has ls 4 [(3, .int z_4874), (2, .int z_4875), (0, .ref oM), (1, .ref sA)] → W p l e (headSpec (Cond.code yX7_isWord cX7_isWord 4 (some .boolean) :: wG) ({ frames := 4, cells := 0, slots := 0, locals := 111 })).room s m ([.ref oM, .ref sA] : List Value).toArray below meth c H locs 0 0 (MQ below (va_Qi (fun (r : Int32) (_ : Nat) => ((r = 0 ∨ r = 1) ∧ (r.toInt = 1 → iM_token.toInt = 2)) ∧ PX7_isWord iM_token iM_nameSize fM_letters iM_failed sN sF = r) (fun (_ : Nat) (t : State) => Bw dC dI A [(oc7 oM iM_thrown rM_tape iM_taped iM_size iM_at iM_end iM_token iM_whole iM_nameSize iM_fault iM_place iM_trouble rM_letters iM_failed iM_hasCourt rM_r rM_fresh rM_told rM_read rM_st rM_undone rM_kept iM_undos iM_images rM_fresher iM_fresherSize iM_scale iM_night rM_heardRow rM_cutRow iM_breaths iM_cutMany iM_allBreaths rM_trial rM_words iM_fewestBreaths iM_orderMany iM_orderSum iM_leastOrder rM_often iM_setMany iM_someOf iM_allOf iM_allWeight iM_enoughWeight iM_worthSum iM_firstRest iM_leastDrawn), (arI rM_letters kM_letters 8 fM_letters)] [(kM_letters, .int)] t) A) ([.ref oM, .ref sA] : List Value).toArray s 0 0 A) (F0 m 32 ls []) := by
          intro n_4876
          induction n_4876 with
          | zero => intro z_4874 z_4875 H locs ls hi0_n_4876 hi1_n_4876 hm; exact absurd hm (by omega)
          | succ n_4876 ih_n_4876 =>
            intro z_4874 z_4875 H locs ls hi0_n_4876 hi1_n_4876 hm hG hP hD hS hl
            have hG := hG.trans (HX7_isWord_0_eq _ _ _ _ _ _)
            refine lv_iload_n hx hb dX7_isWord_32 rfl (lv_at hl 0 rfl) ?_
            refine lv_aload_n hx hb dX7_isWord_33 rfl (lv_at hl 2 rfl) ?_
            refine va_get (D := (dC, dI)) (ci := 7) (v := .int iM_nameSize) (C := RX7) (T := TX7) (N := 48) hx hb hts inX7 hown hK hP 0 rfl rfl 8 (by decide) (hts _ wd_404) (fun _ h9 => h9) rfl dX7_isWord_34 ?_
            refine lv_icmp_ge (tgt := 70) hx hb dX7_isWord_37 (by decide) (fun c_4877 => ?_) (fun c_4877 => ?_)
            · skip
              have hG := hG.trans (if_pos c_4877)
              have gc_4877 := ti_le c_4877 rfl rfl
              refine lv_iload_n hx hb dX7_isWord_70 rfl (lv_at hl 1 rfl) ?_
              exact W.zret (v := z_4875) hx hb hr (bz_nar (bz_of (by omega))) (fun t ht hW => ⟨⟨_, 0, rfl, ⟨⟨(bz_of (by omega)), (by first | omega | assumption)⟩, hG⟩, Bw.to (hP.sub [0, 1] rfl) (hD.sub [0, 1] (by decide) rfl) (hK.sub [0] rfl) ht hW⟩, hS.F ht⟩) hS.2.2 dX7_isWord_71
            · skip
              have hG := hG.trans (if_neg c_4877)
              have gc_4877 := ti_nle c_4877 rfl rfl
              refine lv_iload_n hx hb dX7_isWord_40 rfl (lv_at hl 1 rfl) ?_
              refine lv_if_eq (tgt := 62) hx hb dX7_isWord_41 (by decide) (fun c_4878 => ?_) (fun c_4878 => ?_)
              · skip
                have hG := hG.trans (if_pos c_4878)
                have gc_4878 := ti_eq c_4878 rfl kc_0
                refine lv_iconst (v := 0) hx hb dX7_isWord_62 (by decide) ?_
                refine lv_istore_n (lv' := [(2, .int 0), (3, .int z_4874), (0, .ref oM), (1, .ref sA)]) hx hb dX7_isWord_63 rfl hl (by decide) rfl (fun ls hl => ?_)
                obtain ⟨x_4879, ex_4879⟩ : ∃ z : Int32, z = z_4874 + Int32.ofInt 1 := ⟨_, rfl⟩
                have hG := hG.trans (lt_eq ex_4879)
                have vx_4879 : x_4879.toInt = z_4874.toInt + 1 := by have q := ti_add (y := 1) ex_4879 rfl kc_1 (by omega) (by omega); omega
                refine lv_iinc (v := x_4879) (lv' := [(3, .int x_4879), (2, .int 0), (0, .ref oM), (1, .ref sA)]) hx hb dX7_isWord_64 hl (k := 1) rfl ex_4879.symm (by decide) rfl (fun ls hl => ?_)
                refine lv_goto (tgt := 32) hx hb dX7_isWord_67 (by decide) ?_
                exact ih_n_4876 x_4879 0 _ _ _  (by first | omega | decide | assumption) (by first | omega | decide | assumption) (by omega) hG (hP.sub [0, 1] rfl) (hD.sub [0, 1] (by decide) rfl) hS (lv_sub hl [0, 1, 2, 3] rfl)
              · skip
                have hG := hG.trans (if_neg c_4878)
                have gc_4878 := ti_ne c_4878 rfl kc_0
                replace gc_4878 : (-1) * z_4875.toInt + 1 ≤ 0 := by omega
                refine lv_aload_n hx hb dX7_isWord_44 rfl (lv_at hl 2 rfl) ?_
                refine va_get (D := (dC, dI)) (ci := 7) (v := .ref rM_letters) (C := RX7) (T := TX7) (N := 48) hx hb hts inX7 hown hK hP 0 rfl rfl 12 (by decide) (hts _ wd_154) (fun _ h9 => h9) rfl dX7_isWord_45 ?_
                refine lv_iload_n hx hb dX7_isWord_48 rfl (lv_at hl 0 rfl) ?_
                refine va_iald hx hb hK hP 1 0 rfl rfl (ti_in rfl (by omega) (by omega)) dX7_isWord_49 ?_
                refine lv_topi (fun x_4880 ex_4880 => ?_)
                have hG := hG.trans (lt_eq ex_4880)
                have kx_4880 : (fM_letters z_4874.toNatClampNeg).toInt = x_4880.toInt := by rw [ex_4880]
                have cx_4880 := kx_4880
                refine lv_aload_n hx hb dX7_isWord_50 rfl (lv_at hl 3 rfl) ?_
                refine lv_iload_n hx hb dX7_isWord_51 rfl (lv_at hl 0 rfl) ?_
                have hFc : ∀ q, va_A [] _ q → A q := fun q h => hA q (Nat.le_trans hS.1 (va_nilA h))
                refine va_calli (va_runV (As := [.int z_4874]) (rest := [.int x_4880]) ⟨hx, hb, hml, hown, hts⟩ (c_charAt32 l dC dI _ sA sV sN sF z_4874 (by omega) (by omega) hsn) (cwV 1 hts (wd_V wd_425 wd_84 wd_85 wd_74 (wd_c wd_86)) rfl rfl rfl (by decide +kernel) ⟨Nat.le_of_ble_eq_true rfl, Nat.le_of_ble_eq_true rfl⟩) ⟨Ps.fb, va_Orecv hSw.1 hS, fun U hU hW => Ps.to hK hSw hE hS hA hU hW⟩ rfl rfl hl.1 rfl (lv_room (Nat.le_of_ble_eq_true rfl)) dX7_isWord_52 ⟨Nat.le_of_ble_eq_true rfl, Nat.le_of_ble_eq_true rfl⟩) hS (fun q _ h => hFc q h) hFc (fun r u t H locs ht hvm hw hB hz1 hk1 hS => ?_)
                obtain ⟨hP, hD, hK⟩ := Bw.same ht hvm hP hD hK hk1 hFc
                clear hz1 hk1 hvm ht hB
                obtain ⟨x_4881, rfl⟩ : ∃ z, z = r := ⟨_, rfl⟩
                have hG := hG.trans (lt_eq hw.2)
                refine lv_icmp_ne (tgt := 62) hx hb dX7_isWord_55 (by decide) (fun c_4882 => ?_) (fun c_4882 => ?_)
                · skip
                  have hG := hG.trans (if_neg c_4882)
                  have gc_4882 := ti_ne c_4882 rfl rfl
                  refine lv_iconst (v := 0) hx hb dX7_isWord_62 (by decide) ?_
                  refine lv_istore_n (lv' := [(2, .int 0), (3, .int z_4874), (0, .ref oM), (1, .ref sA)]) hx hb dX7_isWord_63 rfl hl (by decide) rfl (fun ls hl => ?_)
                  obtain ⟨x_4883, ex_4883⟩ : ∃ z : Int32, z = z_4874 + Int32.ofInt 1 := ⟨_, rfl⟩
                  have hG := hG.trans (lt_eq ex_4883)
                  have vx_4883 : x_4883.toInt = z_4874.toInt + 1 := by have q := ti_add (y := 1) ex_4883 rfl kc_1 (by omega) (by omega); omega
                  refine lv_iinc (v := x_4883) (lv' := [(3, .int x_4883), (2, .int 0), (0, .ref oM), (1, .ref sA)]) hx hb dX7_isWord_64 hl (k := 1) rfl ex_4883.symm (by decide) rfl (fun ls hl => ?_)
                  refine lv_goto (tgt := 32) hx hb dX7_isWord_67 (by decide) ?_
                  exact ih_n_4876 x_4883 0 _ _ _  (by first | omega | decide | assumption) (by first | omega | decide | assumption) (by omega) hG (hP.sub [0, 1] rfl) (hD.sub [0, 1] (by decide) rfl) hS (lv_sub hl [0, 1, 2, 3] rfl)
                · skip
                  have hG := hG.trans (if_pos c_4882)
                  have gc_4882 := ti_eq c_4882 rfl rfl
                  refine lv_iconst (v := 1) hx hb dX7_isWord_58 (by decide) ?_
                  refine lv_goto (tgt := 63) hx hb dX7_isWord_59 (by decide) ?_
                  refine lv_istore_n (lv' := [(2, .int 1), (3, .int z_4874), (0, .ref oM), (1, .ref sA)]) hx hb dX7_isWord_63 rfl hl (by decide) rfl (fun ls hl => ?_)
                  obtain ⟨x_4884, ex_4884⟩ : ∃ z : Int32, z = z_4874 + Int32.ofInt 1 := ⟨_, rfl⟩
                  have hG := hG.trans (lt_eq ex_4884)
                  have vx_4884 : x_4884.toInt = z_4874.toInt + 1 := by have q := ti_add (y := 1) ex_4884 rfl kc_1 (by omega) (by omega); omega
                  refine lv_iinc (v := x_4884) (lv' := [(3, .int x_4884), (2, .int 1), (0, .ref oM), (1, .ref sA)]) hx hb dX7_isWord_64 hl (k := 1) rfl ex_4884.symm (by decide) rfl (fun ls hl => ?_)
                  refine lv_goto (tgt := 32) hx hb dX7_isWord_67 (by decide) ?_
                  exact ih_n_4876 x_4884 1 _ _ _  (by first | omega | decide | assumption) (by first | omega | decide | assumption) (by omega) hG (hP.sub [0, 1] rfl) (hD.sub [0, 1] (by decide) rfl) hS (lv_sub hl [0, 1, 2, 3] rfl)
        exact key_n_4876 (((iM_nameSize.toInt - (0 : Int32).toInt).toNat) + 1) 0 1 _ _ _  (by first | omega | decide | assumption | (have q0 := kc_0; have q1 := kc_1; omega)) (by first | omega | decide | assumption | (have q0 := kc_0; have q1 := kc_1; omega)) (by omega) hG hP hD hS hl
      · skip
        have hG := hG.trans (if_neg c_4873)
        have gc_4873 := ti_ne c_4873 rfl vx_4872
        refine lv_iconst (v := 0) hx hb dX7_isWord_26 (by decide) ?_
        exact W.zret (v := 0) hx hb hr rfl (fun t ht hW => ⟨⟨_, 0, rfl, ⟨⟨Or.inl rfl, (by have q := kc_0; first | omega | assumption)⟩, hG⟩, Bw.to (hP.sub [0, 1] rfl) (hD.sub [0, 1] (by decide) rfl) (hK.sub [0] rfl) ht hW⟩, hS.F ht⟩) hS.2.2 dX7_isWord_27
set_option maxHeartbeats 4000000 in
set_option maxRecDepth 100000 in
theorem tX7_takesWord (l : Launch) (dC : Nat → ClassId) (dI : Nat → Nat → Nat) (sz : Nat) (oM : Nat) (iM_thrown : Int32) (rM_tape : Nat) (fM_tape : Nat → Int32) (kM_tape : ClassId) (iM_taped : Int32) (iM_size : Int32) (iM_at : Int32) (iM_end : Int32) (iM_token : Int32) (iM_whole : Int32) (iM_nameSize : Int32) (iM_fault : Int32) (iM_place : Int32) (iM_trouble : Int32) (rM_letters : Nat) (fM_letters : Nat → Int32) (kM_letters : ClassId) (iM_failed : Int32) (iM_hasCourt : Int32) (rM_r : Nat) (rM_fresh : Nat) (rM_told : Nat) (rM_read : Nat) (rM_st : Nat) (rM_undone : Nat) (rM_kept : Nat) (iM_undos : Int32) (iM_images : Int32) (rM_fresher : Nat) (iM_fresherSize : Int32) (iM_scale : Int32) (iM_night : Int32) (rM_heardRow : Nat) (rM_cutRow : Nat) (iM_breaths : Int32) (iM_cutMany : Int32) (iM_allBreaths : Int32) (rM_trial : Nat) (rM_words : Nat) (iM_fewestBreaths : Int32) (iM_orderMany : Int32) (iM_orderSum : Int32) (iM_leastOrder : Int32) (rM_often : Nat) (iM_setMany : Int32) (iM_someOf : Int32) (iM_allOf : Int32) (iM_allWeight : Int64) (iM_enoughWeight : Int64) (iM_worthSum : Int64) (iM_firstRest : Int32) (iM_leastDrawn : Int32) (sA : Nat) (sV : Nat) (sN : Nat) (sF : Nat → Int32) (b_iM_taped : 0 ≤ iM_taped.toInt ∧ iM_taped.toInt ≤ 900) (b_iM_size : 0 ≤ iM_size.toInt ∧ iM_size.toInt ≤ 900) (b_iM_end : 0 ≤ iM_end.toInt ∧ iM_end.toInt ≤ 900) (b_iM_nameSize : 0 ≤ iM_nameSize.toInt ∧ iM_nameSize.toInt ≤ 900) (b_iM_failed : 0 ≤ iM_failed.toInt ∧ iM_failed.toInt ≤ 1) (b_iM_hasCourt : 0 ≤ iM_hasCourt.toInt ∧ iM_hasCourt.toInt ≤ 1) (b_iM_undos : 0 ≤ iM_undos.toInt ∧ iM_undos.toInt ≤ 16) (b_iM_images : 0 ≤ iM_images.toInt ∧ iM_images.toInt ≤ 3) (b_iM_scale : 1 ≤ iM_scale.toInt ∧ iM_scale.toInt ≤ 1296) (b_iM_breaths : 0 ≤ iM_breaths.toInt ∧ iM_breaths.toInt ≤ 399) (b_iM_cutMany : 0 ≤ iM_cutMany.toInt ∧ iM_cutMany.toInt ≤ 399) (r_T : ImpP (iM_token.toInt = 2) (iM_nameSize.toInt ≤ 8)) (hsn : sN ≤ 8) : Met l yX7_takesWord (Cond.code yX7_takesWord cX7_takesWord 2 (some .boolean) :: wG) ({ frames := 5, cells := 0, slots := 0, locals := 134 }) (va_Pc [.ref oM, .ref sA] (Pq dC dI sz [(oc7 oM iM_thrown rM_tape iM_taped iM_size iM_at iM_end iM_token iM_whole iM_nameSize iM_fault iM_place iM_trouble rM_letters iM_failed iM_hasCourt rM_r rM_fresh rM_told rM_read rM_st rM_undone rM_kept iM_undos iM_images rM_fresher iM_fresherSize iM_scale iM_night rM_heardRow rM_cutRow iM_breaths iM_cutMany iM_allBreaths rM_trial rM_words iM_fewestBreaths iM_orderMany iM_orderSum iM_leastOrder rM_often iM_setMany iM_someOf iM_allOf iM_allWeight iM_enoughWeight iM_worthSum iM_firstRest iM_leastDrawn), (arI rM_tape kM_tape 900 fM_tape), (arI rM_letters kM_letters 8 fM_letters)] [(kM_tape, .int), (kM_letters, .int)] sA sV sN sF)) (va_Qi (fun (r : Int32) (u : Nat) => ((r = 0 ∨ r = 1) ∧ (r.toInt = (u : Int))) ∧ r = Int32.ofNat u) (fun (u : Nat) (t : State) => ∃ (niM_at : Int32) (niM_end : Int32) (niM_token : Int32) (niM_whole : Int32) (niM_nameSize : Int32) (nfM_letters : Nat → Int32), (0 ≤ niM_end.toInt ∧ niM_end.toInt ≤ 900) ∧ (0 ≤ niM_nameSize.toInt ∧ niM_nameSize.toInt ≤ 900) ∧ (iM_end.toInt ≤ niM_end.toInt) ∧ (ImpP (niM_token.toInt = 2) (niM_nameSize.toInt ≤ 8)) ∧ (ImpP ((u : Int) = 1 ∧ niM_token.toInt = 59 ) (iM_end.toInt + 1 ≤ niM_end.toInt)) ∧ (PX7_takesWord fM_tape iM_size iM_at iM_end iM_token iM_whole iM_nameSize fM_letters iM_failed sN sF = (Int32.ofNat u, niM_at, niM_end, niM_token, niM_whole, niM_nameSize, nfM_letters)) ∧ Bw dC dI (va_A [(oc7 oM iM_thrown rM_tape iM_taped iM_size iM_at iM_end iM_token iM_whole iM_nameSize iM_fault iM_place iM_trouble rM_letters iM_failed iM_hasCourt rM_r rM_fresh rM_told rM_read rM_st rM_undone rM_kept iM_undos iM_images rM_fresher iM_fresherSize iM_scale iM_night rM_heardRow rM_cutRow iM_breaths iM_cutMany iM_allBreaths rM_trial rM_words iM_fewestBreaths iM_orderMany iM_orderSum iM_leastOrder rM_often iM_setMany iM_someOf iM_allOf iM_allWeight iM_enoughWeight iM_worthSum iM_firstRest iM_leastDrawn), (arI rM_tape kM_tape 900 fM_tape), (arI rM_letters kM_letters 8 fM_letters)] sz) [(oc7 oM iM_thrown rM_tape iM_taped iM_size niM_at niM_end niM_token niM_whole niM_nameSize iM_fault iM_place iM_trouble rM_letters iM_failed iM_hasCourt rM_r rM_fresh rM_told rM_read rM_st rM_undone rM_kept iM_undos iM_images rM_fresher iM_fresherSize iM_scale iM_night rM_heardRow rM_cutRow iM_breaths iM_cutMany iM_allBreaths rM_trial rM_words iM_fewestBreaths iM_orderMany iM_orderSum iM_leastOrder rM_often iM_setMany iM_someOf iM_allOf iM_allWeight iM_enoughWeight iM_worthSum iM_firstRest iM_leastDrawn), (arI rM_tape kM_tape 900 fM_tape), (arI rM_letters kM_letters 8 nfM_letters)] [(kM_tape, .int), (kM_letters, .int)] t) (va_A [(oc7 oM iM_thrown rM_tape iM_taped iM_size iM_at iM_end iM_token iM_whole iM_nameSize iM_fault iM_place iM_trouble rM_letters iM_failed iM_hasCourt rM_r rM_fresh rM_told rM_read rM_st rM_undone rM_kept iM_undos iM_images rM_fresher iM_fresherSize iM_scale iM_night rM_heardRow rM_cutRow iM_breaths iM_cutMany iM_allBreaths rM_trial rM_words iM_fewestBreaths iM_orderMany iM_orderSum iM_leastOrder rM_often iM_setMany iM_someOf iM_allOf iM_allWeight iM_enoughWeight iM_worthSum iM_firstRest iM_leastDrawn), (arI rM_tape kM_tape 900 fM_tape), (arI rM_letters kM_letters 8 fM_letters)] sz)) 0 0 (va_A [(oc7 oM iM_thrown rM_tape iM_taped iM_size iM_at iM_end iM_token iM_whole iM_nameSize iM_fault iM_place iM_trouble rM_letters iM_failed iM_hasCourt rM_r rM_fresh rM_told rM_read rM_st rM_undone rM_kept iM_undos iM_images rM_fresher iM_fresherSize iM_scale iM_night rM_heardRow rM_cutRow iM_breaths iM_cutMany iM_allBreaths rM_trial rM_words iM_fewestBreaths iM_orderMany iM_orderSum iM_leastOrder rM_often iM_setMany iM_someOf iM_allOf iM_allWeight iM_enoughWeight iM_worthSum iM_firstRest iM_leastDrawn), (arI rM_tape kM_tape 900 fM_tape), (arI rM_letters kM_letters 8 fM_letters)] sz) := by
  refine Met.ofW (cc := cX7_takesWord) (maxL := 2) (ret := (some .boolean)) (by decide) rfl ?_
  intro p e s m args below meth c s₁ B hml hv
  obtain ⟨rfl, ⟨hsz, hP, hK, hD0, hE⟩, hSw⟩ := hv
  have hx := B.exec
  have hb := B.bytes
  have hr := B.returns
  have hts : ∀ w ∈ wG, w.before ([.ref oM, .ref sA] : List Value).toArray s = true := fun w h => atoms_spec (ws := Cond.code yX7_takesWord cX7_takesWord 2 (some .boolean) :: wG) B.pre w (List.mem_cons_of_mem _ h)
  have hown : s.vm.findClass RX7 = some m.cls := findClass_of_methodNamed B.named
  have hlocks := B.notSynchronized
  subst hsz
  have hD := hD0.self (sz := s.heap.size)
  generalize hAe : va_A [(oc7 oM iM_thrown rM_tape iM_taped iM_size iM_at iM_end iM_token iM_whole iM_nameSize iM_fault iM_place iM_trouble rM_letters iM_failed iM_hasCourt rM_r rM_fresh rM_told rM_read rM_st rM_undone rM_kept iM_undos iM_images rM_fresher iM_fresherSize iM_scale iM_night rM_heardRow rM_cutRow iM_breaths iM_cutMany iM_allBreaths rM_trial rM_words iM_fewestBreaths iM_orderMany iM_orderSum iM_leastOrder rM_often iM_setMany iM_someOf iM_allOf iM_allWeight iM_enoughWeight iM_worthSum iM_firstRest iM_leastDrawn), (arI rM_tape kM_tape 900 fM_tape), (arI rM_letters kM_letters 8 fM_letters)] s.heap.size = A at hD hE hSw ⊢
  have hA : ∀ q : Nat, s.heap.size ≤ q → A q := fun q h => by rw [← hAe]; exact Or.inr h
  have hS : va_S A s.heap s.heap [] := va_S.rf
  have hl := lv_entry ([.ref oM, .ref sA]) (n := 2) (Nat.le_of_ble_eq_true rfl)
  rw [lg_entry_eq]
  generalize (lg_sl ([.ref oM, .ref sA]) ++ List.replicate (2 - (lg_sl ([.ref oM, .ref sA])).length) Slot.unset).toArray = ls at hl ⊢
  have hl : lv_has ls 2 [(0, .ref oM), (1, .ref sA)] := hl
  have hG := PX7_takesWord_eq fM_tape iM_size iM_at iM_end iM_token iM_whole iM_nameSize fM_letters iM_failed sN sF
  refine lv_aload_n hx hb dX7_takesWord_0 rfl (lv_at hl 0 rfl) ?_
  refine lv_aload_n hx hb dX7_takesWord_1 rfl (lv_at hl 1 rfl) ?_
  have hFc := va_free (wc := [(oc7 oM iM_thrown rM_tape iM_taped iM_size iM_at iM_end iM_token iM_whole iM_nameSize iM_fault iM_place iM_trouble rM_letters iM_failed iM_hasCourt rM_r rM_fresh rM_told rM_read rM_st rM_undone rM_kept iM_undos iM_images rM_fresher iM_fresherSize iM_scale iM_night rM_heardRow rM_cutRow iM_breaths iM_cutMany iM_allBreaths rM_trial rM_words iM_fewestBreaths iM_orderMany iM_orderSum iM_leastOrder rM_often iM_setMany iM_someOf iM_allOf iM_allWeight iM_enoughWeight iM_worthSum iM_firstRest iM_leastDrawn), (arI rM_letters kM_letters 8 fM_letters)]) hD hS hA [0, 2] rfl
  refine va_calli (va_runV (As := [.ref sA]) (rest := []) ⟨hx, hb, hml, hown, hts⟩ (tX7_isWord l dC dI _ oM iM_thrown rM_tape iM_taped iM_size iM_at iM_end iM_token iM_whole iM_nameSize iM_fault iM_place iM_trouble rM_letters fM_letters kM_letters iM_failed iM_hasCourt rM_r rM_fresh rM_told rM_read rM_st rM_undone rM_kept iM_undos iM_images rM_fresher iM_fresherSize iM_scale iM_night rM_heardRow rM_cutRow iM_breaths iM_cutMany iM_allBreaths rM_trial rM_words iM_fewestBreaths iM_orderMany iM_orderSum iM_leastOrder rM_often iM_setMany iM_someOf iM_allOf iM_allWeight iM_enoughWeight iM_worthSum iM_firstRest iM_leastDrawn sA sV sN sF (by first | omega | decide) (by first | omega | decide) (by first | omega | decide) (by first | omega | decide) (by first | omega | decide) (by first | omega | decide) (by first | omega | decide) (by first | omega | decide) (by first | omega | decide) (by first | omega | decide) (by first | omega | decide) (by first | assumption | exact (fun h9 => by have q0 := kc_0; have q1 := kc_1; omega)) (by first | omega | decide | assumption | (have q0 := kc_0; have q1 := kc_1; omega) | (intro h; exact absurd h (by decide)))) (cwV 1 hts (wd_V wd_420 wd_421 wd_422 wd_5 (wd_c wd_423)) rfl rfl rfl (by decide +kernel) ⟨Nat.le_of_ble_eq_true rfl, Nat.le_of_ble_eq_true rfl⟩) ⟨Pq.fb, va_recv hK hP (ci := 7) (q0 := 0) rfl rfl, fun U hU hW => Pq.to (hP.sub [0, 2] rfl) (hD.sub [0, 2] (by decide) rfl) (hK.sub [1] rfl) hSw hE hS hFc hU hW⟩ rfl rfl hl.1 rfl (lv_room (Nat.le_of_ble_eq_true rfl)) dX7_takesWord_2 ⟨Nat.le_of_ble_eq_true rfl, Nat.le_of_ble_eq_true rfl⟩) hS (fun q _ h => hFc q h) hFc (fun r u t H locs ht hvm hw hB hz1 hk1 hS => ?_)
  have hru9 := hw.2
  have hw := hw.1
  obtain ⟨hP, hD, hK⟩ := Bw.go (ws' := [(arI rM_tape kM_tape 900 fM_tape), (oc7 oM iM_thrown rM_tape iM_taped iM_size iM_at iM_end iM_token iM_whole iM_nameSize iM_fault iM_place iM_trouble rM_letters iM_failed iM_hasCourt rM_r rM_fresh rM_told rM_read rM_st rM_undone rM_kept iM_undos iM_images rM_fresher iM_fresherSize iM_scale iM_night rM_heardRow rM_cutRow iM_breaths iM_cutMany iM_allBreaths rM_trial rM_words iM_fewestBreaths iM_orderMany iM_orderSum iM_leastOrder rM_often iM_setMany iM_someOf iM_allOf iM_allWeight iM_enoughWeight iM_worthSum iM_firstRest iM_leastDrawn), (arI rM_letters kM_letters 8 fM_letters)]) (tys' := [(kM_tape, .int), (kM_letters, .int)]) hB rfl ht hvm hP hD hK [0, 2] [1] rfl (by decide) (by decide) [0] hk1 hFc rfl rfl rfl
  clear hz1 hk1 hvm ht hB
  obtain ⟨x_4895, rfl⟩ : ∃ z, z = r := ⟨_, rfl⟩
  have hG := hG.trans (lt_eq hru9.symm)
  have bx_4895 := hw.1
  have dx_4895 := bz_ti bx_4895
  have lx_4895 := hw.2
  refine lv_if_ne (tgt := 10) hx hb dX7_takesWord_5 (by decide) (fun c_4896 => ?_) (fun c_4896 => ?_)
  · skip
    have hG := hG.trans (if_neg c_4896)
    have gc_4896 := ti_ne c_4896 rfl kc_0
    replace gc_4896 : (-1) * x_4895.toInt + 1 ≤ 0 := by omega
    have h_4897 := lx_4895 (by omega)
    clear lx_4895
    have h_4898 := r_T (by omega)
    clear r_T
    refine lv_aload_n hx hb dX7_takesWord_10 rfl (lv_at hl 0 rfl) ?_
    have hFc := va_free (wc := [(oc7 oM iM_thrown rM_tape iM_taped iM_size iM_at iM_end iM_token iM_whole iM_nameSize iM_fault iM_place iM_trouble rM_letters iM_failed iM_hasCourt rM_r rM_fresh rM_told rM_read rM_st rM_undone rM_kept iM_undos iM_images rM_fresher iM_fresherSize iM_scale iM_night rM_heardRow rM_cutRow iM_breaths iM_cutMany iM_allBreaths rM_trial rM_words iM_fewestBreaths iM_orderMany iM_orderSum iM_leastOrder rM_often iM_setMany iM_someOf iM_allOf iM_allWeight iM_enoughWeight iM_worthSum iM_firstRest iM_leastDrawn), (arI rM_tape kM_tape 900 fM_tape), (arI rM_letters kM_letters 8 fM_letters)]) hD hS hA [1, 0, 2] rfl
    refine va_callv (va_runV (As := []) (rest := []) ⟨hx, hb, hml, hown, hts⟩ (tX7_next l dC dI _ oM iM_thrown rM_tape fM_tape kM_tape iM_taped iM_size iM_at iM_end iM_token iM_whole iM_nameSize iM_fault iM_place iM_trouble rM_letters fM_letters kM_letters iM_failed iM_hasCourt rM_r rM_fresh rM_told rM_read rM_st rM_undone rM_kept iM_undos iM_images rM_fresher iM_fresherSize iM_scale iM_night rM_heardRow rM_cutRow iM_breaths iM_cutMany iM_allBreaths rM_trial rM_words iM_fewestBreaths iM_orderMany iM_orderSum iM_leastOrder rM_often iM_setMany iM_someOf iM_allOf iM_allWeight iM_enoughWeight iM_worthSum iM_firstRest iM_leastDrawn (by first | omega | decide) (by first | omega | decide) (by first | omega | decide) (by first | omega | decide) (by first | omega | decide) (by first | omega | decide) (by first | omega | decide) (by first | omega | decide) (by first | omega | decide) (by first | omega | decide) (by first | omega | decide) (by first | assumption | exact (fun h9 => by have q0 := kc_0; have q1 := kc_1; omega))) (cwV 0 hts (wd_V wd_400 wd_401 wd_402 wd_5 (wd_c wd_403)) rfl rfl rfl (by decide +kernel) ⟨Nat.le_of_ble_eq_true rfl, Nat.le_of_ble_eq_true rfl⟩) ⟨Pw.fb, va_recv hK hP (ci := 7) (q0 := 1) rfl rfl, fun U hU hW => Pw.to (hP.sub [1, 0, 2] rfl) (hD.sub [1, 0, 2] (by decide) rfl) (hK.sub [0, 1] rfl) hE hS hFc hU hW⟩ rfl rfl hl.1 rfl (lv_room (Nat.le_of_ble_eq_true rfl)) dX7_takesWord_11 ⟨Nat.le_of_ble_eq_true rfl, Nat.le_of_ble_eq_true rfl⟩) hS (fun q _ h => hFc q h) hFc (fun u t H locs ht hvm hw hB hz1 hk1 hS => ?_)
    obtain ⟨x_4899, x_4900, x_4901, x_4902, x_4903, f_4904, b_x_4900, b_x_4903, e_x_4899_0, e_x_4899_1, e_x_4899_2, e_x_4899_3, hB⟩ := hB
    obtain ⟨hP, hD, hK⟩ := Bw.go (ws' := [(oc7 oM iM_thrown rM_tape iM_taped iM_size x_4899 x_4900 x_4901 x_4902 x_4903 iM_fault iM_place iM_trouble rM_letters iM_failed iM_hasCourt rM_r rM_fresh rM_told rM_read rM_st rM_undone rM_kept iM_undos iM_images rM_fresher iM_fresherSize iM_scale iM_night rM_heardRow rM_cutRow iM_breaths iM_cutMany iM_allBreaths rM_trial rM_words iM_fewestBreaths iM_orderMany iM_orderSum iM_leastOrder rM_often iM_setMany iM_someOf iM_allOf iM_allWeight iM_enoughWeight iM_worthSum iM_firstRest iM_leastDrawn), (arI rM_tape kM_tape 900 fM_tape), (arI rM_letters kM_letters 8 f_4904)]) (tys' := [(kM_tape, .int), (kM_letters, .int)]) hB rfl ht hvm hP hD hK [1, 0, 2] [] rfl (by decide) (by decide) [] hk1 hFc rfl rfl rfl
    clear hz1 hk1 hvm ht hB
    have hG := hG.trans (un6_eq e_x_4899_3)
    refine lv_iconst (v := 1) hx hb dX7_takesWord_14 (by decide) ?_
    exact W.zret (v := 1) hx hb hr rfl (fun t ht hW => ⟨⟨_, 1, rfl, ⟨⟨Or.inr rfl, (by decide)⟩, (by decide)⟩, ⟨x_4899, x_4900, x_4901, x_4902, x_4903, f_4904, b_x_4900, b_x_4903, (by first | assumption | (have q0 := kc_0; have q1 := kc_1; omega)), e_x_4899_1, (fun h9 => by have q0 := kc_0; have q1 := kc_1; have q9 := e_x_4899_2 (by omega); omega), hG, Bw.to (hP.sub [0, 1, 2] rfl) (hD.sub [0, 1, 2] (by decide) rfl) (hK.sub [0, 1] rfl) ht hW⟩⟩, hS.F ht⟩) hS.2.2 dX7_takesWord_15
  · skip
    have hG := hG.trans (if_pos c_4896)
    have gc_4896 := ti_eq c_4896 rfl kc_0
    clear lx_4895
    refine lv_iconst (v := 0) hx hb dX7_takesWord_8 (by decide) ?_
    exact W.zret (v := 0) hx hb hr rfl (fun t ht hW => ⟨⟨_, 0, rfl, ⟨⟨Or.inl rfl, (by decide)⟩, (by decide)⟩, ⟨iM_at, iM_end, iM_token, iM_whole, iM_nameSize, fM_letters, (by omega), (by omega), (by first | assumption | (have q0 := kc_0; have q1 := kc_1; omega)), r_T, (fun h9 => by have q0 := kc_0; have q1 := kc_1; omega), hG, Bw.to (hP.sub [1, 0, 2] rfl) (hD.sub [1, 0, 2] (by decide) rfl) (hK.sub [0, 1] rfl) ht hW⟩⟩, hS.F ht⟩) hS.2.2 dX7_takesWord_9
set_option maxHeartbeats 4000000 in
set_option maxRecDepth 100000 in
theorem tX7_must (l : Launch) (dC : Nat → ClassId) (dI : Nat → Nat → Nat) (sz : Nat) (oM : Nat) (iM_thrown : Int32) (rM_tape : Nat) (fM_tape : Nat → Int32) (kM_tape : ClassId) (iM_taped : Int32) (iM_size : Int32) (iM_at : Int32) (iM_end : Int32) (iM_token : Int32) (iM_whole : Int32) (iM_nameSize : Int32) (iM_fault : Int32) (iM_place : Int32) (iM_trouble : Int32) (rM_letters : Nat) (fM_letters : Nat → Int32) (kM_letters : ClassId) (iM_failed : Int32) (iM_hasCourt : Int32) (rM_r : Nat) (rM_fresh : Nat) (rM_told : Nat) (rM_read : Nat) (rM_st : Nat) (rM_undone : Nat) (rM_kept : Nat) (iM_undos : Int32) (iM_images : Int32) (rM_fresher : Nat) (iM_fresherSize : Int32) (iM_scale : Int32) (iM_night : Int32) (rM_heardRow : Nat) (rM_cutRow : Nat) (iM_breaths : Int32) (iM_cutMany : Int32) (iM_allBreaths : Int32) (rM_trial : Nat) (rM_words : Nat) (iM_fewestBreaths : Int32) (iM_orderMany : Int32) (iM_orderSum : Int32) (iM_leastOrder : Int32) (rM_often : Nat) (iM_setMany : Int32) (iM_someOf : Int32) (iM_allOf : Int32) (iM_allWeight : Int64) (iM_enoughWeight : Int64) (iM_worthSum : Int64) (iM_firstRest : Int32) (iM_leastDrawn : Int32) (sA : Nat) (sV : Nat) (sN : Nat) (sF : Nat → Int32) (b_iM_taped : 0 ≤ iM_taped.toInt ∧ iM_taped.toInt ≤ 900) (b_iM_size : 0 ≤ iM_size.toInt ∧ iM_size.toInt ≤ 900) (b_iM_end : 0 ≤ iM_end.toInt ∧ iM_end.toInt ≤ 900) (b_iM_nameSize : 0 ≤ iM_nameSize.toInt ∧ iM_nameSize.toInt ≤ 900) (b_iM_failed : 0 ≤ iM_failed.toInt ∧ iM_failed.toInt ≤ 1) (b_iM_hasCourt : 0 ≤ iM_hasCourt.toInt ∧ iM_hasCourt.toInt ≤ 1) (b_iM_undos : 0 ≤ iM_undos.toInt ∧ iM_undos.toInt ≤ 16) (b_iM_images : 0 ≤ iM_images.toInt ∧ iM_images.toInt ≤ 3) (b_iM_scale : 1 ≤ iM_scale.toInt ∧ iM_scale.toInt ≤ 1296) (b_iM_breaths : 0 ≤ iM_breaths.toInt ∧ iM_breaths.toInt ≤ 399) (b_iM_cutMany : 0 ≤ iM_cutMany.toInt ∧ iM_cutMany.toInt ≤ 399) (r_T : ImpP (iM_token.toInt = 2) (iM_nameSize.toInt ≤ 8)) (hsn : sN ≤ 8) : Met l yX7_must (Cond.code yX7_must cX7_must 2 none :: wG) ({ frames := 6, cells := 0, slots := 0, locals := 155 }) (va_Pc [.ref oM, .ref sA] (Pq dC dI sz [(oc7 oM iM_thrown rM_tape iM_taped iM_size iM_at iM_end iM_token iM_whole iM_nameSize iM_fault iM_place iM_trouble rM_letters iM_failed iM_hasCourt rM_r rM_fresh rM_told rM_read rM_st rM_undone rM_kept iM_undos iM_images rM_fresher iM_fresherSize iM_scale iM_night rM_heardRow rM_cutRow iM_breaths iM_cutMany iM_allBreaths rM_trial rM_words iM_fewestBreaths iM_orderMany iM_orderSum iM_leastOrder rM_often iM_setMany iM_someOf iM_allOf iM_allWeight iM_enoughWeight iM_worthSum iM_firstRest iM_leastDrawn), (arI rM_tape kM_tape 900 fM_tape), (arI rM_letters kM_letters 8 fM_letters)] [(kM_tape, .int), (kM_letters, .int)] sA sV sN sF)) (va_Qv (fun (_ : Nat) => True) (fun (_ : Nat) (t : State) => ∃ (niM_at : Int32) (niM_end : Int32) (niM_token : Int32) (niM_whole : Int32) (niM_nameSize : Int32) (niM_fault : Int32) (niM_place : Int32) (niM_failed : Int32) (nfM_letters : Nat → Int32), (0 ≤ niM_end.toInt ∧ niM_end.toInt ≤ 900) ∧ (0 ≤ niM_nameSize.toInt ∧ niM_nameSize.toInt ≤ 900) ∧ (0 ≤ niM_failed.toInt ∧ niM_failed.toInt ≤ 1) ∧ (iM_end.toInt ≤ niM_end.toInt) ∧ (ImpP (niM_token.toInt = 2) (niM_nameSize.toInt ≤ 8)) ∧ (iM_failed.toInt ≤ niM_failed.toInt) ∧ (ImpP (niM_failed.toInt ≤ 0 ∧ niM_token.toInt = 59 ) (iM_end.toInt + 1 ≤ niM_end.toInt)) ∧ (PX7_must fM_tape iM_size iM_at iM_end iM_token iM_whole iM_nameSize iM_fault iM_place fM_letters iM_failed sN sF = (niM_at, niM_end, niM_token, niM_whole, niM_nameSize, niM_fault, niM_place, niM_failed, nfM_letters)) ∧ Bw dC dI (va_A [(oc7 oM iM_thrown rM_tape iM_taped iM_size iM_at iM_end iM_token iM_whole iM_nameSize iM_fault iM_place iM_trouble rM_letters iM_failed iM_hasCourt rM_r rM_fresh rM_told rM_read rM_st rM_undone rM_kept iM_undos iM_images rM_fresher iM_fresherSize iM_scale iM_night rM_heardRow rM_cutRow iM_breaths iM_cutMany iM_allBreaths rM_trial rM_words iM_fewestBreaths iM_orderMany iM_orderSum iM_leastOrder rM_often iM_setMany iM_someOf iM_allOf iM_allWeight iM_enoughWeight iM_worthSum iM_firstRest iM_leastDrawn), (arI rM_tape kM_tape 900 fM_tape), (arI rM_letters kM_letters 8 fM_letters)] sz) [(oc7 oM iM_thrown rM_tape iM_taped iM_size niM_at niM_end niM_token niM_whole niM_nameSize niM_fault niM_place iM_trouble rM_letters niM_failed iM_hasCourt rM_r rM_fresh rM_told rM_read rM_st rM_undone rM_kept iM_undos iM_images rM_fresher iM_fresherSize iM_scale iM_night rM_heardRow rM_cutRow iM_breaths iM_cutMany iM_allBreaths rM_trial rM_words iM_fewestBreaths iM_orderMany iM_orderSum iM_leastOrder rM_often iM_setMany iM_someOf iM_allOf iM_allWeight iM_enoughWeight iM_worthSum iM_firstRest iM_leastDrawn), (arI rM_tape kM_tape 900 fM_tape), (arI rM_letters kM_letters 8 nfM_letters)] [(kM_tape, .int), (kM_letters, .int)] t) (va_A [(oc7 oM iM_thrown rM_tape iM_taped iM_size iM_at iM_end iM_token iM_whole iM_nameSize iM_fault iM_place iM_trouble rM_letters iM_failed iM_hasCourt rM_r rM_fresh rM_told rM_read rM_st rM_undone rM_kept iM_undos iM_images rM_fresher iM_fresherSize iM_scale iM_night rM_heardRow rM_cutRow iM_breaths iM_cutMany iM_allBreaths rM_trial rM_words iM_fewestBreaths iM_orderMany iM_orderSum iM_leastOrder rM_often iM_setMany iM_someOf iM_allOf iM_allWeight iM_enoughWeight iM_worthSum iM_firstRest iM_leastDrawn), (arI rM_tape kM_tape 900 fM_tape), (arI rM_letters kM_letters 8 fM_letters)] sz)) 0 0 (va_A [(oc7 oM iM_thrown rM_tape iM_taped iM_size iM_at iM_end iM_token iM_whole iM_nameSize iM_fault iM_place iM_trouble rM_letters iM_failed iM_hasCourt rM_r rM_fresh rM_told rM_read rM_st rM_undone rM_kept iM_undos iM_images rM_fresher iM_fresherSize iM_scale iM_night rM_heardRow rM_cutRow iM_breaths iM_cutMany iM_allBreaths rM_trial rM_words iM_fewestBreaths iM_orderMany iM_orderSum iM_leastOrder rM_often iM_setMany iM_someOf iM_allOf iM_allWeight iM_enoughWeight iM_worthSum iM_firstRest iM_leastDrawn), (arI rM_tape kM_tape 900 fM_tape), (arI rM_letters kM_letters 8 fM_letters)] sz) := by
  refine Met.ofW (cc := cX7_must) (maxL := 2) (ret := none) (by decide) rfl ?_
  intro p e s m args below meth c s₁ B hml hv
  obtain ⟨rfl, ⟨hsz, hP, hK, hD0, hE⟩, hSw⟩ := hv
  have hx := B.exec
  have hb := B.bytes
  have hr := B.returns
  have hts : ∀ w ∈ wG, w.before ([.ref oM, .ref sA] : List Value).toArray s = true := fun w h => atoms_spec (ws := Cond.code yX7_must cX7_must 2 none :: wG) B.pre w (List.mem_cons_of_mem _ h)
  have hown : s.vm.findClass RX7 = some m.cls := findClass_of_methodNamed B.named
  have hlocks := B.notSynchronized
  subst hsz
  have hD := hD0.self (sz := s.heap.size)
  generalize hAe : va_A [(oc7 oM iM_thrown rM_tape iM_taped iM_size iM_at iM_end iM_token iM_whole iM_nameSize iM_fault iM_place iM_trouble rM_letters iM_failed iM_hasCourt rM_r rM_fresh rM_told rM_read rM_st rM_undone rM_kept iM_undos iM_images rM_fresher iM_fresherSize iM_scale iM_night rM_heardRow rM_cutRow iM_breaths iM_cutMany iM_allBreaths rM_trial rM_words iM_fewestBreaths iM_orderMany iM_orderSum iM_leastOrder rM_often iM_setMany iM_someOf iM_allOf iM_allWeight iM_enoughWeight iM_worthSum iM_firstRest iM_leastDrawn), (arI rM_tape kM_tape 900 fM_tape), (arI rM_letters kM_letters 8 fM_letters)] s.heap.size = A at hD hE hSw ⊢
  have hA : ∀ q : Nat, s.heap.size ≤ q → A q := fun q h => by rw [← hAe]; exact Or.inr h
  have hS : va_S A s.heap s.heap [] := va_S.rf
  have hl := lv_entry ([.ref oM, .ref sA]) (n := 2) (Nat.le_of_ble_eq_true rfl)
  rw [lg_entry_eq]
  generalize (lg_sl ([.ref oM, .ref sA]) ++ List.replicate (2 - (lg_sl ([.ref oM, .ref sA])).length) Slot.unset).toArray = ls at hl ⊢
  have hl : lv_has ls 2 [(0, .ref oM), (1, .ref sA)] := hl
  have hG := PX7_must_eq fM_tape iM_size iM_at iM_end iM_token iM_whole iM_nameSize iM_fault iM_place fM_letters iM_failed sN sF
  refine lv_aload_n hx hb dX7_must_0 rfl (lv_at hl 0 rfl) ?_
  refine va_get (D := (dC, dI)) (ci := 7) (v := .int iM_failed) (C := RX7) (T := TX7) (N := 48) hx hb hts inX7 hown hK hP 0 rfl rfl 13 (by decide) (hts _ wd_380) (fun _ h9 => h9) rfl dX7_must_1 ?_
  refine lv_if_ne (tgt := 24) hx hb dX7_must_4 (by decide) (fun c_4917 => ?_) (fun c_4917 => ?_)
  · skip
    have hG := hG.trans (if_neg c_4917)
    have gc_4917 := ti_ne c_4917 rfl kc_0
    replace gc_4917 : (-1) * iM_failed.toInt + 1 ≤ 0 := by omega
    exact W.vret hx hb hr (fun t ht hW => ⟨⟨0, rfl, trivial, ⟨iM_at, iM_end, iM_token, iM_whole, iM_nameSize, iM_fault, iM_place, iM_failed, fM_letters, (by omega), (by omega), (by omega), (by first | assumption | (have q0 := kc_0; have q1 := kc_1; omega)), r_T, (by first | assumption | (have q0 := kc_0; have q1 := kc_1; omega)), (fun h9 => by have q0 := kc_0; have q1 := kc_1; omega), hG, Bw.to (hP.sub [0, 1, 2] rfl) (hD.sub [0, 1, 2] (by decide) rfl) (hK.sub [0, 1] rfl) ht hW⟩⟩, hS.F ht⟩) hS.2.2 dX7_must_24
  · skip
    have hG := hG.trans (if_pos c_4917)
    have gc_4917 := ti_eq c_4917 rfl kc_0
    refine lv_aload_n hx hb dX7_must_7 rfl (lv_at hl 0 rfl) ?_
    refine lv_aload_n hx hb dX7_must_8 rfl (lv_at hl 1 rfl) ?_
    have hFc := va_free (wc := [(oc7 oM iM_thrown rM_tape iM_taped iM_size iM_at iM_end iM_token iM_whole iM_nameSize iM_fault iM_place iM_trouble rM_letters iM_failed iM_hasCourt rM_r rM_fresh rM_told rM_read rM_st rM_undone rM_kept iM_undos iM_images rM_fresher iM_fresherSize iM_scale iM_night rM_heardRow rM_cutRow iM_breaths iM_cutMany iM_allBreaths rM_trial rM_words iM_fewestBreaths iM_orderMany iM_orderSum iM_leastOrder rM_often iM_setMany iM_someOf iM_allOf iM_allWeight iM_enoughWeight iM_worthSum iM_firstRest iM_leastDrawn), (arI rM_tape kM_tape 900 fM_tape), (arI rM_letters kM_letters 8 fM_letters)]) hD hS hA [0, 1, 2] rfl
    refine va_calli (va_runV (As := [.ref sA]) (rest := []) ⟨hx, hb, hml, hown, hts⟩ (tX7_takesWord l dC dI _ oM iM_thrown rM_tape fM_tape kM_tape iM_taped iM_size iM_at iM_end iM_token iM_whole iM_nameSize iM_fault iM_place iM_trouble rM_letters fM_letters kM_letters iM_failed iM_hasCourt rM_r rM_fresh rM_told rM_read rM_st rM_undone rM_kept iM_undos iM_images rM_fresher iM_fresherSize iM_scale iM_night rM_heardRow rM_cutRow iM_breaths iM_cutMany iM_allBreaths rM_trial rM_words iM_fewestBreaths iM_orderMany iM_orderSum iM_leastOrder rM_often iM_setMany iM_someOf iM_allOf iM_allWeight iM_enoughWeight iM_worthSum iM_firstRest iM_leastDrawn sA sV sN sF (by first | omega | decide) (by first | omega | decide) (by first | omega | decide) (by first | omega | decide) (by first | omega | decide) (by first | omega | decide) (by first | omega | decide) (by first | omega | decide) (by first | omega | decide) (by first | omega | decide) (by first | omega | decide) (by first | assumption | exact (fun h9 => by have q0 := kc_0; have q1 := kc_1; omega)) (by first | omega | decide | assumption | (have q0 := kc_0; have q1 := kc_1; omega) | (intro h; exact absurd h (by decide)))) (cwV 1 hts (wd_V wd_442 wd_443 wd_444 wd_5 (wd_c wd_445)) rfl rfl rfl (by decide +kernel) ⟨Nat.le_of_ble_eq_true rfl, Nat.le_of_ble_eq_true rfl⟩) ⟨Pq.fb, va_recv hK hP (ci := 7) (q0 := 0) rfl rfl, fun U hU hW => Pq.to (hP.sub [0, 1, 2] rfl) (hD.sub [0, 1, 2] (by decide) rfl) (hK.sub [0, 1] rfl) hSw hE hS hFc hU hW⟩ rfl rfl hl.1 rfl (lv_room (Nat.le_of_ble_eq_true rfl)) dX7_must_9 ⟨Nat.le_of_ble_eq_true rfl, Nat.le_of_ble_eq_true rfl⟩) hS (fun q _ h => hFc q h) hFc (fun r u t H locs ht hvm hw hB hz1 hk1 hS => ?_)
    have hru9 := hw.2
    have hw := hw.1
    obtain ⟨x_4918, x_4919, x_4920, x_4921, x_4922, f_4923, b_x_4919, b_x_4922, e_x_4918_0, e_x_4918_1, e_x_4918_2, e_x_4918_3, hB⟩ := hB
    obtain ⟨hP, hD, hK⟩ := Bw.go (ws' := [(oc7 oM iM_thrown rM_tape iM_taped iM_size x_4918 x_4919 x_4920 x_4921 x_4922 iM_fault iM_place iM_trouble rM_letters iM_failed iM_hasCourt rM_r rM_fresh rM_told rM_read rM_st rM_undone rM_kept iM_undos iM_images rM_fresher iM_fresherSize iM_scale iM_night rM_heardRow rM_cutRow iM_breaths iM_cutMany iM_allBreaths rM_trial rM_words iM_fewestBreaths iM_orderMany iM_orderSum iM_leastOrder rM_often iM_setMany iM_someOf iM_allOf iM_allWeight iM_enoughWeight iM_worthSum iM_firstRest iM_leastDrawn), (arI rM_tape kM_tape 900 fM_tape), (arI rM_letters kM_letters 8 f_4923)]) (tys' := [(kM_tape, .int), (kM_letters, .int)]) hB rfl ht hvm hP hD hK [0, 1, 2] [] rfl (by decide) (by decide) [] hk1 hFc rfl rfl rfl
    clear hz1 hk1 hvm ht hB
    rw [← hru9] at e_x_4918_3
    obtain ⟨x_4924, rfl⟩ : ∃ z, z = r := ⟨_, rfl⟩
    have hG := hG.trans (un7_eq e_x_4918_3)
    have bx_4924 := hw.1
    have dx_4924 := bz_ti bx_4924
    have lx_4924 := hw.2
    clear r_T
    refine lv_if_ne (tgt := 24) hx hb dX7_must_12 (by decide) (fun c_4925 => ?_) (fun c_4925 => ?_)
    · skip
      have hG := hG.trans (if_neg c_4925)
      have gc_4925 := ti_ne c_4925 rfl kc_0
      replace gc_4925 : (-1) * x_4924.toInt + 1 ≤ 0 := by omega
      exact W.vret hx hb hr (fun t ht hW => ⟨⟨0, rfl, trivial, ⟨x_4918, x_4919, x_4920, x_4921, x_4922, iM_fault, iM_place, iM_failed, f_4923, b_x_4919, b_x_4922, (by omega), (by first | assumption | (have q0 := kc_0; have q1 := kc_1; omega)), e_x_4918_1, (by first | assumption | (have q0 := kc_0; have q1 := kc_1; omega)), (fun h9 => by have q0 := kc_0; have q1 := kc_1; have q9 := e_x_4918_2 (by omega); omega), hG, Bw.to (hP.sub [0, 1, 2] rfl) (hD.sub [0, 1, 2] (by decide) rfl) (hK.sub [0, 1] rfl) ht hW⟩⟩, hS.F ht⟩) hS.2.2 dX7_must_24
    · skip
      have hG := hG.trans (if_pos c_4925)
      have gc_4925 := ti_eq c_4925 rfl kc_0
      refine lv_aload_n hx hb dX7_must_15 rfl (lv_at hl 0 rfl) ?_
      refine lv_iconst (v := 1) hx hb dX7_must_16 (by decide) ?_
      refine lv_aload_n hx hb dX7_must_17 rfl (lv_at hl 0 rfl) ?_
      refine va_get (D := (dC, dI)) (ci := 7) (v := .int x_4918) (C := RX7) (T := TX7) (N := 48) hx hb hts inX7 hown hK hP 0 rfl rfl 4 (by decide) (hts _ wd_384) (fun _ h9 => h9) rfl dX7_must_18 ?_
      have hFc := va_free (wc := [(oc7 oM iM_thrown rM_tape iM_taped iM_size x_4918 x_4919 x_4920 x_4921 x_4922 iM_fault iM_place iM_trouble rM_letters iM_failed iM_hasCourt rM_r rM_fresh rM_told rM_read rM_st rM_undone rM_kept iM_undos iM_images rM_fresher iM_fresherSize iM_scale iM_night rM_heardRow rM_cutRow iM_breaths iM_cutMany iM_allBreaths rM_trial rM_words iM_fewestBreaths iM_orderMany iM_orderSum iM_leastOrder rM_often iM_setMany iM_someOf iM_allOf iM_allWeight iM_enoughWeight iM_worthSum iM_firstRest iM_leastDrawn)]) hD hS hA [0] rfl
      refine va_callv (va_runV (As := [.int 1, .int x_4918]) (rest := []) ⟨hx, hb, hml, hown, hts⟩ (tX7_wrong l dC dI _ oM iM_thrown rM_tape iM_taped iM_size x_4918 x_4919 x_4920 x_4921 x_4922 iM_fault iM_place iM_trouble rM_letters iM_failed iM_hasCourt rM_r rM_fresh rM_told rM_read rM_st rM_undone rM_kept iM_undos iM_images rM_fresher iM_fresherSize iM_scale iM_night rM_heardRow rM_cutRow iM_breaths iM_cutMany iM_allBreaths rM_trial rM_words iM_fewestBreaths iM_orderMany iM_orderSum iM_leastOrder rM_often iM_setMany iM_someOf iM_allOf iM_allWeight iM_enoughWeight iM_worthSum iM_firstRest iM_leastDrawn 1 x_4918 (by first | omega | decide) (by first | omega | decide) (by first | exact b_x_4919 | omega | decide) (by first | exact b_x_4922 | omega | decide) (by first | omega | decide) (by first | omega | decide) (by first | omega | decide) (by first | omega | decide) (by first | omega | decide) (by first | omega | decide) (by first | omega | decide) (by first | assumption | exact (fun h9 => by have q0 := kc_0; have q1 := kc_1; omega))) (cwV 2 hts (wd_V wd_430 wd_431 wd_432 wd_5 (wd_c wd_433)) rfl rfl rfl (by decide +kernel) ⟨Nat.le_of_ble_eq_true rfl, Nat.le_of_ble_eq_true rfl⟩) ⟨Pw.fb, va_recv hK hP (ci := 7) (q0 := 0) rfl rfl, fun U hU hW => Pw.to (hP.sub [0] rfl) (hD.sub [0] (by decide) rfl) (hK.sub [] rfl) hE hS hFc hU hW⟩ rfl rfl hl.1 rfl (lv_room (Nat.le_of_ble_eq_true rfl)) dX7_must_21 ⟨Nat.le_of_ble_eq_true rfl, Nat.le_of_ble_eq_true rfl⟩) hS (fun q _ h => hFc q h) hFc (fun u t H locs ht hvm hw hB hz1 hk1 hS => ?_)
      obtain ⟨x_4926, x_4927, x_4928, b_x_4928, e_x_4926_0, e_x_4926_1, hB⟩ := hB
      obtain ⟨hP, hD, hK⟩ := Bw.go (ws' := [(arI rM_tape kM_tape 900 fM_tape), (arI rM_letters kM_letters 8 f_4923), (oc7 oM iM_thrown rM_tape iM_taped iM_size x_4918 x_4919 x_4920 x_4921 x_4922 x_4926 x_4927 iM_trouble rM_letters x_4928 iM_hasCourt rM_r rM_fresh rM_told rM_read rM_st rM_undone rM_kept iM_undos iM_images rM_fresher iM_fresherSize iM_scale iM_night rM_heardRow rM_cutRow iM_breaths iM_cutMany iM_allBreaths rM_trial rM_words iM_fewestBreaths iM_orderMany iM_orderSum iM_leastOrder rM_often iM_setMany iM_someOf iM_allOf iM_allWeight iM_enoughWeight iM_worthSum iM_firstRest iM_leastDrawn)]) (tys' := [(kM_tape, .int), (kM_letters, .int)]) hB rfl ht hvm hP hD hK [0] [1, 2] rfl (by decide) (by decide) [0, 1] hk1 hFc rfl rfl rfl
      clear hz1 hk1 hvm ht hB
      have hG := hG.trans (un3_eq e_x_4926_1)
      exact W.vret hx hb hr (fun t ht hW => ⟨⟨0, rfl, trivial, ⟨x_4918, x_4919, x_4920, x_4921, x_4922, x_4926, x_4927, x_4928, f_4923, b_x_4919, b_x_4922, b_x_4928, (by first | assumption | (have q0 := kc_0; have q1 := kc_1; omega)), e_x_4918_1, (by first | assumption | (have q0 := kc_0; have q1 := kc_1; omega)), (fun h9 => by have q0 := kc_0; have q1 := kc_1; omega), hG, Bw.to (hP.sub [2, 0, 1] rfl) (hD.sub [2, 0, 1] (by decide) rfl) (hK.sub [0, 1] rfl) ht hW⟩⟩, hS.F ht⟩) hS.2.2 dX7_must_24
set_option maxHeartbeats 4000000 in
set_option maxRecDepth 100000 in
theorem tX7_mustName (l : Launch) (dC : Nat → ClassId) (dI : Nat → Nat → Nat) (sz : Nat) (oM : Nat) (iM_thrown : Int32) (rM_tape : Nat) (iM_taped : Int32) (iM_size : Int32) (iM_at : Int32) (iM_end : Int32) (iM_token : Int32) (iM_whole : Int32) (iM_nameSize : Int32) (iM_fault : Int32) (iM_place : Int32) (iM_trouble : Int32) (rM_letters : Nat) (fM_letters : Nat → Int32) (kM_letters : ClassId) (iM_failed : Int32) (iM_hasCourt : Int32) (rM_r : Nat) (rM_fresh : Nat) (rM_told : Nat) (rM_read : Nat) (rM_st : Nat) (rM_undone : Nat) (rM_kept : Nat) (iM_undos : Int32) (iM_images : Int32) (rM_fresher : Nat) (iM_fresherSize : Int32) (iM_scale : Int32) (iM_night : Int32) (rM_heardRow : Nat) (rM_cutRow : Nat) (iM_breaths : Int32) (iM_cutMany : Int32) (iM_allBreaths : Int32) (rM_trial : Nat) (rM_words : Nat) (iM_fewestBreaths : Int32) (iM_orderMany : Int32) (iM_orderSum : Int32) (iM_leastOrder : Int32) (rM_often : Nat) (iM_setMany : Int32) (iM_someOf : Int32) (iM_allOf : Int32) (iM_allWeight : Int64) (iM_enoughWeight : Int64) (iM_worthSum : Int64) (iM_firstRest : Int32) (iM_leastDrawn : Int32) (b_iM_taped : 0 ≤ iM_taped.toInt ∧ iM_taped.toInt ≤ 900) (b_iM_size : 0 ≤ iM_size.toInt ∧ iM_size.toInt ≤ 900) (b_iM_end : 0 ≤ iM_end.toInt ∧ iM_end.toInt ≤ 900) (b_iM_nameSize : 0 ≤ iM_nameSize.toInt ∧ iM_nameSize.toInt ≤ 900) (b_iM_failed : 0 ≤ iM_failed.toInt ∧ iM_failed.toInt ≤ 1) (b_iM_hasCourt : 0 ≤ iM_hasCourt.toInt ∧ iM_hasCourt.toInt ≤ 1) (b_iM_undos : 0 ≤ iM_undos.toInt ∧ iM_undos.toInt ≤ 16) (b_iM_images : 0 ≤ iM_images.toInt ∧ iM_images.toInt ≤ 3) (b_iM_scale : 1 ≤ iM_scale.toInt ∧ iM_scale.toInt ≤ 1296) (b_iM_breaths : 0 ≤ iM_breaths.toInt ∧ iM_breaths.toInt ≤ 399) (b_iM_cutMany : 0 ≤ iM_cutMany.toInt ∧ iM_cutMany.toInt ≤ 399) (r_T : ImpP (iM_token.toInt = 2) (iM_nameSize.toInt ≤ 8))  : Met l yX7_mustName (Cond.code yX7_mustName cX7_mustName 1 none :: wG) ({ frames := 5, cells := 0, slots := 0, locals := 134 }) (va_Pc [.ref oM] (Pw dC dI sz [(oc7 oM iM_thrown rM_tape iM_taped iM_size iM_at iM_end iM_token iM_whole iM_nameSize iM_fault iM_place iM_trouble rM_letters iM_failed iM_hasCourt rM_r rM_fresh rM_told rM_read rM_st rM_undone rM_kept iM_undos iM_images rM_fresher iM_fresherSize iM_scale iM_night rM_heardRow rM_cutRow iM_breaths iM_cutMany iM_allBreaths rM_trial rM_words iM_fewestBreaths iM_orderMany iM_orderSum iM_leastOrder rM_often iM_setMany iM_someOf iM_allOf iM_allWeight iM_enoughWeight iM_worthSum iM_firstRest iM_leastDrawn), (arI rM_letters kM_letters 8 fM_letters)] [(kM_letters, .int)])) (va_Qv (fun (_ : Nat) => True) (fun (_ : Nat) (t : State) => ∃ (niM_fault : Int32) (niM_place : Int32) (niM_failed : Int32), (0 ≤ niM_failed.toInt ∧ niM_failed.toInt ≤ 1) ∧ (iM_failed.toInt ≤ niM_failed.toInt) ∧ (ImpP (niM_failed.toInt ≤ 0) (iM_token.toInt = 2)) ∧ (PX7_mustName iM_at iM_token iM_nameSize iM_fault iM_place fM_letters iM_failed = (niM_fault, niM_place, niM_failed)) ∧ Bw dC dI (va_A [(oc7 oM iM_thrown rM_tape iM_taped iM_size iM_at iM_end iM_token iM_whole iM_nameSize iM_fault iM_place iM_trouble rM_letters iM_failed iM_hasCourt rM_r rM_fresh rM_told rM_read rM_st rM_undone rM_kept iM_undos iM_images rM_fresher iM_fresherSize iM_scale iM_night rM_heardRow rM_cutRow iM_breaths iM_cutMany iM_allBreaths rM_trial rM_words iM_fewestBreaths iM_orderMany iM_orderSum iM_leastOrder rM_often iM_setMany iM_someOf iM_allOf iM_allWeight iM_enoughWeight iM_worthSum iM_firstRest iM_leastDrawn), (arI rM_letters kM_letters 8 fM_letters)] sz) [(oc7 oM iM_thrown rM_tape iM_taped iM_size iM_at iM_end iM_token iM_whole iM_nameSize niM_fault niM_place iM_trouble rM_letters niM_failed iM_hasCourt rM_r rM_fresh rM_told rM_read rM_st rM_undone rM_kept iM_undos iM_images rM_fresher iM_fresherSize iM_scale iM_night rM_heardRow rM_cutRow iM_breaths iM_cutMany iM_allBreaths rM_trial rM_words iM_fewestBreaths iM_orderMany iM_orderSum iM_leastOrder rM_often iM_setMany iM_someOf iM_allOf iM_allWeight iM_enoughWeight iM_worthSum iM_firstRest iM_leastDrawn), (arI rM_letters kM_letters 8 fM_letters)] [(kM_letters, .int)] t) (va_A [(oc7 oM iM_thrown rM_tape iM_taped iM_size iM_at iM_end iM_token iM_whole iM_nameSize iM_fault iM_place iM_trouble rM_letters iM_failed iM_hasCourt rM_r rM_fresh rM_told rM_read rM_st rM_undone rM_kept iM_undos iM_images rM_fresher iM_fresherSize iM_scale iM_night rM_heardRow rM_cutRow iM_breaths iM_cutMany iM_allBreaths rM_trial rM_words iM_fewestBreaths iM_orderMany iM_orderSum iM_leastOrder rM_often iM_setMany iM_someOf iM_allOf iM_allWeight iM_enoughWeight iM_worthSum iM_firstRest iM_leastDrawn), (arI rM_letters kM_letters 8 fM_letters)] sz)) 0 0 (va_A [(oc7 oM iM_thrown rM_tape iM_taped iM_size iM_at iM_end iM_token iM_whole iM_nameSize iM_fault iM_place iM_trouble rM_letters iM_failed iM_hasCourt rM_r rM_fresh rM_told rM_read rM_st rM_undone rM_kept iM_undos iM_images rM_fresher iM_fresherSize iM_scale iM_night rM_heardRow rM_cutRow iM_breaths iM_cutMany iM_allBreaths rM_trial rM_words iM_fewestBreaths iM_orderMany iM_orderSum iM_leastOrder rM_often iM_setMany iM_someOf iM_allOf iM_allWeight iM_enoughWeight iM_worthSum iM_firstRest iM_leastDrawn), (arI rM_letters kM_letters 8 fM_letters)] sz) := by
  refine Met.ofW (cc := cX7_mustName) (maxL := 1) (ret := none) (by decide) rfl ?_
  intro p e s m args below meth c s₁ B hml hv
  obtain ⟨rfl, hsz, hP, hK, hD0, hE⟩ := hv
  have hx := B.exec
  have hb := B.bytes
  have hr := B.returns
  have hts : ∀ w ∈ wG, w.before ([.ref oM] : List Value).toArray s = true := fun w h => atoms_spec (ws := Cond.code yX7_mustName cX7_mustName 1 none :: wG) B.pre w (List.mem_cons_of_mem _ h)
  have hown : s.vm.findClass RX7 = some m.cls := findClass_of_methodNamed B.named
  have hlocks := B.notSynchronized
  subst hsz
  have hD := hD0.self (sz := s.heap.size)
  generalize hAe : va_A [(oc7 oM iM_thrown rM_tape iM_taped iM_size iM_at iM_end iM_token iM_whole iM_nameSize iM_fault iM_place iM_trouble rM_letters iM_failed iM_hasCourt rM_r rM_fresh rM_told rM_read rM_st rM_undone rM_kept iM_undos iM_images rM_fresher iM_fresherSize iM_scale iM_night rM_heardRow rM_cutRow iM_breaths iM_cutMany iM_allBreaths rM_trial rM_words iM_fewestBreaths iM_orderMany iM_orderSum iM_leastOrder rM_often iM_setMany iM_someOf iM_allOf iM_allWeight iM_enoughWeight iM_worthSum iM_firstRest iM_leastDrawn), (arI rM_letters kM_letters 8 fM_letters)] s.heap.size = A at hD hE ⊢
  have hA : ∀ q : Nat, s.heap.size ≤ q → A q := fun q h => by rw [← hAe]; exact Or.inr h
  have hS : va_S A s.heap s.heap [] := va_S.rf
  have hl := lv_entry ([.ref oM]) (n := 1) (Nat.le_of_ble_eq_true rfl)
  rw [lg_entry_eq]
  generalize (lg_sl ([.ref oM]) ++ List.replicate (1 - (lg_sl ([.ref oM])).length) Slot.unset).toArray = ls at hl ⊢
  have hl : lv_has ls 1 [(0, .ref oM)] := hl
  have hG := PX7_mustName_eq iM_at iM_token iM_nameSize iM_fault iM_place fM_letters iM_failed
  refine lv_aload_n hx hb dX7_mustName_0 rfl (lv_at hl 0 rfl) ?_
  refine va_get (D := (dC, dI)) (ci := 7) (v := .int iM_token) (C := RX7) (T := TX7) (N := 48) hx hb hts inX7 hown hK hP 0 rfl rfl 6 (by decide) (hts _ wd_383) (fun _ h9 => h9) rfl dX7_mustName_1 ?_
  refine lv_iconst (v := 2) hx hb dX7_mustName_4 (by decide) ?_
  refine lv_icmp_ne (tgt := 80) hx hb dX7_mustName_5 (by decide) (fun c_4990 => ?_) (fun c_4990 => ?_)
  · skip
    have hG := hG.trans (if_neg c_4990)
    have gc_4990 := ti_ne c_4990 rfl kc_2
    refine lv_aload_n hx hb dX7_mustName_80 rfl (lv_at hl 0 rfl) ?_
    refine lv_iconst (v := 1) hx hb dX7_mustName_81 (by decide) ?_
    refine lv_aload_n hx hb dX7_mustName_82 rfl (lv_at hl 0 rfl) ?_
    refine va_get (D := (dC, dI)) (ci := 7) (v := .int iM_at) (C := RX7) (T := TX7) (N := 48) hx hb hts inX7 hown hK hP 0 rfl rfl 4 (by decide) (hts _ wd_384) (fun _ h9 => h9) rfl dX7_mustName_83 ?_
    have hFc := va_free (wc := [(oc7 oM iM_thrown rM_tape iM_taped iM_size iM_at iM_end iM_token iM_whole iM_nameSize iM_fault iM_place iM_trouble rM_letters iM_failed iM_hasCourt rM_r rM_fresh rM_told rM_read rM_st rM_undone rM_kept iM_undos iM_images rM_fresher iM_fresherSize iM_scale iM_night rM_heardRow rM_cutRow iM_breaths iM_cutMany iM_allBreaths rM_trial rM_words iM_fewestBreaths iM_orderMany iM_orderSum iM_leastOrder rM_often iM_setMany iM_someOf iM_allOf iM_allWeight iM_enoughWeight iM_worthSum iM_firstRest iM_leastDrawn)]) hD hS hA [0] rfl
    refine va_callv (va_runV (As := [.int 1, .int iM_at]) (rest := []) ⟨hx, hb, hml, hown, hts⟩ (tX7_wrong l dC dI _ oM iM_thrown rM_tape iM_taped iM_size iM_at iM_end iM_token iM_whole iM_nameSize iM_fault iM_place iM_trouble rM_letters iM_failed iM_hasCourt rM_r rM_fresh rM_told rM_read rM_st rM_undone rM_kept iM_undos iM_images rM_fresher iM_fresherSize iM_scale iM_night rM_heardRow rM_cutRow iM_breaths iM_cutMany iM_allBreaths rM_trial rM_words iM_fewestBreaths iM_orderMany iM_orderSum iM_leastOrder rM_often iM_setMany iM_someOf iM_allOf iM_allWeight iM_enoughWeight iM_worthSum iM_firstRest iM_leastDrawn 1 iM_at (by first | omega | decide) (by first | omega | decide) (by first | omega | decide) (by first | omega | decide) (by first | omega | decide) (by first | omega | decide) (by first | omega | decide) (by first | omega | decide) (by first | omega | decide) (by first | omega | decide) (by first | omega | decide) (by first | assumption | exact (fun h9 => by have q0 := kc_0; have q1 := kc_1; omega))) (cwV 2 hts (wd_V wd_430 wd_431 wd_432 wd_5 (wd_c wd_433)) rfl rfl rfl (by decide +kernel) ⟨Nat.le_of_ble_eq_true rfl, Nat.le_of_ble_eq_true rfl⟩) ⟨Pw.fb, va_recv hK hP (ci := 7) (q0 := 0) rfl rfl, fun U hU hW => Pw.to (hP.sub [0] rfl) (hD.sub [0] (by decide) rfl) (hK.sub [] rfl) hE hS hFc hU hW⟩ rfl rfl hl.1 rfl (lv_room (Nat.le_of_ble_eq_true rfl)) dX7_mustName_86 ⟨Nat.le_of_ble_eq_true rfl, Nat.le_of_ble_eq_true rfl⟩) hS (fun q _ h => hFc q h) hFc (fun u t H locs ht hvm hw hB hz1 hk1 hS => ?_)
    obtain ⟨x_4991, x_4992, x_4993, b_x_4993, e_x_4991_0, e_x_4991_1, hB⟩ := hB
    obtain ⟨hP, hD, hK⟩ := Bw.go (ws' := [(arI rM_letters kM_letters 8 fM_letters), (oc7 oM iM_thrown rM_tape iM_taped iM_size iM_at iM_end iM_token iM_whole iM_nameSize x_4991 x_4992 iM_trouble rM_letters x_4993 iM_hasCourt rM_r rM_fresh rM_told rM_read rM_st rM_undone rM_kept iM_undos iM_images rM_fresher iM_fresherSize iM_scale iM_night rM_heardRow rM_cutRow iM_breaths iM_cutMany iM_allBreaths rM_trial rM_words iM_fewestBreaths iM_orderMany iM_orderSum iM_leastOrder rM_often iM_setMany iM_someOf iM_allOf iM_allWeight iM_enoughWeight iM_worthSum iM_firstRest iM_leastDrawn)]) (tys' := [(kM_letters, .int)]) hB rfl ht hvm hP hD hK [0] [1] rfl (by decide) (by decide) [0] hk1 hFc rfl rfl rfl
    clear hz1 hk1 hvm ht hB
    have hG := hG.trans (un3_eq e_x_4991_1)
    exact W.vret hx hb hr (fun t ht hW => ⟨⟨0, rfl, trivial, ⟨x_4991, x_4992, x_4993, b_x_4993, (by first | assumption | (have q0 := kc_0; have q1 := kc_1; omega)), (by first | assumption | exact (fun h9 => by have q0 := kc_0; have q1 := kc_1; omega)), hG, Bw.to (hP.sub [1, 0] rfl) (hD.sub [1, 0] (by decide) rfl) (hK.sub [0] rfl) ht hW⟩⟩, hS.F ht⟩) hS.2.2 dX7_mustName_89
  · skip
    have hG := hG.trans (if_pos c_4990)
    have gc_4990 := ti_eq c_4990 rfl kc_2
    have h_4994 := r_T (by omega)
    clear r_T
    refine lv_aload_n hx hb dX7_mustName_8 rfl (lv_at hl 0 rfl) ?_
    obtain ⟨sa_4995, vsa_4995, nsa_4995, fsa_4995, hnsa_4995, hnesa_4995, hfesa_4995, hRsa_4995, hSsa_4995⟩ := hE.2.2.1 (134, "court", [99, 111, 117, 114, 116]) (by decide)
    have hG := hG.trans (lt_eq hnesa_4995)
    have hG := hG.trans (lt_eq hfesa_4995)
    refine va_ldcS hx hb hown hRsa_4995 dX7_mustName_9 ?_
    have hFc := va_free (wc := [(oc7 oM iM_thrown rM_tape iM_taped iM_size iM_at iM_end iM_token iM_whole iM_nameSize iM_fault iM_place iM_trouble rM_letters iM_failed iM_hasCourt rM_r rM_fresh rM_told rM_read rM_st rM_undone rM_kept iM_undos iM_images rM_fresher iM_fresherSize iM_scale iM_night rM_heardRow rM_cutRow iM_breaths iM_cutMany iM_allBreaths rM_trial rM_words iM_fewestBreaths iM_orderMany iM_orderSum iM_leastOrder rM_often iM_setMany iM_someOf iM_allOf iM_allWeight iM_enoughWeight iM_worthSum iM_firstRest iM_leastDrawn), (arI rM_letters kM_letters 8 fM_letters)]) hD hS hA [0, 1] rfl
    refine va_calli (va_runV (As := [.ref sa_4995]) (rest := []) ⟨hx, hb, hml, hown, hts⟩ (tX7_isWord l dC dI _ oM iM_thrown rM_tape iM_taped iM_size iM_at iM_end iM_token iM_whole iM_nameSize iM_fault iM_place iM_trouble rM_letters fM_letters kM_letters iM_failed iM_hasCourt rM_r rM_fresh rM_told rM_read rM_st rM_undone rM_kept iM_undos iM_images rM_fresher iM_fresherSize iM_scale iM_night rM_heardRow rM_cutRow iM_breaths iM_cutMany iM_allBreaths rM_trial rM_words iM_fewestBreaths iM_orderMany iM_orderSum iM_leastOrder rM_often iM_setMany iM_someOf iM_allOf iM_allWeight iM_enoughWeight iM_worthSum iM_firstRest iM_leastDrawn sa_4995 vsa_4995 nsa_4995 fsa_4995 (by first | omega | decide) (by first | omega | decide) (by first | omega | decide) (by first | omega | decide) (by first | omega | decide) (by first | omega | decide) (by first | omega | decide) (by first | omega | decide) (by first | omega | decide) (by first | omega | decide) (by first | omega | decide) (by first | assumption | exact (fun h9 => by have q0 := kc_0; have q1 := kc_1; omega)) (by first | omega | decide | assumption | (have q0 := kc_0; have q1 := kc_1; omega) | (intro h; exact absurd h (by decide)))) (cwV 1 hts (wd_V wd_420 wd_421 wd_422 wd_5 (wd_c wd_423)) rfl rfl rfl (by decide +kernel) ⟨Nat.le_of_ble_eq_true rfl, Nat.le_of_ble_eq_true rfl⟩) ⟨Pq.fb, va_recv hK hP (ci := 7) (q0 := 0) rfl rfl, fun U hU hW => Pq.to (hP.sub [0, 1] rfl) (hD.sub [0, 1] (by decide) rfl) (hK.sub [0] rfl) hSsa_4995 hE hS hFc hU hW⟩ rfl rfl hl.1 rfl (lv_room (Nat.le_of_ble_eq_true rfl)) dX7_mustName_11 ⟨Nat.le_of_ble_eq_true rfl, Nat.le_of_ble_eq_true rfl⟩) hS (fun q _ h => hFc q h) hFc (fun r u t H locs ht hvm hw hB hz1 hk1 hS => ?_)
    have hru9 := hw.2
    have hw := hw.1
    obtain ⟨hP, hD, hK⟩ := Bw.go (ws' := [(oc7 oM iM_thrown rM_tape iM_taped iM_size iM_at iM_end iM_token iM_whole iM_nameSize iM_fault iM_place iM_trouble rM_letters iM_failed iM_hasCourt rM_r rM_fresh rM_told rM_read rM_st rM_undone rM_kept iM_undos iM_images rM_fresher iM_fresherSize iM_scale iM_night rM_heardRow rM_cutRow iM_breaths iM_cutMany iM_allBreaths rM_trial rM_words iM_fewestBreaths iM_orderMany iM_orderSum iM_leastOrder rM_often iM_setMany iM_someOf iM_allOf iM_allWeight iM_enoughWeight iM_worthSum iM_firstRest iM_leastDrawn), (arI rM_letters kM_letters 8 fM_letters)]) (tys' := [(kM_letters, .int)]) hB rfl ht hvm hP hD hK [0, 1] [] rfl (by decide) (by decide) [] hk1 hFc rfl rfl rfl
    clear hz1 hk1 hvm ht hB
    obtain ⟨x_4996, rfl⟩ : ∃ z, z = r := ⟨_, rfl⟩
    have hG := hG.trans (lt_eq hru9.symm)
    have bx_4996 := hw.1
    have dx_4996 := bz_ti bx_4996
    have lx_4996 := hw.2
    refine lv_if_ne (tgt := 80) hx hb dX7_mustName_14 (by decide) (fun c_4997 => ?_) (fun c_4997 => ?_)
    · skip
      have hG := hG.trans (if_neg c_4997)
      have gc_4997 := ti_ne c_4997 rfl kc_0
      replace gc_4997 : (-1) * x_4996.toInt + 1 ≤ 0 := by omega
      have h_4998 := lx_4996 (by omega)
      clear lx_4996
      refine lv_aload_n hx hb dX7_mustName_80 rfl (lv_at hl 0 rfl) ?_
      refine lv_iconst (v := 1) hx hb dX7_mustName_81 (by decide) ?_
      refine lv_aload_n hx hb dX7_mustName_82 rfl (lv_at hl 0 rfl) ?_
      refine va_get (D := (dC, dI)) (ci := 7) (v := .int iM_at) (C := RX7) (T := TX7) (N := 48) hx hb hts inX7 hown hK hP 0 rfl rfl 4 (by decide) (hts _ wd_384) (fun _ h9 => h9) rfl dX7_mustName_83 ?_
      have hFc := va_free (wc := [(oc7 oM iM_thrown rM_tape iM_taped iM_size iM_at iM_end iM_token iM_whole iM_nameSize iM_fault iM_place iM_trouble rM_letters iM_failed iM_hasCourt rM_r rM_fresh rM_told rM_read rM_st rM_undone rM_kept iM_undos iM_images rM_fresher iM_fresherSize iM_scale iM_night rM_heardRow rM_cutRow iM_breaths iM_cutMany iM_allBreaths rM_trial rM_words iM_fewestBreaths iM_orderMany iM_orderSum iM_leastOrder rM_often iM_setMany iM_someOf iM_allOf iM_allWeight iM_enoughWeight iM_worthSum iM_firstRest iM_leastDrawn)]) hD hS hA [0] rfl
      refine va_callv (va_runV (As := [.int 1, .int iM_at]) (rest := []) ⟨hx, hb, hml, hown, hts⟩ (tX7_wrong l dC dI _ oM iM_thrown rM_tape iM_taped iM_size iM_at iM_end iM_token iM_whole iM_nameSize iM_fault iM_place iM_trouble rM_letters iM_failed iM_hasCourt rM_r rM_fresh rM_told rM_read rM_st rM_undone rM_kept iM_undos iM_images rM_fresher iM_fresherSize iM_scale iM_night rM_heardRow rM_cutRow iM_breaths iM_cutMany iM_allBreaths rM_trial rM_words iM_fewestBreaths iM_orderMany iM_orderSum iM_leastOrder rM_often iM_setMany iM_someOf iM_allOf iM_allWeight iM_enoughWeight iM_worthSum iM_firstRest iM_leastDrawn 1 iM_at (by first | omega | decide) (by first | omega | decide) (by first | omega | decide) (by first | omega | decide) (by first | omega | decide) (by first | omega | decide) (by first | omega | decide) (by first | omega | decide) (by first | omega | decide) (by first | omega | decide) (by first | omega | decide) (by first | assumption | exact (fun h9 => by have q0 := kc_0; have q1 := kc_1; omega))) (cwV 2 hts (wd_V wd_430 wd_431 wd_432 wd_5 (wd_c wd_433)) rfl rfl rfl (by decide +kernel) ⟨Nat.le_of_ble_eq_true rfl, Nat.le_of_ble_eq_true rfl⟩) ⟨Pw.fb, va_recv hK hP (ci := 7) (q0 := 0) rfl rfl, fun U hU hW => Pw.to (hP.sub [0] rfl) (hD.sub [0] (by decide) rfl) (hK.sub [] rfl) hE hS hFc hU hW⟩ rfl rfl hl.1 rfl (lv_room (Nat.le_of_ble_eq_true rfl)) dX7_mustName_86 ⟨Nat.le_of_ble_eq_true rfl, Nat.le_of_ble_eq_true rfl⟩) hS (fun q _ h => hFc q h) hFc (fun u t H locs ht hvm hw hB hz1 hk1 hS => ?_)
      obtain ⟨x_4999, x_5000, x_5001, b_x_5001, e_x_4999_0, e_x_4999_1, hB⟩ := hB
      obtain ⟨hP, hD, hK⟩ := Bw.go (ws' := [(arI rM_letters kM_letters 8 fM_letters), (oc7 oM iM_thrown rM_tape iM_taped iM_size iM_at iM_end iM_token iM_whole iM_nameSize x_4999 x_5000 iM_trouble rM_letters x_5001 iM_hasCourt rM_r rM_fresh rM_told rM_read rM_st rM_undone rM_kept iM_undos iM_images rM_fresher iM_fresherSize iM_scale iM_night rM_heardRow rM_cutRow iM_breaths iM_cutMany iM_allBreaths rM_trial rM_words iM_fewestBreaths iM_orderMany iM_orderSum iM_leastOrder rM_often iM_setMany iM_someOf iM_allOf iM_allWeight iM_enoughWeight iM_worthSum iM_firstRest iM_leastDrawn)]) (tys' := [(kM_letters, .int)]) hB rfl ht hvm hP hD hK [0] [1] rfl (by decide) (by decide) [0] hk1 hFc rfl rfl rfl
      clear hz1 hk1 hvm ht hB
      have hG := hG.trans (un3_eq e_x_4999_1)
      exact W.vret hx hb hr (fun t ht hW => ⟨⟨0, rfl, trivial, ⟨x_4999, x_5000, x_5001, b_x_5001, (by first | assumption | (have q0 := kc_0; have q1 := kc_1; omega)), (by first | assumption | exact (fun h9 => by have q0 := kc_0; have q1 := kc_1; omega)), hG, Bw.to (hP.sub [1, 0] rfl) (hD.sub [1, 0] (by decide) rfl) (hK.sub [0] rfl) ht hW⟩⟩, hS.F ht⟩) hS.2.2 dX7_mustName_89
    · skip
      have hG := hG.trans (if_pos c_4997)
      have gc_4997 := ti_eq c_4997 rfl kc_0
      clear lx_4996
      refine lv_aload_n hx hb dX7_mustName_17 rfl (lv_at hl 0 rfl) ?_
      obtain ⟨sa_5002, vsa_5002, nsa_5002, fsa_5002, hnsa_5002, hnesa_5002, hfesa_5002, hRsa_5002, hSsa_5002⟩ := hE.2.2.1 (136, "word", [119, 111, 114, 100]) (by decide)
      have hG := hG.trans (lt_eq hnesa_5002)
      have hG := hG.trans (lt_eq hfesa_5002)
      refine va_ldcS hx hb hown hRsa_5002 dX7_mustName_18 ?_
      have hFc := va_free (wc := [(oc7 oM iM_thrown rM_tape iM_taped iM_size iM_at iM_end iM_token iM_whole iM_nameSize iM_fault iM_place iM_trouble rM_letters iM_failed iM_hasCourt rM_r rM_fresh rM_told rM_read rM_st rM_undone rM_kept iM_undos iM_images rM_fresher iM_fresherSize iM_scale iM_night rM_heardRow rM_cutRow iM_breaths iM_cutMany iM_allBreaths rM_trial rM_words iM_fewestBreaths iM_orderMany iM_orderSum iM_leastOrder rM_often iM_setMany iM_someOf iM_allOf iM_allWeight iM_enoughWeight iM_worthSum iM_firstRest iM_leastDrawn), (arI rM_letters kM_letters 8 fM_letters)]) hD hS hA [0, 1] rfl
      refine va_calli (va_runV (As := [.ref sa_5002]) (rest := []) ⟨hx, hb, hml, hown, hts⟩ (tX7_isWord l dC dI _ oM iM_thrown rM_tape iM_taped iM_size iM_at iM_end iM_token iM_whole iM_nameSize iM_fault iM_place iM_trouble rM_letters fM_letters kM_letters iM_failed iM_hasCourt rM_r rM_fresh rM_told rM_read rM_st rM_undone rM_kept iM_undos iM_images rM_fresher iM_fresherSize iM_scale iM_night rM_heardRow rM_cutRow iM_breaths iM_cutMany iM_allBreaths rM_trial rM_words iM_fewestBreaths iM_orderMany iM_orderSum iM_leastOrder rM_often iM_setMany iM_someOf iM_allOf iM_allWeight iM_enoughWeight iM_worthSum iM_firstRest iM_leastDrawn sa_5002 vsa_5002 nsa_5002 fsa_5002 (by first | omega | decide) (by first | omega | decide) (by first | omega | decide) (by first | omega | decide) (by first | omega | decide) (by first | omega | decide) (by first | omega | decide) (by first | omega | decide) (by first | omega | decide) (by first | omega | decide) (by first | omega | decide) (by first | assumption | exact (fun h9 => by have q0 := kc_0; have q1 := kc_1; omega)) (by first | omega | decide | assumption | (have q0 := kc_0; have q1 := kc_1; omega) | (intro h; exact absurd h (by decide)))) (cwV 1 hts (wd_V wd_420 wd_421 wd_422 wd_5 (wd_c wd_423)) rfl rfl rfl (by decide +kernel) ⟨Nat.le_of_ble_eq_true rfl, Nat.le_of_ble_eq_true rfl⟩) ⟨Pq.fb, va_recv hK hP (ci := 7) (q0 := 0) rfl rfl, fun U hU hW => Pq.to (hP.sub [0, 1] rfl) (hD.sub [0, 1] (by decide) rfl) (hK.sub [0] rfl) hSsa_5002 hE hS hFc hU hW⟩ rfl rfl hl.1 rfl (lv_room (Nat.le_of_ble_eq_true rfl)) dX7_mustName_20 ⟨Nat.le_of_ble_eq_true rfl, Nat.le_of_ble_eq_true rfl⟩) hS (fun q _ h => hFc q h) hFc (fun r u t H locs ht hvm hw hB hz1 hk1 hS => ?_)
      have hru9 := hw.2
      have hw := hw.1
      obtain ⟨hP, hD, hK⟩ := Bw.go (ws' := [(oc7 oM iM_thrown rM_tape iM_taped iM_size iM_at iM_end iM_token iM_whole iM_nameSize iM_fault iM_place iM_trouble rM_letters iM_failed iM_hasCourt rM_r rM_fresh rM_told rM_read rM_st rM_undone rM_kept iM_undos iM_images rM_fresher iM_fresherSize iM_scale iM_night rM_heardRow rM_cutRow iM_breaths iM_cutMany iM_allBreaths rM_trial rM_words iM_fewestBreaths iM_orderMany iM_orderSum iM_leastOrder rM_often iM_setMany iM_someOf iM_allOf iM_allWeight iM_enoughWeight iM_worthSum iM_firstRest iM_leastDrawn), (arI rM_letters kM_letters 8 fM_letters)]) (tys' := [(kM_letters, .int)]) hB rfl ht hvm hP hD hK [0, 1] [] rfl (by decide) (by decide) [] hk1 hFc rfl rfl rfl
      clear hz1 hk1 hvm ht hB
      obtain ⟨x_5003, rfl⟩ : ∃ z, z = r := ⟨_, rfl⟩
      have hG := hG.trans (lt_eq hru9.symm)
      have bx_5003 := hw.1
      have dx_5003 := bz_ti bx_5003
      have lx_5003 := hw.2
      refine lv_if_ne (tgt := 80) hx hb dX7_mustName_23 (by decide) (fun c_5004 => ?_) (fun c_5004 => ?_)
      · skip
        have hG := hG.trans (if_neg c_5004)
        have gc_5004 := ti_ne c_5004 rfl kc_0
        replace gc_5004 : (-1) * x_5003.toInt + 1 ≤ 0 := by omega
        have h_5005 := lx_5003 (by omega)
        clear lx_5003
        refine lv_aload_n hx hb dX7_mustName_80 rfl (lv_at hl 0 rfl) ?_
        refine lv_iconst (v := 1) hx hb dX7_mustName_81 (by decide) ?_
        refine lv_aload_n hx hb dX7_mustName_82 rfl (lv_at hl 0 rfl) ?_
        refine va_get (D := (dC, dI)) (ci := 7) (v := .int iM_at) (C := RX7) (T := TX7) (N := 48) hx hb hts inX7 hown hK hP 0 rfl rfl 4 (by decide) (hts _ wd_384) (fun _ h9 => h9) rfl dX7_mustName_83 ?_
        have hFc := va_free (wc := [(oc7 oM iM_thrown rM_tape iM_taped iM_size iM_at iM_end iM_token iM_whole iM_nameSize iM_fault iM_place iM_trouble rM_letters iM_failed iM_hasCourt rM_r rM_fresh rM_told rM_read rM_st rM_undone rM_kept iM_undos iM_images rM_fresher iM_fresherSize iM_scale iM_night rM_heardRow rM_cutRow iM_breaths iM_cutMany iM_allBreaths rM_trial rM_words iM_fewestBreaths iM_orderMany iM_orderSum iM_leastOrder rM_often iM_setMany iM_someOf iM_allOf iM_allWeight iM_enoughWeight iM_worthSum iM_firstRest iM_leastDrawn)]) hD hS hA [0] rfl
        refine va_callv (va_runV (As := [.int 1, .int iM_at]) (rest := []) ⟨hx, hb, hml, hown, hts⟩ (tX7_wrong l dC dI _ oM iM_thrown rM_tape iM_taped iM_size iM_at iM_end iM_token iM_whole iM_nameSize iM_fault iM_place iM_trouble rM_letters iM_failed iM_hasCourt rM_r rM_fresh rM_told rM_read rM_st rM_undone rM_kept iM_undos iM_images rM_fresher iM_fresherSize iM_scale iM_night rM_heardRow rM_cutRow iM_breaths iM_cutMany iM_allBreaths rM_trial rM_words iM_fewestBreaths iM_orderMany iM_orderSum iM_leastOrder rM_often iM_setMany iM_someOf iM_allOf iM_allWeight iM_enoughWeight iM_worthSum iM_firstRest iM_leastDrawn 1 iM_at (by first | omega | decide) (by first | omega | decide) (by first | omega | decide) (by first | omega | decide) (by first | omega | decide) (by first | omega | decide) (by first | omega | decide) (by first | omega | decide) (by first | omega | decide) (by first | omega | decide) (by first | omega | decide) (by first | assumption | exact (fun h9 => by have q0 := kc_0; have q1 := kc_1; omega))) (cwV 2 hts (wd_V wd_430 wd_431 wd_432 wd_5 (wd_c wd_433)) rfl rfl rfl (by decide +kernel) ⟨Nat.le_of_ble_eq_true rfl, Nat.le_of_ble_eq_true rfl⟩) ⟨Pw.fb, va_recv hK hP (ci := 7) (q0 := 0) rfl rfl, fun U hU hW => Pw.to (hP.sub [0] rfl) (hD.sub [0] (by decide) rfl) (hK.sub [] rfl) hE hS hFc hU hW⟩ rfl rfl hl.1 rfl (lv_room (Nat.le_of_ble_eq_true rfl)) dX7_mustName_86 ⟨Nat.le_of_ble_eq_true rfl, Nat.le_of_ble_eq_true rfl⟩) hS (fun q _ h => hFc q h) hFc (fun u t H locs ht hvm hw hB hz1 hk1 hS => ?_)
        obtain ⟨x_5006, x_5007, x_5008, b_x_5008, e_x_5006_0, e_x_5006_1, hB⟩ := hB
        obtain ⟨hP, hD, hK⟩ := Bw.go (ws' := [(arI rM_letters kM_letters 8 fM_letters), (oc7 oM iM_thrown rM_tape iM_taped iM_size iM_at iM_end iM_token iM_whole iM_nameSize x_5006 x_5007 iM_trouble rM_letters x_5008 iM_hasCourt rM_r rM_fresh rM_told rM_read rM_st rM_undone rM_kept iM_undos iM_images rM_fresher iM_fresherSize iM_scale iM_night rM_heardRow rM_cutRow iM_breaths iM_cutMany iM_allBreaths rM_trial rM_words iM_fewestBreaths iM_orderMany iM_orderSum iM_leastOrder rM_often iM_setMany iM_someOf iM_allOf iM_allWeight iM_enoughWeight iM_worthSum iM_firstRest iM_leastDrawn)]) (tys' := [(kM_letters, .int)]) hB rfl ht hvm hP hD hK [0] [1] rfl (by decide) (by decide) [0] hk1 hFc rfl rfl rfl
        clear hz1 hk1 hvm ht hB
        have hG := hG.trans (un3_eq e_x_5006_1)
        exact W.vret hx hb hr (fun t ht hW => ⟨⟨0, rfl, trivial, ⟨x_5006, x_5007, x_5008, b_x_5008, (by first | assumption | (have q0 := kc_0; have q1 := kc_1; omega)), (by first | assumption | exact (fun h9 => by have q0 := kc_0; have q1 := kc_1; omega)), hG, Bw.to (hP.sub [1, 0] rfl) (hD.sub [1, 0] (by decide) rfl) (hK.sub [0] rfl) ht hW⟩⟩, hS.F ht⟩) hS.2.2 dX7_mustName_89
      · skip
        have hG := hG.trans (if_pos c_5004)
        have gc_5004 := ti_eq c_5004 rfl kc_0
        clear lx_5003
        refine lv_aload_n hx hb dX7_mustName_26 rfl (lv_at hl 0 rfl) ?_
        obtain ⟨sa_5009, vsa_5009, nsa_5009, fsa_5009, hnsa_5009, hnesa_5009, hfesa_5009, hRsa_5009, hSsa_5009⟩ := hE.2.2.1 (138, "king", [107, 105, 110, 103]) (by decide)
        have hG := hG.trans (lt_eq hnesa_5009)
        have hG := hG.trans (lt_eq hfesa_5009)
        refine va_ldcS hx hb hown hRsa_5009 dX7_mustName_27 ?_
        have hFc := va_free (wc := [(oc7 oM iM_thrown rM_tape iM_taped iM_size iM_at iM_end iM_token iM_whole iM_nameSize iM_fault iM_place iM_trouble rM_letters iM_failed iM_hasCourt rM_r rM_fresh rM_told rM_read rM_st rM_undone rM_kept iM_undos iM_images rM_fresher iM_fresherSize iM_scale iM_night rM_heardRow rM_cutRow iM_breaths iM_cutMany iM_allBreaths rM_trial rM_words iM_fewestBreaths iM_orderMany iM_orderSum iM_leastOrder rM_often iM_setMany iM_someOf iM_allOf iM_allWeight iM_enoughWeight iM_worthSum iM_firstRest iM_leastDrawn), (arI rM_letters kM_letters 8 fM_letters)]) hD hS hA [0, 1] rfl
        refine va_calli (va_runV (As := [.ref sa_5009]) (rest := []) ⟨hx, hb, hml, hown, hts⟩ (tX7_isWord l dC dI _ oM iM_thrown rM_tape iM_taped iM_size iM_at iM_end iM_token iM_whole iM_nameSize iM_fault iM_place iM_trouble rM_letters fM_letters kM_letters iM_failed iM_hasCourt rM_r rM_fresh rM_told rM_read rM_st rM_undone rM_kept iM_undos iM_images rM_fresher iM_fresherSize iM_scale iM_night rM_heardRow rM_cutRow iM_breaths iM_cutMany iM_allBreaths rM_trial rM_words iM_fewestBreaths iM_orderMany iM_orderSum iM_leastOrder rM_often iM_setMany iM_someOf iM_allOf iM_allWeight iM_enoughWeight iM_worthSum iM_firstRest iM_leastDrawn sa_5009 vsa_5009 nsa_5009 fsa_5009 (by first | omega | decide) (by first | omega | decide) (by first | omega | decide) (by first | omega | decide) (by first | omega | decide) (by first | omega | decide) (by first | omega | decide) (by first | omega | decide) (by first | omega | decide) (by first | omega | decide) (by first | omega | decide) (by first | assumption | exact (fun h9 => by have q0 := kc_0; have q1 := kc_1; omega)) (by first | omega | decide | assumption | (have q0 := kc_0; have q1 := kc_1; omega) | (intro h; exact absurd h (by decide)))) (cwV 1 hts (wd_V wd_420 wd_421 wd_422 wd_5 (wd_c wd_423)) rfl rfl rfl (by decide +kernel) ⟨Nat.le_of_ble_eq_true rfl, Nat.le_of_ble_eq_true rfl⟩) ⟨Pq.fb, va_recv hK hP (ci := 7) (q0 := 0) rfl rfl, fun U hU hW => Pq.to (hP.sub [0, 1] rfl) (hD.sub [0, 1] (by decide) rfl) (hK.sub [0] rfl) hSsa_5009 hE hS hFc hU hW⟩ rfl rfl hl.1 rfl (lv_room (Nat.le_of_ble_eq_true rfl)) dX7_mustName_29 ⟨Nat.le_of_ble_eq_true rfl, Nat.le_of_ble_eq_true rfl⟩) hS (fun q _ h => hFc q h) hFc (fun r u t H locs ht hvm hw hB hz1 hk1 hS => ?_)
        have hru9 := hw.2
        have hw := hw.1
        obtain ⟨hP, hD, hK⟩ := Bw.go (ws' := [(oc7 oM iM_thrown rM_tape iM_taped iM_size iM_at iM_end iM_token iM_whole iM_nameSize iM_fault iM_place iM_trouble rM_letters iM_failed iM_hasCourt rM_r rM_fresh rM_told rM_read rM_st rM_undone rM_kept iM_undos iM_images rM_fresher iM_fresherSize iM_scale iM_night rM_heardRow rM_cutRow iM_breaths iM_cutMany iM_allBreaths rM_trial rM_words iM_fewestBreaths iM_orderMany iM_orderSum iM_leastOrder rM_often iM_setMany iM_someOf iM_allOf iM_allWeight iM_enoughWeight iM_worthSum iM_firstRest iM_leastDrawn), (arI rM_letters kM_letters 8 fM_letters)]) (tys' := [(kM_letters, .int)]) hB rfl ht hvm hP hD hK [0, 1] [] rfl (by decide) (by decide) [] hk1 hFc rfl rfl rfl
        clear hz1 hk1 hvm ht hB
        obtain ⟨x_5010, rfl⟩ : ∃ z, z = r := ⟨_, rfl⟩
        have hG := hG.trans (lt_eq hru9.symm)
        have bx_5010 := hw.1
        have dx_5010 := bz_ti bx_5010
        have lx_5010 := hw.2
        refine lv_if_ne (tgt := 80) hx hb dX7_mustName_32 (by decide) (fun c_5011 => ?_) (fun c_5011 => ?_)
        · skip
          have hG := hG.trans (if_neg c_5011)
          have gc_5011 := ti_ne c_5011 rfl kc_0
          replace gc_5011 : (-1) * x_5010.toInt + 1 ≤ 0 := by omega
          have h_5012 := lx_5010 (by omega)
          clear lx_5010
          refine lv_aload_n hx hb dX7_mustName_80 rfl (lv_at hl 0 rfl) ?_
          refine lv_iconst (v := 1) hx hb dX7_mustName_81 (by decide) ?_
          refine lv_aload_n hx hb dX7_mustName_82 rfl (lv_at hl 0 rfl) ?_
          refine va_get (D := (dC, dI)) (ci := 7) (v := .int iM_at) (C := RX7) (T := TX7) (N := 48) hx hb hts inX7 hown hK hP 0 rfl rfl 4 (by decide) (hts _ wd_384) (fun _ h9 => h9) rfl dX7_mustName_83 ?_
          have hFc := va_free (wc := [(oc7 oM iM_thrown rM_tape iM_taped iM_size iM_at iM_end iM_token iM_whole iM_nameSize iM_fault iM_place iM_trouble rM_letters iM_failed iM_hasCourt rM_r rM_fresh rM_told rM_read rM_st rM_undone rM_kept iM_undos iM_images rM_fresher iM_fresherSize iM_scale iM_night rM_heardRow rM_cutRow iM_breaths iM_cutMany iM_allBreaths rM_trial rM_words iM_fewestBreaths iM_orderMany iM_orderSum iM_leastOrder rM_often iM_setMany iM_someOf iM_allOf iM_allWeight iM_enoughWeight iM_worthSum iM_firstRest iM_leastDrawn)]) hD hS hA [0] rfl
          refine va_callv (va_runV (As := [.int 1, .int iM_at]) (rest := []) ⟨hx, hb, hml, hown, hts⟩ (tX7_wrong l dC dI _ oM iM_thrown rM_tape iM_taped iM_size iM_at iM_end iM_token iM_whole iM_nameSize iM_fault iM_place iM_trouble rM_letters iM_failed iM_hasCourt rM_r rM_fresh rM_told rM_read rM_st rM_undone rM_kept iM_undos iM_images rM_fresher iM_fresherSize iM_scale iM_night rM_heardRow rM_cutRow iM_breaths iM_cutMany iM_allBreaths rM_trial rM_words iM_fewestBreaths iM_orderMany iM_orderSum iM_leastOrder rM_often iM_setMany iM_someOf iM_allOf iM_allWeight iM_enoughWeight iM_worthSum iM_firstRest iM_leastDrawn 1 iM_at (by first | omega | decide) (by first | omega | decide) (by first | omega | decide) (by first | omega | decide) (by first | omega | decide) (by first | omega | decide) (by first | omega | decide) (by first | omega | decide) (by first | omega | decide) (by first | omega | decide) (by first | omega | decide) (by first | assumption | exact (fun h9 => by have q0 := kc_0; have q1 := kc_1; omega))) (cwV 2 hts (wd_V wd_430 wd_431 wd_432 wd_5 (wd_c wd_433)) rfl rfl rfl (by decide +kernel) ⟨Nat.le_of_ble_eq_true rfl, Nat.le_of_ble_eq_true rfl⟩) ⟨Pw.fb, va_recv hK hP (ci := 7) (q0 := 0) rfl rfl, fun U hU hW => Pw.to (hP.sub [0] rfl) (hD.sub [0] (by decide) rfl) (hK.sub [] rfl) hE hS hFc hU hW⟩ rfl rfl hl.1 rfl (lv_room (Nat.le_of_ble_eq_true rfl)) dX7_mustName_86 ⟨Nat.le_of_ble_eq_true rfl, Nat.le_of_ble_eq_true rfl⟩) hS (fun q _ h => hFc q h) hFc (fun u t H locs ht hvm hw hB hz1 hk1 hS => ?_)
          obtain ⟨x_5013, x_5014, x_5015, b_x_5015, e_x_5013_0, e_x_5013_1, hB⟩ := hB
          obtain ⟨hP, hD, hK⟩ := Bw.go (ws' := [(arI rM_letters kM_letters 8 fM_letters), (oc7 oM iM_thrown rM_tape iM_taped iM_size iM_at iM_end iM_token iM_whole iM_nameSize x_5013 x_5014 iM_trouble rM_letters x_5015 iM_hasCourt rM_r rM_fresh rM_told rM_read rM_st rM_undone rM_kept iM_undos iM_images rM_fresher iM_fresherSize iM_scale iM_night rM_heardRow rM_cutRow iM_breaths iM_cutMany iM_allBreaths rM_trial rM_words iM_fewestBreaths iM_orderMany iM_orderSum iM_leastOrder rM_often iM_setMany iM_someOf iM_allOf iM_allWeight iM_enoughWeight iM_worthSum iM_firstRest iM_leastDrawn)]) (tys' := [(kM_letters, .int)]) hB rfl ht hvm hP hD hK [0] [1] rfl (by decide) (by decide) [0] hk1 hFc rfl rfl rfl
          clear hz1 hk1 hvm ht hB
          have hG := hG.trans (un3_eq e_x_5013_1)
          exact W.vret hx hb hr (fun t ht hW => ⟨⟨0, rfl, trivial, ⟨x_5013, x_5014, x_5015, b_x_5015, (by first | assumption | (have q0 := kc_0; have q1 := kc_1; omega)), (by first | assumption | exact (fun h9 => by have q0 := kc_0; have q1 := kc_1; omega)), hG, Bw.to (hP.sub [1, 0] rfl) (hD.sub [1, 0] (by decide) rfl) (hK.sub [0] rfl) ht hW⟩⟩, hS.F ht⟩) hS.2.2 dX7_mustName_89
        · skip
          have hG := hG.trans (if_pos c_5011)
          have gc_5011 := ti_eq c_5011 rfl kc_0
          clear lx_5010
          refine lv_aload_n hx hb dX7_mustName_35 rfl (lv_at hl 0 rfl) ?_
          obtain ⟨sa_5016, vsa_5016, nsa_5016, fsa_5016, hnsa_5016, hnesa_5016, hfesa_5016, hRsa_5016, hSsa_5016⟩ := hE.2.2.1 (140, "queen", [113, 117, 101, 101, 110]) (by decide)
          have hG := hG.trans (lt_eq hnesa_5016)
          have hG := hG.trans (lt_eq hfesa_5016)
          refine va_ldcS hx hb hown hRsa_5016 dX7_mustName_36 ?_
          have hFc := va_free (wc := [(oc7 oM iM_thrown rM_tape iM_taped iM_size iM_at iM_end iM_token iM_whole iM_nameSize iM_fault iM_place iM_trouble rM_letters iM_failed iM_hasCourt rM_r rM_fresh rM_told rM_read rM_st rM_undone rM_kept iM_undos iM_images rM_fresher iM_fresherSize iM_scale iM_night rM_heardRow rM_cutRow iM_breaths iM_cutMany iM_allBreaths rM_trial rM_words iM_fewestBreaths iM_orderMany iM_orderSum iM_leastOrder rM_often iM_setMany iM_someOf iM_allOf iM_allWeight iM_enoughWeight iM_worthSum iM_firstRest iM_leastDrawn), (arI rM_letters kM_letters 8 fM_letters)]) hD hS hA [0, 1] rfl
          refine va_calli (va_runV (As := [.ref sa_5016]) (rest := []) ⟨hx, hb, hml, hown, hts⟩ (tX7_isWord l dC dI _ oM iM_thrown rM_tape iM_taped iM_size iM_at iM_end iM_token iM_whole iM_nameSize iM_fault iM_place iM_trouble rM_letters fM_letters kM_letters iM_failed iM_hasCourt rM_r rM_fresh rM_told rM_read rM_st rM_undone rM_kept iM_undos iM_images rM_fresher iM_fresherSize iM_scale iM_night rM_heardRow rM_cutRow iM_breaths iM_cutMany iM_allBreaths rM_trial rM_words iM_fewestBreaths iM_orderMany iM_orderSum iM_leastOrder rM_often iM_setMany iM_someOf iM_allOf iM_allWeight iM_enoughWeight iM_worthSum iM_firstRest iM_leastDrawn sa_5016 vsa_5016 nsa_5016 fsa_5016 (by first | omega | decide) (by first | omega | decide) (by first | omega | decide) (by first | omega | decide) (by first | omega | decide) (by first | omega | decide) (by first | omega | decide) (by first | omega | decide) (by first | omega | decide) (by first | omega | decide) (by first | omega | decide) (by first | assumption | exact (fun h9 => by have q0 := kc_0; have q1 := kc_1; omega)) (by first | omega | decide | assumption | (have q0 := kc_0; have q1 := kc_1; omega) | (intro h; exact absurd h (by decide)))) (cwV 1 hts (wd_V wd_420 wd_421 wd_422 wd_5 (wd_c wd_423)) rfl rfl rfl (by decide +kernel) ⟨Nat.le_of_ble_eq_true rfl, Nat.le_of_ble_eq_true rfl⟩) ⟨Pq.fb, va_recv hK hP (ci := 7) (q0 := 0) rfl rfl, fun U hU hW => Pq.to (hP.sub [0, 1] rfl) (hD.sub [0, 1] (by decide) rfl) (hK.sub [0] rfl) hSsa_5016 hE hS hFc hU hW⟩ rfl rfl hl.1 rfl (lv_room (Nat.le_of_ble_eq_true rfl)) dX7_mustName_38 ⟨Nat.le_of_ble_eq_true rfl, Nat.le_of_ble_eq_true rfl⟩) hS (fun q _ h => hFc q h) hFc (fun r u t H locs ht hvm hw hB hz1 hk1 hS => ?_)
          have hru9 := hw.2
          have hw := hw.1
          obtain ⟨hP, hD, hK⟩ := Bw.go (ws' := [(oc7 oM iM_thrown rM_tape iM_taped iM_size iM_at iM_end iM_token iM_whole iM_nameSize iM_fault iM_place iM_trouble rM_letters iM_failed iM_hasCourt rM_r rM_fresh rM_told rM_read rM_st rM_undone rM_kept iM_undos iM_images rM_fresher iM_fresherSize iM_scale iM_night rM_heardRow rM_cutRow iM_breaths iM_cutMany iM_allBreaths rM_trial rM_words iM_fewestBreaths iM_orderMany iM_orderSum iM_leastOrder rM_often iM_setMany iM_someOf iM_allOf iM_allWeight iM_enoughWeight iM_worthSum iM_firstRest iM_leastDrawn), (arI rM_letters kM_letters 8 fM_letters)]) (tys' := [(kM_letters, .int)]) hB rfl ht hvm hP hD hK [0, 1] [] rfl (by decide) (by decide) [] hk1 hFc rfl rfl rfl
          clear hz1 hk1 hvm ht hB
          obtain ⟨x_5017, rfl⟩ : ∃ z, z = r := ⟨_, rfl⟩
          have hG := hG.trans (lt_eq hru9.symm)
          have bx_5017 := hw.1
          have dx_5017 := bz_ti bx_5017
          have lx_5017 := hw.2
          refine lv_if_ne (tgt := 80) hx hb dX7_mustName_41 (by decide) (fun c_5018 => ?_) (fun c_5018 => ?_)
          · skip
            have hG := hG.trans (if_neg c_5018)
            have gc_5018 := ti_ne c_5018 rfl kc_0
            replace gc_5018 : (-1) * x_5017.toInt + 1 ≤ 0 := by omega
            have h_5019 := lx_5017 (by omega)
            clear lx_5017
            refine lv_aload_n hx hb dX7_mustName_80 rfl (lv_at hl 0 rfl) ?_
            refine lv_iconst (v := 1) hx hb dX7_mustName_81 (by decide) ?_
            refine lv_aload_n hx hb dX7_mustName_82 rfl (lv_at hl 0 rfl) ?_
            refine va_get (D := (dC, dI)) (ci := 7) (v := .int iM_at) (C := RX7) (T := TX7) (N := 48) hx hb hts inX7 hown hK hP 0 rfl rfl 4 (by decide) (hts _ wd_384) (fun _ h9 => h9) rfl dX7_mustName_83 ?_
            have hFc := va_free (wc := [(oc7 oM iM_thrown rM_tape iM_taped iM_size iM_at iM_end iM_token iM_whole iM_nameSize iM_fault iM_place iM_trouble rM_letters iM_failed iM_hasCourt rM_r rM_fresh rM_told rM_read rM_st rM_undone rM_kept iM_undos iM_images rM_fresher iM_fresherSize iM_scale iM_night rM_heardRow rM_cutRow iM_breaths iM_cutMany iM_allBreaths rM_trial rM_words iM_fewestBreaths iM_orderMany iM_orderSum iM_leastOrder rM_often iM_setMany iM_someOf iM_allOf iM_allWeight iM_enoughWeight iM_worthSum iM_firstRest iM_leastDrawn)]) hD hS hA [0] rfl
            refine va_callv (va_runV (As := [.int 1, .int iM_at]) (rest := []) ⟨hx, hb, hml, hown, hts⟩ (tX7_wrong l dC dI _ oM iM_thrown rM_tape iM_taped iM_size iM_at iM_end iM_token iM_whole iM_nameSize iM_fault iM_place iM_trouble rM_letters iM_failed iM_hasCourt rM_r rM_fresh rM_told rM_read rM_st rM_undone rM_kept iM_undos iM_images rM_fresher iM_fresherSize iM_scale iM_night rM_heardRow rM_cutRow iM_breaths iM_cutMany iM_allBreaths rM_trial rM_words iM_fewestBreaths iM_orderMany iM_orderSum iM_leastOrder rM_often iM_setMany iM_someOf iM_allOf iM_allWeight iM_enoughWeight iM_worthSum iM_firstRest iM_leastDrawn 1 iM_at (by first | omega | decide) (by first | omega | decide) (by first | omega | decide) (by first | omega | decide) (by first | omega | decide) (by first | omega | decide) (by first | omega | decide) (by first | omega | decide) (by first | omega | decide) (by first | omega | decide) (by first | omega | decide) (by first | assumption | exact (fun h9 => by have q0 := kc_0; have q1 := kc_1; omega))) (cwV 2 hts (wd_V wd_430 wd_431 wd_432 wd_5 (wd_c wd_433)) rfl rfl rfl (by decide +kernel) ⟨Nat.le_of_ble_eq_true rfl, Nat.le_of_ble_eq_true rfl⟩) ⟨Pw.fb, va_recv hK hP (ci := 7) (q0 := 0) rfl rfl, fun U hU hW => Pw.to (hP.sub [0] rfl) (hD.sub [0] (by decide) rfl) (hK.sub [] rfl) hE hS hFc hU hW⟩ rfl rfl hl.1 rfl (lv_room (Nat.le_of_ble_eq_true rfl)) dX7_mustName_86 ⟨Nat.le_of_ble_eq_true rfl, Nat.le_of_ble_eq_true rfl⟩) hS (fun q _ h => hFc q h) hFc (fun u t H locs ht hvm hw hB hz1 hk1 hS => ?_)
            obtain ⟨x_5020, x_5021, x_5022, b_x_5022, e_x_5020_0, e_x_5020_1, hB⟩ := hB
            obtain ⟨hP, hD, hK⟩ := Bw.go (ws' := [(arI rM_letters kM_letters 8 fM_letters), (oc7 oM iM_thrown rM_tape iM_taped iM_size iM_at iM_end iM_token iM_whole iM_nameSize x_5020 x_5021 iM_trouble rM_letters x_5022 iM_hasCourt rM_r rM_fresh rM_told rM_read rM_st rM_undone rM_kept iM_undos iM_images rM_fresher iM_fresherSize iM_scale iM_night rM_heardRow rM_cutRow iM_breaths iM_cutMany iM_allBreaths rM_trial rM_words iM_fewestBreaths iM_orderMany iM_orderSum iM_leastOrder rM_often iM_setMany iM_someOf iM_allOf iM_allWeight iM_enoughWeight iM_worthSum iM_firstRest iM_leastDrawn)]) (tys' := [(kM_letters, .int)]) hB rfl ht hvm hP hD hK [0] [1] rfl (by decide) (by decide) [0] hk1 hFc rfl rfl rfl
            clear hz1 hk1 hvm ht hB
            have hG := hG.trans (un3_eq e_x_5020_1)
            exact W.vret hx hb hr (fun t ht hW => ⟨⟨0, rfl, trivial, ⟨x_5020, x_5021, x_5022, b_x_5022, (by first | assumption | (have q0 := kc_0; have q1 := kc_1; omega)), (by first | assumption | exact (fun h9 => by have q0 := kc_0; have q1 := kc_1; omega)), hG, Bw.to (hP.sub [1, 0] rfl) (hD.sub [1, 0] (by decide) rfl) (hK.sub [0] rfl) ht hW⟩⟩, hS.F ht⟩) hS.2.2 dX7_mustName_89
          · skip
            have hG := hG.trans (if_pos c_5018)
            have gc_5018 := ti_eq c_5018 rfl kc_0
            clear lx_5017
            refine lv_aload_n hx hb dX7_mustName_44 rfl (lv_at hl 0 rfl) ?_
            obtain ⟨sa_5023, vsa_5023, nsa_5023, fsa_5023, hnsa_5023, hnesa_5023, hfesa_5023, hRsa_5023, hSsa_5023⟩ := hE.2.2.1 (142, "chance", [99, 104, 97, 110, 99, 101]) (by decide)
            have hG := hG.trans (lt_eq hnesa_5023)
            have hG := hG.trans (lt_eq hfesa_5023)
            refine va_ldcS hx hb hown hRsa_5023 dX7_mustName_45 ?_
            have hFc := va_free (wc := [(oc7 oM iM_thrown rM_tape iM_taped iM_size iM_at iM_end iM_token iM_whole iM_nameSize iM_fault iM_place iM_trouble rM_letters iM_failed iM_hasCourt rM_r rM_fresh rM_told rM_read rM_st rM_undone rM_kept iM_undos iM_images rM_fresher iM_fresherSize iM_scale iM_night rM_heardRow rM_cutRow iM_breaths iM_cutMany iM_allBreaths rM_trial rM_words iM_fewestBreaths iM_orderMany iM_orderSum iM_leastOrder rM_often iM_setMany iM_someOf iM_allOf iM_allWeight iM_enoughWeight iM_worthSum iM_firstRest iM_leastDrawn), (arI rM_letters kM_letters 8 fM_letters)]) hD hS hA [0, 1] rfl
            refine va_calli (va_runV (As := [.ref sa_5023]) (rest := []) ⟨hx, hb, hml, hown, hts⟩ (tX7_isWord l dC dI _ oM iM_thrown rM_tape iM_taped iM_size iM_at iM_end iM_token iM_whole iM_nameSize iM_fault iM_place iM_trouble rM_letters fM_letters kM_letters iM_failed iM_hasCourt rM_r rM_fresh rM_told rM_read rM_st rM_undone rM_kept iM_undos iM_images rM_fresher iM_fresherSize iM_scale iM_night rM_heardRow rM_cutRow iM_breaths iM_cutMany iM_allBreaths rM_trial rM_words iM_fewestBreaths iM_orderMany iM_orderSum iM_leastOrder rM_often iM_setMany iM_someOf iM_allOf iM_allWeight iM_enoughWeight iM_worthSum iM_firstRest iM_leastDrawn sa_5023 vsa_5023 nsa_5023 fsa_5023 (by first | omega | decide) (by first | omega | decide) (by first | omega | decide) (by first | omega | decide) (by first | omega | decide) (by first | omega | decide) (by first | omega | decide) (by first | omega | decide) (by first | omega | decide) (by first | omega | decide) (by first | omega | decide) (by first | assumption | exact (fun h9 => by have q0 := kc_0; have q1 := kc_1; omega)) (by first | omega | decide | assumption | (have q0 := kc_0; have q1 := kc_1; omega) | (intro h; exact absurd h (by decide)))) (cwV 1 hts (wd_V wd_420 wd_421 wd_422 wd_5 (wd_c wd_423)) rfl rfl rfl (by decide +kernel) ⟨Nat.le_of_ble_eq_true rfl, Nat.le_of_ble_eq_true rfl⟩) ⟨Pq.fb, va_recv hK hP (ci := 7) (q0 := 0) rfl rfl, fun U hU hW => Pq.to (hP.sub [0, 1] rfl) (hD.sub [0, 1] (by decide) rfl) (hK.sub [0] rfl) hSsa_5023 hE hS hFc hU hW⟩ rfl rfl hl.1 rfl (lv_room (Nat.le_of_ble_eq_true rfl)) dX7_mustName_47 ⟨Nat.le_of_ble_eq_true rfl, Nat.le_of_ble_eq_true rfl⟩) hS (fun q _ h => hFc q h) hFc (fun r u t H locs ht hvm hw hB hz1 hk1 hS => ?_)
            have hru9 := hw.2
            have hw := hw.1
            obtain ⟨hP, hD, hK⟩ := Bw.go (ws' := [(oc7 oM iM_thrown rM_tape iM_taped iM_size iM_at iM_end iM_token iM_whole iM_nameSize iM_fault iM_place iM_trouble rM_letters iM_failed iM_hasCourt rM_r rM_fresh rM_told rM_read rM_st rM_undone rM_kept iM_undos iM_images rM_fresher iM_fresherSize iM_scale iM_night rM_heardRow rM_cutRow iM_breaths iM_cutMany iM_allBreaths rM_trial rM_words iM_fewestBreaths iM_orderMany iM_orderSum iM_leastOrder rM_often iM_setMany iM_someOf iM_allOf iM_allWeight iM_enoughWeight iM_worthSum iM_firstRest iM_leastDrawn), (arI rM_letters kM_letters 8 fM_letters)]) (tys' := [(kM_letters, .int)]) hB rfl ht hvm hP hD hK [0, 1] [] rfl (by decide) (by decide) [] hk1 hFc rfl rfl rfl
            clear hz1 hk1 hvm ht hB
            obtain ⟨x_5024, rfl⟩ : ∃ z, z = r := ⟨_, rfl⟩
            have hG := hG.trans (lt_eq hru9.symm)
            have bx_5024 := hw.1
            have dx_5024 := bz_ti bx_5024
            have lx_5024 := hw.2
            refine lv_if_ne (tgt := 80) hx hb dX7_mustName_50 (by decide) (fun c_5025 => ?_) (fun c_5025 => ?_)
            · skip
              have hG := hG.trans (if_neg c_5025)
              have gc_5025 := ti_ne c_5025 rfl kc_0
              replace gc_5025 : (-1) * x_5024.toInt + 1 ≤ 0 := by omega
              have h_5026 := lx_5024 (by omega)
              clear lx_5024
              refine lv_aload_n hx hb dX7_mustName_80 rfl (lv_at hl 0 rfl) ?_
              refine lv_iconst (v := 1) hx hb dX7_mustName_81 (by decide) ?_
              refine lv_aload_n hx hb dX7_mustName_82 rfl (lv_at hl 0 rfl) ?_
              refine va_get (D := (dC, dI)) (ci := 7) (v := .int iM_at) (C := RX7) (T := TX7) (N := 48) hx hb hts inX7 hown hK hP 0 rfl rfl 4 (by decide) (hts _ wd_384) (fun _ h9 => h9) rfl dX7_mustName_83 ?_
              have hFc := va_free (wc := [(oc7 oM iM_thrown rM_tape iM_taped iM_size iM_at iM_end iM_token iM_whole iM_nameSize iM_fault iM_place iM_trouble rM_letters iM_failed iM_hasCourt rM_r rM_fresh rM_told rM_read rM_st rM_undone rM_kept iM_undos iM_images rM_fresher iM_fresherSize iM_scale iM_night rM_heardRow rM_cutRow iM_breaths iM_cutMany iM_allBreaths rM_trial rM_words iM_fewestBreaths iM_orderMany iM_orderSum iM_leastOrder rM_often iM_setMany iM_someOf iM_allOf iM_allWeight iM_enoughWeight iM_worthSum iM_firstRest iM_leastDrawn)]) hD hS hA [0] rfl
              refine va_callv (va_runV (As := [.int 1, .int iM_at]) (rest := []) ⟨hx, hb, hml, hown, hts⟩ (tX7_wrong l dC dI _ oM iM_thrown rM_tape iM_taped iM_size iM_at iM_end iM_token iM_whole iM_nameSize iM_fault iM_place iM_trouble rM_letters iM_failed iM_hasCourt rM_r rM_fresh rM_told rM_read rM_st rM_undone rM_kept iM_undos iM_images rM_fresher iM_fresherSize iM_scale iM_night rM_heardRow rM_cutRow iM_breaths iM_cutMany iM_allBreaths rM_trial rM_words iM_fewestBreaths iM_orderMany iM_orderSum iM_leastOrder rM_often iM_setMany iM_someOf iM_allOf iM_allWeight iM_enoughWeight iM_worthSum iM_firstRest iM_leastDrawn 1 iM_at (by first | omega | decide) (by first | omega | decide) (by first | omega | decide) (by first | omega | decide) (by first | omega | decide) (by first | omega | decide) (by first | omega | decide) (by first | omega | decide) (by first | omega | decide) (by first | omega | decide) (by first | omega | decide) (by first | assumption | exact (fun h9 => by have q0 := kc_0; have q1 := kc_1; omega))) (cwV 2 hts (wd_V wd_430 wd_431 wd_432 wd_5 (wd_c wd_433)) rfl rfl rfl (by decide +kernel) ⟨Nat.le_of_ble_eq_true rfl, Nat.le_of_ble_eq_true rfl⟩) ⟨Pw.fb, va_recv hK hP (ci := 7) (q0 := 0) rfl rfl, fun U hU hW => Pw.to (hP.sub [0] rfl) (hD.sub [0] (by decide) rfl) (hK.sub [] rfl) hE hS hFc hU hW⟩ rfl rfl hl.1 rfl (lv_room (Nat.le_of_ble_eq_true rfl)) dX7_mustName_86 ⟨Nat.le_of_ble_eq_true rfl, Nat.le_of_ble_eq_true rfl⟩) hS (fun q _ h => hFc q h) hFc (fun u t H locs ht hvm hw hB hz1 hk1 hS => ?_)
              obtain ⟨x_5027, x_5028, x_5029, b_x_5029, e_x_5027_0, e_x_5027_1, hB⟩ := hB
              obtain ⟨hP, hD, hK⟩ := Bw.go (ws' := [(arI rM_letters kM_letters 8 fM_letters), (oc7 oM iM_thrown rM_tape iM_taped iM_size iM_at iM_end iM_token iM_whole iM_nameSize x_5027 x_5028 iM_trouble rM_letters x_5029 iM_hasCourt rM_r rM_fresh rM_told rM_read rM_st rM_undone rM_kept iM_undos iM_images rM_fresher iM_fresherSize iM_scale iM_night rM_heardRow rM_cutRow iM_breaths iM_cutMany iM_allBreaths rM_trial rM_words iM_fewestBreaths iM_orderMany iM_orderSum iM_leastOrder rM_often iM_setMany iM_someOf iM_allOf iM_allWeight iM_enoughWeight iM_worthSum iM_firstRest iM_leastDrawn)]) (tys' := [(kM_letters, .int)]) hB rfl ht hvm hP hD hK [0] [1] rfl (by decide) (by decide) [0] hk1 hFc rfl rfl rfl
              clear hz1 hk1 hvm ht hB
              have hG := hG.trans (un3_eq e_x_5027_1)
              exact W.vret hx hb hr (fun t ht hW => ⟨⟨0, rfl, trivial, ⟨x_5027, x_5028, x_5029, b_x_5029, (by first | assumption | (have q0 := kc_0; have q1 := kc_1; omega)), (by first | assumption | exact (fun h9 => by have q0 := kc_0; have q1 := kc_1; omega)), hG, Bw.to (hP.sub [1, 0] rfl) (hD.sub [1, 0] (by decide) rfl) (hK.sub [0] rfl) ht hW⟩⟩, hS.F ht⟩) hS.2.2 dX7_mustName_89
            · skip
              have hG := hG.trans (if_pos c_5025)
              have gc_5025 := ti_eq c_5025 rfl kc_0
              clear lx_5024
              refine lv_aload_n hx hb dX7_mustName_53 rfl (lv_at hl 0 rfl) ?_
              obtain ⟨sa_5030, vsa_5030, nsa_5030, fsa_5030, hnsa_5030, hnesa_5030, hfesa_5030, hRsa_5030, hSsa_5030⟩ := hE.2.2.1 (144, "throne", [116, 104, 114, 111, 110, 101]) (by decide)
              have hG := hG.trans (lt_eq hnesa_5030)
              have hG := hG.trans (lt_eq hfesa_5030)
              refine va_ldcS hx hb hown hRsa_5030 dX7_mustName_54 ?_
              have hFc := va_free (wc := [(oc7 oM iM_thrown rM_tape iM_taped iM_size iM_at iM_end iM_token iM_whole iM_nameSize iM_fault iM_place iM_trouble rM_letters iM_failed iM_hasCourt rM_r rM_fresh rM_told rM_read rM_st rM_undone rM_kept iM_undos iM_images rM_fresher iM_fresherSize iM_scale iM_night rM_heardRow rM_cutRow iM_breaths iM_cutMany iM_allBreaths rM_trial rM_words iM_fewestBreaths iM_orderMany iM_orderSum iM_leastOrder rM_often iM_setMany iM_someOf iM_allOf iM_allWeight iM_enoughWeight iM_worthSum iM_firstRest iM_leastDrawn), (arI rM_letters kM_letters 8 fM_letters)]) hD hS hA [0, 1] rfl
              refine va_calli (va_runV (As := [.ref sa_5030]) (rest := []) ⟨hx, hb, hml, hown, hts⟩ (tX7_isWord l dC dI _ oM iM_thrown rM_tape iM_taped iM_size iM_at iM_end iM_token iM_whole iM_nameSize iM_fault iM_place iM_trouble rM_letters fM_letters kM_letters iM_failed iM_hasCourt rM_r rM_fresh rM_told rM_read rM_st rM_undone rM_kept iM_undos iM_images rM_fresher iM_fresherSize iM_scale iM_night rM_heardRow rM_cutRow iM_breaths iM_cutMany iM_allBreaths rM_trial rM_words iM_fewestBreaths iM_orderMany iM_orderSum iM_leastOrder rM_often iM_setMany iM_someOf iM_allOf iM_allWeight iM_enoughWeight iM_worthSum iM_firstRest iM_leastDrawn sa_5030 vsa_5030 nsa_5030 fsa_5030 (by first | omega | decide) (by first | omega | decide) (by first | omega | decide) (by first | omega | decide) (by first | omega | decide) (by first | omega | decide) (by first | omega | decide) (by first | omega | decide) (by first | omega | decide) (by first | omega | decide) (by first | omega | decide) (by first | assumption | exact (fun h9 => by have q0 := kc_0; have q1 := kc_1; omega)) (by first | omega | decide | assumption | (have q0 := kc_0; have q1 := kc_1; omega) | (intro h; exact absurd h (by decide)))) (cwV 1 hts (wd_V wd_420 wd_421 wd_422 wd_5 (wd_c wd_423)) rfl rfl rfl (by decide +kernel) ⟨Nat.le_of_ble_eq_true rfl, Nat.le_of_ble_eq_true rfl⟩) ⟨Pq.fb, va_recv hK hP (ci := 7) (q0 := 0) rfl rfl, fun U hU hW => Pq.to (hP.sub [0, 1] rfl) (hD.sub [0, 1] (by decide) rfl) (hK.sub [0] rfl) hSsa_5030 hE hS hFc hU hW⟩ rfl rfl hl.1 rfl (lv_room (Nat.le_of_ble_eq_true rfl)) dX7_mustName_56 ⟨Nat.le_of_ble_eq_true rfl, Nat.le_of_ble_eq_true rfl⟩) hS (fun q _ h => hFc q h) hFc (fun r u t H locs ht hvm hw hB hz1 hk1 hS => ?_)
              have hru9 := hw.2
              have hw := hw.1
              obtain ⟨hP, hD, hK⟩ := Bw.go (ws' := [(oc7 oM iM_thrown rM_tape iM_taped iM_size iM_at iM_end iM_token iM_whole iM_nameSize iM_fault iM_place iM_trouble rM_letters iM_failed iM_hasCourt rM_r rM_fresh rM_told rM_read rM_st rM_undone rM_kept iM_undos iM_images rM_fresher iM_fresherSize iM_scale iM_night rM_heardRow rM_cutRow iM_breaths iM_cutMany iM_allBreaths rM_trial rM_words iM_fewestBreaths iM_orderMany iM_orderSum iM_leastOrder rM_often iM_setMany iM_someOf iM_allOf iM_allWeight iM_enoughWeight iM_worthSum iM_firstRest iM_leastDrawn), (arI rM_letters kM_letters 8 fM_letters)]) (tys' := [(kM_letters, .int)]) hB rfl ht hvm hP hD hK [0, 1] [] rfl (by decide) (by decide) [] hk1 hFc rfl rfl rfl
              clear hz1 hk1 hvm ht hB
              obtain ⟨x_5031, rfl⟩ : ∃ z, z = r := ⟨_, rfl⟩
              have hG := hG.trans (lt_eq hru9.symm)
              have bx_5031 := hw.1
              have dx_5031 := bz_ti bx_5031
              have lx_5031 := hw.2
              refine lv_if_ne (tgt := 80) hx hb dX7_mustName_59 (by decide) (fun c_5032 => ?_) (fun c_5032 => ?_)
              · skip
                have hG := hG.trans (if_neg c_5032)
                have gc_5032 := ti_ne c_5032 rfl kc_0
                replace gc_5032 : (-1) * x_5031.toInt + 1 ≤ 0 := by omega
                have h_5033 := lx_5031 (by omega)
                clear lx_5031
                refine lv_aload_n hx hb dX7_mustName_80 rfl (lv_at hl 0 rfl) ?_
                refine lv_iconst (v := 1) hx hb dX7_mustName_81 (by decide) ?_
                refine lv_aload_n hx hb dX7_mustName_82 rfl (lv_at hl 0 rfl) ?_
                refine va_get (D := (dC, dI)) (ci := 7) (v := .int iM_at) (C := RX7) (T := TX7) (N := 48) hx hb hts inX7 hown hK hP 0 rfl rfl 4 (by decide) (hts _ wd_384) (fun _ h9 => h9) rfl dX7_mustName_83 ?_
                have hFc := va_free (wc := [(oc7 oM iM_thrown rM_tape iM_taped iM_size iM_at iM_end iM_token iM_whole iM_nameSize iM_fault iM_place iM_trouble rM_letters iM_failed iM_hasCourt rM_r rM_fresh rM_told rM_read rM_st rM_undone rM_kept iM_undos iM_images rM_fresher iM_fresherSize iM_scale iM_night rM_heardRow rM_cutRow iM_breaths iM_cutMany iM_allBreaths rM_trial rM_words iM_fewestBreaths iM_orderMany iM_orderSum iM_leastOrder rM_often iM_setMany iM_someOf iM_allOf iM_allWeight iM_enoughWeight iM_worthSum iM_firstRest iM_leastDrawn)]) hD hS hA [0] rfl
                refine va_callv (va_runV (As := [.int 1, .int iM_at]) (rest := []) ⟨hx, hb, hml, hown, hts⟩ (tX7_wrong l dC dI _ oM iM_thrown rM_tape iM_taped iM_size iM_at iM_end iM_token iM_whole iM_nameSize iM_fault iM_place iM_trouble rM_letters iM_failed iM_hasCourt rM_r rM_fresh rM_told rM_read rM_st rM_undone rM_kept iM_undos iM_images rM_fresher iM_fresherSize iM_scale iM_night rM_heardRow rM_cutRow iM_breaths iM_cutMany iM_allBreaths rM_trial rM_words iM_fewestBreaths iM_orderMany iM_orderSum iM_leastOrder rM_often iM_setMany iM_someOf iM_allOf iM_allWeight iM_enoughWeight iM_worthSum iM_firstRest iM_leastDrawn 1 iM_at (by first | omega | decide) (by first | omega | decide) (by first | omega | decide) (by first | omega | decide) (by first | omega | decide) (by first | omega | decide) (by first | omega | decide) (by first | omega | decide) (by first | omega | decide) (by first | omega | decide) (by first | omega | decide) (by first | assumption | exact (fun h9 => by have q0 := kc_0; have q1 := kc_1; omega))) (cwV 2 hts (wd_V wd_430 wd_431 wd_432 wd_5 (wd_c wd_433)) rfl rfl rfl (by decide +kernel) ⟨Nat.le_of_ble_eq_true rfl, Nat.le_of_ble_eq_true rfl⟩) ⟨Pw.fb, va_recv hK hP (ci := 7) (q0 := 0) rfl rfl, fun U hU hW => Pw.to (hP.sub [0] rfl) (hD.sub [0] (by decide) rfl) (hK.sub [] rfl) hE hS hFc hU hW⟩ rfl rfl hl.1 rfl (lv_room (Nat.le_of_ble_eq_true rfl)) dX7_mustName_86 ⟨Nat.le_of_ble_eq_true rfl, Nat.le_of_ble_eq_true rfl⟩) hS (fun q _ h => hFc q h) hFc (fun u t H locs ht hvm hw hB hz1 hk1 hS => ?_)
                obtain ⟨x_5034, x_5035, x_5036, b_x_5036, e_x_5034_0, e_x_5034_1, hB⟩ := hB
                obtain ⟨hP, hD, hK⟩ := Bw.go (ws' := [(arI rM_letters kM_letters 8 fM_letters), (oc7 oM iM_thrown rM_tape iM_taped iM_size iM_at iM_end iM_token iM_whole iM_nameSize x_5034 x_5035 iM_trouble rM_letters x_5036 iM_hasCourt rM_r rM_fresh rM_told rM_read rM_st rM_undone rM_kept iM_undos iM_images rM_fresher iM_fresherSize iM_scale iM_night rM_heardRow rM_cutRow iM_breaths iM_cutMany iM_allBreaths rM_trial rM_words iM_fewestBreaths iM_orderMany iM_orderSum iM_leastOrder rM_often iM_setMany iM_someOf iM_allOf iM_allWeight iM_enoughWeight iM_worthSum iM_firstRest iM_leastDrawn)]) (tys' := [(kM_letters, .int)]) hB rfl ht hvm hP hD hK [0] [1] rfl (by decide) (by decide) [0] hk1 hFc rfl rfl rfl
                clear hz1 hk1 hvm ht hB
                have hG := hG.trans (un3_eq e_x_5034_1)
                exact W.vret hx hb hr (fun t ht hW => ⟨⟨0, rfl, trivial, ⟨x_5034, x_5035, x_5036, b_x_5036, (by first | assumption | (have q0 := kc_0; have q1 := kc_1; omega)), (by first | assumption | exact (fun h9 => by have q0 := kc_0; have q1 := kc_1; omega)), hG, Bw.to (hP.sub [1, 0] rfl) (hD.sub [1, 0] (by decide) rfl) (hK.sub [0] rfl) ht hW⟩⟩, hS.F ht⟩) hS.2.2 dX7_mustName_89
              · skip
                have hG := hG.trans (if_pos c_5032)
                have gc_5032 := ti_eq c_5032 rfl kc_0
                clear lx_5031
                refine lv_aload_n hx hb dX7_mustName_62 rfl (lv_at hl 0 rfl) ?_
                obtain ⟨sa_5037, vsa_5037, nsa_5037, fsa_5037, hnsa_5037, hnesa_5037, hfesa_5037, hRsa_5037, hSsa_5037⟩ := hE.2.2.1 (146, "unsure", [117, 110, 115, 117, 114, 101]) (by decide)
                have hG := hG.trans (lt_eq hnesa_5037)
                have hG := hG.trans (lt_eq hfesa_5037)
                refine va_ldcS hx hb hown hRsa_5037 dX7_mustName_63 ?_
                have hFc := va_free (wc := [(oc7 oM iM_thrown rM_tape iM_taped iM_size iM_at iM_end iM_token iM_whole iM_nameSize iM_fault iM_place iM_trouble rM_letters iM_failed iM_hasCourt rM_r rM_fresh rM_told rM_read rM_st rM_undone rM_kept iM_undos iM_images rM_fresher iM_fresherSize iM_scale iM_night rM_heardRow rM_cutRow iM_breaths iM_cutMany iM_allBreaths rM_trial rM_words iM_fewestBreaths iM_orderMany iM_orderSum iM_leastOrder rM_often iM_setMany iM_someOf iM_allOf iM_allWeight iM_enoughWeight iM_worthSum iM_firstRest iM_leastDrawn), (arI rM_letters kM_letters 8 fM_letters)]) hD hS hA [0, 1] rfl
                refine va_calli (va_runV (As := [.ref sa_5037]) (rest := []) ⟨hx, hb, hml, hown, hts⟩ (tX7_isWord l dC dI _ oM iM_thrown rM_tape iM_taped iM_size iM_at iM_end iM_token iM_whole iM_nameSize iM_fault iM_place iM_trouble rM_letters fM_letters kM_letters iM_failed iM_hasCourt rM_r rM_fresh rM_told rM_read rM_st rM_undone rM_kept iM_undos iM_images rM_fresher iM_fresherSize iM_scale iM_night rM_heardRow rM_cutRow iM_breaths iM_cutMany iM_allBreaths rM_trial rM_words iM_fewestBreaths iM_orderMany iM_orderSum iM_leastOrder rM_often iM_setMany iM_someOf iM_allOf iM_allWeight iM_enoughWeight iM_worthSum iM_firstRest iM_leastDrawn sa_5037 vsa_5037 nsa_5037 fsa_5037 (by first | omega | decide) (by first | omega | decide) (by first | omega | decide) (by first | omega | decide) (by first | omega | decide) (by first | omega | decide) (by first | omega | decide) (by first | omega | decide) (by first | omega | decide) (by first | omega | decide) (by first | omega | decide) (by first | assumption | exact (fun h9 => by have q0 := kc_0; have q1 := kc_1; omega)) (by first | omega | decide | assumption | (have q0 := kc_0; have q1 := kc_1; omega) | (intro h; exact absurd h (by decide)))) (cwV 1 hts (wd_V wd_420 wd_421 wd_422 wd_5 (wd_c wd_423)) rfl rfl rfl (by decide +kernel) ⟨Nat.le_of_ble_eq_true rfl, Nat.le_of_ble_eq_true rfl⟩) ⟨Pq.fb, va_recv hK hP (ci := 7) (q0 := 0) rfl rfl, fun U hU hW => Pq.to (hP.sub [0, 1] rfl) (hD.sub [0, 1] (by decide) rfl) (hK.sub [0] rfl) hSsa_5037 hE hS hFc hU hW⟩ rfl rfl hl.1 rfl (lv_room (Nat.le_of_ble_eq_true rfl)) dX7_mustName_65 ⟨Nat.le_of_ble_eq_true rfl, Nat.le_of_ble_eq_true rfl⟩) hS (fun q _ h => hFc q h) hFc (fun r u t H locs ht hvm hw hB hz1 hk1 hS => ?_)
                have hru9 := hw.2
                have hw := hw.1
                obtain ⟨hP, hD, hK⟩ := Bw.go (ws' := [(oc7 oM iM_thrown rM_tape iM_taped iM_size iM_at iM_end iM_token iM_whole iM_nameSize iM_fault iM_place iM_trouble rM_letters iM_failed iM_hasCourt rM_r rM_fresh rM_told rM_read rM_st rM_undone rM_kept iM_undos iM_images rM_fresher iM_fresherSize iM_scale iM_night rM_heardRow rM_cutRow iM_breaths iM_cutMany iM_allBreaths rM_trial rM_words iM_fewestBreaths iM_orderMany iM_orderSum iM_leastOrder rM_often iM_setMany iM_someOf iM_allOf iM_allWeight iM_enoughWeight iM_worthSum iM_firstRest iM_leastDrawn), (arI rM_letters kM_letters 8 fM_letters)]) (tys' := [(kM_letters, .int)]) hB rfl ht hvm hP hD hK [0, 1] [] rfl (by decide) (by decide) [] hk1 hFc rfl rfl rfl
                clear hz1 hk1 hvm ht hB
                obtain ⟨x_5038, rfl⟩ : ∃ z, z = r := ⟨_, rfl⟩
                have hG := hG.trans (lt_eq hru9.symm)
                have bx_5038 := hw.1
                have dx_5038 := bz_ti bx_5038
                have lx_5038 := hw.2
                refine lv_if_ne (tgt := 80) hx hb dX7_mustName_68 (by decide) (fun c_5039 => ?_) (fun c_5039 => ?_)
                · skip
                  have hG := hG.trans (if_neg c_5039)
                  have gc_5039 := ti_ne c_5039 rfl kc_0
                  replace gc_5039 : (-1) * x_5038.toInt + 1 ≤ 0 := by omega
                  have h_5040 := lx_5038 (by omega)
                  clear lx_5038
                  refine lv_aload_n hx hb dX7_mustName_80 rfl (lv_at hl 0 rfl) ?_
                  refine lv_iconst (v := 1) hx hb dX7_mustName_81 (by decide) ?_
                  refine lv_aload_n hx hb dX7_mustName_82 rfl (lv_at hl 0 rfl) ?_
                  refine va_get (D := (dC, dI)) (ci := 7) (v := .int iM_at) (C := RX7) (T := TX7) (N := 48) hx hb hts inX7 hown hK hP 0 rfl rfl 4 (by decide) (hts _ wd_384) (fun _ h9 => h9) rfl dX7_mustName_83 ?_
                  have hFc := va_free (wc := [(oc7 oM iM_thrown rM_tape iM_taped iM_size iM_at iM_end iM_token iM_whole iM_nameSize iM_fault iM_place iM_trouble rM_letters iM_failed iM_hasCourt rM_r rM_fresh rM_told rM_read rM_st rM_undone rM_kept iM_undos iM_images rM_fresher iM_fresherSize iM_scale iM_night rM_heardRow rM_cutRow iM_breaths iM_cutMany iM_allBreaths rM_trial rM_words iM_fewestBreaths iM_orderMany iM_orderSum iM_leastOrder rM_often iM_setMany iM_someOf iM_allOf iM_allWeight iM_enoughWeight iM_worthSum iM_firstRest iM_leastDrawn)]) hD hS hA [0] rfl
                  refine va_callv (va_runV (As := [.int 1, .int iM_at]) (rest := []) ⟨hx, hb, hml, hown, hts⟩ (tX7_wrong l dC dI _ oM iM_thrown rM_tape iM_taped iM_size iM_at iM_end iM_token iM_whole iM_nameSize iM_fault iM_place iM_trouble rM_letters iM_failed iM_hasCourt rM_r rM_fresh rM_told rM_read rM_st rM_undone rM_kept iM_undos iM_images rM_fresher iM_fresherSize iM_scale iM_night rM_heardRow rM_cutRow iM_breaths iM_cutMany iM_allBreaths rM_trial rM_words iM_fewestBreaths iM_orderMany iM_orderSum iM_leastOrder rM_often iM_setMany iM_someOf iM_allOf iM_allWeight iM_enoughWeight iM_worthSum iM_firstRest iM_leastDrawn 1 iM_at (by first | omega | decide) (by first | omega | decide) (by first | omega | decide) (by first | omega | decide) (by first | omega | decide) (by first | omega | decide) (by first | omega | decide) (by first | omega | decide) (by first | omega | decide) (by first | omega | decide) (by first | omega | decide) (by first | assumption | exact (fun h9 => by have q0 := kc_0; have q1 := kc_1; omega))) (cwV 2 hts (wd_V wd_430 wd_431 wd_432 wd_5 (wd_c wd_433)) rfl rfl rfl (by decide +kernel) ⟨Nat.le_of_ble_eq_true rfl, Nat.le_of_ble_eq_true rfl⟩) ⟨Pw.fb, va_recv hK hP (ci := 7) (q0 := 0) rfl rfl, fun U hU hW => Pw.to (hP.sub [0] rfl) (hD.sub [0] (by decide) rfl) (hK.sub [] rfl) hE hS hFc hU hW⟩ rfl rfl hl.1 rfl (lv_room (Nat.le_of_ble_eq_true rfl)) dX7_mustName_86 ⟨Nat.le_of_ble_eq_true rfl, Nat.le_of_ble_eq_true rfl⟩) hS (fun q _ h => hFc q h) hFc (fun u t H locs ht hvm hw hB hz1 hk1 hS => ?_)
                  obtain ⟨x_5041, x_5042, x_5043, b_x_5043, e_x_5041_0, e_x_5041_1, hB⟩ := hB
                  obtain ⟨hP, hD, hK⟩ := Bw.go (ws' := [(arI rM_letters kM_letters 8 fM_letters), (oc7 oM iM_thrown rM_tape iM_taped iM_size iM_at iM_end iM_token iM_whole iM_nameSize x_5041 x_5042 iM_trouble rM_letters x_5043 iM_hasCourt rM_r rM_fresh rM_told rM_read rM_st rM_undone rM_kept iM_undos iM_images rM_fresher iM_fresherSize iM_scale iM_night rM_heardRow rM_cutRow iM_breaths iM_cutMany iM_allBreaths rM_trial rM_words iM_fewestBreaths iM_orderMany iM_orderSum iM_leastOrder rM_often iM_setMany iM_someOf iM_allOf iM_allWeight iM_enoughWeight iM_worthSum iM_firstRest iM_leastDrawn)]) (tys' := [(kM_letters, .int)]) hB rfl ht hvm hP hD hK [0] [1] rfl (by decide) (by decide) [0] hk1 hFc rfl rfl rfl
                  clear hz1 hk1 hvm ht hB
                  have hG := hG.trans (un3_eq e_x_5041_1)
                  exact W.vret hx hb hr (fun t ht hW => ⟨⟨0, rfl, trivial, ⟨x_5041, x_5042, x_5043, b_x_5043, (by first | assumption | (have q0 := kc_0; have q1 := kc_1; omega)), (by first | assumption | exact (fun h9 => by have q0 := kc_0; have q1 := kc_1; omega)), hG, Bw.to (hP.sub [1, 0] rfl) (hD.sub [1, 0] (by decide) rfl) (hK.sub [0] rfl) ht hW⟩⟩, hS.F ht⟩) hS.2.2 dX7_mustName_89
                · skip
                  have hG := hG.trans (if_pos c_5039)
                  have gc_5039 := ti_eq c_5039 rfl kc_0
                  clear lx_5038
                  refine lv_aload_n hx hb dX7_mustName_71 rfl (lv_at hl 0 rfl) ?_
                  obtain ⟨sa_5044, vsa_5044, nsa_5044, fsa_5044, hnsa_5044, hnesa_5044, hfesa_5044, hRsa_5044, hSsa_5044⟩ := hE.2.2.1 (148, "said", [115, 97, 105, 100]) (by decide)
                  have hG := hG.trans (lt_eq hnesa_5044)
                  have hG := hG.trans (lt_eq hfesa_5044)
                  refine va_ldcS hx hb hown hRsa_5044 dX7_mustName_72 ?_
                  have hFc := va_free (wc := [(oc7 oM iM_thrown rM_tape iM_taped iM_size iM_at iM_end iM_token iM_whole iM_nameSize iM_fault iM_place iM_trouble rM_letters iM_failed iM_hasCourt rM_r rM_fresh rM_told rM_read rM_st rM_undone rM_kept iM_undos iM_images rM_fresher iM_fresherSize iM_scale iM_night rM_heardRow rM_cutRow iM_breaths iM_cutMany iM_allBreaths rM_trial rM_words iM_fewestBreaths iM_orderMany iM_orderSum iM_leastOrder rM_often iM_setMany iM_someOf iM_allOf iM_allWeight iM_enoughWeight iM_worthSum iM_firstRest iM_leastDrawn), (arI rM_letters kM_letters 8 fM_letters)]) hD hS hA [0, 1] rfl
                  refine va_calli (va_runV (As := [.ref sa_5044]) (rest := []) ⟨hx, hb, hml, hown, hts⟩ (tX7_isWord l dC dI _ oM iM_thrown rM_tape iM_taped iM_size iM_at iM_end iM_token iM_whole iM_nameSize iM_fault iM_place iM_trouble rM_letters fM_letters kM_letters iM_failed iM_hasCourt rM_r rM_fresh rM_told rM_read rM_st rM_undone rM_kept iM_undos iM_images rM_fresher iM_fresherSize iM_scale iM_night rM_heardRow rM_cutRow iM_breaths iM_cutMany iM_allBreaths rM_trial rM_words iM_fewestBreaths iM_orderMany iM_orderSum iM_leastOrder rM_often iM_setMany iM_someOf iM_allOf iM_allWeight iM_enoughWeight iM_worthSum iM_firstRest iM_leastDrawn sa_5044 vsa_5044 nsa_5044 fsa_5044 (by first | omega | decide) (by first | omega | decide) (by first | omega | decide) (by first | omega | decide) (by first | omega | decide) (by first | omega | decide) (by first | omega | decide) (by first | omega | decide) (by first | omega | decide) (by first | omega | decide) (by first | omega | decide) (by first | assumption | exact (fun h9 => by have q0 := kc_0; have q1 := kc_1; omega)) (by first | omega | decide | assumption | (have q0 := kc_0; have q1 := kc_1; omega) | (intro h; exact absurd h (by decide)))) (cwV 1 hts (wd_V wd_420 wd_421 wd_422 wd_5 (wd_c wd_423)) rfl rfl rfl (by decide +kernel) ⟨Nat.le_of_ble_eq_true rfl, Nat.le_of_ble_eq_true rfl⟩) ⟨Pq.fb, va_recv hK hP (ci := 7) (q0 := 0) rfl rfl, fun U hU hW => Pq.to (hP.sub [0, 1] rfl) (hD.sub [0, 1] (by decide) rfl) (hK.sub [0] rfl) hSsa_5044 hE hS hFc hU hW⟩ rfl rfl hl.1 rfl (lv_room (Nat.le_of_ble_eq_true rfl)) dX7_mustName_74 ⟨Nat.le_of_ble_eq_true rfl, Nat.le_of_ble_eq_true rfl⟩) hS (fun q _ h => hFc q h) hFc (fun r u t H locs ht hvm hw hB hz1 hk1 hS => ?_)
                  have hru9 := hw.2
                  have hw := hw.1
                  obtain ⟨hP, hD, hK⟩ := Bw.go (ws' := [(oc7 oM iM_thrown rM_tape iM_taped iM_size iM_at iM_end iM_token iM_whole iM_nameSize iM_fault iM_place iM_trouble rM_letters iM_failed iM_hasCourt rM_r rM_fresh rM_told rM_read rM_st rM_undone rM_kept iM_undos iM_images rM_fresher iM_fresherSize iM_scale iM_night rM_heardRow rM_cutRow iM_breaths iM_cutMany iM_allBreaths rM_trial rM_words iM_fewestBreaths iM_orderMany iM_orderSum iM_leastOrder rM_often iM_setMany iM_someOf iM_allOf iM_allWeight iM_enoughWeight iM_worthSum iM_firstRest iM_leastDrawn), (arI rM_letters kM_letters 8 fM_letters)]) (tys' := [(kM_letters, .int)]) hB rfl ht hvm hP hD hK [0, 1] [] rfl (by decide) (by decide) [] hk1 hFc rfl rfl rfl
                  clear hz1 hk1 hvm ht hB
                  obtain ⟨x_5045, rfl⟩ : ∃ z, z = r := ⟨_, rfl⟩
                  have hG := hG.trans (lt_eq hru9.symm)
                  have bx_5045 := hw.1
                  have dx_5045 := bz_ti bx_5045
                  have lx_5045 := hw.2
                  refine lv_if_eq (tgt := 89) hx hb dX7_mustName_77 (by decide) (fun c_5046 => ?_) (fun c_5046 => ?_)
                  · skip
                    have hG := hG.trans (if_pos c_5046)
                    have gc_5046 := ti_eq c_5046 rfl kc_0
                    clear lx_5045
                    exact W.vret hx hb hr (fun t ht hW => ⟨⟨0, rfl, trivial, ⟨iM_fault, iM_place, iM_failed, (by omega), (by first | assumption | (have q0 := kc_0; have q1 := kc_1; omega)), (by first | assumption | exact (fun h9 => by have q0 := kc_0; have q1 := kc_1; omega)), hG, Bw.to (hP.sub [0, 1] rfl) (hD.sub [0, 1] (by decide) rfl) (hK.sub [0] rfl) ht hW⟩⟩, hS.F ht⟩) hS.2.2 dX7_mustName_89
                  · skip
                    have hG := hG.trans (if_neg c_5046)
                    have gc_5046 := ti_ne c_5046 rfl kc_0
                    replace gc_5046 : (-1) * x_5045.toInt + 1 ≤ 0 := by omega
                    have h_5047 := lx_5045 (by omega)
                    clear lx_5045
                    refine lv_aload_n hx hb dX7_mustName_80 rfl (lv_at hl 0 rfl) ?_
                    refine lv_iconst (v := 1) hx hb dX7_mustName_81 (by decide) ?_
                    refine lv_aload_n hx hb dX7_mustName_82 rfl (lv_at hl 0 rfl) ?_
                    refine va_get (D := (dC, dI)) (ci := 7) (v := .int iM_at) (C := RX7) (T := TX7) (N := 48) hx hb hts inX7 hown hK hP 0 rfl rfl 4 (by decide) (hts _ wd_384) (fun _ h9 => h9) rfl dX7_mustName_83 ?_
                    have hFc := va_free (wc := [(oc7 oM iM_thrown rM_tape iM_taped iM_size iM_at iM_end iM_token iM_whole iM_nameSize iM_fault iM_place iM_trouble rM_letters iM_failed iM_hasCourt rM_r rM_fresh rM_told rM_read rM_st rM_undone rM_kept iM_undos iM_images rM_fresher iM_fresherSize iM_scale iM_night rM_heardRow rM_cutRow iM_breaths iM_cutMany iM_allBreaths rM_trial rM_words iM_fewestBreaths iM_orderMany iM_orderSum iM_leastOrder rM_often iM_setMany iM_someOf iM_allOf iM_allWeight iM_enoughWeight iM_worthSum iM_firstRest iM_leastDrawn)]) hD hS hA [0] rfl
                    refine va_callv (va_runV (As := [.int 1, .int iM_at]) (rest := []) ⟨hx, hb, hml, hown, hts⟩ (tX7_wrong l dC dI _ oM iM_thrown rM_tape iM_taped iM_size iM_at iM_end iM_token iM_whole iM_nameSize iM_fault iM_place iM_trouble rM_letters iM_failed iM_hasCourt rM_r rM_fresh rM_told rM_read rM_st rM_undone rM_kept iM_undos iM_images rM_fresher iM_fresherSize iM_scale iM_night rM_heardRow rM_cutRow iM_breaths iM_cutMany iM_allBreaths rM_trial rM_words iM_fewestBreaths iM_orderMany iM_orderSum iM_leastOrder rM_often iM_setMany iM_someOf iM_allOf iM_allWeight iM_enoughWeight iM_worthSum iM_firstRest iM_leastDrawn 1 iM_at (by first | omega | decide) (by first | omega | decide) (by first | omega | decide) (by first | omega | decide) (by first | omega | decide) (by first | omega | decide) (by first | omega | decide) (by first | omega | decide) (by first | omega | decide) (by first | omega | decide) (by first | omega | decide) (by first | assumption | exact (fun h9 => by have q0 := kc_0; have q1 := kc_1; omega))) (cwV 2 hts (wd_V wd_430 wd_431 wd_432 wd_5 (wd_c wd_433)) rfl rfl rfl (by decide +kernel) ⟨Nat.le_of_ble_eq_true rfl, Nat.le_of_ble_eq_true rfl⟩) ⟨Pw.fb, va_recv hK hP (ci := 7) (q0 := 0) rfl rfl, fun U hU hW => Pw.to (hP.sub [0] rfl) (hD.sub [0] (by decide) rfl) (hK.sub [] rfl) hE hS hFc hU hW⟩ rfl rfl hl.1 rfl (lv_room (Nat.le_of_ble_eq_true rfl)) dX7_mustName_86 ⟨Nat.le_of_ble_eq_true rfl, Nat.le_of_ble_eq_true rfl⟩) hS (fun q _ h => hFc q h) hFc (fun u t H locs ht hvm hw hB hz1 hk1 hS => ?_)
                    obtain ⟨x_5048, x_5049, x_5050, b_x_5050, e_x_5048_0, e_x_5048_1, hB⟩ := hB
                    obtain ⟨hP, hD, hK⟩ := Bw.go (ws' := [(arI rM_letters kM_letters 8 fM_letters), (oc7 oM iM_thrown rM_tape iM_taped iM_size iM_at iM_end iM_token iM_whole iM_nameSize x_5048 x_5049 iM_trouble rM_letters x_5050 iM_hasCourt rM_r rM_fresh rM_told rM_read rM_st rM_undone rM_kept iM_undos iM_images rM_fresher iM_fresherSize iM_scale iM_night rM_heardRow rM_cutRow iM_breaths iM_cutMany iM_allBreaths rM_trial rM_words iM_fewestBreaths iM_orderMany iM_orderSum iM_leastOrder rM_often iM_setMany iM_someOf iM_allOf iM_allWeight iM_enoughWeight iM_worthSum iM_firstRest iM_leastDrawn)]) (tys' := [(kM_letters, .int)]) hB rfl ht hvm hP hD hK [0] [1] rfl (by decide) (by decide) [0] hk1 hFc rfl rfl rfl
                    clear hz1 hk1 hvm ht hB
                    have hG := hG.trans (un3_eq e_x_5048_1)
                    exact W.vret hx hb hr (fun t ht hW => ⟨⟨0, rfl, trivial, ⟨x_5048, x_5049, x_5050, b_x_5050, (by first | assumption | (have q0 := kc_0; have q1 := kc_1; omega)), (by first | assumption | exact (fun h9 => by have q0 := kc_0; have q1 := kc_1; omega)), hG, Bw.to (hP.sub [1, 0] rfl) (hD.sub [1, 0] (by decide) rfl) (hK.sub [0] rfl) ht hW⟩⟩, hS.F ht⟩) hS.2.2 dX7_mustName_89
set_option maxHeartbeats 4000000 in
set_option maxRecDepth 100000 in
theorem tX7_find (l : Launch) (dC : Nat → ClassId) (dI : Nat → Nat → Nat) (sz : Nat) (oM : Nat) (iM_thrown : Int32) (rM_tape : Nat) (iM_taped : Int32) (iM_size : Int32) (iM_at : Int32) (iM_end : Int32) (iM_token : Int32) (iM_whole : Int32) (iM_nameSize : Int32) (iM_fault : Int32) (iM_place : Int32) (iM_trouble : Int32) (rM_letters : Nat) (fM_letters : Nat → Int32) (kM_letters : ClassId) (iM_failed : Int32) (iM_hasCourt : Int32) (rM_r : Nat) (rM_fresh : Nat) (fM_fresh : Nat → Int32) (kM_fresh : ClassId) (rM_told : Nat) (rM_read : Nat) (fM_read : Nat → Int32) (kM_read : ClassId) (rM_st : Nat) (rM_undone : Nat) (rM_kept : Nat) (iM_undos : Int32) (iM_images : Int32) (rM_fresher : Nat) (iM_fresherSize : Int32) (iM_scale : Int32) (iM_night : Int32) (rM_heardRow : Nat) (rM_cutRow : Nat) (iM_breaths : Int32) (iM_cutMany : Int32) (iM_allBreaths : Int32) (rM_trial : Nat) (rM_words : Nat) (iM_fewestBreaths : Int32) (iM_orderMany : Int32) (iM_orderSum : Int32) (iM_leastOrder : Int32) (rM_often : Nat) (iM_setMany : Int32) (iM_someOf : Int32) (iM_allOf : Int32) (iM_allWeight : Int64) (iM_enoughWeight : Int64) (iM_worthSum : Int64) (iM_firstRest : Int32) (iM_leastDrawn : Int32) (b_iM_taped : 0 ≤ iM_taped.toInt ∧ iM_taped.toInt ≤ 900) (b_iM_size : 0 ≤ iM_size.toInt ∧ iM_size.toInt ≤ 900) (b_iM_end : 0 ≤ iM_end.toInt ∧ iM_end.toInt ≤ 900) (b_iM_nameSize : 0 ≤ iM_nameSize.toInt ∧ iM_nameSize.toInt ≤ 900) (b_iM_failed : 0 ≤ iM_failed.toInt ∧ iM_failed.toInt ≤ 1) (b_iM_hasCourt : 0 ≤ iM_hasCourt.toInt ∧ iM_hasCourt.toInt ≤ 1) (b_iM_undos : 0 ≤ iM_undos.toInt ∧ iM_undos.toInt ≤ 16) (b_iM_images : 0 ≤ iM_images.toInt ∧ iM_images.toInt ≤ 3) (b_iM_scale : 1 ≤ iM_scale.toInt ∧ iM_scale.toInt ≤ 1296) (b_iM_breaths : 0 ≤ iM_breaths.toInt ∧ iM_breaths.toInt ≤ 399) (b_iM_cutMany : 0 ≤ iM_cutMany.toInt ∧ iM_cutMany.toInt ≤ 399) (r_T : ImpP (iM_token.toInt = 2) (iM_nameSize.toInt ≤ 8)) (r_P : POk fM_fresh fM_read) (hns : iM_nameSize.toInt ≤ 8) : Met l yX7_find (Cond.code yX7_find cX7_find 4 (some .int) :: wG) ({ frames := 0, cells := 0, slots := 0, locals := 0 }) (va_Pc [.ref oM] (Pw dC dI sz [(oc7 oM iM_thrown rM_tape iM_taped iM_size iM_at iM_end iM_token iM_whole iM_nameSize iM_fault iM_place iM_trouble rM_letters iM_failed iM_hasCourt rM_r rM_fresh rM_told rM_read rM_st rM_undone rM_kept iM_undos iM_images rM_fresher iM_fresherSize iM_scale iM_night rM_heardRow rM_cutRow iM_breaths iM_cutMany iM_allBreaths rM_trial rM_words iM_fewestBreaths iM_orderMany iM_orderSum iM_leastOrder rM_often iM_setMany iM_someOf iM_allOf iM_allWeight iM_enoughWeight iM_worthSum iM_firstRest iM_leastDrawn), (arI rM_letters kM_letters 8 fM_letters), (arI rM_fresh kM_fresh 287 fM_fresh), (arI rM_read kM_read 90 fM_read)] [(kM_letters, .int), (kM_fresh, .int), (kM_read, .int)])) (va_Qi (fun (r : Int32) (_ : Nat) => (True ∧ (-1 ≤ r.toInt ∧ r.toInt < (fM_fresh 1).toInt ∧ r.toInt ≤ 17)) ∧ PX7_find iM_nameSize fM_letters fM_fresh = r) (fun (_ : Nat) (t : State) => Bw dC dI (va_A [(oc7 oM iM_thrown rM_tape iM_taped iM_size iM_at iM_end iM_token iM_whole iM_nameSize iM_fault iM_place iM_trouble rM_letters iM_failed iM_hasCourt rM_r rM_fresh rM_told rM_read rM_st rM_undone rM_kept iM_undos iM_images rM_fresher iM_fresherSize iM_scale iM_night rM_heardRow rM_cutRow iM_breaths iM_cutMany iM_allBreaths rM_trial rM_words iM_fewestBreaths iM_orderMany iM_orderSum iM_leastOrder rM_often iM_setMany iM_someOf iM_allOf iM_allWeight iM_enoughWeight iM_worthSum iM_firstRest iM_leastDrawn), (arI rM_letters kM_letters 8 fM_letters), (arI rM_fresh kM_fresh 287 fM_fresh), (arI rM_read kM_read 90 fM_read)] sz) [(oc7 oM iM_thrown rM_tape iM_taped iM_size iM_at iM_end iM_token iM_whole iM_nameSize iM_fault iM_place iM_trouble rM_letters iM_failed iM_hasCourt rM_r rM_fresh rM_told rM_read rM_st rM_undone rM_kept iM_undos iM_images rM_fresher iM_fresherSize iM_scale iM_night rM_heardRow rM_cutRow iM_breaths iM_cutMany iM_allBreaths rM_trial rM_words iM_fewestBreaths iM_orderMany iM_orderSum iM_leastOrder rM_often iM_setMany iM_someOf iM_allOf iM_allWeight iM_enoughWeight iM_worthSum iM_firstRest iM_leastDrawn), (arI rM_letters kM_letters 8 fM_letters), (arI rM_fresh kM_fresh 287 fM_fresh), (arI rM_read kM_read 90 fM_read)] [(kM_letters, .int), (kM_fresh, .int), (kM_read, .int)] t) (va_A [(oc7 oM iM_thrown rM_tape iM_taped iM_size iM_at iM_end iM_token iM_whole iM_nameSize iM_fault iM_place iM_trouble rM_letters iM_failed iM_hasCourt rM_r rM_fresh rM_told rM_read rM_st rM_undone rM_kept iM_undos iM_images rM_fresher iM_fresherSize iM_scale iM_night rM_heardRow rM_cutRow iM_breaths iM_cutMany iM_allBreaths rM_trial rM_words iM_fewestBreaths iM_orderMany iM_orderSum iM_leastOrder rM_often iM_setMany iM_someOf iM_allOf iM_allWeight iM_enoughWeight iM_worthSum iM_firstRest iM_leastDrawn), (arI rM_letters kM_letters 8 fM_letters), (arI rM_fresh kM_fresh 287 fM_fresh), (arI rM_read kM_read 90 fM_read)] sz)) 0 0 (va_A [(oc7 oM iM_thrown rM_tape iM_taped iM_size iM_at iM_end iM_token iM_whole iM_nameSize iM_fault iM_place iM_trouble rM_letters iM_failed iM_hasCourt rM_r rM_fresh rM_told rM_read rM_st rM_undone rM_kept iM_undos iM_images rM_fresher iM_fresherSize iM_scale iM_night rM_heardRow rM_cutRow iM_breaths iM_cutMany iM_allBreaths rM_trial rM_words iM_fewestBreaths iM_orderMany iM_orderSum iM_leastOrder rM_often iM_setMany iM_someOf iM_allOf iM_allWeight iM_enoughWeight iM_worthSum iM_firstRest iM_leastDrawn), (arI rM_letters kM_letters 8 fM_letters), (arI rM_fresh kM_fresh 287 fM_fresh), (arI rM_read kM_read 90 fM_read)] sz) := by
  refine Met.ofW (cc := cX7_find) (maxL := 4) (ret := (some .int)) (by decide) rfl ?_
  intro p e s m args below meth c s₁ B hml hv
  obtain ⟨rfl, hsz, hP, hK, hD0, hE⟩ := hv
  have hx := B.exec
  have hb := B.bytes
  have hr := B.returns
  have hts : ∀ w ∈ wG, w.before ([.ref oM] : List Value).toArray s = true := fun w h => atoms_spec (ws := Cond.code yX7_find cX7_find 4 (some .int) :: wG) B.pre w (List.mem_cons_of_mem _ h)
  have hown : s.vm.findClass RX7 = some m.cls := findClass_of_methodNamed B.named
  have hlocks := B.notSynchronized
  subst hsz
  have hD := hD0.self (sz := s.heap.size)
  generalize hAe : va_A [(oc7 oM iM_thrown rM_tape iM_taped iM_size iM_at iM_end iM_token iM_whole iM_nameSize iM_fault iM_place iM_trouble rM_letters iM_failed iM_hasCourt rM_r rM_fresh rM_told rM_read rM_st rM_undone rM_kept iM_undos iM_images rM_fresher iM_fresherSize iM_scale iM_night rM_heardRow rM_cutRow iM_breaths iM_cutMany iM_allBreaths rM_trial rM_words iM_fewestBreaths iM_orderMany iM_orderSum iM_leastOrder rM_often iM_setMany iM_someOf iM_allOf iM_allWeight iM_enoughWeight iM_worthSum iM_firstRest iM_leastDrawn), (arI rM_letters kM_letters 8 fM_letters), (arI rM_fresh kM_fresh 287 fM_fresh), (arI rM_read kM_read 90 fM_read)] s.heap.size = A at hD hE ⊢
  have hA : ∀ q : Nat, s.heap.size ≤ q → A q := fun q h => by rw [← hAe]; exact Or.inr h
  have hS : va_S A s.heap s.heap [] := va_S.rf
  have hl := lv_entry ([.ref oM]) (n := 4) (Nat.le_of_ble_eq_true rfl)
  rw [lg_entry_eq]
  generalize (lg_sl ([.ref oM]) ++ List.replicate (4 - (lg_sl ([.ref oM])).length) Slot.unset).toArray = ls at hl ⊢
  have hl : lv_has ls 4 [(0, .ref oM)] := hl
  have hG := PX7_find_eq iM_nameSize fM_letters fM_fresh
  have pl_fM_fresh := r_P.lins
  refine lv_iconst (v := 0) hx hb dX7_find_0 (by decide) ?_
  refine lv_istore_n (lv' := [(1, .int 0), (0, .ref oM)]) hx hb dX7_find_1 rfl hl (by decide) rfl (fun ls hl => ?_)
  have hl := lv_sub hl (l' := [(1, .int 0), (0, .ref oM)]) [0, 1] rfl
  have key_n_5120 : ∀ (n_5120 : Nat) (z_5119 : Int32) (H : Heap) (locs : List Loc) (ls : Array Slot), (0 ≤ z_5119.toInt ∧ z_5119.toInt ≤ 18) → (18 - z_5119.toInt).toNat < n_5120 → (PX7_find iM_nameSize fM_letters fM_fresh = HX7_find_0 iM_nameSize fM_letters fM_fresh n_5120 z_5119) → va_P (dC, dI) vwCl [(oc7 oM iM_thrown rM_tape iM_taped iM_size iM_at iM_end iM_token iM_whole iM_nameSize iM_fault iM_place iM_trouble rM_letters iM_failed iM_hasCourt rM_r rM_fresh rM_told rM_read rM_st rM_undone rM_kept iM_undos iM_images rM_fresher iM_fresherSize iM_scale iM_night rM_heardRow rM_cutRow iM_breaths iM_cutMany iM_allBreaths rM_trial rM_words iM_fewestBreaths iM_orderMany iM_orderSum iM_leastOrder rM_often iM_setMany iM_someOf iM_allOf iM_allWeight iM_enoughWeight iM_worthSum iM_firstRest iM_leastDrawn), (arI rM_letters kM_letters 8 fM_letters), (arI rM_fresh kM_fresh 287 fM_fresh), (arI rM_read kM_read 90 fM_read)] H → va_D A [(oc7 oM iM_thrown rM_tape iM_taped iM_size iM_at iM_end iM_token iM_whole iM_nameSize iM_fault iM_place iM_trouble rM_letters iM_failed iM_hasCourt rM_r rM_fresh rM_told rM_read rM_st rM_undone rM_kept iM_undos iM_images rM_fresher iM_fresherSize iM_scale iM_night rM_heardRow rM_cutRow iM_breaths iM_cutMany iM_allBreaths rM_trial rM_words iM_fewestBreaths iM_orderMany iM_orderSum iM_leastOrder rM_often iM_setMany iM_someOf iM_allOf iM_allWeight iM_enoughWeight iM_worthSum iM_firstRest iM_leastDrawn), (arI rM_letters kM_letters 8 fM_letters), (arI rM_fresh kM_fresh 287 fM_fresh), (arI rM_read kM_read 90 fM_read)] → va_S A s.heap H locs → lv_has ls 4 [(1, .int z_5119), (0, .ref oM)] → W p l e (headSpec (Cond.code yX7_find cX7_find 4 (some .int) :: wG) ({ frames := 0, cells := 0, slots := 0, locals := 0 })).room s m ([.ref oM] : List Value).toArray below meth c H locs 0 0 (MQ below (va_Qi (fun (r : Int32) (_ : Nat) => (True ∧ (-1 ≤ r.toInt ∧ r.toInt < (fM_fresh 1).toInt ∧ r.toInt ≤ 17)) ∧ PX7_find iM_nameSize fM_letters fM_fresh = r) (fun (_ : Nat) (t : State) => Bw dC dI A [(oc7 oM iM_thrown rM_tape iM_taped iM_size iM_at iM_end iM_token iM_whole iM_nameSize iM_fault iM_place iM_trouble rM_letters iM_failed iM_hasCourt rM_r rM_fresh rM_told rM_read rM_st rM_undone rM_kept iM_undos iM_images rM_fresher iM_fresherSize iM_scale iM_night rM_heardRow rM_cutRow iM_breaths iM_cutMany iM_allBreaths rM_trial rM_words iM_fewestBreaths iM_orderMany iM_orderSum iM_leastOrder rM_often iM_setMany iM_someOf iM_allOf iM_allWeight iM_enoughWeight iM_worthSum iM_firstRest iM_leastDrawn), (arI rM_letters kM_letters 8 fM_letters), (arI rM_fresh kM_fresh 287 fM_fresh), (arI rM_read kM_read 90 fM_read)] [(kM_letters, .int), (kM_fresh, .int), (kM_read, .int)] t) A) ([.ref oM] : List Value).toArray s 0 0 A) (F0 m 2 ls []) := by
    intro n_5120
    induction n_5120 with
    | zero => intro z_5119 H locs ls hi0_n_5120 hm; exact absurd hm (by omega)
    | succ n_5120 ih_n_5120 =>
      intro z_5119 H locs ls hi0_n_5120 hm hG hP hD hS hl
      have hG := hG.trans (HX7_find_0_eq _ _ _ _ _)
      refine lv_iload_n hx hb dX7_find_2 rfl (lv_at hl 0 rfl) ?_
      refine lv_bipush (v := 18) hx hb dX7_find_3 (by decide) ?_
      refine lv_icmp_ge (tgt := 104) hx hb dX7_find_5 (by decide) (fun c_5121 => ?_) (fun c_5121 => ?_)
      · skip
        have hG := hG.trans (if_pos c_5121)
        have gc_5121 := ti_le c_5121 kc_18 rfl
        refine lv_iconst (v := (-1)) hx hb dX7_find_104 (by decide) ?_
        exact W.iret hx hb hr (fun t ht hW => ⟨⟨_, 0, rfl, ⟨⟨trivial, (by have q := kc_m1; first | omega | assumption)⟩, hG⟩, Bw.to (hP.sub [0, 1, 2, 3] rfl) (hD.sub [0, 1, 2, 3] (by decide) rfl) (hK.sub [0, 1, 2] rfl) ht hW⟩, hS.F ht⟩) hS.2.2 dX7_find_105
      · skip
        have hG := hG.trans (if_neg c_5121)
        have gc_5121 := ti_nle c_5121 kc_18 rfl
        refine lv_aload_n hx hb dX7_find_8 rfl (lv_at hl 1 rfl) ?_
        refine va_get (D := (dC, dI)) (ci := 7) (v := .ref rM_fresh) (C := RX7) (T := TX7) (N := 48) hx hb hts inX7 hown hK hP 0 rfl rfl 16 (by decide) (hts _ wd_156) (fun _ h9 => h9) rfl dX7_find_9 ?_
        refine lv_bipush (v := 125) hx hb dX7_find_12 (by decide) ?_
        refine lv_iload_n hx hb dX7_find_14 rfl (lv_at hl 0 rfl) ?_
        refine lv_iadd hx hb dX7_find_15 ?_
        refine lv_topi (fun x_5122 ex_5122 => ?_)
        have hG := hG.trans (lt_eq ex_5122)
        have vx_5122 : x_5122.toInt = z_5119.toInt + 125 := by have q := ti_add ex_5122 kc_125 rfl (by omega) (by omega); omega
        refine va_iald hx hb hK hP 2 1 rfl rfl (ti_in vx_5122 (by omega) (by omega)) dX7_find_16 ?_
        refine lv_topi (fun x_5123 ex_5123 => ?_)
        have hG := hG.trans (lt_eq ex_5123)
        have kx_5123 : (fM_fresh x_5122.toNatClampNeg).toInt = x_5123.toInt := by rw [ex_5123]
        have cx_5123 : (fM_fresh (125 + z_5119.toNatClampNeg)).toInt = x_5123.toInt := by rw [show 125 + z_5119.toNatClampNeg = x_5122.toNatClampNeg from by have q9 := ti_cl (x := x_5122) vx_5122 (by omega); have q_z_5119 := ti_cl (x := z_5119) rfl (by omega); omega]; exact kx_5123
        refine lv_if_le (tgt := 40) hx hb dX7_find_17 (by decide) (fun c_5124 => ?_) (fun c_5124 => ?_)
        · skip
          have hG := hG.trans (if_pos c_5124)
          have gc_5124 := ti_le c_5124 rfl kc_0
          refine lv_iconst (v := 0) hx hb dX7_find_40 (by decide) ?_
          refine lv_istore_n (lv' := [(2, .int 0), (1, .int z_5119), (0, .ref oM)]) hx hb dX7_find_41 rfl hl (by decide) rfl (fun ls hl => ?_)
          refine lv_iconst (v := 0) hx hb dX7_find_42 (by decide) ?_
          refine lv_istore_n (lv' := [(3, .int 0), (2, .int 0), (1, .int z_5119), (0, .ref oM)]) hx hb dX7_find_43 rfl hl (by decide) rfl (fun ls hl => ?_)
          have hl := lv_sub hl (l' := [(3, .int 0), (2, .int 0), (1, .int z_5119), (0, .ref oM)]) [0, 1, 2, 3] rfl
          have key_n_5127 : ∀ (n_5127 : Nat) (z_5125 : Int32) (z_5126 : Int32) (H : Heap) (locs : List Loc) (ls : Array Slot), (0 ≤ z_5125.toInt ∧ z_5125.toInt ≤ iM_nameSize.toInt) → (0 ≤ z_5126.toInt ∧ z_5126.toInt ≤ 1) → (1 ≤ z_5126.toInt → 1 ≤ (fM_fresh (125 + z_5119.toNatClampNeg)).toInt) → (iM_nameSize.toInt - z_5125.toInt).toNat < n_5127 → (PX7_find iM_nameSize fM_letters fM_fresh = HX7_find_1 iM_nameSize fM_letters fM_fresh z_5119 (fun (z_5119 : Int32) => HX7_find_0 iM_nameSize fM_letters fM_fresh n_5120 z_5119) n_5127 z_5125 z_5126) → va_P (dC, dI) vwCl [(oc7 oM iM_thrown rM_tape iM_taped iM_size iM_at iM_end iM_token iM_whole iM_nameSize iM_fault iM_place iM_trouble rM_letters iM_failed iM_hasCourt rM_r rM_fresh rM_told rM_read rM_st rM_undone rM_kept iM_undos iM_images rM_fresher iM_fresherSize iM_scale iM_night rM_heardRow rM_cutRow iM_breaths iM_cutMany iM_allBreaths rM_trial rM_words iM_fewestBreaths iM_orderMany iM_orderSum iM_leastOrder rM_often iM_setMany iM_someOf iM_allOf iM_allWeight iM_enoughWeight iM_worthSum iM_firstRest iM_leastDrawn), (arI rM_letters kM_letters 8 fM_letters), (arI rM_fresh kM_fresh 287 fM_fresh), (arI rM_read kM_read 90 fM_read)] H → va_D A [(oc7 oM iM_thrown rM_tape iM_taped iM_size iM_at iM_end iM_token iM_whole iM_nameSize iM_fault iM_place iM_trouble rM_letters iM_failed iM_hasCourt rM_r rM_fresh rM_told rM_read rM_st rM_undone rM_kept iM_undos iM_images rM_fresher iM_fresherSize iM_scale iM_night rM_heardRow rM_cutRow iM_breaths iM_cutMany iM_allBreaths rM_trial rM_words iM_fewestBreaths iM_orderMany iM_orderSum iM_leastOrder rM_often iM_setMany iM_someOf iM_allOf iM_allWeight iM_enoughWeight iM_worthSum iM_firstRest iM_leastDrawn), (arI rM_letters kM_letters 8 fM_letters), (arI rM_fresh kM_fresh 287 fM_fresh), (arI rM_read kM_read 90 fM_read)] → va_S A s.heap H locs → lv_has ls 4 [(3, .int z_5125), (2, .int z_5126), (1, .int z_5119), (0, .ref oM)] → W p l e (headSpec (Cond.code yX7_find cX7_find 4 (some .int) :: wG) ({ frames := 0, cells := 0, slots := 0, locals := 0 })).room s m ([.ref oM] : List Value).toArray below meth c H locs 0 0 (MQ below (va_Qi (fun (r : Int32) (_ : Nat) => (True ∧ (-1 ≤ r.toInt ∧ r.toInt < (fM_fresh 1).toInt ∧ r.toInt ≤ 17)) ∧ PX7_find iM_nameSize fM_letters fM_fresh = r) (fun (_ : Nat) (t : State) => Bw dC dI A [(oc7 oM iM_thrown rM_tape iM_taped iM_size iM_at iM_end iM_token iM_whole iM_nameSize iM_fault iM_place iM_trouble rM_letters iM_failed iM_hasCourt rM_r rM_fresh rM_told rM_read rM_st rM_undone rM_kept iM_undos iM_images rM_fresher iM_fresherSize iM_scale iM_night rM_heardRow rM_cutRow iM_breaths iM_cutMany iM_allBreaths rM_trial rM_words iM_fewestBreaths iM_orderMany iM_orderSum iM_leastOrder rM_often iM_setMany iM_someOf iM_allOf iM_allWeight iM_enoughWeight iM_worthSum iM_firstRest iM_leastDrawn), (arI rM_letters kM_letters 8 fM_letters), (arI rM_fresh kM_fresh 287 fM_fresh), (arI rM_read kM_read 90 fM_read)] [(kM_letters, .int), (kM_fresh, .int), (kM_read, .int)] t) A) ([.ref oM] : List Value).toArray s 0 0 A) (F0 m 44 ls []) := by
            intro n_5127
            induction n_5127 with
            | zero => intro z_5125 z_5126 H locs ls hi0_n_5127 hi1_n_5127 hi2_n_5127 hm; exact absurd hm (by omega)
            | succ n_5127 ih_n_5127 =>
              intro z_5125 z_5126 H locs ls hi0_n_5127 hi1_n_5127 hi2_n_5127 hm hG hP hD hS hl
              have hG := hG.trans (HX7_find_1_eq _ _ _ _ _ _ _ _)
              have nm_z_5119 : 1 ≤ (fM_fresh (125 + z_5119.toNatClampNeg)).toInt → z_5119.toInt < (fM_fresh 1).toInt := fun h9 => by have q1 := ti_cl (x := z_5119) rfl (by omega); have q2 := r_P.1.names z_5119.toNatClampNeg (by omega) (by omega); omega
              clear nm_z_5119
              refine lv_iload_n hx hb dX7_find_44 rfl (lv_at hl 0 rfl) ?_
              refine lv_aload_n hx hb dX7_find_45 rfl (lv_at hl 3 rfl) ?_
              refine va_get (D := (dC, dI)) (ci := 7) (v := .int iM_nameSize) (C := RX7) (T := TX7) (N := 48) hx hb hts inX7 hown hK hP 0 rfl rfl 8 (by decide) (hts _ wd_404) (fun _ h9 => h9) rfl dX7_find_46 ?_
              refine lv_icmp_ge (tgt := 92) hx hb dX7_find_49 (by decide) (fun c_5128 => ?_) (fun c_5128 => ?_)
              · skip
                have hG := hG.trans (if_pos c_5128)
                have gc_5128 := ti_le c_5128 rfl rfl
                refine lv_iload_n hx hb dX7_find_92 rfl (lv_at hl 1 rfl) ?_
                refine lv_if_eq (tgt := 98) hx hb dX7_find_93 (by decide) (fun c_5129 => ?_) (fun c_5129 => ?_)
                · skip
                  have hG := hG.trans (if_pos c_5129)
                  have gc_5129 := ti_eq c_5129 rfl kc_0
                  clear hi2_n_5127
                  obtain ⟨x_5130, ex_5130⟩ : ∃ z : Int32, z = z_5119 + Int32.ofInt 1 := ⟨_, rfl⟩
                  have hG := hG.trans (lt_eq ex_5130)
                  have vx_5130 : x_5130.toInt = z_5119.toInt + 1 := by have q := ti_add (y := 1) ex_5130 rfl kc_1 (by omega) (by omega); omega
                  refine lv_iinc (v := x_5130) (lv' := [(1, .int x_5130), (3, .int z_5125), (2, .int z_5126), (0, .ref oM)]) hx hb dX7_find_98 hl (k := 2) rfl ex_5130.symm (by decide) rfl (fun ls hl => ?_)
                  refine lv_goto (tgt := 2) hx hb dX7_find_101 (by decide) ?_
                  exact ih_n_5120 x_5130 _ _ _  (by first | omega | decide | assumption) (by omega) hG (hP.sub [0, 1, 2, 3] rfl) (hD.sub [0, 1, 2, 3] (by decide) rfl) hS (lv_sub hl [0, 3] rfl)
                · skip
                  have hG := hG.trans (if_neg c_5129)
                  have gc_5129 := ti_ne c_5129 rfl kc_0
                  replace gc_5129 : (-1) * z_5126.toInt + 1 ≤ 0 := by omega
                  have h_5131 := hi2_n_5127 (by omega)
                  clear hi2_n_5127
                  refine lv_iload_n hx hb dX7_find_96 rfl (lv_at hl 2 rfl) ?_
                  exact W.iret hx hb hr (fun t ht hW => ⟨⟨_, 0, rfl, ⟨⟨trivial, (by first | omega | assumption)⟩, hG⟩, Bw.to (hP.sub [0, 1, 2, 3] rfl) (hD.sub [0, 1, 2, 3] (by decide) rfl) (hK.sub [0, 1, 2] rfl) ht hW⟩, hS.F ht⟩) hS.2.2 dX7_find_97
              · skip
                have hG := hG.trans (if_neg c_5128)
                have gc_5128 := ti_nle c_5128 rfl rfl
                refine lv_iload_n hx hb dX7_find_52 rfl (lv_at hl 1 rfl) ?_
                refine lv_if_eq (tgt := 92) hx hb dX7_find_53 (by decide) (fun c_5132 => ?_) (fun c_5132 => ?_)
                · skip
                  have hG := hG.trans (if_pos c_5132)
                  have gc_5132 := ti_eq c_5132 rfl kc_0
                  clear hi2_n_5127
                  refine lv_iload_n hx hb dX7_find_92 rfl (lv_at hl 1 rfl) ?_
                  refine lv_if_eq (tgt := 98) hx hb dX7_find_93 (by decide) (fun c_5133 => ?_) (fun c_5133 => ?_)
                  · skip
                    have hG := hG.trans (if_pos c_5133)
                    have gc_5133 := ti_eq c_5133 rfl kc_0
                    obtain ⟨x_5134, ex_5134⟩ : ∃ z : Int32, z = z_5119 + Int32.ofInt 1 := ⟨_, rfl⟩
                    have hG := hG.trans (lt_eq ex_5134)
                    have vx_5134 : x_5134.toInt = z_5119.toInt + 1 := by have q := ti_add (y := 1) ex_5134 rfl kc_1 (by omega) (by omega); omega
                    refine lv_iinc (v := x_5134) (lv' := [(1, .int x_5134), (3, .int z_5125), (2, .int z_5126), (0, .ref oM)]) hx hb dX7_find_98 hl (k := 2) rfl ex_5134.symm (by decide) rfl (fun ls hl => ?_)
                    refine lv_goto (tgt := 2) hx hb dX7_find_101 (by decide) ?_
                    exact ih_n_5120 x_5134 _ _ _  (by first | omega | decide | assumption) (by omega) hG (hP.sub [0, 1, 2, 3] rfl) (hD.sub [0, 1, 2, 3] (by decide) rfl) hS (lv_sub hl [0, 3] rfl)
                  · skip
                    have hG := hG.trans (if_neg c_5133)
                    have gc_5133 := ti_ne c_5133 rfl kc_0
                    replace gc_5133 : z_5126.toInt + 1 ≤ 0 := by omega
                    exfalso; clear hG; omega
                · skip
                  have hG := hG.trans (if_neg c_5132)
                  have gc_5132 := ti_ne c_5132 rfl kc_0
                  replace gc_5132 : (-1) * z_5126.toInt + 1 ≤ 0 := by omega
                  have h_5135 := hi2_n_5127 (by omega)
                  clear hi2_n_5127
                  refine lv_aload_n hx hb dX7_find_56 rfl (lv_at hl 3 rfl) ?_
                  refine va_get (D := (dC, dI)) (ci := 7) (v := .ref rM_fresh) (C := RX7) (T := TX7) (N := 48) hx hb hts inX7 hown hK hP 0 rfl rfl 16 (by decide) (hts _ wd_156) (fun _ h9 => h9) rfl dX7_find_57 ?_
                  refine lv_sipush (v := 143) hx hb dX7_find_60 (by decide) ?_
                  refine lv_bipush (v := 8) hx hb dX7_find_63 (by decide) ?_
                  refine lv_iload_n hx hb dX7_find_65 rfl (lv_at hl 2 rfl) ?_
                  refine lv_imul hx hb dX7_find_66 ?_
                  refine lv_topi (fun x_5136 ex_5136 => ?_)
                  have hG := hG.trans (lt_eq ex_5136)
                  have vx_5136 : x_5136.toInt = 8 * z_5119.toInt := by have q := ti_mul ex_5136 kc_8 rfl (by omega) (by omega); omega
                  refine lv_iadd hx hb dX7_find_67 ?_
                  refine lv_topi (fun x_5137 ex_5137 => ?_)
                  have hG := hG.trans (lt_eq ex_5137)
                  have vx_5137 : x_5137.toInt = 8 * z_5119.toInt + 143 := by have q := ti_add ex_5137 kc_143 vx_5136 (by omega) (by omega); omega
                  refine lv_iload_n hx hb dX7_find_68 rfl (lv_at hl 0 rfl) ?_
                  refine lv_iadd hx hb dX7_find_69 ?_
                  refine lv_topi (fun x_5138 ex_5138 => ?_)
                  have hG := hG.trans (lt_eq ex_5138)
                  have vx_5138 : x_5138.toInt = 8 * z_5119.toInt + z_5125.toInt + 143 := by have q := ti_add ex_5138 vx_5137 rfl (by omega) (by omega); omega
                  refine va_iald hx hb hK hP 2 1 rfl rfl (ti_in vx_5138 (by omega) (by omega)) dX7_find_70 ?_
                  refine lv_topi (fun x_5139 ex_5139 => ?_)
                  have hG := hG.trans (lt_eq ex_5139)
                  have kx_5139 : (fM_fresh x_5138.toNatClampNeg).toInt = x_5139.toInt := by rw [ex_5139]
                  have cx_5139 : (fM_fresh (143 + 8 * z_5119.toNatClampNeg + z_5125.toNatClampNeg)).toInt = x_5139.toInt := by rw [show 143 + 8 * z_5119.toNatClampNeg + z_5125.toNatClampNeg = x_5138.toNatClampNeg from by have q9 := ti_cl (x := x_5138) vx_5138 (by omega); have q_z_5119 := ti_cl (x := z_5119) rfl (by omega); have q_z_5125 := ti_cl (x := z_5125) rfl (by omega); omega]; exact kx_5139
                  refine lv_aload_n hx hb dX7_find_71 rfl (lv_at hl 3 rfl) ?_
                  refine va_get (D := (dC, dI)) (ci := 7) (v := .ref rM_letters) (C := RX7) (T := TX7) (N := 48) hx hb hts inX7 hown hK hP 0 rfl rfl 12 (by decide) (hts _ wd_154) (fun _ h9 => h9) rfl dX7_find_72 ?_
                  refine lv_iload_n hx hb dX7_find_75 rfl (lv_at hl 0 rfl) ?_
                  refine va_iald hx hb hK hP 1 0 rfl rfl (ti_in rfl (by omega) (by omega)) dX7_find_76 ?_
                  refine lv_topi (fun x_5140 ex_5140 => ?_)
                  have hG := hG.trans (lt_eq ex_5140)
                  have kx_5140 : (fM_letters z_5125.toNatClampNeg).toInt = x_5140.toInt := by rw [ex_5140]
                  have cx_5140 := kx_5140
                  refine lv_icmp_ne (tgt := 84) hx hb dX7_find_77 (by decide) (fun c_5141 => ?_) (fun c_5141 => ?_)
                  · skip
                    have hG := hG.trans (if_neg c_5141)
                    have gc_5141 := ti_ne c_5141 rfl rfl
                    refine lv_iconst (v := 0) hx hb dX7_find_84 (by decide) ?_
                    refine lv_istore_n (lv' := [(2, .int 0), (3, .int z_5125), (1, .int z_5119), (0, .ref oM)]) hx hb dX7_find_85 rfl hl (by decide) rfl (fun ls hl => ?_)
                    obtain ⟨x_5142, ex_5142⟩ : ∃ z : Int32, z = z_5125 + Int32.ofInt 1 := ⟨_, rfl⟩
                    have hG := hG.trans (lt_eq ex_5142)
                    have vx_5142 : x_5142.toInt = z_5125.toInt + 1 := by have q := ti_add (y := 1) ex_5142 rfl kc_1 (by omega) (by omega); omega
                    refine lv_iinc (v := x_5142) (lv' := [(3, .int x_5142), (2, .int 0), (1, .int z_5119), (0, .ref oM)]) hx hb dX7_find_86 hl (k := 1) rfl ex_5142.symm (by decide) rfl (fun ls hl => ?_)
                    refine lv_goto (tgt := 44) hx hb dX7_find_89 (by decide) ?_
                    exact ih_n_5127 x_5142 0 _ _ _  (by first | omega | decide | assumption) (by first | omega | decide | assumption) (by have q0 := kc_0; have q1 := kc_1; have q2 := kc_2; have q3 := kc_3; omega) (by omega) hG (hP.sub [0, 1, 2, 3] rfl) (hD.sub [0, 1, 2, 3] (by decide) rfl) hS (lv_sub hl [0, 1, 2, 3] rfl)
                  · skip
                    have hG := hG.trans (if_pos c_5141)
                    have gc_5141 := ti_eq c_5141 rfl rfl
                    refine lv_iconst (v := 1) hx hb dX7_find_80 (by decide) ?_
                    refine lv_goto (tgt := 85) hx hb dX7_find_81 (by decide) ?_
                    refine lv_istore_n (lv' := [(2, .int 1), (3, .int z_5125), (1, .int z_5119), (0, .ref oM)]) hx hb dX7_find_85 rfl hl (by decide) rfl (fun ls hl => ?_)
                    obtain ⟨x_5143, ex_5143⟩ : ∃ z : Int32, z = z_5125 + Int32.ofInt 1 := ⟨_, rfl⟩
                    have hG := hG.trans (lt_eq ex_5143)
                    have vx_5143 : x_5143.toInt = z_5125.toInt + 1 := by have q := ti_add (y := 1) ex_5143 rfl kc_1 (by omega) (by omega); omega
                    refine lv_iinc (v := x_5143) (lv' := [(3, .int x_5143), (2, .int 1), (1, .int z_5119), (0, .ref oM)]) hx hb dX7_find_86 hl (k := 1) rfl ex_5143.symm (by decide) rfl (fun ls hl => ?_)
                    refine lv_goto (tgt := 44) hx hb dX7_find_89 (by decide) ?_
                    exact ih_n_5127 x_5143 1 _ _ _  (by first | omega | decide | assumption) (by first | omega | decide | assumption) (by have q0 := kc_0; have q1 := kc_1; have q2 := kc_2; have q3 := kc_3; omega) (by omega) hG (hP.sub [0, 1, 2, 3] rfl) (hD.sub [0, 1, 2, 3] (by decide) rfl) hS (lv_sub hl [0, 1, 2, 3] rfl)
          exact key_n_5127 (((iM_nameSize.toInt - (0 : Int32).toInt).toNat) + 1) 0 0 _ _ _  (by first | omega | decide | assumption | (have q0 := kc_0; have q1 := kc_1; omega)) (by first | omega | decide | assumption | (have q0 := kc_0; have q1 := kc_1; omega)) (by first | omega | decide | assumption | (have q0 := kc_0; have q1 := kc_1; omega)) (by omega) hG hP hD hS hl
        · skip
          have hG := hG.trans (if_neg c_5124)
          have gc_5124 := ti_nle c_5124 rfl kc_0
          refine lv_aload_n hx hb dX7_find_20 rfl (lv_at hl 1 rfl) ?_
          refine va_get (D := (dC, dI)) (ci := 7) (v := .ref rM_fresh) (C := RX7) (T := TX7) (N := 48) hx hb hts inX7 hown hK hP 0 rfl rfl 16 (by decide) (hts _ wd_156) (fun _ h9 => h9) rfl dX7_find_21 ?_
          refine lv_bipush (v := 125) hx hb dX7_find_24 (by decide) ?_
          refine lv_iload_n hx hb dX7_find_26 rfl (lv_at hl 0 rfl) ?_
          refine lv_iadd hx hb dX7_find_27 ?_
          refine lv_topi (fun x_5144 ex_5144 => ?_)
          have hG := hG.trans (lt_eq ex_5144)
          have vx_5144 : x_5144.toInt = z_5119.toInt + 125 := by have q := ti_add ex_5144 kc_125 rfl (by omega) (by omega); omega
          refine va_iald hx hb hK hP 2 1 rfl rfl (ti_in vx_5144 (by omega) (by omega)) dX7_find_28 ?_
          refine lv_topi (fun x_5145 ex_5145 => ?_)
          have hG := hG.trans (lt_eq ex_5145)
          have kx_5145 : (fM_fresh x_5144.toNatClampNeg).toInt = x_5145.toInt := by rw [ex_5145]
          have cx_5145 : (fM_fresh (125 + z_5119.toNatClampNeg)).toInt = x_5145.toInt := by rw [show 125 + z_5119.toNatClampNeg = x_5144.toNatClampNeg from by have q9 := ti_cl (x := x_5144) vx_5144 (by omega); have q_z_5119 := ti_cl (x := z_5119) rfl (by omega); omega]; exact kx_5145
          refine lv_aload_n hx hb dX7_find_29 rfl (lv_at hl 1 rfl) ?_
          refine va_get (D := (dC, dI)) (ci := 7) (v := .int iM_nameSize) (C := RX7) (T := TX7) (N := 48) hx hb hts inX7 hown hK hP 0 rfl rfl 8 (by decide) (hts _ wd_404) (fun _ h9 => h9) rfl dX7_find_30 ?_
          refine lv_icmp_ne (tgt := 40) hx hb dX7_find_33 (by decide) (fun c_5146 => ?_) (fun c_5146 => ?_)
          · skip
            have hG := hG.trans (if_neg c_5146)
            have gc_5146 := ti_ne c_5146 rfl rfl
            refine lv_iconst (v := 0) hx hb dX7_find_40 (by decide) ?_
            refine lv_istore_n (lv' := [(2, .int 0), (1, .int z_5119), (0, .ref oM)]) hx hb dX7_find_41 rfl hl (by decide) rfl (fun ls hl => ?_)
            refine lv_iconst (v := 0) hx hb dX7_find_42 (by decide) ?_
            refine lv_istore_n (lv' := [(3, .int 0), (2, .int 0), (1, .int z_5119), (0, .ref oM)]) hx hb dX7_find_43 rfl hl (by decide) rfl (fun ls hl => ?_)
            have hl := lv_sub hl (l' := [(3, .int 0), (2, .int 0), (1, .int z_5119), (0, .ref oM)]) [0, 1, 2, 3] rfl
            have key_n_5149 : ∀ (n_5149 : Nat) (z_5147 : Int32) (z_5148 : Int32) (H : Heap) (locs : List Loc) (ls : Array Slot), (0 ≤ z_5147.toInt ∧ z_5147.toInt ≤ iM_nameSize.toInt) → (0 ≤ z_5148.toInt ∧ z_5148.toInt ≤ 1) → (1 ≤ z_5148.toInt → 1 ≤ (fM_fresh (125 + z_5119.toNatClampNeg)).toInt) → (iM_nameSize.toInt - z_5147.toInt).toNat < n_5149 → (PX7_find iM_nameSize fM_letters fM_fresh = HX7_find_1 iM_nameSize fM_letters fM_fresh z_5119 (fun (z_5119 : Int32) => HX7_find_0 iM_nameSize fM_letters fM_fresh n_5120 z_5119) n_5149 z_5147 z_5148) → va_P (dC, dI) vwCl [(oc7 oM iM_thrown rM_tape iM_taped iM_size iM_at iM_end iM_token iM_whole iM_nameSize iM_fault iM_place iM_trouble rM_letters iM_failed iM_hasCourt rM_r rM_fresh rM_told rM_read rM_st rM_undone rM_kept iM_undos iM_images rM_fresher iM_fresherSize iM_scale iM_night rM_heardRow rM_cutRow iM_breaths iM_cutMany iM_allBreaths rM_trial rM_words iM_fewestBreaths iM_orderMany iM_orderSum iM_leastOrder rM_often iM_setMany iM_someOf iM_allOf iM_allWeight iM_enoughWeight iM_worthSum iM_firstRest iM_leastDrawn), (arI rM_letters kM_letters 8 fM_letters), (arI rM_fresh kM_fresh 287 fM_fresh), (arI rM_read kM_read 90 fM_read)] H → va_D A [(oc7 oM iM_thrown rM_tape iM_taped iM_size iM_at iM_end iM_token iM_whole iM_nameSize iM_fault iM_place iM_trouble rM_letters iM_failed iM_hasCourt rM_r rM_fresh rM_told rM_read rM_st rM_undone rM_kept iM_undos iM_images rM_fresher iM_fresherSize iM_scale iM_night rM_heardRow rM_cutRow iM_breaths iM_cutMany iM_allBreaths rM_trial rM_words iM_fewestBreaths iM_orderMany iM_orderSum iM_leastOrder rM_often iM_setMany iM_someOf iM_allOf iM_allWeight iM_enoughWeight iM_worthSum iM_firstRest iM_leastDrawn), (arI rM_letters kM_letters 8 fM_letters), (arI rM_fresh kM_fresh 287 fM_fresh), (arI rM_read kM_read 90 fM_read)] → va_S A s.heap H locs → lv_has ls 4 [(3, .int z_5147), (2, .int z_5148), (1, .int z_5119), (0, .ref oM)] → W p l e (headSpec (Cond.code yX7_find cX7_find 4 (some .int) :: wG) ({ frames := 0, cells := 0, slots := 0, locals := 0 })).room s m ([.ref oM] : List Value).toArray below meth c H locs 0 0 (MQ below (va_Qi (fun (r : Int32) (_ : Nat) => (True ∧ (-1 ≤ r.toInt ∧ r.toInt < (fM_fresh 1).toInt ∧ r.toInt ≤ 17)) ∧ PX7_find iM_nameSize fM_letters fM_fresh = r) (fun (_ : Nat) (t : State) => Bw dC dI A [(oc7 oM iM_thrown rM_tape iM_taped iM_size iM_at iM_end iM_token iM_whole iM_nameSize iM_fault iM_place iM_trouble rM_letters iM_failed iM_hasCourt rM_r rM_fresh rM_told rM_read rM_st rM_undone rM_kept iM_undos iM_images rM_fresher iM_fresherSize iM_scale iM_night rM_heardRow rM_cutRow iM_breaths iM_cutMany iM_allBreaths rM_trial rM_words iM_fewestBreaths iM_orderMany iM_orderSum iM_leastOrder rM_often iM_setMany iM_someOf iM_allOf iM_allWeight iM_enoughWeight iM_worthSum iM_firstRest iM_leastDrawn), (arI rM_letters kM_letters 8 fM_letters), (arI rM_fresh kM_fresh 287 fM_fresh), (arI rM_read kM_read 90 fM_read)] [(kM_letters, .int), (kM_fresh, .int), (kM_read, .int)] t) A) ([.ref oM] : List Value).toArray s 0 0 A) (F0 m 44 ls []) := by
              intro n_5149
              induction n_5149 with
              | zero => intro z_5147 z_5148 H locs ls hi0_n_5149 hi1_n_5149 hi2_n_5149 hm; exact absurd hm (by omega)
              | succ n_5149 ih_n_5149 =>
                intro z_5147 z_5148 H locs ls hi0_n_5149 hi1_n_5149 hi2_n_5149 hm hG hP hD hS hl
                have hG := hG.trans (HX7_find_1_eq _ _ _ _ _ _ _ _)
                have nm_z_5119 : 1 ≤ (fM_fresh (125 + z_5119.toNatClampNeg)).toInt → z_5119.toInt < (fM_fresh 1).toInt := fun h9 => by have q1 := ti_cl (x := z_5119) rfl (by omega); have q2 := r_P.1.names z_5119.toNatClampNeg (by omega) (by omega); omega
                have h_5150 := nm_z_5119 (by omega)
                clear nm_z_5119
                refine lv_iload_n hx hb dX7_find_44 rfl (lv_at hl 0 rfl) ?_
                refine lv_aload_n hx hb dX7_find_45 rfl (lv_at hl 3 rfl) ?_
                refine va_get (D := (dC, dI)) (ci := 7) (v := .int iM_nameSize) (C := RX7) (T := TX7) (N := 48) hx hb hts inX7 hown hK hP 0 rfl rfl 8 (by decide) (hts _ wd_404) (fun _ h9 => h9) rfl dX7_find_46 ?_
                refine lv_icmp_ge (tgt := 92) hx hb dX7_find_49 (by decide) (fun c_5151 => ?_) (fun c_5151 => ?_)
                · skip
                  have hG := hG.trans (if_pos c_5151)
                  have gc_5151 := ti_le c_5151 rfl rfl
                  refine lv_iload_n hx hb dX7_find_92 rfl (lv_at hl 1 rfl) ?_
                  refine lv_if_eq (tgt := 98) hx hb dX7_find_93 (by decide) (fun c_5152 => ?_) (fun c_5152 => ?_)
                  · skip
                    have hG := hG.trans (if_pos c_5152)
                    have gc_5152 := ti_eq c_5152 rfl kc_0
                    clear hi2_n_5149
                    obtain ⟨x_5153, ex_5153⟩ : ∃ z : Int32, z = z_5119 + Int32.ofInt 1 := ⟨_, rfl⟩
                    have hG := hG.trans (lt_eq ex_5153)
                    have vx_5153 : x_5153.toInt = z_5119.toInt + 1 := by have q := ti_add (y := 1) ex_5153 rfl kc_1 (by omega) (by omega); omega
                    refine lv_iinc (v := x_5153) (lv' := [(1, .int x_5153), (3, .int z_5147), (2, .int z_5148), (0, .ref oM)]) hx hb dX7_find_98 hl (k := 2) rfl ex_5153.symm (by decide) rfl (fun ls hl => ?_)
                    refine lv_goto (tgt := 2) hx hb dX7_find_101 (by decide) ?_
                    exact ih_n_5120 x_5153 _ _ _  (by first | omega | decide | assumption) (by omega) hG (hP.sub [0, 1, 2, 3] rfl) (hD.sub [0, 1, 2, 3] (by decide) rfl) hS (lv_sub hl [0, 3] rfl)
                  · skip
                    have hG := hG.trans (if_neg c_5152)
                    have gc_5152 := ti_ne c_5152 rfl kc_0
                    replace gc_5152 : (-1) * z_5148.toInt + 1 ≤ 0 := by omega
                    have h_5154 := hi2_n_5149 (by omega)
                    clear hi2_n_5149
                    refine lv_iload_n hx hb dX7_find_96 rfl (lv_at hl 2 rfl) ?_
                    exact W.iret hx hb hr (fun t ht hW => ⟨⟨_, 0, rfl, ⟨⟨trivial, (by first | omega | assumption)⟩, hG⟩, Bw.to (hP.sub [0, 1, 2, 3] rfl) (hD.sub [0, 1, 2, 3] (by decide) rfl) (hK.sub [0, 1, 2] rfl) ht hW⟩, hS.F ht⟩) hS.2.2 dX7_find_97
                · skip
                  have hG := hG.trans (if_neg c_5151)
                  have gc_5151 := ti_nle c_5151 rfl rfl
                  refine lv_iload_n hx hb dX7_find_52 rfl (lv_at hl 1 rfl) ?_
                  refine lv_if_eq (tgt := 92) hx hb dX7_find_53 (by decide) (fun c_5155 => ?_) (fun c_5155 => ?_)
                  · skip
                    have hG := hG.trans (if_pos c_5155)
                    have gc_5155 := ti_eq c_5155 rfl kc_0
                    clear hi2_n_5149
                    refine lv_iload_n hx hb dX7_find_92 rfl (lv_at hl 1 rfl) ?_
                    refine lv_if_eq (tgt := 98) hx hb dX7_find_93 (by decide) (fun c_5156 => ?_) (fun c_5156 => ?_)
                    · skip
                      have hG := hG.trans (if_pos c_5156)
                      have gc_5156 := ti_eq c_5156 rfl kc_0
                      obtain ⟨x_5157, ex_5157⟩ : ∃ z : Int32, z = z_5119 + Int32.ofInt 1 := ⟨_, rfl⟩
                      have hG := hG.trans (lt_eq ex_5157)
                      have vx_5157 : x_5157.toInt = z_5119.toInt + 1 := by have q := ti_add (y := 1) ex_5157 rfl kc_1 (by omega) (by omega); omega
                      refine lv_iinc (v := x_5157) (lv' := [(1, .int x_5157), (3, .int z_5147), (2, .int z_5148), (0, .ref oM)]) hx hb dX7_find_98 hl (k := 2) rfl ex_5157.symm (by decide) rfl (fun ls hl => ?_)
                      refine lv_goto (tgt := 2) hx hb dX7_find_101 (by decide) ?_
                      exact ih_n_5120 x_5157 _ _ _  (by first | omega | decide | assumption) (by omega) hG (hP.sub [0, 1, 2, 3] rfl) (hD.sub [0, 1, 2, 3] (by decide) rfl) hS (lv_sub hl [0, 3] rfl)
                    · skip
                      have hG := hG.trans (if_neg c_5156)
                      have gc_5156 := ti_ne c_5156 rfl kc_0
                      replace gc_5156 : z_5148.toInt + 1 ≤ 0 := by omega
                      exfalso; clear hG; omega
                  · skip
                    have hG := hG.trans (if_neg c_5155)
                    have gc_5155 := ti_ne c_5155 rfl kc_0
                    replace gc_5155 : (-1) * z_5148.toInt + 1 ≤ 0 := by omega
                    have h_5158 := hi2_n_5149 (by omega)
                    clear hi2_n_5149
                    refine lv_aload_n hx hb dX7_find_56 rfl (lv_at hl 3 rfl) ?_
                    refine va_get (D := (dC, dI)) (ci := 7) (v := .ref rM_fresh) (C := RX7) (T := TX7) (N := 48) hx hb hts inX7 hown hK hP 0 rfl rfl 16 (by decide) (hts _ wd_156) (fun _ h9 => h9) rfl dX7_find_57 ?_
                    refine lv_sipush (v := 143) hx hb dX7_find_60 (by decide) ?_
                    refine lv_bipush (v := 8) hx hb dX7_find_63 (by decide) ?_
                    refine lv_iload_n hx hb dX7_find_65 rfl (lv_at hl 2 rfl) ?_
                    refine lv_imul hx hb dX7_find_66 ?_
                    refine lv_topi (fun x_5159 ex_5159 => ?_)
                    have hG := hG.trans (lt_eq ex_5159)
                    have vx_5159 : x_5159.toInt = 8 * z_5119.toInt := by have q := ti_mul ex_5159 kc_8 rfl (by omega) (by omega); omega
                    refine lv_iadd hx hb dX7_find_67 ?_
                    refine lv_topi (fun x_5160 ex_5160 => ?_)
                    have hG := hG.trans (lt_eq ex_5160)
                    have vx_5160 : x_5160.toInt = 8 * z_5119.toInt + 143 := by have q := ti_add ex_5160 kc_143 vx_5159 (by omega) (by omega); omega
                    refine lv_iload_n hx hb dX7_find_68 rfl (lv_at hl 0 rfl) ?_
                    refine lv_iadd hx hb dX7_find_69 ?_
                    refine lv_topi (fun x_5161 ex_5161 => ?_)
                    have hG := hG.trans (lt_eq ex_5161)
                    have vx_5161 : x_5161.toInt = 8 * z_5119.toInt + z_5147.toInt + 143 := by have q := ti_add ex_5161 vx_5160 rfl (by omega) (by omega); omega
                    refine va_iald hx hb hK hP 2 1 rfl rfl (ti_in vx_5161 (by omega) (by omega)) dX7_find_70 ?_
                    refine lv_topi (fun x_5162 ex_5162 => ?_)
                    have hG := hG.trans (lt_eq ex_5162)
                    have kx_5162 : (fM_fresh x_5161.toNatClampNeg).toInt = x_5162.toInt := by rw [ex_5162]
                    have cx_5162 : (fM_fresh (143 + 8 * z_5119.toNatClampNeg + z_5147.toNatClampNeg)).toInt = x_5162.toInt := by rw [show 143 + 8 * z_5119.toNatClampNeg + z_5147.toNatClampNeg = x_5161.toNatClampNeg from by have q9 := ti_cl (x := x_5161) vx_5161 (by omega); have q_z_5119 := ti_cl (x := z_5119) rfl (by omega); have q_z_5147 := ti_cl (x := z_5147) rfl (by omega); omega]; exact kx_5162
                    refine lv_aload_n hx hb dX7_find_71 rfl (lv_at hl 3 rfl) ?_
                    refine va_get (D := (dC, dI)) (ci := 7) (v := .ref rM_letters) (C := RX7) (T := TX7) (N := 48) hx hb hts inX7 hown hK hP 0 rfl rfl 12 (by decide) (hts _ wd_154) (fun _ h9 => h9) rfl dX7_find_72 ?_
                    refine lv_iload_n hx hb dX7_find_75 rfl (lv_at hl 0 rfl) ?_
                    refine va_iald hx hb hK hP 1 0 rfl rfl (ti_in rfl (by omega) (by omega)) dX7_find_76 ?_
                    refine lv_topi (fun x_5163 ex_5163 => ?_)
                    have hG := hG.trans (lt_eq ex_5163)
                    have kx_5163 : (fM_letters z_5147.toNatClampNeg).toInt = x_5163.toInt := by rw [ex_5163]
                    have cx_5163 := kx_5163
                    refine lv_icmp_ne (tgt := 84) hx hb dX7_find_77 (by decide) (fun c_5164 => ?_) (fun c_5164 => ?_)
                    · skip
                      have hG := hG.trans (if_neg c_5164)
                      have gc_5164 := ti_ne c_5164 rfl rfl
                      refine lv_iconst (v := 0) hx hb dX7_find_84 (by decide) ?_
                      refine lv_istore_n (lv' := [(2, .int 0), (3, .int z_5147), (1, .int z_5119), (0, .ref oM)]) hx hb dX7_find_85 rfl hl (by decide) rfl (fun ls hl => ?_)
                      obtain ⟨x_5165, ex_5165⟩ : ∃ z : Int32, z = z_5147 + Int32.ofInt 1 := ⟨_, rfl⟩
                      have hG := hG.trans (lt_eq ex_5165)
                      have vx_5165 : x_5165.toInt = z_5147.toInt + 1 := by have q := ti_add (y := 1) ex_5165 rfl kc_1 (by omega) (by omega); omega
                      refine lv_iinc (v := x_5165) (lv' := [(3, .int x_5165), (2, .int 0), (1, .int z_5119), (0, .ref oM)]) hx hb dX7_find_86 hl (k := 1) rfl ex_5165.symm (by decide) rfl (fun ls hl => ?_)
                      refine lv_goto (tgt := 44) hx hb dX7_find_89 (by decide) ?_
                      exact ih_n_5149 x_5165 0 _ _ _  (by first | omega | decide | assumption) (by first | omega | decide | assumption) (by have q0 := kc_0; have q1 := kc_1; have q2 := kc_2; have q3 := kc_3; omega) (by omega) hG (hP.sub [0, 1, 2, 3] rfl) (hD.sub [0, 1, 2, 3] (by decide) rfl) hS (lv_sub hl [0, 1, 2, 3] rfl)
                    · skip
                      have hG := hG.trans (if_pos c_5164)
                      have gc_5164 := ti_eq c_5164 rfl rfl
                      refine lv_iconst (v := 1) hx hb dX7_find_80 (by decide) ?_
                      refine lv_goto (tgt := 85) hx hb dX7_find_81 (by decide) ?_
                      refine lv_istore_n (lv' := [(2, .int 1), (3, .int z_5147), (1, .int z_5119), (0, .ref oM)]) hx hb dX7_find_85 rfl hl (by decide) rfl (fun ls hl => ?_)
                      obtain ⟨x_5166, ex_5166⟩ : ∃ z : Int32, z = z_5147 + Int32.ofInt 1 := ⟨_, rfl⟩
                      have hG := hG.trans (lt_eq ex_5166)
                      have vx_5166 : x_5166.toInt = z_5147.toInt + 1 := by have q := ti_add (y := 1) ex_5166 rfl kc_1 (by omega) (by omega); omega
                      refine lv_iinc (v := x_5166) (lv' := [(3, .int x_5166), (2, .int 1), (1, .int z_5119), (0, .ref oM)]) hx hb dX7_find_86 hl (k := 1) rfl ex_5166.symm (by decide) rfl (fun ls hl => ?_)
                      refine lv_goto (tgt := 44) hx hb dX7_find_89 (by decide) ?_
                      exact ih_n_5149 x_5166 1 _ _ _  (by first | omega | decide | assumption) (by first | omega | decide | assumption) (by have q0 := kc_0; have q1 := kc_1; have q2 := kc_2; have q3 := kc_3; omega) (by omega) hG (hP.sub [0, 1, 2, 3] rfl) (hD.sub [0, 1, 2, 3] (by decide) rfl) hS (lv_sub hl [0, 1, 2, 3] rfl)
            exact key_n_5149 (((iM_nameSize.toInt - (0 : Int32).toInt).toNat) + 1) 0 0 _ _ _  (by first | omega | decide | assumption | (have q0 := kc_0; have q1 := kc_1; omega)) (by first | omega | decide | assumption | (have q0 := kc_0; have q1 := kc_1; omega)) (by first | omega | decide | assumption | (have q0 := kc_0; have q1 := kc_1; omega)) (by omega) hG hP hD hS hl
          · skip
            have hG := hG.trans (if_pos c_5146)
            have gc_5146 := ti_eq c_5146 rfl rfl
            refine lv_iconst (v := 1) hx hb dX7_find_36 (by decide) ?_
            refine lv_goto (tgt := 41) hx hb dX7_find_37 (by decide) ?_
            refine lv_istore_n (lv' := [(2, .int 1), (1, .int z_5119), (0, .ref oM)]) hx hb dX7_find_41 rfl hl (by decide) rfl (fun ls hl => ?_)
            refine lv_iconst (v := 0) hx hb dX7_find_42 (by decide) ?_
            refine lv_istore_n (lv' := [(3, .int 0), (2, .int 1), (1, .int z_5119), (0, .ref oM)]) hx hb dX7_find_43 rfl hl (by decide) rfl (fun ls hl => ?_)
            have hl := lv_sub hl (l' := [(3, .int 0), (2, .int 1), (1, .int z_5119), (0, .ref oM)]) [0, 1, 2, 3] rfl
            have key_n_5169 : ∀ (n_5169 : Nat) (z_5167 : Int32) (z_5168 : Int32) (H : Heap) (locs : List Loc) (ls : Array Slot), (0 ≤ z_5167.toInt ∧ z_5167.toInt ≤ iM_nameSize.toInt) → (0 ≤ z_5168.toInt ∧ z_5168.toInt ≤ 1) → (1 ≤ z_5168.toInt → 1 ≤ (fM_fresh (125 + z_5119.toNatClampNeg)).toInt) → (iM_nameSize.toInt - z_5167.toInt).toNat < n_5169 → (PX7_find iM_nameSize fM_letters fM_fresh = HX7_find_1 iM_nameSize fM_letters fM_fresh z_5119 (fun (z_5119 : Int32) => HX7_find_0 iM_nameSize fM_letters fM_fresh n_5120 z_5119) n_5169 z_5167 z_5168) → va_P (dC, dI) vwCl [(oc7 oM iM_thrown rM_tape iM_taped iM_size iM_at iM_end iM_token iM_whole iM_nameSize iM_fault iM_place iM_trouble rM_letters iM_failed iM_hasCourt rM_r rM_fresh rM_told rM_read rM_st rM_undone rM_kept iM_undos iM_images rM_fresher iM_fresherSize iM_scale iM_night rM_heardRow rM_cutRow iM_breaths iM_cutMany iM_allBreaths rM_trial rM_words iM_fewestBreaths iM_orderMany iM_orderSum iM_leastOrder rM_often iM_setMany iM_someOf iM_allOf iM_allWeight iM_enoughWeight iM_worthSum iM_firstRest iM_leastDrawn), (arI rM_letters kM_letters 8 fM_letters), (arI rM_fresh kM_fresh 287 fM_fresh), (arI rM_read kM_read 90 fM_read)] H → va_D A [(oc7 oM iM_thrown rM_tape iM_taped iM_size iM_at iM_end iM_token iM_whole iM_nameSize iM_fault iM_place iM_trouble rM_letters iM_failed iM_hasCourt rM_r rM_fresh rM_told rM_read rM_st rM_undone rM_kept iM_undos iM_images rM_fresher iM_fresherSize iM_scale iM_night rM_heardRow rM_cutRow iM_breaths iM_cutMany iM_allBreaths rM_trial rM_words iM_fewestBreaths iM_orderMany iM_orderSum iM_leastOrder rM_often iM_setMany iM_someOf iM_allOf iM_allWeight iM_enoughWeight iM_worthSum iM_firstRest iM_leastDrawn), (arI rM_letters kM_letters 8 fM_letters), (arI rM_fresh kM_fresh 287 fM_fresh), (arI rM_read kM_read 90 fM_read)] → va_S A s.heap H locs → lv_has ls 4 [(3, .int z_5167), (2, .int z_5168), (1, .int z_5119), (0, .ref oM)] → W p l e (headSpec (Cond.code yX7_find cX7_find 4 (some .int) :: wG) ({ frames := 0, cells := 0, slots := 0, locals := 0 })).room s m ([.ref oM] : List Value).toArray below meth c H locs 0 0 (MQ below (va_Qi (fun (r : Int32) (_ : Nat) => (True ∧ (-1 ≤ r.toInt ∧ r.toInt < (fM_fresh 1).toInt ∧ r.toInt ≤ 17)) ∧ PX7_find iM_nameSize fM_letters fM_fresh = r) (fun (_ : Nat) (t : State) => Bw dC dI A [(oc7 oM iM_thrown rM_tape iM_taped iM_size iM_at iM_end iM_token iM_whole iM_nameSize iM_fault iM_place iM_trouble rM_letters iM_failed iM_hasCourt rM_r rM_fresh rM_told rM_read rM_st rM_undone rM_kept iM_undos iM_images rM_fresher iM_fresherSize iM_scale iM_night rM_heardRow rM_cutRow iM_breaths iM_cutMany iM_allBreaths rM_trial rM_words iM_fewestBreaths iM_orderMany iM_orderSum iM_leastOrder rM_often iM_setMany iM_someOf iM_allOf iM_allWeight iM_enoughWeight iM_worthSum iM_firstRest iM_leastDrawn), (arI rM_letters kM_letters 8 fM_letters), (arI rM_fresh kM_fresh 287 fM_fresh), (arI rM_read kM_read 90 fM_read)] [(kM_letters, .int), (kM_fresh, .int), (kM_read, .int)] t) A) ([.ref oM] : List Value).toArray s 0 0 A) (F0 m 44 ls []) := by
              intro n_5169
              induction n_5169 with
              | zero => intro z_5167 z_5168 H locs ls hi0_n_5169 hi1_n_5169 hi2_n_5169 hm; exact absurd hm (by omega)
              | succ n_5169 ih_n_5169 =>
                intro z_5167 z_5168 H locs ls hi0_n_5169 hi1_n_5169 hi2_n_5169 hm hG hP hD hS hl
                have hG := hG.trans (HX7_find_1_eq _ _ _ _ _ _ _ _)
                have nm_z_5119 : 1 ≤ (fM_fresh (125 + z_5119.toNatClampNeg)).toInt → z_5119.toInt < (fM_fresh 1).toInt := fun h9 => by have q1 := ti_cl (x := z_5119) rfl (by omega); have q2 := r_P.1.names z_5119.toNatClampNeg (by omega) (by omega); omega
                have h_5170 := nm_z_5119 (by omega)
                clear nm_z_5119
                refine lv_iload_n hx hb dX7_find_44 rfl (lv_at hl 0 rfl) ?_
                refine lv_aload_n hx hb dX7_find_45 rfl (lv_at hl 3 rfl) ?_
                refine va_get (D := (dC, dI)) (ci := 7) (v := .int iM_nameSize) (C := RX7) (T := TX7) (N := 48) hx hb hts inX7 hown hK hP 0 rfl rfl 8 (by decide) (hts _ wd_404) (fun _ h9 => h9) rfl dX7_find_46 ?_
                refine lv_icmp_ge (tgt := 92) hx hb dX7_find_49 (by decide) (fun c_5171 => ?_) (fun c_5171 => ?_)
                · skip
                  have hG := hG.trans (if_pos c_5171)
                  have gc_5171 := ti_le c_5171 rfl rfl
                  refine lv_iload_n hx hb dX7_find_92 rfl (lv_at hl 1 rfl) ?_
                  refine lv_if_eq (tgt := 98) hx hb dX7_find_93 (by decide) (fun c_5172 => ?_) (fun c_5172 => ?_)
                  · skip
                    have hG := hG.trans (if_pos c_5172)
                    have gc_5172 := ti_eq c_5172 rfl kc_0
                    clear hi2_n_5169
                    obtain ⟨x_5173, ex_5173⟩ : ∃ z : Int32, z = z_5119 + Int32.ofInt 1 := ⟨_, rfl⟩
                    have hG := hG.trans (lt_eq ex_5173)
                    have vx_5173 : x_5173.toInt = z_5119.toInt + 1 := by have q := ti_add (y := 1) ex_5173 rfl kc_1 (by omega) (by omega); omega
                    refine lv_iinc (v := x_5173) (lv' := [(1, .int x_5173), (3, .int z_5167), (2, .int z_5168), (0, .ref oM)]) hx hb dX7_find_98 hl (k := 2) rfl ex_5173.symm (by decide) rfl (fun ls hl => ?_)
                    refine lv_goto (tgt := 2) hx hb dX7_find_101 (by decide) ?_
                    exact ih_n_5120 x_5173 _ _ _  (by first | omega | decide | assumption) (by omega) hG (hP.sub [0, 1, 2, 3] rfl) (hD.sub [0, 1, 2, 3] (by decide) rfl) hS (lv_sub hl [0, 3] rfl)
                  · skip
                    have hG := hG.trans (if_neg c_5172)
                    have gc_5172 := ti_ne c_5172 rfl kc_0
                    replace gc_5172 : (-1) * z_5168.toInt + 1 ≤ 0 := by omega
                    have h_5174 := hi2_n_5169 (by omega)
                    clear hi2_n_5169
                    refine lv_iload_n hx hb dX7_find_96 rfl (lv_at hl 2 rfl) ?_
                    exact W.iret hx hb hr (fun t ht hW => ⟨⟨_, 0, rfl, ⟨⟨trivial, (by first | omega | assumption)⟩, hG⟩, Bw.to (hP.sub [0, 1, 2, 3] rfl) (hD.sub [0, 1, 2, 3] (by decide) rfl) (hK.sub [0, 1, 2] rfl) ht hW⟩, hS.F ht⟩) hS.2.2 dX7_find_97
                · skip
                  have hG := hG.trans (if_neg c_5171)
                  have gc_5171 := ti_nle c_5171 rfl rfl
                  refine lv_iload_n hx hb dX7_find_52 rfl (lv_at hl 1 rfl) ?_
                  refine lv_if_eq (tgt := 92) hx hb dX7_find_53 (by decide) (fun c_5175 => ?_) (fun c_5175 => ?_)
                  · skip
                    have hG := hG.trans (if_pos c_5175)
                    have gc_5175 := ti_eq c_5175 rfl kc_0
                    clear hi2_n_5169
                    refine lv_iload_n hx hb dX7_find_92 rfl (lv_at hl 1 rfl) ?_
                    refine lv_if_eq (tgt := 98) hx hb dX7_find_93 (by decide) (fun c_5176 => ?_) (fun c_5176 => ?_)
                    · skip
                      have hG := hG.trans (if_pos c_5176)
                      have gc_5176 := ti_eq c_5176 rfl kc_0
                      obtain ⟨x_5177, ex_5177⟩ : ∃ z : Int32, z = z_5119 + Int32.ofInt 1 := ⟨_, rfl⟩
                      have hG := hG.trans (lt_eq ex_5177)
                      have vx_5177 : x_5177.toInt = z_5119.toInt + 1 := by have q := ti_add (y := 1) ex_5177 rfl kc_1 (by omega) (by omega); omega
                      refine lv_iinc (v := x_5177) (lv' := [(1, .int x_5177), (3, .int z_5167), (2, .int z_5168), (0, .ref oM)]) hx hb dX7_find_98 hl (k := 2) rfl ex_5177.symm (by decide) rfl (fun ls hl => ?_)
                      refine lv_goto (tgt := 2) hx hb dX7_find_101 (by decide) ?_
                      exact ih_n_5120 x_5177 _ _ _  (by first | omega | decide | assumption) (by omega) hG (hP.sub [0, 1, 2, 3] rfl) (hD.sub [0, 1, 2, 3] (by decide) rfl) hS (lv_sub hl [0, 3] rfl)
                    · skip
                      have hG := hG.trans (if_neg c_5176)
                      have gc_5176 := ti_ne c_5176 rfl kc_0
                      replace gc_5176 : z_5168.toInt + 1 ≤ 0 := by omega
                      exfalso; clear hG; omega
                  · skip
                    have hG := hG.trans (if_neg c_5175)
                    have gc_5175 := ti_ne c_5175 rfl kc_0
                    replace gc_5175 : (-1) * z_5168.toInt + 1 ≤ 0 := by omega
                    have h_5178 := hi2_n_5169 (by omega)
                    clear hi2_n_5169
                    refine lv_aload_n hx hb dX7_find_56 rfl (lv_at hl 3 rfl) ?_
                    refine va_get (D := (dC, dI)) (ci := 7) (v := .ref rM_fresh) (C := RX7) (T := TX7) (N := 48) hx hb hts inX7 hown hK hP 0 rfl rfl 16 (by decide) (hts _ wd_156) (fun _ h9 => h9) rfl dX7_find_57 ?_
                    refine lv_sipush (v := 143) hx hb dX7_find_60 (by decide) ?_
                    refine lv_bipush (v := 8) hx hb dX7_find_63 (by decide) ?_
                    refine lv_iload_n hx hb dX7_find_65 rfl (lv_at hl 2 rfl) ?_
                    refine lv_imul hx hb dX7_find_66 ?_
                    refine lv_topi (fun x_5179 ex_5179 => ?_)
                    have hG := hG.trans (lt_eq ex_5179)
                    have vx_5179 : x_5179.toInt = 8 * z_5119.toInt := by have q := ti_mul ex_5179 kc_8 rfl (by omega) (by omega); omega
                    refine lv_iadd hx hb dX7_find_67 ?_
                    refine lv_topi (fun x_5180 ex_5180 => ?_)
                    have hG := hG.trans (lt_eq ex_5180)
                    have vx_5180 : x_5180.toInt = 8 * z_5119.toInt + 143 := by have q := ti_add ex_5180 kc_143 vx_5179 (by omega) (by omega); omega
                    refine lv_iload_n hx hb dX7_find_68 rfl (lv_at hl 0 rfl) ?_
                    refine lv_iadd hx hb dX7_find_69 ?_
                    refine lv_topi (fun x_5181 ex_5181 => ?_)
                    have hG := hG.trans (lt_eq ex_5181)
                    have vx_5181 : x_5181.toInt = 8 * z_5119.toInt + z_5167.toInt + 143 := by have q := ti_add ex_5181 vx_5180 rfl (by omega) (by omega); omega
                    refine va_iald hx hb hK hP 2 1 rfl rfl (ti_in vx_5181 (by omega) (by omega)) dX7_find_70 ?_
                    refine lv_topi (fun x_5182 ex_5182 => ?_)
                    have hG := hG.trans (lt_eq ex_5182)
                    have kx_5182 : (fM_fresh x_5181.toNatClampNeg).toInt = x_5182.toInt := by rw [ex_5182]
                    have cx_5182 : (fM_fresh (143 + 8 * z_5119.toNatClampNeg + z_5167.toNatClampNeg)).toInt = x_5182.toInt := by rw [show 143 + 8 * z_5119.toNatClampNeg + z_5167.toNatClampNeg = x_5181.toNatClampNeg from by have q9 := ti_cl (x := x_5181) vx_5181 (by omega); have q_z_5119 := ti_cl (x := z_5119) rfl (by omega); have q_z_5167 := ti_cl (x := z_5167) rfl (by omega); omega]; exact kx_5182
                    refine lv_aload_n hx hb dX7_find_71 rfl (lv_at hl 3 rfl) ?_
                    refine va_get (D := (dC, dI)) (ci := 7) (v := .ref rM_letters) (C := RX7) (T := TX7) (N := 48) hx hb hts inX7 hown hK hP 0 rfl rfl 12 (by decide) (hts _ wd_154) (fun _ h9 => h9) rfl dX7_find_72 ?_
                    refine lv_iload_n hx hb dX7_find_75 rfl (lv_at hl 0 rfl) ?_
                    refine va_iald hx hb hK hP 1 0 rfl rfl (ti_in rfl (by omega) (by omega)) dX7_find_76 ?_
                    refine lv_topi (fun x_5183 ex_5183 => ?_)
                    have hG := hG.trans (lt_eq ex_5183)
                    have kx_5183 : (fM_letters z_5167.toNatClampNeg).toInt = x_5183.toInt := by rw [ex_5183]
                    have cx_5183 := kx_5183
                    refine lv_icmp_ne (tgt := 84) hx hb dX7_find_77 (by decide) (fun c_5184 => ?_) (fun c_5184 => ?_)
                    · skip
                      have hG := hG.trans (if_neg c_5184)
                      have gc_5184 := ti_ne c_5184 rfl rfl
                      refine lv_iconst (v := 0) hx hb dX7_find_84 (by decide) ?_
                      refine lv_istore_n (lv' := [(2, .int 0), (3, .int z_5167), (1, .int z_5119), (0, .ref oM)]) hx hb dX7_find_85 rfl hl (by decide) rfl (fun ls hl => ?_)
                      obtain ⟨x_5185, ex_5185⟩ : ∃ z : Int32, z = z_5167 + Int32.ofInt 1 := ⟨_, rfl⟩
                      have hG := hG.trans (lt_eq ex_5185)
                      have vx_5185 : x_5185.toInt = z_5167.toInt + 1 := by have q := ti_add (y := 1) ex_5185 rfl kc_1 (by omega) (by omega); omega
                      refine lv_iinc (v := x_5185) (lv' := [(3, .int x_5185), (2, .int 0), (1, .int z_5119), (0, .ref oM)]) hx hb dX7_find_86 hl (k := 1) rfl ex_5185.symm (by decide) rfl (fun ls hl => ?_)
                      refine lv_goto (tgt := 44) hx hb dX7_find_89 (by decide) ?_
                      exact ih_n_5169 x_5185 0 _ _ _  (by first | omega | decide | assumption) (by first | omega | decide | assumption) (by have q0 := kc_0; have q1 := kc_1; have q2 := kc_2; have q3 := kc_3; omega) (by omega) hG (hP.sub [0, 1, 2, 3] rfl) (hD.sub [0, 1, 2, 3] (by decide) rfl) hS (lv_sub hl [0, 1, 2, 3] rfl)
                    · skip
                      have hG := hG.trans (if_pos c_5184)
                      have gc_5184 := ti_eq c_5184 rfl rfl
                      refine lv_iconst (v := 1) hx hb dX7_find_80 (by decide) ?_
                      refine lv_goto (tgt := 85) hx hb dX7_find_81 (by decide) ?_
                      refine lv_istore_n (lv' := [(2, .int 1), (3, .int z_5167), (1, .int z_5119), (0, .ref oM)]) hx hb dX7_find_85 rfl hl (by decide) rfl (fun ls hl => ?_)
                      obtain ⟨x_5186, ex_5186⟩ : ∃ z : Int32, z = z_5167 + Int32.ofInt 1 := ⟨_, rfl⟩
                      have hG := hG.trans (lt_eq ex_5186)
                      have vx_5186 : x_5186.toInt = z_5167.toInt + 1 := by have q := ti_add (y := 1) ex_5186 rfl kc_1 (by omega) (by omega); omega
                      refine lv_iinc (v := x_5186) (lv' := [(3, .int x_5186), (2, .int 1), (1, .int z_5119), (0, .ref oM)]) hx hb dX7_find_86 hl (k := 1) rfl ex_5186.symm (by decide) rfl (fun ls hl => ?_)
                      refine lv_goto (tgt := 44) hx hb dX7_find_89 (by decide) ?_
                      exact ih_n_5169 x_5186 1 _ _ _  (by first | omega | decide | assumption) (by first | omega | decide | assumption) (by have q0 := kc_0; have q1 := kc_1; have q2 := kc_2; have q3 := kc_3; omega) (by omega) hG (hP.sub [0, 1, 2, 3] rfl) (hD.sub [0, 1, 2, 3] (by decide) rfl) hS (lv_sub hl [0, 1, 2, 3] rfl)
            exact key_n_5169 (((iM_nameSize.toInt - (0 : Int32).toInt).toNat) + 1) 0 1 _ _ _  (by first | omega | decide | assumption | (have q0 := kc_0; have q1 := kc_1; omega)) (by first | omega | decide | assumption | (have q0 := kc_0; have q1 := kc_1; omega)) (by first | omega | decide | assumption | (have q0 := kc_0; have q1 := kc_1; omega)) (by omega) hG hP hD hS hl
  exact key_n_5120 (((18 - (0 : Int32).toInt).toNat) + 1) 0 _ _ _  (by first | omega | decide | assumption | (have q0 := kc_0; have q1 := kc_1; omega)) (by omega) hG hP hD hS hl
set_option maxHeartbeats 4000000 in
set_option maxRecDepth 100000 in
theorem tX7_newName (l : Launch) (dC : Nat → ClassId) (dI : Nat → Nat → Nat) (sz : Nat) (oM : Nat) (iM_thrown : Int32) (rM_tape : Nat) (fM_tape : Nat → Int32) (kM_tape : ClassId) (iM_taped : Int32) (iM_size : Int32) (iM_at : Int32) (iM_end : Int32) (iM_token : Int32) (iM_whole : Int32) (iM_nameSize : Int32) (iM_fault : Int32) (iM_place : Int32) (iM_trouble : Int32) (rM_letters : Nat) (fM_letters : Nat → Int32) (kM_letters : ClassId) (iM_failed : Int32) (iM_hasCourt : Int32) (rM_r : Nat) (rM_fresh : Nat) (fM_fresh : Nat → Int32) (kM_fresh : ClassId) (rM_told : Nat) (rM_read : Nat) (fM_read : Nat → Int32) (kM_read : ClassId) (rM_st : Nat) (rM_undone : Nat) (rM_kept : Nat) (iM_undos : Int32) (iM_images : Int32) (rM_fresher : Nat) (fM_fresher : Nat → Int32) (kM_fresher : ClassId) (iM_fresherSize : Int32) (iM_scale : Int32) (iM_night : Int32) (rM_heardRow : Nat) (rM_cutRow : Nat) (iM_breaths : Int32) (iM_cutMany : Int32) (iM_allBreaths : Int32) (rM_trial : Nat) (rM_words : Nat) (iM_fewestBreaths : Int32) (iM_orderMany : Int32) (iM_orderSum : Int32) (iM_leastOrder : Int32) (rM_often : Nat) (iM_setMany : Int32) (iM_someOf : Int32) (iM_allOf : Int32) (iM_allWeight : Int64) (iM_enoughWeight : Int64) (iM_worthSum : Int64) (iM_firstRest : Int32) (iM_leastDrawn : Int32) (b_iM_taped : 0 ≤ iM_taped.toInt ∧ iM_taped.toInt ≤ 900) (b_iM_size : 0 ≤ iM_size.toInt ∧ iM_size.toInt ≤ 900) (b_iM_end : 0 ≤ iM_end.toInt ∧ iM_end.toInt ≤ 900) (b_iM_nameSize : 0 ≤ iM_nameSize.toInt ∧ iM_nameSize.toInt ≤ 900) (b_iM_failed : 0 ≤ iM_failed.toInt ∧ iM_failed.toInt ≤ 1) (b_iM_hasCourt : 0 ≤ iM_hasCourt.toInt ∧ iM_hasCourt.toInt ≤ 1) (b_iM_undos : 0 ≤ iM_undos.toInt ∧ iM_undos.toInt ≤ 16) (b_iM_images : 0 ≤ iM_images.toInt ∧ iM_images.toInt ≤ 3) (b_iM_scale : 1 ≤ iM_scale.toInt ∧ iM_scale.toInt ≤ 1296) (b_iM_breaths : 0 ≤ iM_breaths.toInt ∧ iM_breaths.toInt ≤ 399) (b_iM_cutMany : 0 ≤ iM_cutMany.toInt ∧ iM_cutMany.toInt ≤ 399) (r_T : ImpP (iM_token.toInt = 2) (iM_nameSize.toInt ≤ 8)) (r_P : POk fM_fresh fM_read)  : Met l yX7_newName (Cond.code yX7_newName cX7_newName 1 none :: wG) ({ frames := 6, cells := 0, slots := 0, locals := 154 }) (va_Pc [.ref oM] (Pw dC dI sz [(oc7 oM iM_thrown rM_tape iM_taped iM_size iM_at iM_end iM_token iM_whole iM_nameSize iM_fault iM_place iM_trouble rM_letters iM_failed iM_hasCourt rM_r rM_fresh rM_told rM_read rM_st rM_undone rM_kept iM_undos iM_images rM_fresher iM_fresherSize iM_scale iM_night rM_heardRow rM_cutRow iM_breaths iM_cutMany iM_allBreaths rM_trial rM_words iM_fewestBreaths iM_orderMany iM_orderSum iM_leastOrder rM_often iM_setMany iM_someOf iM_allOf iM_allWeight iM_enoughWeight iM_worthSum iM_firstRest iM_leastDrawn), (arI rM_tape kM_tape 900 fM_tape), (arI rM_letters kM_letters 8 fM_letters), (arI rM_fresh kM_fresh 287 fM_fresh), (arI rM_read kM_read 90 fM_read), (arI rM_fresher kM_fresher 8 fM_fresher)] [(kM_tape, .int), (kM_letters, .int), (kM_fresh, .int), (kM_read, .int), (kM_fresher, .int)])) (va_Qv (fun (_ : Nat) => True) (fun (_ : Nat) (t : State) => ∃ (niM_at : Int32) (niM_end : Int32) (niM_token : Int32) (niM_whole : Int32) (niM_nameSize : Int32) (niM_fault : Int32) (niM_place : Int32) (niM_failed : Int32) (niM_fresherSize : Int32) (nfM_letters : Nat → Int32) (nfM_fresher : Nat → Int32), (0 ≤ niM_end.toInt ∧ niM_end.toInt ≤ 900) ∧ (0 ≤ niM_nameSize.toInt ∧ niM_nameSize.toInt ≤ 900) ∧ (0 ≤ niM_failed.toInt ∧ niM_failed.toInt ≤ 1) ∧ (iM_end.toInt ≤ niM_end.toInt) ∧ (ImpP (niM_token.toInt = 2) (niM_nameSize.toInt ≤ 8)) ∧ (iM_failed.toInt ≤ niM_failed.toInt) ∧ (ImpP (niM_failed.toInt ≤ 0 ∧ niM_token.toInt = 59 ) (iM_end.toInt + 1 ≤ niM_end.toInt)) ∧ (PX7_newName fM_tape iM_size iM_at iM_end iM_token iM_whole iM_nameSize iM_fault iM_place fM_letters iM_failed fM_fresh fM_fresher iM_fresherSize = (niM_at, niM_end, niM_token, niM_whole, niM_nameSize, niM_fault, niM_place, niM_failed, niM_fresherSize, nfM_letters, nfM_fresher)) ∧ Bw dC dI (va_A [(oc7 oM iM_thrown rM_tape iM_taped iM_size iM_at iM_end iM_token iM_whole iM_nameSize iM_fault iM_place iM_trouble rM_letters iM_failed iM_hasCourt rM_r rM_fresh rM_told rM_read rM_st rM_undone rM_kept iM_undos iM_images rM_fresher iM_fresherSize iM_scale iM_night rM_heardRow rM_cutRow iM_breaths iM_cutMany iM_allBreaths rM_trial rM_words iM_fewestBreaths iM_orderMany iM_orderSum iM_leastOrder rM_often iM_setMany iM_someOf iM_allOf iM_allWeight iM_enoughWeight iM_worthSum iM_firstRest iM_leastDrawn), (arI rM_tape kM_tape 900 fM_tape), (arI rM_letters kM_letters 8 fM_letters), (arI rM_fresh kM_fresh 287 fM_fresh), (arI rM_read kM_read 90 fM_read), (arI rM_fresher kM_fresher 8 fM_fresher)] sz) [(oc7 oM iM_thrown rM_tape iM_taped iM_size niM_at niM_end niM_token niM_whole niM_nameSize niM_fault niM_place iM_trouble rM_letters niM_failed iM_hasCourt rM_r rM_fresh rM_told rM_read rM_st rM_undone rM_kept iM_undos iM_images rM_fresher niM_fresherSize iM_scale iM_night rM_heardRow rM_cutRow iM_breaths iM_cutMany iM_allBreaths rM_trial rM_words iM_fewestBreaths iM_orderMany iM_orderSum iM_leastOrder rM_often iM_setMany iM_someOf iM_allOf iM_allWeight iM_enoughWeight iM_worthSum iM_firstRest iM_leastDrawn), (arI rM_tape kM_tape 900 fM_tape), (arI rM_letters kM_letters 8 nfM_letters), (arI rM_fresh kM_fresh 287 fM_fresh), (arI rM_read kM_read 90 fM_read), (arI rM_fresher kM_fresher 8 nfM_fresher)] [(kM_tape, .int), (kM_letters, .int), (kM_fresh, .int), (kM_read, .int), (kM_fresher, .int)] t) (va_A [(oc7 oM iM_thrown rM_tape iM_taped iM_size iM_at iM_end iM_token iM_whole iM_nameSize iM_fault iM_place iM_trouble rM_letters iM_failed iM_hasCourt rM_r rM_fresh rM_told rM_read rM_st rM_undone rM_kept iM_undos iM_images rM_fresher iM_fresherSize iM_scale iM_night rM_heardRow rM_cutRow iM_breaths iM_cutMany iM_allBreaths rM_trial rM_words iM_fewestBreaths iM_orderMany iM_orderSum iM_leastOrder rM_often iM_setMany iM_someOf iM_allOf iM_allWeight iM_enoughWeight iM_worthSum iM_firstRest iM_leastDrawn), (arI rM_tape kM_tape 900 fM_tape), (arI rM_letters kM_letters 8 fM_letters), (arI rM_fresh kM_fresh 287 fM_fresh), (arI rM_read kM_read 90 fM_read), (arI rM_fresher kM_fresher 8 fM_fresher)] sz)) 0 0 (va_A [(oc7 oM iM_thrown rM_tape iM_taped iM_size iM_at iM_end iM_token iM_whole iM_nameSize iM_fault iM_place iM_trouble rM_letters iM_failed iM_hasCourt rM_r rM_fresh rM_told rM_read rM_st rM_undone rM_kept iM_undos iM_images rM_fresher iM_fresherSize iM_scale iM_night rM_heardRow rM_cutRow iM_breaths iM_cutMany iM_allBreaths rM_trial rM_words iM_fewestBreaths iM_orderMany iM_orderSum iM_leastOrder rM_often iM_setMany iM_someOf iM_allOf iM_allWeight iM_enoughWeight iM_worthSum iM_firstRest iM_leastDrawn), (arI rM_tape kM_tape 900 fM_tape), (arI rM_letters kM_letters 8 fM_letters), (arI rM_fresh kM_fresh 287 fM_fresh), (arI rM_read kM_read 90 fM_read), (arI rM_fresher kM_fresher 8 fM_fresher)] sz) := by
  refine Met.ofW (cc := cX7_newName) (maxL := 1) (ret := none) (by decide) rfl ?_
  intro p e s m args below meth c s₁ B hml hv
  obtain ⟨rfl, hsz, hP, hK, hD0, hE⟩ := hv
  have hx := B.exec
  have hb := B.bytes
  have hr := B.returns
  have hts : ∀ w ∈ wG, w.before ([.ref oM] : List Value).toArray s = true := fun w h => atoms_spec (ws := Cond.code yX7_newName cX7_newName 1 none :: wG) B.pre w (List.mem_cons_of_mem _ h)
  have hown : s.vm.findClass RX7 = some m.cls := findClass_of_methodNamed B.named
  have hlocks := B.notSynchronized
  subst hsz
  have hD := hD0.self (sz := s.heap.size)
  generalize hAe : va_A [(oc7 oM iM_thrown rM_tape iM_taped iM_size iM_at iM_end iM_token iM_whole iM_nameSize iM_fault iM_place iM_trouble rM_letters iM_failed iM_hasCourt rM_r rM_fresh rM_told rM_read rM_st rM_undone rM_kept iM_undos iM_images rM_fresher iM_fresherSize iM_scale iM_night rM_heardRow rM_cutRow iM_breaths iM_cutMany iM_allBreaths rM_trial rM_words iM_fewestBreaths iM_orderMany iM_orderSum iM_leastOrder rM_often iM_setMany iM_someOf iM_allOf iM_allWeight iM_enoughWeight iM_worthSum iM_firstRest iM_leastDrawn), (arI rM_tape kM_tape 900 fM_tape), (arI rM_letters kM_letters 8 fM_letters), (arI rM_fresh kM_fresh 287 fM_fresh), (arI rM_read kM_read 90 fM_read), (arI rM_fresher kM_fresher 8 fM_fresher)] s.heap.size = A at hD hE ⊢
  have hA : ∀ q : Nat, s.heap.size ≤ q → A q := fun q h => by rw [← hAe]; exact Or.inr h
  have hS : va_S A s.heap s.heap [] := va_S.rf
  have hl := lv_entry ([.ref oM]) (n := 1) (Nat.le_of_ble_eq_true rfl)
  rw [lg_entry_eq]
  generalize (lg_sl ([.ref oM]) ++ List.replicate (1 - (lg_sl ([.ref oM])).length) Slot.unset).toArray = ls at hl ⊢
  have hl : lv_has ls 1 [(0, .ref oM)] := hl
  have hG := PX7_newName_eq fM_tape iM_size iM_at iM_end iM_token iM_whole iM_nameSize iM_fault iM_place fM_letters iM_failed fM_fresh fM_fresher iM_fresherSize
  have pl_fM_fresh := r_P.lins
  refine lv_aload_n hx hb dX7_newName_0 rfl (lv_at hl 0 rfl) ?_
  refine va_get (D := (dC, dI)) (ci := 7) (v := .int iM_failed) (C := RX7) (T := TX7) (N := 48) hx hb hts inX7 hown hK hP 0 rfl rfl 13 (by decide) (hts _ wd_380) (fun _ h9 => h9) rfl dX7_newName_1 ?_
  refine lv_if_eq (tgt := 8) hx hb dX7_newName_4 (by decide) (fun c_5209 => ?_) (fun c_5209 => ?_)
  · skip
    have hG := hG.trans (if_pos c_5209)
    have gc_5209 := ti_eq c_5209 rfl kc_0
    refine lv_aload_n hx hb dX7_newName_8 rfl (lv_at hl 0 rfl) ?_
    have hFc := va_free (wc := [(oc7 oM iM_thrown rM_tape iM_taped iM_size iM_at iM_end iM_token iM_whole iM_nameSize iM_fault iM_place iM_trouble rM_letters iM_failed iM_hasCourt rM_r rM_fresh rM_told rM_read rM_st rM_undone rM_kept iM_undos iM_images rM_fresher iM_fresherSize iM_scale iM_night rM_heardRow rM_cutRow iM_breaths iM_cutMany iM_allBreaths rM_trial rM_words iM_fewestBreaths iM_orderMany iM_orderSum iM_leastOrder rM_often iM_setMany iM_someOf iM_allOf iM_allWeight iM_enoughWeight iM_worthSum iM_firstRest iM_leastDrawn), (arI rM_letters kM_letters 8 fM_letters)]) hD hS hA [0, 2] rfl
    refine va_callv (va_runV (As := []) (rest := []) ⟨hx, hb, hml, hown, hts⟩ (tX7_mustName l dC dI _ oM iM_thrown rM_tape iM_taped iM_size iM_at iM_end iM_token iM_whole iM_nameSize iM_fault iM_place iM_trouble rM_letters fM_letters kM_letters iM_failed iM_hasCourt rM_r rM_fresh rM_told rM_read rM_st rM_undone rM_kept iM_undos iM_images rM_fresher iM_fresherSize iM_scale iM_night rM_heardRow rM_cutRow iM_breaths iM_cutMany iM_allBreaths rM_trial rM_words iM_fewestBreaths iM_orderMany iM_orderSum iM_leastOrder rM_often iM_setMany iM_someOf iM_allOf iM_allWeight iM_enoughWeight iM_worthSum iM_firstRest iM_leastDrawn (by first | omega | decide) (by first | omega | decide) (by first | omega | decide) (by first | omega | decide) (by first | omega | decide) (by first | omega | decide) (by first | omega | decide) (by first | omega | decide) (by first | omega | decide) (by first | omega | decide) (by first | omega | decide) (by first | assumption | exact (fun h9 => by have q0 := kc_0; have q1 := kc_1; omega))) (cwV 0 hts (wd_V wd_467 wd_468 wd_469 wd_5 (wd_c wd_470)) rfl rfl rfl (by decide +kernel) ⟨Nat.le_of_ble_eq_true rfl, Nat.le_of_ble_eq_true rfl⟩) ⟨Pw.fb, va_recv hK hP (ci := 7) (q0 := 0) rfl rfl, fun U hU hW => Pw.to (hP.sub [0, 2] rfl) (hD.sub [0, 2] (by decide) rfl) (hK.sub [1] rfl) hE hS hFc hU hW⟩ rfl rfl hl.1 rfl (lv_room (Nat.le_of_ble_eq_true rfl)) dX7_newName_9 ⟨Nat.le_of_ble_eq_true rfl, Nat.le_of_ble_eq_true rfl⟩) hS (fun q _ h => hFc q h) hFc (fun u t H locs ht hvm hw hB hz1 hk1 hS => ?_)
    obtain ⟨x_5210, x_5211, x_5212, b_x_5212, e_x_5210_0, e_x_5210_1, e_x_5210_2, hB⟩ := hB
    obtain ⟨hP, hD, hK⟩ := Bw.go (ws' := [(arI rM_tape kM_tape 900 fM_tape), (arI rM_fresh kM_fresh 287 fM_fresh), (arI rM_read kM_read 90 fM_read), (arI rM_fresher kM_fresher 8 fM_fresher), (oc7 oM iM_thrown rM_tape iM_taped iM_size iM_at iM_end iM_token iM_whole iM_nameSize x_5210 x_5211 iM_trouble rM_letters x_5212 iM_hasCourt rM_r rM_fresh rM_told rM_read rM_st rM_undone rM_kept iM_undos iM_images rM_fresher iM_fresherSize iM_scale iM_night rM_heardRow rM_cutRow iM_breaths iM_cutMany iM_allBreaths rM_trial rM_words iM_fewestBreaths iM_orderMany iM_orderSum iM_leastOrder rM_often iM_setMany iM_someOf iM_allOf iM_allWeight iM_enoughWeight iM_worthSum iM_firstRest iM_leastDrawn), (arI rM_letters kM_letters 8 fM_letters)]) (tys' := [(kM_tape, .int), (kM_fresh, .int), (kM_read, .int), (kM_fresher, .int), (kM_letters, .int)]) hB rfl ht hvm hP hD hK [0, 2] [1, 3, 4, 5] rfl (by decide) (by decide) [0, 2, 3, 4] hk1 hFc rfl rfl rfl
    clear hz1 hk1 hvm ht hB
    have hG := hG.trans (un3_eq e_x_5210_2)
    refine lv_aload_n hx hb dX7_newName_12 rfl (lv_at hl 0 rfl) ?_
    refine va_get (D := (dC, dI)) (ci := 7) (v := .int x_5212) (C := RX7) (T := TX7) (N := 48) hx hb hts inX7 hown hK hP 4 rfl rfl 13 (by decide) (hts _ wd_380) (fun _ h9 => h9) rfl dX7_newName_13 ?_
    refine lv_if_ne (tgt := 35) hx hb dX7_newName_16 (by decide) (fun c_5213 => ?_) (fun c_5213 => ?_)
    · skip
      have hG := hG.trans (if_neg c_5213)
      have gc_5213 := ti_ne c_5213 rfl kc_0
      replace gc_5213 : (-1) * x_5212.toInt + 1 ≤ 0 := by omega
      clear e_x_5210_1
      refine lv_aload_n hx hb dX7_newName_35 rfl (lv_at hl 0 rfl) ?_
      refine va_get (D := (dC, dI)) (ci := 7) (v := .int x_5212) (C := RX7) (T := TX7) (N := 48) hx hb hts inX7 hown hK hP 4 rfl rfl 13 (by decide) (hts _ wd_380) (fun _ h9 => h9) rfl dX7_newName_36 ?_
      refine lv_if_eq (tgt := 43) hx hb dX7_newName_39 (by decide) (fun c_5214 => ?_) (fun c_5214 => ?_)
      · skip
        have hG := hG.trans (if_pos c_5214)
        have gc_5214 := ti_eq c_5214 rfl kc_0
        exfalso; clear hG; omega
      · skip
        have hG := hG.trans (if_neg c_5214)
        have gc_5214 := ti_ne c_5214 rfl kc_0
        replace gc_5214 : (-1) * x_5212.toInt + 1 ≤ 0 := by omega
        exact W.vret hx hb hr (fun t ht hW => ⟨⟨0, rfl, trivial, ⟨iM_at, iM_end, iM_token, iM_whole, iM_nameSize, x_5210, x_5211, x_5212, iM_fresherSize, fM_letters, fM_fresher, (by omega), (by omega), b_x_5212, (by first | assumption | (have q0 := kc_0; have q1 := kc_1; omega)), r_T, (by first | assumption | (have q0 := kc_0; have q1 := kc_1; omega)), (fun h9 => by have q0 := kc_0; have q1 := kc_1; omega), hG, Bw.to (hP.sub [4, 0, 5, 1, 2, 3] rfl) (hD.sub [4, 0, 5, 1, 2, 3] (by decide) rfl) (hK.sub [0, 4, 1, 2, 3] rfl) ht hW⟩⟩, hS.F ht⟩) hS.2.2 dX7_newName_42
    · skip
      have hG := hG.trans (if_pos c_5213)
      have gc_5213 := ti_eq c_5213 rfl kc_0
      have h_5215 := e_x_5210_1 (by omega)
      clear e_x_5210_1
      have h_5216 := r_T (by omega)
      clear r_T
      refine lv_aload_n hx hb dX7_newName_19 rfl (lv_at hl 0 rfl) ?_
      have hFc := va_free (wc := [(oc7 oM iM_thrown rM_tape iM_taped iM_size iM_at iM_end iM_token iM_whole iM_nameSize x_5210 x_5211 iM_trouble rM_letters x_5212 iM_hasCourt rM_r rM_fresh rM_told rM_read rM_st rM_undone rM_kept iM_undos iM_images rM_fresher iM_fresherSize iM_scale iM_night rM_heardRow rM_cutRow iM_breaths iM_cutMany iM_allBreaths rM_trial rM_words iM_fewestBreaths iM_orderMany iM_orderSum iM_leastOrder rM_often iM_setMany iM_someOf iM_allOf iM_allWeight iM_enoughWeight iM_worthSum iM_firstRest iM_leastDrawn), (arI rM_letters kM_letters 8 fM_letters), (arI rM_fresh kM_fresh 287 fM_fresh), (arI rM_read kM_read 90 fM_read)]) hD hS hA [4, 5, 1, 2] rfl
      refine va_calli (va_runV (As := []) (rest := []) ⟨hx, hb, hml, hown, hts⟩ (tX7_find l dC dI _ oM iM_thrown rM_tape iM_taped iM_size iM_at iM_end iM_token iM_whole iM_nameSize x_5210 x_5211 iM_trouble rM_letters fM_letters kM_letters x_5212 iM_hasCourt rM_r rM_fresh fM_fresh kM_fresh rM_told rM_read fM_read kM_read rM_st rM_undone rM_kept iM_undos iM_images rM_fresher iM_fresherSize iM_scale iM_night rM_heardRow rM_cutRow iM_breaths iM_cutMany iM_allBreaths rM_trial rM_words iM_fewestBreaths iM_orderMany iM_orderSum iM_leastOrder rM_often iM_setMany iM_someOf iM_allOf iM_allWeight iM_enoughWeight iM_worthSum iM_firstRest iM_leastDrawn (by first | omega | decide) (by first | omega | decide) (by first | omega | decide) (by first | omega | decide) (by first | exact b_x_5212 | omega | decide) (by first | omega | decide) (by first | omega | decide) (by first | omega | decide) (by first | omega | decide) (by first | omega | decide) (by first | omega | decide) (by first | assumption | exact (fun h9 => by have q0 := kc_0; have q1 := kc_1; omega)) (by assumption) (by first | omega | decide | assumption | (have q0 := kc_0; have q1 := kc_1; omega) | (intro h; exact absurd h (by decide)))) (cwV 0 hts (wd_V wd_471 wd_472 wd_473 wd_5 (wd_c wd_474)) rfl rfl rfl (by decide +kernel) ⟨Nat.le_of_ble_eq_true rfl, Nat.le_of_ble_eq_true rfl⟩) ⟨Pw.fb, va_recv hK hP (ci := 7) (q0 := 4) rfl rfl, fun U hU hW => Pw.to (hP.sub [4, 5, 1, 2] rfl) (hD.sub [4, 5, 1, 2] (by decide) rfl) (hK.sub [4, 1, 2] rfl) hE hS hFc hU hW⟩ rfl rfl hl.1 rfl (lv_room (Nat.le_of_ble_eq_true rfl)) dX7_newName_20 ⟨Nat.le_of_ble_eq_true rfl, Nat.le_of_ble_eq_true rfl⟩) hS (fun q _ h => hFc q h) hFc (fun r u t H locs ht hvm hw hB hz1 hk1 hS => ?_)
      have hru9 := hw.2
      have hw := hw.1
      obtain ⟨hP, hD, hK⟩ := Bw.go (ws' := [(arI rM_tape kM_tape 900 fM_tape), (arI rM_fresher kM_fresher 8 fM_fresher), (oc7 oM iM_thrown rM_tape iM_taped iM_size iM_at iM_end iM_token iM_whole iM_nameSize x_5210 x_5211 iM_trouble rM_letters x_5212 iM_hasCourt rM_r rM_fresh rM_told rM_read rM_st rM_undone rM_kept iM_undos iM_images rM_fresher iM_fresherSize iM_scale iM_night rM_heardRow rM_cutRow iM_breaths iM_cutMany iM_allBreaths rM_trial rM_words iM_fewestBreaths iM_orderMany iM_orderSum iM_leastOrder rM_often iM_setMany iM_someOf iM_allOf iM_allWeight iM_enoughWeight iM_worthSum iM_firstRest iM_leastDrawn), (arI rM_letters kM_letters 8 fM_letters), (arI rM_fresh kM_fresh 287 fM_fresh), (arI rM_read kM_read 90 fM_read)]) (tys' := [(kM_tape, .int), (kM_fresher, .int), (kM_letters, .int), (kM_fresh, .int), (kM_read, .int)]) hB rfl ht hvm hP hD hK [4, 5, 1, 2] [0, 3] rfl (by decide) (by decide) [0, 3] hk1 hFc rfl rfl rfl
      clear hz1 hk1 hvm ht hB
      obtain ⟨x_5217, rfl⟩ : ∃ z, z = r := ⟨_, rfl⟩
      have hG := hG.trans (lt_eq hru9.symm)
      have lx_5217 := hw.2
      have ux_5217 := hw.2
      refine lv_if_lt (tgt := 35) hx hb dX7_newName_23 (by decide) (fun c_5218 => ?_) (fun c_5218 => ?_)
      · skip
        have hG := hG.trans (if_pos c_5218)
        have gc_5218 := ti_lt c_5218 rfl kc_0
        refine lv_aload_n hx hb dX7_newName_35 rfl (lv_at hl 0 rfl) ?_
        refine va_get (D := (dC, dI)) (ci := 7) (v := .int x_5212) (C := RX7) (T := TX7) (N := 48) hx hb hts inX7 hown hK hP 2 rfl rfl 13 (by decide) (hts _ wd_380) (fun _ h9 => h9) rfl dX7_newName_36 ?_
        refine lv_if_eq (tgt := 43) hx hb dX7_newName_39 (by decide) (fun c_5219 => ?_) (fun c_5219 => ?_)
        · skip
          have hG := hG.trans (if_pos c_5219)
          have gc_5219 := ti_eq c_5219 rfl kc_0
          refine lv_aload_n hx hb dX7_newName_43 rfl (lv_at hl 0 rfl) ?_
          refine va_get (D := (dC, dI)) (ci := 7) (v := .ref rM_letters) (C := RX7) (T := TX7) (N := 48) hx hb hts inX7 hown hK hP 2 rfl rfl 12 (by decide) (hts _ wd_154) (fun _ h9 => h9) rfl dX7_newName_44 ?_
          refine lv_iconst (v := 0) hx hb dX7_newName_47 (by decide) ?_
          refine lv_aload_n hx hb dX7_newName_48 rfl (lv_at hl 0 rfl) ?_
          refine va_get (D := (dC, dI)) (ci := 7) (v := .ref rM_fresher) (C := RX7) (T := TX7) (N := 48) hx hb hts inX7 hown hK hP 2 rfl rfl 24 (by decide) (hts _ wd_162) (fun _ h9 => h9) rfl dX7_newName_49 ?_
          refine lv_iconst (v := 0) hx hb dX7_newName_52 (by decide) ?_
          refine lv_bipush (v := 8) hx hb dX7_newName_53 (by decide) ?_
          have hFc := va_free (wc := [(arI rM_letters kM_letters 8 fM_letters), (arI rM_fresher kM_fresher 8 fM_fresher)]) hD hS hA [3, 1] rfl
          refine va_callv (va_runS (As := [.ref rM_letters, .int 0, .ref rM_fresher, .int 0, .int 8]) (rest := []) ⟨hx, hb, hml, hown, hts⟩ (tX7_copy_8_8 l dC dI _ rM_letters fM_letters kM_letters rM_fresher fM_fresher kM_fresher 0 0 8 (by first | omega | decide | assumption | (have q0 := kc_0; have q1 := kc_1; have q2 := kc_8; omega) | (intro h; exact absurd h (by decide))) (by first | omega | decide | assumption | (have q0 := kc_0; have q1 := kc_1; have q2 := kc_8; omega) | (intro h; exact absurd h (by decide))) (by first | omega | decide | assumption | (have q0 := kc_0; have q1 := kc_1; have q2 := kc_8; omega) | (intro h; exact absurd h (by decide)))) (va_cwS 5 hts (wd_S wd_475 wd_476 wd_5 (wd_c wd_477)) rfl rfl rfl (by decide +kernel) ⟨Nat.le_of_ble_eq_true rfl, Nat.le_of_ble_eq_true rfl⟩) ⟨Pw.fb, fun U hU hW => Pw.to (hP.sub [3, 1] rfl) (hD.sub [3, 1] (by decide) rfl) (hK.sub [2, 1] rfl) hE hS hFc hU hW⟩ rfl rfl hl.1 rfl (lv_room (Nat.le_of_ble_eq_true rfl)) dX7_newName_55 ⟨Nat.le_of_ble_eq_true rfl, Nat.le_of_ble_eq_true rfl⟩) hS (fun q _ h => hFc q h) hFc (fun u t H locs ht hvm hw hB hz1 hk1 hS => ?_)
          obtain ⟨f_5220, e_f_5220_0, hB⟩ := hB
          obtain ⟨hP, hD, hK⟩ := Bw.go (ws' := [(arI rM_tape kM_tape 900 fM_tape), (oc7 oM iM_thrown rM_tape iM_taped iM_size iM_at iM_end iM_token iM_whole iM_nameSize x_5210 x_5211 iM_trouble rM_letters x_5212 iM_hasCourt rM_r rM_fresh rM_told rM_read rM_st rM_undone rM_kept iM_undos iM_images rM_fresher iM_fresherSize iM_scale iM_night rM_heardRow rM_cutRow iM_breaths iM_cutMany iM_allBreaths rM_trial rM_words iM_fewestBreaths iM_orderMany iM_orderSum iM_leastOrder rM_often iM_setMany iM_someOf iM_allOf iM_allWeight iM_enoughWeight iM_worthSum iM_firstRest iM_leastDrawn), (arI rM_fresh kM_fresh 287 fM_fresh), (arI rM_read kM_read 90 fM_read), (arI rM_letters kM_letters 8 fM_letters), (arI rM_fresher kM_fresher 8 f_5220)]) (tys' := [(kM_tape, .int), (kM_fresh, .int), (kM_read, .int), (kM_letters, .int), (kM_fresher, .int)]) hB rfl ht hvm hP hD hK [3, 1] [0, 2, 4, 5] rfl (by decide) (by decide) [0, 3, 4] hk1 hFc rfl rfl rfl
          clear hz1 hk1 hvm ht hB
          have hG := hG.trans (lt_eq (CopyOk.fn e_f_5220_0).symm)
          refine lv_aload_n hx hb dX7_newName_58 rfl (lv_at hl 0 rfl) ?_
          refine lv_aload_n hx hb dX7_newName_59 rfl (lv_at hl 0 rfl) ?_
          refine va_get (D := (dC, dI)) (ci := 7) (v := .int iM_nameSize) (C := RX7) (T := TX7) (N := 48) hx hb hts inX7 hown hK hP 1 rfl rfl 8 (by decide) (hts _ wd_404) (fun _ h9 => h9) rfl dX7_newName_60 ?_
          refine va_put (D := (dC, dI)) (ci := 7) (v := .int iM_nameSize) (ty := .int) (C := RX7) (T := TX7) (N := 48) hx hb hts inX7 tyX7 tyX7_ok nmX7 hown hK hP hD hS 1 rfl rfl 25 (by decide) (hts _ wd_466) (fun _ h9 => h9) rfl (by decide +kernel) rfl rfl (Nat.le_of_ble_eq_true rfl) dX7_newName_63 (fun H locs hP hD hS => ?_)
          obtain ⟨hP, hD⟩ := wl2 (ws' := [(arI rM_tape kM_tape 900 fM_tape), (oc7 oM iM_thrown rM_tape iM_taped iM_size iM_at iM_end iM_token iM_whole iM_nameSize x_5210 x_5211 iM_trouble rM_letters x_5212 iM_hasCourt rM_r rM_fresh rM_told rM_read rM_st rM_undone rM_kept iM_undos iM_images rM_fresher iM_nameSize iM_scale iM_night rM_heardRow rM_cutRow iM_breaths iM_cutMany iM_allBreaths rM_trial rM_words iM_fewestBreaths iM_orderMany iM_orderSum iM_leastOrder rM_often iM_setMany iM_someOf iM_allOf iM_allWeight iM_enoughWeight iM_worthSum iM_firstRest iM_leastDrawn), (arI rM_fresh kM_fresh 287 fM_fresh), (arI rM_read kM_read 90 fM_read), (arI rM_letters kM_letters 8 fM_letters), (arI rM_fresher kM_fresher 8 f_5220)]) hP hD rfl
          refine lv_aload_n hx hb dX7_newName_66 rfl (lv_at hl 0 rfl) ?_
          have hFc := va_free (wc := [(oc7 oM iM_thrown rM_tape iM_taped iM_size iM_at iM_end iM_token iM_whole iM_nameSize x_5210 x_5211 iM_trouble rM_letters x_5212 iM_hasCourt rM_r rM_fresh rM_told rM_read rM_st rM_undone rM_kept iM_undos iM_images rM_fresher iM_nameSize iM_scale iM_night rM_heardRow rM_cutRow iM_breaths iM_cutMany iM_allBreaths rM_trial rM_words iM_fewestBreaths iM_orderMany iM_orderSum iM_leastOrder rM_often iM_setMany iM_someOf iM_allOf iM_allWeight iM_enoughWeight iM_worthSum iM_firstRest iM_leastDrawn), (arI rM_tape kM_tape 900 fM_tape), (arI rM_letters kM_letters 8 fM_letters)]) hD hS hA [1, 0, 4] rfl
          refine va_callv (va_runV (As := []) (rest := []) ⟨hx, hb, hml, hown, hts⟩ (tX7_next l dC dI _ oM iM_thrown rM_tape fM_tape kM_tape iM_taped iM_size iM_at iM_end iM_token iM_whole iM_nameSize x_5210 x_5211 iM_trouble rM_letters fM_letters kM_letters x_5212 iM_hasCourt rM_r rM_fresh rM_told rM_read rM_st rM_undone rM_kept iM_undos iM_images rM_fresher iM_nameSize iM_scale iM_night rM_heardRow rM_cutRow iM_breaths iM_cutMany iM_allBreaths rM_trial rM_words iM_fewestBreaths iM_orderMany iM_orderSum iM_leastOrder rM_often iM_setMany iM_someOf iM_allOf iM_allWeight iM_enoughWeight iM_worthSum iM_firstRest iM_leastDrawn (by first | omega | decide) (by first | omega | decide) (by first | omega | decide) (by first | omega | decide) (by first | exact b_x_5212 | omega | decide) (by first | omega | decide) (by first | omega | decide) (by first | omega | decide) (by first | omega | decide) (by first | omega | decide) (by first | omega | decide) (by first | assumption | exact (fun h9 => by have q0 := kc_0; have q1 := kc_1; omega))) (cwV 0 hts (wd_V wd_400 wd_401 wd_402 wd_5 (wd_c wd_403)) rfl rfl rfl (by decide +kernel) ⟨Nat.le_of_ble_eq_true rfl, Nat.le_of_ble_eq_true rfl⟩) ⟨Pw.fb, va_recv hK hP (ci := 7) (q0 := 1) rfl rfl, fun U hU hW => Pw.to (hP.sub [1, 0, 4] rfl) (hD.sub [1, 0, 4] (by decide) rfl) (hK.sub [0, 3] rfl) hE hS hFc hU hW⟩ rfl rfl hl.1 rfl (lv_room (Nat.le_of_ble_eq_true rfl)) dX7_newName_67 ⟨Nat.le_of_ble_eq_true rfl, Nat.le_of_ble_eq_true rfl⟩) hS (fun q _ h => hFc q h) hFc (fun u t H locs ht hvm hw hB hz1 hk1 hS => ?_)
          obtain ⟨x_5221, x_5222, x_5223, x_5224, x_5225, f_5226, b_x_5222, b_x_5225, e_x_5221_0, e_x_5221_1, e_x_5221_2, e_x_5221_3, hB⟩ := hB
          obtain ⟨hP, hD, hK⟩ := Bw.go (ws' := [(arI rM_fresh kM_fresh 287 fM_fresh), (arI rM_read kM_read 90 fM_read), (arI rM_fresher kM_fresher 8 f_5220), (oc7 oM iM_thrown rM_tape iM_taped iM_size x_5221 x_5222 x_5223 x_5224 x_5225 x_5210 x_5211 iM_trouble rM_letters x_5212 iM_hasCourt rM_r rM_fresh rM_told rM_read rM_st rM_undone rM_kept iM_undos iM_images rM_fresher iM_nameSize iM_scale iM_night rM_heardRow rM_cutRow iM_breaths iM_cutMany iM_allBreaths rM_trial rM_words iM_fewestBreaths iM_orderMany iM_orderSum iM_leastOrder rM_often iM_setMany iM_someOf iM_allOf iM_allWeight iM_enoughWeight iM_worthSum iM_firstRest iM_leastDrawn), (arI rM_tape kM_tape 900 fM_tape), (arI rM_letters kM_letters 8 f_5226)]) (tys' := [(kM_fresh, .int), (kM_read, .int), (kM_fresher, .int), (kM_tape, .int), (kM_letters, .int)]) hB rfl ht hvm hP hD hK [1, 0, 4] [2, 3, 5] rfl (by decide) (by decide) [1, 2, 4] hk1 hFc rfl rfl rfl
          clear hz1 hk1 hvm ht hB
          have hG := hG.trans (un6_eq e_x_5221_3)
          exact W.vret hx hb hr (fun t ht hW => ⟨⟨0, rfl, trivial, ⟨x_5221, x_5222, x_5223, x_5224, x_5225, x_5210, x_5211, x_5212, iM_nameSize, f_5226, f_5220, b_x_5222, b_x_5225, b_x_5212, (by first | assumption | (have q0 := kc_0; have q1 := kc_1; omega)), e_x_5221_1, (by first | assumption | (have q0 := kc_0; have q1 := kc_1; omega)), (fun h9 => by have q0 := kc_0; have q1 := kc_1; have q9 := e_x_5221_2 (by omega); omega), hG, Bw.to (hP.sub [3, 4, 5, 0, 1, 2] rfl) (hD.sub [3, 4, 5, 0, 1, 2] (by decide) rfl) (hK.sub [3, 4, 0, 1, 2] rfl) ht hW⟩⟩, hS.F ht⟩) hS.2.2 dX7_newName_70
        · skip
          have hG := hG.trans (if_neg c_5219)
          have gc_5219 := ti_ne c_5219 rfl kc_0
          replace gc_5219 : x_5212.toInt + 1 ≤ 0 := by omega
          exfalso; clear hG; omega
      · skip
        have hG := hG.trans (if_neg c_5218)
        have gc_5218 := ti_nlt c_5218 rfl kc_0
        refine lv_aload_n hx hb dX7_newName_26 rfl (lv_at hl 0 rfl) ?_
        refine lv_iconst (v := 3) hx hb dX7_newName_27 (by decide) ?_
        refine lv_aload_n hx hb dX7_newName_28 rfl (lv_at hl 0 rfl) ?_
        refine va_get (D := (dC, dI)) (ci := 7) (v := .int iM_at) (C := RX7) (T := TX7) (N := 48) hx hb hts inX7 hown hK hP 2 rfl rfl 4 (by decide) (hts _ wd_384) (fun _ h9 => h9) rfl dX7_newName_29 ?_
        have hFc := va_free (wc := [(oc7 oM iM_thrown rM_tape iM_taped iM_size iM_at iM_end iM_token iM_whole iM_nameSize x_5210 x_5211 iM_trouble rM_letters x_5212 iM_hasCourt rM_r rM_fresh rM_told rM_read rM_st rM_undone rM_kept iM_undos iM_images rM_fresher iM_fresherSize iM_scale iM_night rM_heardRow rM_cutRow iM_breaths iM_cutMany iM_allBreaths rM_trial rM_words iM_fewestBreaths iM_orderMany iM_orderSum iM_leastOrder rM_often iM_setMany iM_someOf iM_allOf iM_allWeight iM_enoughWeight iM_worthSum iM_firstRest iM_leastDrawn)]) hD hS hA [2] rfl
        refine va_callv (va_runV (As := [.int 3, .int iM_at]) (rest := []) ⟨hx, hb, hml, hown, hts⟩ (tX7_wrong l dC dI _ oM iM_thrown rM_tape iM_taped iM_size iM_at iM_end iM_token iM_whole iM_nameSize x_5210 x_5211 iM_trouble rM_letters x_5212 iM_hasCourt rM_r rM_fresh rM_told rM_read rM_st rM_undone rM_kept iM_undos iM_images rM_fresher iM_fresherSize iM_scale iM_night rM_heardRow rM_cutRow iM_breaths iM_cutMany iM_allBreaths rM_trial rM_words iM_fewestBreaths iM_orderMany iM_orderSum iM_leastOrder rM_often iM_setMany iM_someOf iM_allOf iM_allWeight iM_enoughWeight iM_worthSum iM_firstRest iM_leastDrawn 3 iM_at (by first | omega | decide) (by first | omega | decide) (by first | omega | decide) (by first | omega | decide) (by first | exact b_x_5212 | omega | decide) (by first | omega | decide) (by first | omega | decide) (by first | omega | decide) (by first | omega | decide) (by first | omega | decide) (by first | omega | decide) (by first | assumption | exact (fun h9 => by have q0 := kc_0; have q1 := kc_1; omega))) (cwV 2 hts (wd_V wd_430 wd_431 wd_432 wd_5 (wd_c wd_433)) rfl rfl rfl (by decide +kernel) ⟨Nat.le_of_ble_eq_true rfl, Nat.le_of_ble_eq_true rfl⟩) ⟨Pw.fb, va_recv hK hP (ci := 7) (q0 := 2) rfl rfl, fun U hU hW => Pw.to (hP.sub [2] rfl) (hD.sub [2] (by decide) rfl) (hK.sub [] rfl) hE hS hFc hU hW⟩ rfl rfl hl.1 rfl (lv_room (Nat.le_of_ble_eq_true rfl)) dX7_newName_32 ⟨Nat.le_of_ble_eq_true rfl, Nat.le_of_ble_eq_true rfl⟩) hS (fun q _ h => hFc q h) hFc (fun u t H locs ht hvm hw hB hz1 hk1 hS => ?_)
        obtain ⟨x_5227, x_5228, x_5229, b_x_5229, e_x_5227_0, e_x_5227_1, hB⟩ := hB
        obtain ⟨hP, hD, hK⟩ := Bw.go (ws' := [(arI rM_tape kM_tape 900 fM_tape), (arI rM_fresher kM_fresher 8 fM_fresher), (arI rM_letters kM_letters 8 fM_letters), (arI rM_fresh kM_fresh 287 fM_fresh), (arI rM_read kM_read 90 fM_read), (oc7 oM iM_thrown rM_tape iM_taped iM_size iM_at iM_end iM_token iM_whole iM_nameSize x_5227 x_5228 iM_trouble rM_letters x_5229 iM_hasCourt rM_r rM_fresh rM_told rM_read rM_st rM_undone rM_kept iM_undos iM_images rM_fresher iM_fresherSize iM_scale iM_night rM_heardRow rM_cutRow iM_breaths iM_cutMany iM_allBreaths rM_trial rM_words iM_fewestBreaths iM_orderMany iM_orderSum iM_leastOrder rM_often iM_setMany iM_someOf iM_allOf iM_allWeight iM_enoughWeight iM_worthSum iM_firstRest iM_leastDrawn)]) (tys' := [(kM_tape, .int), (kM_fresher, .int), (kM_letters, .int), (kM_fresh, .int), (kM_read, .int)]) hB rfl ht hvm hP hD hK [2] [0, 1, 3, 4, 5] rfl (by decide) (by decide) [0, 1, 2, 3, 4] hk1 hFc rfl rfl rfl
        clear hz1 hk1 hvm ht hB
        have hG := hG.trans (un3_eq e_x_5227_1)
        refine lv_aload_n hx hb dX7_newName_35 rfl (lv_at hl 0 rfl) ?_
        refine va_get (D := (dC, dI)) (ci := 7) (v := .int x_5229) (C := RX7) (T := TX7) (N := 48) hx hb hts inX7 hown hK hP 5 rfl rfl 13 (by decide) (hts _ wd_380) (fun _ h9 => h9) rfl dX7_newName_36 ?_
        refine lv_if_eq (tgt := 43) hx hb dX7_newName_39 (by decide) (fun c_5230 => ?_) (fun c_5230 => ?_)
        · skip
          have hG := hG.trans (if_pos c_5230)
          have gc_5230 := ti_eq c_5230 rfl kc_0
          exfalso; clear hG; omega
        · skip
          have hG := hG.trans (if_neg c_5230)
          have gc_5230 := ti_ne c_5230 rfl kc_0
          replace gc_5230 : (-1) * x_5229.toInt + 1 ≤ 0 := by omega
          exact W.vret hx hb hr (fun t ht hW => ⟨⟨0, rfl, trivial, ⟨iM_at, iM_end, iM_token, iM_whole, iM_nameSize, x_5227, x_5228, x_5229, iM_fresherSize, fM_letters, fM_fresher, (by omega), (by omega), b_x_5229, (by first | assumption | (have q0 := kc_0; have q1 := kc_1; omega)), (by first | assumption | exact (fun h9 => by have q0 := kc_0; have q1 := kc_1; omega)), (by first | assumption | (have q0 := kc_0; have q1 := kc_1; omega)), (fun h9 => by have q0 := kc_0; have q1 := kc_1; omega), hG, Bw.to (hP.sub [5, 0, 2, 3, 4, 1] rfl) (hD.sub [5, 0, 2, 3, 4, 1] (by decide) rfl) (hK.sub [0, 2, 3, 4, 1] rfl) ht hW⟩⟩, hS.F ht⟩) hS.2.2 dX7_newName_42
  · skip
    have hG := hG.trans (if_neg c_5209)
    have gc_5209 := ti_ne c_5209 rfl kc_0
    replace gc_5209 : (-1) * iM_failed.toInt + 1 ≤ 0 := by omega
    exact W.vret hx hb hr (fun t ht hW => ⟨⟨0, rfl, trivial, ⟨iM_at, iM_end, iM_token, iM_whole, iM_nameSize, iM_fault, iM_place, iM_failed, iM_fresherSize, fM_letters, fM_fresher, (by omega), (by omega), (by omega), (by first | assumption | (have q0 := kc_0; have q1 := kc_1; omega)), r_T, (by first | assumption | (have q0 := kc_0; have q1 := kc_1; omega)), (fun h9 => by have q0 := kc_0; have q1 := kc_1; omega), hG, Bw.to (hP.sub [0, 1, 2, 3, 4, 5] rfl) (hD.sub [0, 1, 2, 3, 4, 5] (by decide) rfl) (hK.sub [0, 1, 2, 3, 4] rfl) ht hW⟩⟩, hS.F ht⟩) hS.2.2 dX7_newName_7
set_option maxHeartbeats 4000000 in
set_option maxRecDepth 100000 in
theorem tX7_lay (l : Launch) (dC : Nat → ClassId) (dI : Nat → Nat → Nat) (sz : Nat) (oM : Nat) (iM_thrown : Int32) (rM_tape : Nat) (iM_taped : Int32) (iM_size : Int32) (iM_at : Int32) (iM_end : Int32) (iM_token : Int32) (iM_whole : Int32) (iM_nameSize : Int32) (iM_fault : Int32) (iM_place : Int32) (iM_trouble : Int32) (rM_letters : Nat) (iM_failed : Int32) (iM_hasCourt : Int32) (rM_r : Nat) (rM_fresh : Nat) (fM_fresh : Nat → Int32) (kM_fresh : ClassId) (rM_told : Nat) (rM_read : Nat) (rM_st : Nat) (rM_undone : Nat) (rM_kept : Nat) (iM_undos : Int32) (iM_images : Int32) (rM_fresher : Nat) (fM_fresher : Nat → Int32) (kM_fresher : ClassId) (iM_fresherSize : Int32) (iM_scale : Int32) (iM_night : Int32) (rM_heardRow : Nat) (rM_cutRow : Nat) (iM_breaths : Int32) (iM_cutMany : Int32) (iM_allBreaths : Int32) (rM_trial : Nat) (rM_words : Nat) (iM_fewestBreaths : Int32) (iM_orderMany : Int32) (iM_orderSum : Int32) (iM_leastOrder : Int32) (rM_often : Nat) (iM_setMany : Int32) (iM_someOf : Int32) (iM_allOf : Int32) (iM_allWeight : Int64) (iM_enoughWeight : Int64) (iM_worthSum : Int64) (iM_firstRest : Int32) (iM_leastDrawn : Int32) (p0 : Int32) (b_iM_taped : 0 ≤ iM_taped.toInt ∧ iM_taped.toInt ≤ 900) (b_iM_size : 0 ≤ iM_size.toInt ∧ iM_size.toInt ≤ 900) (b_iM_end : 0 ≤ iM_end.toInt ∧ iM_end.toInt ≤ 900) (b_iM_nameSize : 0 ≤ iM_nameSize.toInt ∧ iM_nameSize.toInt ≤ 900) (b_iM_failed : 0 ≤ iM_failed.toInt ∧ iM_failed.toInt ≤ 1) (b_iM_hasCourt : 0 ≤ iM_hasCourt.toInt ∧ iM_hasCourt.toInt ≤ 1) (b_iM_undos : 0 ≤ iM_undos.toInt ∧ iM_undos.toInt ≤ 16) (b_iM_images : 0 ≤ iM_images.toInt ∧ iM_images.toInt ≤ 3) (b_iM_scale : 1 ≤ iM_scale.toInt ∧ iM_scale.toInt ≤ 1296) (b_iM_breaths : 0 ≤ iM_breaths.toInt ∧ iM_breaths.toInt ≤ 399) (b_iM_cutMany : 0 ≤ iM_cutMany.toInt ∧ iM_cutMany.toInt ≤ 399) (r_T : ImpP (iM_token.toInt = 2) (iM_nameSize.toInt ≤ 8)) (hnf : iM_failed.toInt ≤ 0) (hf1 : 0 ≤ (fM_fresh 1).toInt ∧ (fM_fresh 1).toInt ≤ 17) : Met l yX7_lay (Cond.code yX7_lay cX7_lay 3 none :: wG) ({ frames := 1, cells := 0, slots := 0, locals := 25 }) (va_Pc [.ref oM, .int p0] (Pw dC dI sz [(oc7 oM iM_thrown rM_tape iM_taped iM_size iM_at iM_end iM_token iM_whole iM_nameSize iM_fault iM_place iM_trouble rM_letters iM_failed iM_hasCourt rM_r rM_fresh rM_told rM_read rM_st rM_undone rM_kept iM_undos iM_images rM_fresher iM_fresherSize iM_scale iM_night rM_heardRow rM_cutRow iM_breaths iM_cutMany iM_allBreaths rM_trial rM_words iM_fewestBreaths iM_orderMany iM_orderSum iM_leastOrder rM_often iM_setMany iM_someOf iM_allOf iM_allWeight iM_enoughWeight iM_worthSum iM_firstRest iM_leastDrawn), (arI rM_fresh kM_fresh 287 fM_fresh), (arI rM_fresher kM_fresher 8 fM_fresher)] [(kM_fresh, .int), (kM_fresher, .int)])) (va_Qv (fun (_ : Nat) => True) (fun (_ : Nat) (t : State) => ∃ (nfM_fresh : Nat → Int32), (LayI fM_fresh p0 nfM_fresh) ∧ (PX7_lay iM_failed fM_fresh fM_fresher iM_fresherSize p0 = nfM_fresh) ∧ Bw dC dI (va_A [(oc7 oM iM_thrown rM_tape iM_taped iM_size iM_at iM_end iM_token iM_whole iM_nameSize iM_fault iM_place iM_trouble rM_letters iM_failed iM_hasCourt rM_r rM_fresh rM_told rM_read rM_st rM_undone rM_kept iM_undos iM_images rM_fresher iM_fresherSize iM_scale iM_night rM_heardRow rM_cutRow iM_breaths iM_cutMany iM_allBreaths rM_trial rM_words iM_fewestBreaths iM_orderMany iM_orderSum iM_leastOrder rM_often iM_setMany iM_someOf iM_allOf iM_allWeight iM_enoughWeight iM_worthSum iM_firstRest iM_leastDrawn), (arI rM_fresh kM_fresh 287 fM_fresh), (arI rM_fresher kM_fresher 8 fM_fresher)] sz) [(oc7 oM iM_thrown rM_tape iM_taped iM_size iM_at iM_end iM_token iM_whole iM_nameSize iM_fault iM_place iM_trouble rM_letters iM_failed iM_hasCourt rM_r rM_fresh rM_told rM_read rM_st rM_undone rM_kept iM_undos iM_images rM_fresher iM_fresherSize iM_scale iM_night rM_heardRow rM_cutRow iM_breaths iM_cutMany iM_allBreaths rM_trial rM_words iM_fewestBreaths iM_orderMany iM_orderSum iM_leastOrder rM_often iM_setMany iM_someOf iM_allOf iM_allWeight iM_enoughWeight iM_worthSum iM_firstRest iM_leastDrawn), (arI rM_fresh kM_fresh 287 nfM_fresh), (arI rM_fresher kM_fresher 8 fM_fresher)] [(kM_fresh, .int), (kM_fresher, .int)] t) (va_A [(oc7 oM iM_thrown rM_tape iM_taped iM_size iM_at iM_end iM_token iM_whole iM_nameSize iM_fault iM_place iM_trouble rM_letters iM_failed iM_hasCourt rM_r rM_fresh rM_told rM_read rM_st rM_undone rM_kept iM_undos iM_images rM_fresher iM_fresherSize iM_scale iM_night rM_heardRow rM_cutRow iM_breaths iM_cutMany iM_allBreaths rM_trial rM_words iM_fewestBreaths iM_orderMany iM_orderSum iM_leastOrder rM_often iM_setMany iM_someOf iM_allOf iM_allWeight iM_enoughWeight iM_worthSum iM_firstRest iM_leastDrawn), (arI rM_fresh kM_fresh 287 fM_fresh), (arI rM_fresher kM_fresher 8 fM_fresher)] sz)) 0 0 (va_A [(oc7 oM iM_thrown rM_tape iM_taped iM_size iM_at iM_end iM_token iM_whole iM_nameSize iM_fault iM_place iM_trouble rM_letters iM_failed iM_hasCourt rM_r rM_fresh rM_told rM_read rM_st rM_undone rM_kept iM_undos iM_images rM_fresher iM_fresherSize iM_scale iM_night rM_heardRow rM_cutRow iM_breaths iM_cutMany iM_allBreaths rM_trial rM_words iM_fewestBreaths iM_orderMany iM_orderSum iM_leastOrder rM_often iM_setMany iM_someOf iM_allOf iM_allWeight iM_enoughWeight iM_worthSum iM_firstRest iM_leastDrawn), (arI rM_fresh kM_fresh 287 fM_fresh), (arI rM_fresher kM_fresher 8 fM_fresher)] sz) := by
  refine Met.ofW (cc := cX7_lay) (maxL := 3) (ret := none) (by decide) rfl ?_
  intro p e s m args below meth c s₁ B hml hv
  obtain ⟨rfl, hsz, hP, hK, hD0, hE⟩ := hv
  have hx := B.exec
  have hb := B.bytes
  have hr := B.returns
  have hts : ∀ w ∈ wG, w.before ([.ref oM, .int p0] : List Value).toArray s = true := fun w h => atoms_spec (ws := Cond.code yX7_lay cX7_lay 3 none :: wG) B.pre w (List.mem_cons_of_mem _ h)
  have hown : s.vm.findClass RX7 = some m.cls := findClass_of_methodNamed B.named
  have hlocks := B.notSynchronized
  subst hsz
  have hD := hD0.self (sz := s.heap.size)
  generalize hAe : va_A [(oc7 oM iM_thrown rM_tape iM_taped iM_size iM_at iM_end iM_token iM_whole iM_nameSize iM_fault iM_place iM_trouble rM_letters iM_failed iM_hasCourt rM_r rM_fresh rM_told rM_read rM_st rM_undone rM_kept iM_undos iM_images rM_fresher iM_fresherSize iM_scale iM_night rM_heardRow rM_cutRow iM_breaths iM_cutMany iM_allBreaths rM_trial rM_words iM_fewestBreaths iM_orderMany iM_orderSum iM_leastOrder rM_often iM_setMany iM_someOf iM_allOf iM_allWeight iM_enoughWeight iM_worthSum iM_firstRest iM_leastDrawn), (arI rM_fresh kM_fresh 287 fM_fresh), (arI rM_fresher kM_fresher 8 fM_fresher)] s.heap.size = A at hD hE ⊢
  have hA : ∀ q : Nat, s.heap.size ≤ q → A q := fun q h => by rw [← hAe]; exact Or.inr h
  have hS : va_S A s.heap s.heap [] := va_S.rf
  have hl := lv_entry ([.ref oM, .int p0]) (n := 3) (Nat.le_of_ble_eq_true rfl)
  rw [lg_entry_eq]
  generalize (lg_sl ([.ref oM, .int p0]) ++ List.replicate (3 - (lg_sl ([.ref oM, .int p0])).length) Slot.unset).toArray = ls at hl ⊢
  have hl : lv_has ls 3 [(0, .ref oM), (1, .int p0)] := hl
  have hG := PX7_lay_eq iM_failed fM_fresh fM_fresher iM_fresherSize p0
  refine lv_aload_n hx hb dX7_lay_0 rfl (lv_at hl 0 rfl) ?_
  refine va_get (D := (dC, dI)) (ci := 7) (v := .int iM_failed) (C := RX7) (T := TX7) (N := 48) hx hb hts inX7 hown hK hP 0 rfl rfl 13 (by decide) (hts _ wd_380) (fun _ h9 => h9) rfl dX7_lay_1 ?_
  refine lv_if_eq (tgt := 8) hx hb dX7_lay_4 (by decide) (fun c_5243 => ?_) (fun c_5243 => ?_)
  · skip
    have hG := hG.trans (if_pos c_5243)
    have gc_5243 := ti_eq c_5243 rfl kc_0
    refine lv_aload_n hx hb dX7_lay_8 rfl (lv_at hl 0 rfl) ?_
    refine va_get (D := (dC, dI)) (ci := 7) (v := .ref rM_fresh) (C := RX7) (T := TX7) (N := 48) hx hb hts inX7 hown hK hP 0 rfl rfl 16 (by decide) (hts _ wd_156) (fun _ h9 => h9) rfl dX7_lay_9 ?_
    refine lv_iconst (v := 1) hx hb dX7_lay_12 (by decide) ?_
    refine va_iald hx hb hK hP 1 0 rfl rfl (by unfold vp_in; decide) dX7_lay_13 ?_
    refine lv_topi (fun x_5244 ex_5244 => ?_)
    have hG := hG.trans (lt_eq ex_5244)
    have cx_5244 : (fM_fresh 1).toInt = x_5244.toInt := congrArg Int32.toInt (show fM_fresh 1 = x_5244 from ex_5244.symm)
    refine lv_istore_n (lv' := [(2, .int x_5244), (0, .ref oM), (1, .int p0)]) hx hb dX7_lay_14 rfl hl (by decide) rfl (fun ls hl => ?_)
    refine lv_aload_n hx hb dX7_lay_15 rfl (lv_at hl 1 rfl) ?_
    refine va_get (D := (dC, dI)) (ci := 7) (v := .ref rM_fresher) (C := RX7) (T := TX7) (N := 48) hx hb hts inX7 hown hK hP 0 rfl rfl 24 (by decide) (hts _ wd_162) (fun _ h9 => h9) rfl dX7_lay_16 ?_
    refine lv_iconst (v := 0) hx hb dX7_lay_19 (by decide) ?_
    refine lv_aload_n hx hb dX7_lay_20 rfl (lv_at hl 1 rfl) ?_
    refine va_get (D := (dC, dI)) (ci := 7) (v := .ref rM_fresh) (C := RX7) (T := TX7) (N := 48) hx hb hts inX7 hown hK hP 0 rfl rfl 16 (by decide) (hts _ wd_156) (fun _ h9 => h9) rfl dX7_lay_21 ?_
    refine lv_sipush (v := 143) hx hb dX7_lay_24 (by decide) ?_
    refine lv_bipush (v := 8) hx hb dX7_lay_27 (by decide) ?_
    refine lv_iload_n hx hb dX7_lay_29 rfl (lv_at hl 0 rfl) ?_
    refine lv_imul hx hb dX7_lay_30 ?_
    refine lv_topi (fun x_5245 ex_5245 => ?_)
    have hG := hG.trans (lt_eq ex_5245)
    have vx_5245 : x_5245.toInt = 8 * x_5244.toInt := by have q := ti_mul ex_5245 kc_8 rfl (by omega) (by omega); omega
    refine lv_iadd hx hb dX7_lay_31 ?_
    refine lv_topi (fun x_5246 ex_5246 => ?_)
    have hG := hG.trans (lt_eq ex_5246)
    have vx_5246 : x_5246.toInt = 8 * x_5244.toInt + 143 := by have q := ti_add ex_5246 kc_143 vx_5245 (by omega) (by omega); omega
    refine lv_bipush (v := 8) hx hb dX7_lay_32 (by decide) ?_
    have hFc := va_free (wc := [(arI rM_fresher kM_fresher 8 fM_fresher), (arI rM_fresh kM_fresh 287 fM_fresh)]) hD hS hA [2, 1] rfl
    refine va_callv (va_runS (As := [.ref rM_fresher, .int 0, .ref rM_fresh, .int x_5246, .int 8]) (rest := []) ⟨hx, hb, hml, hown, hts⟩ (tX7_copy_8_287 l dC dI _ rM_fresher fM_fresher kM_fresher rM_fresh fM_fresh kM_fresh 0 x_5246 8 (by first | omega | decide | assumption | (have q0 := kc_0; have q1 := kc_1; have q2 := kc_8; omega) | (intro h; exact absurd h (by decide))) (by first | omega | decide | assumption | (have q0 := kc_0; have q1 := kc_1; have q2 := kc_8; omega) | (intro h; exact absurd h (by decide))) (by first | omega | decide | assumption | (have q0 := kc_0; have q1 := kc_1; have q2 := kc_8; omega) | (intro h; exact absurd h (by decide)))) (va_cwS 5 hts (wd_S wd_475 wd_476 wd_5 (wd_c wd_477)) rfl rfl rfl (by decide +kernel) ⟨Nat.le_of_ble_eq_true rfl, Nat.le_of_ble_eq_true rfl⟩) ⟨Pw.fb, fun U hU hW => Pw.to (hP.sub [2, 1] rfl) (hD.sub [2, 1] (by decide) rfl) (hK.sub [1, 0] rfl) hE hS hFc hU hW⟩ rfl rfl hl.1 rfl (lv_room (Nat.le_of_ble_eq_true rfl)) dX7_lay_34 ⟨Nat.le_of_ble_eq_true rfl, Nat.le_of_ble_eq_true rfl⟩) hS (fun q _ h => hFc q h) hFc (fun u t H locs ht hvm hw hB hz1 hk1 hS => ?_)
    obtain ⟨f_5247, e_f_5247_0, hB⟩ := hB
    obtain ⟨hP, hD, hK⟩ := Bw.go (ws' := [(oc7 oM iM_thrown rM_tape iM_taped iM_size iM_at iM_end iM_token iM_whole iM_nameSize iM_fault iM_place iM_trouble rM_letters iM_failed iM_hasCourt rM_r rM_fresh rM_told rM_read rM_st rM_undone rM_kept iM_undos iM_images rM_fresher iM_fresherSize iM_scale iM_night rM_heardRow rM_cutRow iM_breaths iM_cutMany iM_allBreaths rM_trial rM_words iM_fewestBreaths iM_orderMany iM_orderSum iM_leastOrder rM_often iM_setMany iM_someOf iM_allOf iM_allWeight iM_enoughWeight iM_worthSum iM_firstRest iM_leastDrawn), (arI rM_fresher kM_fresher 8 fM_fresher), (arI rM_fresh kM_fresh 287 f_5247)]) (tys' := [(kM_fresher, .int), (kM_fresh, .int)]) hB rfl ht hvm hP hD hK [2, 1] [0] rfl (by decide) (by decide) [] hk1 hFc rfl rfl rfl
    clear hz1 hk1 hvm ht hB
    have o1_f_5247 : (f_5247 1).toInt = (fM_fresh 1).toInt := by rw [e_f_5247_0 1, if_neg (by have q := ti_cl (x := x_5246) vx_5246 (by omega); omega)]
    have hG := hG.trans (lt_eq (CopyOk.fn e_f_5247_0).symm)
    refine lv_aload_n hx hb dX7_lay_37 rfl (lv_at hl 1 rfl) ?_
    refine va_get (D := (dC, dI)) (ci := 7) (v := .ref rM_fresh) (C := RX7) (T := TX7) (N := 48) hx hb hts inX7 hown hK hP 0 rfl rfl 16 (by decide) (hts _ wd_156) (fun _ h9 => h9) rfl dX7_lay_38 ?_
    refine lv_bipush (v := 125) hx hb dX7_lay_41 (by decide) ?_
    refine lv_iload_n hx hb dX7_lay_43 rfl (lv_at hl 0 rfl) ?_
    refine lv_iadd hx hb dX7_lay_44 ?_
    refine lv_topi (fun x_5248 ex_5248 => ?_)
    have hG := hG.trans (lt_eq ex_5248)
    have vx_5248 : x_5248.toInt = x_5244.toInt + 125 := by have q := ti_add ex_5248 kc_125 rfl (by omega) (by omega); omega
    refine lv_aload_n hx hb dX7_lay_45 rfl (lv_at hl 1 rfl) ?_
    refine va_get (D := (dC, dI)) (ci := 7) (v := .int iM_fresherSize) (C := RX7) (T := TX7) (N := 48) hx hb hts inX7 hown hK hP 0 rfl rfl 25 (by decide) (hts _ wd_466) (fun _ h9 => h9) rfl dX7_lay_46 ?_
    refine va_iast hx hb hK hP hD hS 2 1 rfl rfl (ti_in vx_5248 (by omega) (by omega)) dX7_lay_49 (fun H locs hP hD hS => ?_)
    obtain ⟨f_5249, ef_5249⟩ : ∃ g : Nat → Int32, g = upd f_5247 x_5248.toNatClampNeg iM_fresherSize := ⟨_, rfl⟩
    rw [← ef_5249] at hP hD
    have hG := hG.trans (lt_eq ef_5249)
    obtain ⟨hP, hD⟩ := wl2 (ws' := [(oc7 oM iM_thrown rM_tape iM_taped iM_size iM_at iM_end iM_token iM_whole iM_nameSize iM_fault iM_place iM_trouble rM_letters iM_failed iM_hasCourt rM_r rM_fresh rM_told rM_read rM_st rM_undone rM_kept iM_undos iM_images rM_fresher iM_fresherSize iM_scale iM_night rM_heardRow rM_cutRow iM_breaths iM_cutMany iM_allBreaths rM_trial rM_words iM_fewestBreaths iM_orderMany iM_orderSum iM_leastOrder rM_often iM_setMany iM_someOf iM_allOf iM_allWeight iM_enoughWeight iM_worthSum iM_firstRest iM_leastDrawn), (arI rM_fresher kM_fresher 8 fM_fresher), (arI rM_fresh kM_fresh 287 f_5249)]) hP hD rfl
    have o1_f_5249 : (f_5249 1).toInt = (f_5247 1).toInt := put_at ef_5249 (by have q := ti_cl (x := x_5248) vx_5248 (by omega); omega)
    refine lv_aload_n hx hb dX7_lay_50 rfl (lv_at hl 1 rfl) ?_
    refine va_get (D := (dC, dI)) (ci := 7) (v := .ref rM_fresh) (C := RX7) (T := TX7) (N := 48) hx hb hts inX7 hown hK hP 0 rfl rfl 16 (by decide) (hts _ wd_156) (fun _ h9 => h9) rfl dX7_lay_51 ?_
    refine lv_bipush (v := 9) hx hb dX7_lay_54 (by decide) ?_
    refine lv_iload_n hx hb dX7_lay_56 rfl (lv_at hl 0 rfl) ?_
    refine lv_iadd hx hb dX7_lay_57 ?_
    refine lv_topi (fun x_5250 ex_5250 => ?_)
    have hG := hG.trans (lt_eq ex_5250)
    have vx_5250 : x_5250.toInt = x_5244.toInt + 9 := by have q := ti_add ex_5250 kc_9 rfl (by omega) (by omega); omega
    refine lv_iload_n hx hb dX7_lay_58 rfl (lv_at hl 2 rfl) ?_
    refine va_iast hx hb hK hP hD hS 2 1 rfl rfl (ti_in vx_5250 (by omega) (by omega)) dX7_lay_59 (fun H locs hP hD hS => ?_)
    obtain ⟨f_5251, ef_5251⟩ : ∃ g : Nat → Int32, g = upd f_5249 x_5250.toNatClampNeg p0 := ⟨_, rfl⟩
    rw [← ef_5251] at hP hD
    have hG := hG.trans (lt_eq ef_5251)
    obtain ⟨hP, hD⟩ := wl2 (ws' := [(oc7 oM iM_thrown rM_tape iM_taped iM_size iM_at iM_end iM_token iM_whole iM_nameSize iM_fault iM_place iM_trouble rM_letters iM_failed iM_hasCourt rM_r rM_fresh rM_told rM_read rM_st rM_undone rM_kept iM_undos iM_images rM_fresher iM_fresherSize iM_scale iM_night rM_heardRow rM_cutRow iM_breaths iM_cutMany iM_allBreaths rM_trial rM_words iM_fewestBreaths iM_orderMany iM_orderSum iM_leastOrder rM_often iM_setMany iM_someOf iM_allOf iM_allWeight iM_enoughWeight iM_worthSum iM_firstRest iM_leastDrawn), (arI rM_fresher kM_fresher 8 fM_fresher), (arI rM_fresh kM_fresh 287 f_5251)]) hP hD rfl
    have o1_f_5251 : (f_5251 1).toInt = (f_5249 1).toInt := put_at ef_5251 (by have q := ti_cl (x := x_5250) vx_5250 (by omega); omega)
    refine lv_aload_n hx hb dX7_lay_60 rfl (lv_at hl 1 rfl) ?_
    refine va_get (D := (dC, dI)) (ci := 7) (v := .ref rM_fresh) (C := RX7) (T := TX7) (N := 48) hx hb hts inX7 hown hK hP 0 rfl rfl 16 (by decide) (hts _ wd_156) (fun _ h9 => h9) rfl dX7_lay_61 ?_
    refine lv_iconst (v := 1) hx hb dX7_lay_64 (by decide) ?_
    refine lv_dup2_11 hx hb dX7_lay_65 rfl rfl ?_
    refine va_iald hx hb hK hP 2 1 rfl rfl (by unfold vp_in; decide) dX7_lay_66 ?_
    refine lv_topi (fun x_5252 ex_5252 => ?_)
    have hG := hG.trans (lt_eq ex_5252)
    have cx_5252 : (f_5251 1).toInt = x_5252.toInt := congrArg Int32.toInt (show f_5251 1 = x_5252 from ex_5252.symm)
    refine lv_iconst (v := 1) hx hb dX7_lay_67 (by decide) ?_
    refine lv_iadd hx hb dX7_lay_68 ?_
    refine lv_topi (fun x_5253 ex_5253 => ?_)
    have hG := hG.trans (lt_eq ex_5253)
    have vx_5253 : x_5253.toInt = x_5252.toInt + 1 := by have q := ti_add ex_5253 rfl kc_1 (by omega) (by omega); omega
    refine va_iast hx hb hK hP hD hS 2 1 rfl rfl (by unfold vp_in; decide) dX7_lay_69 (fun H locs hP hD hS => ?_)
    obtain ⟨f_5254, ef_5254⟩ : ∃ g : Nat → Int32, g = upd f_5251 (1 : Int32).toNatClampNeg x_5253 := ⟨_, rfl⟩
    rw [← ef_5254] at hP hD
    have hG := hG.trans (lt_eq ef_5254)
    obtain ⟨hP, hD⟩ := wl2 (ws' := [(oc7 oM iM_thrown rM_tape iM_taped iM_size iM_at iM_end iM_token iM_whole iM_nameSize iM_fault iM_place iM_trouble rM_letters iM_failed iM_hasCourt rM_r rM_fresh rM_told rM_read rM_st rM_undone rM_kept iM_undos iM_images rM_fresher iM_fresherSize iM_scale iM_night rM_heardRow rM_cutRow iM_breaths iM_cutMany iM_allBreaths rM_trial rM_words iM_fewestBreaths iM_orderMany iM_orderSum iM_leastOrder rM_often iM_setMany iM_someOf iM_allOf iM_allWeight iM_enoughWeight iM_worthSum iM_firstRest iM_leastDrawn), (arI rM_fresher kM_fresher 8 fM_fresher), (arI rM_fresh kM_fresh 287 f_5254)]) hP hD rfl
    have ly9 : LayI fM_fresh p0 f_5254 := lay_of (n := (fM_fresh 1).toNatClampNeg) rfl (by have q1 := ti_cl (x := x_5246) vx_5246 (by omega); have q2 := ti_cl (x := fM_fresh 1) rfl (by omega); omega) (by omega) e_f_5247_0 (by have q1 := ti_cl (x := x_5246) vx_5246 (by omega); have q2 := ti_cl (x := fM_fresh 1) rfl (by omega); omega) ef_5249 (by have q1 := ti_cl (x := x_5246) vx_5246 (by omega); have q2 := ti_cl (x := fM_fresh 1) rfl (by omega); have q3 := ti_cl (x := x_5248) vx_5248 (by omega); omega) ef_5251 (by have q1 := ti_cl (x := x_5246) vx_5246 (by omega); have q2 := ti_cl (x := fM_fresh 1) rfl (by omega); have q3 := ti_cl (x := x_5250) vx_5250 (by omega); omega) ef_5254 rfl (by have q4 := vx_5253; omega)
    exact W.vret hx hb hr (fun t ht hW => ⟨⟨0, rfl, trivial, ⟨f_5254, (by first | omega | decide | assumption), hG, Bw.to (hP.sub [0, 2, 1] rfl) (hD.sub [0, 2, 1] (by decide) rfl) (hK.sub [1, 0] rfl) ht hW⟩⟩, hS.F ht⟩) hS.2.2 dX7_lay_70
  · skip
    have hG := hG.trans (if_neg c_5243)
    have gc_5243 := ti_ne c_5243 rfl kc_0
    replace gc_5243 : iM_failed.toInt + 1 ≤ 0 := by omega
    exfalso; clear hG; omega
set_option maxHeartbeats 4000000 in
set_option maxRecDepth 100000 in
theorem tX7_nodeHere (l : Launch) (dC : Nat → ClassId) (dI : Nat → Nat → Nat) (sz : Nat) (oM : Nat) (iM_thrown : Int32) (rM_tape : Nat) (iM_taped : Int32) (iM_size : Int32) (iM_at : Int32) (iM_end : Int32) (iM_token : Int32) (iM_whole : Int32) (iM_nameSize : Int32) (iM_fault : Int32) (iM_place : Int32) (iM_trouble : Int32) (rM_letters : Nat) (fM_letters : Nat → Int32) (kM_letters : ClassId) (iM_failed : Int32) (iM_hasCourt : Int32) (rM_r : Nat) (rM_fresh : Nat) (fM_fresh : Nat → Int32) (kM_fresh : ClassId) (rM_told : Nat) (rM_read : Nat) (fM_read : Nat → Int32) (kM_read : ClassId) (rM_st : Nat) (rM_undone : Nat) (rM_kept : Nat) (iM_undos : Int32) (iM_images : Int32) (rM_fresher : Nat) (iM_fresherSize : Int32) (iM_scale : Int32) (iM_night : Int32) (rM_heardRow : Nat) (rM_cutRow : Nat) (iM_breaths : Int32) (iM_cutMany : Int32) (iM_allBreaths : Int32) (rM_trial : Nat) (rM_words : Nat) (iM_fewestBreaths : Int32) (iM_orderMany : Int32) (iM_orderSum : Int32) (iM_leastOrder : Int32) (rM_often : Nat) (iM_setMany : Int32) (iM_someOf : Int32) (iM_allOf : Int32) (iM_allWeight : Int64) (iM_enoughWeight : Int64) (iM_worthSum : Int64) (iM_firstRest : Int32) (iM_leastDrawn : Int32) (b_iM_taped : 0 ≤ iM_taped.toInt ∧ iM_taped.toInt ≤ 900) (b_iM_size : 0 ≤ iM_size.toInt ∧ iM_size.toInt ≤ 900) (b_iM_end : 0 ≤ iM_end.toInt ∧ iM_end.toInt ≤ 900) (b_iM_nameSize : 0 ≤ iM_nameSize.toInt ∧ iM_nameSize.toInt ≤ 900) (b_iM_failed : 0 ≤ iM_failed.toInt ∧ iM_failed.toInt ≤ 1) (b_iM_hasCourt : 0 ≤ iM_hasCourt.toInt ∧ iM_hasCourt.toInt ≤ 1) (b_iM_undos : 0 ≤ iM_undos.toInt ∧ iM_undos.toInt ≤ 16) (b_iM_images : 0 ≤ iM_images.toInt ∧ iM_images.toInt ≤ 3) (b_iM_scale : 1 ≤ iM_scale.toInt ∧ iM_scale.toInt ≤ 1296) (b_iM_breaths : 0 ≤ iM_breaths.toInt ∧ iM_breaths.toInt ≤ 399) (b_iM_cutMany : 0 ≤ iM_cutMany.toInt ∧ iM_cutMany.toInt ≤ 399) (r_T : ImpP (iM_token.toInt = 2) (iM_nameSize.toInt ≤ 8)) (r_P : POk fM_fresh fM_read)  : Met l yX7_nodeHere (Cond.code yX7_nodeHere cX7_nodeHere 2 (some .int) :: wG) ({ frames := 6, cells := 0, slots := 0, locals := 154 }) (va_Pc [.ref oM] (Pw dC dI sz [(oc7 oM iM_thrown rM_tape iM_taped iM_size iM_at iM_end iM_token iM_whole iM_nameSize iM_fault iM_place iM_trouble rM_letters iM_failed iM_hasCourt rM_r rM_fresh rM_told rM_read rM_st rM_undone rM_kept iM_undos iM_images rM_fresher iM_fresherSize iM_scale iM_night rM_heardRow rM_cutRow iM_breaths iM_cutMany iM_allBreaths rM_trial rM_words iM_fewestBreaths iM_orderMany iM_orderSum iM_leastOrder rM_often iM_setMany iM_someOf iM_allOf iM_allWeight iM_enoughWeight iM_worthSum iM_firstRest iM_leastDrawn), (arI rM_letters kM_letters 8 fM_letters), (arI rM_fresh kM_fresh 287 fM_fresh), (arI rM_read kM_read 90 fM_read)] [(kM_letters, .int), (kM_fresh, .int), (kM_read, .int)])) (va_Qi (fun (r : Int32) (u : Nat) => (True ∧ (0 ≤ r.toInt ∧ ImpP (1 ≤ (fM_fresh 1).toInt) (r.toInt < (fM_fresh 1).toInt) ∧ r.toInt ≤ 17)) ∧ r = Int32.ofNat u) (fun (u : Nat) (t : State) => ∃ (niM_fault : Int32) (niM_place : Int32) (niM_failed : Int32), (0 ≤ niM_failed.toInt ∧ niM_failed.toInt ≤ 1) ∧ (iM_failed.toInt ≤ niM_failed.toInt) ∧ (ImpP (niM_failed.toInt ≤ 0) (1 ≤ (fM_fresh 1).toInt)) ∧ (PX7_nodeHere iM_at iM_token iM_nameSize iM_fault iM_place fM_letters iM_failed fM_fresh = (Int32.ofNat u, niM_fault, niM_place, niM_failed)) ∧ Bw dC dI (va_A [(oc7 oM iM_thrown rM_tape iM_taped iM_size iM_at iM_end iM_token iM_whole iM_nameSize iM_fault iM_place iM_trouble rM_letters iM_failed iM_hasCourt rM_r rM_fresh rM_told rM_read rM_st rM_undone rM_kept iM_undos iM_images rM_fresher iM_fresherSize iM_scale iM_night rM_heardRow rM_cutRow iM_breaths iM_cutMany iM_allBreaths rM_trial rM_words iM_fewestBreaths iM_orderMany iM_orderSum iM_leastOrder rM_often iM_setMany iM_someOf iM_allOf iM_allWeight iM_enoughWeight iM_worthSum iM_firstRest iM_leastDrawn), (arI rM_letters kM_letters 8 fM_letters), (arI rM_fresh kM_fresh 287 fM_fresh), (arI rM_read kM_read 90 fM_read)] sz) [(oc7 oM iM_thrown rM_tape iM_taped iM_size iM_at iM_end iM_token iM_whole iM_nameSize niM_fault niM_place iM_trouble rM_letters niM_failed iM_hasCourt rM_r rM_fresh rM_told rM_read rM_st rM_undone rM_kept iM_undos iM_images rM_fresher iM_fresherSize iM_scale iM_night rM_heardRow rM_cutRow iM_breaths iM_cutMany iM_allBreaths rM_trial rM_words iM_fewestBreaths iM_orderMany iM_orderSum iM_leastOrder rM_often iM_setMany iM_someOf iM_allOf iM_allWeight iM_enoughWeight iM_worthSum iM_firstRest iM_leastDrawn), (arI rM_letters kM_letters 8 fM_letters), (arI rM_fresh kM_fresh 287 fM_fresh), (arI rM_read kM_read 90 fM_read)] [(kM_letters, .int), (kM_fresh, .int), (kM_read, .int)] t) (va_A [(oc7 oM iM_thrown rM_tape iM_taped iM_size iM_at iM_end iM_token iM_whole iM_nameSize iM_fault iM_place iM_trouble rM_letters iM_failed iM_hasCourt rM_r rM_fresh rM_told rM_read rM_st rM_undone rM_kept iM_undos iM_images rM_fresher iM_fresherSize iM_scale iM_night rM_heardRow rM_cutRow iM_breaths iM_cutMany iM_allBreaths rM_trial rM_words iM_fewestBreaths iM_orderMany iM_orderSum iM_leastOrder rM_often iM_setMany iM_someOf iM_allOf iM_allWeight iM_enoughWeight iM_worthSum iM_firstRest iM_leastDrawn), (arI rM_letters kM_letters 8 fM_letters), (arI rM_fresh kM_fresh 287 fM_fresh), (arI rM_read kM_read 90 fM_read)] sz)) 0 0 (va_A [(oc7 oM iM_thrown rM_tape iM_taped iM_size iM_at iM_end iM_token iM_whole iM_nameSize iM_fault iM_place iM_trouble rM_letters iM_failed iM_hasCourt rM_r rM_fresh rM_told rM_read rM_st rM_undone rM_kept iM_undos iM_images rM_fresher iM_fresherSize iM_scale iM_night rM_heardRow rM_cutRow iM_breaths iM_cutMany iM_allBreaths rM_trial rM_words iM_fewestBreaths iM_orderMany iM_orderSum iM_leastOrder rM_often iM_setMany iM_someOf iM_allOf iM_allWeight iM_enoughWeight iM_worthSum iM_firstRest iM_leastDrawn), (arI rM_letters kM_letters 8 fM_letters), (arI rM_fresh kM_fresh 287 fM_fresh), (arI rM_read kM_read 90 fM_read)] sz) := by
  refine Met.ofW (cc := cX7_nodeHere) (maxL := 2) (ret := (some .int)) (by decide) rfl ?_
  intro p e s m args below meth c s₁ B hml hv
  obtain ⟨rfl, hsz, hP, hK, hD0, hE⟩ := hv
  have hx := B.exec
  have hb := B.bytes
  have hr := B.returns
  have hts : ∀ w ∈ wG, w.before ([.ref oM] : List Value).toArray s = true := fun w h => atoms_spec (ws := Cond.code yX7_nodeHere cX7_nodeHere 2 (some .int) :: wG) B.pre w (List.mem_cons_of_mem _ h)
  have hown : s.vm.findClass RX7 = some m.cls := findClass_of_methodNamed B.named
  have hlocks := B.notSynchronized
  subst hsz
  have hD := hD0.self (sz := s.heap.size)
  generalize hAe : va_A [(oc7 oM iM_thrown rM_tape iM_taped iM_size iM_at iM_end iM_token iM_whole iM_nameSize iM_fault iM_place iM_trouble rM_letters iM_failed iM_hasCourt rM_r rM_fresh rM_told rM_read rM_st rM_undone rM_kept iM_undos iM_images rM_fresher iM_fresherSize iM_scale iM_night rM_heardRow rM_cutRow iM_breaths iM_cutMany iM_allBreaths rM_trial rM_words iM_fewestBreaths iM_orderMany iM_orderSum iM_leastOrder rM_often iM_setMany iM_someOf iM_allOf iM_allWeight iM_enoughWeight iM_worthSum iM_firstRest iM_leastDrawn), (arI rM_letters kM_letters 8 fM_letters), (arI rM_fresh kM_fresh 287 fM_fresh), (arI rM_read kM_read 90 fM_read)] s.heap.size = A at hD hE ⊢
  have hA : ∀ q : Nat, s.heap.size ≤ q → A q := fun q h => by rw [← hAe]; exact Or.inr h
  have hS : va_S A s.heap s.heap [] := va_S.rf
  have hl := lv_entry ([.ref oM]) (n := 2) (Nat.le_of_ble_eq_true rfl)
  rw [lg_entry_eq]
  generalize (lg_sl ([.ref oM]) ++ List.replicate (2 - (lg_sl ([.ref oM])).length) Slot.unset).toArray = ls at hl ⊢
  have hl : lv_has ls 2 [(0, .ref oM)] := hl
  have hG := PX7_nodeHere_eq iM_at iM_token iM_nameSize iM_fault iM_place fM_letters iM_failed fM_fresh
  have pl_fM_fresh := r_P.lins
  refine lv_aload_n hx hb dX7_nodeHere_0 rfl (lv_at hl 0 rfl) ?_
  refine va_get (D := (dC, dI)) (ci := 7) (v := .int iM_failed) (C := RX7) (T := TX7) (N := 48) hx hb hts inX7 hown hK hP 0 rfl rfl 13 (by decide) (hts _ wd_380) (fun _ h9 => h9) rfl dX7_nodeHere_1 ?_
  refine lv_if_eq (tgt := 9) hx hb dX7_nodeHere_4 (by decide) (fun c_5269 => ?_) (fun c_5269 => ?_)
  · skip
    have hG := hG.trans (if_pos c_5269)
    have gc_5269 := ti_eq c_5269 rfl kc_0
    refine lv_aload_n hx hb dX7_nodeHere_9 rfl (lv_at hl 0 rfl) ?_
    have hFc := va_free (wc := [(oc7 oM iM_thrown rM_tape iM_taped iM_size iM_at iM_end iM_token iM_whole iM_nameSize iM_fault iM_place iM_trouble rM_letters iM_failed iM_hasCourt rM_r rM_fresh rM_told rM_read rM_st rM_undone rM_kept iM_undos iM_images rM_fresher iM_fresherSize iM_scale iM_night rM_heardRow rM_cutRow iM_breaths iM_cutMany iM_allBreaths rM_trial rM_words iM_fewestBreaths iM_orderMany iM_orderSum iM_leastOrder rM_often iM_setMany iM_someOf iM_allOf iM_allWeight iM_enoughWeight iM_worthSum iM_firstRest iM_leastDrawn), (arI rM_letters kM_letters 8 fM_letters)]) hD hS hA [0, 1] rfl
    refine va_callv (va_runV (As := []) (rest := []) ⟨hx, hb, hml, hown, hts⟩ (tX7_mustName l dC dI _ oM iM_thrown rM_tape iM_taped iM_size iM_at iM_end iM_token iM_whole iM_nameSize iM_fault iM_place iM_trouble rM_letters fM_letters kM_letters iM_failed iM_hasCourt rM_r rM_fresh rM_told rM_read rM_st rM_undone rM_kept iM_undos iM_images rM_fresher iM_fresherSize iM_scale iM_night rM_heardRow rM_cutRow iM_breaths iM_cutMany iM_allBreaths rM_trial rM_words iM_fewestBreaths iM_orderMany iM_orderSum iM_leastOrder rM_often iM_setMany iM_someOf iM_allOf iM_allWeight iM_enoughWeight iM_worthSum iM_firstRest iM_leastDrawn (by first | omega | decide) (by first | omega | decide) (by first | omega | decide) (by first | omega | decide) (by first | omega | decide) (by first | omega | decide) (by first | omega | decide) (by first | omega | decide) (by first | omega | decide) (by first | omega | decide) (by first | omega | decide) (by first | assumption | exact (fun h9 => by have q0 := kc_0; have q1 := kc_1; omega))) (cwV 0 hts (wd_V wd_467 wd_468 wd_469 wd_5 (wd_c wd_470)) rfl rfl rfl (by decide +kernel) ⟨Nat.le_of_ble_eq_true rfl, Nat.le_of_ble_eq_true rfl⟩) ⟨Pw.fb, va_recv hK hP (ci := 7) (q0 := 0) rfl rfl, fun U hU hW => Pw.to (hP.sub [0, 1] rfl) (hD.sub [0, 1] (by decide) rfl) (hK.sub [0] rfl) hE hS hFc hU hW⟩ rfl rfl hl.1 rfl (lv_room (Nat.le_of_ble_eq_true rfl)) dX7_nodeHere_10 ⟨Nat.le_of_ble_eq_true rfl, Nat.le_of_ble_eq_true rfl⟩) hS (fun q _ h => hFc q h) hFc (fun u t H locs ht hvm hw hB hz1 hk1 hS => ?_)
    obtain ⟨x_5270, x_5271, x_5272, b_x_5272, e_x_5270_0, e_x_5270_1, e_x_5270_2, hB⟩ := hB
    obtain ⟨hP, hD, hK⟩ := Bw.go (ws' := [(arI rM_fresh kM_fresh 287 fM_fresh), (arI rM_read kM_read 90 fM_read), (oc7 oM iM_thrown rM_tape iM_taped iM_size iM_at iM_end iM_token iM_whole iM_nameSize x_5270 x_5271 iM_trouble rM_letters x_5272 iM_hasCourt rM_r rM_fresh rM_told rM_read rM_st rM_undone rM_kept iM_undos iM_images rM_fresher iM_fresherSize iM_scale iM_night rM_heardRow rM_cutRow iM_breaths iM_cutMany iM_allBreaths rM_trial rM_words iM_fewestBreaths iM_orderMany iM_orderSum iM_leastOrder rM_often iM_setMany iM_someOf iM_allOf iM_allWeight iM_enoughWeight iM_worthSum iM_firstRest iM_leastDrawn), (arI rM_letters kM_letters 8 fM_letters)]) (tys' := [(kM_fresh, .int), (kM_read, .int), (kM_letters, .int)]) hB rfl ht hvm hP hD hK [0, 1] [2, 3] rfl (by decide) (by decide) [1, 2] hk1 hFc rfl rfl rfl
    clear hz1 hk1 hvm ht hB
    have hG := hG.trans (un3_eq e_x_5270_2)
    refine lv_aload_n hx hb dX7_nodeHere_13 rfl (lv_at hl 0 rfl) ?_
    refine va_get (D := (dC, dI)) (ci := 7) (v := .int x_5272) (C := RX7) (T := TX7) (N := 48) hx hb hts inX7 hown hK hP 2 rfl rfl 13 (by decide) (hts _ wd_380) (fun _ h9 => h9) rfl dX7_nodeHere_14 ?_
    refine lv_if_eq (tgt := 22) hx hb dX7_nodeHere_17 (by decide) (fun c_5273 => ?_) (fun c_5273 => ?_)
    · skip
      have hG := hG.trans (if_pos c_5273)
      have gc_5273 := ti_eq c_5273 rfl kc_0
      have h_5274 := e_x_5270_1 (by omega)
      clear e_x_5270_1
      have h_5275 := r_T (by omega)
      clear r_T
      refine lv_aload_n hx hb dX7_nodeHere_22 rfl (lv_at hl 0 rfl) ?_
      have hFc := va_free (wc := [(oc7 oM iM_thrown rM_tape iM_taped iM_size iM_at iM_end iM_token iM_whole iM_nameSize x_5270 x_5271 iM_trouble rM_letters x_5272 iM_hasCourt rM_r rM_fresh rM_told rM_read rM_st rM_undone rM_kept iM_undos iM_images rM_fresher iM_fresherSize iM_scale iM_night rM_heardRow rM_cutRow iM_breaths iM_cutMany iM_allBreaths rM_trial rM_words iM_fewestBreaths iM_orderMany iM_orderSum iM_leastOrder rM_often iM_setMany iM_someOf iM_allOf iM_allWeight iM_enoughWeight iM_worthSum iM_firstRest iM_leastDrawn), (arI rM_letters kM_letters 8 fM_letters), (arI rM_fresh kM_fresh 287 fM_fresh), (arI rM_read kM_read 90 fM_read)]) hD hS hA [2, 3, 0, 1] rfl
      refine va_calli (va_runV (As := []) (rest := []) ⟨hx, hb, hml, hown, hts⟩ (tX7_find l dC dI _ oM iM_thrown rM_tape iM_taped iM_size iM_at iM_end iM_token iM_whole iM_nameSize x_5270 x_5271 iM_trouble rM_letters fM_letters kM_letters x_5272 iM_hasCourt rM_r rM_fresh fM_fresh kM_fresh rM_told rM_read fM_read kM_read rM_st rM_undone rM_kept iM_undos iM_images rM_fresher iM_fresherSize iM_scale iM_night rM_heardRow rM_cutRow iM_breaths iM_cutMany iM_allBreaths rM_trial rM_words iM_fewestBreaths iM_orderMany iM_orderSum iM_leastOrder rM_often iM_setMany iM_someOf iM_allOf iM_allWeight iM_enoughWeight iM_worthSum iM_firstRest iM_leastDrawn (by first | omega | decide) (by first | omega | decide) (by first | omega | decide) (by first | omega | decide) (by first | exact b_x_5272 | omega | decide) (by first | omega | decide) (by first | omega | decide) (by first | omega | decide) (by first | omega | decide) (by first | omega | decide) (by first | omega | decide) (by first | assumption | exact (fun h9 => by have q0 := kc_0; have q1 := kc_1; omega)) (by assumption) (by first | omega | decide | assumption | (have q0 := kc_0; have q1 := kc_1; omega) | (intro h; exact absurd h (by decide)))) (cwV 0 hts (wd_V wd_471 wd_472 wd_473 wd_5 (wd_c wd_474)) rfl rfl rfl (by decide +kernel) ⟨Nat.le_of_ble_eq_true rfl, Nat.le_of_ble_eq_true rfl⟩) ⟨Pw.fb, va_recv hK hP (ci := 7) (q0 := 2) rfl rfl, fun U hU hW => Pw.to (hP.sub [2, 3, 0, 1] rfl) (hD.sub [2, 3, 0, 1] (by decide) rfl) (hK.sub [2, 0, 1] rfl) hE hS hFc hU hW⟩ rfl rfl hl.1 rfl (lv_room (Nat.le_of_ble_eq_true rfl)) dX7_nodeHere_23 ⟨Nat.le_of_ble_eq_true rfl, Nat.le_of_ble_eq_true rfl⟩) hS (fun q _ h => hFc q h) hFc (fun r u t H locs ht hvm hw hB hz1 hk1 hS => ?_)
      have hru9 := hw.2
      have hw := hw.1
      obtain ⟨hP, hD, hK⟩ := Bw.go (ws' := [(oc7 oM iM_thrown rM_tape iM_taped iM_size iM_at iM_end iM_token iM_whole iM_nameSize x_5270 x_5271 iM_trouble rM_letters x_5272 iM_hasCourt rM_r rM_fresh rM_told rM_read rM_st rM_undone rM_kept iM_undos iM_images rM_fresher iM_fresherSize iM_scale iM_night rM_heardRow rM_cutRow iM_breaths iM_cutMany iM_allBreaths rM_trial rM_words iM_fewestBreaths iM_orderMany iM_orderSum iM_leastOrder rM_often iM_setMany iM_someOf iM_allOf iM_allWeight iM_enoughWeight iM_worthSum iM_firstRest iM_leastDrawn), (arI rM_letters kM_letters 8 fM_letters), (arI rM_fresh kM_fresh 287 fM_fresh), (arI rM_read kM_read 90 fM_read)]) (tys' := [(kM_letters, .int), (kM_fresh, .int), (kM_read, .int)]) hB rfl ht hvm hP hD hK [2, 3, 0, 1] [] rfl (by decide) (by decide) [] hk1 hFc rfl rfl rfl
      clear hz1 hk1 hvm ht hB
      obtain ⟨x_5276, rfl⟩ : ∃ z, z = r := ⟨_, rfl⟩
      have hG := hG.trans (lt_eq hru9.symm)
      have lx_5276 := hw.2
      have ux_5276 := hw.2
      refine lv_istore_n (lv' := [(1, .int x_5276), (0, .ref oM)]) hx hb dX7_nodeHere_26 rfl hl (by decide) rfl (fun ls hl => ?_)
      refine lv_iload_n hx hb dX7_nodeHere_27 rfl (lv_at hl 0 rfl) ?_
      refine lv_if_ge (tgt := 40) hx hb dX7_nodeHere_28 (by decide) (fun c_5277 => ?_) (fun c_5277 => ?_)
      · skip
        have hG := hG.trans (if_pos c_5277)
        have gc_5277 := ti_le c_5277 kc_0 rfl
        refine lv_aload_n hx hb dX7_nodeHere_40 rfl (lv_at hl 1 rfl) ?_
        refine va_get (D := (dC, dI)) (ci := 7) (v := .int x_5272) (C := RX7) (T := TX7) (N := 48) hx hb hts inX7 hown hK hP 0 rfl rfl 13 (by decide) (hts _ wd_380) (fun _ h9 => h9) rfl dX7_nodeHere_41 ?_
        refine lv_if_eq (tgt := 51) hx hb dX7_nodeHere_44 (by decide) (fun c_5278 => ?_) (fun c_5278 => ?_)
        · skip
          have hG := hG.trans (if_pos c_5278)
          have gc_5278 := ti_eq c_5278 rfl kc_0
          refine lv_iload_n hx hb dX7_nodeHere_51 rfl (lv_at hl 0 rfl) ?_
          exact W.iret hx hb hr (fun t ht hW => ⟨⟨_, (cI x_5276), rfl, ⟨⟨trivial, ⟨by have q0 := kc_0; omega, fun h9 => by have q0 := kc_0; omega, by have q0 := kc_0; omega⟩⟩, (cI_of x_5276)⟩, ⟨x_5270, x_5271, x_5272, b_x_5272, (by first | assumption | (have q0 := kc_0; have q1 := kc_1; omega)), (by first | assumption | exact (fun h9 => by have q0 := kc_0; have q1 := kc_1; omega)), (cI_tup hG), Bw.to (hP.sub [0, 1, 2, 3] rfl) (hD.sub [0, 1, 2, 3] (by decide) rfl) (hK.sub [0, 1, 2] rfl) ht hW⟩⟩, hS.F ht⟩) hS.2.2 dX7_nodeHere_52
        · skip
          have hG := hG.trans (if_neg c_5278)
          have gc_5278 := ti_ne c_5278 rfl kc_0
          replace gc_5278 : x_5272.toInt + 1 ≤ 0 := by omega
          exfalso; clear hG; omega
      · skip
        have hG := hG.trans (if_neg c_5277)
        have gc_5277 := ti_nle c_5277 kc_0 rfl
        refine lv_aload_n hx hb dX7_nodeHere_31 rfl (lv_at hl 1 rfl) ?_
        refine lv_iconst (v := 2) hx hb dX7_nodeHere_32 (by decide) ?_
        refine lv_aload_n hx hb dX7_nodeHere_33 rfl (lv_at hl 1 rfl) ?_
        refine va_get (D := (dC, dI)) (ci := 7) (v := .int iM_at) (C := RX7) (T := TX7) (N := 48) hx hb hts inX7 hown hK hP 0 rfl rfl 4 (by decide) (hts _ wd_384) (fun _ h9 => h9) rfl dX7_nodeHere_34 ?_
        have hFc := va_free (wc := [(oc7 oM iM_thrown rM_tape iM_taped iM_size iM_at iM_end iM_token iM_whole iM_nameSize x_5270 x_5271 iM_trouble rM_letters x_5272 iM_hasCourt rM_r rM_fresh rM_told rM_read rM_st rM_undone rM_kept iM_undos iM_images rM_fresher iM_fresherSize iM_scale iM_night rM_heardRow rM_cutRow iM_breaths iM_cutMany iM_allBreaths rM_trial rM_words iM_fewestBreaths iM_orderMany iM_orderSum iM_leastOrder rM_often iM_setMany iM_someOf iM_allOf iM_allWeight iM_enoughWeight iM_worthSum iM_firstRest iM_leastDrawn)]) hD hS hA [0] rfl
        refine va_callv (va_runV (As := [.int 2, .int iM_at]) (rest := []) ⟨hx, hb, hml, hown, hts⟩ (tX7_wrong l dC dI _ oM iM_thrown rM_tape iM_taped iM_size iM_at iM_end iM_token iM_whole iM_nameSize x_5270 x_5271 iM_trouble rM_letters x_5272 iM_hasCourt rM_r rM_fresh rM_told rM_read rM_st rM_undone rM_kept iM_undos iM_images rM_fresher iM_fresherSize iM_scale iM_night rM_heardRow rM_cutRow iM_breaths iM_cutMany iM_allBreaths rM_trial rM_words iM_fewestBreaths iM_orderMany iM_orderSum iM_leastOrder rM_often iM_setMany iM_someOf iM_allOf iM_allWeight iM_enoughWeight iM_worthSum iM_firstRest iM_leastDrawn 2 iM_at (by first | omega | decide) (by first | omega | decide) (by first | omega | decide) (by first | omega | decide) (by first | exact b_x_5272 | omega | decide) (by first | omega | decide) (by first | omega | decide) (by first | omega | decide) (by first | omega | decide) (by first | omega | decide) (by first | omega | decide) (by first | assumption | exact (fun h9 => by have q0 := kc_0; have q1 := kc_1; omega))) (cwV 2 hts (wd_V wd_430 wd_431 wd_432 wd_5 (wd_c wd_433)) rfl rfl rfl (by decide +kernel) ⟨Nat.le_of_ble_eq_true rfl, Nat.le_of_ble_eq_true rfl⟩) ⟨Pw.fb, va_recv hK hP (ci := 7) (q0 := 0) rfl rfl, fun U hU hW => Pw.to (hP.sub [0] rfl) (hD.sub [0] (by decide) rfl) (hK.sub [] rfl) hE hS hFc hU hW⟩ rfl rfl hl.1 rfl (lv_room (Nat.le_of_ble_eq_true rfl)) dX7_nodeHere_37 ⟨Nat.le_of_ble_eq_true rfl, Nat.le_of_ble_eq_true rfl⟩) hS (fun q _ h => hFc q h) hFc (fun u t H locs ht hvm hw hB hz1 hk1 hS => ?_)
        obtain ⟨x_5279, x_5280, x_5281, b_x_5281, e_x_5279_0, e_x_5279_1, hB⟩ := hB
        obtain ⟨hP, hD, hK⟩ := Bw.go (ws' := [(arI rM_letters kM_letters 8 fM_letters), (arI rM_fresh kM_fresh 287 fM_fresh), (arI rM_read kM_read 90 fM_read), (oc7 oM iM_thrown rM_tape iM_taped iM_size iM_at iM_end iM_token iM_whole iM_nameSize x_5279 x_5280 iM_trouble rM_letters x_5281 iM_hasCourt rM_r rM_fresh rM_told rM_read rM_st rM_undone rM_kept iM_undos iM_images rM_fresher iM_fresherSize iM_scale iM_night rM_heardRow rM_cutRow iM_breaths iM_cutMany iM_allBreaths rM_trial rM_words iM_fewestBreaths iM_orderMany iM_orderSum iM_leastOrder rM_often iM_setMany iM_someOf iM_allOf iM_allWeight iM_enoughWeight iM_worthSum iM_firstRest iM_leastDrawn)]) (tys' := [(kM_letters, .int), (kM_fresh, .int), (kM_read, .int)]) hB rfl ht hvm hP hD hK [0] [1, 2, 3] rfl (by decide) (by decide) [0, 1, 2] hk1 hFc rfl rfl rfl
        clear hz1 hk1 hvm ht hB
        have hG := hG.trans (un3_eq e_x_5279_1)
        refine lv_aload_n hx hb dX7_nodeHere_40 rfl (lv_at hl 1 rfl) ?_
        refine va_get (D := (dC, dI)) (ci := 7) (v := .int x_5281) (C := RX7) (T := TX7) (N := 48) hx hb hts inX7 hown hK hP 3 rfl rfl 13 (by decide) (hts _ wd_380) (fun _ h9 => h9) rfl dX7_nodeHere_41 ?_
        refine lv_if_eq (tgt := 51) hx hb dX7_nodeHere_44 (by decide) (fun c_5282 => ?_) (fun c_5282 => ?_)
        · skip
          have hG := hG.trans (if_pos c_5282)
          have gc_5282 := ti_eq c_5282 rfl kc_0
          exfalso; clear hG; omega
        · skip
          have hG := hG.trans (if_neg c_5282)
          have gc_5282 := ti_ne c_5282 rfl kc_0
          replace gc_5282 : (-1) * x_5281.toInt + 1 ≤ 0 := by omega
          refine lv_iconst (v := 0) hx hb dX7_nodeHere_47 (by decide) ?_
          refine lv_goto (tgt := 52) hx hb dX7_nodeHere_48 (by decide) ?_
          exact W.iret hx hb hr (fun t ht hW => ⟨⟨_, (cI 0), rfl, ⟨⟨trivial, ⟨by have q0 := kc_0; omega, fun h9 => by have q0 := kc_0; omega, by have q0 := kc_0; omega⟩⟩, (cI_of 0)⟩, ⟨x_5279, x_5280, x_5281, b_x_5281, (by first | assumption | (have q0 := kc_0; have q1 := kc_1; omega)), (by first | assumption | exact (fun h9 => by have q0 := kc_0; have q1 := kc_1; omega)), (cI_tup hG), Bw.to (hP.sub [3, 0, 1, 2] rfl) (hD.sub [3, 0, 1, 2] (by decide) rfl) (hK.sub [0, 1, 2] rfl) ht hW⟩⟩, hS.F ht⟩) hS.2.2 dX7_nodeHere_52
    · skip
      have hG := hG.trans (if_neg c_5273)
      have gc_5273 := ti_ne c_5273 rfl kc_0
      replace gc_5273 : (-1) * x_5272.toInt + 1 ≤ 0 := by omega
      clear e_x_5270_1
      refine lv_iconst (v := 0) hx hb dX7_nodeHere_20 (by decide) ?_
      exact W.iret hx hb hr (fun t ht hW => ⟨⟨_, (cI 0), rfl, ⟨⟨trivial, ⟨by have q0 := kc_0; omega, fun h9 => by have q0 := kc_0; omega, by have q0 := kc_0; omega⟩⟩, (cI_of 0)⟩, ⟨x_5270, x_5271, x_5272, b_x_5272, (by first | assumption | (have q0 := kc_0; have q1 := kc_1; omega)), (by first | assumption | exact (fun h9 => by have q0 := kc_0; have q1 := kc_1; omega)), (cI_tup hG), Bw.to (hP.sub [2, 3, 0, 1] rfl) (hD.sub [2, 3, 0, 1] (by decide) rfl) (hK.sub [2, 0, 1] rfl) ht hW⟩⟩, hS.F ht⟩) hS.2.2 dX7_nodeHere_21
  · skip
    have hG := hG.trans (if_neg c_5269)
    have gc_5269 := ti_ne c_5269 rfl kc_0
    replace gc_5269 : (-1) * iM_failed.toInt + 1 ≤ 0 := by omega
    refine lv_iconst (v := 0) hx hb dX7_nodeHere_7 (by decide) ?_
    exact W.iret hx hb hr (fun t ht hW => ⟨⟨_, (cI 0), rfl, ⟨⟨trivial, ⟨by have q0 := kc_0; omega, fun h9 => by have q0 := kc_0; omega, by have q0 := kc_0; omega⟩⟩, (cI_of 0)⟩, ⟨iM_fault, iM_place, iM_failed, (by omega), (by first | assumption | (have q0 := kc_0; have q1 := kc_1; omega)), (by first | assumption | exact (fun h9 => by have q0 := kc_0; have q1 := kc_1; omega)), (cI_tup hG), Bw.to (hP.sub [0, 1, 2, 3] rfl) (hD.sub [0, 1, 2, 3] (by decide) rfl) (hK.sub [0, 1, 2] rfl) ht hW⟩⟩, hS.F ht⟩) hS.2.2 dX7_nodeHere_8
set_option maxHeartbeats 4000000 in
set_option maxRecDepth 100000 in
theorem tX7_pass (l : Launch) (dC : Nat → ClassId) (dI : Nat → Nat → Nat) (sz : Nat) (oM : Nat) (iM_thrown : Int32) (rM_tape : Nat) (fM_tape : Nat → Int32) (kM_tape : ClassId) (iM_taped : Int32) (iM_size : Int32) (iM_at : Int32) (iM_end : Int32) (iM_token : Int32) (iM_whole : Int32) (iM_nameSize : Int32) (iM_fault : Int32) (iM_place : Int32) (iM_trouble : Int32) (rM_letters : Nat) (fM_letters : Nat → Int32) (kM_letters : ClassId) (iM_failed : Int32) (iM_hasCourt : Int32) (rM_r : Nat) (rM_fresh : Nat) (rM_told : Nat) (rM_read : Nat) (rM_st : Nat) (rM_undone : Nat) (rM_kept : Nat) (iM_undos : Int32) (iM_images : Int32) (rM_fresher : Nat) (iM_fresherSize : Int32) (iM_scale : Int32) (iM_night : Int32) (rM_heardRow : Nat) (rM_cutRow : Nat) (iM_breaths : Int32) (iM_cutMany : Int32) (iM_allBreaths : Int32) (rM_trial : Nat) (rM_words : Nat) (iM_fewestBreaths : Int32) (iM_orderMany : Int32) (iM_orderSum : Int32) (iM_leastOrder : Int32) (rM_often : Nat) (iM_setMany : Int32) (iM_someOf : Int32) (iM_allOf : Int32) (iM_allWeight : Int64) (iM_enoughWeight : Int64) (iM_worthSum : Int64) (iM_firstRest : Int32) (iM_leastDrawn : Int32) (b_iM_taped : 0 ≤ iM_taped.toInt ∧ iM_taped.toInt ≤ 900) (b_iM_size : 0 ≤ iM_size.toInt ∧ iM_size.toInt ≤ 900) (b_iM_end : 0 ≤ iM_end.toInt ∧ iM_end.toInt ≤ 900) (b_iM_nameSize : 0 ≤ iM_nameSize.toInt ∧ iM_nameSize.toInt ≤ 900) (b_iM_failed : 0 ≤ iM_failed.toInt ∧ iM_failed.toInt ≤ 1) (b_iM_hasCourt : 0 ≤ iM_hasCourt.toInt ∧ iM_hasCourt.toInt ≤ 1) (b_iM_undos : 0 ≤ iM_undos.toInt ∧ iM_undos.toInt ≤ 16) (b_iM_images : 0 ≤ iM_images.toInt ∧ iM_images.toInt ≤ 3) (b_iM_scale : 1 ≤ iM_scale.toInt ∧ iM_scale.toInt ≤ 1296) (b_iM_breaths : 0 ≤ iM_breaths.toInt ∧ iM_breaths.toInt ≤ 399) (b_iM_cutMany : 0 ≤ iM_cutMany.toInt ∧ iM_cutMany.toInt ≤ 399) (r_T : ImpP (iM_token.toInt = 2) (iM_nameSize.toInt ≤ 8))  : Met l yX7_pass (Cond.code yX7_pass cX7_pass 1 none :: wG) ({ frames := 2, cells := 0, slots := 0, locals := 44 }) (va_Pc [.ref oM] (Pw dC dI sz [(oc7 oM iM_thrown rM_tape iM_taped iM_size iM_at iM_end iM_token iM_whole iM_nameSize iM_fault iM_place iM_trouble rM_letters iM_failed iM_hasCourt rM_r rM_fresh rM_told rM_read rM_st rM_undone rM_kept iM_undos iM_images rM_fresher iM_fresherSize iM_scale iM_night rM_heardRow rM_cutRow iM_breaths iM_cutMany iM_allBreaths rM_trial rM_words iM_fewestBreaths iM_orderMany iM_orderSum iM_leastOrder rM_often iM_setMany iM_someOf iM_allOf iM_allWeight iM_enoughWeight iM_worthSum iM_firstRest iM_leastDrawn), (arI rM_tape kM_tape 900 fM_tape), (arI rM_letters kM_letters 8 fM_letters)] [(kM_tape, .int), (kM_letters, .int)])) (va_Qv (fun (_ : Nat) => True) (fun (_ : Nat) (t : State) => ∃ (niM_at : Int32) (niM_end : Int32) (niM_token : Int32) (niM_whole : Int32) (niM_nameSize : Int32) (nfM_letters : Nat → Int32), (0 ≤ niM_end.toInt ∧ niM_end.toInt ≤ 900) ∧ (0 ≤ niM_nameSize.toInt ∧ niM_nameSize.toInt ≤ 900) ∧ (iM_end.toInt ≤ niM_end.toInt) ∧ (ImpP (niM_token.toInt = 2) (niM_nameSize.toInt ≤ 8)) ∧ (ImpP (iM_failed.toInt ≤ 0 ∧ niM_token.toInt = 59 ) (iM_end.toInt + 1 ≤ niM_end.toInt)) ∧ (PX7_pass fM_tape iM_size iM_at iM_end iM_token iM_whole iM_nameSize fM_letters iM_failed = (niM_at, niM_end, niM_token, niM_whole, niM_nameSize, nfM_letters)) ∧ Bw dC dI (va_A [(oc7 oM iM_thrown rM_tape iM_taped iM_size iM_at iM_end iM_token iM_whole iM_nameSize iM_fault iM_place iM_trouble rM_letters iM_failed iM_hasCourt rM_r rM_fresh rM_told rM_read rM_st rM_undone rM_kept iM_undos iM_images rM_fresher iM_fresherSize iM_scale iM_night rM_heardRow rM_cutRow iM_breaths iM_cutMany iM_allBreaths rM_trial rM_words iM_fewestBreaths iM_orderMany iM_orderSum iM_leastOrder rM_often iM_setMany iM_someOf iM_allOf iM_allWeight iM_enoughWeight iM_worthSum iM_firstRest iM_leastDrawn), (arI rM_tape kM_tape 900 fM_tape), (arI rM_letters kM_letters 8 fM_letters)] sz) [(oc7 oM iM_thrown rM_tape iM_taped iM_size niM_at niM_end niM_token niM_whole niM_nameSize iM_fault iM_place iM_trouble rM_letters iM_failed iM_hasCourt rM_r rM_fresh rM_told rM_read rM_st rM_undone rM_kept iM_undos iM_images rM_fresher iM_fresherSize iM_scale iM_night rM_heardRow rM_cutRow iM_breaths iM_cutMany iM_allBreaths rM_trial rM_words iM_fewestBreaths iM_orderMany iM_orderSum iM_leastOrder rM_often iM_setMany iM_someOf iM_allOf iM_allWeight iM_enoughWeight iM_worthSum iM_firstRest iM_leastDrawn), (arI rM_tape kM_tape 900 fM_tape), (arI rM_letters kM_letters 8 nfM_letters)] [(kM_tape, .int), (kM_letters, .int)] t) (va_A [(oc7 oM iM_thrown rM_tape iM_taped iM_size iM_at iM_end iM_token iM_whole iM_nameSize iM_fault iM_place iM_trouble rM_letters iM_failed iM_hasCourt rM_r rM_fresh rM_told rM_read rM_st rM_undone rM_kept iM_undos iM_images rM_fresher iM_fresherSize iM_scale iM_night rM_heardRow rM_cutRow iM_breaths iM_cutMany iM_allBreaths rM_trial rM_words iM_fewestBreaths iM_orderMany iM_orderSum iM_leastOrder rM_often iM_setMany iM_someOf iM_allOf iM_allWeight iM_enoughWeight iM_worthSum iM_firstRest iM_leastDrawn), (arI rM_tape kM_tape 900 fM_tape), (arI rM_letters kM_letters 8 fM_letters)] sz)) 0 0 (va_A [(oc7 oM iM_thrown rM_tape iM_taped iM_size iM_at iM_end iM_token iM_whole iM_nameSize iM_fault iM_place iM_trouble rM_letters iM_failed iM_hasCourt rM_r rM_fresh rM_told rM_read rM_st rM_undone rM_kept iM_undos iM_images rM_fresher iM_fresherSize iM_scale iM_night rM_heardRow rM_cutRow iM_breaths iM_cutMany iM_allBreaths rM_trial rM_words iM_fewestBreaths iM_orderMany iM_orderSum iM_leastOrder rM_often iM_setMany iM_someOf iM_allOf iM_allWeight iM_enoughWeight iM_worthSum iM_firstRest iM_leastDrawn), (arI rM_tape kM_tape 900 fM_tape), (arI rM_letters kM_letters 8 fM_letters)] sz) := by
  refine Met.ofW (cc := cX7_pass) (maxL := 1) (ret := none) (by decide) rfl ?_
  intro p e s m args below meth c s₁ B hml hv
  obtain ⟨rfl, hsz, hP, hK, hD0, hE⟩ := hv
  have hx := B.exec
  have hb := B.bytes
  have hr := B.returns
  have hts : ∀ w ∈ wG, w.before ([.ref oM] : List Value).toArray s = true := fun w h => atoms_spec (ws := Cond.code yX7_pass cX7_pass 1 none :: wG) B.pre w (List.mem_cons_of_mem _ h)
  have hown : s.vm.findClass RX7 = some m.cls := findClass_of_methodNamed B.named
  have hlocks := B.notSynchronized
  subst hsz
  have hD := hD0.self (sz := s.heap.size)
  generalize hAe : va_A [(oc7 oM iM_thrown rM_tape iM_taped iM_size iM_at iM_end iM_token iM_whole iM_nameSize iM_fault iM_place iM_trouble rM_letters iM_failed iM_hasCourt rM_r rM_fresh rM_told rM_read rM_st rM_undone rM_kept iM_undos iM_images rM_fresher iM_fresherSize iM_scale iM_night rM_heardRow rM_cutRow iM_breaths iM_cutMany iM_allBreaths rM_trial rM_words iM_fewestBreaths iM_orderMany iM_orderSum iM_leastOrder rM_often iM_setMany iM_someOf iM_allOf iM_allWeight iM_enoughWeight iM_worthSum iM_firstRest iM_leastDrawn), (arI rM_tape kM_tape 900 fM_tape), (arI rM_letters kM_letters 8 fM_letters)] s.heap.size = A at hD hE ⊢
  have hA : ∀ q : Nat, s.heap.size ≤ q → A q := fun q h => by rw [← hAe]; exact Or.inr h
  have hS : va_S A s.heap s.heap [] := va_S.rf
  have hl := lv_entry ([.ref oM]) (n := 1) (Nat.le_of_ble_eq_true rfl)
  rw [lg_entry_eq]
  generalize (lg_sl ([.ref oM]) ++ List.replicate (1 - (lg_sl ([.ref oM])).length) Slot.unset).toArray = ls at hl ⊢
  have hl : lv_has ls 1 [(0, .ref oM)] := hl
  have hG := PX7_pass_eq fM_tape iM_size iM_at iM_end iM_token iM_whole iM_nameSize fM_letters iM_failed
  refine lv_aload_n hx hb dX7_pass_0 rfl (lv_at hl 0 rfl) ?_
  refine va_get (D := (dC, dI)) (ci := 7) (v := .int iM_failed) (C := RX7) (T := TX7) (N := 48) hx hb hts inX7 hown hK hP 0 rfl rfl 13 (by decide) (hts _ wd_380) (fun _ h9 => h9) rfl dX7_pass_1 ?_
  refine lv_if_ne (tgt := 11) hx hb dX7_pass_4 (by decide) (fun c_5290 => ?_) (fun c_5290 => ?_)
  · skip
    have hG := hG.trans (if_neg c_5290)
    have gc_5290 := ti_ne c_5290 rfl kc_0
    replace gc_5290 : (-1) * iM_failed.toInt + 1 ≤ 0 := by omega
    exact W.vret hx hb hr (fun t ht hW => ⟨⟨0, rfl, trivial, ⟨iM_at, iM_end, iM_token, iM_whole, iM_nameSize, fM_letters, (by omega), (by omega), (by first | assumption | (have q0 := kc_0; have q1 := kc_1; omega)), r_T, (fun h9 => by have q0 := kc_0; have q1 := kc_1; omega), hG, Bw.to (hP.sub [0, 1, 2] rfl) (hD.sub [0, 1, 2] (by decide) rfl) (hK.sub [0, 1] rfl) ht hW⟩⟩, hS.F ht⟩) hS.2.2 dX7_pass_11
  · skip
    have hG := hG.trans (if_pos c_5290)
    have gc_5290 := ti_eq c_5290 rfl kc_0
    refine lv_aload_n hx hb dX7_pass_7 rfl (lv_at hl 0 rfl) ?_
    have hFc := va_free (wc := [(oc7 oM iM_thrown rM_tape iM_taped iM_size iM_at iM_end iM_token iM_whole iM_nameSize iM_fault iM_place iM_trouble rM_letters iM_failed iM_hasCourt rM_r rM_fresh rM_told rM_read rM_st rM_undone rM_kept iM_undos iM_images rM_fresher iM_fresherSize iM_scale iM_night rM_heardRow rM_cutRow iM_breaths iM_cutMany iM_allBreaths rM_trial rM_words iM_fewestBreaths iM_orderMany iM_orderSum iM_leastOrder rM_often iM_setMany iM_someOf iM_allOf iM_allWeight iM_enoughWeight iM_worthSum iM_firstRest iM_leastDrawn), (arI rM_tape kM_tape 900 fM_tape), (arI rM_letters kM_letters 8 fM_letters)]) hD hS hA [0, 1, 2] rfl
    refine va_callv (va_runV (As := []) (rest := []) ⟨hx, hb, hml, hown, hts⟩ (tX7_next l dC dI _ oM iM_thrown rM_tape fM_tape kM_tape iM_taped iM_size iM_at iM_end iM_token iM_whole iM_nameSize iM_fault iM_place iM_trouble rM_letters fM_letters kM_letters iM_failed iM_hasCourt rM_r rM_fresh rM_told rM_read rM_st rM_undone rM_kept iM_undos iM_images rM_fresher iM_fresherSize iM_scale iM_night rM_heardRow rM_cutRow iM_breaths iM_cutMany iM_allBreaths rM_trial rM_words iM_fewestBreaths iM_orderMany iM_orderSum iM_leastOrder rM_often iM_setMany iM_someOf iM_allOf iM_allWeight iM_enoughWeight iM_worthSum iM_firstRest iM_leastDrawn (by first | omega | decide) (by first | omega | decide) (by first | omega | decide) (by first | omega | decide) (by first | omega | decide) (by first | omega | decide) (by first | omega | decide) (by first | omega | decide) (by first | omega | decide) (by first | omega | decide) (by first | omega | decide) (by first | assumption | exact (fun h9 => by have q0 := kc_0; have q1 := kc_1; omega))) (cwV 0 hts (wd_V wd_400 wd_401 wd_402 wd_5 (wd_c wd_403)) rfl rfl rfl (by decide +kernel) ⟨Nat.le_of_ble_eq_true rfl, Nat.le_of_ble_eq_true rfl⟩) ⟨Pw.fb, va_recv hK hP (ci := 7) (q0 := 0) rfl rfl, fun U hU hW => Pw.to (hP.sub [0, 1, 2] rfl) (hD.sub [0, 1, 2] (by decide) rfl) (hK.sub [0, 1] rfl) hE hS hFc hU hW⟩ rfl rfl hl.1 rfl (lv_room (Nat.le_of_ble_eq_true rfl)) dX7_pass_8 ⟨Nat.le_of_ble_eq_true rfl, Nat.le_of_ble_eq_true rfl⟩) hS (fun q _ h => hFc q h) hFc (fun u t H locs ht hvm hw hB hz1 hk1 hS => ?_)
    obtain ⟨x_5291, x_5292, x_5293, x_5294, x_5295, f_5296, b_x_5292, b_x_5295, e_x_5291_0, e_x_5291_1, e_x_5291_2, e_x_5291_3, hB⟩ := hB
    obtain ⟨hP, hD, hK⟩ := Bw.go (ws' := [(oc7 oM iM_thrown rM_tape iM_taped iM_size x_5291 x_5292 x_5293 x_5294 x_5295 iM_fault iM_place iM_trouble rM_letters iM_failed iM_hasCourt rM_r rM_fresh rM_told rM_read rM_st rM_undone rM_kept iM_undos iM_images rM_fresher iM_fresherSize iM_scale iM_night rM_heardRow rM_cutRow iM_breaths iM_cutMany iM_allBreaths rM_trial rM_words iM_fewestBreaths iM_orderMany iM_orderSum iM_leastOrder rM_often iM_setMany iM_someOf iM_allOf iM_allWeight iM_enoughWeight iM_worthSum iM_firstRest iM_leastDrawn), (arI rM_tape kM_tape 900 fM_tape), (arI rM_letters kM_letters 8 f_5296)]) (tys' := [(kM_tape, .int), (kM_letters, .int)]) hB rfl ht hvm hP hD hK [0, 1, 2] [] rfl (by decide) (by decide) [] hk1 hFc rfl rfl rfl
    clear hz1 hk1 hvm ht hB
    have hG := hG.trans (un6_eq e_x_5291_3)
    clear r_T
    exact W.vret hx hb hr (fun t ht hW => ⟨⟨0, rfl, trivial, ⟨x_5291, x_5292, x_5293, x_5294, x_5295, f_5296, b_x_5292, b_x_5295, (by first | assumption | (have q0 := kc_0; have q1 := kc_1; omega)), e_x_5291_1, (fun h9 => by have q0 := kc_0; have q1 := kc_1; have q9 := e_x_5291_2 (by omega); omega), hG, Bw.to (hP.sub [0, 1, 2] rfl) (hD.sub [0, 1, 2] (by decide) rfl) (hK.sub [0, 1] rfl) ht hW⟩⟩, hS.F ht⟩) hS.2.2 dX7_pass_11
set_option maxHeartbeats 4000000 in
set_option maxRecDepth 100000 in
theorem tX7_number (l : Launch) (dC : Nat → ClassId) (dI : Nat → Nat → Nat) (sz : Nat) (oM : Nat) (iM_thrown : Int32) (rM_tape : Nat) (fM_tape : Nat → Int32) (kM_tape : ClassId) (iM_taped : Int32) (iM_size : Int32) (iM_at : Int32) (iM_end : Int32) (iM_token : Int32) (iM_whole : Int32) (iM_nameSize : Int32) (iM_fault : Int32) (iM_place : Int32) (iM_trouble : Int32) (rM_letters : Nat) (fM_letters : Nat → Int32) (kM_letters : ClassId) (iM_failed : Int32) (iM_hasCourt : Int32) (rM_r : Nat) (rM_fresh : Nat) (rM_told : Nat) (rM_read : Nat) (rM_st : Nat) (rM_undone : Nat) (rM_kept : Nat) (iM_undos : Int32) (iM_images : Int32) (rM_fresher : Nat) (iM_fresherSize : Int32) (iM_scale : Int32) (iM_night : Int32) (rM_heardRow : Nat) (rM_cutRow : Nat) (iM_breaths : Int32) (iM_cutMany : Int32) (iM_allBreaths : Int32) (rM_trial : Nat) (rM_words : Nat) (iM_fewestBreaths : Int32) (iM_orderMany : Int32) (iM_orderSum : Int32) (iM_leastOrder : Int32) (rM_often : Nat) (iM_setMany : Int32) (iM_someOf : Int32) (iM_allOf : Int32) (iM_allWeight : Int64) (iM_enoughWeight : Int64) (iM_worthSum : Int64) (iM_firstRest : Int32) (iM_leastDrawn : Int32) (p0 : Int32) (p1 : Int32) (b_iM_taped : 0 ≤ iM_taped.toInt ∧ iM_taped.toInt ≤ 900) (b_iM_size : 0 ≤ iM_size.toInt ∧ iM_size.toInt ≤ 900) (b_iM_end : 0 ≤ iM_end.toInt ∧ iM_end.toInt ≤ 900) (b_iM_nameSize : 0 ≤ iM_nameSize.toInt ∧ iM_nameSize.toInt ≤ 900) (b_iM_failed : 0 ≤ iM_failed.toInt ∧ iM_failed.toInt ≤ 1) (b_iM_hasCourt : 0 ≤ iM_hasCourt.toInt ∧ iM_hasCourt.toInt ≤ 1) (b_iM_undos : 0 ≤ iM_undos.toInt ∧ iM_undos.toInt ≤ 16) (b_iM_images : 0 ≤ iM_images.toInt ∧ iM_images.toInt ≤ 3) (b_iM_scale : 1 ≤ iM_scale.toInt ∧ iM_scale.toInt ≤ 1296) (b_iM_breaths : 0 ≤ iM_breaths.toInt ∧ iM_breaths.toInt ≤ 399) (b_iM_cutMany : 0 ≤ iM_cutMany.toInt ∧ iM_cutMany.toInt ≤ 399) (r_T : ImpP (iM_token.toInt = 2) (iM_nameSize.toInt ≤ 8)) (hlh : p0.toInt ≤ p1.toInt) : Met l yX7_number (Cond.code yX7_number cX7_number 4 (some .int) :: wG) ({ frames := 2, cells := 0, slots := 0, locals := 44 }) (va_Pc [.ref oM, .int p0, .int p1] (Pw dC dI sz [(oc7 oM iM_thrown rM_tape iM_taped iM_size iM_at iM_end iM_token iM_whole iM_nameSize iM_fault iM_place iM_trouble rM_letters iM_failed iM_hasCourt rM_r rM_fresh rM_told rM_read rM_st rM_undone rM_kept iM_undos iM_images rM_fresher iM_fresherSize iM_scale iM_night rM_heardRow rM_cutRow iM_breaths iM_cutMany iM_allBreaths rM_trial rM_words iM_fewestBreaths iM_orderMany iM_orderSum iM_leastOrder rM_often iM_setMany iM_someOf iM_allOf iM_allWeight iM_enoughWeight iM_worthSum iM_firstRest iM_leastDrawn), (arI rM_tape kM_tape 900 fM_tape), (arI rM_letters kM_letters 8 fM_letters)] [(kM_tape, .int), (kM_letters, .int)])) (va_Qi (fun (r : Int32) (u : Nat) => (True ∧ (p0.toInt ≤ r.toInt ∧ r.toInt ≤ p1.toInt)) ∧ r = Int32.ofNat u) (fun (u : Nat) (t : State) => ∃ (niM_at : Int32) (niM_end : Int32) (niM_token : Int32) (niM_whole : Int32) (niM_nameSize : Int32) (niM_fault : Int32) (niM_place : Int32) (niM_failed : Int32) (nfM_letters : Nat → Int32), (0 ≤ niM_end.toInt ∧ niM_end.toInt ≤ 900) ∧ (0 ≤ niM_nameSize.toInt ∧ niM_nameSize.toInt ≤ 900) ∧ (0 ≤ niM_failed.toInt ∧ niM_failed.toInt ≤ 1) ∧ (iM_end.toInt ≤ niM_end.toInt) ∧ (ImpP (niM_token.toInt = 2) (niM_nameSize.toInt ≤ 8)) ∧ (iM_failed.toInt ≤ niM_failed.toInt) ∧ (ImpP (niM_failed.toInt ≤ 0 ∧ niM_token.toInt = 59 ) (iM_end.toInt + 1 ≤ niM_end.toInt)) ∧ (PX7_number fM_tape iM_size iM_at iM_end iM_token iM_whole iM_nameSize iM_fault iM_place fM_letters iM_failed p0 p1 = (Int32.ofNat u, niM_at, niM_end, niM_token, niM_whole, niM_nameSize, niM_fault, niM_place, niM_failed, nfM_letters)) ∧ Bw dC dI (va_A [(oc7 oM iM_thrown rM_tape iM_taped iM_size iM_at iM_end iM_token iM_whole iM_nameSize iM_fault iM_place iM_trouble rM_letters iM_failed iM_hasCourt rM_r rM_fresh rM_told rM_read rM_st rM_undone rM_kept iM_undos iM_images rM_fresher iM_fresherSize iM_scale iM_night rM_heardRow rM_cutRow iM_breaths iM_cutMany iM_allBreaths rM_trial rM_words iM_fewestBreaths iM_orderMany iM_orderSum iM_leastOrder rM_often iM_setMany iM_someOf iM_allOf iM_allWeight iM_enoughWeight iM_worthSum iM_firstRest iM_leastDrawn), (arI rM_tape kM_tape 900 fM_tape), (arI rM_letters kM_letters 8 fM_letters)] sz) [(oc7 oM iM_thrown rM_tape iM_taped iM_size niM_at niM_end niM_token niM_whole niM_nameSize niM_fault niM_place iM_trouble rM_letters niM_failed iM_hasCourt rM_r rM_fresh rM_told rM_read rM_st rM_undone rM_kept iM_undos iM_images rM_fresher iM_fresherSize iM_scale iM_night rM_heardRow rM_cutRow iM_breaths iM_cutMany iM_allBreaths rM_trial rM_words iM_fewestBreaths iM_orderMany iM_orderSum iM_leastOrder rM_often iM_setMany iM_someOf iM_allOf iM_allWeight iM_enoughWeight iM_worthSum iM_firstRest iM_leastDrawn), (arI rM_tape kM_tape 900 fM_tape), (arI rM_letters kM_letters 8 nfM_letters)] [(kM_tape, .int), (kM_letters, .int)] t) (va_A [(oc7 oM iM_thrown rM_tape iM_taped iM_size iM_at iM_end iM_token iM_whole iM_nameSize iM_fault iM_place iM_trouble rM_letters iM_failed iM_hasCourt rM_r rM_fresh rM_told rM_read rM_st rM_undone rM_kept iM_undos iM_images rM_fresher iM_fresherSize iM_scale iM_night rM_heardRow rM_cutRow iM_breaths iM_cutMany iM_allBreaths rM_trial rM_words iM_fewestBreaths iM_orderMany iM_orderSum iM_leastOrder rM_often iM_setMany iM_someOf iM_allOf iM_allWeight iM_enoughWeight iM_worthSum iM_firstRest iM_leastDrawn), (arI rM_tape kM_tape 900 fM_tape), (arI rM_letters kM_letters 8 fM_letters)] sz)) 0 0 (va_A [(oc7 oM iM_thrown rM_tape iM_taped iM_size iM_at iM_end iM_token iM_whole iM_nameSize iM_fault iM_place iM_trouble rM_letters iM_failed iM_hasCourt rM_r rM_fresh rM_told rM_read rM_st rM_undone rM_kept iM_undos iM_images rM_fresher iM_fresherSize iM_scale iM_night rM_heardRow rM_cutRow iM_breaths iM_cutMany iM_allBreaths rM_trial rM_words iM_fewestBreaths iM_orderMany iM_orderSum iM_leastOrder rM_often iM_setMany iM_someOf iM_allOf iM_allWeight iM_enoughWeight iM_worthSum iM_firstRest iM_leastDrawn), (arI rM_tape kM_tape 900 fM_tape), (arI rM_letters kM_letters 8 fM_letters)] sz) := by
  refine Met.ofW (cc := cX7_number) (maxL := 4) (ret := (some .int)) (by decide) rfl ?_
  intro p e s m args below meth c s₁ B hml hv
  obtain ⟨rfl, hsz, hP, hK, hD0, hE⟩ := hv
  have hx := B.exec
  have hb := B.bytes
  have hr := B.returns
  have hts : ∀ w ∈ wG, w.before ([.ref oM, .int p0, .int p1] : List Value).toArray s = true := fun w h => atoms_spec (ws := Cond.code yX7_number cX7_number 4 (some .int) :: wG) B.pre w (List.mem_cons_of_mem _ h)
  have hown : s.vm.findClass RX7 = some m.cls := findClass_of_methodNamed B.named
  have hlocks := B.notSynchronized
  subst hsz
  have hD := hD0.self (sz := s.heap.size)
  generalize hAe : va_A [(oc7 oM iM_thrown rM_tape iM_taped iM_size iM_at iM_end iM_token iM_whole iM_nameSize iM_fault iM_place iM_trouble rM_letters iM_failed iM_hasCourt rM_r rM_fresh rM_told rM_read rM_st rM_undone rM_kept iM_undos iM_images rM_fresher iM_fresherSize iM_scale iM_night rM_heardRow rM_cutRow iM_breaths iM_cutMany iM_allBreaths rM_trial rM_words iM_fewestBreaths iM_orderMany iM_orderSum iM_leastOrder rM_often iM_setMany iM_someOf iM_allOf iM_allWeight iM_enoughWeight iM_worthSum iM_firstRest iM_leastDrawn), (arI rM_tape kM_tape 900 fM_tape), (arI rM_letters kM_letters 8 fM_letters)] s.heap.size = A at hD hE ⊢
  have hA : ∀ q : Nat, s.heap.size ≤ q → A q := fun q h => by rw [← hAe]; exact Or.inr h
  have hS : va_S A s.heap s.heap [] := va_S.rf
  have hl := lv_entry ([.ref oM, .int p0, .int p1]) (n := 4) (Nat.le_of_ble_eq_true rfl)
  rw [lg_entry_eq]
  generalize (lg_sl ([.ref oM, .int p0, .int p1]) ++ List.replicate (4 - (lg_sl ([.ref oM, .int p0, .int p1])).length) Slot.unset).toArray = ls at hl ⊢
  have hl : lv_has ls 4 [(0, .ref oM), (1, .int p0), (2, .int p1)] := hl
  have hG := PX7_number_eq fM_tape iM_size iM_at iM_end iM_token iM_whole iM_nameSize iM_fault iM_place fM_letters iM_failed p0 p1
  refine lv_aload_n hx hb dX7_number_0 rfl (lv_at hl 0 rfl) ?_
  refine va_get (D := (dC, dI)) (ci := 7) (v := .int iM_failed) (C := RX7) (T := TX7) (N := 48) hx hb hts inX7 hown hK hP 0 rfl rfl 13 (by decide) (hts _ wd_380) (fun _ h9 => h9) rfl dX7_number_1 ?_
  refine lv_if_eq (tgt := 9) hx hb dX7_number_4 (by decide) (fun c_5317 => ?_) (fun c_5317 => ?_)
  · skip
    have hG := hG.trans (if_pos c_5317)
    have gc_5317 := ti_eq c_5317 rfl kc_0
    refine lv_aload_n hx hb dX7_number_9 rfl (lv_at hl 0 rfl) ?_
    refine va_get (D := (dC, dI)) (ci := 7) (v := .int iM_token) (C := RX7) (T := TX7) (N := 48) hx hb hts inX7 hown hK hP 0 rfl rfl 6 (by decide) (hts _ wd_383) (fun _ h9 => h9) rfl dX7_number_10 ?_
    refine lv_iconst (v := 3) hx hb dX7_number_13 (by decide) ?_
    refine lv_icmp_eq (tgt := 29) hx hb dX7_number_14 (by decide) (fun c_5318 => ?_) (fun c_5318 => ?_)
    · skip
      have hG := hG.trans (if_pos c_5318)
      have gc_5318 := ti_eq c_5318 rfl kc_3
      refine lv_aload_n hx hb dX7_number_29 rfl (lv_at hl 0 rfl) ?_
      refine va_get (D := (dC, dI)) (ci := 7) (v := .int iM_whole) (C := RX7) (T := TX7) (N := 48) hx hb hts inX7 hown hK hP 0 rfl rfl 7 (by decide) (hts _ wd_405) (fun _ h9 => h9) rfl dX7_number_30 ?_
      refine lv_iload_n hx hb dX7_number_33 rfl (lv_at hl 1 rfl) ?_
      refine lv_iload_n hx hb dX7_number_34 rfl (lv_at hl 2 rfl) ?_
      have hFc : ∀ q, va_A [] _ q → A q := fun q h => hA q (Nat.le_trans hS.1 (va_nilA h))
      refine va_calli (va_runS (As := [.int iM_whole, .int p0, .int p1]) (rest := []) ⟨hx, hb, hml, hown, hts⟩ (tX7_in l dC dI _ iM_whole p0 p1 ) (va_cwS 3 hts (wd_S wd_393 wd_394 wd_5 (wd_c wd_395)) rfl rfl rfl (by decide +kernel) ⟨Nat.le_of_ble_eq_true rfl, Nat.le_of_ble_eq_true rfl⟩) ⟨Pw.fb, fun U hU hW => Pn.to hK hE hS hA hU hW⟩ rfl rfl hl.1 rfl (lv_room (Nat.le_of_ble_eq_true rfl)) dX7_number_35 ⟨Nat.le_of_ble_eq_true rfl, Nat.le_of_ble_eq_true rfl⟩) hS (fun q _ h => hFc q h) hFc (fun r u t H locs ht hvm hw hB hz1 hk1 hS => ?_)
      obtain ⟨hP, hD, hK⟩ := Bw.same ht hvm hP hD hK hk1 hFc
      clear hz1 hk1 hvm ht hB
      have hq9 := hw.2
      have hw := hw.1
      obtain ⟨x_5319, rfl⟩ : ∃ z, z = r := ⟨_, rfl⟩
      have hq_x_5319 := hq9
      have hG := hG.trans (lt_eq hq_x_5319.symm)
      have bx_5319 := hw.1
      have dx_5319 := bz_ti bx_5319
      have px_5319 := hw.2
      rcases px_5319 with ⟨gx_5319, hx_5319⟩ | ⟨gx_5319, hx_5319⟩
      · skip
        refine lv_if_ne (tgt := 50) hx hb dX7_number_38 (by decide) (fun c_5320 => ?_) (fun c_5320 => ?_)
        · skip
          have hG := hG.trans (if_neg c_5320)
          have gc_5320 := ti_ne c_5320 rfl kc_0
          replace gc_5320 : (-1) * x_5319.toInt + 1 ≤ 0 := by omega
          refine lv_aload_n hx hb dX7_number_50 rfl (lv_at hl 0 rfl) ?_
          refine va_get (D := (dC, dI)) (ci := 7) (v := .int iM_failed) (C := RX7) (T := TX7) (N := 48) hx hb hts inX7 hown hK hP 0 rfl rfl 13 (by decide) (hts _ wd_380) (fun _ h9 => h9) rfl dX7_number_51 ?_
          refine lv_if_eq (tgt := 59) hx hb dX7_number_54 (by decide) (fun c_5321 => ?_) (fun c_5321 => ?_)
          · skip
            have hG := hG.trans (if_pos c_5321)
            have gc_5321 := ti_eq c_5321 rfl kc_0
            refine lv_aload_n hx hb dX7_number_59 rfl (lv_at hl 0 rfl) ?_
            refine va_get (D := (dC, dI)) (ci := 7) (v := .int iM_whole) (C := RX7) (T := TX7) (N := 48) hx hb hts inX7 hown hK hP 0 rfl rfl 7 (by decide) (hts _ wd_405) (fun _ h9 => h9) rfl dX7_number_60 ?_
            refine lv_istore_n (lv' := [(3, .int iM_whole), (0, .ref oM), (1, .int p0), (2, .int p1)]) hx hb dX7_number_63 rfl hl (by decide) rfl (fun ls hl => ?_)
            refine lv_aload_n hx hb dX7_number_64 rfl (lv_at hl 1 rfl) ?_
            have hFc := va_free (wc := [(oc7 oM iM_thrown rM_tape iM_taped iM_size iM_at iM_end iM_token iM_whole iM_nameSize iM_fault iM_place iM_trouble rM_letters iM_failed iM_hasCourt rM_r rM_fresh rM_told rM_read rM_st rM_undone rM_kept iM_undos iM_images rM_fresher iM_fresherSize iM_scale iM_night rM_heardRow rM_cutRow iM_breaths iM_cutMany iM_allBreaths rM_trial rM_words iM_fewestBreaths iM_orderMany iM_orderSum iM_leastOrder rM_often iM_setMany iM_someOf iM_allOf iM_allWeight iM_enoughWeight iM_worthSum iM_firstRest iM_leastDrawn), (arI rM_tape kM_tape 900 fM_tape), (arI rM_letters kM_letters 8 fM_letters)]) hD hS hA [0, 1, 2] rfl
            refine va_callv (va_runV (As := []) (rest := []) ⟨hx, hb, hml, hown, hts⟩ (tX7_next l dC dI _ oM iM_thrown rM_tape fM_tape kM_tape iM_taped iM_size iM_at iM_end iM_token iM_whole iM_nameSize iM_fault iM_place iM_trouble rM_letters fM_letters kM_letters iM_failed iM_hasCourt rM_r rM_fresh rM_told rM_read rM_st rM_undone rM_kept iM_undos iM_images rM_fresher iM_fresherSize iM_scale iM_night rM_heardRow rM_cutRow iM_breaths iM_cutMany iM_allBreaths rM_trial rM_words iM_fewestBreaths iM_orderMany iM_orderSum iM_leastOrder rM_often iM_setMany iM_someOf iM_allOf iM_allWeight iM_enoughWeight iM_worthSum iM_firstRest iM_leastDrawn (by first | omega | decide) (by first | omega | decide) (by first | omega | decide) (by first | omega | decide) (by first | omega | decide) (by first | omega | decide) (by first | omega | decide) (by first | omega | decide) (by first | omega | decide) (by first | omega | decide) (by first | omega | decide) (by first | assumption | exact (fun h9 => by have q0 := kc_0; have q1 := kc_1; omega))) (cwV 0 hts (wd_V wd_400 wd_401 wd_402 wd_5 (wd_c wd_403)) rfl rfl rfl (by decide +kernel) ⟨Nat.le_of_ble_eq_true rfl, Nat.le_of_ble_eq_true rfl⟩) ⟨Pw.fb, va_recv hK hP (ci := 7) (q0 := 0) rfl rfl, fun U hU hW => Pw.to (hP.sub [0, 1, 2] rfl) (hD.sub [0, 1, 2] (by decide) rfl) (hK.sub [0, 1] rfl) hE hS hFc hU hW⟩ rfl rfl hl.1 rfl (lv_room (Nat.le_of_ble_eq_true rfl)) dX7_number_65 ⟨Nat.le_of_ble_eq_true rfl, Nat.le_of_ble_eq_true rfl⟩) hS (fun q _ h => hFc q h) hFc (fun u t H locs ht hvm hw hB hz1 hk1 hS => ?_)
            obtain ⟨x_5322, x_5323, x_5324, x_5325, x_5326, f_5327, b_x_5323, b_x_5326, e_x_5322_0, e_x_5322_1, e_x_5322_2, e_x_5322_3, hB⟩ := hB
            obtain ⟨hP, hD, hK⟩ := Bw.go (ws' := [(oc7 oM iM_thrown rM_tape iM_taped iM_size x_5322 x_5323 x_5324 x_5325 x_5326 iM_fault iM_place iM_trouble rM_letters iM_failed iM_hasCourt rM_r rM_fresh rM_told rM_read rM_st rM_undone rM_kept iM_undos iM_images rM_fresher iM_fresherSize iM_scale iM_night rM_heardRow rM_cutRow iM_breaths iM_cutMany iM_allBreaths rM_trial rM_words iM_fewestBreaths iM_orderMany iM_orderSum iM_leastOrder rM_often iM_setMany iM_someOf iM_allOf iM_allWeight iM_enoughWeight iM_worthSum iM_firstRest iM_leastDrawn), (arI rM_tape kM_tape 900 fM_tape), (arI rM_letters kM_letters 8 f_5327)]) (tys' := [(kM_tape, .int), (kM_letters, .int)]) hB rfl ht hvm hP hD hK [0, 1, 2] [] rfl (by decide) (by decide) [] hk1 hFc rfl rfl rfl
            clear hz1 hk1 hvm ht hB
            have hG := hG.trans (un6_eq e_x_5322_3)
            clear r_T
            refine lv_iload_n hx hb dX7_number_68 rfl (lv_at hl 0 rfl) ?_
            exact W.iret hx hb hr (fun t ht hW => ⟨⟨_, (cI iM_whole), rfl, ⟨⟨trivial, (by first | omega | assumption)⟩, (cI_of iM_whole)⟩, ⟨x_5322, x_5323, x_5324, x_5325, x_5326, iM_fault, iM_place, iM_failed, f_5327, b_x_5323, b_x_5326, (by omega), (by first | assumption | (have q0 := kc_0; have q1 := kc_1; omega)), e_x_5322_1, (by first | assumption | (have q0 := kc_0; have q1 := kc_1; omega)), (fun h9 => by have q0 := kc_0; have q1 := kc_1; have q9 := e_x_5322_2 (by omega); omega), (cI_tup hG), Bw.to (hP.sub [0, 1, 2] rfl) (hD.sub [0, 1, 2] (by decide) rfl) (hK.sub [0, 1] rfl) ht hW⟩⟩, hS.F ht⟩) hS.2.2 dX7_number_69
          · skip
            have hG := hG.trans (if_neg c_5321)
            have gc_5321 := ti_ne c_5321 rfl kc_0
            replace gc_5321 : iM_failed.toInt + 1 ≤ 0 := by omega
            exfalso; clear hG; omega
        · skip
          have hG := hG.trans (if_pos c_5320)
          have gc_5320 := ti_eq c_5320 rfl kc_0
          exfalso; clear hG; omega
      · skip
        refine lv_if_ne (tgt := 50) hx hb dX7_number_38 (by decide) (fun c_5328 => ?_) (fun c_5328 => ?_)
        · skip
          have hG := hG.trans (if_neg c_5328)
          have gc_5328 := ti_ne c_5328 rfl kc_0
          replace gc_5328 : x_5319.toInt + 1 ≤ 0 := by omega
          exfalso; clear hG; omega
        · skip
          have hG := hG.trans (if_pos c_5328)
          have gc_5328 := ti_eq c_5328 rfl kc_0
          refine lv_aload_n hx hb dX7_number_41 rfl (lv_at hl 0 rfl) ?_
          refine lv_iconst (v := 4) hx hb dX7_number_42 (by decide) ?_
          refine lv_aload_n hx hb dX7_number_43 rfl (lv_at hl 0 rfl) ?_
          refine va_get (D := (dC, dI)) (ci := 7) (v := .int iM_at) (C := RX7) (T := TX7) (N := 48) hx hb hts inX7 hown hK hP 0 rfl rfl 4 (by decide) (hts _ wd_384) (fun _ h9 => h9) rfl dX7_number_44 ?_
          have hFc := va_free (wc := [(oc7 oM iM_thrown rM_tape iM_taped iM_size iM_at iM_end iM_token iM_whole iM_nameSize iM_fault iM_place iM_trouble rM_letters iM_failed iM_hasCourt rM_r rM_fresh rM_told rM_read rM_st rM_undone rM_kept iM_undos iM_images rM_fresher iM_fresherSize iM_scale iM_night rM_heardRow rM_cutRow iM_breaths iM_cutMany iM_allBreaths rM_trial rM_words iM_fewestBreaths iM_orderMany iM_orderSum iM_leastOrder rM_often iM_setMany iM_someOf iM_allOf iM_allWeight iM_enoughWeight iM_worthSum iM_firstRest iM_leastDrawn)]) hD hS hA [0] rfl
          refine va_callv (va_runV (As := [.int 4, .int iM_at]) (rest := []) ⟨hx, hb, hml, hown, hts⟩ (tX7_wrong l dC dI _ oM iM_thrown rM_tape iM_taped iM_size iM_at iM_end iM_token iM_whole iM_nameSize iM_fault iM_place iM_trouble rM_letters iM_failed iM_hasCourt rM_r rM_fresh rM_told rM_read rM_st rM_undone rM_kept iM_undos iM_images rM_fresher iM_fresherSize iM_scale iM_night rM_heardRow rM_cutRow iM_breaths iM_cutMany iM_allBreaths rM_trial rM_words iM_fewestBreaths iM_orderMany iM_orderSum iM_leastOrder rM_often iM_setMany iM_someOf iM_allOf iM_allWeight iM_enoughWeight iM_worthSum iM_firstRest iM_leastDrawn 4 iM_at (by first | omega | decide) (by first | omega | decide) (by first | omega | decide) (by first | omega | decide) (by first | omega | decide) (by first | omega | decide) (by first | omega | decide) (by first | omega | decide) (by first | omega | decide) (by first | omega | decide) (by first | omega | decide) (by first | assumption | exact (fun h9 => by have q0 := kc_0; have q1 := kc_1; omega))) (cwV 2 hts (wd_V wd_430 wd_431 wd_432 wd_5 (wd_c wd_433)) rfl rfl rfl (by decide +kernel) ⟨Nat.le_of_ble_eq_true rfl, Nat.le_of_ble_eq_true rfl⟩) ⟨Pw.fb, va_recv hK hP (ci := 7) (q0 := 0) rfl rfl, fun U hU hW => Pw.to (hP.sub [0] rfl) (hD.sub [0] (by decide) rfl) (hK.sub [] rfl) hE hS hFc hU hW⟩ rfl rfl hl.1 rfl (lv_room (Nat.le_of_ble_eq_true rfl)) dX7_number_47 ⟨Nat.le_of_ble_eq_true rfl, Nat.le_of_ble_eq_true rfl⟩) hS (fun q _ h => hFc q h) hFc (fun u t H locs ht hvm hw hB hz1 hk1 hS => ?_)
          obtain ⟨x_5329, x_5330, x_5331, b_x_5331, e_x_5329_0, e_x_5329_1, hB⟩ := hB
          obtain ⟨hP, hD, hK⟩ := Bw.go (ws' := [(arI rM_tape kM_tape 900 fM_tape), (arI rM_letters kM_letters 8 fM_letters), (oc7 oM iM_thrown rM_tape iM_taped iM_size iM_at iM_end iM_token iM_whole iM_nameSize x_5329 x_5330 iM_trouble rM_letters x_5331 iM_hasCourt rM_r rM_fresh rM_told rM_read rM_st rM_undone rM_kept iM_undos iM_images rM_fresher iM_fresherSize iM_scale iM_night rM_heardRow rM_cutRow iM_breaths iM_cutMany iM_allBreaths rM_trial rM_words iM_fewestBreaths iM_orderMany iM_orderSum iM_leastOrder rM_often iM_setMany iM_someOf iM_allOf iM_allWeight iM_enoughWeight iM_worthSum iM_firstRest iM_leastDrawn)]) (tys' := [(kM_tape, .int), (kM_letters, .int)]) hB rfl ht hvm hP hD hK [0] [1, 2] rfl (by decide) (by decide) [0, 1] hk1 hFc rfl rfl rfl
          clear hz1 hk1 hvm ht hB
          have hG := hG.trans (un3_eq e_x_5329_1)
          refine lv_aload_n hx hb dX7_number_50 rfl (lv_at hl 0 rfl) ?_
          refine va_get (D := (dC, dI)) (ci := 7) (v := .int x_5331) (C := RX7) (T := TX7) (N := 48) hx hb hts inX7 hown hK hP 2 rfl rfl 13 (by decide) (hts _ wd_380) (fun _ h9 => h9) rfl dX7_number_51 ?_
          refine lv_if_eq (tgt := 59) hx hb dX7_number_54 (by decide) (fun c_5332 => ?_) (fun c_5332 => ?_)
          · skip
            have hG := hG.trans (if_pos c_5332)
            have gc_5332 := ti_eq c_5332 rfl kc_0
            exfalso; clear hG; omega
          · skip
            have hG := hG.trans (if_neg c_5332)
            have gc_5332 := ti_ne c_5332 rfl kc_0
            replace gc_5332 : (-1) * x_5331.toInt + 1 ≤ 0 := by omega
            refine lv_iload_n hx hb dX7_number_57 rfl (lv_at hl 1 rfl) ?_
            exact W.iret hx hb hr (fun t ht hW => ⟨⟨_, (cI p0), rfl, ⟨⟨trivial, (by first | omega | assumption)⟩, (cI_of p0)⟩, ⟨iM_at, iM_end, iM_token, iM_whole, iM_nameSize, x_5329, x_5330, x_5331, fM_letters, (by omega), (by omega), b_x_5331, (by first | assumption | (have q0 := kc_0; have q1 := kc_1; omega)), r_T, (by first | assumption | (have q0 := kc_0; have q1 := kc_1; omega)), (fun h9 => by have q0 := kc_0; have q1 := kc_1; omega), (cI_tup hG), Bw.to (hP.sub [2, 0, 1] rfl) (hD.sub [2, 0, 1] (by decide) rfl) (hK.sub [0, 1] rfl) ht hW⟩⟩, hS.F ht⟩) hS.2.2 dX7_number_58
    · skip
      have hG := hG.trans (if_neg c_5318)
      have gc_5318 := ti_ne c_5318 rfl kc_3
      refine lv_aload_n hx hb dX7_number_17 rfl (lv_at hl 0 rfl) ?_
      refine lv_iconst (v := 1) hx hb dX7_number_18 (by decide) ?_
      refine lv_aload_n hx hb dX7_number_19 rfl (lv_at hl 0 rfl) ?_
      refine va_get (D := (dC, dI)) (ci := 7) (v := .int iM_at) (C := RX7) (T := TX7) (N := 48) hx hb hts inX7 hown hK hP 0 rfl rfl 4 (by decide) (hts _ wd_384) (fun _ h9 => h9) rfl dX7_number_20 ?_
      have hFc := va_free (wc := [(oc7 oM iM_thrown rM_tape iM_taped iM_size iM_at iM_end iM_token iM_whole iM_nameSize iM_fault iM_place iM_trouble rM_letters iM_failed iM_hasCourt rM_r rM_fresh rM_told rM_read rM_st rM_undone rM_kept iM_undos iM_images rM_fresher iM_fresherSize iM_scale iM_night rM_heardRow rM_cutRow iM_breaths iM_cutMany iM_allBreaths rM_trial rM_words iM_fewestBreaths iM_orderMany iM_orderSum iM_leastOrder rM_often iM_setMany iM_someOf iM_allOf iM_allWeight iM_enoughWeight iM_worthSum iM_firstRest iM_leastDrawn)]) hD hS hA [0] rfl
      refine va_callv (va_runV (As := [.int 1, .int iM_at]) (rest := []) ⟨hx, hb, hml, hown, hts⟩ (tX7_wrong l dC dI _ oM iM_thrown rM_tape iM_taped iM_size iM_at iM_end iM_token iM_whole iM_nameSize iM_fault iM_place iM_trouble rM_letters iM_failed iM_hasCourt rM_r rM_fresh rM_told rM_read rM_st rM_undone rM_kept iM_undos iM_images rM_fresher iM_fresherSize iM_scale iM_night rM_heardRow rM_cutRow iM_breaths iM_cutMany iM_allBreaths rM_trial rM_words iM_fewestBreaths iM_orderMany iM_orderSum iM_leastOrder rM_often iM_setMany iM_someOf iM_allOf iM_allWeight iM_enoughWeight iM_worthSum iM_firstRest iM_leastDrawn 1 iM_at (by first | omega | decide) (by first | omega | decide) (by first | omega | decide) (by first | omega | decide) (by first | omega | decide) (by first | omega | decide) (by first | omega | decide) (by first | omega | decide) (by first | omega | decide) (by first | omega | decide) (by first | omega | decide) (by first | assumption | exact (fun h9 => by have q0 := kc_0; have q1 := kc_1; omega))) (cwV 2 hts (wd_V wd_430 wd_431 wd_432 wd_5 (wd_c wd_433)) rfl rfl rfl (by decide +kernel) ⟨Nat.le_of_ble_eq_true rfl, Nat.le_of_ble_eq_true rfl⟩) ⟨Pw.fb, va_recv hK hP (ci := 7) (q0 := 0) rfl rfl, fun U hU hW => Pw.to (hP.sub [0] rfl) (hD.sub [0] (by decide) rfl) (hK.sub [] rfl) hE hS hFc hU hW⟩ rfl rfl hl.1 rfl (lv_room (Nat.le_of_ble_eq_true rfl)) dX7_number_23 ⟨Nat.le_of_ble_eq_true rfl, Nat.le_of_ble_eq_true rfl⟩) hS (fun q _ h => hFc q h) hFc (fun u t H locs ht hvm hw hB hz1 hk1 hS => ?_)
      obtain ⟨x_5333, x_5334, x_5335, b_x_5335, e_x_5333_0, e_x_5333_1, hB⟩ := hB
      obtain ⟨hP, hD, hK⟩ := Bw.go (ws' := [(arI rM_tape kM_tape 900 fM_tape), (arI rM_letters kM_letters 8 fM_letters), (oc7 oM iM_thrown rM_tape iM_taped iM_size iM_at iM_end iM_token iM_whole iM_nameSize x_5333 x_5334 iM_trouble rM_letters x_5335 iM_hasCourt rM_r rM_fresh rM_told rM_read rM_st rM_undone rM_kept iM_undos iM_images rM_fresher iM_fresherSize iM_scale iM_night rM_heardRow rM_cutRow iM_breaths iM_cutMany iM_allBreaths rM_trial rM_words iM_fewestBreaths iM_orderMany iM_orderSum iM_leastOrder rM_often iM_setMany iM_someOf iM_allOf iM_allWeight iM_enoughWeight iM_worthSum iM_firstRest iM_leastDrawn)]) (tys' := [(kM_tape, .int), (kM_letters, .int)]) hB rfl ht hvm hP hD hK [0] [1, 2] rfl (by decide) (by decide) [0, 1] hk1 hFc rfl rfl rfl
      clear hz1 hk1 hvm ht hB
      have hG := hG.trans (un3_eq e_x_5333_1)
      refine lv_goto (tgt := 50) hx hb dX7_number_26 (by decide) ?_
      refine lv_aload_n hx hb dX7_number_50 rfl (lv_at hl 0 rfl) ?_
      refine va_get (D := (dC, dI)) (ci := 7) (v := .int x_5335) (C := RX7) (T := TX7) (N := 48) hx hb hts inX7 hown hK hP 2 rfl rfl 13 (by decide) (hts _ wd_380) (fun _ h9 => h9) rfl dX7_number_51 ?_
      refine lv_if_eq (tgt := 59) hx hb dX7_number_54 (by decide) (fun c_5336 => ?_) (fun c_5336 => ?_)
      · skip
        have hG := hG.trans (if_pos c_5336)
        have gc_5336 := ti_eq c_5336 rfl kc_0
        exfalso; clear hG; omega
      · skip
        have hG := hG.trans (if_neg c_5336)
        have gc_5336 := ti_ne c_5336 rfl kc_0
        replace gc_5336 : (-1) * x_5335.toInt + 1 ≤ 0 := by omega
        refine lv_iload_n hx hb dX7_number_57 rfl (lv_at hl 1 rfl) ?_
        exact W.iret hx hb hr (fun t ht hW => ⟨⟨_, (cI p0), rfl, ⟨⟨trivial, (by first | omega | assumption)⟩, (cI_of p0)⟩, ⟨iM_at, iM_end, iM_token, iM_whole, iM_nameSize, x_5333, x_5334, x_5335, fM_letters, (by omega), (by omega), b_x_5335, (by first | assumption | (have q0 := kc_0; have q1 := kc_1; omega)), r_T, (by first | assumption | (have q0 := kc_0; have q1 := kc_1; omega)), (fun h9 => by have q0 := kc_0; have q1 := kc_1; omega), (cI_tup hG), Bw.to (hP.sub [2, 0, 1] rfl) (hD.sub [2, 0, 1] (by decide) rfl) (hK.sub [0, 1] rfl) ht hW⟩⟩, hS.F ht⟩) hS.2.2 dX7_number_58
  · skip
    have hG := hG.trans (if_neg c_5317)
    have gc_5317 := ti_ne c_5317 rfl kc_0
    replace gc_5317 : (-1) * iM_failed.toInt + 1 ≤ 0 := by omega
    refine lv_iload_n hx hb dX7_number_7 rfl (lv_at hl 1 rfl) ?_
    exact W.iret hx hb hr (fun t ht hW => ⟨⟨_, (cI p0), rfl, ⟨⟨trivial, (by first | omega | assumption)⟩, (cI_of p0)⟩, ⟨iM_at, iM_end, iM_token, iM_whole, iM_nameSize, iM_fault, iM_place, iM_failed, fM_letters, (by omega), (by omega), (by omega), (by first | assumption | (have q0 := kc_0; have q1 := kc_1; omega)), r_T, (by first | assumption | (have q0 := kc_0; have q1 := kc_1; omega)), (fun h9 => by have q0 := kc_0; have q1 := kc_1; omega), (cI_tup hG), Bw.to (hP.sub [0, 1, 2] rfl) (hD.sub [0, 1, 2] (by decide) rfl) (hK.sub [0, 1] rfl) ht hW⟩⟩, hS.F ht⟩) hS.2.2 dX7_number_8
set_option maxHeartbeats 4000000 in
set_option maxRecDepth 100000 in
theorem tX7_after (l : Launch) (dC : Nat → ClassId) (dI : Nat → Nat → Nat) (sz : Nat) (oM : Nat) (iM_thrown : Int32) (rM_tape : Nat) (fM_tape : Nat → Int32) (kM_tape : ClassId) (iM_taped : Int32) (iM_size : Int32) (iM_at : Int32) (iM_end : Int32) (iM_token : Int32) (iM_whole : Int32) (iM_nameSize : Int32) (iM_fault : Int32) (iM_place : Int32) (iM_trouble : Int32) (rM_letters : Nat) (fM_letters : Nat → Int32) (kM_letters : ClassId) (iM_failed : Int32) (iM_hasCourt : Int32) (rM_r : Nat) (rM_fresh : Nat) (rM_told : Nat) (rM_read : Nat) (rM_st : Nat) (rM_undone : Nat) (rM_kept : Nat) (iM_undos : Int32) (iM_images : Int32) (rM_fresher : Nat) (iM_fresherSize : Int32) (iM_scale : Int32) (iM_night : Int32) (rM_heardRow : Nat) (rM_cutRow : Nat) (iM_breaths : Int32) (iM_cutMany : Int32) (iM_allBreaths : Int32) (rM_trial : Nat) (rM_words : Nat) (iM_fewestBreaths : Int32) (iM_orderMany : Int32) (iM_orderSum : Int32) (iM_leastOrder : Int32) (rM_often : Nat) (iM_setMany : Int32) (iM_someOf : Int32) (iM_allOf : Int32) (iM_allWeight : Int64) (iM_enoughWeight : Int64) (iM_worthSum : Int64) (iM_firstRest : Int32) (iM_leastDrawn : Int32) (sA : Nat) (p0 : Int32) (p1 : Int32) (sV : Nat) (sN : Nat) (sF : Nat → Int32) (b_iM_taped : 0 ≤ iM_taped.toInt ∧ iM_taped.toInt ≤ 900) (b_iM_size : 0 ≤ iM_size.toInt ∧ iM_size.toInt ≤ 900) (b_iM_end : 0 ≤ iM_end.toInt ∧ iM_end.toInt ≤ 900) (b_iM_nameSize : 0 ≤ iM_nameSize.toInt ∧ iM_nameSize.toInt ≤ 900) (b_iM_failed : 0 ≤ iM_failed.toInt ∧ iM_failed.toInt ≤ 1) (b_iM_hasCourt : 0 ≤ iM_hasCourt.toInt ∧ iM_hasCourt.toInt ≤ 1) (b_iM_undos : 0 ≤ iM_undos.toInt ∧ iM_undos.toInt ≤ 16) (b_iM_images : 0 ≤ iM_images.toInt ∧ iM_images.toInt ≤ 3) (b_iM_scale : 1 ≤ iM_scale.toInt ∧ iM_scale.toInt ≤ 1296) (b_iM_breaths : 0 ≤ iM_breaths.toInt ∧ iM_breaths.toInt ≤ 399) (b_iM_cutMany : 0 ≤ iM_cutMany.toInt ∧ iM_cutMany.toInt ≤ 399) (r_T : ImpP (iM_token.toInt = 2) (iM_nameSize.toInt ≤ 8)) (hsn : sN ≤ 8) (hlh : p0.toInt ≤ p1.toInt) : Met l yX7_after (Cond.code yX7_after cX7_after 4 (some .int) :: wG) ({ frames := 7, cells := 0, slots := 0, locals := 176 }) (va_Pc [.ref oM, .ref sA, .int p0, .int p1] (Pq dC dI sz [(oc7 oM iM_thrown rM_tape iM_taped iM_size iM_at iM_end iM_token iM_whole iM_nameSize iM_fault iM_place iM_trouble rM_letters iM_failed iM_hasCourt rM_r rM_fresh rM_told rM_read rM_st rM_undone rM_kept iM_undos iM_images rM_fresher iM_fresherSize iM_scale iM_night rM_heardRow rM_cutRow iM_breaths iM_cutMany iM_allBreaths rM_trial rM_words iM_fewestBreaths iM_orderMany iM_orderSum iM_leastOrder rM_often iM_setMany iM_someOf iM_allOf iM_allWeight iM_enoughWeight iM_worthSum iM_firstRest iM_leastDrawn), (arI rM_tape kM_tape 900 fM_tape), (arI rM_letters kM_letters 8 fM_letters)] [(kM_tape, .int), (kM_letters, .int)] sA sV sN sF)) (va_Qi (fun (r : Int32) (u : Nat) => (True ∧ (p0.toInt ≤ r.toInt ∧ r.toInt ≤ p1.toInt)) ∧ r = Int32.ofNat u) (fun (u : Nat) (t : State) => ∃ (niM_at : Int32) (niM_end : Int32) (niM_token : Int32) (niM_whole : Int32) (niM_nameSize : Int32) (niM_fault : Int32) (niM_place : Int32) (niM_failed : Int32) (nfM_letters : Nat → Int32), (0 ≤ niM_end.toInt ∧ niM_end.toInt ≤ 900) ∧ (0 ≤ niM_nameSize.toInt ∧ niM_nameSize.toInt ≤ 900) ∧ (0 ≤ niM_failed.toInt ∧ niM_failed.toInt ≤ 1) ∧ (iM_end.toInt ≤ niM_end.toInt) ∧ (ImpP (niM_token.toInt = 2) (niM_nameSize.toInt ≤ 8)) ∧ (iM_failed.toInt ≤ niM_failed.toInt) ∧ (ImpP (niM_failed.toInt ≤ 0 ∧ niM_token.toInt = 59 ) (iM_end.toInt + 1 ≤ niM_end.toInt)) ∧ (PX7_after fM_tape iM_size iM_at iM_end iM_token iM_whole iM_nameSize iM_fault iM_place fM_letters iM_failed p0 p1 sN sF = (Int32.ofNat u, niM_at, niM_end, niM_token, niM_whole, niM_nameSize, niM_fault, niM_place, niM_failed, nfM_letters)) ∧ Bw dC dI (va_A [(oc7 oM iM_thrown rM_tape iM_taped iM_size iM_at iM_end iM_token iM_whole iM_nameSize iM_fault iM_place iM_trouble rM_letters iM_failed iM_hasCourt rM_r rM_fresh rM_told rM_read rM_st rM_undone rM_kept iM_undos iM_images rM_fresher iM_fresherSize iM_scale iM_night rM_heardRow rM_cutRow iM_breaths iM_cutMany iM_allBreaths rM_trial rM_words iM_fewestBreaths iM_orderMany iM_orderSum iM_leastOrder rM_often iM_setMany iM_someOf iM_allOf iM_allWeight iM_enoughWeight iM_worthSum iM_firstRest iM_leastDrawn), (arI rM_tape kM_tape 900 fM_tape), (arI rM_letters kM_letters 8 fM_letters)] sz) [(oc7 oM iM_thrown rM_tape iM_taped iM_size niM_at niM_end niM_token niM_whole niM_nameSize niM_fault niM_place iM_trouble rM_letters niM_failed iM_hasCourt rM_r rM_fresh rM_told rM_read rM_st rM_undone rM_kept iM_undos iM_images rM_fresher iM_fresherSize iM_scale iM_night rM_heardRow rM_cutRow iM_breaths iM_cutMany iM_allBreaths rM_trial rM_words iM_fewestBreaths iM_orderMany iM_orderSum iM_leastOrder rM_often iM_setMany iM_someOf iM_allOf iM_allWeight iM_enoughWeight iM_worthSum iM_firstRest iM_leastDrawn), (arI rM_tape kM_tape 900 fM_tape), (arI rM_letters kM_letters 8 nfM_letters)] [(kM_tape, .int), (kM_letters, .int)] t) (va_A [(oc7 oM iM_thrown rM_tape iM_taped iM_size iM_at iM_end iM_token iM_whole iM_nameSize iM_fault iM_place iM_trouble rM_letters iM_failed iM_hasCourt rM_r rM_fresh rM_told rM_read rM_st rM_undone rM_kept iM_undos iM_images rM_fresher iM_fresherSize iM_scale iM_night rM_heardRow rM_cutRow iM_breaths iM_cutMany iM_allBreaths rM_trial rM_words iM_fewestBreaths iM_orderMany iM_orderSum iM_leastOrder rM_often iM_setMany iM_someOf iM_allOf iM_allWeight iM_enoughWeight iM_worthSum iM_firstRest iM_leastDrawn), (arI rM_tape kM_tape 900 fM_tape), (arI rM_letters kM_letters 8 fM_letters)] sz)) 0 0 (va_A [(oc7 oM iM_thrown rM_tape iM_taped iM_size iM_at iM_end iM_token iM_whole iM_nameSize iM_fault iM_place iM_trouble rM_letters iM_failed iM_hasCourt rM_r rM_fresh rM_told rM_read rM_st rM_undone rM_kept iM_undos iM_images rM_fresher iM_fresherSize iM_scale iM_night rM_heardRow rM_cutRow iM_breaths iM_cutMany iM_allBreaths rM_trial rM_words iM_fewestBreaths iM_orderMany iM_orderSum iM_leastOrder rM_often iM_setMany iM_someOf iM_allOf iM_allWeight iM_enoughWeight iM_worthSum iM_firstRest iM_leastDrawn), (arI rM_tape kM_tape 900 fM_tape), (arI rM_letters kM_letters 8 fM_letters)] sz) := by
  refine Met.ofW (cc := cX7_after) (maxL := 4) (ret := (some .int)) (by decide) rfl ?_
  intro p e s m args below meth c s₁ B hml hv
  obtain ⟨rfl, ⟨hsz, hP, hK, hD0, hE⟩, hSw⟩ := hv
  have hx := B.exec
  have hb := B.bytes
  have hr := B.returns
  have hts : ∀ w ∈ wG, w.before ([.ref oM, .ref sA, .int p0, .int p1] : List Value).toArray s = true := fun w h => atoms_spec (ws := Cond.code yX7_after cX7_after 4 (some .int) :: wG) B.pre w (List.mem_cons_of_mem _ h)
  have hown : s.vm.findClass RX7 = some m.cls := findClass_of_methodNamed B.named
  have hlocks := B.notSynchronized
  subst hsz
  have hD := hD0.self (sz := s.heap.size)
  generalize hAe : va_A [(oc7 oM iM_thrown rM_tape iM_taped iM_size iM_at iM_end iM_token iM_whole iM_nameSize iM_fault iM_place iM_trouble rM_letters iM_failed iM_hasCourt rM_r rM_fresh rM_told rM_read rM_st rM_undone rM_kept iM_undos iM_images rM_fresher iM_fresherSize iM_scale iM_night rM_heardRow rM_cutRow iM_breaths iM_cutMany iM_allBreaths rM_trial rM_words iM_fewestBreaths iM_orderMany iM_orderSum iM_leastOrder rM_often iM_setMany iM_someOf iM_allOf iM_allWeight iM_enoughWeight iM_worthSum iM_firstRest iM_leastDrawn), (arI rM_tape kM_tape 900 fM_tape), (arI rM_letters kM_letters 8 fM_letters)] s.heap.size = A at hD hE hSw ⊢
  have hA : ∀ q : Nat, s.heap.size ≤ q → A q := fun q h => by rw [← hAe]; exact Or.inr h
  have hS : va_S A s.heap s.heap [] := va_S.rf
  have hl := lv_entry ([.ref oM, .ref sA, .int p0, .int p1]) (n := 4) (Nat.le_of_ble_eq_true rfl)
  rw [lg_entry_eq]
  generalize (lg_sl ([.ref oM, .ref sA, .int p0, .int p1]) ++ List.replicate (4 - (lg_sl ([.ref oM, .ref sA, .int p0, .int p1])).length) Slot.unset).toArray = ls at hl ⊢
  have hl : lv_has ls 4 [(0, .ref oM), (1, .ref sA), (2, .int p0), (3, .int p1)] := hl
  have hG := PX7_after_eq fM_tape iM_size iM_at iM_end iM_token iM_whole iM_nameSize iM_fault iM_place fM_letters iM_failed p0 p1 sN sF
  refine lv_aload_n hx hb dX7_after_0 rfl (lv_at hl 0 rfl) ?_
  refine lv_aload_n hx hb dX7_after_1 rfl (lv_at hl 1 rfl) ?_
  have hFc := va_free (wc := [(oc7 oM iM_thrown rM_tape iM_taped iM_size iM_at iM_end iM_token iM_whole iM_nameSize iM_fault iM_place iM_trouble rM_letters iM_failed iM_hasCourt rM_r rM_fresh rM_told rM_read rM_st rM_undone rM_kept iM_undos iM_images rM_fresher iM_fresherSize iM_scale iM_night rM_heardRow rM_cutRow iM_breaths iM_cutMany iM_allBreaths rM_trial rM_words iM_fewestBreaths iM_orderMany iM_orderSum iM_leastOrder rM_often iM_setMany iM_someOf iM_allOf iM_allWeight iM_enoughWeight iM_worthSum iM_firstRest iM_leastDrawn), (arI rM_tape kM_tape 900 fM_tape), (arI rM_letters kM_letters 8 fM_letters)]) hD hS hA [0, 1, 2] rfl
  refine va_callv (va_runV (As := [.ref sA]) (rest := []) ⟨hx, hb, hml, hown, hts⟩ (tX7_must l dC dI _ oM iM_thrown rM_tape fM_tape kM_tape iM_taped iM_size iM_at iM_end iM_token iM_whole iM_nameSize iM_fault iM_place iM_trouble rM_letters fM_letters kM_letters iM_failed iM_hasCourt rM_r rM_fresh rM_told rM_read rM_st rM_undone rM_kept iM_undos iM_images rM_fresher iM_fresherSize iM_scale iM_night rM_heardRow rM_cutRow iM_breaths iM_cutMany iM_allBreaths rM_trial rM_words iM_fewestBreaths iM_orderMany iM_orderSum iM_leastOrder rM_often iM_setMany iM_someOf iM_allOf iM_allWeight iM_enoughWeight iM_worthSum iM_firstRest iM_leastDrawn sA sV sN sF (by first | omega | decide) (by first | omega | decide) (by first | omega | decide) (by first | omega | decide) (by first | omega | decide) (by first | omega | decide) (by first | omega | decide) (by first | omega | decide) (by first | omega | decide) (by first | omega | decide) (by first | omega | decide) (by first | assumption | exact (fun h9 => by have q0 := kc_0; have q1 := kc_1; omega)) (by first | omega | decide | assumption | (have q0 := kc_0; have q1 := kc_1; omega) | (intro h; exact absurd h (by decide)))) (cwV 1 hts (wd_V wd_438 wd_439 wd_440 wd_5 (wd_c wd_441)) rfl rfl rfl (by decide +kernel) ⟨Nat.le_of_ble_eq_true rfl, Nat.le_of_ble_eq_true rfl⟩) ⟨Pq.fb, va_recv hK hP (ci := 7) (q0 := 0) rfl rfl, fun U hU hW => Pq.to (hP.sub [0, 1, 2] rfl) (hD.sub [0, 1, 2] (by decide) rfl) (hK.sub [0, 1] rfl) hSw hE hS hFc hU hW⟩ rfl rfl hl.1 rfl (lv_room (Nat.le_of_ble_eq_true rfl)) dX7_after_2 ⟨Nat.le_of_ble_eq_true rfl, Nat.le_of_ble_eq_true rfl⟩) hS (fun q _ h => hFc q h) hFc (fun u t H locs ht hvm hw hB hz1 hk1 hS => ?_)
  obtain ⟨x_5356, x_5357, x_5358, x_5359, x_5360, x_5361, x_5362, x_5363, f_5364, b_x_5357, b_x_5360, b_x_5363, e_x_5356_0, e_x_5356_1, e_x_5356_2, e_x_5356_3, e_x_5356_4, hB⟩ := hB
  obtain ⟨hP, hD, hK⟩ := Bw.go (ws' := [(oc7 oM iM_thrown rM_tape iM_taped iM_size x_5356 x_5357 x_5358 x_5359 x_5360 x_5361 x_5362 iM_trouble rM_letters x_5363 iM_hasCourt rM_r rM_fresh rM_told rM_read rM_st rM_undone rM_kept iM_undos iM_images rM_fresher iM_fresherSize iM_scale iM_night rM_heardRow rM_cutRow iM_breaths iM_cutMany iM_allBreaths rM_trial rM_words iM_fewestBreaths iM_orderMany iM_orderSum iM_leastOrder rM_often iM_setMany iM_someOf iM_allOf iM_allWeight iM_enoughWeight iM_worthSum iM_firstRest iM_leastDrawn), (arI rM_tape kM_tape 900 fM_tape), (arI rM_letters kM_letters 8 f_5364)]) (tys' := [(kM_tape, .int), (kM_letters, .int)]) hB rfl ht hvm hP hD hK [0, 1, 2] [] rfl (by decide) (by decide) [] hk1 hFc rfl rfl rfl
  clear hz1 hk1 hvm ht hB
  have hG := hG.trans (un9_eq e_x_5356_4)
  clear r_T
  refine lv_aload_n hx hb dX7_after_5 rfl (lv_at hl 0 rfl) ?_
  refine lv_iload_n hx hb dX7_after_6 rfl (lv_at hl 2 rfl) ?_
  refine lv_iload_n hx hb dX7_after_7 rfl (lv_at hl 3 rfl) ?_
  have hFc := va_free (wc := [(oc7 oM iM_thrown rM_tape iM_taped iM_size x_5356 x_5357 x_5358 x_5359 x_5360 x_5361 x_5362 iM_trouble rM_letters x_5363 iM_hasCourt rM_r rM_fresh rM_told rM_read rM_st rM_undone rM_kept iM_undos iM_images rM_fresher iM_fresherSize iM_scale iM_night rM_heardRow rM_cutRow iM_breaths iM_cutMany iM_allBreaths rM_trial rM_words iM_fewestBreaths iM_orderMany iM_orderSum iM_leastOrder rM_often iM_setMany iM_someOf iM_allOf iM_allWeight iM_enoughWeight iM_worthSum iM_firstRest iM_leastDrawn), (arI rM_tape kM_tape 900 fM_tape), (arI rM_letters kM_letters 8 f_5364)]) hD hS hA [0, 1, 2] rfl
  refine va_calli (va_runV (As := [.int p0, .int p1]) (rest := []) ⟨hx, hb, hml, hown, hts⟩ (tX7_number l dC dI _ oM iM_thrown rM_tape fM_tape kM_tape iM_taped iM_size x_5356 x_5357 x_5358 x_5359 x_5360 x_5361 x_5362 iM_trouble rM_letters f_5364 kM_letters x_5363 iM_hasCourt rM_r rM_fresh rM_told rM_read rM_st rM_undone rM_kept iM_undos iM_images rM_fresher iM_fresherSize iM_scale iM_night rM_heardRow rM_cutRow iM_breaths iM_cutMany iM_allBreaths rM_trial rM_words iM_fewestBreaths iM_orderMany iM_orderSum iM_leastOrder rM_often iM_setMany iM_someOf iM_allOf iM_allWeight iM_enoughWeight iM_worthSum iM_firstRest iM_leastDrawn p0 p1 (by first | omega | decide) (by first | omega | decide) (by first | exact b_x_5357 | omega | decide) (by first | exact b_x_5360 | omega | decide) (by first | exact b_x_5363 | omega | decide) (by first | omega | decide) (by first | omega | decide) (by first | omega | decide) (by first | omega | decide) (by first | omega | decide) (by first | omega | decide) (by first | assumption | exact (fun h9 => by have q0 := kc_0; have q1 := kc_1; omega)) (by first | omega | decide | assumption | (have q0 := kc_0; have q1 := kc_1; omega) | (intro h; exact absurd h (by decide)))) (cwV 2 hts (wd_V wd_446 wd_447 wd_448 wd_5 (wd_c wd_449)) rfl rfl rfl (by decide +kernel) ⟨Nat.le_of_ble_eq_true rfl, Nat.le_of_ble_eq_true rfl⟩) ⟨Pw.fb, va_recv hK hP (ci := 7) (q0 := 0) rfl rfl, fun U hU hW => Pw.to (hP.sub [0, 1, 2] rfl) (hD.sub [0, 1, 2] (by decide) rfl) (hK.sub [0, 1] rfl) hE hS hFc hU hW⟩ rfl rfl hl.1 rfl (lv_room (Nat.le_of_ble_eq_true rfl)) dX7_after_8 ⟨Nat.le_of_ble_eq_true rfl, Nat.le_of_ble_eq_true rfl⟩) hS (fun q _ h => hFc q h) hFc (fun r u t H locs ht hvm hw hB hz1 hk1 hS => ?_)
  have hru9 := hw.2
  have hw := hw.1
  obtain ⟨x_5365, x_5366, x_5367, x_5368, x_5369, x_5370, x_5371, x_5372, f_5373, b_x_5366, b_x_5369, b_x_5372, e_x_5365_0, e_x_5365_1, e_x_5365_2, e_x_5365_3, e_x_5365_4, hB⟩ := hB
  obtain ⟨hP, hD, hK⟩ := Bw.go (ws' := [(oc7 oM iM_thrown rM_tape iM_taped iM_size x_5365 x_5366 x_5367 x_5368 x_5369 x_5370 x_5371 iM_trouble rM_letters x_5372 iM_hasCourt rM_r rM_fresh rM_told rM_read rM_st rM_undone rM_kept iM_undos iM_images rM_fresher iM_fresherSize iM_scale iM_night rM_heardRow rM_cutRow iM_breaths iM_cutMany iM_allBreaths rM_trial rM_words iM_fewestBreaths iM_orderMany iM_orderSum iM_leastOrder rM_often iM_setMany iM_someOf iM_allOf iM_allWeight iM_enoughWeight iM_worthSum iM_firstRest iM_leastDrawn), (arI rM_tape kM_tape 900 fM_tape), (arI rM_letters kM_letters 8 f_5373)]) (tys' := [(kM_tape, .int), (kM_letters, .int)]) hB rfl ht hvm hP hD hK [0, 1, 2] [] rfl (by decide) (by decide) [] hk1 hFc rfl rfl rfl
  clear hz1 hk1 hvm ht hB
  rw [← hru9] at e_x_5365_4
  obtain ⟨x_5374, rfl⟩ : ∃ z, z = r := ⟨_, rfl⟩
  have hG := hG.trans (un10_eq e_x_5365_4)
  have lx_5374 := hw.2
  clear e_x_5356_1
  clear e_x_5356_3
  exact W.iret hx hb hr (fun t ht hW => ⟨⟨_, (cI x_5374), rfl, ⟨⟨trivial, (by first | omega | assumption)⟩, (cI_of x_5374)⟩, ⟨x_5365, x_5366, x_5367, x_5368, x_5369, x_5370, x_5371, x_5372, f_5373, b_x_5366, b_x_5369, b_x_5372, (by first | assumption | (have q0 := kc_0; have q1 := kc_1; omega)), e_x_5365_1, (by first | assumption | (have q0 := kc_0; have q1 := kc_1; omega)), (fun h9 => by have q0 := kc_0; have q1 := kc_1; have q9 := e_x_5365_3 (by omega); omega), (cI_tup hG), Bw.to (hP.sub [0, 1, 2] rfl) (hD.sub [0, 1, 2] (by decide) rfl) (hK.sub [0, 1] rfl) ht hW⟩⟩, hS.F ht⟩) hS.2.2 dX7_after_11
set_option maxHeartbeats 4000000 in
set_option maxRecDepth 100000 in
theorem tX7_begins (l : Launch) (dC : Nat → ClassId) (dI : Nat → Nat → Nat) (sz : Nat) (oM : Nat) (iM_thrown : Int32) (rM_tape : Nat) (fM_tape : Nat → Int32) (kM_tape : ClassId) (iM_taped : Int32) (iM_size : Int32) (iM_at : Int32) (iM_end : Int32) (iM_token : Int32) (iM_whole : Int32) (iM_nameSize : Int32) (iM_fault : Int32) (iM_place : Int32) (iM_trouble : Int32) (rM_letters : Nat) (fM_letters : Nat → Int32) (kM_letters : ClassId) (iM_failed : Int32) (iM_hasCourt : Int32) (rM_r : Nat) (rM_fresh : Nat) (fM_fresh : Nat → Int32) (kM_fresh : ClassId) (rM_told : Nat) (rM_read : Nat) (fM_read : Nat → Int32) (kM_read : ClassId) (rM_st : Nat) (rM_undone : Nat) (rM_kept : Nat) (iM_undos : Int32) (iM_images : Int32) (rM_fresher : Nat) (iM_fresherSize : Int32) (iM_scale : Int32) (iM_night : Int32) (rM_heardRow : Nat) (rM_cutRow : Nat) (iM_breaths : Int32) (iM_cutMany : Int32) (iM_allBreaths : Int32) (rM_trial : Nat) (rM_words : Nat) (iM_fewestBreaths : Int32) (iM_orderMany : Int32) (iM_orderSum : Int32) (iM_leastOrder : Int32) (rM_often : Nat) (iM_setMany : Int32) (iM_someOf : Int32) (iM_allOf : Int32) (iM_allWeight : Int64) (iM_enoughWeight : Int64) (iM_worthSum : Int64) (iM_firstRest : Int32) (iM_leastDrawn : Int32) (sA : Nat) (p0 : Int32) (sV : Nat) (sN : Nat) (sF : Nat → Int32) (b_iM_taped : 0 ≤ iM_taped.toInt ∧ iM_taped.toInt ≤ 900) (b_iM_size : 0 ≤ iM_size.toInt ∧ iM_size.toInt ≤ 900) (b_iM_end : 0 ≤ iM_end.toInt ∧ iM_end.toInt ≤ 900) (b_iM_nameSize : 0 ≤ iM_nameSize.toInt ∧ iM_nameSize.toInt ≤ 900) (b_iM_failed : 0 ≤ iM_failed.toInt ∧ iM_failed.toInt ≤ 1) (b_iM_hasCourt : 0 ≤ iM_hasCourt.toInt ∧ iM_hasCourt.toInt ≤ 1) (b_iM_undos : 0 ≤ iM_undos.toInt ∧ iM_undos.toInt ≤ 16) (b_iM_images : 0 ≤ iM_images.toInt ∧ iM_images.toInt ≤ 3) (b_iM_scale : 1 ≤ iM_scale.toInt ∧ iM_scale.toInt ≤ 1296) (b_iM_breaths : 0 ≤ iM_breaths.toInt ∧ iM_breaths.toInt ≤ 399) (b_iM_cutMany : 0 ≤ iM_cutMany.toInt ∧ iM_cutMany.toInt ≤ 399) (r_T : ImpP (iM_token.toInt = 2) (iM_nameSize.toInt ≤ 8)) (r_P : POk fM_fresh fM_read) (hsn : sN ≤ 8) (hp0 : 0 ≤ p0.toInt ∧ p0.toInt ≤ 1) : Met l yX7_begins (Cond.code yX7_begins cX7_begins 3 (some .boolean) :: wG) ({ frames := 5, cells := 0, slots := 0, locals := 134 }) (va_Pc [.ref oM, .ref sA, .int p0] (Pq dC dI sz [(oc7 oM iM_thrown rM_tape iM_taped iM_size iM_at iM_end iM_token iM_whole iM_nameSize iM_fault iM_place iM_trouble rM_letters iM_failed iM_hasCourt rM_r rM_fresh rM_told rM_read rM_st rM_undone rM_kept iM_undos iM_images rM_fresher iM_fresherSize iM_scale iM_night rM_heardRow rM_cutRow iM_breaths iM_cutMany iM_allBreaths rM_trial rM_words iM_fewestBreaths iM_orderMany iM_orderSum iM_leastOrder rM_often iM_setMany iM_someOf iM_allOf iM_allWeight iM_enoughWeight iM_worthSum iM_firstRest iM_leastDrawn), (arI rM_tape kM_tape 900 fM_tape), (arI rM_letters kM_letters 8 fM_letters), (arI rM_fresh kM_fresh 287 fM_fresh), (arI rM_read kM_read 90 fM_read)] [(kM_tape, .int), (kM_letters, .int), (kM_fresh, .int), (kM_read, .int)] sA sV sN sF)) (va_Qi (fun (r : Int32) (u : Nat) => ((r = 0 ∨ r = 1) ∧ (r.toInt = (u : Int))) ∧ r = Int32.ofNat u) (fun (u : Nat) (t : State) => ∃ (niM_at : Int32) (niM_end : Int32) (niM_token : Int32) (niM_whole : Int32) (niM_nameSize : Int32) (niM_fault : Int32) (niM_place : Int32) (niM_failed : Int32) (nfM_letters : Nat → Int32), (0 ≤ niM_end.toInt ∧ niM_end.toInt ≤ 900) ∧ (0 ≤ niM_nameSize.toInt ∧ niM_nameSize.toInt ≤ 900) ∧ (0 ≤ niM_failed.toInt ∧ niM_failed.toInt ≤ 1) ∧ (iM_end.toInt ≤ niM_end.toInt) ∧ (ImpP (niM_token.toInt = 2) (niM_nameSize.toInt ≤ 8)) ∧ (iM_failed.toInt ≤ niM_failed.toInt) ∧ (ImpP ((u : Int) = 1) (iM_token.toInt = 2 ∧ (1 ≤ p0.toInt ∨ 1 ≤ niM_failed.toInt))) ∧ (ImpP ((u : Int) = 1 ∧ niM_failed.toInt ≤ 0 ∧ niM_token.toInt = 59 ) (iM_end.toInt + 1 ≤ niM_end.toInt)) ∧ (PX7_begins fM_tape iM_size iM_at iM_end iM_token iM_whole iM_nameSize iM_fault iM_place fM_letters iM_failed fM_fresh p0 sN sF = (Int32.ofNat u, niM_at, niM_end, niM_token, niM_whole, niM_nameSize, niM_fault, niM_place, niM_failed, nfM_letters)) ∧ Bw dC dI (va_A [(oc7 oM iM_thrown rM_tape iM_taped iM_size iM_at iM_end iM_token iM_whole iM_nameSize iM_fault iM_place iM_trouble rM_letters iM_failed iM_hasCourt rM_r rM_fresh rM_told rM_read rM_st rM_undone rM_kept iM_undos iM_images rM_fresher iM_fresherSize iM_scale iM_night rM_heardRow rM_cutRow iM_breaths iM_cutMany iM_allBreaths rM_trial rM_words iM_fewestBreaths iM_orderMany iM_orderSum iM_leastOrder rM_often iM_setMany iM_someOf iM_allOf iM_allWeight iM_enoughWeight iM_worthSum iM_firstRest iM_leastDrawn), (arI rM_tape kM_tape 900 fM_tape), (arI rM_letters kM_letters 8 fM_letters), (arI rM_fresh kM_fresh 287 fM_fresh), (arI rM_read kM_read 90 fM_read)] sz) [(oc7 oM iM_thrown rM_tape iM_taped iM_size niM_at niM_end niM_token niM_whole niM_nameSize niM_fault niM_place iM_trouble rM_letters niM_failed iM_hasCourt rM_r rM_fresh rM_told rM_read rM_st rM_undone rM_kept iM_undos iM_images rM_fresher iM_fresherSize iM_scale iM_night rM_heardRow rM_cutRow iM_breaths iM_cutMany iM_allBreaths rM_trial rM_words iM_fewestBreaths iM_orderMany iM_orderSum iM_leastOrder rM_often iM_setMany iM_someOf iM_allOf iM_allWeight iM_enoughWeight iM_worthSum iM_firstRest iM_leastDrawn), (arI rM_tape kM_tape 900 fM_tape), (arI rM_letters kM_letters 8 nfM_letters), (arI rM_fresh kM_fresh 287 fM_fresh), (arI rM_read kM_read 90 fM_read)] [(kM_tape, .int), (kM_letters, .int), (kM_fresh, .int), (kM_read, .int)] t) (va_A [(oc7 oM iM_thrown rM_tape iM_taped iM_size iM_at iM_end iM_token iM_whole iM_nameSize iM_fault iM_place iM_trouble rM_letters iM_failed iM_hasCourt rM_r rM_fresh rM_told rM_read rM_st rM_undone rM_kept iM_undos iM_images rM_fresher iM_fresherSize iM_scale iM_night rM_heardRow rM_cutRow iM_breaths iM_cutMany iM_allBreaths rM_trial rM_words iM_fewestBreaths iM_orderMany iM_orderSum iM_leastOrder rM_often iM_setMany iM_someOf iM_allOf iM_allWeight iM_enoughWeight iM_worthSum iM_firstRest iM_leastDrawn), (arI rM_tape kM_tape 900 fM_tape), (arI rM_letters kM_letters 8 fM_letters), (arI rM_fresh kM_fresh 287 fM_fresh), (arI rM_read kM_read 90 fM_read)] sz)) 0 0 (va_A [(oc7 oM iM_thrown rM_tape iM_taped iM_size iM_at iM_end iM_token iM_whole iM_nameSize iM_fault iM_place iM_trouble rM_letters iM_failed iM_hasCourt rM_r rM_fresh rM_told rM_read rM_st rM_undone rM_kept iM_undos iM_images rM_fresher iM_fresherSize iM_scale iM_night rM_heardRow rM_cutRow iM_breaths iM_cutMany iM_allBreaths rM_trial rM_words iM_fewestBreaths iM_orderMany iM_orderSum iM_leastOrder rM_often iM_setMany iM_someOf iM_allOf iM_allWeight iM_enoughWeight iM_worthSum iM_firstRest iM_leastDrawn), (arI rM_tape kM_tape 900 fM_tape), (arI rM_letters kM_letters 8 fM_letters), (arI rM_fresh kM_fresh 287 fM_fresh), (arI rM_read kM_read 90 fM_read)] sz) := by
  refine Met.ofW (cc := cX7_begins) (maxL := 3) (ret := (some .boolean)) (by decide) rfl ?_
  intro p e s m args below meth c s₁ B hml hv
  obtain ⟨rfl, ⟨hsz, hP, hK, hD0, hE⟩, hSw⟩ := hv
  have hx := B.exec
  have hb := B.bytes
  have hr := B.returns
  have hts : ∀ w ∈ wG, w.before ([.ref oM, .ref sA, .int p0] : List Value).toArray s = true := fun w h => atoms_spec (ws := Cond.code yX7_begins cX7_begins 3 (some .boolean) :: wG) B.pre w (List.mem_cons_of_mem _ h)
  have hown : s.vm.findClass RX7 = some m.cls := findClass_of_methodNamed B.named
  have hlocks := B.notSynchronized
  subst hsz
  have hD := hD0.self (sz := s.heap.size)
  generalize hAe : va_A [(oc7 oM iM_thrown rM_tape iM_taped iM_size iM_at iM_end iM_token iM_whole iM_nameSize iM_fault iM_place iM_trouble rM_letters iM_failed iM_hasCourt rM_r rM_fresh rM_told rM_read rM_st rM_undone rM_kept iM_undos iM_images rM_fresher iM_fresherSize iM_scale iM_night rM_heardRow rM_cutRow iM_breaths iM_cutMany iM_allBreaths rM_trial rM_words iM_fewestBreaths iM_orderMany iM_orderSum iM_leastOrder rM_often iM_setMany iM_someOf iM_allOf iM_allWeight iM_enoughWeight iM_worthSum iM_firstRest iM_leastDrawn), (arI rM_tape kM_tape 900 fM_tape), (arI rM_letters kM_letters 8 fM_letters), (arI rM_fresh kM_fresh 287 fM_fresh), (arI rM_read kM_read 90 fM_read)] s.heap.size = A at hD hE hSw ⊢
  have hA : ∀ q : Nat, s.heap.size ≤ q → A q := fun q h => by rw [← hAe]; exact Or.inr h
  have hS : va_S A s.heap s.heap [] := va_S.rf
  have hl := lv_entry ([.ref oM, .ref sA, .int p0]) (n := 3) (Nat.le_of_ble_eq_true rfl)
  rw [lg_entry_eq]
  generalize (lg_sl ([.ref oM, .ref sA, .int p0]) ++ List.replicate (3 - (lg_sl ([.ref oM, .ref sA, .int p0])).length) Slot.unset).toArray = ls at hl ⊢
  have hl : lv_has ls 3 [(0, .ref oM), (1, .ref sA), (2, .int p0)] := hl
  have hG := PX7_begins_eq fM_tape iM_size iM_at iM_end iM_token iM_whole iM_nameSize iM_fault iM_place fM_letters iM_failed fM_fresh p0 sN sF
  have pl_fM_fresh := r_P.lins
  refine lv_aload_n hx hb dX7_begins_0 rfl (lv_at hl 0 rfl) ?_
  refine lv_aload_n hx hb dX7_begins_1 rfl (lv_at hl 1 rfl) ?_
  have hFc := va_free (wc := [(oc7 oM iM_thrown rM_tape iM_taped iM_size iM_at iM_end iM_token iM_whole iM_nameSize iM_fault iM_place iM_trouble rM_letters iM_failed iM_hasCourt rM_r rM_fresh rM_told rM_read rM_st rM_undone rM_kept iM_undos iM_images rM_fresher iM_fresherSize iM_scale iM_night rM_heardRow rM_cutRow iM_breaths iM_cutMany iM_allBreaths rM_trial rM_words iM_fewestBreaths iM_orderMany iM_orderSum iM_leastOrder rM_often iM_setMany iM_someOf iM_allOf iM_allWeight iM_enoughWeight iM_worthSum iM_firstRest iM_leastDrawn), (arI rM_letters kM_letters 8 fM_letters)]) hD hS hA [0, 2] rfl
  refine va_calli (va_runV (As := [.ref sA]) (rest := []) ⟨hx, hb, hml, hown, hts⟩ (tX7_isWord l dC dI _ oM iM_thrown rM_tape iM_taped iM_size iM_at iM_end iM_token iM_whole iM_nameSize iM_fault iM_place iM_trouble rM_letters fM_letters kM_letters iM_failed iM_hasCourt rM_r rM_fresh rM_told rM_read rM_st rM_undone rM_kept iM_undos iM_images rM_fresher iM_fresherSize iM_scale iM_night rM_heardRow rM_cutRow iM_breaths iM_cutMany iM_allBreaths rM_trial rM_words iM_fewestBreaths iM_orderMany iM_orderSum iM_leastOrder rM_often iM_setMany iM_someOf iM_allOf iM_allWeight iM_enoughWeight iM_worthSum iM_firstRest iM_leastDrawn sA sV sN sF (by first | omega | decide) (by first | omega | decide) (by first | omega | decide) (by first | omega | decide) (by first | omega | decide) (by first | omega | decide) (by first | omega | decide) (by first | omega | decide) (by first | omega | decide) (by first | omega | decide) (by first | omega | decide) (by first | assumption | exact (fun h9 => by have q0 := kc_0; have q1 := kc_1; omega)) (by first | omega | decide | assumption | (have q0 := kc_0; have q1 := kc_1; omega) | (intro h; exact absurd h (by decide)))) (cwV 1 hts (wd_V wd_420 wd_421 wd_422 wd_5 (wd_c wd_423)) rfl rfl rfl (by decide +kernel) ⟨Nat.le_of_ble_eq_true rfl, Nat.le_of_ble_eq_true rfl⟩) ⟨Pq.fb, va_recv hK hP (ci := 7) (q0 := 0) rfl rfl, fun U hU hW => Pq.to (hP.sub [0, 2] rfl) (hD.sub [0, 2] (by decide) rfl) (hK.sub [1] rfl) hSw hE hS hFc hU hW⟩ rfl rfl hl.1 rfl (lv_room (Nat.le_of_ble_eq_true rfl)) dX7_begins_2 ⟨Nat.le_of_ble_eq_true rfl, Nat.le_of_ble_eq_true rfl⟩) hS (fun q _ h => hFc q h) hFc (fun r u t H locs ht hvm hw hB hz1 hk1 hS => ?_)
  have hru9 := hw.2
  have hw := hw.1
  obtain ⟨hP, hD, hK⟩ := Bw.go (ws' := [(arI rM_tape kM_tape 900 fM_tape), (arI rM_fresh kM_fresh 287 fM_fresh), (arI rM_read kM_read 90 fM_read), (oc7 oM iM_thrown rM_tape iM_taped iM_size iM_at iM_end iM_token iM_whole iM_nameSize iM_fault iM_place iM_trouble rM_letters iM_failed iM_hasCourt rM_r rM_fresh rM_told rM_read rM_st rM_undone rM_kept iM_undos iM_images rM_fresher iM_fresherSize iM_scale iM_night rM_heardRow rM_cutRow iM_breaths iM_cutMany iM_allBreaths rM_trial rM_words iM_fewestBreaths iM_orderMany iM_orderSum iM_leastOrder rM_often iM_setMany iM_someOf iM_allOf iM_allWeight iM_enoughWeight iM_worthSum iM_firstRest iM_leastDrawn), (arI rM_letters kM_letters 8 fM_letters)]) (tys' := [(kM_tape, .int), (kM_fresh, .int), (kM_read, .int), (kM_letters, .int)]) hB rfl ht hvm hP hD hK [0, 2] [1, 3, 4] rfl (by decide) (by decide) [0, 2, 3] hk1 hFc rfl rfl rfl
  clear hz1 hk1 hvm ht hB
  obtain ⟨x_5417, rfl⟩ : ∃ z, z = r := ⟨_, rfl⟩
  have hG := hG.trans (lt_eq hru9.symm)
  have bx_5417 := hw.1
  have dx_5417 := bz_ti bx_5417
  have lx_5417 := hw.2
  refine lv_if_ne (tgt := 10) hx hb dX7_begins_5 (by decide) (fun c_5418 => ?_) (fun c_5418 => ?_)
  · skip
    have hG := hG.trans (if_neg c_5418)
    have gc_5418 := ti_ne c_5418 rfl kc_0
    replace gc_5418 : (-1) * x_5417.toInt + 1 ≤ 0 := by omega
    have h_5419 := lx_5417 (by omega)
    clear lx_5417
    have h_5420 := r_T (by omega)
    clear r_T
    refine lv_iload_n hx hb dX7_begins_10 rfl (lv_at hl 2 rfl) ?_
    refine lv_if_ne (tgt := 23) hx hb dX7_begins_11 (by decide) (fun c_5421 => ?_) (fun c_5421 => ?_)
    · skip
      have hG := hG.trans (if_neg c_5421)
      have gc_5421 := ti_ne c_5421 rfl kc_0
      replace gc_5421 : (-1) * p0.toInt + 1 ≤ 0 := by omega
      refine lv_aload_n hx hb dX7_begins_23 rfl (lv_at hl 0 rfl) ?_
      refine va_get (D := (dC, dI)) (ci := 7) (v := .ref rM_fresh) (C := RX7) (T := TX7) (N := 48) hx hb hts inX7 hown hK hP 3 rfl rfl 16 (by decide) (hts _ wd_156) (fun _ h9 => h9) rfl dX7_begins_24 ?_
      refine lv_iconst (v := 5) hx hb dX7_begins_27 (by decide) ?_
      refine va_iald hx hb hK hP 1 1 rfl rfl (by unfold vp_in; decide) dX7_begins_28 ?_
      refine lv_topi (fun x_5422 ex_5422 => ?_)
      have hG := hG.trans (lt_eq ex_5422)
      have cx_5422 : (fM_fresh 5).toInt = x_5422.toInt := congrArg Int32.toInt (show fM_fresh 5 = x_5422 from ex_5422.symm)
      refine lv_if_ne (tgt := 42) hx hb dX7_begins_29 (by decide) (fun c_5423 => ?_) (fun c_5423 => ?_)
      · skip
        have hG := hG.trans (if_neg c_5423)
        have gc_5423 := ti_ne c_5423 rfl kc_0
        refine lv_aload_n hx hb dX7_begins_42 rfl (lv_at hl 0 rfl) ?_
        have hFc := va_free (wc := [(oc7 oM iM_thrown rM_tape iM_taped iM_size iM_at iM_end iM_token iM_whole iM_nameSize iM_fault iM_place iM_trouble rM_letters iM_failed iM_hasCourt rM_r rM_fresh rM_told rM_read rM_st rM_undone rM_kept iM_undos iM_images rM_fresher iM_fresherSize iM_scale iM_night rM_heardRow rM_cutRow iM_breaths iM_cutMany iM_allBreaths rM_trial rM_words iM_fewestBreaths iM_orderMany iM_orderSum iM_leastOrder rM_often iM_setMany iM_someOf iM_allOf iM_allWeight iM_enoughWeight iM_worthSum iM_firstRest iM_leastDrawn), (arI rM_tape kM_tape 900 fM_tape), (arI rM_letters kM_letters 8 fM_letters)]) hD hS hA [3, 0, 4] rfl
        refine va_callv (va_runV (As := []) (rest := []) ⟨hx, hb, hml, hown, hts⟩ (tX7_pass l dC dI _ oM iM_thrown rM_tape fM_tape kM_tape iM_taped iM_size iM_at iM_end iM_token iM_whole iM_nameSize iM_fault iM_place iM_trouble rM_letters fM_letters kM_letters iM_failed iM_hasCourt rM_r rM_fresh rM_told rM_read rM_st rM_undone rM_kept iM_undos iM_images rM_fresher iM_fresherSize iM_scale iM_night rM_heardRow rM_cutRow iM_breaths iM_cutMany iM_allBreaths rM_trial rM_words iM_fewestBreaths iM_orderMany iM_orderSum iM_leastOrder rM_often iM_setMany iM_someOf iM_allOf iM_allWeight iM_enoughWeight iM_worthSum iM_firstRest iM_leastDrawn (by first | omega | decide) (by first | omega | decide) (by first | omega | decide) (by first | omega | decide) (by first | omega | decide) (by first | omega | decide) (by first | omega | decide) (by first | omega | decide) (by first | omega | decide) (by first | omega | decide) (by first | omega | decide) (by first | assumption | exact (fun h9 => by have q0 := kc_0; have q1 := kc_1; omega))) (cwV 0 hts (wd_V wd_454 wd_455 wd_456 wd_5 (wd_c wd_457)) rfl rfl rfl (by decide +kernel) ⟨Nat.le_of_ble_eq_true rfl, Nat.le_of_ble_eq_true rfl⟩) ⟨Pw.fb, va_recv hK hP (ci := 7) (q0 := 3) rfl rfl, fun U hU hW => Pw.to (hP.sub [3, 0, 4] rfl) (hD.sub [3, 0, 4] (by decide) rfl) (hK.sub [0, 3] rfl) hE hS hFc hU hW⟩ rfl rfl hl.1 rfl (lv_room (Nat.le_of_ble_eq_true rfl)) dX7_begins_43 ⟨Nat.le_of_ble_eq_true rfl, Nat.le_of_ble_eq_true rfl⟩) hS (fun q _ h => hFc q h) hFc (fun u t H locs ht hvm hw hB hz1 hk1 hS => ?_)
        obtain ⟨x_5424, x_5425, x_5426, x_5427, x_5428, f_5429, b_x_5425, b_x_5428, e_x_5424_0, e_x_5424_1, e_x_5424_2, e_x_5424_3, hB⟩ := hB
        obtain ⟨hP, hD, hK⟩ := Bw.go (ws' := [(arI rM_fresh kM_fresh 287 fM_fresh), (arI rM_read kM_read 90 fM_read), (oc7 oM iM_thrown rM_tape iM_taped iM_size x_5424 x_5425 x_5426 x_5427 x_5428 iM_fault iM_place iM_trouble rM_letters iM_failed iM_hasCourt rM_r rM_fresh rM_told rM_read rM_st rM_undone rM_kept iM_undos iM_images rM_fresher iM_fresherSize iM_scale iM_night rM_heardRow rM_cutRow iM_breaths iM_cutMany iM_allBreaths rM_trial rM_words iM_fewestBreaths iM_orderMany iM_orderSum iM_leastOrder rM_often iM_setMany iM_someOf iM_allOf iM_allWeight iM_enoughWeight iM_worthSum iM_firstRest iM_leastDrawn), (arI rM_tape kM_tape 900 fM_tape), (arI rM_letters kM_letters 8 f_5429)]) (tys' := [(kM_fresh, .int), (kM_read, .int), (kM_tape, .int), (kM_letters, .int)]) hB rfl ht hvm hP hD hK [3, 0, 4] [1, 2] rfl (by decide) (by decide) [1, 2] hk1 hFc rfl rfl rfl
        clear hz1 hk1 hvm ht hB
        have hG := hG.trans (un6_eq e_x_5424_3)
        refine lv_iconst (v := 1) hx hb dX7_begins_46 (by decide) ?_
        exact W.zret (v := 1) hx hb hr rfl (fun t ht hW => ⟨⟨_, 1, rfl, ⟨⟨Or.inr rfl, (by decide)⟩, (by decide)⟩, ⟨x_5424, x_5425, x_5426, x_5427, x_5428, iM_fault, iM_place, iM_failed, f_5429, b_x_5425, b_x_5428, (by omega), (by first | assumption | (have q0 := kc_0; have q1 := kc_1; omega)), e_x_5424_1, (by first | assumption | (have q0 := kc_0; have q1 := kc_1; omega)), (by first | assumption | exact (fun h9 => by have q0 := kc_0; have q1 := kc_1; omega)), (fun h9 => by have q0 := kc_0; have q1 := kc_1; have q9 := e_x_5424_2 (by omega); omega), hG, Bw.to (hP.sub [2, 3, 4, 0, 1] rfl) (hD.sub [2, 3, 4, 0, 1] (by decide) rfl) (hK.sub [2, 3, 0, 1] rfl) ht hW⟩⟩, hS.F ht⟩) hS.2.2 dX7_begins_47
      · skip
        have hG := hG.trans (if_pos c_5423)
        have gc_5423 := ti_eq c_5423 rfl kc_0
        refine lv_aload_n hx hb dX7_begins_32 rfl (lv_at hl 0 rfl) ?_
        refine lv_bipush (v := 6) hx hb dX7_begins_33 (by decide) ?_
        refine lv_aload_n hx hb dX7_begins_35 rfl (lv_at hl 0 rfl) ?_
        refine va_get (D := (dC, dI)) (ci := 7) (v := .int iM_at) (C := RX7) (T := TX7) (N := 48) hx hb hts inX7 hown hK hP 3 rfl rfl 4 (by decide) (hts _ wd_384) (fun _ h9 => h9) rfl dX7_begins_36 ?_
        have hFc := va_free (wc := [(oc7 oM iM_thrown rM_tape iM_taped iM_size iM_at iM_end iM_token iM_whole iM_nameSize iM_fault iM_place iM_trouble rM_letters iM_failed iM_hasCourt rM_r rM_fresh rM_told rM_read rM_st rM_undone rM_kept iM_undos iM_images rM_fresher iM_fresherSize iM_scale iM_night rM_heardRow rM_cutRow iM_breaths iM_cutMany iM_allBreaths rM_trial rM_words iM_fewestBreaths iM_orderMany iM_orderSum iM_leastOrder rM_often iM_setMany iM_someOf iM_allOf iM_allWeight iM_enoughWeight iM_worthSum iM_firstRest iM_leastDrawn)]) hD hS hA [3] rfl
        refine va_callv (va_runV (As := [.int 6, .int iM_at]) (rest := []) ⟨hx, hb, hml, hown, hts⟩ (tX7_wrong l dC dI _ oM iM_thrown rM_tape iM_taped iM_size iM_at iM_end iM_token iM_whole iM_nameSize iM_fault iM_place iM_trouble rM_letters iM_failed iM_hasCourt rM_r rM_fresh rM_told rM_read rM_st rM_undone rM_kept iM_undos iM_images rM_fresher iM_fresherSize iM_scale iM_night rM_heardRow rM_cutRow iM_breaths iM_cutMany iM_allBreaths rM_trial rM_words iM_fewestBreaths iM_orderMany iM_orderSum iM_leastOrder rM_often iM_setMany iM_someOf iM_allOf iM_allWeight iM_enoughWeight iM_worthSum iM_firstRest iM_leastDrawn 6 iM_at (by first | omega | decide) (by first | omega | decide) (by first | omega | decide) (by first | omega | decide) (by first | omega | decide) (by first | omega | decide) (by first | omega | decide) (by first | omega | decide) (by first | omega | decide) (by first | omega | decide) (by first | omega | decide) (by first | assumption | exact (fun h9 => by have q0 := kc_0; have q1 := kc_1; omega))) (cwV 2 hts (wd_V wd_430 wd_431 wd_432 wd_5 (wd_c wd_433)) rfl rfl rfl (by decide +kernel) ⟨Nat.le_of_ble_eq_true rfl, Nat.le_of_ble_eq_true rfl⟩) ⟨Pw.fb, va_recv hK hP (ci := 7) (q0 := 3) rfl rfl, fun U hU hW => Pw.to (hP.sub [3] rfl) (hD.sub [3] (by decide) rfl) (hK.sub [] rfl) hE hS hFc hU hW⟩ rfl rfl hl.1 rfl (lv_room (Nat.le_of_ble_eq_true rfl)) dX7_begins_39 ⟨Nat.le_of_ble_eq_true rfl, Nat.le_of_ble_eq_true rfl⟩) hS (fun q _ h => hFc q h) hFc (fun u t H locs ht hvm hw hB hz1 hk1 hS => ?_)
        obtain ⟨x_5430, x_5431, x_5432, b_x_5432, e_x_5430_0, e_x_5430_1, hB⟩ := hB
        obtain ⟨hP, hD, hK⟩ := Bw.go (ws' := [(arI rM_tape kM_tape 900 fM_tape), (arI rM_fresh kM_fresh 287 fM_fresh), (arI rM_read kM_read 90 fM_read), (arI rM_letters kM_letters 8 fM_letters), (oc7 oM iM_thrown rM_tape iM_taped iM_size iM_at iM_end iM_token iM_whole iM_nameSize x_5430 x_5431 iM_trouble rM_letters x_5432 iM_hasCourt rM_r rM_fresh rM_told rM_read rM_st rM_undone rM_kept iM_undos iM_images rM_fresher iM_fresherSize iM_scale iM_night rM_heardRow rM_cutRow iM_breaths iM_cutMany iM_allBreaths rM_trial rM_words iM_fewestBreaths iM_orderMany iM_orderSum iM_leastOrder rM_often iM_setMany iM_someOf iM_allOf iM_allWeight iM_enoughWeight iM_worthSum iM_firstRest iM_leastDrawn)]) (tys' := [(kM_tape, .int), (kM_fresh, .int), (kM_read, .int), (kM_letters, .int)]) hB rfl ht hvm hP hD hK [3] [0, 1, 2, 4] rfl (by decide) (by decide) [0, 1, 2, 3] hk1 hFc rfl rfl rfl
        clear hz1 hk1 hvm ht hB
        have hG := hG.trans (un3_eq e_x_5430_1)
        refine lv_aload_n hx hb dX7_begins_42 rfl (lv_at hl 0 rfl) ?_
        have hFc := va_free (wc := [(oc7 oM iM_thrown rM_tape iM_taped iM_size iM_at iM_end iM_token iM_whole iM_nameSize x_5430 x_5431 iM_trouble rM_letters x_5432 iM_hasCourt rM_r rM_fresh rM_told rM_read rM_st rM_undone rM_kept iM_undos iM_images rM_fresher iM_fresherSize iM_scale iM_night rM_heardRow rM_cutRow iM_breaths iM_cutMany iM_allBreaths rM_trial rM_words iM_fewestBreaths iM_orderMany iM_orderSum iM_leastOrder rM_often iM_setMany iM_someOf iM_allOf iM_allWeight iM_enoughWeight iM_worthSum iM_firstRest iM_leastDrawn), (arI rM_tape kM_tape 900 fM_tape), (arI rM_letters kM_letters 8 fM_letters)]) hD hS hA [4, 0, 3] rfl
        refine va_callv (va_runV (As := []) (rest := []) ⟨hx, hb, hml, hown, hts⟩ (tX7_pass l dC dI _ oM iM_thrown rM_tape fM_tape kM_tape iM_taped iM_size iM_at iM_end iM_token iM_whole iM_nameSize x_5430 x_5431 iM_trouble rM_letters fM_letters kM_letters x_5432 iM_hasCourt rM_r rM_fresh rM_told rM_read rM_st rM_undone rM_kept iM_undos iM_images rM_fresher iM_fresherSize iM_scale iM_night rM_heardRow rM_cutRow iM_breaths iM_cutMany iM_allBreaths rM_trial rM_words iM_fewestBreaths iM_orderMany iM_orderSum iM_leastOrder rM_often iM_setMany iM_someOf iM_allOf iM_allWeight iM_enoughWeight iM_worthSum iM_firstRest iM_leastDrawn (by first | omega | decide) (by first | omega | decide) (by first | omega | decide) (by first | omega | decide) (by first | exact b_x_5432 | omega | decide) (by first | omega | decide) (by first | omega | decide) (by first | omega | decide) (by first | omega | decide) (by first | omega | decide) (by first | omega | decide) (by first | assumption | exact (fun h9 => by have q0 := kc_0; have q1 := kc_1; omega))) (cwV 0 hts (wd_V wd_454 wd_455 wd_456 wd_5 (wd_c wd_457)) rfl rfl rfl (by decide +kernel) ⟨Nat.le_of_ble_eq_true rfl, Nat.le_of_ble_eq_true rfl⟩) ⟨Pw.fb, va_recv hK hP (ci := 7) (q0 := 4) rfl rfl, fun U hU hW => Pw.to (hP.sub [4, 0, 3] rfl) (hD.sub [4, 0, 3] (by decide) rfl) (hK.sub [0, 3] rfl) hE hS hFc hU hW⟩ rfl rfl hl.1 rfl (lv_room (Nat.le_of_ble_eq_true rfl)) dX7_begins_43 ⟨Nat.le_of_ble_eq_true rfl, Nat.le_of_ble_eq_true rfl⟩) hS (fun q _ h => hFc q h) hFc (fun u t H locs ht hvm hw hB hz1 hk1 hS => ?_)
        obtain ⟨x_5433, x_5434, x_5435, x_5436, x_5437, f_5438, b_x_5434, b_x_5437, e_x_5433_0, e_x_5433_1, e_x_5433_2, e_x_5433_3, hB⟩ := hB
        obtain ⟨hP, hD, hK⟩ := Bw.go (ws' := [(arI rM_fresh kM_fresh 287 fM_fresh), (arI rM_read kM_read 90 fM_read), (oc7 oM iM_thrown rM_tape iM_taped iM_size x_5433 x_5434 x_5435 x_5436 x_5437 x_5430 x_5431 iM_trouble rM_letters x_5432 iM_hasCourt rM_r rM_fresh rM_told rM_read rM_st rM_undone rM_kept iM_undos iM_images rM_fresher iM_fresherSize iM_scale iM_night rM_heardRow rM_cutRow iM_breaths iM_cutMany iM_allBreaths rM_trial rM_words iM_fewestBreaths iM_orderMany iM_orderSum iM_leastOrder rM_often iM_setMany iM_someOf iM_allOf iM_allWeight iM_enoughWeight iM_worthSum iM_firstRest iM_leastDrawn), (arI rM_tape kM_tape 900 fM_tape), (arI rM_letters kM_letters 8 f_5438)]) (tys' := [(kM_fresh, .int), (kM_read, .int), (kM_tape, .int), (kM_letters, .int)]) hB rfl ht hvm hP hD hK [4, 0, 3] [1, 2] rfl (by decide) (by decide) [1, 2] hk1 hFc rfl rfl rfl
        clear hz1 hk1 hvm ht hB
        have hG := hG.trans (un6_eq e_x_5433_3)
        refine lv_iconst (v := 1) hx hb dX7_begins_46 (by decide) ?_
        exact W.zret (v := 1) hx hb hr rfl (fun t ht hW => ⟨⟨_, 1, rfl, ⟨⟨Or.inr rfl, (by decide)⟩, (by decide)⟩, ⟨x_5433, x_5434, x_5435, x_5436, x_5437, x_5430, x_5431, x_5432, f_5438, b_x_5434, b_x_5437, b_x_5432, (by first | assumption | (have q0 := kc_0; have q1 := kc_1; omega)), e_x_5433_1, (by first | assumption | (have q0 := kc_0; have q1 := kc_1; omega)), (by first | assumption | exact (fun h9 => by have q0 := kc_0; have q1 := kc_1; omega)), (fun h9 => by have q0 := kc_0; have q1 := kc_1; omega), hG, Bw.to (hP.sub [2, 3, 4, 0, 1] rfl) (hD.sub [2, 3, 4, 0, 1] (by decide) rfl) (hK.sub [2, 3, 0, 1] rfl) ht hW⟩⟩, hS.F ht⟩) hS.2.2 dX7_begins_47
    · skip
      have hG := hG.trans (if_pos c_5421)
      have gc_5421 := ti_eq c_5421 rfl kc_0
      refine lv_aload_n hx hb dX7_begins_14 rfl (lv_at hl 0 rfl) ?_
      refine lv_iconst (v := 5) hx hb dX7_begins_15 (by decide) ?_
      refine lv_aload_n hx hb dX7_begins_16 rfl (lv_at hl 0 rfl) ?_
      refine va_get (D := (dC, dI)) (ci := 7) (v := .int iM_at) (C := RX7) (T := TX7) (N := 48) hx hb hts inX7 hown hK hP 3 rfl rfl 4 (by decide) (hts _ wd_384) (fun _ h9 => h9) rfl dX7_begins_17 ?_
      have hFc := va_free (wc := [(oc7 oM iM_thrown rM_tape iM_taped iM_size iM_at iM_end iM_token iM_whole iM_nameSize iM_fault iM_place iM_trouble rM_letters iM_failed iM_hasCourt rM_r rM_fresh rM_told rM_read rM_st rM_undone rM_kept iM_undos iM_images rM_fresher iM_fresherSize iM_scale iM_night rM_heardRow rM_cutRow iM_breaths iM_cutMany iM_allBreaths rM_trial rM_words iM_fewestBreaths iM_orderMany iM_orderSum iM_leastOrder rM_often iM_setMany iM_someOf iM_allOf iM_allWeight iM_enoughWeight iM_worthSum iM_firstRest iM_leastDrawn)]) hD hS hA [3] rfl
      refine va_callv (va_runV (As := [.int 5, .int iM_at]) (rest := []) ⟨hx, hb, hml, hown, hts⟩ (tX7_wrong l dC dI _ oM iM_thrown rM_tape iM_taped iM_size iM_at iM_end iM_token iM_whole iM_nameSize iM_fault iM_place iM_trouble rM_letters iM_failed iM_hasCourt rM_r rM_fresh rM_told rM_read rM_st rM_undone rM_kept iM_undos iM_images rM_fresher iM_fresherSize iM_scale iM_night rM_heardRow rM_cutRow iM_breaths iM_cutMany iM_allBreaths rM_trial rM_words iM_fewestBreaths iM_orderMany iM_orderSum iM_leastOrder rM_often iM_setMany iM_someOf iM_allOf iM_allWeight iM_enoughWeight iM_worthSum iM_firstRest iM_leastDrawn 5 iM_at (by first | omega | decide) (by first | omega | decide) (by first | omega | decide) (by first | omega | decide) (by first | omega | decide) (by first | omega | decide) (by first | omega | decide) (by first | omega | decide) (by first | omega | decide) (by first | omega | decide) (by first | omega | decide) (by first | assumption | exact (fun h9 => by have q0 := kc_0; have q1 := kc_1; omega))) (cwV 2 hts (wd_V wd_430 wd_431 wd_432 wd_5 (wd_c wd_433)) rfl rfl rfl (by decide +kernel) ⟨Nat.le_of_ble_eq_true rfl, Nat.le_of_ble_eq_true rfl⟩) ⟨Pw.fb, va_recv hK hP (ci := 7) (q0 := 3) rfl rfl, fun U hU hW => Pw.to (hP.sub [3] rfl) (hD.sub [3] (by decide) rfl) (hK.sub [] rfl) hE hS hFc hU hW⟩ rfl rfl hl.1 rfl (lv_room (Nat.le_of_ble_eq_true rfl)) dX7_begins_20 ⟨Nat.le_of_ble_eq_true rfl, Nat.le_of_ble_eq_true rfl⟩) hS (fun q _ h => hFc q h) hFc (fun u t H locs ht hvm hw hB hz1 hk1 hS => ?_)
      obtain ⟨x_5439, x_5440, x_5441, b_x_5441, e_x_5439_0, e_x_5439_1, hB⟩ := hB
      obtain ⟨hP, hD, hK⟩ := Bw.go (ws' := [(arI rM_tape kM_tape 900 fM_tape), (arI rM_fresh kM_fresh 287 fM_fresh), (arI rM_read kM_read 90 fM_read), (arI rM_letters kM_letters 8 fM_letters), (oc7 oM iM_thrown rM_tape iM_taped iM_size iM_at iM_end iM_token iM_whole iM_nameSize x_5439 x_5440 iM_trouble rM_letters x_5441 iM_hasCourt rM_r rM_fresh rM_told rM_read rM_st rM_undone rM_kept iM_undos iM_images rM_fresher iM_fresherSize iM_scale iM_night rM_heardRow rM_cutRow iM_breaths iM_cutMany iM_allBreaths rM_trial rM_words iM_fewestBreaths iM_orderMany iM_orderSum iM_leastOrder rM_often iM_setMany iM_someOf iM_allOf iM_allWeight iM_enoughWeight iM_worthSum iM_firstRest iM_leastDrawn)]) (tys' := [(kM_tape, .int), (kM_fresh, .int), (kM_read, .int), (kM_letters, .int)]) hB rfl ht hvm hP hD hK [3] [0, 1, 2, 4] rfl (by decide) (by decide) [0, 1, 2, 3] hk1 hFc rfl rfl rfl
      clear hz1 hk1 hvm ht hB
      have hG := hG.trans (un3_eq e_x_5439_1)
      refine lv_aload_n hx hb dX7_begins_23 rfl (lv_at hl 0 rfl) ?_
      refine va_get (D := (dC, dI)) (ci := 7) (v := .ref rM_fresh) (C := RX7) (T := TX7) (N := 48) hx hb hts inX7 hown hK hP 4 rfl rfl 16 (by decide) (hts _ wd_156) (fun _ h9 => h9) rfl dX7_begins_24 ?_
      refine lv_iconst (v := 5) hx hb dX7_begins_27 (by decide) ?_
      refine va_iald hx hb hK hP 1 1 rfl rfl (by unfold vp_in; decide) dX7_begins_28 ?_
      refine lv_topi (fun x_5442 ex_5442 => ?_)
      have hG := hG.trans (lt_eq ex_5442)
      have cx_5442 : (fM_fresh 5).toInt = x_5442.toInt := congrArg Int32.toInt (show fM_fresh 5 = x_5442 from ex_5442.symm)
      refine lv_if_ne (tgt := 42) hx hb dX7_begins_29 (by decide) (fun c_5443 => ?_) (fun c_5443 => ?_)
      · skip
        have hG := hG.trans (if_neg c_5443)
        have gc_5443 := ti_ne c_5443 rfl kc_0
        refine lv_aload_n hx hb dX7_begins_42 rfl (lv_at hl 0 rfl) ?_
        have hFc := va_free (wc := [(oc7 oM iM_thrown rM_tape iM_taped iM_size iM_at iM_end iM_token iM_whole iM_nameSize x_5439 x_5440 iM_trouble rM_letters x_5441 iM_hasCourt rM_r rM_fresh rM_told rM_read rM_st rM_undone rM_kept iM_undos iM_images rM_fresher iM_fresherSize iM_scale iM_night rM_heardRow rM_cutRow iM_breaths iM_cutMany iM_allBreaths rM_trial rM_words iM_fewestBreaths iM_orderMany iM_orderSum iM_leastOrder rM_often iM_setMany iM_someOf iM_allOf iM_allWeight iM_enoughWeight iM_worthSum iM_firstRest iM_leastDrawn), (arI rM_tape kM_tape 900 fM_tape), (arI rM_letters kM_letters 8 fM_letters)]) hD hS hA [4, 0, 3] rfl
        refine va_callv (va_runV (As := []) (rest := []) ⟨hx, hb, hml, hown, hts⟩ (tX7_pass l dC dI _ oM iM_thrown rM_tape fM_tape kM_tape iM_taped iM_size iM_at iM_end iM_token iM_whole iM_nameSize x_5439 x_5440 iM_trouble rM_letters fM_letters kM_letters x_5441 iM_hasCourt rM_r rM_fresh rM_told rM_read rM_st rM_undone rM_kept iM_undos iM_images rM_fresher iM_fresherSize iM_scale iM_night rM_heardRow rM_cutRow iM_breaths iM_cutMany iM_allBreaths rM_trial rM_words iM_fewestBreaths iM_orderMany iM_orderSum iM_leastOrder rM_often iM_setMany iM_someOf iM_allOf iM_allWeight iM_enoughWeight iM_worthSum iM_firstRest iM_leastDrawn (by first | omega | decide) (by first | omega | decide) (by first | omega | decide) (by first | omega | decide) (by first | exact b_x_5441 | omega | decide) (by first | omega | decide) (by first | omega | decide) (by first | omega | decide) (by first | omega | decide) (by first | omega | decide) (by first | omega | decide) (by first | assumption | exact (fun h9 => by have q0 := kc_0; have q1 := kc_1; omega))) (cwV 0 hts (wd_V wd_454 wd_455 wd_456 wd_5 (wd_c wd_457)) rfl rfl rfl (by decide +kernel) ⟨Nat.le_of_ble_eq_true rfl, Nat.le_of_ble_eq_true rfl⟩) ⟨Pw.fb, va_recv hK hP (ci := 7) (q0 := 4) rfl rfl, fun U hU hW => Pw.to (hP.sub [4, 0, 3] rfl) (hD.sub [4, 0, 3] (by decide) rfl) (hK.sub [0, 3] rfl) hE hS hFc hU hW⟩ rfl rfl hl.1 rfl (lv_room (Nat.le_of_ble_eq_true rfl)) dX7_begins_43 ⟨Nat.le_of_ble_eq_true rfl, Nat.le_of_ble_eq_true rfl⟩) hS (fun q _ h => hFc q h) hFc (fun u t H locs ht hvm hw hB hz1 hk1 hS => ?_)
        obtain ⟨x_5444, x_5445, x_5446, x_5447, x_5448, f_5449, b_x_5445, b_x_5448, e_x_5444_0, e_x_5444_1, e_x_5444_2, e_x_5444_3, hB⟩ := hB
        obtain ⟨hP, hD, hK⟩ := Bw.go (ws' := [(arI rM_fresh kM_fresh 287 fM_fresh), (arI rM_read kM_read 90 fM_read), (oc7 oM iM_thrown rM_tape iM_taped iM_size x_5444 x_5445 x_5446 x_5447 x_5448 x_5439 x_5440 iM_trouble rM_letters x_5441 iM_hasCourt rM_r rM_fresh rM_told rM_read rM_st rM_undone rM_kept iM_undos iM_images rM_fresher iM_fresherSize iM_scale iM_night rM_heardRow rM_cutRow iM_breaths iM_cutMany iM_allBreaths rM_trial rM_words iM_fewestBreaths iM_orderMany iM_orderSum iM_leastOrder rM_often iM_setMany iM_someOf iM_allOf iM_allWeight iM_enoughWeight iM_worthSum iM_firstRest iM_leastDrawn), (arI rM_tape kM_tape 900 fM_tape), (arI rM_letters kM_letters 8 f_5449)]) (tys' := [(kM_fresh, .int), (kM_read, .int), (kM_tape, .int), (kM_letters, .int)]) hB rfl ht hvm hP hD hK [4, 0, 3] [1, 2] rfl (by decide) (by decide) [1, 2] hk1 hFc rfl rfl rfl
        clear hz1 hk1 hvm ht hB
        have hG := hG.trans (un6_eq e_x_5444_3)
        refine lv_iconst (v := 1) hx hb dX7_begins_46 (by decide) ?_
        exact W.zret (v := 1) hx hb hr rfl (fun t ht hW => ⟨⟨_, 1, rfl, ⟨⟨Or.inr rfl, (by decide)⟩, (by decide)⟩, ⟨x_5444, x_5445, x_5446, x_5447, x_5448, x_5439, x_5440, x_5441, f_5449, b_x_5445, b_x_5448, b_x_5441, (by first | assumption | (have q0 := kc_0; have q1 := kc_1; omega)), e_x_5444_1, (by first | assumption | (have q0 := kc_0; have q1 := kc_1; omega)), (by first | assumption | exact (fun h9 => by have q0 := kc_0; have q1 := kc_1; omega)), (fun h9 => by have q0 := kc_0; have q1 := kc_1; omega), hG, Bw.to (hP.sub [2, 3, 4, 0, 1] rfl) (hD.sub [2, 3, 4, 0, 1] (by decide) rfl) (hK.sub [2, 3, 0, 1] rfl) ht hW⟩⟩, hS.F ht⟩) hS.2.2 dX7_begins_47
      · skip
        have hG := hG.trans (if_pos c_5443)
        have gc_5443 := ti_eq c_5443 rfl kc_0
        refine lv_aload_n hx hb dX7_begins_32 rfl (lv_at hl 0 rfl) ?_
        refine lv_bipush (v := 6) hx hb dX7_begins_33 (by decide) ?_
        refine lv_aload_n hx hb dX7_begins_35 rfl (lv_at hl 0 rfl) ?_
        refine va_get (D := (dC, dI)) (ci := 7) (v := .int iM_at) (C := RX7) (T := TX7) (N := 48) hx hb hts inX7 hown hK hP 4 rfl rfl 4 (by decide) (hts _ wd_384) (fun _ h9 => h9) rfl dX7_begins_36 ?_
        have hFc := va_free (wc := [(oc7 oM iM_thrown rM_tape iM_taped iM_size iM_at iM_end iM_token iM_whole iM_nameSize x_5439 x_5440 iM_trouble rM_letters x_5441 iM_hasCourt rM_r rM_fresh rM_told rM_read rM_st rM_undone rM_kept iM_undos iM_images rM_fresher iM_fresherSize iM_scale iM_night rM_heardRow rM_cutRow iM_breaths iM_cutMany iM_allBreaths rM_trial rM_words iM_fewestBreaths iM_orderMany iM_orderSum iM_leastOrder rM_often iM_setMany iM_someOf iM_allOf iM_allWeight iM_enoughWeight iM_worthSum iM_firstRest iM_leastDrawn)]) hD hS hA [4] rfl
        refine va_callv (va_runV (As := [.int 6, .int iM_at]) (rest := []) ⟨hx, hb, hml, hown, hts⟩ (tX7_wrong l dC dI _ oM iM_thrown rM_tape iM_taped iM_size iM_at iM_end iM_token iM_whole iM_nameSize x_5439 x_5440 iM_trouble rM_letters x_5441 iM_hasCourt rM_r rM_fresh rM_told rM_read rM_st rM_undone rM_kept iM_undos iM_images rM_fresher iM_fresherSize iM_scale iM_night rM_heardRow rM_cutRow iM_breaths iM_cutMany iM_allBreaths rM_trial rM_words iM_fewestBreaths iM_orderMany iM_orderSum iM_leastOrder rM_often iM_setMany iM_someOf iM_allOf iM_allWeight iM_enoughWeight iM_worthSum iM_firstRest iM_leastDrawn 6 iM_at (by first | omega | decide) (by first | omega | decide) (by first | omega | decide) (by first | omega | decide) (by first | exact b_x_5441 | omega | decide) (by first | omega | decide) (by first | omega | decide) (by first | omega | decide) (by first | omega | decide) (by first | omega | decide) (by first | omega | decide) (by first | assumption | exact (fun h9 => by have q0 := kc_0; have q1 := kc_1; omega))) (cwV 2 hts (wd_V wd_430 wd_431 wd_432 wd_5 (wd_c wd_433)) rfl rfl rfl (by decide +kernel) ⟨Nat.le_of_ble_eq_true rfl, Nat.le_of_ble_eq_true rfl⟩) ⟨Pw.fb, va_recv hK hP (ci := 7) (q0 := 4) rfl rfl, fun U hU hW => Pw.to (hP.sub [4] rfl) (hD.sub [4] (by decide) rfl) (hK.sub [] rfl) hE hS hFc hU hW⟩ rfl rfl hl.1 rfl (lv_room (Nat.le_of_ble_eq_true rfl)) dX7_begins_39 ⟨Nat.le_of_ble_eq_true rfl, Nat.le_of_ble_eq_true rfl⟩) hS (fun q _ h => hFc q h) hFc (fun u t H locs ht hvm hw hB hz1 hk1 hS => ?_)
        obtain ⟨x_5450, x_5451, x_5452, b_x_5452, e_x_5450_0, e_x_5450_1, hB⟩ := hB
        obtain ⟨hP, hD, hK⟩ := Bw.go (ws' := [(arI rM_tape kM_tape 900 fM_tape), (arI rM_fresh kM_fresh 287 fM_fresh), (arI rM_read kM_read 90 fM_read), (arI rM_letters kM_letters 8 fM_letters), (oc7 oM iM_thrown rM_tape iM_taped iM_size iM_at iM_end iM_token iM_whole iM_nameSize x_5450 x_5451 iM_trouble rM_letters x_5452 iM_hasCourt rM_r rM_fresh rM_told rM_read rM_st rM_undone rM_kept iM_undos iM_images rM_fresher iM_fresherSize iM_scale iM_night rM_heardRow rM_cutRow iM_breaths iM_cutMany iM_allBreaths rM_trial rM_words iM_fewestBreaths iM_orderMany iM_orderSum iM_leastOrder rM_often iM_setMany iM_someOf iM_allOf iM_allWeight iM_enoughWeight iM_worthSum iM_firstRest iM_leastDrawn)]) (tys' := [(kM_tape, .int), (kM_fresh, .int), (kM_read, .int), (kM_letters, .int)]) hB rfl ht hvm hP hD hK [4] [0, 1, 2, 3] rfl (by decide) (by decide) [0, 1, 2, 3] hk1 hFc rfl rfl rfl
        clear hz1 hk1 hvm ht hB
        have hG := hG.trans (un3_eq e_x_5450_1)
        refine lv_aload_n hx hb dX7_begins_42 rfl (lv_at hl 0 rfl) ?_
        have hFc := va_free (wc := [(oc7 oM iM_thrown rM_tape iM_taped iM_size iM_at iM_end iM_token iM_whole iM_nameSize x_5450 x_5451 iM_trouble rM_letters x_5452 iM_hasCourt rM_r rM_fresh rM_told rM_read rM_st rM_undone rM_kept iM_undos iM_images rM_fresher iM_fresherSize iM_scale iM_night rM_heardRow rM_cutRow iM_breaths iM_cutMany iM_allBreaths rM_trial rM_words iM_fewestBreaths iM_orderMany iM_orderSum iM_leastOrder rM_often iM_setMany iM_someOf iM_allOf iM_allWeight iM_enoughWeight iM_worthSum iM_firstRest iM_leastDrawn), (arI rM_tape kM_tape 900 fM_tape), (arI rM_letters kM_letters 8 fM_letters)]) hD hS hA [4, 0, 3] rfl
        refine va_callv (va_runV (As := []) (rest := []) ⟨hx, hb, hml, hown, hts⟩ (tX7_pass l dC dI _ oM iM_thrown rM_tape fM_tape kM_tape iM_taped iM_size iM_at iM_end iM_token iM_whole iM_nameSize x_5450 x_5451 iM_trouble rM_letters fM_letters kM_letters x_5452 iM_hasCourt rM_r rM_fresh rM_told rM_read rM_st rM_undone rM_kept iM_undos iM_images rM_fresher iM_fresherSize iM_scale iM_night rM_heardRow rM_cutRow iM_breaths iM_cutMany iM_allBreaths rM_trial rM_words iM_fewestBreaths iM_orderMany iM_orderSum iM_leastOrder rM_often iM_setMany iM_someOf iM_allOf iM_allWeight iM_enoughWeight iM_worthSum iM_firstRest iM_leastDrawn (by first | omega | decide) (by first | omega | decide) (by first | omega | decide) (by first | omega | decide) (by first | exact b_x_5452 | omega | decide) (by first | omega | decide) (by first | omega | decide) (by first | omega | decide) (by first | omega | decide) (by first | omega | decide) (by first | omega | decide) (by first | assumption | exact (fun h9 => by have q0 := kc_0; have q1 := kc_1; omega))) (cwV 0 hts (wd_V wd_454 wd_455 wd_456 wd_5 (wd_c wd_457)) rfl rfl rfl (by decide +kernel) ⟨Nat.le_of_ble_eq_true rfl, Nat.le_of_ble_eq_true rfl⟩) ⟨Pw.fb, va_recv hK hP (ci := 7) (q0 := 4) rfl rfl, fun U hU hW => Pw.to (hP.sub [4, 0, 3] rfl) (hD.sub [4, 0, 3] (by decide) rfl) (hK.sub [0, 3] rfl) hE hS hFc hU hW⟩ rfl rfl hl.1 rfl (lv_room (Nat.le_of_ble_eq_true rfl)) dX7_begins_43 ⟨Nat.le_of_ble_eq_true rfl, Nat.le_of_ble_eq_true rfl⟩) hS (fun q _ h => hFc q h) hFc (fun u t H locs ht hvm hw hB hz1 hk1 hS => ?_)
        obtain ⟨x_5453, x_5454, x_5455, x_5456, x_5457, f_5458, b_x_5454, b_x_5457, e_x_5453_0, e_x_5453_1, e_x_5453_2, e_x_5453_3, hB⟩ := hB
        obtain ⟨hP, hD, hK⟩ := Bw.go (ws' := [(arI rM_fresh kM_fresh 287 fM_fresh), (arI rM_read kM_read 90 fM_read), (oc7 oM iM_thrown rM_tape iM_taped iM_size x_5453 x_5454 x_5455 x_5456 x_5457 x_5450 x_5451 iM_trouble rM_letters x_5452 iM_hasCourt rM_r rM_fresh rM_told rM_read rM_st rM_undone rM_kept iM_undos iM_images rM_fresher iM_fresherSize iM_scale iM_night rM_heardRow rM_cutRow iM_breaths iM_cutMany iM_allBreaths rM_trial rM_words iM_fewestBreaths iM_orderMany iM_orderSum iM_leastOrder rM_often iM_setMany iM_someOf iM_allOf iM_allWeight iM_enoughWeight iM_worthSum iM_firstRest iM_leastDrawn), (arI rM_tape kM_tape 900 fM_tape), (arI rM_letters kM_letters 8 f_5458)]) (tys' := [(kM_fresh, .int), (kM_read, .int), (kM_tape, .int), (kM_letters, .int)]) hB rfl ht hvm hP hD hK [4, 0, 3] [1, 2] rfl (by decide) (by decide) [1, 2] hk1 hFc rfl rfl rfl
        clear hz1 hk1 hvm ht hB
        have hG := hG.trans (un6_eq e_x_5453_3)
        refine lv_iconst (v := 1) hx hb dX7_begins_46 (by decide) ?_
        exact W.zret (v := 1) hx hb hr rfl (fun t ht hW => ⟨⟨_, 1, rfl, ⟨⟨Or.inr rfl, (by decide)⟩, (by decide)⟩, ⟨x_5453, x_5454, x_5455, x_5456, x_5457, x_5450, x_5451, x_5452, f_5458, b_x_5454, b_x_5457, b_x_5452, (by first | assumption | (have q0 := kc_0; have q1 := kc_1; omega)), e_x_5453_1, (by first | assumption | (have q0 := kc_0; have q1 := kc_1; omega)), (by first | assumption | exact (fun h9 => by have q0 := kc_0; have q1 := kc_1; omega)), (fun h9 => by have q0 := kc_0; have q1 := kc_1; omega), hG, Bw.to (hP.sub [2, 3, 4, 0, 1] rfl) (hD.sub [2, 3, 4, 0, 1] (by decide) rfl) (hK.sub [2, 3, 0, 1] rfl) ht hW⟩⟩, hS.F ht⟩) hS.2.2 dX7_begins_47
  · skip
    have hG := hG.trans (if_pos c_5418)
    have gc_5418 := ti_eq c_5418 rfl kc_0
    clear lx_5417
    refine lv_iconst (v := 0) hx hb dX7_begins_8 (by decide) ?_
    exact W.zret (v := 0) hx hb hr rfl (fun t ht hW => ⟨⟨_, 0, rfl, ⟨⟨Or.inl rfl, (by decide)⟩, (by decide)⟩, ⟨iM_at, iM_end, iM_token, iM_whole, iM_nameSize, iM_fault, iM_place, iM_failed, fM_letters, (by omega), (by omega), (by omega), (by first | assumption | (have q0 := kc_0; have q1 := kc_1; omega)), r_T, (by first | assumption | (have q0 := kc_0; have q1 := kc_1; omega)), (by first | assumption | exact (fun h9 => by have q0 := kc_0; have q1 := kc_1; omega)), (fun h9 => by have q0 := kc_0; have q1 := kc_1; omega), hG, Bw.to (hP.sub [3, 0, 4, 1, 2] rfl) (hD.sub [3, 0, 4, 1, 2] (by decide) rfl) (hK.sub [0, 3, 1, 2] rfl) ht hW⟩⟩, hS.F ht⟩) hS.2.2 dX7_begins_9
