set_option maxHeartbeats 4000000 in
set_option maxRecDepth 100000 in
theorem tX7_isSmall_p (l : Launch) (dC : Nat → ClassId) (dI : Nat → Nat → Nat) (sz : Nat) (p0 : Int32)  : Met l yX7_isSmall (Cond.code yX7_isSmall cX7_isSmall 1 (some .boolean) :: wG) ({ frames := 0, cells := 0, slots := 0, locals := 0 }) (va_Pc [.int p0] (Pw dC dI sz [] [])) (va_Qi (fun (r : Int32) (_ : Nat) => ((r = 0 ∨ r = 1) ∧ (r.toInt = 1 → 97 ≤ p0.toInt ∧ p0.toInt ≤ 122)) ∧ PX7_isSmall p0 = r) (fun (_ : Nat) (_ : State) => True) (va_A [] sz)) 0 0 (va_A [] sz) := by
  refine Met.ofW (cc := cX7_isSmall) (maxL := 1) (ret := (some .boolean)) (by decide) rfl ?_
  intro p e s m args below meth c s₁ B hml hv
  obtain ⟨rfl, hsz, hP, hK, hD0, hE⟩ := hv
  have hx := B.exec
  have hb := B.bytes
  have hr := B.returns
  have hts : ∀ w ∈ wG, w.before ([.int p0] : List Value).toArray s = true := fun w h => atoms_spec (ws := Cond.code yX7_isSmall cX7_isSmall 1 (some .boolean) :: wG) B.pre w (List.mem_cons_of_mem _ h)
  have hown : s.vm.findClass RX7 = some m.cls := findClass_of_methodNamed B.named
  have hlocks := B.notSynchronized
  subst hsz
  generalize hAe : va_A [] s.heap.size = A at hE ⊢
  have hA : ∀ q : Nat, s.heap.size ≤ q → A q := fun q h => by rw [← hAe]; exact Or.inr h
  have hS : va_S A s.heap s.heap [] := va_S.rf
  have hl := lv_entry ([.int p0]) (n := 1) (Nat.le_of_ble_eq_true rfl)
  rw [lg_entry_eq]
  generalize (lg_sl ([.int p0]) ++ List.replicate (1 - (lg_sl ([.int p0])).length) Slot.unset).toArray = ls at hl ⊢
  have hl : lv_has ls 1 [(0, .int p0)] := hl
  have hG := PX7_isSmall_eq p0
  refine lv_iload_n hx hb dX7_isSmall_0 rfl (lv_at hl 0 rfl) ?_
  refine lv_bipush (v := 97) hx hb dX7_isSmall_1 (by decide) ?_
  refine lv_icmp_lt (tgt := 16) hx hb dX7_isSmall_3 (by decide) (fun c_4725 => ?_) (fun c_4725 => ?_)
  · skip
    have hG := hG.trans (if_pos c_4725)
    have gc_4725 := ti_lt c_4725 rfl kc_97
    refine lv_iconst (v := 0) hx hb dX7_isSmall_16 (by decide) ?_
    exact W.zret (v := 0) hx hb hr rfl (fun t ht hW => ⟨⟨_, 0, rfl, ⟨⟨Or.inl rfl, (by have q0 := kc_0; have q1 := kc_1; omega)⟩, hG⟩, trivial⟩, hS.F ht⟩) hS.2.2 dX7_isSmall_17
  · skip
    have hG := hG.trans (if_neg c_4725)
    have gc_4725 := ti_nlt c_4725 rfl kc_97
    refine lv_iload_n hx hb dX7_isSmall_6 rfl (lv_at hl 0 rfl) ?_
    refine lv_bipush (v := 122) hx hb dX7_isSmall_7 (by decide) ?_
    refine lv_icmp_gt (tgt := 16) hx hb dX7_isSmall_9 (by decide) (fun c_4726 => ?_) (fun c_4726 => ?_)
    · skip
      have hG := hG.trans (if_pos c_4726)
      have gc_4726 := ti_lt c_4726 kc_122 rfl
      refine lv_iconst (v := 0) hx hb dX7_isSmall_16 (by decide) ?_
      exact W.zret (v := 0) hx hb hr rfl (fun t ht hW => ⟨⟨_, 0, rfl, ⟨⟨Or.inl rfl, (by have q0 := kc_0; have q1 := kc_1; omega)⟩, hG⟩, trivial⟩, hS.F ht⟩) hS.2.2 dX7_isSmall_17
    · skip
      have hG := hG.trans (if_neg c_4726)
      have gc_4726 := ti_nlt c_4726 kc_122 rfl
      refine lv_iconst (v := 1) hx hb dX7_isSmall_12 (by decide) ?_
      refine lv_goto (tgt := 17) hx hb dX7_isSmall_13 (by decide) ?_
      exact W.zret (v := 1) hx hb hr rfl (fun t ht hW => ⟨⟨_, 0, rfl, ⟨⟨Or.inr rfl, (by have q0 := kc_0; have q1 := kc_1; omega)⟩, hG⟩, trivial⟩, hS.F ht⟩) hS.2.2 dX7_isSmall_17
set_option maxHeartbeats 4000000 in
set_option maxRecDepth 100000 in
theorem tX7_isDigit_p (l : Launch) (dC : Nat → ClassId) (dI : Nat → Nat → Nat) (sz : Nat) (p0 : Int32)  : Met l yX7_isDigit (Cond.code yX7_isDigit cX7_isDigit 1 (some .boolean) :: wG) ({ frames := 0, cells := 0, slots := 0, locals := 0 }) (va_Pc [.int p0] (Pw dC dI sz [] [])) (va_Qi (fun (r : Int32) (_ : Nat) => ((r = 0 ∨ r = 1) ∧ (r.toInt = 1 → 48 ≤ p0.toInt ∧ p0.toInt ≤ 57)) ∧ PX7_isDigit p0 = r) (fun (_ : Nat) (_ : State) => True) (va_A [] sz)) 0 0 (va_A [] sz) := by
  refine Met.ofW (cc := cX7_isDigit) (maxL := 1) (ret := (some .boolean)) (by decide) rfl ?_
  intro p e s m args below meth c s₁ B hml hv
  obtain ⟨rfl, hsz, hP, hK, hD0, hE⟩ := hv
  have hx := B.exec
  have hb := B.bytes
  have hr := B.returns
  have hts : ∀ w ∈ wG, w.before ([.int p0] : List Value).toArray s = true := fun w h => atoms_spec (ws := Cond.code yX7_isDigit cX7_isDigit 1 (some .boolean) :: wG) B.pre w (List.mem_cons_of_mem _ h)
  have hown : s.vm.findClass RX7 = some m.cls := findClass_of_methodNamed B.named
  have hlocks := B.notSynchronized
  subst hsz
  generalize hAe : va_A [] s.heap.size = A at hE ⊢
  have hA : ∀ q : Nat, s.heap.size ≤ q → A q := fun q h => by rw [← hAe]; exact Or.inr h
  have hS : va_S A s.heap s.heap [] := va_S.rf
  have hl := lv_entry ([.int p0]) (n := 1) (Nat.le_of_ble_eq_true rfl)
  rw [lg_entry_eq]
  generalize (lg_sl ([.int p0]) ++ List.replicate (1 - (lg_sl ([.int p0])).length) Slot.unset).toArray = ls at hl ⊢
  have hl : lv_has ls 1 [(0, .int p0)] := hl
  have hG := PX7_isDigit_eq p0
  refine lv_iload_n hx hb dX7_isDigit_0 rfl (lv_at hl 0 rfl) ?_
  refine lv_bipush (v := 48) hx hb dX7_isDigit_1 (by decide) ?_
  refine lv_icmp_lt (tgt := 16) hx hb dX7_isDigit_3 (by decide) (fun c_4727 => ?_) (fun c_4727 => ?_)
  · skip
    have hG := hG.trans (if_pos c_4727)
    have gc_4727 := ti_lt c_4727 rfl kc_48
    refine lv_iconst (v := 0) hx hb dX7_isDigit_16 (by decide) ?_
    exact W.zret (v := 0) hx hb hr rfl (fun t ht hW => ⟨⟨_, 0, rfl, ⟨⟨Or.inl rfl, (by have q0 := kc_0; have q1 := kc_1; omega)⟩, hG⟩, trivial⟩, hS.F ht⟩) hS.2.2 dX7_isDigit_17
  · skip
    have hG := hG.trans (if_neg c_4727)
    have gc_4727 := ti_nlt c_4727 rfl kc_48
    refine lv_iload_n hx hb dX7_isDigit_6 rfl (lv_at hl 0 rfl) ?_
    refine lv_bipush (v := 57) hx hb dX7_isDigit_7 (by decide) ?_
    refine lv_icmp_gt (tgt := 16) hx hb dX7_isDigit_9 (by decide) (fun c_4728 => ?_) (fun c_4728 => ?_)
    · skip
      have hG := hG.trans (if_pos c_4728)
      have gc_4728 := ti_lt c_4728 kc_57 rfl
      refine lv_iconst (v := 0) hx hb dX7_isDigit_16 (by decide) ?_
      exact W.zret (v := 0) hx hb hr rfl (fun t ht hW => ⟨⟨_, 0, rfl, ⟨⟨Or.inl rfl, (by have q0 := kc_0; have q1 := kc_1; omega)⟩, hG⟩, trivial⟩, hS.F ht⟩) hS.2.2 dX7_isDigit_17
    · skip
      have hG := hG.trans (if_neg c_4728)
      have gc_4728 := ti_nlt c_4728 kc_57 rfl
      refine lv_iconst (v := 1) hx hb dX7_isDigit_12 (by decide) ?_
      refine lv_goto (tgt := 17) hx hb dX7_isDigit_13 (by decide) ?_
      exact W.zret (v := 1) hx hb hr rfl (fun t ht hW => ⟨⟨_, 0, rfl, ⟨⟨Or.inr rfl, (by have q0 := kc_0; have q1 := kc_1; omega)⟩, hG⟩, trivial⟩, hS.F ht⟩) hS.2.2 dX7_isDigit_17
set_option maxHeartbeats 4000000 in
set_option maxRecDepth 100000 in
theorem tX7_see_p (l : Launch) (dC : Nat → ClassId) (dI : Nat → Nat → Nat) (sz : Nat) (oM : Nat) (iM_thrown : Int32) (rM_tape : Nat) (fM_tape : Nat → Int32) (kM_tape : ClassId) (iM_taped : Int32) (iM_size : Int32) (iM_at : Int32) (iM_end : Int32) (iM_token : Int32) (iM_whole : Int32) (iM_nameSize : Int32) (iM_fault : Int32) (iM_place : Int32) (iM_trouble : Int32) (rM_letters : Nat) (iM_failed : Int32) (iM_hasCourt : Int32) (rM_r : Nat) (rM_fresh : Nat) (rM_told : Nat) (rM_read : Nat) (rM_st : Nat) (rM_undone : Nat) (rM_kept : Nat) (iM_undos : Int32) (iM_images : Int32) (rM_fresher : Nat) (iM_fresherSize : Int32) (iM_scale : Int32) (iM_night : Int32) (rM_heardRow : Nat) (rM_cutRow : Nat) (iM_breaths : Int32) (iM_cutMany : Int32) (iM_allBreaths : Int32) (rM_trial : Nat) (rM_words : Nat) (iM_fewestBreaths : Int32) (iM_orderMany : Int32) (iM_orderSum : Int32) (iM_leastOrder : Int32) (rM_often : Nat) (iM_setMany : Int32) (iM_someOf : Int32) (iM_allOf : Int32) (iM_allWeight : Int64) (iM_enoughWeight : Int64) (iM_worthSum : Int64) (iM_firstRest : Int32) (iM_leastDrawn : Int32) (p0 : Int32) (b_iM_taped : 0 ≤ iM_taped.toInt ∧ iM_taped.toInt ≤ 900) (b_iM_size : 0 ≤ iM_size.toInt ∧ iM_size.toInt ≤ 900) (b_iM_end : 0 ≤ iM_end.toInt ∧ iM_end.toInt ≤ 900) (b_iM_nameSize : 0 ≤ iM_nameSize.toInt ∧ iM_nameSize.toInt ≤ 900) (b_iM_failed : 0 ≤ iM_failed.toInt ∧ iM_failed.toInt ≤ 1) (b_iM_hasCourt : 0 ≤ iM_hasCourt.toInt ∧ iM_hasCourt.toInt ≤ 1) (b_iM_undos : 0 ≤ iM_undos.toInt ∧ iM_undos.toInt ≤ 16) (b_iM_images : 0 ≤ iM_images.toInt ∧ iM_images.toInt ≤ 3) (b_iM_scale : 1 ≤ iM_scale.toInt ∧ iM_scale.toInt ≤ 1296) (b_iM_breaths : 0 ≤ iM_breaths.toInt ∧ iM_breaths.toInt ≤ 399) (b_iM_cutMany : 0 ≤ iM_cutMany.toInt ∧ iM_cutMany.toInt ≤ 399) (hs : 0 ≤ p0.toInt) : Met l yX7_see (Cond.code yX7_see cX7_see 2 (some .int) :: wG) ({ frames := 0, cells := 0, slots := 0, locals := 0 }) (va_Pc [.ref oM, .int p0] (Pw dC dI sz [(oc7 oM iM_thrown rM_tape iM_taped iM_size iM_at iM_end iM_token iM_whole iM_nameSize iM_fault iM_place iM_trouble rM_letters iM_failed iM_hasCourt rM_r rM_fresh rM_told rM_read rM_st rM_undone rM_kept iM_undos iM_images rM_fresher iM_fresherSize iM_scale iM_night rM_heardRow rM_cutRow iM_breaths iM_cutMany iM_allBreaths rM_trial rM_words iM_fewestBreaths iM_orderMany iM_orderSum iM_leastOrder rM_often iM_setMany iM_someOf iM_allOf iM_allWeight iM_enoughWeight iM_worthSum iM_firstRest iM_leastDrawn), (arI rM_tape kM_tape 900 fM_tape)] [(kM_tape, .int)])) (va_Qi (fun (r : Int32) (_ : Nat) => (True ∧ (r.toInt ≠ -1 → p0.toInt < iM_size.toInt)) ∧ PX7_see_p fM_tape iM_size p0 = r) (fun (_ : Nat) (t : State) => Bw dC dI (va_A [(oc7 oM iM_thrown rM_tape iM_taped iM_size iM_at iM_end iM_token iM_whole iM_nameSize iM_fault iM_place iM_trouble rM_letters iM_failed iM_hasCourt rM_r rM_fresh rM_told rM_read rM_st rM_undone rM_kept iM_undos iM_images rM_fresher iM_fresherSize iM_scale iM_night rM_heardRow rM_cutRow iM_breaths iM_cutMany iM_allBreaths rM_trial rM_words iM_fewestBreaths iM_orderMany iM_orderSum iM_leastOrder rM_often iM_setMany iM_someOf iM_allOf iM_allWeight iM_enoughWeight iM_worthSum iM_firstRest iM_leastDrawn), (arI rM_tape kM_tape 900 fM_tape)] sz) [(oc7 oM iM_thrown rM_tape iM_taped iM_size iM_at iM_end iM_token iM_whole iM_nameSize iM_fault iM_place iM_trouble rM_letters iM_failed iM_hasCourt rM_r rM_fresh rM_told rM_read rM_st rM_undone rM_kept iM_undos iM_images rM_fresher iM_fresherSize iM_scale iM_night rM_heardRow rM_cutRow iM_breaths iM_cutMany iM_allBreaths rM_trial rM_words iM_fewestBreaths iM_orderMany iM_orderSum iM_leastOrder rM_often iM_setMany iM_someOf iM_allOf iM_allWeight iM_enoughWeight iM_worthSum iM_firstRest iM_leastDrawn), (arI rM_tape kM_tape 900 fM_tape)] [(kM_tape, .int)] t) (va_A [(oc7 oM iM_thrown rM_tape iM_taped iM_size iM_at iM_end iM_token iM_whole iM_nameSize iM_fault iM_place iM_trouble rM_letters iM_failed iM_hasCourt rM_r rM_fresh rM_told rM_read rM_st rM_undone rM_kept iM_undos iM_images rM_fresher iM_fresherSize iM_scale iM_night rM_heardRow rM_cutRow iM_breaths iM_cutMany iM_allBreaths rM_trial rM_words iM_fewestBreaths iM_orderMany iM_orderSum iM_leastOrder rM_often iM_setMany iM_someOf iM_allOf iM_allWeight iM_enoughWeight iM_worthSum iM_firstRest iM_leastDrawn), (arI rM_tape kM_tape 900 fM_tape)] sz)) 0 0 (va_A [(oc7 oM iM_thrown rM_tape iM_taped iM_size iM_at iM_end iM_token iM_whole iM_nameSize iM_fault iM_place iM_trouble rM_letters iM_failed iM_hasCourt rM_r rM_fresh rM_told rM_read rM_st rM_undone rM_kept iM_undos iM_images rM_fresher iM_fresherSize iM_scale iM_night rM_heardRow rM_cutRow iM_breaths iM_cutMany iM_allBreaths rM_trial rM_words iM_fewestBreaths iM_orderMany iM_orderSum iM_leastOrder rM_often iM_setMany iM_someOf iM_allOf iM_allWeight iM_enoughWeight iM_worthSum iM_firstRest iM_leastDrawn), (arI rM_tape kM_tape 900 fM_tape)] sz) := by
  refine Met.ofW (cc := cX7_see) (maxL := 2) (ret := (some .int)) (by decide) rfl ?_
  intro p e s m args below meth c s₁ B hml hv
  obtain ⟨rfl, hsz, hP, hK, hD0, hE⟩ := hv
  have hx := B.exec
  have hb := B.bytes
  have hr := B.returns
  have hts : ∀ w ∈ wG, w.before ([.ref oM, .int p0] : List Value).toArray s = true := fun w h => atoms_spec (ws := Cond.code yX7_see cX7_see 2 (some .int) :: wG) B.pre w (List.mem_cons_of_mem _ h)
  have hown : s.vm.findClass RX7 = some m.cls := findClass_of_methodNamed B.named
  have hlocks := B.notSynchronized
  subst hsz
  have hD := hD0.self (sz := s.heap.size)
  generalize hAe : va_A [(oc7 oM iM_thrown rM_tape iM_taped iM_size iM_at iM_end iM_token iM_whole iM_nameSize iM_fault iM_place iM_trouble rM_letters iM_failed iM_hasCourt rM_r rM_fresh rM_told rM_read rM_st rM_undone rM_kept iM_undos iM_images rM_fresher iM_fresherSize iM_scale iM_night rM_heardRow rM_cutRow iM_breaths iM_cutMany iM_allBreaths rM_trial rM_words iM_fewestBreaths iM_orderMany iM_orderSum iM_leastOrder rM_often iM_setMany iM_someOf iM_allOf iM_allWeight iM_enoughWeight iM_worthSum iM_firstRest iM_leastDrawn), (arI rM_tape kM_tape 900 fM_tape)] s.heap.size = A at hD hE ⊢
  have hA : ∀ q : Nat, s.heap.size ≤ q → A q := fun q h => by rw [← hAe]; exact Or.inr h
  have hS : va_S A s.heap s.heap [] := va_S.rf
  have hl := lv_entry ([.ref oM, .int p0]) (n := 2) (Nat.le_of_ble_eq_true rfl)
  rw [lg_entry_eq]
  generalize (lg_sl ([.ref oM, .int p0]) ++ List.replicate (2 - (lg_sl ([.ref oM, .int p0])).length) Slot.unset).toArray = ls at hl ⊢
  have hl : lv_has ls 2 [(0, .ref oM), (1, .int p0)] := hl
  have hG := PX7_see_p_eq fM_tape iM_size p0
  refine lv_iload_n hx hb dX7_see_0 rfl (lv_at hl 1 rfl) ?_
  refine lv_aload_n hx hb dX7_see_1 rfl (lv_at hl 0 rfl) ?_
  refine va_get (D := (dC, dI)) (ci := 7) (v := .int iM_size) (C := RX7) (T := TX7) (N := 48) hx hb hts inX7 hown hK hP 0 rfl rfl 3 (by decide) (hts _ wd_381) (fun _ h9 => h9) rfl dX7_see_2 ?_
  refine lv_icmp_ge (tgt := 17) hx hb dX7_see_5 (by decide) (fun c_4731 => ?_) (fun c_4731 => ?_)
  · skip
    have hG := hG.trans (if_pos c_4731)
    have gc_4731 := ti_le c_4731 rfl rfl
    refine lv_iconst (v := (-1)) hx hb dX7_see_17 (by decide) ?_
    exact W.iret hx hb hr (fun t ht hW => ⟨⟨_, 0, rfl, ⟨⟨trivial, (by have q := kc_m1; first | omega | assumption)⟩, hG⟩, Bw.to (hP.sub [0, 1] rfl) (hD.sub [0, 1] (by decide) rfl) (hK.sub [0] rfl) ht hW⟩, hS.F ht⟩) hS.2.2 dX7_see_18
  · skip
    have hG := hG.trans (if_neg c_4731)
    have gc_4731 := ti_nle c_4731 rfl rfl
    refine lv_aload_n hx hb dX7_see_8 rfl (lv_at hl 0 rfl) ?_
    refine va_get (D := (dC, dI)) (ci := 7) (v := .ref rM_tape) (C := RX7) (T := TX7) (N := 48) hx hb hts inX7 hown hK hP 0 rfl rfl 1 (by decide) (hts _ wd_152) (fun _ h9 => h9) rfl dX7_see_9 ?_
    refine lv_iload_n hx hb dX7_see_12 rfl (lv_at hl 1 rfl) ?_
    refine va_iald hx hb hK hP 1 0 rfl rfl (ti_in rfl (by omega) (by omega)) dX7_see_13 ?_
    refine lv_topi (fun x_4732 ex_4732 => ?_)
    have hG := hG.trans (lt_eq ex_4732)
    have kx_4732 : (fM_tape p0.toNatClampNeg).toInt = x_4732.toInt := by rw [ex_4732]
    have cx_4732 := kx_4732
    refine lv_goto (tgt := 18) hx hb dX7_see_14 (by decide) ?_
    exact W.iret hx hb hr (fun t ht hW => ⟨⟨_, 0, rfl, ⟨⟨trivial, (by first | omega | assumption)⟩, hG⟩, Bw.to (hP.sub [0, 1] rfl) (hD.sub [0, 1] (by decide) rfl) (hK.sub [0] rfl) ht hW⟩, hS.F ht⟩) hS.2.2 dX7_see_18
set_option maxHeartbeats 4000000 in
set_option maxRecDepth 100000 in
theorem tX7_next (l : Launch) (dC : Nat → ClassId) (dI : Nat → Nat → Nat) (sz : Nat) (oM : Nat) (iM_thrown : Int32) (rM_tape : Nat) (fM_tape : Nat → Int32) (kM_tape : ClassId) (iM_taped : Int32) (iM_size : Int32) (iM_at : Int32) (iM_end : Int32) (iM_token : Int32) (iM_whole : Int32) (iM_nameSize : Int32) (iM_fault : Int32) (iM_place : Int32) (iM_trouble : Int32) (rM_letters : Nat) (fM_letters : Nat → Int32) (kM_letters : ClassId) (iM_failed : Int32) (iM_hasCourt : Int32) (rM_r : Nat) (rM_fresh : Nat) (rM_told : Nat) (rM_read : Nat) (rM_st : Nat) (rM_undone : Nat) (rM_kept : Nat) (iM_undos : Int32) (iM_images : Int32) (rM_fresher : Nat) (iM_fresherSize : Int32) (iM_scale : Int32) (iM_night : Int32) (rM_heardRow : Nat) (rM_cutRow : Nat) (iM_breaths : Int32) (iM_cutMany : Int32) (iM_allBreaths : Int32) (rM_trial : Nat) (rM_words : Nat) (iM_fewestBreaths : Int32) (iM_orderMany : Int32) (iM_orderSum : Int32) (iM_leastOrder : Int32) (rM_often : Nat) (iM_setMany : Int32) (iM_someOf : Int32) (iM_allOf : Int32) (iM_allWeight : Int64) (iM_enoughWeight : Int64) (iM_worthSum : Int64) (iM_firstRest : Int32) (iM_leastDrawn : Int32) (b_iM_taped : 0 ≤ iM_taped.toInt ∧ iM_taped.toInt ≤ 900) (b_iM_size : 0 ≤ iM_size.toInt ∧ iM_size.toInt ≤ 900) (b_iM_end : 0 ≤ iM_end.toInt ∧ iM_end.toInt ≤ 900) (b_iM_nameSize : 0 ≤ iM_nameSize.toInt ∧ iM_nameSize.toInt ≤ 900) (b_iM_failed : 0 ≤ iM_failed.toInt ∧ iM_failed.toInt ≤ 1) (b_iM_hasCourt : 0 ≤ iM_hasCourt.toInt ∧ iM_hasCourt.toInt ≤ 1) (b_iM_undos : 0 ≤ iM_undos.toInt ∧ iM_undos.toInt ≤ 16) (b_iM_images : 0 ≤ iM_images.toInt ∧ iM_images.toInt ≤ 3) (b_iM_scale : 1 ≤ iM_scale.toInt ∧ iM_scale.toInt ≤ 1296) (b_iM_breaths : 0 ≤ iM_breaths.toInt ∧ iM_breaths.toInt ≤ 399) (b_iM_cutMany : 0 ≤ iM_cutMany.toInt ∧ iM_cutMany.toInt ≤ 399) (r_T : ImpP (iM_token.toInt = 2) (iM_nameSize.toInt ≤ 8))  : Met l yX7_next (Cond.code yX7_next cX7_next 4 none :: wG) ({ frames := 1, cells := 0, slots := 0, locals := 21 }) (va_Pc [.ref oM] (Pw dC dI sz [(oc7 oM iM_thrown rM_tape iM_taped iM_size iM_at iM_end iM_token iM_whole iM_nameSize iM_fault iM_place iM_trouble rM_letters iM_failed iM_hasCourt rM_r rM_fresh rM_told rM_read rM_st rM_undone rM_kept iM_undos iM_images rM_fresher iM_fresherSize iM_scale iM_night rM_heardRow rM_cutRow iM_breaths iM_cutMany iM_allBreaths rM_trial rM_words iM_fewestBreaths iM_orderMany iM_orderSum iM_leastOrder rM_often iM_setMany iM_someOf iM_allOf iM_allWeight iM_enoughWeight iM_worthSum iM_firstRest iM_leastDrawn), (arI rM_tape kM_tape 900 fM_tape), (arI rM_letters kM_letters 8 fM_letters)] [(kM_tape, .int), (kM_letters, .int)])) (va_Qv (fun (_ : Nat) => True) (fun (_ : Nat) (t : State) => ∃ (niM_at : Int32) (niM_end : Int32) (niM_token : Int32) (niM_whole : Int32) (niM_nameSize : Int32) (nfM_letters : Nat → Int32), (0 ≤ niM_end.toInt ∧ niM_end.toInt ≤ 900) ∧ (0 ≤ niM_nameSize.toInt ∧ niM_nameSize.toInt ≤ 900) ∧ (iM_end.toInt ≤ niM_end.toInt) ∧ (ImpP (niM_token.toInt = 2) (niM_nameSize.toInt ≤ 8)) ∧ (ImpP (niM_token.toInt = 59 ) (iM_end.toInt + 1 ≤ niM_end.toInt)) ∧ (PX7_next fM_tape iM_size iM_end fM_letters = (niM_at, niM_end, niM_token, niM_whole, niM_nameSize, nfM_letters)) ∧ Bw dC dI (va_A [(oc7 oM iM_thrown rM_tape iM_taped iM_size iM_at iM_end iM_token iM_whole iM_nameSize iM_fault iM_place iM_trouble rM_letters iM_failed iM_hasCourt rM_r rM_fresh rM_told rM_read rM_st rM_undone rM_kept iM_undos iM_images rM_fresher iM_fresherSize iM_scale iM_night rM_heardRow rM_cutRow iM_breaths iM_cutMany iM_allBreaths rM_trial rM_words iM_fewestBreaths iM_orderMany iM_orderSum iM_leastOrder rM_often iM_setMany iM_someOf iM_allOf iM_allWeight iM_enoughWeight iM_worthSum iM_firstRest iM_leastDrawn), (arI rM_tape kM_tape 900 fM_tape), (arI rM_letters kM_letters 8 fM_letters)] sz) [(oc7 oM iM_thrown rM_tape iM_taped iM_size niM_at niM_end niM_token niM_whole niM_nameSize iM_fault iM_place iM_trouble rM_letters iM_failed iM_hasCourt rM_r rM_fresh rM_told rM_read rM_st rM_undone rM_kept iM_undos iM_images rM_fresher iM_fresherSize iM_scale iM_night rM_heardRow rM_cutRow iM_breaths iM_cutMany iM_allBreaths rM_trial rM_words iM_fewestBreaths iM_orderMany iM_orderSum iM_leastOrder rM_often iM_setMany iM_someOf iM_allOf iM_allWeight iM_enoughWeight iM_worthSum iM_firstRest iM_leastDrawn), (arI rM_tape kM_tape 900 fM_tape), (arI rM_letters kM_letters 8 nfM_letters)] [(kM_tape, .int), (kM_letters, .int)] t) (va_A [(oc7 oM iM_thrown rM_tape iM_taped iM_size iM_at iM_end iM_token iM_whole iM_nameSize iM_fault iM_place iM_trouble rM_letters iM_failed iM_hasCourt rM_r rM_fresh rM_told rM_read rM_st rM_undone rM_kept iM_undos iM_images rM_fresher iM_fresherSize iM_scale iM_night rM_heardRow rM_cutRow iM_breaths iM_cutMany iM_allBreaths rM_trial rM_words iM_fewestBreaths iM_orderMany iM_orderSum iM_leastOrder rM_often iM_setMany iM_someOf iM_allOf iM_allWeight iM_enoughWeight iM_worthSum iM_firstRest iM_leastDrawn), (arI rM_tape kM_tape 900 fM_tape), (arI rM_letters kM_letters 8 fM_letters)] sz)) 0 0 (va_A [(oc7 oM iM_thrown rM_tape iM_taped iM_size iM_at iM_end iM_token iM_whole iM_nameSize iM_fault iM_place iM_trouble rM_letters iM_failed iM_hasCourt rM_r rM_fresh rM_told rM_read rM_st rM_undone rM_kept iM_undos iM_images rM_fresher iM_fresherSize iM_scale iM_night rM_heardRow rM_cutRow iM_breaths iM_cutMany iM_allBreaths rM_trial rM_words iM_fewestBreaths iM_orderMany iM_orderSum iM_leastOrder rM_often iM_setMany iM_someOf iM_allOf iM_allWeight iM_enoughWeight iM_worthSum iM_firstRest iM_leastDrawn), (arI rM_tape kM_tape 900 fM_tape), (arI rM_letters kM_letters 8 fM_letters)] sz) := by
  refine Met.ofW (cc := cX7_next) (maxL := 4) (ret := none) (by decide) rfl ?_
  intro p e s m args below meth c s₁ B hml hv
  obtain ⟨rfl, hsz, hP, hK, hD0, hE⟩ := hv
  have hx := B.exec
  have hb := B.bytes
  have hr := B.returns
  have hts : ∀ w ∈ wG, w.before ([.ref oM] : List Value).toArray s = true := fun w h => atoms_spec (ws := Cond.code yX7_next cX7_next 4 none :: wG) B.pre w (List.mem_cons_of_mem _ h)
  have hown : s.vm.findClass RX7 = some m.cls := findClass_of_methodNamed B.named
  have hlocks := B.notSynchronized
  subst hsz
  have hD := hD0.self (sz := s.heap.size)
  generalize hAe : va_A [(oc7 oM iM_thrown rM_tape iM_taped iM_size iM_at iM_end iM_token iM_whole iM_nameSize iM_fault iM_place iM_trouble rM_letters iM_failed iM_hasCourt rM_r rM_fresh rM_told rM_read rM_st rM_undone rM_kept iM_undos iM_images rM_fresher iM_fresherSize iM_scale iM_night rM_heardRow rM_cutRow iM_breaths iM_cutMany iM_allBreaths rM_trial rM_words iM_fewestBreaths iM_orderMany iM_orderSum iM_leastOrder rM_often iM_setMany iM_someOf iM_allOf iM_allWeight iM_enoughWeight iM_worthSum iM_firstRest iM_leastDrawn), (arI rM_tape kM_tape 900 fM_tape), (arI rM_letters kM_letters 8 fM_letters)] s.heap.size = A at hD hE ⊢
  have hA : ∀ q : Nat, s.heap.size ≤ q → A q := fun q h => by rw [← hAe]; exact Or.inr h
  have hS : va_S A s.heap s.heap [] := va_S.rf
  have hl := lv_entry ([.ref oM]) (n := 4) (Nat.le_of_ble_eq_true rfl)
  rw [lg_entry_eq]
  generalize (lg_sl ([.ref oM]) ++ List.replicate (4 - (lg_sl ([.ref oM])).length) Slot.unset).toArray = ls at hl ⊢
  have hl : lv_has ls 4 [(0, .ref oM)] := hl
  have hG := PX7_next_eq fM_tape iM_size iM_end fM_letters
  refine lv_aload_n hx hb dX7_next_0 rfl (lv_at hl 0 rfl) ?_
  refine va_get (D := (dC, dI)) (ci := 7) (v := .int iM_end) (C := RX7) (T := TX7) (N := 48) hx hb hts inX7 hown hK hP 0 rfl rfl 5 (by decide) (hts _ wd_382) (fun _ h9 => h9) rfl dX7_next_1 ?_
  refine lv_istore_n (lv' := [(1, .int iM_end), (0, .ref oM)]) hx hb dX7_next_4 rfl hl (by decide) rfl (fun ls hl => ?_)
  have hl := lv_sub hl (l' := [(1, .int iM_end), (0, .ref oM)]) [0, 1] rfl
  have key_n_4788 : ∀ (n_4788 : Nat) (z_4787 : Int32) (H : Heap) (locs : List Loc) (ls : Array Slot), (iM_end.toInt ≤ z_4787.toInt ∧ z_4787.toInt ≤ 900) → (900 - z_4787.toInt).toNat < n_4788 → (PX7_next fM_tape iM_size iM_end fM_letters = HX7_next_0 fM_tape iM_size fM_letters n_4788 z_4787) → va_P (dC, dI) vwCl [(oc7 oM iM_thrown rM_tape iM_taped iM_size iM_at iM_end iM_token iM_whole iM_nameSize iM_fault iM_place iM_trouble rM_letters iM_failed iM_hasCourt rM_r rM_fresh rM_told rM_read rM_st rM_undone rM_kept iM_undos iM_images rM_fresher iM_fresherSize iM_scale iM_night rM_heardRow rM_cutRow iM_breaths iM_cutMany iM_allBreaths rM_trial rM_words iM_fewestBreaths iM_orderMany iM_orderSum iM_leastOrder rM_often iM_setMany iM_someOf iM_allOf iM_allWeight iM_enoughWeight iM_worthSum iM_firstRest iM_leastDrawn), (arI rM_tape kM_tape 900 fM_tape), (arI rM_letters kM_letters 8 fM_letters)] H → va_D A [(oc7 oM iM_thrown rM_tape iM_taped iM_size iM_at iM_end iM_token iM_whole iM_nameSize iM_fault iM_place iM_trouble rM_letters iM_failed iM_hasCourt rM_r rM_fresh rM_told rM_read rM_st rM_undone rM_kept iM_undos iM_images rM_fresher iM_fresherSize iM_scale iM_night rM_heardRow rM_cutRow iM_breaths iM_cutMany iM_allBreaths rM_trial rM_words iM_fewestBreaths iM_orderMany iM_orderSum iM_leastOrder rM_often iM_setMany iM_someOf iM_allOf iM_allWeight iM_enoughWeight iM_worthSum iM_firstRest iM_leastDrawn), (arI rM_tape kM_tape 900 fM_tape), (arI rM_letters kM_letters 8 fM_letters)] → va_S A s.heap H locs → lv_has ls 4 [(1, .int z_4787), (0, .ref oM)] → W p l e (headSpec (Cond.code yX7_next cX7_next 4 none :: wG) ({ frames := 1, cells := 0, slots := 0, locals := 21 })).room s m ([.ref oM] : List Value).toArray below meth c H locs 0 0 (MQ below (va_Qv (fun (_ : Nat) => True) (fun (_ : Nat) (t : State) => ∃ (niM_at : Int32) (niM_end : Int32) (niM_token : Int32) (niM_whole : Int32) (niM_nameSize : Int32) (nfM_letters : Nat → Int32), (0 ≤ niM_end.toInt ∧ niM_end.toInt ≤ 900) ∧ (0 ≤ niM_nameSize.toInt ∧ niM_nameSize.toInt ≤ 900) ∧ (iM_end.toInt ≤ niM_end.toInt) ∧ (ImpP (niM_token.toInt = 2) (niM_nameSize.toInt ≤ 8)) ∧ (ImpP (niM_token.toInt = 59 ) (iM_end.toInt + 1 ≤ niM_end.toInt)) ∧ (PX7_next fM_tape iM_size iM_end fM_letters = (niM_at, niM_end, niM_token, niM_whole, niM_nameSize, nfM_letters)) ∧ Bw dC dI A [(oc7 oM iM_thrown rM_tape iM_taped iM_size niM_at niM_end niM_token niM_whole niM_nameSize iM_fault iM_place iM_trouble rM_letters iM_failed iM_hasCourt rM_r rM_fresh rM_told rM_read rM_st rM_undone rM_kept iM_undos iM_images rM_fresher iM_fresherSize iM_scale iM_night rM_heardRow rM_cutRow iM_breaths iM_cutMany iM_allBreaths rM_trial rM_words iM_fewestBreaths iM_orderMany iM_orderSum iM_leastOrder rM_often iM_setMany iM_someOf iM_allOf iM_allWeight iM_enoughWeight iM_worthSum iM_firstRest iM_leastDrawn), (arI rM_tape kM_tape 900 fM_tape), (arI rM_letters kM_letters 8 nfM_letters)] [(kM_tape, .int), (kM_letters, .int)] t) A) ([.ref oM] : List Value).toArray s 0 0 A) (F0 m 5 ls []) := by
    intro n_4788
    induction n_4788 with
    | zero => intro z_4787 H locs ls hi0_n_4788 hm; exact absurd hm (by omega)
    | succ n_4788 ih_n_4788 =>
      intro z_4787 H locs ls hi0_n_4788 hm hG hP hD hS hl
      have hG := hG.trans (HX7_next_0_eq _ _ _ _ _)
      refine lv_aload_n hx hb dX7_next_5 rfl (lv_at hl 1 rfl) ?_
      refine lv_iload_n hx hb dX7_next_6 rfl (lv_at hl 0 rfl) ?_
      have hFc := va_free (wc := [(oc7 oM iM_thrown rM_tape iM_taped iM_size iM_at iM_end iM_token iM_whole iM_nameSize iM_fault iM_place iM_trouble rM_letters iM_failed iM_hasCourt rM_r rM_fresh rM_told rM_read rM_st rM_undone rM_kept iM_undos iM_images rM_fresher iM_fresherSize iM_scale iM_night rM_heardRow rM_cutRow iM_breaths iM_cutMany iM_allBreaths rM_trial rM_words iM_fewestBreaths iM_orderMany iM_orderSum iM_leastOrder rM_often iM_setMany iM_someOf iM_allOf iM_allWeight iM_enoughWeight iM_worthSum iM_firstRest iM_leastDrawn), (arI rM_tape kM_tape 900 fM_tape)]) hD hS hA [0, 1] rfl
      refine va_calli (va_runV (As := [.int z_4787]) (rest := []) ⟨hx, hb, hml, hown, hts⟩ (tX7_see_p l dC dI _ oM iM_thrown rM_tape fM_tape kM_tape iM_taped iM_size iM_at iM_end iM_token iM_whole iM_nameSize iM_fault iM_place iM_trouble rM_letters iM_failed iM_hasCourt rM_r rM_fresh rM_told rM_read rM_st rM_undone rM_kept iM_undos iM_images rM_fresher iM_fresherSize iM_scale iM_night rM_heardRow rM_cutRow iM_breaths iM_cutMany iM_allBreaths rM_trial rM_words iM_fewestBreaths iM_orderMany iM_orderSum iM_leastOrder rM_often iM_setMany iM_someOf iM_allOf iM_allWeight iM_enoughWeight iM_worthSum iM_firstRest iM_leastDrawn z_4787 (by first | omega | decide) (by first | omega | decide) (by first | omega | decide) (by first | omega | decide) (by first | omega | decide) (by first | omega | decide) (by first | omega | decide) (by first | omega | decide) (by first | omega | decide) (by first | omega | decide) (by first | omega | decide) (by first | omega | decide | assumption | (have q0 := kc_0; have q1 := kc_1; omega) | (intro h; exact absurd h (by decide)))) (cwV 1 hts (wd_V wd_406 wd_407 wd_408 wd_5 (wd_c wd_409)) rfl rfl rfl (by decide +kernel) ⟨Nat.le_of_ble_eq_true rfl, Nat.le_of_ble_eq_true rfl⟩) ⟨Pw.fb, va_recv hK hP (ci := 7) (q0 := 0) rfl rfl, fun U hU hW => Pw.to (hP.sub [0, 1] rfl) (hD.sub [0, 1] (by decide) rfl) (hK.sub [0] rfl) hE hS hFc hU hW⟩ rfl rfl hl.1 rfl (lv_room (Nat.le_of_ble_eq_true rfl)) dX7_next_7 ⟨Nat.le_of_ble_eq_true rfl, Nat.le_of_ble_eq_true rfl⟩) hS (fun q _ h => hFc q h) hFc (fun r u t H locs ht hvm hw hB hz1 hk1 hS => ?_)
      have hru9 := hw.2
      have hw := hw.1
      obtain ⟨hP, hD, hK⟩ := Bw.go (ws' := [(arI rM_letters kM_letters 8 fM_letters), (oc7 oM iM_thrown rM_tape iM_taped iM_size iM_at iM_end iM_token iM_whole iM_nameSize iM_fault iM_place iM_trouble rM_letters iM_failed iM_hasCourt rM_r rM_fresh rM_told rM_read rM_st rM_undone rM_kept iM_undos iM_images rM_fresher iM_fresherSize iM_scale iM_night rM_heardRow rM_cutRow iM_breaths iM_cutMany iM_allBreaths rM_trial rM_words iM_fewestBreaths iM_orderMany iM_orderSum iM_leastOrder rM_often iM_setMany iM_someOf iM_allOf iM_allWeight iM_enoughWeight iM_worthSum iM_firstRest iM_leastDrawn), (arI rM_tape kM_tape 900 fM_tape)]) (tys' := [(kM_letters, .int), (kM_tape, .int)]) hB rfl ht hvm hP hD hK [0, 1] [2] rfl (by decide) (by decide) [1] hk1 hFc rfl rfl rfl
      clear hz1 hk1 hvm ht hB
      obtain ⟨x_4789, rfl⟩ : ∃ z, z = r := ⟨_, rfl⟩
      have hG := hG.trans (lt_eq hru9.symm)
      have lx_4789 := hw.2
      refine lv_bipush (v := 32) hx hb dX7_next_10 (by decide) ?_
      refine lv_icmp_ne (tgt := 21) hx hb dX7_next_12 (by decide) (fun c_4790 => ?_) (fun c_4790 => ?_)
      · skip
        have hG := hG.trans (if_neg c_4790)
        have gc_4790 := ti_ne c_4790 rfl kc_32
        refine lv_aload_n hx hb dX7_next_21 rfl (lv_at hl 1 rfl) ?_
        refine lv_iload_n hx hb dX7_next_22 rfl (lv_at hl 0 rfl) ?_
        refine va_put (D := (dC, dI)) (ci := 7) (v := .int z_4787) (ty := .int) (C := RX7) (T := TX7) (N := 48) hx hb hts inX7 tyX7 tyX7_ok nmX7 hown hK hP hD hS 1 rfl rfl 4 (by decide) (hts _ wd_384) (fun _ h9 => h9) rfl (by decide +kernel) rfl rfl (Nat.le_of_ble_eq_true rfl) dX7_next_23 (fun H locs hP hD hS => ?_)
        obtain ⟨hP, hD⟩ := wl2 (ws' := [(arI rM_letters kM_letters 8 fM_letters), (oc7 oM iM_thrown rM_tape iM_taped iM_size z_4787 iM_end iM_token iM_whole iM_nameSize iM_fault iM_place iM_trouble rM_letters iM_failed iM_hasCourt rM_r rM_fresh rM_told rM_read rM_st rM_undone rM_kept iM_undos iM_images rM_fresher iM_fresherSize iM_scale iM_night rM_heardRow rM_cutRow iM_breaths iM_cutMany iM_allBreaths rM_trial rM_words iM_fewestBreaths iM_orderMany iM_orderSum iM_leastOrder rM_often iM_setMany iM_someOf iM_allOf iM_allWeight iM_enoughWeight iM_worthSum iM_firstRest iM_leastDrawn), (arI rM_tape kM_tape 900 fM_tape)]) hP hD rfl
        refine lv_aload_n hx hb dX7_next_26 rfl (lv_at hl 1 rfl) ?_
        refine lv_iload_n hx hb dX7_next_27 rfl (lv_at hl 0 rfl) ?_
        have hFc := va_free (wc := [(oc7 oM iM_thrown rM_tape iM_taped iM_size z_4787 iM_end iM_token iM_whole iM_nameSize iM_fault iM_place iM_trouble rM_letters iM_failed iM_hasCourt rM_r rM_fresh rM_told rM_read rM_st rM_undone rM_kept iM_undos iM_images rM_fresher iM_fresherSize iM_scale iM_night rM_heardRow rM_cutRow iM_breaths iM_cutMany iM_allBreaths rM_trial rM_words iM_fewestBreaths iM_orderMany iM_orderSum iM_leastOrder rM_often iM_setMany iM_someOf iM_allOf iM_allWeight iM_enoughWeight iM_worthSum iM_firstRest iM_leastDrawn), (arI rM_tape kM_tape 900 fM_tape)]) hD hS hA [1, 2] rfl
        refine va_calli (va_runV (As := [.int z_4787]) (rest := []) ⟨hx, hb, hml, hown, hts⟩ (tX7_see_p l dC dI _ oM iM_thrown rM_tape fM_tape kM_tape iM_taped iM_size z_4787 iM_end iM_token iM_whole iM_nameSize iM_fault iM_place iM_trouble rM_letters iM_failed iM_hasCourt rM_r rM_fresh rM_told rM_read rM_st rM_undone rM_kept iM_undos iM_images rM_fresher iM_fresherSize iM_scale iM_night rM_heardRow rM_cutRow iM_breaths iM_cutMany iM_allBreaths rM_trial rM_words iM_fewestBreaths iM_orderMany iM_orderSum iM_leastOrder rM_often iM_setMany iM_someOf iM_allOf iM_allWeight iM_enoughWeight iM_worthSum iM_firstRest iM_leastDrawn z_4787 (by first | omega | decide) (by first | omega | decide) (by first | omega | decide) (by first | omega | decide) (by first | omega | decide) (by first | omega | decide) (by first | omega | decide) (by first | omega | decide) (by first | omega | decide) (by first | omega | decide) (by first | omega | decide) (by first | omega | decide | assumption | (have q0 := kc_0; have q1 := kc_1; omega) | (intro h; exact absurd h (by decide)))) (cwV 1 hts (wd_V wd_406 wd_407 wd_408 wd_5 (wd_c wd_409)) rfl rfl rfl (by decide +kernel) ⟨Nat.le_of_ble_eq_true rfl, Nat.le_of_ble_eq_true rfl⟩) ⟨Pw.fb, va_recv hK hP (ci := 7) (q0 := 1) rfl rfl, fun U hU hW => Pw.to (hP.sub [1, 2] rfl) (hD.sub [1, 2] (by decide) rfl) (hK.sub [1] rfl) hE hS hFc hU hW⟩ rfl rfl hl.1 rfl (lv_room (Nat.le_of_ble_eq_true rfl)) dX7_next_28 ⟨Nat.le_of_ble_eq_true rfl, Nat.le_of_ble_eq_true rfl⟩) hS (fun q _ h => hFc q h) hFc (fun r u t H locs ht hvm hw hB hz1 hk1 hS => ?_)
        have hru9 := hw.2
        have hw := hw.1
        obtain ⟨hP, hD, hK⟩ := Bw.go (ws' := [(arI rM_letters kM_letters 8 fM_letters), (oc7 oM iM_thrown rM_tape iM_taped iM_size z_4787 iM_end iM_token iM_whole iM_nameSize iM_fault iM_place iM_trouble rM_letters iM_failed iM_hasCourt rM_r rM_fresh rM_told rM_read rM_st rM_undone rM_kept iM_undos iM_images rM_fresher iM_fresherSize iM_scale iM_night rM_heardRow rM_cutRow iM_breaths iM_cutMany iM_allBreaths rM_trial rM_words iM_fewestBreaths iM_orderMany iM_orderSum iM_leastOrder rM_often iM_setMany iM_someOf iM_allOf iM_allWeight iM_enoughWeight iM_worthSum iM_firstRest iM_leastDrawn), (arI rM_tape kM_tape 900 fM_tape)]) (tys' := [(kM_letters, .int), (kM_tape, .int)]) hB rfl ht hvm hP hD hK [1, 2] [0] rfl (by decide) (by decide) [0] hk1 hFc rfl rfl rfl
        clear hz1 hk1 hvm ht hB
        obtain ⟨x_4791, rfl⟩ : ∃ z, z = r := ⟨_, rfl⟩
        have hG := hG.trans (lt_eq hru9.symm)
        have lx_4791 := hw.2
        refine lv_istore_n (lv' := [(2, .int x_4791), (1, .int z_4787), (0, .ref oM)]) hx hb dX7_next_31 rfl hl (by decide) rfl (fun ls hl => ?_)
        refine lv_aload_n hx hb dX7_next_32 rfl (lv_at hl 2 rfl) ?_
        refine lv_iconst (v := 0) hx hb dX7_next_33 (by decide) ?_
        refine va_put (D := (dC, dI)) (ci := 7) (v := .int 0) (ty := .int) (C := RX7) (T := TX7) (N := 48) hx hb hts inX7 tyX7 tyX7_ok nmX7 hown hK hP hD hS 1 rfl rfl 8 (by decide) (hts _ wd_404) (fun _ h9 => h9) rfl (by decide +kernel) rfl rfl (Nat.le_of_ble_eq_true rfl) dX7_next_34 (fun H locs hP hD hS => ?_)
        obtain ⟨hP, hD⟩ := wl2 (ws' := [(arI rM_letters kM_letters 8 fM_letters), (oc7 oM iM_thrown rM_tape iM_taped iM_size z_4787 iM_end iM_token iM_whole 0 iM_fault iM_place iM_trouble rM_letters iM_failed iM_hasCourt rM_r rM_fresh rM_told rM_read rM_st rM_undone rM_kept iM_undos iM_images rM_fresher iM_fresherSize iM_scale iM_night rM_heardRow rM_cutRow iM_breaths iM_cutMany iM_allBreaths rM_trial rM_words iM_fewestBreaths iM_orderMany iM_orderSum iM_leastOrder rM_often iM_setMany iM_someOf iM_allOf iM_allWeight iM_enoughWeight iM_worthSum iM_firstRest iM_leastDrawn), (arI rM_tape kM_tape 900 fM_tape)]) hP hD rfl
        refine lv_aload_n hx hb dX7_next_37 rfl (lv_at hl 2 rfl) ?_
        refine lv_iconst (v := 0) hx hb dX7_next_38 (by decide) ?_
        refine va_put (D := (dC, dI)) (ci := 7) (v := .int 0) (ty := .int) (C := RX7) (T := TX7) (N := 48) hx hb hts inX7 tyX7 tyX7_ok nmX7 hown hK hP hD hS 1 rfl rfl 7 (by decide) (hts _ wd_405) (fun _ h9 => h9) rfl (by decide +kernel) rfl rfl (Nat.le_of_ble_eq_true rfl) dX7_next_39 (fun H locs hP hD hS => ?_)
        obtain ⟨hP, hD⟩ := wl2 (ws' := [(arI rM_letters kM_letters 8 fM_letters), (oc7 oM iM_thrown rM_tape iM_taped iM_size z_4787 iM_end iM_token 0 0 iM_fault iM_place iM_trouble rM_letters iM_failed iM_hasCourt rM_r rM_fresh rM_told rM_read rM_st rM_undone rM_kept iM_undos iM_images rM_fresher iM_fresherSize iM_scale iM_night rM_heardRow rM_cutRow iM_breaths iM_cutMany iM_allBreaths rM_trial rM_words iM_fewestBreaths iM_orderMany iM_orderSum iM_leastOrder rM_often iM_setMany iM_someOf iM_allOf iM_allWeight iM_enoughWeight iM_worthSum iM_firstRest iM_leastDrawn), (arI rM_tape kM_tape 900 fM_tape)]) hP hD rfl
        refine lv_iload_n hx hb dX7_next_42 rfl (lv_at hl 0 rfl) ?_
        refine lv_iconst (v := (-1)) hx hb dX7_next_43 (by decide) ?_
        refine lv_icmp_ne (tgt := 60) hx hb dX7_next_44 (by decide) (fun c_4792 => ?_) (fun c_4792 => ?_)
        · skip
          have hG := hG.trans (if_neg c_4792)
          have gc_4792 := ti_ne c_4792 rfl kc_m1
          have h_4793 := lx_4791 (by omega)
          clear lx_4791
          refine lv_iload_n hx hb dX7_next_60 rfl (lv_at hl 0 rfl) ?_
          have hFc : ∀ q, va_A [] _ q → A q := fun q h => hA q (Nat.le_trans hS.1 (va_nilA h))
          refine va_calli (va_runS (As := [.int x_4791]) (rest := []) ⟨hx, hb, hml, hown, hts⟩ (tX7_isSmall_p l dC dI _ x_4791 ) (va_cwS 1 hts (wd_S wd_410 wd_411 wd_5 (wd_c wd_412)) rfl rfl rfl (by decide +kernel) ⟨Nat.le_of_ble_eq_true rfl, Nat.le_of_ble_eq_true rfl⟩) ⟨Pw.fb, fun U hU hW => Pn.to hK hE hS hA hU hW⟩ rfl rfl hl.1 rfl (lv_room (Nat.le_of_ble_eq_true rfl)) dX7_next_61 ⟨Nat.le_of_ble_eq_true rfl, Nat.le_of_ble_eq_true rfl⟩) hS (fun q _ h => hFc q h) hFc (fun r u t H locs ht hvm hw hB hz1 hk1 hS => ?_)
          obtain ⟨hP, hD, hK⟩ := Bw.same ht hvm hP hD hK hk1 hFc
          clear hz1 hk1 hvm ht hB
          have hq9 := hw.2
          have hw := hw.1
          obtain ⟨x_4794, rfl⟩ : ∃ z, z = r := ⟨_, rfl⟩
          have hq_x_4794 := hq9
          have hG := hG.trans (lt_eq hq_x_4794.symm)
          have bx_4794 := hw.1
          have dx_4794 := bz_ti bx_4794
          have lx_4794 := hw.2
          refine lv_if_eq (tgt := 143) hx hb dX7_next_64 (by decide) (fun c_4795 => ?_) (fun c_4795 => ?_)
          · skip
            have hG := hG.trans (if_pos c_4795)
            have gc_4795 := ti_eq c_4795 rfl kc_0
            clear lx_4794
            refine lv_iload_n hx hb dX7_next_143 rfl (lv_at hl 0 rfl) ?_
            have hFc : ∀ q, va_A [] _ q → A q := fun q h => hA q (Nat.le_trans hS.1 (va_nilA h))
            refine va_calli (va_runS (As := [.int x_4791]) (rest := []) ⟨hx, hb, hml, hown, hts⟩ (tX7_isDigit_p l dC dI _ x_4791 ) (va_cwS 1 hts (wd_S wd_413 wd_414 wd_5 (wd_c wd_415)) rfl rfl rfl (by decide +kernel) ⟨Nat.le_of_ble_eq_true rfl, Nat.le_of_ble_eq_true rfl⟩) ⟨Pw.fb, fun U hU hW => Pn.to hK hE hS hA hU hW⟩ rfl rfl hl.1 rfl (lv_room (Nat.le_of_ble_eq_true rfl)) dX7_next_144 ⟨Nat.le_of_ble_eq_true rfl, Nat.le_of_ble_eq_true rfl⟩) hS (fun q _ h => hFc q h) hFc (fun r u t H locs ht hvm hw hB hz1 hk1 hS => ?_)
            obtain ⟨hP, hD, hK⟩ := Bw.same ht hvm hP hD hK hk1 hFc
            clear hz1 hk1 hvm ht hB
            have hq9 := hw.2
            have hw := hw.1
            obtain ⟨x_4796, rfl⟩ : ∃ z, z = r := ⟨_, rfl⟩
            have hq_x_4796 := hq9
            have hG := hG.trans (lt_eq hq_x_4796.symm)
            have bx_4796 := hw.1
            have dx_4796 := bz_ti bx_4796
            have lx_4796 := hw.2
            refine lv_if_eq (tgt := 219) hx hb dX7_next_147 (by decide) (fun c_4797 => ?_) (fun c_4797 => ?_)
            · skip
              have hG := hG.trans (if_pos c_4797)
              have gc_4797 := ti_eq c_4797 rfl kc_0
              clear lx_4796
              refine lv_aload_n hx hb dX7_next_219 rfl (lv_at hl 2 rfl) ?_
              refine lv_iload_n hx hb dX7_next_220 rfl (lv_at hl 1 rfl) ?_
              refine lv_iconst (v := 1) hx hb dX7_next_221 (by decide) ?_
              refine lv_iadd hx hb dX7_next_222 ?_
              refine lv_topi (fun x_4798 ex_4798 => ?_)
              have hG := hG.trans (lt_eq ex_4798)
              have vx_4798 : x_4798.toInt = z_4787.toInt + 1 := by have q := ti_add ex_4798 rfl kc_1 (by omega) (by omega); omega
              refine va_put (D := (dC, dI)) (ci := 7) (v := .int x_4798) (ty := .int) (C := RX7) (T := TX7) (N := 48) hx hb hts inX7 tyX7 tyX7_ok nmX7 hown hK hP hD hS 1 rfl rfl 5 (by decide) (hts _ wd_382) (fun _ h9 => h9) rfl (by decide +kernel) rfl rfl (Nat.le_of_ble_eq_true rfl) dX7_next_223 (fun H locs hP hD hS => ?_)
              obtain ⟨hP, hD⟩ := wl2 (ws' := [(arI rM_letters kM_letters 8 fM_letters), (oc7 oM iM_thrown rM_tape iM_taped iM_size z_4787 x_4798 iM_token 0 0 iM_fault iM_place iM_trouble rM_letters iM_failed iM_hasCourt rM_r rM_fresh rM_told rM_read rM_st rM_undone rM_kept iM_undos iM_images rM_fresher iM_fresherSize iM_scale iM_night rM_heardRow rM_cutRow iM_breaths iM_cutMany iM_allBreaths rM_trial rM_words iM_fewestBreaths iM_orderMany iM_orderSum iM_leastOrder rM_often iM_setMany iM_someOf iM_allOf iM_allWeight iM_enoughWeight iM_worthSum iM_firstRest iM_leastDrawn), (arI rM_tape kM_tape 900 fM_tape)]) hP hD rfl
              refine lv_aload_n hx hb dX7_next_226 rfl (lv_at hl 2 rfl) ?_
              refine lv_iload_n hx hb dX7_next_227 rfl (lv_at hl 0 rfl) ?_
              refine lv_bipush (v := 59) hx hb dX7_next_228 (by decide) ?_
              refine lv_icmp_eq (tgt := 239) hx hb dX7_next_230 (by decide) (fun c_4799 => ?_) (fun c_4799 => ?_)
              · skip
                have hG := hG.trans (if_pos c_4799)
                have gc_4799 := ti_eq c_4799 rfl kc_59
                refine lv_iload_n hx hb dX7_next_239 rfl (lv_at hl 0 rfl) ?_
                refine lv_goto (tgt := 244) hx hb dX7_next_240 (by decide) ?_
                refine va_put (D := (dC, dI)) (ci := 7) (v := .int x_4791) (ty := .int) (C := RX7) (T := TX7) (N := 48) hx hb hts inX7 tyX7 tyX7_ok nmX7 hown hK hP hD hS 1 rfl rfl 6 (by decide) (hts _ wd_383) (fun _ h9 => h9) rfl (by decide +kernel) rfl rfl (Nat.le_of_ble_eq_true rfl) dX7_next_244 (fun H locs hP hD hS => ?_)
                obtain ⟨hP, hD⟩ := wl2 (ws' := [(arI rM_letters kM_letters 8 fM_letters), (oc7 oM iM_thrown rM_tape iM_taped iM_size z_4787 x_4798 x_4791 0 0 iM_fault iM_place iM_trouble rM_letters iM_failed iM_hasCourt rM_r rM_fresh rM_told rM_read rM_st rM_undone rM_kept iM_undos iM_images rM_fresher iM_fresherSize iM_scale iM_night rM_heardRow rM_cutRow iM_breaths iM_cutMany iM_allBreaths rM_trial rM_words iM_fewestBreaths iM_orderMany iM_orderSum iM_leastOrder rM_often iM_setMany iM_someOf iM_allOf iM_allWeight iM_enoughWeight iM_worthSum iM_firstRest iM_leastDrawn), (arI rM_tape kM_tape 900 fM_tape)]) hP hD rfl
                exact W.vret hx hb hr (fun t ht hW => ⟨⟨0, rfl, trivial, ⟨z_4787, x_4798, x_4791, 0, 0, fM_letters, (by have q := vx_4798; omega), (by decide), (by have q0 := kc_0; have q1 := kc_1; have q2 := kc_2; have q3 := kc_3; omega), (fun h9 => by have q0 := kc_0; have q1 := kc_1; have q2 := kc_2; have q3 := kc_3; omega), (fun h9 => by have q0 := kc_0; have q1 := kc_1; have q2 := kc_2; have q3 := kc_3; omega), hG, Bw.to (hP.sub [1, 2, 0] rfl) (hD.sub [1, 2, 0] (by decide) rfl) (hK.sub [1, 0] rfl) ht hW⟩⟩, hS.F ht⟩) hS.2.2 dX7_next_247
              · skip
                have hG := hG.trans (if_neg c_4799)
                have gc_4799 := ti_ne c_4799 rfl kc_59
                refine lv_iload_n hx hb dX7_next_233 rfl (lv_at hl 0 rfl) ?_
                refine lv_bipush (v := 44) hx hb dX7_next_234 (by decide) ?_
                refine lv_icmp_ne (tgt := 243) hx hb dX7_next_236 (by decide) (fun c_4800 => ?_) (fun c_4800 => ?_)
                · skip
                  have hG := hG.trans (if_neg c_4800)
                  have gc_4800 := ti_ne c_4800 rfl kc_44
                  refine lv_iconst (v := 1) hx hb dX7_next_243 (by decide) ?_
                  refine va_put (D := (dC, dI)) (ci := 7) (v := .int 1) (ty := .int) (C := RX7) (T := TX7) (N := 48) hx hb hts inX7 tyX7 tyX7_ok nmX7 hown hK hP hD hS 1 rfl rfl 6 (by decide) (hts _ wd_383) (fun _ h9 => h9) rfl (by decide +kernel) rfl rfl (Nat.le_of_ble_eq_true rfl) dX7_next_244 (fun H locs hP hD hS => ?_)
                  obtain ⟨hP, hD⟩ := wl2 (ws' := [(arI rM_letters kM_letters 8 fM_letters), (oc7 oM iM_thrown rM_tape iM_taped iM_size z_4787 x_4798 1 0 0 iM_fault iM_place iM_trouble rM_letters iM_failed iM_hasCourt rM_r rM_fresh rM_told rM_read rM_st rM_undone rM_kept iM_undos iM_images rM_fresher iM_fresherSize iM_scale iM_night rM_heardRow rM_cutRow iM_breaths iM_cutMany iM_allBreaths rM_trial rM_words iM_fewestBreaths iM_orderMany iM_orderSum iM_leastOrder rM_often iM_setMany iM_someOf iM_allOf iM_allWeight iM_enoughWeight iM_worthSum iM_firstRest iM_leastDrawn), (arI rM_tape kM_tape 900 fM_tape)]) hP hD rfl
                  exact W.vret hx hb hr (fun t ht hW => ⟨⟨0, rfl, trivial, ⟨z_4787, x_4798, 1, 0, 0, fM_letters, (by have q := vx_4798; omega), (by decide), (by have q0 := kc_0; have q1 := kc_1; have q2 := kc_2; have q3 := kc_3; omega), (fun h9 => by have q0 := kc_0; have q1 := kc_1; have q2 := kc_2; have q3 := kc_3; omega), (fun h9 => by have q0 := kc_0; have q1 := kc_1; have q2 := kc_2; have q3 := kc_3; omega), hG, Bw.to (hP.sub [1, 2, 0] rfl) (hD.sub [1, 2, 0] (by decide) rfl) (hK.sub [1, 0] rfl) ht hW⟩⟩, hS.F ht⟩) hS.2.2 dX7_next_247
                · skip
                  have hG := hG.trans (if_pos c_4800)
                  have gc_4800 := ti_eq c_4800 rfl kc_44
                  refine lv_iload_n hx hb dX7_next_239 rfl (lv_at hl 0 rfl) ?_
                  refine lv_goto (tgt := 244) hx hb dX7_next_240 (by decide) ?_
                  refine va_put (D := (dC, dI)) (ci := 7) (v := .int x_4791) (ty := .int) (C := RX7) (T := TX7) (N := 48) hx hb hts inX7 tyX7 tyX7_ok nmX7 hown hK hP hD hS 1 rfl rfl 6 (by decide) (hts _ wd_383) (fun _ h9 => h9) rfl (by decide +kernel) rfl rfl (Nat.le_of_ble_eq_true rfl) dX7_next_244 (fun H locs hP hD hS => ?_)
                  obtain ⟨hP, hD⟩ := wl2 (ws' := [(arI rM_letters kM_letters 8 fM_letters), (oc7 oM iM_thrown rM_tape iM_taped iM_size z_4787 x_4798 x_4791 0 0 iM_fault iM_place iM_trouble rM_letters iM_failed iM_hasCourt rM_r rM_fresh rM_told rM_read rM_st rM_undone rM_kept iM_undos iM_images rM_fresher iM_fresherSize iM_scale iM_night rM_heardRow rM_cutRow iM_breaths iM_cutMany iM_allBreaths rM_trial rM_words iM_fewestBreaths iM_orderMany iM_orderSum iM_leastOrder rM_often iM_setMany iM_someOf iM_allOf iM_allWeight iM_enoughWeight iM_worthSum iM_firstRest iM_leastDrawn), (arI rM_tape kM_tape 900 fM_tape)]) hP hD rfl
                  exact W.vret hx hb hr (fun t ht hW => ⟨⟨0, rfl, trivial, ⟨z_4787, x_4798, x_4791, 0, 0, fM_letters, (by have q := vx_4798; omega), (by decide), (by have q0 := kc_0; have q1 := kc_1; have q2 := kc_2; have q3 := kc_3; omega), (fun h9 => by have q0 := kc_0; have q1 := kc_1; have q2 := kc_2; have q3 := kc_3; omega), (fun h9 => by have q0 := kc_0; have q1 := kc_1; have q2 := kc_2; have q3 := kc_3; omega), hG, Bw.to (hP.sub [1, 2, 0] rfl) (hD.sub [1, 2, 0] (by decide) rfl) (hK.sub [1, 0] rfl) ht hW⟩⟩, hS.F ht⟩) hS.2.2 dX7_next_247
            · skip
              have hG := hG.trans (if_neg c_4797)
              have gc_4797 := ti_ne c_4797 rfl kc_0
              replace gc_4797 : (-1) * x_4796.toInt + 1 ≤ 0 := by omega
              have h_4801 := lx_4796 (by omega)
              clear lx_4796
              refine lv_iconst (v := 0) hx hb dX7_next_150 (by decide) ?_
              refine lv_istore_n (lv' := [(3, .int 0), (2, .int x_4791), (1, .int z_4787), (0, .ref oM)]) hx hb dX7_next_151 rfl hl (by decide) rfl (fun ls hl => ?_)
              have hl := lv_sub hl (l' := [(3, .int 0), (2, .int x_4791), (1, .int z_4787), (0, .ref oM)]) [0, 1, 2, 3] rfl
              have key_n_4805 : ∀ (n_4805 : Nat) (z_4802 : Int32) (z_4803 : Int32) (z_4804 : Int32) (H : Heap) (locs : List Loc) (ls : Array Slot), (iM_end.toInt ≤ z_4802.toInt ∧ z_4802.toInt ≤ 900) → (0 ≤ z_4803.toInt ∧ z_4803.toInt ≤ z_4802.toInt) → (900 - z_4802.toInt).toNat < n_4805 → (PX7_next fM_tape iM_size iM_end fM_letters = HX7_next_1 fM_tape iM_size fM_letters z_4787 n_4805 z_4802 z_4803 z_4804) → va_P (dC, dI) vwCl [(arI rM_letters kM_letters 8 fM_letters), (oc7 oM iM_thrown rM_tape iM_taped iM_size z_4787 iM_end iM_token z_4804 0 iM_fault iM_place iM_trouble rM_letters iM_failed iM_hasCourt rM_r rM_fresh rM_told rM_read rM_st rM_undone rM_kept iM_undos iM_images rM_fresher iM_fresherSize iM_scale iM_night rM_heardRow rM_cutRow iM_breaths iM_cutMany iM_allBreaths rM_trial rM_words iM_fewestBreaths iM_orderMany iM_orderSum iM_leastOrder rM_often iM_setMany iM_someOf iM_allOf iM_allWeight iM_enoughWeight iM_worthSum iM_firstRest iM_leastDrawn), (arI rM_tape kM_tape 900 fM_tape)] H → va_D A [(arI rM_letters kM_letters 8 fM_letters), (oc7 oM iM_thrown rM_tape iM_taped iM_size z_4787 iM_end iM_token z_4804 0 iM_fault iM_place iM_trouble rM_letters iM_failed iM_hasCourt rM_r rM_fresh rM_told rM_read rM_st rM_undone rM_kept iM_undos iM_images rM_fresher iM_fresherSize iM_scale iM_night rM_heardRow rM_cutRow iM_breaths iM_cutMany iM_allBreaths rM_trial rM_words iM_fewestBreaths iM_orderMany iM_orderSum iM_leastOrder rM_often iM_setMany iM_someOf iM_allOf iM_allWeight iM_enoughWeight iM_worthSum iM_firstRest iM_leastDrawn), (arI rM_tape kM_tape 900 fM_tape)] → va_S A s.heap H locs → lv_has ls 4 [(3, .int z_4803), (2, .int x_4791), (1, .int z_4802), (0, .ref oM)] → W p l e (headSpec (Cond.code yX7_next cX7_next 4 none :: wG) ({ frames := 1, cells := 0, slots := 0, locals := 21 })).room s m ([.ref oM] : List Value).toArray below meth c H locs 0 0 (MQ below (va_Qv (fun (_ : Nat) => True) (fun (_ : Nat) (t : State) => ∃ (niM_at : Int32) (niM_end : Int32) (niM_token : Int32) (niM_whole : Int32) (niM_nameSize : Int32) (nfM_letters : Nat → Int32), (0 ≤ niM_end.toInt ∧ niM_end.toInt ≤ 900) ∧ (0 ≤ niM_nameSize.toInt ∧ niM_nameSize.toInt ≤ 900) ∧ (iM_end.toInt ≤ niM_end.toInt) ∧ (ImpP (niM_token.toInt = 2) (niM_nameSize.toInt ≤ 8)) ∧ (ImpP (niM_token.toInt = 59 ) (iM_end.toInt + 1 ≤ niM_end.toInt)) ∧ (PX7_next fM_tape iM_size iM_end fM_letters = (niM_at, niM_end, niM_token, niM_whole, niM_nameSize, nfM_letters)) ∧ Bw dC dI A [(oc7 oM iM_thrown rM_tape iM_taped iM_size niM_at niM_end niM_token niM_whole niM_nameSize iM_fault iM_place iM_trouble rM_letters iM_failed iM_hasCourt rM_r rM_fresh rM_told rM_read rM_st rM_undone rM_kept iM_undos iM_images rM_fresher iM_fresherSize iM_scale iM_night rM_heardRow rM_cutRow iM_breaths iM_cutMany iM_allBreaths rM_trial rM_words iM_fewestBreaths iM_orderMany iM_orderSum iM_leastOrder rM_often iM_setMany iM_someOf iM_allOf iM_allWeight iM_enoughWeight iM_worthSum iM_firstRest iM_leastDrawn), (arI rM_tape kM_tape 900 fM_tape), (arI rM_letters kM_letters 8 nfM_letters)] [(kM_tape, .int), (kM_letters, .int)] t) A) ([.ref oM] : List Value).toArray s 0 0 A) (F0 m 152 ls []) := by
                intro n_4805
                induction n_4805 with
                | zero => intro z_4802 z_4803 z_4804 H locs ls hi0_n_4805 hi1_n_4805 hm; exact absurd hm (by omega)
                | succ n_4805 ih_n_4805 =>
                  intro z_4802 z_4803 z_4804 H locs ls hi0_n_4805 hi1_n_4805 hm hG hP hD hS hl
                  have hG := hG.trans (HX7_next_1_eq _ _ _ _ _ _ _ _)
                  refine lv_aload_n hx hb dX7_next_152 rfl (lv_at hl 3 rfl) ?_
                  refine lv_iload_n hx hb dX7_next_153 rfl (lv_at hl 2 rfl) ?_
                  have hFc := va_free (wc := [(oc7 oM iM_thrown rM_tape iM_taped iM_size z_4787 iM_end iM_token z_4804 0 iM_fault iM_place iM_trouble rM_letters iM_failed iM_hasCourt rM_r rM_fresh rM_told rM_read rM_st rM_undone rM_kept iM_undos iM_images rM_fresher iM_fresherSize iM_scale iM_night rM_heardRow rM_cutRow iM_breaths iM_cutMany iM_allBreaths rM_trial rM_words iM_fewestBreaths iM_orderMany iM_orderSum iM_leastOrder rM_often iM_setMany iM_someOf iM_allOf iM_allWeight iM_enoughWeight iM_worthSum iM_firstRest iM_leastDrawn), (arI rM_tape kM_tape 900 fM_tape)]) hD hS hA [1, 2] rfl
                  refine va_calli (va_runV (As := [.int z_4802]) (rest := []) ⟨hx, hb, hml, hown, hts⟩ (tX7_see_p l dC dI _ oM iM_thrown rM_tape fM_tape kM_tape iM_taped iM_size z_4787 iM_end iM_token z_4804 0 iM_fault iM_place iM_trouble rM_letters iM_failed iM_hasCourt rM_r rM_fresh rM_told rM_read rM_st rM_undone rM_kept iM_undos iM_images rM_fresher iM_fresherSize iM_scale iM_night rM_heardRow rM_cutRow iM_breaths iM_cutMany iM_allBreaths rM_trial rM_words iM_fewestBreaths iM_orderMany iM_orderSum iM_leastOrder rM_often iM_setMany iM_someOf iM_allOf iM_allWeight iM_enoughWeight iM_worthSum iM_firstRest iM_leastDrawn z_4802 (by first | omega | decide) (by first | omega | decide) (by first | omega | decide) (by first | decide | omega) (by first | omega | decide) (by first | omega | decide) (by first | omega | decide) (by first | omega | decide) (by first | omega | decide) (by first | omega | decide) (by first | omega | decide) (by first | omega | decide | assumption | (have q0 := kc_0; have q1 := kc_1; omega) | (intro h; exact absurd h (by decide)))) (cwV 1 hts (wd_V wd_406 wd_407 wd_408 wd_5 (wd_c wd_409)) rfl rfl rfl (by decide +kernel) ⟨Nat.le_of_ble_eq_true rfl, Nat.le_of_ble_eq_true rfl⟩) ⟨Pw.fb, va_recv hK hP (ci := 7) (q0 := 1) rfl rfl, fun U hU hW => Pw.to (hP.sub [1, 2] rfl) (hD.sub [1, 2] (by decide) rfl) (hK.sub [1] rfl) hE hS hFc hU hW⟩ rfl rfl hl.1 rfl (lv_room (Nat.le_of_ble_eq_true rfl)) dX7_next_154 ⟨Nat.le_of_ble_eq_true rfl, Nat.le_of_ble_eq_true rfl⟩) hS (fun q _ h => hFc q h) hFc (fun r u t H locs ht hvm hw hB hz1 hk1 hS => ?_)
                  have hru9 := hw.2
                  have hw := hw.1
                  obtain ⟨hP, hD, hK⟩ := Bw.go (ws' := [(arI rM_letters kM_letters 8 fM_letters), (oc7 oM iM_thrown rM_tape iM_taped iM_size z_4787 iM_end iM_token z_4804 0 iM_fault iM_place iM_trouble rM_letters iM_failed iM_hasCourt rM_r rM_fresh rM_told rM_read rM_st rM_undone rM_kept iM_undos iM_images rM_fresher iM_fresherSize iM_scale iM_night rM_heardRow rM_cutRow iM_breaths iM_cutMany iM_allBreaths rM_trial rM_words iM_fewestBreaths iM_orderMany iM_orderSum iM_leastOrder rM_often iM_setMany iM_someOf iM_allOf iM_allWeight iM_enoughWeight iM_worthSum iM_firstRest iM_leastDrawn), (arI rM_tape kM_tape 900 fM_tape)]) (tys' := [(kM_letters, .int), (kM_tape, .int)]) hB rfl ht hvm hP hD hK [1, 2] [0] rfl (by decide) (by decide) [0] hk1 hFc rfl rfl rfl
                  clear hz1 hk1 hvm ht hB
                  obtain ⟨x_4806, rfl⟩ : ∃ z, z = r := ⟨_, rfl⟩
                  have hG := hG.trans (lt_eq hru9.symm)
                  have lx_4806 := hw.2
                  have hFc : ∀ q, va_A [] _ q → A q := fun q h => hA q (Nat.le_trans hS.1 (va_nilA h))
                  refine va_calli (va_runS (As := [.int x_4806]) (rest := []) ⟨hx, hb, hml, hown, hts⟩ (tX7_isDigit_p l dC dI _ x_4806 ) (va_cwS 1 hts (wd_S wd_413 wd_414 wd_5 (wd_c wd_415)) rfl rfl rfl (by decide +kernel) ⟨Nat.le_of_ble_eq_true rfl, Nat.le_of_ble_eq_true rfl⟩) ⟨Pw.fb, fun U hU hW => Pn.to hK hE hS hA hU hW⟩ rfl rfl hl.1 rfl (lv_room (Nat.le_of_ble_eq_true rfl)) dX7_next_157 ⟨Nat.le_of_ble_eq_true rfl, Nat.le_of_ble_eq_true rfl⟩) hS (fun q _ h => hFc q h) hFc (fun r u t H locs ht hvm hw hB hz1 hk1 hS => ?_)
                  obtain ⟨hP, hD, hK⟩ := Bw.same ht hvm hP hD hK hk1 hFc
                  clear hz1 hk1 hvm ht hB
                  have hq9 := hw.2
                  have hw := hw.1
                  obtain ⟨x_4807, rfl⟩ : ∃ z, z = r := ⟨_, rfl⟩
                  have hq_x_4807 := hq9
                  have hG := hG.trans (lt_eq hq_x_4807.symm)
                  have bx_4807 := hw.1
                  have dx_4807 := bz_ti bx_4807
                  have lx_4807 := hw.2
                  refine lv_if_eq (tgt := 197) hx hb dX7_next_160 (by decide) (fun c_4808 => ?_) (fun c_4808 => ?_)
                  · skip
                    have hG := hG.trans (if_pos c_4808)
                    have gc_4808 := ti_eq c_4808 rfl kc_0
                    clear lx_4807
                    refine lv_aload_n hx hb dX7_next_197 rfl (lv_at hl 3 rfl) ?_
                    refine lv_iload_n hx hb dX7_next_198 rfl (lv_at hl 2 rfl) ?_
                    refine va_put (D := (dC, dI)) (ci := 7) (v := .int z_4802) (ty := .int) (C := RX7) (T := TX7) (N := 48) hx hb hts inX7 tyX7 tyX7_ok nmX7 hown hK hP hD hS 1 rfl rfl 5 (by decide) (hts _ wd_382) (fun _ h9 => h9) rfl (by decide +kernel) rfl rfl (Nat.le_of_ble_eq_true rfl) dX7_next_199 (fun H locs hP hD hS => ?_)
                    obtain ⟨hP, hD⟩ := wl2 (ws' := [(arI rM_letters kM_letters 8 fM_letters), (oc7 oM iM_thrown rM_tape iM_taped iM_size z_4787 z_4802 iM_token z_4804 0 iM_fault iM_place iM_trouble rM_letters iM_failed iM_hasCourt rM_r rM_fresh rM_told rM_read rM_st rM_undone rM_kept iM_undos iM_images rM_fresher iM_fresherSize iM_scale iM_night rM_heardRow rM_cutRow iM_breaths iM_cutMany iM_allBreaths rM_trial rM_words iM_fewestBreaths iM_orderMany iM_orderSum iM_leastOrder rM_often iM_setMany iM_someOf iM_allOf iM_allWeight iM_enoughWeight iM_worthSum iM_firstRest iM_leastDrawn), (arI rM_tape kM_tape 900 fM_tape)]) hP hD rfl
                    refine lv_aload_n hx hb dX7_next_202 rfl (lv_at hl 3 rfl) ?_
                    refine lv_iload_n hx hb dX7_next_203 rfl (lv_at hl 0 rfl) ?_
                    refine lv_iconst (v := 3) hx hb dX7_next_204 (by decide) ?_
                    refine lv_icmp_le (tgt := 212) hx hb dX7_next_205 (by decide) (fun c_4809 => ?_) (fun c_4809 => ?_)
                    · skip
                      have hG := hG.trans (if_pos c_4809)
                      have gc_4809 := ti_le c_4809 rfl kc_3
                      refine lv_iconst (v := 3) hx hb dX7_next_212 (by decide) ?_
                      refine va_put (D := (dC, dI)) (ci := 7) (v := .int 3) (ty := .int) (C := RX7) (T := TX7) (N := 48) hx hb hts inX7 tyX7 tyX7_ok nmX7 hown hK hP hD hS 1 rfl rfl 6 (by decide) (hts _ wd_383) (fun _ h9 => h9) rfl (by decide +kernel) rfl rfl (Nat.le_of_ble_eq_true rfl) dX7_next_213 (fun H locs hP hD hS => ?_)
                      obtain ⟨hP, hD⟩ := wl2 (ws' := [(arI rM_letters kM_letters 8 fM_letters), (oc7 oM iM_thrown rM_tape iM_taped iM_size z_4787 z_4802 3 z_4804 0 iM_fault iM_place iM_trouble rM_letters iM_failed iM_hasCourt rM_r rM_fresh rM_told rM_read rM_st rM_undone rM_kept iM_undos iM_images rM_fresher iM_fresherSize iM_scale iM_night rM_heardRow rM_cutRow iM_breaths iM_cutMany iM_allBreaths rM_trial rM_words iM_fewestBreaths iM_orderMany iM_orderSum iM_leastOrder rM_often iM_setMany iM_someOf iM_allOf iM_allWeight iM_enoughWeight iM_worthSum iM_firstRest iM_leastDrawn), (arI rM_tape kM_tape 900 fM_tape)]) hP hD rfl
                      refine lv_goto (tgt := 247) hx hb dX7_next_216 (by decide) ?_
                      exact W.vret hx hb hr (fun t ht hW => ⟨⟨0, rfl, trivial, ⟨z_4787, z_4802, 3, z_4804, 0, fM_letters, (by omega), (by decide), (by have q0 := kc_0; have q1 := kc_1; have q2 := kc_2; have q3 := kc_3; omega), (fun h9 => by have q0 := kc_0; have q1 := kc_1; have q2 := kc_2; have q3 := kc_3; omega), (fun h9 => by have q0 := kc_0; have q1 := kc_1; have q2 := kc_2; have q3 := kc_3; omega), hG, Bw.to (hP.sub [1, 2, 0] rfl) (hD.sub [1, 2, 0] (by decide) rfl) (hK.sub [1, 0] rfl) ht hW⟩⟩, hS.F ht⟩) hS.2.2 dX7_next_247
                    · skip
                      have hG := hG.trans (if_neg c_4809)
                      have gc_4809 := ti_nle c_4809 rfl kc_3
                      refine lv_iconst (v := 1) hx hb dX7_next_208 (by decide) ?_
                      refine lv_goto (tgt := 213) hx hb dX7_next_209 (by decide) ?_
                      refine va_put (D := (dC, dI)) (ci := 7) (v := .int 1) (ty := .int) (C := RX7) (T := TX7) (N := 48) hx hb hts inX7 tyX7 tyX7_ok nmX7 hown hK hP hD hS 1 rfl rfl 6 (by decide) (hts _ wd_383) (fun _ h9 => h9) rfl (by decide +kernel) rfl rfl (Nat.le_of_ble_eq_true rfl) dX7_next_213 (fun H locs hP hD hS => ?_)
                      obtain ⟨hP, hD⟩ := wl2 (ws' := [(arI rM_letters kM_letters 8 fM_letters), (oc7 oM iM_thrown rM_tape iM_taped iM_size z_4787 z_4802 1 z_4804 0 iM_fault iM_place iM_trouble rM_letters iM_failed iM_hasCourt rM_r rM_fresh rM_told rM_read rM_st rM_undone rM_kept iM_undos iM_images rM_fresher iM_fresherSize iM_scale iM_night rM_heardRow rM_cutRow iM_breaths iM_cutMany iM_allBreaths rM_trial rM_words iM_fewestBreaths iM_orderMany iM_orderSum iM_leastOrder rM_often iM_setMany iM_someOf iM_allOf iM_allWeight iM_enoughWeight iM_worthSum iM_firstRest iM_leastDrawn), (arI rM_tape kM_tape 900 fM_tape)]) hP hD rfl
                      refine lv_goto (tgt := 247) hx hb dX7_next_216 (by decide) ?_
                      exact W.vret hx hb hr (fun t ht hW => ⟨⟨0, rfl, trivial, ⟨z_4787, z_4802, 1, z_4804, 0, fM_letters, (by omega), (by decide), (by have q0 := kc_0; have q1 := kc_1; have q2 := kc_2; have q3 := kc_3; omega), (fun h9 => by have q0 := kc_0; have q1 := kc_1; have q2 := kc_2; have q3 := kc_3; omega), (fun h9 => by have q0 := kc_0; have q1 := kc_1; have q2 := kc_2; have q3 := kc_3; omega), hG, Bw.to (hP.sub [1, 2, 0] rfl) (hD.sub [1, 2, 0] (by decide) rfl) (hK.sub [1, 0] rfl) ht hW⟩⟩, hS.F ht⟩) hS.2.2 dX7_next_247
                  · skip
                    have hG := hG.trans (if_neg c_4808)
                    have gc_4808 := ti_ne c_4808 rfl kc_0
                    replace gc_4808 : (-1) * x_4807.toInt + 1 ≤ 0 := by omega
                    have h_4810 := lx_4807 (by omega)
                    clear lx_4807
                    have h_4811 := lx_4806 (by omega)
                    clear lx_4806
                    refine lv_iload_n hx hb dX7_next_163 rfl (lv_at hl 0 rfl) ?_
                    refine lv_iconst (v := 3) hx hb dX7_next_164 (by decide) ?_
                    refine lv_icmp_ge (tgt := 188) hx hb dX7_next_165 (by decide) (fun c_4812 => ?_) (fun c_4812 => ?_)
                    · skip
                      have hG := hG.trans (if_pos c_4812)
                      have gc_4812 := ti_le c_4812 kc_3 rfl
                      obtain ⟨x_4813, ex_4813⟩ : ∃ z : Int32, z = z_4803 + Int32.ofInt 1 := ⟨_, rfl⟩
                      have hG := hG.trans (lt_eq ex_4813)
                      have vx_4813 : x_4813.toInt = z_4803.toInt + 1 := by have q := ti_add (y := 1) ex_4813 rfl kc_1 (by omega) (by omega); omega
                      refine lv_iinc (v := x_4813) (lv' := [(3, .int x_4813), (2, .int x_4791), (1, .int z_4802), (0, .ref oM)]) hx hb dX7_next_188 hl (k := 0) rfl ex_4813.symm (by decide) rfl (fun ls hl => ?_)
                      obtain ⟨x_4814, ex_4814⟩ : ∃ z : Int32, z = z_4802 + Int32.ofInt 1 := ⟨_, rfl⟩
                      have hG := hG.trans (lt_eq ex_4814)
                      have vx_4814 : x_4814.toInt = z_4802.toInt + 1 := by have q := ti_add (y := 1) ex_4814 rfl kc_1 (by omega) (by omega); omega
                      refine lv_iinc (v := x_4814) (lv' := [(1, .int x_4814), (3, .int x_4813), (2, .int x_4791), (0, .ref oM)]) hx hb dX7_next_191 hl (k := 2) rfl ex_4814.symm (by decide) rfl (fun ls hl => ?_)
                      refine lv_goto (tgt := 152) hx hb dX7_next_194 (by decide) ?_
                      exact ih_n_4805 x_4814 x_4813 z_4804 _ _ _  (by first | omega | decide | assumption) (by first | omega | decide | assumption) (by omega) hG (hP.sub [0, 1, 2] rfl) (hD.sub [0, 1, 2] (by decide) rfl) hS (lv_sub hl [1, 2, 0, 3] rfl)
                    · skip
                      have hG := hG.trans (if_neg c_4812)
                      have gc_4812 := ti_nle c_4812 kc_3 rfl
                      refine lv_aload_n hx hb dX7_next_168 rfl (lv_at hl 3 rfl) ?_
                      refine lv_bipush (v := 10) hx hb dX7_next_169 (by decide) ?_
                      refine lv_aload_n hx hb dX7_next_171 rfl (lv_at hl 3 rfl) ?_
                      refine va_get (D := (dC, dI)) (ci := 7) (v := .int z_4804) (C := RX7) (T := TX7) (N := 48) hx hb hts inX7 hown hK hP 1 rfl rfl 7 (by decide) (hts _ wd_405) (fun _ h9 => h9) rfl dX7_next_172 ?_
                      refine lv_imul hx hb dX7_next_175 ?_
                      refine lv_topi (fun x_4815 ex_4815 => ?_)
                      have hG := hG.trans (lt_eq ex_4815)
                      refine lv_aload_n hx hb dX7_next_176 rfl (lv_at hl 3 rfl) ?_
                      refine lv_iload_n hx hb dX7_next_177 rfl (lv_at hl 2 rfl) ?_
                      have hFc := va_free (wc := [(oc7 oM iM_thrown rM_tape iM_taped iM_size z_4787 iM_end iM_token z_4804 0 iM_fault iM_place iM_trouble rM_letters iM_failed iM_hasCourt rM_r rM_fresh rM_told rM_read rM_st rM_undone rM_kept iM_undos iM_images rM_fresher iM_fresherSize iM_scale iM_night rM_heardRow rM_cutRow iM_breaths iM_cutMany iM_allBreaths rM_trial rM_words iM_fewestBreaths iM_orderMany iM_orderSum iM_leastOrder rM_often iM_setMany iM_someOf iM_allOf iM_allWeight iM_enoughWeight iM_worthSum iM_firstRest iM_leastDrawn), (arI rM_tape kM_tape 900 fM_tape)]) hD hS hA [1, 2] rfl
                      refine va_calli (va_runV (As := [.int z_4802]) (rest := [.int x_4815, .ref oM]) ⟨hx, hb, hml, hown, hts⟩ (tX7_see_p l dC dI _ oM iM_thrown rM_tape fM_tape kM_tape iM_taped iM_size z_4787 iM_end iM_token z_4804 0 iM_fault iM_place iM_trouble rM_letters iM_failed iM_hasCourt rM_r rM_fresh rM_told rM_read rM_st rM_undone rM_kept iM_undos iM_images rM_fresher iM_fresherSize iM_scale iM_night rM_heardRow rM_cutRow iM_breaths iM_cutMany iM_allBreaths rM_trial rM_words iM_fewestBreaths iM_orderMany iM_orderSum iM_leastOrder rM_often iM_setMany iM_someOf iM_allOf iM_allWeight iM_enoughWeight iM_worthSum iM_firstRest iM_leastDrawn z_4802 (by first | omega | decide) (by first | omega | decide) (by first | omega | decide) (by first | decide | omega) (by first | omega | decide) (by first | omega | decide) (by first | omega | decide) (by first | omega | decide) (by first | omega | decide) (by first | omega | decide) (by first | omega | decide) (by first | omega | decide | assumption | (have q0 := kc_0; have q1 := kc_1; omega) | (intro h; exact absurd h (by decide)))) (cwV 1 hts (wd_V wd_406 wd_407 wd_408 wd_5 (wd_c wd_409)) rfl rfl rfl (by decide +kernel) ⟨Nat.le_of_ble_eq_true rfl, Nat.le_of_ble_eq_true rfl⟩) ⟨Pw.fb, va_recv hK hP (ci := 7) (q0 := 1) rfl rfl, fun U hU hW => Pw.to (hP.sub [1, 2] rfl) (hD.sub [1, 2] (by decide) rfl) (hK.sub [1] rfl) hE hS hFc hU hW⟩ rfl rfl hl.1 rfl (lv_room (Nat.le_of_ble_eq_true rfl)) dX7_next_178 ⟨Nat.le_of_ble_eq_true rfl, Nat.le_of_ble_eq_true rfl⟩) hS (fun q _ h => hFc q h) hFc (fun r u t H locs ht hvm hw hB hz1 hk1 hS => ?_)
                      have hru9 := hw.2
                      have hw := hw.1
                      obtain ⟨hP, hD, hK⟩ := Bw.go (ws' := [(arI rM_letters kM_letters 8 fM_letters), (oc7 oM iM_thrown rM_tape iM_taped iM_size z_4787 iM_end iM_token z_4804 0 iM_fault iM_place iM_trouble rM_letters iM_failed iM_hasCourt rM_r rM_fresh rM_told rM_read rM_st rM_undone rM_kept iM_undos iM_images rM_fresher iM_fresherSize iM_scale iM_night rM_heardRow rM_cutRow iM_breaths iM_cutMany iM_allBreaths rM_trial rM_words iM_fewestBreaths iM_orderMany iM_orderSum iM_leastOrder rM_often iM_setMany iM_someOf iM_allOf iM_allWeight iM_enoughWeight iM_worthSum iM_firstRest iM_leastDrawn), (arI rM_tape kM_tape 900 fM_tape)]) (tys' := [(kM_letters, .int), (kM_tape, .int)]) hB rfl ht hvm hP hD hK [1, 2] [0] rfl (by decide) (by decide) [0] hk1 hFc rfl rfl rfl
                      clear hz1 hk1 hvm ht hB
                      obtain ⟨x_4816, rfl⟩ : ∃ z, z = r := ⟨_, rfl⟩
                      have hG := hG.trans (lt_eq hru9.symm)
                      have lx_4816 := hw.2
                      refine lv_iadd hx hb dX7_next_181 ?_
                      refine lv_topi (fun x_4817 ex_4817 => ?_)
                      have hG := hG.trans (lt_eq ex_4817)
                      refine lv_bipush (v := 48) hx hb dX7_next_182 (by decide) ?_
                      refine lv_isub hx hb dX7_next_184 ?_
                      refine lv_topi (fun x_4818 ex_4818 => ?_)
                      have hG := hG.trans (lt_eq ex_4818)
                      refine va_put (D := (dC, dI)) (ci := 7) (v := .int x_4818) (ty := .int) (C := RX7) (T := TX7) (N := 48) hx hb hts inX7 tyX7 tyX7_ok nmX7 hown hK hP hD hS 1 rfl rfl 7 (by decide) (hts _ wd_405) (fun _ h9 => h9) rfl (by decide +kernel) rfl rfl (Nat.le_of_ble_eq_true rfl) dX7_next_185 (fun H locs hP hD hS => ?_)
                      obtain ⟨hP, hD⟩ := wl2 (ws' := [(arI rM_letters kM_letters 8 fM_letters), (oc7 oM iM_thrown rM_tape iM_taped iM_size z_4787 iM_end iM_token x_4818 0 iM_fault iM_place iM_trouble rM_letters iM_failed iM_hasCourt rM_r rM_fresh rM_told rM_read rM_st rM_undone rM_kept iM_undos iM_images rM_fresher iM_fresherSize iM_scale iM_night rM_heardRow rM_cutRow iM_breaths iM_cutMany iM_allBreaths rM_trial rM_words iM_fewestBreaths iM_orderMany iM_orderSum iM_leastOrder rM_often iM_setMany iM_someOf iM_allOf iM_allWeight iM_enoughWeight iM_worthSum iM_firstRest iM_leastDrawn), (arI rM_tape kM_tape 900 fM_tape)]) hP hD rfl
                      obtain ⟨x_4819, ex_4819⟩ : ∃ z : Int32, z = z_4803 + Int32.ofInt 1 := ⟨_, rfl⟩
                      have hG := hG.trans (lt_eq ex_4819)
                      have vx_4819 : x_4819.toInt = z_4803.toInt + 1 := by have q := ti_add (y := 1) ex_4819 rfl kc_1 (by omega) (by omega); omega
                      refine lv_iinc (v := x_4819) (lv' := [(3, .int x_4819), (2, .int x_4791), (1, .int z_4802), (0, .ref oM)]) hx hb dX7_next_188 hl (k := 0) rfl ex_4819.symm (by decide) rfl (fun ls hl => ?_)
                      obtain ⟨x_4820, ex_4820⟩ : ∃ z : Int32, z = z_4802 + Int32.ofInt 1 := ⟨_, rfl⟩
                      have hG := hG.trans (lt_eq ex_4820)
                      have vx_4820 : x_4820.toInt = z_4802.toInt + 1 := by have q := ti_add (y := 1) ex_4820 rfl kc_1 (by omega) (by omega); omega
                      refine lv_iinc (v := x_4820) (lv' := [(1, .int x_4820), (3, .int x_4819), (2, .int x_4791), (0, .ref oM)]) hx hb dX7_next_191 hl (k := 2) rfl ex_4820.symm (by decide) rfl (fun ls hl => ?_)
                      refine lv_goto (tgt := 152) hx hb dX7_next_194 (by decide) ?_
                      exact ih_n_4805 x_4820 x_4819 x_4818 _ _ _  (by first | omega | decide | assumption) (by first | omega | decide | assumption) (by omega) hG (hP.sub [0, 1, 2] rfl) (hD.sub [0, 1, 2] (by decide) rfl) hS (lv_sub hl [1, 2, 0, 3] rfl)
              exact key_n_4805 (((900 - z_4787.toInt).toNat) + 1) z_4787 0 0 _ _ _  (by first | omega | decide | assumption | (have q0 := kc_0; have q1 := kc_1; omega)) (by first | omega | decide | assumption | (have q0 := kc_0; have q1 := kc_1; omega)) (by omega) hG hP hD hS hl
          · skip
            have hG := hG.trans (if_neg c_4795)
            have gc_4795 := ti_ne c_4795 rfl kc_0
            replace gc_4795 : (-1) * x_4794.toInt + 1 ≤ 0 := by omega
            have h_4821 := lx_4794 (by omega)
            clear lx_4794
            have hl := lv_sub hl (l' := [(2, .int x_4791), (1, .int z_4787), (0, .ref oM)]) [0, 1, 2] rfl
            have key_n_4825 : ∀ (n_4825 : Nat) (z_4822 : Int32) (z_4823 : Int32) (f_4824 : Nat → Int32) (H : Heap) (locs : List Loc) (ls : Array Slot), (0 ≤ z_4823.toInt ∧ z_4823.toInt ≤ 900) → (iM_end.toInt ≤ z_4822.toInt ∧ z_4822.toInt ≤ 900) → (0 ≤ z_4823.toInt ∧ z_4823.toInt ≤ z_4822.toInt) → (900 - z_4822.toInt).toNat < n_4825 → (PX7_next fM_tape iM_size iM_end fM_letters = HX7_next_2 fM_tape iM_size z_4787 n_4825 z_4822 z_4823 f_4824) → va_P (dC, dI) vwCl [(arI rM_letters kM_letters 8 f_4824), (oc7 oM iM_thrown rM_tape iM_taped iM_size z_4787 iM_end iM_token 0 z_4823 iM_fault iM_place iM_trouble rM_letters iM_failed iM_hasCourt rM_r rM_fresh rM_told rM_read rM_st rM_undone rM_kept iM_undos iM_images rM_fresher iM_fresherSize iM_scale iM_night rM_heardRow rM_cutRow iM_breaths iM_cutMany iM_allBreaths rM_trial rM_words iM_fewestBreaths iM_orderMany iM_orderSum iM_leastOrder rM_often iM_setMany iM_someOf iM_allOf iM_allWeight iM_enoughWeight iM_worthSum iM_firstRest iM_leastDrawn), (arI rM_tape kM_tape 900 fM_tape)] H → va_D A [(arI rM_letters kM_letters 8 f_4824), (oc7 oM iM_thrown rM_tape iM_taped iM_size z_4787 iM_end iM_token 0 z_4823 iM_fault iM_place iM_trouble rM_letters iM_failed iM_hasCourt rM_r rM_fresh rM_told rM_read rM_st rM_undone rM_kept iM_undos iM_images rM_fresher iM_fresherSize iM_scale iM_night rM_heardRow rM_cutRow iM_breaths iM_cutMany iM_allBreaths rM_trial rM_words iM_fewestBreaths iM_orderMany iM_orderSum iM_leastOrder rM_often iM_setMany iM_someOf iM_allOf iM_allWeight iM_enoughWeight iM_worthSum iM_firstRest iM_leastDrawn), (arI rM_tape kM_tape 900 fM_tape)] → va_S A s.heap H locs → lv_has ls 4 [(2, .int x_4791), (1, .int z_4822), (0, .ref oM)] → W p l e (headSpec (Cond.code yX7_next cX7_next 4 none :: wG) ({ frames := 1, cells := 0, slots := 0, locals := 21 })).room s m ([.ref oM] : List Value).toArray below meth c H locs 0 0 (MQ below (va_Qv (fun (_ : Nat) => True) (fun (_ : Nat) (t : State) => ∃ (niM_at : Int32) (niM_end : Int32) (niM_token : Int32) (niM_whole : Int32) (niM_nameSize : Int32) (nfM_letters : Nat → Int32), (0 ≤ niM_end.toInt ∧ niM_end.toInt ≤ 900) ∧ (0 ≤ niM_nameSize.toInt ∧ niM_nameSize.toInt ≤ 900) ∧ (iM_end.toInt ≤ niM_end.toInt) ∧ (ImpP (niM_token.toInt = 2) (niM_nameSize.toInt ≤ 8)) ∧ (ImpP (niM_token.toInt = 59 ) (iM_end.toInt + 1 ≤ niM_end.toInt)) ∧ (PX7_next fM_tape iM_size iM_end fM_letters = (niM_at, niM_end, niM_token, niM_whole, niM_nameSize, nfM_letters)) ∧ Bw dC dI A [(oc7 oM iM_thrown rM_tape iM_taped iM_size niM_at niM_end niM_token niM_whole niM_nameSize iM_fault iM_place iM_trouble rM_letters iM_failed iM_hasCourt rM_r rM_fresh rM_told rM_read rM_st rM_undone rM_kept iM_undos iM_images rM_fresher iM_fresherSize iM_scale iM_night rM_heardRow rM_cutRow iM_breaths iM_cutMany iM_allBreaths rM_trial rM_words iM_fewestBreaths iM_orderMany iM_orderSum iM_leastOrder rM_often iM_setMany iM_someOf iM_allOf iM_allWeight iM_enoughWeight iM_worthSum iM_firstRest iM_leastDrawn), (arI rM_tape kM_tape 900 fM_tape), (arI rM_letters kM_letters 8 nfM_letters)] [(kM_tape, .int), (kM_letters, .int)] t) A) ([.ref oM] : List Value).toArray s 0 0 A) (F0 m 67 ls []) := by
              intro n_4825
              induction n_4825 with
              | zero => intro z_4822 z_4823 f_4824 H locs ls b_z_4823 hi0_n_4825 hi1_n_4825 hm; exact absurd hm (by omega)
              | succ n_4825 ih_n_4825 =>
                intro z_4822 z_4823 f_4824 H locs ls b_z_4823 hi0_n_4825 hi1_n_4825 hm hG hP hD hS hl
                have hG := hG.trans (HX7_next_2_eq _ _ _ _ _ _ _)
                refine lv_aload_n hx hb dX7_next_67 rfl (lv_at hl 2 rfl) ?_
                refine lv_iload_n hx hb dX7_next_68 rfl (lv_at hl 1 rfl) ?_
                have hFc := va_free (wc := [(oc7 oM iM_thrown rM_tape iM_taped iM_size z_4787 iM_end iM_token 0 z_4823 iM_fault iM_place iM_trouble rM_letters iM_failed iM_hasCourt rM_r rM_fresh rM_told rM_read rM_st rM_undone rM_kept iM_undos iM_images rM_fresher iM_fresherSize iM_scale iM_night rM_heardRow rM_cutRow iM_breaths iM_cutMany iM_allBreaths rM_trial rM_words iM_fewestBreaths iM_orderMany iM_orderSum iM_leastOrder rM_often iM_setMany iM_someOf iM_allOf iM_allWeight iM_enoughWeight iM_worthSum iM_firstRest iM_leastDrawn), (arI rM_tape kM_tape 900 fM_tape)]) hD hS hA [1, 2] rfl
                refine va_calli (va_runV (As := [.int z_4822]) (rest := []) ⟨hx, hb, hml, hown, hts⟩ (tX7_see_p l dC dI _ oM iM_thrown rM_tape fM_tape kM_tape iM_taped iM_size z_4787 iM_end iM_token 0 z_4823 iM_fault iM_place iM_trouble rM_letters iM_failed iM_hasCourt rM_r rM_fresh rM_told rM_read rM_st rM_undone rM_kept iM_undos iM_images rM_fresher iM_fresherSize iM_scale iM_night rM_heardRow rM_cutRow iM_breaths iM_cutMany iM_allBreaths rM_trial rM_words iM_fewestBreaths iM_orderMany iM_orderSum iM_leastOrder rM_often iM_setMany iM_someOf iM_allOf iM_allWeight iM_enoughWeight iM_worthSum iM_firstRest iM_leastDrawn z_4822 (by first | omega | decide) (by first | omega | decide) (by first | omega | decide) (by first | exact b_z_4823 | omega | decide) (by first | omega | decide) (by first | omega | decide) (by first | omega | decide) (by first | omega | decide) (by first | omega | decide) (by first | omega | decide) (by first | omega | decide) (by first | omega | decide | assumption | (have q0 := kc_0; have q1 := kc_1; omega) | (intro h; exact absurd h (by decide)))) (cwV 1 hts (wd_V wd_406 wd_407 wd_408 wd_5 (wd_c wd_409)) rfl rfl rfl (by decide +kernel) ⟨Nat.le_of_ble_eq_true rfl, Nat.le_of_ble_eq_true rfl⟩) ⟨Pw.fb, va_recv hK hP (ci := 7) (q0 := 1) rfl rfl, fun U hU hW => Pw.to (hP.sub [1, 2] rfl) (hD.sub [1, 2] (by decide) rfl) (hK.sub [1] rfl) hE hS hFc hU hW⟩ rfl rfl hl.1 rfl (lv_room (Nat.le_of_ble_eq_true rfl)) dX7_next_69 ⟨Nat.le_of_ble_eq_true rfl, Nat.le_of_ble_eq_true rfl⟩) hS (fun q _ h => hFc q h) hFc (fun r u t H locs ht hvm hw hB hz1 hk1 hS => ?_)
                have hru9 := hw.2
                have hw := hw.1
                obtain ⟨hP, hD, hK⟩ := Bw.go (ws' := [(arI rM_letters kM_letters 8 f_4824), (oc7 oM iM_thrown rM_tape iM_taped iM_size z_4787 iM_end iM_token 0 z_4823 iM_fault iM_place iM_trouble rM_letters iM_failed iM_hasCourt rM_r rM_fresh rM_told rM_read rM_st rM_undone rM_kept iM_undos iM_images rM_fresher iM_fresherSize iM_scale iM_night rM_heardRow rM_cutRow iM_breaths iM_cutMany iM_allBreaths rM_trial rM_words iM_fewestBreaths iM_orderMany iM_orderSum iM_leastOrder rM_often iM_setMany iM_someOf iM_allOf iM_allWeight iM_enoughWeight iM_worthSum iM_firstRest iM_leastDrawn), (arI rM_tape kM_tape 900 fM_tape)]) (tys' := [(kM_letters, .int), (kM_tape, .int)]) hB rfl ht hvm hP hD hK [1, 2] [0] rfl (by decide) (by decide) [0] hk1 hFc rfl rfl rfl
                clear hz1 hk1 hvm ht hB
                obtain ⟨x_4826, rfl⟩ : ∃ z, z = r := ⟨_, rfl⟩
                have hG := hG.trans (lt_eq hru9.symm)
                have lx_4826 := hw.2
                have hFc : ∀ q, va_A [] _ q → A q := fun q h => hA q (Nat.le_trans hS.1 (va_nilA h))
                refine va_calli (va_runS (As := [.int x_4826]) (rest := []) ⟨hx, hb, hml, hown, hts⟩ (tX7_isSmall_p l dC dI _ x_4826 ) (va_cwS 1 hts (wd_S wd_410 wd_411 wd_5 (wd_c wd_412)) rfl rfl rfl (by decide +kernel) ⟨Nat.le_of_ble_eq_true rfl, Nat.le_of_ble_eq_true rfl⟩) ⟨Pw.fb, fun U hU hW => Pn.to hK hE hS hA hU hW⟩ rfl rfl hl.1 rfl (lv_room (Nat.le_of_ble_eq_true rfl)) dX7_next_72 ⟨Nat.le_of_ble_eq_true rfl, Nat.le_of_ble_eq_true rfl⟩) hS (fun q _ h => hFc q h) hFc (fun r u t H locs ht hvm hw hB hz1 hk1 hS => ?_)
                obtain ⟨hP, hD, hK⟩ := Bw.same ht hvm hP hD hK hk1 hFc
                clear hz1 hk1 hvm ht hB
                have hq9 := hw.2
                have hw := hw.1
                obtain ⟨x_4827, rfl⟩ : ∃ z, z = r := ⟨_, rfl⟩
                have hq_x_4827 := hq9
                have hG := hG.trans (lt_eq hq_x_4827.symm)
                have bx_4827 := hw.1
                have dx_4827 := bz_ti bx_4827
                have lx_4827 := hw.2
                refine lv_if_eq (tgt := 117) hx hb dX7_next_75 (by decide) (fun c_4828 => ?_) (fun c_4828 => ?_)
                · skip
                  have hG := hG.trans (if_pos c_4828)
                  have gc_4828 := ti_eq c_4828 rfl kc_0
                  clear lx_4827
                  refine lv_aload_n hx hb dX7_next_117 rfl (lv_at hl 2 rfl) ?_
                  refine lv_iload_n hx hb dX7_next_118 rfl (lv_at hl 1 rfl) ?_
                  refine va_put (D := (dC, dI)) (ci := 7) (v := .int z_4822) (ty := .int) (C := RX7) (T := TX7) (N := 48) hx hb hts inX7 tyX7 tyX7_ok nmX7 hown hK hP hD hS 1 rfl rfl 5 (by decide) (hts _ wd_382) (fun _ h9 => h9) rfl (by decide +kernel) rfl rfl (Nat.le_of_ble_eq_true rfl) dX7_next_119 (fun H locs hP hD hS => ?_)
                  obtain ⟨hP, hD⟩ := wl2 (ws' := [(arI rM_letters kM_letters 8 f_4824), (oc7 oM iM_thrown rM_tape iM_taped iM_size z_4787 z_4822 iM_token 0 z_4823 iM_fault iM_place iM_trouble rM_letters iM_failed iM_hasCourt rM_r rM_fresh rM_told rM_read rM_st rM_undone rM_kept iM_undos iM_images rM_fresher iM_fresherSize iM_scale iM_night rM_heardRow rM_cutRow iM_breaths iM_cutMany iM_allBreaths rM_trial rM_words iM_fewestBreaths iM_orderMany iM_orderSum iM_leastOrder rM_often iM_setMany iM_someOf iM_allOf iM_allWeight iM_enoughWeight iM_worthSum iM_firstRest iM_leastDrawn), (arI rM_tape kM_tape 900 fM_tape)]) hP hD rfl
                  refine lv_aload_n hx hb dX7_next_122 rfl (lv_at hl 2 rfl) ?_
                  refine lv_aload_n hx hb dX7_next_123 rfl (lv_at hl 2 rfl) ?_
                  refine va_get (D := (dC, dI)) (ci := 7) (v := .int z_4823) (C := RX7) (T := TX7) (N := 48) hx hb hts inX7 hown hK hP 1 rfl rfl 8 (by decide) (hts _ wd_404) (fun _ h9 => h9) rfl dX7_next_124 ?_
                  refine lv_bipush (v := 8) hx hb dX7_next_127 (by decide) ?_
                  refine lv_icmp_le (tgt := 136) hx hb dX7_next_129 (by decide) (fun c_4829 => ?_) (fun c_4829 => ?_)
                  · skip
                    have hG := hG.trans (if_pos c_4829)
                    have gc_4829 := ti_le c_4829 rfl kc_8
                    refine lv_iconst (v := 2) hx hb dX7_next_136 (by decide) ?_
                    refine va_put (D := (dC, dI)) (ci := 7) (v := .int 2) (ty := .int) (C := RX7) (T := TX7) (N := 48) hx hb hts inX7 tyX7 tyX7_ok nmX7 hown hK hP hD hS 1 rfl rfl 6 (by decide) (hts _ wd_383) (fun _ h9 => h9) rfl (by decide +kernel) rfl rfl (Nat.le_of_ble_eq_true rfl) dX7_next_137 (fun H locs hP hD hS => ?_)
                    obtain ⟨hP, hD⟩ := wl2 (ws' := [(arI rM_letters kM_letters 8 f_4824), (oc7 oM iM_thrown rM_tape iM_taped iM_size z_4787 z_4822 2 0 z_4823 iM_fault iM_place iM_trouble rM_letters iM_failed iM_hasCourt rM_r rM_fresh rM_told rM_read rM_st rM_undone rM_kept iM_undos iM_images rM_fresher iM_fresherSize iM_scale iM_night rM_heardRow rM_cutRow iM_breaths iM_cutMany iM_allBreaths rM_trial rM_words iM_fewestBreaths iM_orderMany iM_orderSum iM_leastOrder rM_often iM_setMany iM_someOf iM_allOf iM_allWeight iM_enoughWeight iM_worthSum iM_firstRest iM_leastDrawn), (arI rM_tape kM_tape 900 fM_tape)]) hP hD rfl
                    refine lv_goto (tgt := 247) hx hb dX7_next_140 (by decide) ?_
                    exact W.vret hx hb hr (fun t ht hW => ⟨⟨0, rfl, trivial, ⟨z_4787, z_4822, 2, 0, z_4823, f_4824, (by omega), b_z_4823, (by have q0 := kc_0; have q1 := kc_1; have q2 := kc_2; have q3 := kc_3; omega), (fun h9 => by have q0 := kc_0; have q1 := kc_1; have q2 := kc_2; have q3 := kc_3; omega), (fun h9 => by have q0 := kc_0; have q1 := kc_1; have q2 := kc_2; have q3 := kc_3; omega), hG, Bw.to (hP.sub [1, 2, 0] rfl) (hD.sub [1, 2, 0] (by decide) rfl) (hK.sub [1, 0] rfl) ht hW⟩⟩, hS.F ht⟩) hS.2.2 dX7_next_247
                  · skip
                    have hG := hG.trans (if_neg c_4829)
                    have gc_4829 := ti_nle c_4829 rfl kc_8
                    refine lv_iconst (v := 1) hx hb dX7_next_132 (by decide) ?_
                    refine lv_goto (tgt := 137) hx hb dX7_next_133 (by decide) ?_
                    refine va_put (D := (dC, dI)) (ci := 7) (v := .int 1) (ty := .int) (C := RX7) (T := TX7) (N := 48) hx hb hts inX7 tyX7 tyX7_ok nmX7 hown hK hP hD hS 1 rfl rfl 6 (by decide) (hts _ wd_383) (fun _ h9 => h9) rfl (by decide +kernel) rfl rfl (Nat.le_of_ble_eq_true rfl) dX7_next_137 (fun H locs hP hD hS => ?_)
                    obtain ⟨hP, hD⟩ := wl2 (ws' := [(arI rM_letters kM_letters 8 f_4824), (oc7 oM iM_thrown rM_tape iM_taped iM_size z_4787 z_4822 1 0 z_4823 iM_fault iM_place iM_trouble rM_letters iM_failed iM_hasCourt rM_r rM_fresh rM_told rM_read rM_st rM_undone rM_kept iM_undos iM_images rM_fresher iM_fresherSize iM_scale iM_night rM_heardRow rM_cutRow iM_breaths iM_cutMany iM_allBreaths rM_trial rM_words iM_fewestBreaths iM_orderMany iM_orderSum iM_leastOrder rM_often iM_setMany iM_someOf iM_allOf iM_allWeight iM_enoughWeight iM_worthSum iM_firstRest iM_leastDrawn), (arI rM_tape kM_tape 900 fM_tape)]) hP hD rfl
                    refine lv_goto (tgt := 247) hx hb dX7_next_140 (by decide) ?_
                    exact W.vret hx hb hr (fun t ht hW => ⟨⟨0, rfl, trivial, ⟨z_4787, z_4822, 1, 0, z_4823, f_4824, (by omega), b_z_4823, (by have q0 := kc_0; have q1 := kc_1; have q2 := kc_2; have q3 := kc_3; omega), (fun h9 => by have q0 := kc_0; have q1 := kc_1; have q2 := kc_2; have q3 := kc_3; omega), (fun h9 => by have q0 := kc_0; have q1 := kc_1; have q2 := kc_2; have q3 := kc_3; omega), hG, Bw.to (hP.sub [1, 2, 0] rfl) (hD.sub [1, 2, 0] (by decide) rfl) (hK.sub [1, 0] rfl) ht hW⟩⟩, hS.F ht⟩) hS.2.2 dX7_next_247
                · skip
                  have hG := hG.trans (if_neg c_4828)
                  have gc_4828 := ti_ne c_4828 rfl kc_0
                  replace gc_4828 : (-1) * x_4827.toInt + 1 ≤ 0 := by omega
                  have h_4830 := lx_4827 (by omega)
                  clear lx_4827
                  have h_4831 := lx_4826 (by omega)
                  clear lx_4826
                  refine lv_aload_n hx hb dX7_next_78 rfl (lv_at hl 2 rfl) ?_
                  refine va_get (D := (dC, dI)) (ci := 7) (v := .int z_4823) (C := RX7) (T := TX7) (N := 48) hx hb hts inX7 hown hK hP 1 rfl rfl 8 (by decide) (hts _ wd_404) (fun _ h9 => h9) rfl dX7_next_79 ?_
                  refine lv_bipush (v := 8) hx hb dX7_next_82 (by decide) ?_
                  refine lv_icmp_ge (tgt := 101) hx hb dX7_next_84 (by decide) (fun c_4832 => ?_) (fun c_4832 => ?_)
                  · skip
                    have hG := hG.trans (if_pos c_4832)
                    have gc_4832 := ti_le c_4832 kc_8 rfl
                    refine lv_aload_n hx hb dX7_next_101 rfl (lv_at hl 2 rfl) ?_
                    refine lv_dup hx hb dX7_next_102 rfl ?_
                    refine va_get (D := (dC, dI)) (ci := 7) (v := .int z_4823) (C := RX7) (T := TX7) (N := 48) hx hb hts inX7 hown hK hP 1 rfl rfl 8 (by decide) (hts _ wd_404) (fun _ h9 => h9) rfl dX7_next_103 ?_
                    refine lv_iconst (v := 1) hx hb dX7_next_106 (by decide) ?_
                    refine lv_iadd hx hb dX7_next_107 ?_
                    refine lv_topi (fun x_4833 ex_4833 => ?_)
                    have hG := hG.trans (lt_eq ex_4833)
                    have vx_4833 : x_4833.toInt = z_4823.toInt + 1 := by have q := ti_add ex_4833 rfl kc_1 (by omega) (by omega); omega
                    refine va_put (D := (dC, dI)) (ci := 7) (v := .int x_4833) (ty := .int) (C := RX7) (T := TX7) (N := 48) hx hb hts inX7 tyX7 tyX7_ok nmX7 hown hK hP hD hS 1 rfl rfl 8 (by decide) (hts _ wd_404) (fun _ h9 => h9) rfl (by decide +kernel) rfl rfl (Nat.le_of_ble_eq_true rfl) dX7_next_108 (fun H locs hP hD hS => ?_)
                    obtain ⟨hP, hD⟩ := wl2 (ws' := [(arI rM_letters kM_letters 8 f_4824), (oc7 oM iM_thrown rM_tape iM_taped iM_size z_4787 iM_end iM_token 0 x_4833 iM_fault iM_place iM_trouble rM_letters iM_failed iM_hasCourt rM_r rM_fresh rM_told rM_read rM_st rM_undone rM_kept iM_undos iM_images rM_fresher iM_fresherSize iM_scale iM_night rM_heardRow rM_cutRow iM_breaths iM_cutMany iM_allBreaths rM_trial rM_words iM_fewestBreaths iM_orderMany iM_orderSum iM_leastOrder rM_often iM_setMany iM_someOf iM_allOf iM_allWeight iM_enoughWeight iM_worthSum iM_firstRest iM_leastDrawn), (arI rM_tape kM_tape 900 fM_tape)]) hP hD rfl
                    obtain ⟨x_4834, ex_4834⟩ : ∃ z : Int32, z = z_4822 + Int32.ofInt 1 := ⟨_, rfl⟩
                    have hG := hG.trans (lt_eq ex_4834)
                    have vx_4834 : x_4834.toInt = z_4822.toInt + 1 := by have q := ti_add (y := 1) ex_4834 rfl kc_1 (by omega) (by omega); omega
                    refine lv_iinc (v := x_4834) (lv' := [(1, .int x_4834), (2, .int x_4791), (0, .ref oM)]) hx hb dX7_next_111 hl (k := 1) rfl ex_4834.symm (by decide) rfl (fun ls hl => ?_)
                    refine lv_goto (tgt := 67) hx hb dX7_next_114 (by decide) ?_
                    exact ih_n_4825 x_4834 x_4833 f_4824 _ _ _ (by have q := vx_4833; omega) (by first | omega | decide | assumption) (by first | omega | decide | assumption) (by omega) hG (hP.sub [0, 1, 2] rfl) (hD.sub [0, 1, 2] (by decide) rfl) hS (lv_sub hl [1, 0, 2] rfl)
                  · skip
                    have hG := hG.trans (if_neg c_4832)
                    have gc_4832 := ti_nle c_4832 kc_8 rfl
                    refine lv_aload_n hx hb dX7_next_87 rfl (lv_at hl 2 rfl) ?_
                    refine va_get (D := (dC, dI)) (ci := 7) (v := .ref rM_letters) (C := RX7) (T := TX7) (N := 48) hx hb hts inX7 hown hK hP 1 rfl rfl 12 (by decide) (hts _ wd_154) (fun _ h9 => h9) rfl dX7_next_88 ?_
                    refine lv_aload_n hx hb dX7_next_91 rfl (lv_at hl 2 rfl) ?_
                    refine va_get (D := (dC, dI)) (ci := 7) (v := .int z_4823) (C := RX7) (T := TX7) (N := 48) hx hb hts inX7 hown hK hP 1 rfl rfl 8 (by decide) (hts _ wd_404) (fun _ h9 => h9) rfl dX7_next_92 ?_
                    refine lv_aload_n hx hb dX7_next_95 rfl (lv_at hl 2 rfl) ?_
                    refine lv_iload_n hx hb dX7_next_96 rfl (lv_at hl 1 rfl) ?_
                    have hFc := va_free (wc := [(oc7 oM iM_thrown rM_tape iM_taped iM_size z_4787 iM_end iM_token 0 z_4823 iM_fault iM_place iM_trouble rM_letters iM_failed iM_hasCourt rM_r rM_fresh rM_told rM_read rM_st rM_undone rM_kept iM_undos iM_images rM_fresher iM_fresherSize iM_scale iM_night rM_heardRow rM_cutRow iM_breaths iM_cutMany iM_allBreaths rM_trial rM_words iM_fewestBreaths iM_orderMany iM_orderSum iM_leastOrder rM_often iM_setMany iM_someOf iM_allOf iM_allWeight iM_enoughWeight iM_worthSum iM_firstRest iM_leastDrawn), (arI rM_tape kM_tape 900 fM_tape)]) hD hS hA [1, 2] rfl
                    refine va_calli (va_runV (As := [.int z_4822]) (rest := [.int z_4823, .ref rM_letters]) ⟨hx, hb, hml, hown, hts⟩ (tX7_see_p l dC dI _ oM iM_thrown rM_tape fM_tape kM_tape iM_taped iM_size z_4787 iM_end iM_token 0 z_4823 iM_fault iM_place iM_trouble rM_letters iM_failed iM_hasCourt rM_r rM_fresh rM_told rM_read rM_st rM_undone rM_kept iM_undos iM_images rM_fresher iM_fresherSize iM_scale iM_night rM_heardRow rM_cutRow iM_breaths iM_cutMany iM_allBreaths rM_trial rM_words iM_fewestBreaths iM_orderMany iM_orderSum iM_leastOrder rM_often iM_setMany iM_someOf iM_allOf iM_allWeight iM_enoughWeight iM_worthSum iM_firstRest iM_leastDrawn z_4822 (by first | omega | decide) (by first | omega | decide) (by first | omega | decide) (by first | exact b_z_4823 | omega | decide) (by first | omega | decide) (by first | omega | decide) (by first | omega | decide) (by first | omega | decide) (by first | omega | decide) (by first | omega | decide) (by first | omega | decide) (by first | omega | decide | assumption | (have q0 := kc_0; have q1 := kc_1; omega) | (intro h; exact absurd h (by decide)))) (cwV 1 hts (wd_V wd_406 wd_407 wd_408 wd_5 (wd_c wd_409)) rfl rfl rfl (by decide +kernel) ⟨Nat.le_of_ble_eq_true rfl, Nat.le_of_ble_eq_true rfl⟩) ⟨Pw.fb, va_recv hK hP (ci := 7) (q0 := 1) rfl rfl, fun U hU hW => Pw.to (hP.sub [1, 2] rfl) (hD.sub [1, 2] (by decide) rfl) (hK.sub [1] rfl) hE hS hFc hU hW⟩ rfl rfl hl.1 rfl (lv_room (Nat.le_of_ble_eq_true rfl)) dX7_next_97 ⟨Nat.le_of_ble_eq_true rfl, Nat.le_of_ble_eq_true rfl⟩) hS (fun q _ h => hFc q h) hFc (fun r u t H locs ht hvm hw hB hz1 hk1 hS => ?_)
                    have hru9 := hw.2
                    have hw := hw.1
                    obtain ⟨hP, hD, hK⟩ := Bw.go (ws' := [(arI rM_letters kM_letters 8 f_4824), (oc7 oM iM_thrown rM_tape iM_taped iM_size z_4787 iM_end iM_token 0 z_4823 iM_fault iM_place iM_trouble rM_letters iM_failed iM_hasCourt rM_r rM_fresh rM_told rM_read rM_st rM_undone rM_kept iM_undos iM_images rM_fresher iM_fresherSize iM_scale iM_night rM_heardRow rM_cutRow iM_breaths iM_cutMany iM_allBreaths rM_trial rM_words iM_fewestBreaths iM_orderMany iM_orderSum iM_leastOrder rM_often iM_setMany iM_someOf iM_allOf iM_allWeight iM_enoughWeight iM_worthSum iM_firstRest iM_leastDrawn), (arI rM_tape kM_tape 900 fM_tape)]) (tys' := [(kM_letters, .int), (kM_tape, .int)]) hB rfl ht hvm hP hD hK [1, 2] [0] rfl (by decide) (by decide) [0] hk1 hFc rfl rfl rfl
                    clear hz1 hk1 hvm ht hB
                    obtain ⟨x_4835, rfl⟩ : ∃ z, z = r := ⟨_, rfl⟩
                    have hG := hG.trans (lt_eq hru9.symm)
                    have lx_4835 := hw.2
                    refine va_iast hx hb hK hP hD hS 0 0 rfl rfl (ti_in rfl (by omega) (by omega)) dX7_next_100 (fun H locs hP hD hS => ?_)
                    obtain ⟨f_4837, ef_4837⟩ : ∃ g : Nat → Int32, g = upd f_4824 z_4823.toNatClampNeg x_4835 := ⟨_, rfl⟩
                    rw [← ef_4837] at hP hD
                    have hG := hG.trans (lt_eq ef_4837)
                    obtain ⟨hP, hD⟩ := wl2 (ws' := [(arI rM_letters kM_letters 8 f_4837), (oc7 oM iM_thrown rM_tape iM_taped iM_size z_4787 iM_end iM_token 0 z_4823 iM_fault iM_place iM_trouble rM_letters iM_failed iM_hasCourt rM_r rM_fresh rM_told rM_read rM_st rM_undone rM_kept iM_undos iM_images rM_fresher iM_fresherSize iM_scale iM_night rM_heardRow rM_cutRow iM_breaths iM_cutMany iM_allBreaths rM_trial rM_words iM_fewestBreaths iM_orderMany iM_orderSum iM_leastOrder rM_often iM_setMany iM_someOf iM_allOf iM_allWeight iM_enoughWeight iM_worthSum iM_firstRest iM_leastDrawn), (arI rM_tape kM_tape 900 fM_tape)]) hP hD rfl
                    refine lv_aload_n hx hb dX7_next_101 rfl (lv_at hl 2 rfl) ?_
                    refine lv_dup hx hb dX7_next_102 rfl ?_
                    refine va_get (D := (dC, dI)) (ci := 7) (v := .int z_4823) (C := RX7) (T := TX7) (N := 48) hx hb hts inX7 hown hK hP 1 rfl rfl 8 (by decide) (hts _ wd_404) (fun _ h9 => h9) rfl dX7_next_103 ?_
                    refine lv_iconst (v := 1) hx hb dX7_next_106 (by decide) ?_
                    refine lv_iadd hx hb dX7_next_107 ?_
                    refine lv_topi (fun x_4838 ex_4838 => ?_)
                    have hG := hG.trans (lt_eq ex_4838)
                    have vx_4838 : x_4838.toInt = z_4823.toInt + 1 := by have q := ti_add ex_4838 rfl kc_1 (by omega) (by omega); omega
                    refine va_put (D := (dC, dI)) (ci := 7) (v := .int x_4838) (ty := .int) (C := RX7) (T := TX7) (N := 48) hx hb hts inX7 tyX7 tyX7_ok nmX7 hown hK hP hD hS 1 rfl rfl 8 (by decide) (hts _ wd_404) (fun _ h9 => h9) rfl (by decide +kernel) rfl rfl (Nat.le_of_ble_eq_true rfl) dX7_next_108 (fun H locs hP hD hS => ?_)
                    obtain ⟨hP, hD⟩ := wl2 (ws' := [(arI rM_letters kM_letters 8 f_4837), (oc7 oM iM_thrown rM_tape iM_taped iM_size z_4787 iM_end iM_token 0 x_4838 iM_fault iM_place iM_trouble rM_letters iM_failed iM_hasCourt rM_r rM_fresh rM_told rM_read rM_st rM_undone rM_kept iM_undos iM_images rM_fresher iM_fresherSize iM_scale iM_night rM_heardRow rM_cutRow iM_breaths iM_cutMany iM_allBreaths rM_trial rM_words iM_fewestBreaths iM_orderMany iM_orderSum iM_leastOrder rM_often iM_setMany iM_someOf iM_allOf iM_allWeight iM_enoughWeight iM_worthSum iM_firstRest iM_leastDrawn), (arI rM_tape kM_tape 900 fM_tape)]) hP hD rfl
                    obtain ⟨x_4839, ex_4839⟩ : ∃ z : Int32, z = z_4822 + Int32.ofInt 1 := ⟨_, rfl⟩
                    have hG := hG.trans (lt_eq ex_4839)
                    have vx_4839 : x_4839.toInt = z_4822.toInt + 1 := by have q := ti_add (y := 1) ex_4839 rfl kc_1 (by omega) (by omega); omega
                    refine lv_iinc (v := x_4839) (lv' := [(1, .int x_4839), (2, .int x_4791), (0, .ref oM)]) hx hb dX7_next_111 hl (k := 1) rfl ex_4839.symm (by decide) rfl (fun ls hl => ?_)
                    refine lv_goto (tgt := 67) hx hb dX7_next_114 (by decide) ?_
                    exact ih_n_4825 x_4839 x_4838 f_4837 _ _ _ (by have q := vx_4838; omega) (by first | omega | decide | assumption) (by first | omega | decide | assumption) (by omega) hG (hP.sub [0, 1, 2] rfl) (hD.sub [0, 1, 2] (by decide) rfl) hS (lv_sub hl [1, 0, 2] rfl)
            exact key_n_4825 (((900 - z_4787.toInt).toNat) + 1) z_4787 0 fM_letters _ _ _ (by decide) (by first | omega | decide | assumption | (have q0 := kc_0; have q1 := kc_1; omega)) (by first | omega | decide | assumption | (have q0 := kc_0; have q1 := kc_1; omega)) (by omega) hG hP hD hS hl
        · skip
          have hG := hG.trans (if_pos c_4792)
          have gc_4792 := ti_eq c_4792 rfl kc_m1
          refine lv_aload_n hx hb dX7_next_47 rfl (lv_at hl 2 rfl) ?_
          refine lv_iconst (v := 0) hx hb dX7_next_48 (by decide) ?_
          refine va_put (D := (dC, dI)) (ci := 7) (v := .int 0) (ty := .int) (C := RX7) (T := TX7) (N := 48) hx hb hts inX7 tyX7 tyX7_ok nmX7 hown hK hP hD hS 1 rfl rfl 6 (by decide) (hts _ wd_383) (fun _ h9 => h9) rfl (by decide +kernel) rfl rfl (Nat.le_of_ble_eq_true rfl) dX7_next_49 (fun H locs hP hD hS => ?_)
          obtain ⟨hP, hD⟩ := wl2 (ws' := [(arI rM_letters kM_letters 8 fM_letters), (oc7 oM iM_thrown rM_tape iM_taped iM_size z_4787 iM_end 0 0 0 iM_fault iM_place iM_trouble rM_letters iM_failed iM_hasCourt rM_r rM_fresh rM_told rM_read rM_st rM_undone rM_kept iM_undos iM_images rM_fresher iM_fresherSize iM_scale iM_night rM_heardRow rM_cutRow iM_breaths iM_cutMany iM_allBreaths rM_trial rM_words iM_fewestBreaths iM_orderMany iM_orderSum iM_leastOrder rM_often iM_setMany iM_someOf iM_allOf iM_allWeight iM_enoughWeight iM_worthSum iM_firstRest iM_leastDrawn), (arI rM_tape kM_tape 900 fM_tape)]) hP hD rfl
          refine lv_aload_n hx hb dX7_next_52 rfl (lv_at hl 2 rfl) ?_
          refine lv_iload_n hx hb dX7_next_53 rfl (lv_at hl 1 rfl) ?_
          refine va_put (D := (dC, dI)) (ci := 7) (v := .int z_4787) (ty := .int) (C := RX7) (T := TX7) (N := 48) hx hb hts inX7 tyX7 tyX7_ok nmX7 hown hK hP hD hS 1 rfl rfl 5 (by decide) (hts _ wd_382) (fun _ h9 => h9) rfl (by decide +kernel) rfl rfl (Nat.le_of_ble_eq_true rfl) dX7_next_54 (fun H locs hP hD hS => ?_)
          obtain ⟨hP, hD⟩ := wl2 (ws' := [(arI rM_letters kM_letters 8 fM_letters), (oc7 oM iM_thrown rM_tape iM_taped iM_size z_4787 z_4787 0 0 0 iM_fault iM_place iM_trouble rM_letters iM_failed iM_hasCourt rM_r rM_fresh rM_told rM_read rM_st rM_undone rM_kept iM_undos iM_images rM_fresher iM_fresherSize iM_scale iM_night rM_heardRow rM_cutRow iM_breaths iM_cutMany iM_allBreaths rM_trial rM_words iM_fewestBreaths iM_orderMany iM_orderSum iM_leastOrder rM_often iM_setMany iM_someOf iM_allOf iM_allWeight iM_enoughWeight iM_worthSum iM_firstRest iM_leastDrawn), (arI rM_tape kM_tape 900 fM_tape)]) hP hD rfl
          refine lv_goto (tgt := 247) hx hb dX7_next_57 (by decide) ?_
          exact W.vret hx hb hr (fun t ht hW => ⟨⟨0, rfl, trivial, ⟨z_4787, z_4787, 0, 0, 0, fM_letters, (by omega), (by decide), (by have q0 := kc_0; have q1 := kc_1; have q2 := kc_2; have q3 := kc_3; omega), (fun h9 => by have q0 := kc_0; have q1 := kc_1; have q2 := kc_2; have q3 := kc_3; omega), (fun h9 => by have q0 := kc_0; have q1 := kc_1; have q2 := kc_2; have q3 := kc_3; omega), hG, Bw.to (hP.sub [1, 2, 0] rfl) (hD.sub [1, 2, 0] (by decide) rfl) (hK.sub [1, 0] rfl) ht hW⟩⟩, hS.F ht⟩) hS.2.2 dX7_next_247
      · skip
        have hG := hG.trans (if_pos c_4790)
        have gc_4790 := ti_eq c_4790 rfl kc_32
        have h_4840 := lx_4789 (by omega)
        clear lx_4789
        obtain ⟨x_4841, ex_4841⟩ : ∃ z : Int32, z = z_4787 + Int32.ofInt 1 := ⟨_, rfl⟩
        have hG := hG.trans (lt_eq ex_4841)
        have vx_4841 : x_4841.toInt = z_4787.toInt + 1 := by have q := ti_add (y := 1) ex_4841 rfl kc_1 (by omega) (by omega); omega
        refine lv_iinc (v := x_4841) (lv' := [(1, .int x_4841), (0, .ref oM)]) hx hb dX7_next_15 hl (k := 0) rfl ex_4841.symm (by decide) rfl (fun ls hl => ?_)
        refine lv_goto (tgt := 5) hx hb dX7_next_18 (by decide) ?_
        exact ih_n_4788 x_4841 _ _ _  (by first | omega | decide | assumption) (by omega) hG (hP.sub [1, 2, 0] rfl) (hD.sub [1, 2, 0] (by decide) rfl) hS (lv_sub hl [0, 1] rfl)
  exact key_n_4788 (((900 - iM_end.toInt).toNat) + 1) iM_end _ _ _  (by first | omega | decide | assumption | (have q0 := kc_0; have q1 := kc_1; omega)) (by omega) hG hP hD hS hl
set_option maxHeartbeats 4000000 in
set_option maxRecDepth 100000 in
theorem tX7_wrong (l : Launch) (dC : Nat → ClassId) (dI : Nat → Nat → Nat) (sz : Nat) (oM : Nat) (iM_thrown : Int32) (rM_tape : Nat) (iM_taped : Int32) (iM_size : Int32) (iM_at : Int32) (iM_end : Int32) (iM_token : Int32) (iM_whole : Int32) (iM_nameSize : Int32) (iM_fault : Int32) (iM_place : Int32) (iM_trouble : Int32) (rM_letters : Nat) (iM_failed : Int32) (iM_hasCourt : Int32) (rM_r : Nat) (rM_fresh : Nat) (rM_told : Nat) (rM_read : Nat) (rM_st : Nat) (rM_undone : Nat) (rM_kept : Nat) (iM_undos : Int32) (iM_images : Int32) (rM_fresher : Nat) (iM_fresherSize : Int32) (iM_scale : Int32) (iM_night : Int32) (rM_heardRow : Nat) (rM_cutRow : Nat) (iM_breaths : Int32) (iM_cutMany : Int32) (iM_allBreaths : Int32) (rM_trial : Nat) (rM_words : Nat) (iM_fewestBreaths : Int32) (iM_orderMany : Int32) (iM_orderSum : Int32) (iM_leastOrder : Int32) (rM_often : Nat) (iM_setMany : Int32) (iM_someOf : Int32) (iM_allOf : Int32) (iM_allWeight : Int64) (iM_enoughWeight : Int64) (iM_worthSum : Int64) (iM_firstRest : Int32) (iM_leastDrawn : Int32) (p0 : Int32) (p1 : Int32) (b_iM_taped : 0 ≤ iM_taped.toInt ∧ iM_taped.toInt ≤ 900) (b_iM_size : 0 ≤ iM_size.toInt ∧ iM_size.toInt ≤ 900) (b_iM_end : 0 ≤ iM_end.toInt ∧ iM_end.toInt ≤ 900) (b_iM_nameSize : 0 ≤ iM_nameSize.toInt ∧ iM_nameSize.toInt ≤ 900) (b_iM_failed : 0 ≤ iM_failed.toInt ∧ iM_failed.toInt ≤ 1) (b_iM_hasCourt : 0 ≤ iM_hasCourt.toInt ∧ iM_hasCourt.toInt ≤ 1) (b_iM_undos : 0 ≤ iM_undos.toInt ∧ iM_undos.toInt ≤ 16) (b_iM_images : 0 ≤ iM_images.toInt ∧ iM_images.toInt ≤ 3) (b_iM_scale : 1 ≤ iM_scale.toInt ∧ iM_scale.toInt ≤ 1296) (b_iM_breaths : 0 ≤ iM_breaths.toInt ∧ iM_breaths.toInt ≤ 399) (b_iM_cutMany : 0 ≤ iM_cutMany.toInt ∧ iM_cutMany.toInt ≤ 399) (r_T : ImpP (iM_token.toInt = 2) (iM_nameSize.toInt ≤ 8))  : Met l yX7_wrong (Cond.code yX7_wrong cX7_wrong 3 none :: wG) ({ frames := 0, cells := 0, slots := 0, locals := 0 }) (va_Pc [.ref oM, .int p0, .int p1] (Pw dC dI sz [(oc7 oM iM_thrown rM_tape iM_taped iM_size iM_at iM_end iM_token iM_whole iM_nameSize iM_fault iM_place iM_trouble rM_letters iM_failed iM_hasCourt rM_r rM_fresh rM_told rM_read rM_st rM_undone rM_kept iM_undos iM_images rM_fresher iM_fresherSize iM_scale iM_night rM_heardRow rM_cutRow iM_breaths iM_cutMany iM_allBreaths rM_trial rM_words iM_fewestBreaths iM_orderMany iM_orderSum iM_leastOrder rM_often iM_setMany iM_someOf iM_allOf iM_allWeight iM_enoughWeight iM_worthSum iM_firstRest iM_leastDrawn)] [])) (va_Qv (fun (_ : Nat) => True) (fun (_ : Nat) (t : State) => ∃ (niM_fault : Int32) (niM_place : Int32) (niM_failed : Int32), (0 ≤ niM_failed.toInt ∧ niM_failed.toInt ≤ 1) ∧ (niM_failed.toInt = 1) ∧ (PX7_wrong iM_fault iM_place iM_failed p0 p1 = (niM_fault, niM_place, niM_failed)) ∧ Bw dC dI (va_A [(oc7 oM iM_thrown rM_tape iM_taped iM_size iM_at iM_end iM_token iM_whole iM_nameSize iM_fault iM_place iM_trouble rM_letters iM_failed iM_hasCourt rM_r rM_fresh rM_told rM_read rM_st rM_undone rM_kept iM_undos iM_images rM_fresher iM_fresherSize iM_scale iM_night rM_heardRow rM_cutRow iM_breaths iM_cutMany iM_allBreaths rM_trial rM_words iM_fewestBreaths iM_orderMany iM_orderSum iM_leastOrder rM_often iM_setMany iM_someOf iM_allOf iM_allWeight iM_enoughWeight iM_worthSum iM_firstRest iM_leastDrawn)] sz) [(oc7 oM iM_thrown rM_tape iM_taped iM_size iM_at iM_end iM_token iM_whole iM_nameSize niM_fault niM_place iM_trouble rM_letters niM_failed iM_hasCourt rM_r rM_fresh rM_told rM_read rM_st rM_undone rM_kept iM_undos iM_images rM_fresher iM_fresherSize iM_scale iM_night rM_heardRow rM_cutRow iM_breaths iM_cutMany iM_allBreaths rM_trial rM_words iM_fewestBreaths iM_orderMany iM_orderSum iM_leastOrder rM_often iM_setMany iM_someOf iM_allOf iM_allWeight iM_enoughWeight iM_worthSum iM_firstRest iM_leastDrawn)] [] t) (va_A [(oc7 oM iM_thrown rM_tape iM_taped iM_size iM_at iM_end iM_token iM_whole iM_nameSize iM_fault iM_place iM_trouble rM_letters iM_failed iM_hasCourt rM_r rM_fresh rM_told rM_read rM_st rM_undone rM_kept iM_undos iM_images rM_fresher iM_fresherSize iM_scale iM_night rM_heardRow rM_cutRow iM_breaths iM_cutMany iM_allBreaths rM_trial rM_words iM_fewestBreaths iM_orderMany iM_orderSum iM_leastOrder rM_often iM_setMany iM_someOf iM_allOf iM_allWeight iM_enoughWeight iM_worthSum iM_firstRest iM_leastDrawn)] sz)) 0 0 (va_A [(oc7 oM iM_thrown rM_tape iM_taped iM_size iM_at iM_end iM_token iM_whole iM_nameSize iM_fault iM_place iM_trouble rM_letters iM_failed iM_hasCourt rM_r rM_fresh rM_told rM_read rM_st rM_undone rM_kept iM_undos iM_images rM_fresher iM_fresherSize iM_scale iM_night rM_heardRow rM_cutRow iM_breaths iM_cutMany iM_allBreaths rM_trial rM_words iM_fewestBreaths iM_orderMany iM_orderSum iM_leastOrder rM_often iM_setMany iM_someOf iM_allOf iM_allWeight iM_enoughWeight iM_worthSum iM_firstRest iM_leastDrawn)] sz) := by
  refine Met.ofW (cc := cX7_wrong) (maxL := 3) (ret := none) (by decide) rfl ?_
  intro p e s m args below meth c s₁ B hml hv
  obtain ⟨rfl, hsz, hP, hK, hD0, hE⟩ := hv
  have hx := B.exec
  have hb := B.bytes
  have hr := B.returns
  have hts : ∀ w ∈ wG, w.before ([.ref oM, .int p0, .int p1] : List Value).toArray s = true := fun w h => atoms_spec (ws := Cond.code yX7_wrong cX7_wrong 3 none :: wG) B.pre w (List.mem_cons_of_mem _ h)
  have hown : s.vm.findClass RX7 = some m.cls := findClass_of_methodNamed B.named
  have hlocks := B.notSynchronized
  subst hsz
  have hD := hD0.self (sz := s.heap.size)
  generalize hAe : va_A [(oc7 oM iM_thrown rM_tape iM_taped iM_size iM_at iM_end iM_token iM_whole iM_nameSize iM_fault iM_place iM_trouble rM_letters iM_failed iM_hasCourt rM_r rM_fresh rM_told rM_read rM_st rM_undone rM_kept iM_undos iM_images rM_fresher iM_fresherSize iM_scale iM_night rM_heardRow rM_cutRow iM_breaths iM_cutMany iM_allBreaths rM_trial rM_words iM_fewestBreaths iM_orderMany iM_orderSum iM_leastOrder rM_often iM_setMany iM_someOf iM_allOf iM_allWeight iM_enoughWeight iM_worthSum iM_firstRest iM_leastDrawn)] s.heap.size = A at hD hE ⊢
  have hA : ∀ q : Nat, s.heap.size ≤ q → A q := fun q h => by rw [← hAe]; exact Or.inr h
  have hS : va_S A s.heap s.heap [] := va_S.rf
  have hl := lv_entry ([.ref oM, .int p0, .int p1]) (n := 3) (Nat.le_of_ble_eq_true rfl)
  rw [lg_entry_eq]
  generalize (lg_sl ([.ref oM, .int p0, .int p1]) ++ List.replicate (3 - (lg_sl ([.ref oM, .int p0, .int p1])).length) Slot.unset).toArray = ls at hl ⊢
  have hl : lv_has ls 3 [(0, .ref oM), (1, .int p0), (2, .int p1)] := hl
  have hG := PX7_wrong_eq iM_fault iM_place iM_failed p0 p1
  refine lv_aload_n hx hb dX7_wrong_0 rfl (lv_at hl 0 rfl) ?_
  refine va_get (D := (dC, dI)) (ci := 7) (v := .int iM_failed) (C := RX7) (T := TX7) (N := 48) hx hb hts inX7 hown hK hP 0 rfl rfl 13 (by decide) (hts _ wd_380) (fun _ h9 => h9) rfl dX7_wrong_1 ?_
  refine lv_if_eq (tgt := 8) hx hb dX7_wrong_4 (by decide) (fun c_4843 => ?_) (fun c_4843 => ?_)
  · skip
    have hG := hG.trans (if_pos c_4843)
    have gc_4843 := ti_eq c_4843 rfl kc_0
    refine lv_aload_n hx hb dX7_wrong_8 rfl (lv_at hl 0 rfl) ?_
    refine lv_iconst (v := 1) hx hb dX7_wrong_9 (by decide) ?_
    refine va_put (D := (dC, dI)) (ci := 7) (v := .int 1) (ty := .boolean) (C := RX7) (T := TX7) (N := 48) hx hb hts inX7 tyX7 tyX7_ok nmX7 hown hK hP hD hS 0 rfl rfl 13 (by decide) (hts _ wd_380) (fun _ h9 => h9) rfl (by decide +kernel) rfl rfl (Nat.le_of_ble_eq_true rfl) dX7_wrong_10 (fun H locs hP hD hS => ?_)
    obtain ⟨hP, hD⟩ := wl2 (ws' := [(oc7 oM iM_thrown rM_tape iM_taped iM_size iM_at iM_end iM_token iM_whole iM_nameSize iM_fault iM_place iM_trouble rM_letters 1 iM_hasCourt rM_r rM_fresh rM_told rM_read rM_st rM_undone rM_kept iM_undos iM_images rM_fresher iM_fresherSize iM_scale iM_night rM_heardRow rM_cutRow iM_breaths iM_cutMany iM_allBreaths rM_trial rM_words iM_fewestBreaths iM_orderMany iM_orderSum iM_leastOrder rM_often iM_setMany iM_someOf iM_allOf iM_allWeight iM_enoughWeight iM_worthSum iM_firstRest iM_leastDrawn)]) hP hD rfl
    refine lv_aload_n hx hb dX7_wrong_13 rfl (lv_at hl 0 rfl) ?_
    refine lv_iload_n hx hb dX7_wrong_14 rfl (lv_at hl 1 rfl) ?_
    refine va_put (D := (dC, dI)) (ci := 7) (v := .int p0) (ty := .int) (C := RX7) (T := TX7) (N := 48) hx hb hts inX7 tyX7 tyX7_ok nmX7 hown hK hP hD hS 0 rfl rfl 9 (by decide) (hts _ wd_379) (fun _ h9 => h9) rfl (by decide +kernel) rfl rfl (Nat.le_of_ble_eq_true rfl) dX7_wrong_15 (fun H locs hP hD hS => ?_)
    obtain ⟨hP, hD⟩ := wl2 (ws' := [(oc7 oM iM_thrown rM_tape iM_taped iM_size iM_at iM_end iM_token iM_whole iM_nameSize p0 iM_place iM_trouble rM_letters 1 iM_hasCourt rM_r rM_fresh rM_told rM_read rM_st rM_undone rM_kept iM_undos iM_images rM_fresher iM_fresherSize iM_scale iM_night rM_heardRow rM_cutRow iM_breaths iM_cutMany iM_allBreaths rM_trial rM_words iM_fewestBreaths iM_orderMany iM_orderSum iM_leastOrder rM_often iM_setMany iM_someOf iM_allOf iM_allWeight iM_enoughWeight iM_worthSum iM_firstRest iM_leastDrawn)]) hP hD rfl
    refine lv_aload_n hx hb dX7_wrong_18 rfl (lv_at hl 0 rfl) ?_
    refine lv_iload_n hx hb dX7_wrong_19 rfl (lv_at hl 2 rfl) ?_
    refine va_put (D := (dC, dI)) (ci := 7) (v := .int p1) (ty := .int) (C := RX7) (T := TX7) (N := 48) hx hb hts inX7 tyX7 tyX7_ok nmX7 hown hK hP hD hS 0 rfl rfl 10 (by decide) (hts _ wd_153) (fun _ h9 => h9) rfl (by decide +kernel) rfl rfl (Nat.le_of_ble_eq_true rfl) dX7_wrong_20 (fun H locs hP hD hS => ?_)
    obtain ⟨hP, hD⟩ := wl2 (ws' := [(oc7 oM iM_thrown rM_tape iM_taped iM_size iM_at iM_end iM_token iM_whole iM_nameSize p0 p1 iM_trouble rM_letters 1 iM_hasCourt rM_r rM_fresh rM_told rM_read rM_st rM_undone rM_kept iM_undos iM_images rM_fresher iM_fresherSize iM_scale iM_night rM_heardRow rM_cutRow iM_breaths iM_cutMany iM_allBreaths rM_trial rM_words iM_fewestBreaths iM_orderMany iM_orderSum iM_leastOrder rM_often iM_setMany iM_someOf iM_allOf iM_allWeight iM_enoughWeight iM_worthSum iM_firstRest iM_leastDrawn)]) hP hD rfl
    exact W.vret hx hb hr (fun t ht hW => ⟨⟨0, rfl, trivial, ⟨p0, p1, 1, (by decide), (by first | omega | decide | assumption), hG, Bw.to (hP.sub [0] rfl) (hD.sub [0] (by decide) rfl) (hK.sub [] rfl) ht hW⟩⟩, hS.F ht⟩) hS.2.2 dX7_wrong_23
  · skip
    have hG := hG.trans (if_neg c_4843)
    have gc_4843 := ti_ne c_4843 rfl kc_0
    replace gc_4843 : (-1) * iM_failed.toInt + 1 ≤ 0 := by omega
    exact W.vret hx hb hr (fun t ht hW => ⟨⟨0, rfl, trivial, ⟨iM_fault, iM_place, iM_failed, (by omega), (by first | omega | decide | assumption), hG, Bw.to (hP.sub [0] rfl) (hD.sub [0] (by decide) rfl) (hK.sub [] rfl) ht hW⟩⟩, hS.F ht⟩) hS.2.2 dX7_wrong_7
set_option maxHeartbeats 4000000 in
set_option maxRecDepth 100000 in
theorem tX7_isWord (l : Launch) (dC : Nat → ClassId) (dI : Nat → Nat → Nat) (sz : Nat) (oM : Nat) (iM_thrown : Int32) (rM_tape : Nat) (iM_taped : Int32) (iM_size : Int32) (iM_at : Int32) (iM_end : Int32) (iM_token : Int32) (iM_whole : Int32) (iM_nameSize : Int32) (iM_fault : Int32) (iM_place : Int32) (iM_trouble : Int32) (rM_letters : Nat) (fM_letters : Nat → Int32) (kM_letters : ClassId) (iM_failed : Int32) (iM_hasCourt : Int32) (rM_r : Nat) (rM_fresh : Nat) (rM_told : Nat) (rM_read : Nat) (rM_st : Nat) (rM_undone : Nat) (rM_kept : Nat) (iM_undos : Int32) (iM_images : Int32) (rM_fresher : Nat) (iM_fresherSize : Int32) (iM_scale : Int32) (iM_night : Int32) (rM_heardRow : Nat) (rM_cutRow : Nat) (iM_breaths : Int32) (iM_cutMany : Int32) (iM_allBreaths : Int32) (rM_trial : Nat) (rM_words : Nat) (iM_fewestBreaths : Int32) (iM_orderMany : Int32) (iM_orderSum : Int32) (iM_leastOrder : Int32) (rM_often : Nat) (iM_setMany : Int32) (iM_someOf : Int32) (iM_allOf : Int32) (iM_allWeight : Int64) (iM_enoughWeight : Int64) (iM_worthSum : Int64) (iM_firstRest : Int32) (iM_leastDrawn : Int32) (sA : Nat) (sV : Nat) (sN : Nat) (sF : Nat → Int32) (b_iM_taped : 0 ≤ iM_taped.toInt ∧ iM_taped.toInt ≤ 900) (b_iM_size : 0 ≤ iM_size.toInt ∧ iM_size.toInt ≤ 900) (b_iM_end : 0 ≤ iM_end.toInt ∧ iM_end.toInt ≤ 900) (b_iM_nameSize : 0 ≤ iM_nameSize.toInt ∧ iM_nameSize.toInt ≤ 900) (b_iM_failed : 0 ≤ iM_failed.toInt ∧ iM_failed.toInt ≤ 1) (b_iM_hasCourt : 0 ≤ iM_hasCourt.toInt ∧ iM_hasCourt.toInt ≤ 1) (b_iM_undos : 0 ≤ iM_undos.toInt ∧ iM_undos.toInt ≤ 16) (b_iM_images : 0 ≤ iM_images.toInt ∧ iM_images.toInt ≤ 3) (b_iM_scale : 1 ≤ iM_scale.toInt ∧ iM_scale.toInt ≤ 1296) (b_iM_breaths : 0 ≤ iM_breaths.toInt ∧ iM_breaths.toInt ≤ 399) (b_iM_cutMany : 0 ≤ iM_cutMany.toInt ∧ iM_cutMany.toInt ≤ 399) (r_T : ImpP (iM_token.toInt = 2) (iM_nameSize.toInt ≤ 8)) (hsn : sN ≤ 8) : Met l yX7_isWord (Cond.code yX7_isWord cX7_isWord 4 (some .boolean) :: wG) ({ frames := 4, cells := 0, slots := 0, locals := 111 }) (va_Pc [.ref oM, .ref sA] (Pq dC dI sz [(oc7 oM iM_thrown rM_tape iM_taped iM_size iM_at iM_end iM_token iM_whole iM_nameSize iM_fault iM_place iM_trouble rM_letters iM_failed iM_hasCourt rM_r rM_fresh rM_told rM_read rM_st rM_undone rM_kept iM_undos iM_images rM_fresher iM_fresherSize iM_scale iM_night rM_heardRow rM_cutRow iM_breaths iM_cutMany iM_allBreaths rM_trial rM_words iM_fewestBreaths iM_orderMany iM_orderSum iM_leastOrder rM_often iM_setMany iM_someOf iM_allOf iM_allWeight iM_enoughWeight iM_worthSum iM_firstRest iM_leastDrawn), (arI rM_letters kM_letters 8 fM_letters)] [(kM_letters, .int)] sA sV sN sF)) (va_Qi (fun (r : Int32) (_ : Nat) => ((r = 0 ∨ r = 1) ∧ (r.toInt = 1 → iM_token.toInt = 2)) ∧ PX7_isWord iM_token iM_nameSize fM_letters iM_failed sN sF = r) (fun (_ : Nat) (t : State) => Bw dC dI (va_A [(oc7 oM iM_thrown rM_tape iM_taped iM_size iM_at iM_end iM_token iM_whole iM_nameSize iM_fault iM_place iM_trouble rM_letters iM_failed iM_hasCourt rM_r rM_fresh rM_told rM_read rM_st rM_undone rM_kept iM_undos iM_images rM_fresher iM_fresherSize iM_scale iM_night rM_heardRow rM_cutRow iM_breaths iM_cutMany iM_allBreaths rM_trial rM_words iM_fewestBreaths iM_orderMany iM_orderSum iM_leastOrder rM_often iM_setMany iM_someOf iM_allOf iM_allWeight iM_enoughWeight iM_worthSum iM_firstRest iM_leastDrawn), (arI rM_letters kM_letters 8 fM_letters)] sz) [(oc7 oM iM_thrown rM_tape iM_taped iM_size iM_at iM_end iM_token iM_whole iM_nameSize iM_fault iM_place iM_trouble rM_letters iM_failed iM_hasCourt rM_r rM_fresh rM_told rM_read rM_st rM_undone rM_kept iM_undos iM_images rM_fresher iM_fresherSize iM_scale iM_night rM_heardRow rM_cutRow iM_breaths iM_cutMany iM_allBreaths rM_trial rM_words iM_fewestBreaths iM_orderMany iM_orderSum iM_leastOrder rM_often iM_setMany iM_someOf iM_allOf iM_allWeight iM_enoughWeight iM_worthSum iM_firstRest iM_leastDrawn), (arI rM_letters kM_letters 8 fM_letters)] [(kM_letters, .int)] t) (va_A [(oc7 oM iM_thrown rM_tape iM_taped iM_size iM_at iM_end iM_token iM_whole iM_nameSize iM_fault iM_place iM_trouble rM_letters iM_failed iM_hasCourt rM_r rM_fresh rM_told rM_read rM_st rM_undone rM_kept iM_undos iM_images rM_fresher iM_fresherSize iM_scale iM_night rM_heardRow rM_cutRow iM_breaths iM_cutMany iM_allBreaths rM_trial rM_words iM_fewestBreaths iM_orderMany iM_orderSum iM_leastOrder rM_often iM_setMany iM_someOf iM_allOf iM_allWeight iM_enoughWeight iM_worthSum iM_firstRest iM_leastDrawn), (arI rM_letters kM_letters 8 fM_letters)] sz)) 0 0 (va_A [(oc7 oM iM_thrown rM_tape iM_taped iM_size iM_at iM_end iM_token iM_whole iM_nameSize iM_fault iM_place iM_trouble rM_letters iM_failed iM_hasCourt rM_r rM_fresh rM_told rM_read rM_st rM_undone rM_kept iM_undos iM_images rM_fresher iM_fresherSize iM_scale iM_night rM_heardRow rM_cutRow iM_breaths iM_cutMany iM_allBreaths rM_trial rM_words iM_fewestBreaths iM_orderMany iM_orderSum iM_leastOrder rM_often iM_setMany iM_someOf iM_allOf iM_allWeight iM_enoughWeight iM_worthSum iM_firstRest iM_leastDrawn), (arI rM_letters kM_letters 8 fM_letters)] sz) := by
  refine Met.ofW (cc := cX7_isWord) (maxL := 4) (ret := (some .boolean)) (by decide) rfl ?_
  intro p e s m args below meth c s₁ B hml hv
  obtain ⟨rfl, ⟨hsz, hP, hK, hD0, hE⟩, hSw⟩ := hv
  have hx := B.exec
  have hb := B.bytes
  have hr := B.returns
  have hts : ∀ w ∈ wG, w.before ([.ref oM, .ref sA] : List Value).toArray s = true := fun w h => atoms_spec (ws := Cond.code yX7_isWord cX7_isWord 4 (some .boolean) :: wG) B.pre w (List.mem_cons_of_mem _ h)
  have hown : s.vm.findClass RX7 = some m.cls := findClass_of_methodNamed B.named
  have hlocks := B.notSynchronized
  subst hsz
  have hD := hD0.self (sz := s.heap.size)
  generalize hAe : va_A [(oc7 oM iM_thrown rM_tape iM_taped iM_size iM_at iM_end iM_token iM_whole iM_nameSize iM_fault iM_place iM_trouble rM_letters iM_failed iM_hasCourt rM_r rM_fresh rM_told rM_read rM_st rM_undone rM_kept iM_undos iM_images rM_fresher iM_fresherSize iM_scale iM_night rM_heardRow rM_cutRow iM_breaths iM_cutMany iM_allBreaths rM_trial rM_words iM_fewestBreaths iM_orderMany iM_orderSum iM_leastOrder rM_often iM_setMany iM_someOf iM_allOf iM_allWeight iM_enoughWeight iM_worthSum iM_firstRest iM_leastDrawn), (arI rM_letters kM_letters 8 fM_letters)] s.heap.size = A at hD hE hSw ⊢
  have hA : ∀ q : Nat, s.heap.size ≤ q → A q := fun q h => by rw [← hAe]; exact Or.inr h
  have hS : va_S A s.heap s.heap [] := va_S.rf
  have hl := lv_entry ([.ref oM, .ref sA]) (n := 4) (Nat.le_of_ble_eq_true rfl)
  rw [lg_entry_eq]
  generalize (lg_sl ([.ref oM, .ref sA]) ++ List.replicate (4 - (lg_sl ([.ref oM, .ref sA])).length) Slot.unset).toArray = ls at hl ⊢
  have hl : lv_has ls 4 [(0, .ref oM), (1, .ref sA)] := hl
  have hG := PX7_isWord_eq iM_token iM_nameSize fM_letters iM_failed sN sF
  refine lv_aload_n hx hb dX7_isWord_0 rfl (lv_at hl 0 rfl) ?_
  refine va_get (D := (dC, dI)) (ci := 7) (v := .int iM_failed) (C := RX7) (T := TX7) (N := 48) hx hb hts inX7 hown hK hP 0 rfl rfl 13 (by decide) (hts _ wd_380) (fun _ h9 => h9) rfl dX7_isWord_1 ?_
  refine lv_if_ne (tgt := 26) hx hb dX7_isWord_4 (by decide) (fun c_4860 => ?_) (fun c_4860 => ?_)
  · skip
    have hG := hG.trans (if_neg c_4860)
    have gc_4860 := ti_ne c_4860 rfl kc_0
    replace gc_4860 : (-1) * iM_failed.toInt + 1 ≤ 0 := by omega
    refine lv_iconst (v := 0) hx hb dX7_isWord_26 (by decide) ?_
    exact W.zret (v := 0) hx hb hr rfl (fun t ht hW => ⟨⟨_, 0, rfl, ⟨⟨Or.inl rfl, (by have q := kc_0; first | omega | assumption)⟩, hG⟩, Bw.to (hP.sub [0, 1] rfl) (hD.sub [0, 1] (by decide) rfl) (hK.sub [0] rfl) ht hW⟩, hS.F ht⟩) hS.2.2 dX7_isWord_27
  · skip
    have hG := hG.trans (if_pos c_4860)
    have gc_4860 := ti_eq c_4860 rfl kc_0
    refine lv_aload_n hx hb dX7_isWord_7 rfl (lv_at hl 0 rfl) ?_
    refine va_get (D := (dC, dI)) (ci := 7) (v := .int iM_token) (C := RX7) (T := TX7) (N := 48) hx hb hts inX7 hown hK hP 0 rfl rfl 6 (by decide) (hts _ wd_383) (fun _ h9 => h9) rfl dX7_isWord_8 ?_
    refine lv_iconst (v := 2) hx hb dX7_isWord_11 (by decide) ?_
    refine lv_icmp_ne (tgt := 26) hx hb dX7_isWord_12 (by decide) (fun c_4861 => ?_) (fun c_4861 => ?_)
    · skip
      have hG := hG.trans (if_neg c_4861)
      have gc_4861 := ti_ne c_4861 rfl kc_2
      refine lv_iconst (v := 0) hx hb dX7_isWord_26 (by decide) ?_
      exact W.zret (v := 0) hx hb hr rfl (fun t ht hW => ⟨⟨_, 0, rfl, ⟨⟨Or.inl rfl, (by have q := kc_0; first | omega | assumption)⟩, hG⟩, Bw.to (hP.sub [0, 1] rfl) (hD.sub [0, 1] (by decide) rfl) (hK.sub [0] rfl) ht hW⟩, hS.F ht⟩) hS.2.2 dX7_isWord_27
    · skip
      have hG := hG.trans (if_pos c_4861)
      have gc_4861 := ti_eq c_4861 rfl kc_2
      have h_4862 := r_T (by omega)
      clear r_T
      refine lv_aload_n hx hb dX7_isWord_15 rfl (lv_at hl 0 rfl) ?_
      refine va_get (D := (dC, dI)) (ci := 7) (v := .int iM_nameSize) (C := RX7) (T := TX7) (N := 48) hx hb hts inX7 hown hK hP 0 rfl rfl 8 (by decide) (hts _ wd_404) (fun _ h9 => h9) rfl dX7_isWord_16 ?_
      refine lv_aload_n hx hb dX7_isWord_19 rfl (lv_at hl 1 rfl) ?_
      have hFc : ∀ q, va_A [] _ q → A q := fun q h => hA q (Nat.le_trans hS.1 (va_nilA h))
      refine va_calli (va_runV (As := []) (rest := [.int iM_nameSize]) ⟨hx, hb, hml, hown, hts⟩ (c_length l dC dI _ sA sV sN sF) (cwV 0 hts (wd_V wd_424 wd_72 wd_73 wd_74 (wd_c wd_75)) rfl rfl rfl (by decide +kernel) ⟨Nat.le_of_ble_eq_true rfl, Nat.le_of_ble_eq_true rfl⟩) ⟨Ps.fb, va_Orecv hSw.1 hS, fun U hU hW => Ps.to hK hSw hE hS hA hU hW⟩ rfl rfl hl.1 rfl (lv_room (Nat.le_of_ble_eq_true rfl)) dX7_isWord_20 ⟨Nat.le_of_ble_eq_true rfl, Nat.le_of_ble_eq_true rfl⟩) hS (fun q _ h => hFc q h) hFc (fun r u t H locs ht hvm hw hB hz1 hk1 hS => ?_)
      obtain ⟨hP, hD, hK⟩ := Bw.same ht hvm hP hD hK hk1 hFc
      clear hz1 hk1 hvm ht hB
      obtain ⟨x_4863, rfl⟩ : ∃ z, z = r := ⟨_, rfl⟩
      have hG := hG.trans (lt_eq hw)
      have vx_4863 : x_4863.toInt = (sN : Int) := by rw [hw]; exact nI_toInt (by omega)
      refine lv_icmp_eq (tgt := 28) hx hb dX7_isWord_23 (by decide) (fun c_4864 => ?_) (fun c_4864 => ?_)
      · skip
        have hG := hG.trans (if_pos c_4864)
        have gc_4864 := ti_eq c_4864 rfl vx_4863
        refine lv_iconst (v := 1) hx hb dX7_isWord_28 (by decide) ?_
        refine lv_istore_n (lv' := [(2, .int 1), (0, .ref oM), (1, .ref sA)]) hx hb dX7_isWord_29 rfl hl (by decide) rfl (fun ls hl => ?_)
        refine lv_iconst (v := 0) hx hb dX7_isWord_30 (by decide) ?_
        refine lv_istore_n (lv' := [(3, .int 0), (2, .int 1), (0, .ref oM), (1, .ref sA)]) hx hb dX7_isWord_31 rfl hl (by decide) rfl (fun ls hl => ?_)
        have hl := lv_sub hl (l' := [(3, .int 0), (2, .int 1), (0, .ref oM), (1, .ref sA)]) [0, 1, 2, 3] rfl
        have key_n_4867 : ∀ (n_4867 : Nat) (z_4865 : Int32) (z_4866 : Int32) (H : Heap) (locs : List Loc) (ls : Array Slot), (0 ≤ z_4865.toInt ∧ z_4865.toInt ≤ iM_nameSize.toInt) → (0 ≤ z_4866.toInt ∧ z_4866.toInt ≤ 1) → (iM_nameSize.toInt - z_4865.toInt).toNat < n_4867 → (PX7_isWord iM_token iM_nameSize fM_letters iM_failed sN sF = HX7_isWord_0 iM_nameSize fM_letters sF n_4867 z_4865 z_4866) → va_P (dC, dI) vwCl [(oc7 oM iM_thrown rM_tape iM_taped iM_size iM_at iM_end iM_token iM_whole iM_nameSize iM_fault iM_place iM_trouble rM_letters iM_failed iM_hasCourt rM_r rM_fresh rM_told rM_read rM_st rM_undone rM_kept iM_undos iM_images rM_fresher iM_fresherSize iM_scale iM_night rM_heardRow rM_cutRow iM_breaths iM_cutMany iM_allBreaths rM_trial rM_words iM_fewestBreaths iM_orderMany iM_orderSum iM_leastOrder rM_often iM_setMany iM_someOf iM_allOf iM_allWeight iM_enoughWeight iM_worthSum iM_firstRest iM_leastDrawn), (arI rM_letters kM_letters 8 fM_letters)] H → va_D A [(oc7 oM iM_thrown rM_tape iM_taped iM_size iM_at iM_end iM_token iM_whole iM_nameSize iM_fault iM_place iM_trouble rM_letters iM_failed iM_hasCourt rM_r rM_fresh rM_told rM_read rM_st rM_undone rM_kept iM_undos iM_images rM_fresher iM_fresherSize iM_scale iM_night rM_heardRow rM_cutRow iM_breaths iM_cutMany iM_allBreaths rM_trial rM_words iM_fewestBreaths iM_orderMany iM_orderSum iM_leastOrder rM_often iM_setMany iM_someOf iM_allOf iM_allWeight iM_enoughWeight iM_worthSum iM_firstRest iM_leastDrawn), (arI rM_letters kM_letters 8 fM_letters)] → va_S A s.heap H locs → lv_has ls 4 [(3, .int z_4865), (2, .int z_4866), (0, .ref oM), (1, .ref sA)] → W p l e (headSpec (Cond.code yX7_isWord cX7_isWord 4 (some .boolean) :: wG) ({ frames := 4, cells := 0, slots := 0, locals := 111 })).room s m ([.ref oM, .ref sA] : List Value).toArray below meth c H locs 0 0 (MQ below (va_Qi (fun (r : Int32) (_ : Nat) => ((r = 0 ∨ r = 1) ∧ (r.toInt = 1 → iM_token.toInt = 2)) ∧ PX7_isWord iM_token iM_nameSize fM_letters iM_failed sN sF = r) (fun (_ : Nat) (t : State) => Bw dC dI A [(oc7 oM iM_thrown rM_tape iM_taped iM_size iM_at iM_end iM_token iM_whole iM_nameSize iM_fault iM_place iM_trouble rM_letters iM_failed iM_hasCourt rM_r rM_fresh rM_told rM_read rM_st rM_undone rM_kept iM_undos iM_images rM_fresher iM_fresherSize iM_scale iM_night rM_heardRow rM_cutRow iM_breaths iM_cutMany iM_allBreaths rM_trial rM_words iM_fewestBreaths iM_orderMany iM_orderSum iM_leastOrder rM_often iM_setMany iM_someOf iM_allOf iM_allWeight iM_enoughWeight iM_worthSum iM_firstRest iM_leastDrawn), (arI rM_letters kM_letters 8 fM_letters)] [(kM_letters, .int)] t) A) ([.ref oM, .ref sA] : List Value).toArray s 0 0 A) (F0 m 32 ls []) := by
          intro n_4867
          induction n_4867 with
          | zero => intro z_4865 z_4866 H locs ls hi0_n_4867 hi1_n_4867 hm; exact absurd hm (by omega)
          | succ n_4867 ih_n_4867 =>
            intro z_4865 z_4866 H locs ls hi0_n_4867 hi1_n_4867 hm hG hP hD hS hl
            have hG := hG.trans (HX7_isWord_0_eq _ _ _ _ _ _)
            refine lv_iload_n hx hb dX7_isWord_32 rfl (lv_at hl 0 rfl) ?_
            refine lv_aload_n hx hb dX7_isWord_33 rfl (lv_at hl 2 rfl) ?_
            refine va_get (D := (dC, dI)) (ci := 7) (v := .int iM_nameSize) (C := RX7) (T := TX7) (N := 48) hx hb hts inX7 hown hK hP 0 rfl rfl 8 (by decide) (hts _ wd_404) (fun _ h9 => h9) rfl dX7_isWord_34 ?_
            refine lv_icmp_ge (tgt := 70) hx hb dX7_isWord_37 (by decide) (fun c_4868 => ?_) (fun c_4868 => ?_)
            · skip
              have hG := hG.trans (if_pos c_4868)
              have gc_4868 := ti_le c_4868 rfl rfl
              refine lv_iload_n hx hb dX7_isWord_70 rfl (lv_at hl 1 rfl) ?_
              exact W.zret (v := z_4866) hx hb hr (bz_nar (bz_of (by omega))) (fun t ht hW => ⟨⟨_, 0, rfl, ⟨⟨(bz_of (by omega)), (by first | omega | assumption)⟩, hG⟩, Bw.to (hP.sub [0, 1] rfl) (hD.sub [0, 1] (by decide) rfl) (hK.sub [0] rfl) ht hW⟩, hS.F ht⟩) hS.2.2 dX7_isWord_71
            · skip
              have hG := hG.trans (if_neg c_4868)
              have gc_4868 := ti_nle c_4868 rfl rfl
              refine lv_iload_n hx hb dX7_isWord_40 rfl (lv_at hl 1 rfl) ?_
              refine lv_if_eq (tgt := 62) hx hb dX7_isWord_41 (by decide) (fun c_4869 => ?_) (fun c_4869 => ?_)
              · skip
                have hG := hG.trans (if_pos c_4869)
                have gc_4869 := ti_eq c_4869 rfl kc_0
                refine lv_iconst (v := 0) hx hb dX7_isWord_62 (by decide) ?_
                refine lv_istore_n (lv' := [(2, .int 0), (3, .int z_4865), (0, .ref oM), (1, .ref sA)]) hx hb dX7_isWord_63 rfl hl (by decide) rfl (fun ls hl => ?_)
                obtain ⟨x_4870, ex_4870⟩ : ∃ z : Int32, z = z_4865 + Int32.ofInt 1 := ⟨_, rfl⟩
                have hG := hG.trans (lt_eq ex_4870)
                have vx_4870 : x_4870.toInt = z_4865.toInt + 1 := by have q := ti_add (y := 1) ex_4870 rfl kc_1 (by omega) (by omega); omega
                refine lv_iinc (v := x_4870) (lv' := [(3, .int x_4870), (2, .int 0), (0, .ref oM), (1, .ref sA)]) hx hb dX7_isWord_64 hl (k := 1) rfl ex_4870.symm (by decide) rfl (fun ls hl => ?_)
                refine lv_goto (tgt := 32) hx hb dX7_isWord_67 (by decide) ?_
                exact ih_n_4867 x_4870 0 _ _ _  (by first | omega | decide | assumption) (by first | omega | decide | assumption) (by omega) hG (hP.sub [0, 1] rfl) (hD.sub [0, 1] (by decide) rfl) hS (lv_sub hl [0, 1, 2, 3] rfl)
              · skip
                have hG := hG.trans (if_neg c_4869)
                have gc_4869 := ti_ne c_4869 rfl kc_0
                replace gc_4869 : (-1) * z_4866.toInt + 1 ≤ 0 := by omega
                refine lv_aload_n hx hb dX7_isWord_44 rfl (lv_at hl 2 rfl) ?_
                refine va_get (D := (dC, dI)) (ci := 7) (v := .ref rM_letters) (C := RX7) (T := TX7) (N := 48) hx hb hts inX7 hown hK hP 0 rfl rfl 12 (by decide) (hts _ wd_154) (fun _ h9 => h9) rfl dX7_isWord_45 ?_
                refine lv_iload_n hx hb dX7_isWord_48 rfl (lv_at hl 0 rfl) ?_
                refine va_iald hx hb hK hP 1 0 rfl rfl (ti_in rfl (by omega) (by omega)) dX7_isWord_49 ?_
                refine lv_topi (fun x_4871 ex_4871 => ?_)
                have hG := hG.trans (lt_eq ex_4871)
                have kx_4871 : (fM_letters z_4865.toNatClampNeg).toInt = x_4871.toInt := by rw [ex_4871]
                have cx_4871 := kx_4871
                refine lv_aload_n hx hb dX7_isWord_50 rfl (lv_at hl 3 rfl) ?_
                refine lv_iload_n hx hb dX7_isWord_51 rfl (lv_at hl 0 rfl) ?_
                have hFc : ∀ q, va_A [] _ q → A q := fun q h => hA q (Nat.le_trans hS.1 (va_nilA h))
                refine va_calli (va_runV (As := [.int z_4865]) (rest := [.int x_4871]) ⟨hx, hb, hml, hown, hts⟩ (c_charAt32 l dC dI _ sA sV sN sF z_4865 (by omega) (by omega) hsn) (cwV 1 hts (wd_V wd_425 wd_84 wd_85 wd_74 (wd_c wd_86)) rfl rfl rfl (by decide +kernel) ⟨Nat.le_of_ble_eq_true rfl, Nat.le_of_ble_eq_true rfl⟩) ⟨Ps.fb, va_Orecv hSw.1 hS, fun U hU hW => Ps.to hK hSw hE hS hA hU hW⟩ rfl rfl hl.1 rfl (lv_room (Nat.le_of_ble_eq_true rfl)) dX7_isWord_52 ⟨Nat.le_of_ble_eq_true rfl, Nat.le_of_ble_eq_true rfl⟩) hS (fun q _ h => hFc q h) hFc (fun r u t H locs ht hvm hw hB hz1 hk1 hS => ?_)
                obtain ⟨hP, hD, hK⟩ := Bw.same ht hvm hP hD hK hk1 hFc
                clear hz1 hk1 hvm ht hB
                obtain ⟨x_4872, rfl⟩ : ∃ z, z = r := ⟨_, rfl⟩
                have hG := hG.trans (lt_eq hw.2)
                refine lv_icmp_ne (tgt := 62) hx hb dX7_isWord_55 (by decide) (fun c_4873 => ?_) (fun c_4873 => ?_)
                · skip
                  have hG := hG.trans (if_neg c_4873)
                  have gc_4873 := ti_ne c_4873 rfl rfl
                  refine lv_iconst (v := 0) hx hb dX7_isWord_62 (by decide) ?_
                  refine lv_istore_n (lv' := [(2, .int 0), (3, .int z_4865), (0, .ref oM), (1, .ref sA)]) hx hb dX7_isWord_63 rfl hl (by decide) rfl (fun ls hl => ?_)
                  obtain ⟨x_4874, ex_4874⟩ : ∃ z : Int32, z = z_4865 + Int32.ofInt 1 := ⟨_, rfl⟩
                  have hG := hG.trans (lt_eq ex_4874)
                  have vx_4874 : x_4874.toInt = z_4865.toInt + 1 := by have q := ti_add (y := 1) ex_4874 rfl kc_1 (by omega) (by omega); omega
                  refine lv_iinc (v := x_4874) (lv' := [(3, .int x_4874), (2, .int 0), (0, .ref oM), (1, .ref sA)]) hx hb dX7_isWord_64 hl (k := 1) rfl ex_4874.symm (by decide) rfl (fun ls hl => ?_)
                  refine lv_goto (tgt := 32) hx hb dX7_isWord_67 (by decide) ?_
                  exact ih_n_4867 x_4874 0 _ _ _  (by first | omega | decide | assumption) (by first | omega | decide | assumption) (by omega) hG (hP.sub [0, 1] rfl) (hD.sub [0, 1] (by decide) rfl) hS (lv_sub hl [0, 1, 2, 3] rfl)
                · skip
                  have hG := hG.trans (if_pos c_4873)
                  have gc_4873 := ti_eq c_4873 rfl rfl
                  refine lv_iconst (v := 1) hx hb dX7_isWord_58 (by decide) ?_
                  refine lv_goto (tgt := 63) hx hb dX7_isWord_59 (by decide) ?_
                  refine lv_istore_n (lv' := [(2, .int 1), (3, .int z_4865), (0, .ref oM), (1, .ref sA)]) hx hb dX7_isWord_63 rfl hl (by decide) rfl (fun ls hl => ?_)
                  obtain ⟨x_4875, ex_4875⟩ : ∃ z : Int32, z = z_4865 + Int32.ofInt 1 := ⟨_, rfl⟩
                  have hG := hG.trans (lt_eq ex_4875)
                  have vx_4875 : x_4875.toInt = z_4865.toInt + 1 := by have q := ti_add (y := 1) ex_4875 rfl kc_1 (by omega) (by omega); omega
                  refine lv_iinc (v := x_4875) (lv' := [(3, .int x_4875), (2, .int 1), (0, .ref oM), (1, .ref sA)]) hx hb dX7_isWord_64 hl (k := 1) rfl ex_4875.symm (by decide) rfl (fun ls hl => ?_)
                  refine lv_goto (tgt := 32) hx hb dX7_isWord_67 (by decide) ?_
                  exact ih_n_4867 x_4875 1 _ _ _  (by first | omega | decide | assumption) (by first | omega | decide | assumption) (by omega) hG (hP.sub [0, 1] rfl) (hD.sub [0, 1] (by decide) rfl) hS (lv_sub hl [0, 1, 2, 3] rfl)
        exact key_n_4867 (((iM_nameSize.toInt - (0 : Int32).toInt).toNat) + 1) 0 1 _ _ _  (by first | omega | decide | assumption | (have q0 := kc_0; have q1 := kc_1; omega)) (by first | omega | decide | assumption | (have q0 := kc_0; have q1 := kc_1; omega)) (by omega) hG hP hD hS hl
      · skip
        have hG := hG.trans (if_neg c_4864)
        have gc_4864 := ti_ne c_4864 rfl vx_4863
        refine lv_iconst (v := 0) hx hb dX7_isWord_26 (by decide) ?_
        exact W.zret (v := 0) hx hb hr rfl (fun t ht hW => ⟨⟨_, 0, rfl, ⟨⟨Or.inl rfl, (by have q := kc_0; first | omega | assumption)⟩, hG⟩, Bw.to (hP.sub [0, 1] rfl) (hD.sub [0, 1] (by decide) rfl) (hK.sub [0] rfl) ht hW⟩, hS.F ht⟩) hS.2.2 dX7_isWord_27
set_option maxHeartbeats 4000000 in
set_option maxRecDepth 100000 in
theorem tX7_takesWord (l : Launch) (dC : Nat → ClassId) (dI : Nat → Nat → Nat) (sz : Nat) (oM : Nat) (iM_thrown : Int32) (rM_tape : Nat) (fM_tape : Nat → Int32) (kM_tape : ClassId) (iM_taped : Int32) (iM_size : Int32) (iM_at : Int32) (iM_end : Int32) (iM_token : Int32) (iM_whole : Int32) (iM_nameSize : Int32) (iM_fault : Int32) (iM_place : Int32) (iM_trouble : Int32) (rM_letters : Nat) (fM_letters : Nat → Int32) (kM_letters : ClassId) (iM_failed : Int32) (iM_hasCourt : Int32) (rM_r : Nat) (rM_fresh : Nat) (rM_told : Nat) (rM_read : Nat) (rM_st : Nat) (rM_undone : Nat) (rM_kept : Nat) (iM_undos : Int32) (iM_images : Int32) (rM_fresher : Nat) (iM_fresherSize : Int32) (iM_scale : Int32) (iM_night : Int32) (rM_heardRow : Nat) (rM_cutRow : Nat) (iM_breaths : Int32) (iM_cutMany : Int32) (iM_allBreaths : Int32) (rM_trial : Nat) (rM_words : Nat) (iM_fewestBreaths : Int32) (iM_orderMany : Int32) (iM_orderSum : Int32) (iM_leastOrder : Int32) (rM_often : Nat) (iM_setMany : Int32) (iM_someOf : Int32) (iM_allOf : Int32) (iM_allWeight : Int64) (iM_enoughWeight : Int64) (iM_worthSum : Int64) (iM_firstRest : Int32) (iM_leastDrawn : Int32) (sA : Nat) (sV : Nat) (sN : Nat) (sF : Nat → Int32) (b_iM_taped : 0 ≤ iM_taped.toInt ∧ iM_taped.toInt ≤ 900) (b_iM_size : 0 ≤ iM_size.toInt ∧ iM_size.toInt ≤ 900) (b_iM_end : 0 ≤ iM_end.toInt ∧ iM_end.toInt ≤ 900) (b_iM_nameSize : 0 ≤ iM_nameSize.toInt ∧ iM_nameSize.toInt ≤ 900) (b_iM_failed : 0 ≤ iM_failed.toInt ∧ iM_failed.toInt ≤ 1) (b_iM_hasCourt : 0 ≤ iM_hasCourt.toInt ∧ iM_hasCourt.toInt ≤ 1) (b_iM_undos : 0 ≤ iM_undos.toInt ∧ iM_undos.toInt ≤ 16) (b_iM_images : 0 ≤ iM_images.toInt ∧ iM_images.toInt ≤ 3) (b_iM_scale : 1 ≤ iM_scale.toInt ∧ iM_scale.toInt ≤ 1296) (b_iM_breaths : 0 ≤ iM_breaths.toInt ∧ iM_breaths.toInt ≤ 399) (b_iM_cutMany : 0 ≤ iM_cutMany.toInt ∧ iM_cutMany.toInt ≤ 399) (r_T : ImpP (iM_token.toInt = 2) (iM_nameSize.toInt ≤ 8)) (hsn : sN ≤ 8) : Met l yX7_takesWord (Cond.code yX7_takesWord cX7_takesWord 2 (some .boolean) :: wG) ({ frames := 5, cells := 0, slots := 0, locals := 134 }) (va_Pc [.ref oM, .ref sA] (Pq dC dI sz [(oc7 oM iM_thrown rM_tape iM_taped iM_size iM_at iM_end iM_token iM_whole iM_nameSize iM_fault iM_place iM_trouble rM_letters iM_failed iM_hasCourt rM_r rM_fresh rM_told rM_read rM_st rM_undone rM_kept iM_undos iM_images rM_fresher iM_fresherSize iM_scale iM_night rM_heardRow rM_cutRow iM_breaths iM_cutMany iM_allBreaths rM_trial rM_words iM_fewestBreaths iM_orderMany iM_orderSum iM_leastOrder rM_often iM_setMany iM_someOf iM_allOf iM_allWeight iM_enoughWeight iM_worthSum iM_firstRest iM_leastDrawn), (arI rM_tape kM_tape 900 fM_tape), (arI rM_letters kM_letters 8 fM_letters)] [(kM_tape, .int), (kM_letters, .int)] sA sV sN sF)) (va_Qi (fun (r : Int32) (u : Nat) => ((r = 0 ∨ r = 1) ∧ (r.toInt = (u : Int))) ∧ r = Int32.ofNat u) (fun (u : Nat) (t : State) => ∃ (niM_at : Int32) (niM_end : Int32) (niM_token : Int32) (niM_whole : Int32) (niM_nameSize : Int32) (nfM_letters : Nat → Int32), (0 ≤ niM_end.toInt ∧ niM_end.toInt ≤ 900) ∧ (0 ≤ niM_nameSize.toInt ∧ niM_nameSize.toInt ≤ 900) ∧ (iM_end.toInt ≤ niM_end.toInt) ∧ (ImpP (niM_token.toInt = 2) (niM_nameSize.toInt ≤ 8)) ∧ (ImpP ((u : Int) = 1 ∧ niM_token.toInt = 59 ) (iM_end.toInt + 1 ≤ niM_end.toInt)) ∧ (PX7_takesWord fM_tape iM_size iM_at iM_end iM_token iM_whole iM_nameSize fM_letters iM_failed sN sF = (Int32.ofNat u, niM_at, niM_end, niM_token, niM_whole, niM_nameSize, nfM_letters)) ∧ Bw dC dI (va_A [(oc7 oM iM_thrown rM_tape iM_taped iM_size iM_at iM_end iM_token iM_whole iM_nameSize iM_fault iM_place iM_trouble rM_letters iM_failed iM_hasCourt rM_r rM_fresh rM_told rM_read rM_st rM_undone rM_kept iM_undos iM_images rM_fresher iM_fresherSize iM_scale iM_night rM_heardRow rM_cutRow iM_breaths iM_cutMany iM_allBreaths rM_trial rM_words iM_fewestBreaths iM_orderMany iM_orderSum iM_leastOrder rM_often iM_setMany iM_someOf iM_allOf iM_allWeight iM_enoughWeight iM_worthSum iM_firstRest iM_leastDrawn), (arI rM_tape kM_tape 900 fM_tape), (arI rM_letters kM_letters 8 fM_letters)] sz) [(oc7 oM iM_thrown rM_tape iM_taped iM_size niM_at niM_end niM_token niM_whole niM_nameSize iM_fault iM_place iM_trouble rM_letters iM_failed iM_hasCourt rM_r rM_fresh rM_told rM_read rM_st rM_undone rM_kept iM_undos iM_images rM_fresher iM_fresherSize iM_scale iM_night rM_heardRow rM_cutRow iM_breaths iM_cutMany iM_allBreaths rM_trial rM_words iM_fewestBreaths iM_orderMany iM_orderSum iM_leastOrder rM_often iM_setMany iM_someOf iM_allOf iM_allWeight iM_enoughWeight iM_worthSum iM_firstRest iM_leastDrawn), (arI rM_tape kM_tape 900 fM_tape), (arI rM_letters kM_letters 8 nfM_letters)] [(kM_tape, .int), (kM_letters, .int)] t) (va_A [(oc7 oM iM_thrown rM_tape iM_taped iM_size iM_at iM_end iM_token iM_whole iM_nameSize iM_fault iM_place iM_trouble rM_letters iM_failed iM_hasCourt rM_r rM_fresh rM_told rM_read rM_st rM_undone rM_kept iM_undos iM_images rM_fresher iM_fresherSize iM_scale iM_night rM_heardRow rM_cutRow iM_breaths iM_cutMany iM_allBreaths rM_trial rM_words iM_fewestBreaths iM_orderMany iM_orderSum iM_leastOrder rM_often iM_setMany iM_someOf iM_allOf iM_allWeight iM_enoughWeight iM_worthSum iM_firstRest iM_leastDrawn), (arI rM_tape kM_tape 900 fM_tape), (arI rM_letters kM_letters 8 fM_letters)] sz)) 0 0 (va_A [(oc7 oM iM_thrown rM_tape iM_taped iM_size iM_at iM_end iM_token iM_whole iM_nameSize iM_fault iM_place iM_trouble rM_letters iM_failed iM_hasCourt rM_r rM_fresh rM_told rM_read rM_st rM_undone rM_kept iM_undos iM_images rM_fresher iM_fresherSize iM_scale iM_night rM_heardRow rM_cutRow iM_breaths iM_cutMany iM_allBreaths rM_trial rM_words iM_fewestBreaths iM_orderMany iM_orderSum iM_leastOrder rM_often iM_setMany iM_someOf iM_allOf iM_allWeight iM_enoughWeight iM_worthSum iM_firstRest iM_leastDrawn), (arI rM_tape kM_tape 900 fM_tape), (arI rM_letters kM_letters 8 fM_letters)] sz) := by
  refine Met.ofW (cc := cX7_takesWord) (maxL := 2) (ret := (some .boolean)) (by decide) rfl ?_
  intro p e s m args below meth c s₁ B hml hv
  obtain ⟨rfl, ⟨hsz, hP, hK, hD0, hE⟩, hSw⟩ := hv
  have hx := B.exec
  have hb := B.bytes
  have hr := B.returns
  have hts : ∀ w ∈ wG, w.before ([.ref oM, .ref sA] : List Value).toArray s = true := fun w h => atoms_spec (ws := Cond.code yX7_takesWord cX7_takesWord 2 (some .boolean) :: wG) B.pre w (List.mem_cons_of_mem _ h)
  have hown : s.vm.findClass RX7 = some m.cls := findClass_of_methodNamed B.named
  have hlocks := B.notSynchronized
  subst hsz
  have hD := hD0.self (sz := s.heap.size)
  generalize hAe : va_A [(oc7 oM iM_thrown rM_tape iM_taped iM_size iM_at iM_end iM_token iM_whole iM_nameSize iM_fault iM_place iM_trouble rM_letters iM_failed iM_hasCourt rM_r rM_fresh rM_told rM_read rM_st rM_undone rM_kept iM_undos iM_images rM_fresher iM_fresherSize iM_scale iM_night rM_heardRow rM_cutRow iM_breaths iM_cutMany iM_allBreaths rM_trial rM_words iM_fewestBreaths iM_orderMany iM_orderSum iM_leastOrder rM_often iM_setMany iM_someOf iM_allOf iM_allWeight iM_enoughWeight iM_worthSum iM_firstRest iM_leastDrawn), (arI rM_tape kM_tape 900 fM_tape), (arI rM_letters kM_letters 8 fM_letters)] s.heap.size = A at hD hE hSw ⊢
  have hA : ∀ q : Nat, s.heap.size ≤ q → A q := fun q h => by rw [← hAe]; exact Or.inr h
  have hS : va_S A s.heap s.heap [] := va_S.rf
  have hl := lv_entry ([.ref oM, .ref sA]) (n := 2) (Nat.le_of_ble_eq_true rfl)
  rw [lg_entry_eq]
  generalize (lg_sl ([.ref oM, .ref sA]) ++ List.replicate (2 - (lg_sl ([.ref oM, .ref sA])).length) Slot.unset).toArray = ls at hl ⊢
  have hl : lv_has ls 2 [(0, .ref oM), (1, .ref sA)] := hl
  have hG := PX7_takesWord_eq fM_tape iM_size iM_at iM_end iM_token iM_whole iM_nameSize fM_letters iM_failed sN sF
  refine lv_aload_n hx hb dX7_takesWord_0 rfl (lv_at hl 0 rfl) ?_
  refine lv_aload_n hx hb dX7_takesWord_1 rfl (lv_at hl 1 rfl) ?_
  have hFc := va_free (wc := [(oc7 oM iM_thrown rM_tape iM_taped iM_size iM_at iM_end iM_token iM_whole iM_nameSize iM_fault iM_place iM_trouble rM_letters iM_failed iM_hasCourt rM_r rM_fresh rM_told rM_read rM_st rM_undone rM_kept iM_undos iM_images rM_fresher iM_fresherSize iM_scale iM_night rM_heardRow rM_cutRow iM_breaths iM_cutMany iM_allBreaths rM_trial rM_words iM_fewestBreaths iM_orderMany iM_orderSum iM_leastOrder rM_often iM_setMany iM_someOf iM_allOf iM_allWeight iM_enoughWeight iM_worthSum iM_firstRest iM_leastDrawn), (arI rM_letters kM_letters 8 fM_letters)]) hD hS hA [0, 2] rfl
  refine va_calli (va_runV (As := [.ref sA]) (rest := []) ⟨hx, hb, hml, hown, hts⟩ (tX7_isWord l dC dI _ oM iM_thrown rM_tape iM_taped iM_size iM_at iM_end iM_token iM_whole iM_nameSize iM_fault iM_place iM_trouble rM_letters fM_letters kM_letters iM_failed iM_hasCourt rM_r rM_fresh rM_told rM_read rM_st rM_undone rM_kept iM_undos iM_images rM_fresher iM_fresherSize iM_scale iM_night rM_heardRow rM_cutRow iM_breaths iM_cutMany iM_allBreaths rM_trial rM_words iM_fewestBreaths iM_orderMany iM_orderSum iM_leastOrder rM_often iM_setMany iM_someOf iM_allOf iM_allWeight iM_enoughWeight iM_worthSum iM_firstRest iM_leastDrawn sA sV sN sF (by first | omega | decide) (by first | omega | decide) (by first | omega | decide) (by first | omega | decide) (by first | omega | decide) (by first | omega | decide) (by first | omega | decide) (by first | omega | decide) (by first | omega | decide) (by first | omega | decide) (by first | omega | decide) (by first | assumption | exact (fun h9 => by have q0 := kc_0; have q1 := kc_1; omega)) (by first | omega | decide | assumption | (have q0 := kc_0; have q1 := kc_1; omega) | (intro h; exact absurd h (by decide)))) (cwV 1 hts (wd_V wd_420 wd_421 wd_422 wd_5 (wd_c wd_423)) rfl rfl rfl (by decide +kernel) ⟨Nat.le_of_ble_eq_true rfl, Nat.le_of_ble_eq_true rfl⟩) ⟨Pq.fb, va_recv hK hP (ci := 7) (q0 := 0) rfl rfl, fun U hU hW => Pq.to (hP.sub [0, 2] rfl) (hD.sub [0, 2] (by decide) rfl) (hK.sub [1] rfl) hSw hE hS hFc hU hW⟩ rfl rfl hl.1 rfl (lv_room (Nat.le_of_ble_eq_true rfl)) dX7_takesWord_2 ⟨Nat.le_of_ble_eq_true rfl, Nat.le_of_ble_eq_true rfl⟩) hS (fun q _ h => hFc q h) hFc (fun r u t H locs ht hvm hw hB hz1 hk1 hS => ?_)
  have hru9 := hw.2
  have hw := hw.1
  obtain ⟨hP, hD, hK⟩ := Bw.go (ws' := [(arI rM_tape kM_tape 900 fM_tape), (oc7 oM iM_thrown rM_tape iM_taped iM_size iM_at iM_end iM_token iM_whole iM_nameSize iM_fault iM_place iM_trouble rM_letters iM_failed iM_hasCourt rM_r rM_fresh rM_told rM_read rM_st rM_undone rM_kept iM_undos iM_images rM_fresher iM_fresherSize iM_scale iM_night rM_heardRow rM_cutRow iM_breaths iM_cutMany iM_allBreaths rM_trial rM_words iM_fewestBreaths iM_orderMany iM_orderSum iM_leastOrder rM_often iM_setMany iM_someOf iM_allOf iM_allWeight iM_enoughWeight iM_worthSum iM_firstRest iM_leastDrawn), (arI rM_letters kM_letters 8 fM_letters)]) (tys' := [(kM_tape, .int), (kM_letters, .int)]) hB rfl ht hvm hP hD hK [0, 2] [1] rfl (by decide) (by decide) [0] hk1 hFc rfl rfl rfl
  clear hz1 hk1 hvm ht hB
  obtain ⟨x_4886, rfl⟩ : ∃ z, z = r := ⟨_, rfl⟩
  have hG := hG.trans (lt_eq hru9.symm)
  have bx_4886 := hw.1
  have dx_4886 := bz_ti bx_4886
  have lx_4886 := hw.2
  refine lv_if_ne (tgt := 10) hx hb dX7_takesWord_5 (by decide) (fun c_4887 => ?_) (fun c_4887 => ?_)
  · skip
    have hG := hG.trans (if_neg c_4887)
    have gc_4887 := ti_ne c_4887 rfl kc_0
    replace gc_4887 : (-1) * x_4886.toInt + 1 ≤ 0 := by omega
    have h_4888 := lx_4886 (by omega)
    clear lx_4886
    have h_4889 := r_T (by omega)
    clear r_T
    refine lv_aload_n hx hb dX7_takesWord_10 rfl (lv_at hl 0 rfl) ?_
    have hFc := va_free (wc := [(oc7 oM iM_thrown rM_tape iM_taped iM_size iM_at iM_end iM_token iM_whole iM_nameSize iM_fault iM_place iM_trouble rM_letters iM_failed iM_hasCourt rM_r rM_fresh rM_told rM_read rM_st rM_undone rM_kept iM_undos iM_images rM_fresher iM_fresherSize iM_scale iM_night rM_heardRow rM_cutRow iM_breaths iM_cutMany iM_allBreaths rM_trial rM_words iM_fewestBreaths iM_orderMany iM_orderSum iM_leastOrder rM_often iM_setMany iM_someOf iM_allOf iM_allWeight iM_enoughWeight iM_worthSum iM_firstRest iM_leastDrawn), (arI rM_tape kM_tape 900 fM_tape), (arI rM_letters kM_letters 8 fM_letters)]) hD hS hA [1, 0, 2] rfl
    refine va_callv (va_runV (As := []) (rest := []) ⟨hx, hb, hml, hown, hts⟩ (tX7_next l dC dI _ oM iM_thrown rM_tape fM_tape kM_tape iM_taped iM_size iM_at iM_end iM_token iM_whole iM_nameSize iM_fault iM_place iM_trouble rM_letters fM_letters kM_letters iM_failed iM_hasCourt rM_r rM_fresh rM_told rM_read rM_st rM_undone rM_kept iM_undos iM_images rM_fresher iM_fresherSize iM_scale iM_night rM_heardRow rM_cutRow iM_breaths iM_cutMany iM_allBreaths rM_trial rM_words iM_fewestBreaths iM_orderMany iM_orderSum iM_leastOrder rM_often iM_setMany iM_someOf iM_allOf iM_allWeight iM_enoughWeight iM_worthSum iM_firstRest iM_leastDrawn (by first | omega | decide) (by first | omega | decide) (by first | omega | decide) (by first | omega | decide) (by first | omega | decide) (by first | omega | decide) (by first | omega | decide) (by first | omega | decide) (by first | omega | decide) (by first | omega | decide) (by first | omega | decide) (by first | assumption | exact (fun h9 => by have q0 := kc_0; have q1 := kc_1; omega))) (cwV 0 hts (wd_V wd_400 wd_401 wd_402 wd_5 (wd_c wd_403)) rfl rfl rfl (by decide +kernel) ⟨Nat.le_of_ble_eq_true rfl, Nat.le_of_ble_eq_true rfl⟩) ⟨Pw.fb, va_recv hK hP (ci := 7) (q0 := 1) rfl rfl, fun U hU hW => Pw.to (hP.sub [1, 0, 2] rfl) (hD.sub [1, 0, 2] (by decide) rfl) (hK.sub [0, 1] rfl) hE hS hFc hU hW⟩ rfl rfl hl.1 rfl (lv_room (Nat.le_of_ble_eq_true rfl)) dX7_takesWord_11 ⟨Nat.le_of_ble_eq_true rfl, Nat.le_of_ble_eq_true rfl⟩) hS (fun q _ h => hFc q h) hFc (fun u t H locs ht hvm hw hB hz1 hk1 hS => ?_)
    obtain ⟨x_4890, x_4891, x_4892, x_4893, x_4894, f_4895, b_x_4891, b_x_4894, e_x_4890_0, e_x_4890_1, e_x_4890_2, e_x_4890_3, hB⟩ := hB
    obtain ⟨hP, hD, hK⟩ := Bw.go (ws' := [(oc7 oM iM_thrown rM_tape iM_taped iM_size x_4890 x_4891 x_4892 x_4893 x_4894 iM_fault iM_place iM_trouble rM_letters iM_failed iM_hasCourt rM_r rM_fresh rM_told rM_read rM_st rM_undone rM_kept iM_undos iM_images rM_fresher iM_fresherSize iM_scale iM_night rM_heardRow rM_cutRow iM_breaths iM_cutMany iM_allBreaths rM_trial rM_words iM_fewestBreaths iM_orderMany iM_orderSum iM_leastOrder rM_often iM_setMany iM_someOf iM_allOf iM_allWeight iM_enoughWeight iM_worthSum iM_firstRest iM_leastDrawn), (arI rM_tape kM_tape 900 fM_tape), (arI rM_letters kM_letters 8 f_4895)]) (tys' := [(kM_tape, .int), (kM_letters, .int)]) hB rfl ht hvm hP hD hK [1, 0, 2] [] rfl (by decide) (by decide) [] hk1 hFc rfl rfl rfl
    clear hz1 hk1 hvm ht hB
    have hG := hG.trans (un6_eq e_x_4890_3)
    refine lv_iconst (v := 1) hx hb dX7_takesWord_14 (by decide) ?_
    exact W.zret (v := 1) hx hb hr rfl (fun t ht hW => ⟨⟨_, 1, rfl, ⟨⟨Or.inr rfl, (by decide)⟩, (by decide)⟩, ⟨x_4890, x_4891, x_4892, x_4893, x_4894, f_4895, b_x_4891, b_x_4894, (by first | assumption | (have q0 := kc_0; have q1 := kc_1; omega)), e_x_4890_1, (fun h9 => by have q0 := kc_0; have q1 := kc_1; have q9 := e_x_4890_2 (by omega); omega), hG, Bw.to (hP.sub [0, 1, 2] rfl) (hD.sub [0, 1, 2] (by decide) rfl) (hK.sub [0, 1] rfl) ht hW⟩⟩, hS.F ht⟩) hS.2.2 dX7_takesWord_15
  · skip
    have hG := hG.trans (if_pos c_4887)
    have gc_4887 := ti_eq c_4887 rfl kc_0
    clear lx_4886
    refine lv_iconst (v := 0) hx hb dX7_takesWord_8 (by decide) ?_
    exact W.zret (v := 0) hx hb hr rfl (fun t ht hW => ⟨⟨_, 0, rfl, ⟨⟨Or.inl rfl, (by decide)⟩, (by decide)⟩, ⟨iM_at, iM_end, iM_token, iM_whole, iM_nameSize, fM_letters, (by omega), (by omega), (by first | assumption | (have q0 := kc_0; have q1 := kc_1; omega)), r_T, (fun h9 => by have q0 := kc_0; have q1 := kc_1; omega), hG, Bw.to (hP.sub [1, 0, 2] rfl) (hD.sub [1, 0, 2] (by decide) rfl) (hK.sub [0, 1] rfl) ht hW⟩⟩, hS.F ht⟩) hS.2.2 dX7_takesWord_9
set_option maxHeartbeats 4000000 in
set_option maxRecDepth 100000 in
theorem tX7_must (l : Launch) (dC : Nat → ClassId) (dI : Nat → Nat → Nat) (sz : Nat) (oM : Nat) (iM_thrown : Int32) (rM_tape : Nat) (fM_tape : Nat → Int32) (kM_tape : ClassId) (iM_taped : Int32) (iM_size : Int32) (iM_at : Int32) (iM_end : Int32) (iM_token : Int32) (iM_whole : Int32) (iM_nameSize : Int32) (iM_fault : Int32) (iM_place : Int32) (iM_trouble : Int32) (rM_letters : Nat) (fM_letters : Nat → Int32) (kM_letters : ClassId) (iM_failed : Int32) (iM_hasCourt : Int32) (rM_r : Nat) (rM_fresh : Nat) (rM_told : Nat) (rM_read : Nat) (rM_st : Nat) (rM_undone : Nat) (rM_kept : Nat) (iM_undos : Int32) (iM_images : Int32) (rM_fresher : Nat) (iM_fresherSize : Int32) (iM_scale : Int32) (iM_night : Int32) (rM_heardRow : Nat) (rM_cutRow : Nat) (iM_breaths : Int32) (iM_cutMany : Int32) (iM_allBreaths : Int32) (rM_trial : Nat) (rM_words : Nat) (iM_fewestBreaths : Int32) (iM_orderMany : Int32) (iM_orderSum : Int32) (iM_leastOrder : Int32) (rM_often : Nat) (iM_setMany : Int32) (iM_someOf : Int32) (iM_allOf : Int32) (iM_allWeight : Int64) (iM_enoughWeight : Int64) (iM_worthSum : Int64) (iM_firstRest : Int32) (iM_leastDrawn : Int32) (sA : Nat) (sV : Nat) (sN : Nat) (sF : Nat → Int32) (b_iM_taped : 0 ≤ iM_taped.toInt ∧ iM_taped.toInt ≤ 900) (b_iM_size : 0 ≤ iM_size.toInt ∧ iM_size.toInt ≤ 900) (b_iM_end : 0 ≤ iM_end.toInt ∧ iM_end.toInt ≤ 900) (b_iM_nameSize : 0 ≤ iM_nameSize.toInt ∧ iM_nameSize.toInt ≤ 900) (b_iM_failed : 0 ≤ iM_failed.toInt ∧ iM_failed.toInt ≤ 1) (b_iM_hasCourt : 0 ≤ iM_hasCourt.toInt ∧ iM_hasCourt.toInt ≤ 1) (b_iM_undos : 0 ≤ iM_undos.toInt ∧ iM_undos.toInt ≤ 16) (b_iM_images : 0 ≤ iM_images.toInt ∧ iM_images.toInt ≤ 3) (b_iM_scale : 1 ≤ iM_scale.toInt ∧ iM_scale.toInt ≤ 1296) (b_iM_breaths : 0 ≤ iM_breaths.toInt ∧ iM_breaths.toInt ≤ 399) (b_iM_cutMany : 0 ≤ iM_cutMany.toInt ∧ iM_cutMany.toInt ≤ 399) (r_T : ImpP (iM_token.toInt = 2) (iM_nameSize.toInt ≤ 8)) (hsn : sN ≤ 8) : Met l yX7_must (Cond.code yX7_must cX7_must 2 none :: wG) ({ frames := 6, cells := 0, slots := 0, locals := 155 }) (va_Pc [.ref oM, .ref sA] (Pq dC dI sz [(oc7 oM iM_thrown rM_tape iM_taped iM_size iM_at iM_end iM_token iM_whole iM_nameSize iM_fault iM_place iM_trouble rM_letters iM_failed iM_hasCourt rM_r rM_fresh rM_told rM_read rM_st rM_undone rM_kept iM_undos iM_images rM_fresher iM_fresherSize iM_scale iM_night rM_heardRow rM_cutRow iM_breaths iM_cutMany iM_allBreaths rM_trial rM_words iM_fewestBreaths iM_orderMany iM_orderSum iM_leastOrder rM_often iM_setMany iM_someOf iM_allOf iM_allWeight iM_enoughWeight iM_worthSum iM_firstRest iM_leastDrawn), (arI rM_tape kM_tape 900 fM_tape), (arI rM_letters kM_letters 8 fM_letters)] [(kM_tape, .int), (kM_letters, .int)] sA sV sN sF)) (va_Qv (fun (_ : Nat) => True) (fun (_ : Nat) (t : State) => ∃ (niM_at : Int32) (niM_end : Int32) (niM_token : Int32) (niM_whole : Int32) (niM_nameSize : Int32) (niM_fault : Int32) (niM_place : Int32) (niM_failed : Int32) (nfM_letters : Nat → Int32), (0 ≤ niM_end.toInt ∧ niM_end.toInt ≤ 900) ∧ (0 ≤ niM_nameSize.toInt ∧ niM_nameSize.toInt ≤ 900) ∧ (0 ≤ niM_failed.toInt ∧ niM_failed.toInt ≤ 1) ∧ (iM_end.toInt ≤ niM_end.toInt) ∧ (ImpP (niM_token.toInt = 2) (niM_nameSize.toInt ≤ 8)) ∧ (iM_failed.toInt ≤ niM_failed.toInt) ∧ (ImpP (niM_failed.toInt ≤ 0 ∧ niM_token.toInt = 59 ) (iM_end.toInt + 1 ≤ niM_end.toInt)) ∧ (PX7_must fM_tape iM_size iM_at iM_end iM_token iM_whole iM_nameSize iM_fault iM_place fM_letters iM_failed sN sF = (niM_at, niM_end, niM_token, niM_whole, niM_nameSize, niM_fault, niM_place, niM_failed, nfM_letters)) ∧ Bw dC dI (va_A [(oc7 oM iM_thrown rM_tape iM_taped iM_size iM_at iM_end iM_token iM_whole iM_nameSize iM_fault iM_place iM_trouble rM_letters iM_failed iM_hasCourt rM_r rM_fresh rM_told rM_read rM_st rM_undone rM_kept iM_undos iM_images rM_fresher iM_fresherSize iM_scale iM_night rM_heardRow rM_cutRow iM_breaths iM_cutMany iM_allBreaths rM_trial rM_words iM_fewestBreaths iM_orderMany iM_orderSum iM_leastOrder rM_often iM_setMany iM_someOf iM_allOf iM_allWeight iM_enoughWeight iM_worthSum iM_firstRest iM_leastDrawn), (arI rM_tape kM_tape 900 fM_tape), (arI rM_letters kM_letters 8 fM_letters)] sz) [(oc7 oM iM_thrown rM_tape iM_taped iM_size niM_at niM_end niM_token niM_whole niM_nameSize niM_fault niM_place iM_trouble rM_letters niM_failed iM_hasCourt rM_r rM_fresh rM_told rM_read rM_st rM_undone rM_kept iM_undos iM_images rM_fresher iM_fresherSize iM_scale iM_night rM_heardRow rM_cutRow iM_breaths iM_cutMany iM_allBreaths rM_trial rM_words iM_fewestBreaths iM_orderMany iM_orderSum iM_leastOrder rM_often iM_setMany iM_someOf iM_allOf iM_allWeight iM_enoughWeight iM_worthSum iM_firstRest iM_leastDrawn), (arI rM_tape kM_tape 900 fM_tape), (arI rM_letters kM_letters 8 nfM_letters)] [(kM_tape, .int), (kM_letters, .int)] t) (va_A [(oc7 oM iM_thrown rM_tape iM_taped iM_size iM_at iM_end iM_token iM_whole iM_nameSize iM_fault iM_place iM_trouble rM_letters iM_failed iM_hasCourt rM_r rM_fresh rM_told rM_read rM_st rM_undone rM_kept iM_undos iM_images rM_fresher iM_fresherSize iM_scale iM_night rM_heardRow rM_cutRow iM_breaths iM_cutMany iM_allBreaths rM_trial rM_words iM_fewestBreaths iM_orderMany iM_orderSum iM_leastOrder rM_often iM_setMany iM_someOf iM_allOf iM_allWeight iM_enoughWeight iM_worthSum iM_firstRest iM_leastDrawn), (arI rM_tape kM_tape 900 fM_tape), (arI rM_letters kM_letters 8 fM_letters)] sz)) 0 0 (va_A [(oc7 oM iM_thrown rM_tape iM_taped iM_size iM_at iM_end iM_token iM_whole iM_nameSize iM_fault iM_place iM_trouble rM_letters iM_failed iM_hasCourt rM_r rM_fresh rM_told rM_read rM_st rM_undone rM_kept iM_undos iM_images rM_fresher iM_fresherSize iM_scale iM_night rM_heardRow rM_cutRow iM_breaths iM_cutMany iM_allBreaths rM_trial rM_words iM_fewestBreaths iM_orderMany iM_orderSum iM_leastOrder rM_often iM_setMany iM_someOf iM_allOf iM_allWeight iM_enoughWeight iM_worthSum iM_firstRest iM_leastDrawn), (arI rM_tape kM_tape 900 fM_tape), (arI rM_letters kM_letters 8 fM_letters)] sz) := by
  refine Met.ofW (cc := cX7_must) (maxL := 2) (ret := none) (by decide) rfl ?_
  intro p e s m args below meth c s₁ B hml hv
  obtain ⟨rfl, ⟨hsz, hP, hK, hD0, hE⟩, hSw⟩ := hv
  have hx := B.exec
  have hb := B.bytes
  have hr := B.returns
  have hts : ∀ w ∈ wG, w.before ([.ref oM, .ref sA] : List Value).toArray s = true := fun w h => atoms_spec (ws := Cond.code yX7_must cX7_must 2 none :: wG) B.pre w (List.mem_cons_of_mem _ h)
  have hown : s.vm.findClass RX7 = some m.cls := findClass_of_methodNamed B.named
  have hlocks := B.notSynchronized
  subst hsz
  have hD := hD0.self (sz := s.heap.size)
  generalize hAe : va_A [(oc7 oM iM_thrown rM_tape iM_taped iM_size iM_at iM_end iM_token iM_whole iM_nameSize iM_fault iM_place iM_trouble rM_letters iM_failed iM_hasCourt rM_r rM_fresh rM_told rM_read rM_st rM_undone rM_kept iM_undos iM_images rM_fresher iM_fresherSize iM_scale iM_night rM_heardRow rM_cutRow iM_breaths iM_cutMany iM_allBreaths rM_trial rM_words iM_fewestBreaths iM_orderMany iM_orderSum iM_leastOrder rM_often iM_setMany iM_someOf iM_allOf iM_allWeight iM_enoughWeight iM_worthSum iM_firstRest iM_leastDrawn), (arI rM_tape kM_tape 900 fM_tape), (arI rM_letters kM_letters 8 fM_letters)] s.heap.size = A at hD hE hSw ⊢
  have hA : ∀ q : Nat, s.heap.size ≤ q → A q := fun q h => by rw [← hAe]; exact Or.inr h
  have hS : va_S A s.heap s.heap [] := va_S.rf
  have hl := lv_entry ([.ref oM, .ref sA]) (n := 2) (Nat.le_of_ble_eq_true rfl)
  rw [lg_entry_eq]
  generalize (lg_sl ([.ref oM, .ref sA]) ++ List.replicate (2 - (lg_sl ([.ref oM, .ref sA])).length) Slot.unset).toArray = ls at hl ⊢
  have hl : lv_has ls 2 [(0, .ref oM), (1, .ref sA)] := hl
  have hG := PX7_must_eq fM_tape iM_size iM_at iM_end iM_token iM_whole iM_nameSize iM_fault iM_place fM_letters iM_failed sN sF
  refine lv_aload_n hx hb dX7_must_0 rfl (lv_at hl 0 rfl) ?_
  refine va_get (D := (dC, dI)) (ci := 7) (v := .int iM_failed) (C := RX7) (T := TX7) (N := 48) hx hb hts inX7 hown hK hP 0 rfl rfl 13 (by decide) (hts _ wd_380) (fun _ h9 => h9) rfl dX7_must_1 ?_
  refine lv_if_ne (tgt := 24) hx hb dX7_must_4 (by decide) (fun c_4908 => ?_) (fun c_4908 => ?_)
  · skip
    have hG := hG.trans (if_neg c_4908)
    have gc_4908 := ti_ne c_4908 rfl kc_0
    replace gc_4908 : (-1) * iM_failed.toInt + 1 ≤ 0 := by omega
    exact W.vret hx hb hr (fun t ht hW => ⟨⟨0, rfl, trivial, ⟨iM_at, iM_end, iM_token, iM_whole, iM_nameSize, iM_fault, iM_place, iM_failed, fM_letters, (by omega), (by omega), (by omega), (by first | assumption | (have q0 := kc_0; have q1 := kc_1; omega)), r_T, (by first | assumption | (have q0 := kc_0; have q1 := kc_1; omega)), (fun h9 => by have q0 := kc_0; have q1 := kc_1; omega), hG, Bw.to (hP.sub [0, 1, 2] rfl) (hD.sub [0, 1, 2] (by decide) rfl) (hK.sub [0, 1] rfl) ht hW⟩⟩, hS.F ht⟩) hS.2.2 dX7_must_24
  · skip
    have hG := hG.trans (if_pos c_4908)
    have gc_4908 := ti_eq c_4908 rfl kc_0
    refine lv_aload_n hx hb dX7_must_7 rfl (lv_at hl 0 rfl) ?_
    refine lv_aload_n hx hb dX7_must_8 rfl (lv_at hl 1 rfl) ?_
    have hFc := va_free (wc := [(oc7 oM iM_thrown rM_tape iM_taped iM_size iM_at iM_end iM_token iM_whole iM_nameSize iM_fault iM_place iM_trouble rM_letters iM_failed iM_hasCourt rM_r rM_fresh rM_told rM_read rM_st rM_undone rM_kept iM_undos iM_images rM_fresher iM_fresherSize iM_scale iM_night rM_heardRow rM_cutRow iM_breaths iM_cutMany iM_allBreaths rM_trial rM_words iM_fewestBreaths iM_orderMany iM_orderSum iM_leastOrder rM_often iM_setMany iM_someOf iM_allOf iM_allWeight iM_enoughWeight iM_worthSum iM_firstRest iM_leastDrawn), (arI rM_tape kM_tape 900 fM_tape), (arI rM_letters kM_letters 8 fM_letters)]) hD hS hA [0, 1, 2] rfl
    refine va_calli (va_runV (As := [.ref sA]) (rest := []) ⟨hx, hb, hml, hown, hts⟩ (tX7_takesWord l dC dI _ oM iM_thrown rM_tape fM_tape kM_tape iM_taped iM_size iM_at iM_end iM_token iM_whole iM_nameSize iM_fault iM_place iM_trouble rM_letters fM_letters kM_letters iM_failed iM_hasCourt rM_r rM_fresh rM_told rM_read rM_st rM_undone rM_kept iM_undos iM_images rM_fresher iM_fresherSize iM_scale iM_night rM_heardRow rM_cutRow iM_breaths iM_cutMany iM_allBreaths rM_trial rM_words iM_fewestBreaths iM_orderMany iM_orderSum iM_leastOrder rM_often iM_setMany iM_someOf iM_allOf iM_allWeight iM_enoughWeight iM_worthSum iM_firstRest iM_leastDrawn sA sV sN sF (by first | omega | decide) (by first | omega | decide) (by first | omega | decide) (by first | omega | decide) (by first | omega | decide) (by first | omega | decide) (by first | omega | decide) (by first | omega | decide) (by first | omega | decide) (by first | omega | decide) (by first | omega | decide) (by first | assumption | exact (fun h9 => by have q0 := kc_0; have q1 := kc_1; omega)) (by first | omega | decide | assumption | (have q0 := kc_0; have q1 := kc_1; omega) | (intro h; exact absurd h (by decide)))) (cwV 1 hts (wd_V wd_442 wd_443 wd_444 wd_5 (wd_c wd_445)) rfl rfl rfl (by decide +kernel) ⟨Nat.le_of_ble_eq_true rfl, Nat.le_of_ble_eq_true rfl⟩) ⟨Pq.fb, va_recv hK hP (ci := 7) (q0 := 0) rfl rfl, fun U hU hW => Pq.to (hP.sub [0, 1, 2] rfl) (hD.sub [0, 1, 2] (by decide) rfl) (hK.sub [0, 1] rfl) hSw hE hS hFc hU hW⟩ rfl rfl hl.1 rfl (lv_room (Nat.le_of_ble_eq_true rfl)) dX7_must_9 ⟨Nat.le_of_ble_eq_true rfl, Nat.le_of_ble_eq_true rfl⟩) hS (fun q _ h => hFc q h) hFc (fun r u t H locs ht hvm hw hB hz1 hk1 hS => ?_)
    have hru9 := hw.2
    have hw := hw.1
    obtain ⟨x_4909, x_4910, x_4911, x_4912, x_4913, f_4914, b_x_4910, b_x_4913, e_x_4909_0, e_x_4909_1, e_x_4909_2, e_x_4909_3, hB⟩ := hB
    obtain ⟨hP, hD, hK⟩ := Bw.go (ws' := [(oc7 oM iM_thrown rM_tape iM_taped iM_size x_4909 x_4910 x_4911 x_4912 x_4913 iM_fault iM_place iM_trouble rM_letters iM_failed iM_hasCourt rM_r rM_fresh rM_told rM_read rM_st rM_undone rM_kept iM_undos iM_images rM_fresher iM_fresherSize iM_scale iM_night rM_heardRow rM_cutRow iM_breaths iM_cutMany iM_allBreaths rM_trial rM_words iM_fewestBreaths iM_orderMany iM_orderSum iM_leastOrder rM_often iM_setMany iM_someOf iM_allOf iM_allWeight iM_enoughWeight iM_worthSum iM_firstRest iM_leastDrawn), (arI rM_tape kM_tape 900 fM_tape), (arI rM_letters kM_letters 8 f_4914)]) (tys' := [(kM_tape, .int), (kM_letters, .int)]) hB rfl ht hvm hP hD hK [0, 1, 2] [] rfl (by decide) (by decide) [] hk1 hFc rfl rfl rfl
    clear hz1 hk1 hvm ht hB
    rw [← hru9] at e_x_4909_3
    obtain ⟨x_4915, rfl⟩ : ∃ z, z = r := ⟨_, rfl⟩
    have hG := hG.trans (un7_eq e_x_4909_3)
    have bx_4915 := hw.1
    have dx_4915 := bz_ti bx_4915
    have lx_4915 := hw.2
    clear r_T
    refine lv_if_ne (tgt := 24) hx hb dX7_must_12 (by decide) (fun c_4916 => ?_) (fun c_4916 => ?_)
    · skip
      have hG := hG.trans (if_neg c_4916)
      have gc_4916 := ti_ne c_4916 rfl kc_0
      replace gc_4916 : (-1) * x_4915.toInt + 1 ≤ 0 := by omega
      exact W.vret hx hb hr (fun t ht hW => ⟨⟨0, rfl, trivial, ⟨x_4909, x_4910, x_4911, x_4912, x_4913, iM_fault, iM_place, iM_failed, f_4914, b_x_4910, b_x_4913, (by omega), (by first | assumption | (have q0 := kc_0; have q1 := kc_1; omega)), e_x_4909_1, (by first | assumption | (have q0 := kc_0; have q1 := kc_1; omega)), (fun h9 => by have q0 := kc_0; have q1 := kc_1; have q9 := e_x_4909_2 (by omega); omega), hG, Bw.to (hP.sub [0, 1, 2] rfl) (hD.sub [0, 1, 2] (by decide) rfl) (hK.sub [0, 1] rfl) ht hW⟩⟩, hS.F ht⟩) hS.2.2 dX7_must_24
    · skip
      have hG := hG.trans (if_pos c_4916)
      have gc_4916 := ti_eq c_4916 rfl kc_0
      refine lv_aload_n hx hb dX7_must_15 rfl (lv_at hl 0 rfl) ?_
      refine lv_iconst (v := 1) hx hb dX7_must_16 (by decide) ?_
      refine lv_aload_n hx hb dX7_must_17 rfl (lv_at hl 0 rfl) ?_
      refine va_get (D := (dC, dI)) (ci := 7) (v := .int x_4909) (C := RX7) (T := TX7) (N := 48) hx hb hts inX7 hown hK hP 0 rfl rfl 4 (by decide) (hts _ wd_384) (fun _ h9 => h9) rfl dX7_must_18 ?_
      have hFc := va_free (wc := [(oc7 oM iM_thrown rM_tape iM_taped iM_size x_4909 x_4910 x_4911 x_4912 x_4913 iM_fault iM_place iM_trouble rM_letters iM_failed iM_hasCourt rM_r rM_fresh rM_told rM_read rM_st rM_undone rM_kept iM_undos iM_images rM_fresher iM_fresherSize iM_scale iM_night rM_heardRow rM_cutRow iM_breaths iM_cutMany iM_allBreaths rM_trial rM_words iM_fewestBreaths iM_orderMany iM_orderSum iM_leastOrder rM_often iM_setMany iM_someOf iM_allOf iM_allWeight iM_enoughWeight iM_worthSum iM_firstRest iM_leastDrawn)]) hD hS hA [0] rfl
      refine va_callv (va_runV (As := [.int 1, .int x_4909]) (rest := []) ⟨hx, hb, hml, hown, hts⟩ (tX7_wrong l dC dI _ oM iM_thrown rM_tape iM_taped iM_size x_4909 x_4910 x_4911 x_4912 x_4913 iM_fault iM_place iM_trouble rM_letters iM_failed iM_hasCourt rM_r rM_fresh rM_told rM_read rM_st rM_undone rM_kept iM_undos iM_images rM_fresher iM_fresherSize iM_scale iM_night rM_heardRow rM_cutRow iM_breaths iM_cutMany iM_allBreaths rM_trial rM_words iM_fewestBreaths iM_orderMany iM_orderSum iM_leastOrder rM_often iM_setMany iM_someOf iM_allOf iM_allWeight iM_enoughWeight iM_worthSum iM_firstRest iM_leastDrawn 1 x_4909 (by first | omega | decide) (by first | omega | decide) (by first | exact b_x_4910 | omega | decide) (by first | exact b_x_4913 | omega | decide) (by first | omega | decide) (by first | omega | decide) (by first | omega | decide) (by first | omega | decide) (by first | omega | decide) (by first | omega | decide) (by first | omega | decide) (by first | assumption | exact (fun h9 => by have q0 := kc_0; have q1 := kc_1; omega))) (cwV 2 hts (wd_V wd_430 wd_431 wd_432 wd_5 (wd_c wd_433)) rfl rfl rfl (by decide +kernel) ⟨Nat.le_of_ble_eq_true rfl, Nat.le_of_ble_eq_true rfl⟩) ⟨Pw.fb, va_recv hK hP (ci := 7) (q0 := 0) rfl rfl, fun U hU hW => Pw.to (hP.sub [0] rfl) (hD.sub [0] (by decide) rfl) (hK.sub [] rfl) hE hS hFc hU hW⟩ rfl rfl hl.1 rfl (lv_room (Nat.le_of_ble_eq_true rfl)) dX7_must_21 ⟨Nat.le_of_ble_eq_true rfl, Nat.le_of_ble_eq_true rfl⟩) hS (fun q _ h => hFc q h) hFc (fun u t H locs ht hvm hw hB hz1 hk1 hS => ?_)
      obtain ⟨x_4917, x_4918, x_4919, b_x_4919, e_x_4917_0, e_x_4917_1, hB⟩ := hB
      obtain ⟨hP, hD, hK⟩ := Bw.go (ws' := [(arI rM_tape kM_tape 900 fM_tape), (arI rM_letters kM_letters 8 f_4914), (oc7 oM iM_thrown rM_tape iM_taped iM_size x_4909 x_4910 x_4911 x_4912 x_4913 x_4917 x_4918 iM_trouble rM_letters x_4919 iM_hasCourt rM_r rM_fresh rM_told rM_read rM_st rM_undone rM_kept iM_undos iM_images rM_fresher iM_fresherSize iM_scale iM_night rM_heardRow rM_cutRow iM_breaths iM_cutMany iM_allBreaths rM_trial rM_words iM_fewestBreaths iM_orderMany iM_orderSum iM_leastOrder rM_often iM_setMany iM_someOf iM_allOf iM_allWeight iM_enoughWeight iM_worthSum iM_firstRest iM_leastDrawn)]) (tys' := [(kM_tape, .int), (kM_letters, .int)]) hB rfl ht hvm hP hD hK [0] [1, 2] rfl (by decide) (by decide) [0, 1] hk1 hFc rfl rfl rfl
      clear hz1 hk1 hvm ht hB
      have hG := hG.trans (un3_eq e_x_4917_1)
      exact W.vret hx hb hr (fun t ht hW => ⟨⟨0, rfl, trivial, ⟨x_4909, x_4910, x_4911, x_4912, x_4913, x_4917, x_4918, x_4919, f_4914, b_x_4910, b_x_4913, b_x_4919, (by first | assumption | (have q0 := kc_0; have q1 := kc_1; omega)), e_x_4909_1, (by first | assumption | (have q0 := kc_0; have q1 := kc_1; omega)), (fun h9 => by have q0 := kc_0; have q1 := kc_1; omega), hG, Bw.to (hP.sub [2, 0, 1] rfl) (hD.sub [2, 0, 1] (by decide) rfl) (hK.sub [0, 1] rfl) ht hW⟩⟩, hS.F ht⟩) hS.2.2 dX7_must_24
set_option maxHeartbeats 4000000 in
set_option maxRecDepth 100000 in
theorem tX7_mustName (l : Launch) (dC : Nat → ClassId) (dI : Nat → Nat → Nat) (sz : Nat) (oM : Nat) (iM_thrown : Int32) (rM_tape : Nat) (iM_taped : Int32) (iM_size : Int32) (iM_at : Int32) (iM_end : Int32) (iM_token : Int32) (iM_whole : Int32) (iM_nameSize : Int32) (iM_fault : Int32) (iM_place : Int32) (iM_trouble : Int32) (rM_letters : Nat) (fM_letters : Nat → Int32) (kM_letters : ClassId) (iM_failed : Int32) (iM_hasCourt : Int32) (rM_r : Nat) (rM_fresh : Nat) (rM_told : Nat) (rM_read : Nat) (rM_st : Nat) (rM_undone : Nat) (rM_kept : Nat) (iM_undos : Int32) (iM_images : Int32) (rM_fresher : Nat) (iM_fresherSize : Int32) (iM_scale : Int32) (iM_night : Int32) (rM_heardRow : Nat) (rM_cutRow : Nat) (iM_breaths : Int32) (iM_cutMany : Int32) (iM_allBreaths : Int32) (rM_trial : Nat) (rM_words : Nat) (iM_fewestBreaths : Int32) (iM_orderMany : Int32) (iM_orderSum : Int32) (iM_leastOrder : Int32) (rM_often : Nat) (iM_setMany : Int32) (iM_someOf : Int32) (iM_allOf : Int32) (iM_allWeight : Int64) (iM_enoughWeight : Int64) (iM_worthSum : Int64) (iM_firstRest : Int32) (iM_leastDrawn : Int32) (b_iM_taped : 0 ≤ iM_taped.toInt ∧ iM_taped.toInt ≤ 900) (b_iM_size : 0 ≤ iM_size.toInt ∧ iM_size.toInt ≤ 900) (b_iM_end : 0 ≤ iM_end.toInt ∧ iM_end.toInt ≤ 900) (b_iM_nameSize : 0 ≤ iM_nameSize.toInt ∧ iM_nameSize.toInt ≤ 900) (b_iM_failed : 0 ≤ iM_failed.toInt ∧ iM_failed.toInt ≤ 1) (b_iM_hasCourt : 0 ≤ iM_hasCourt.toInt ∧ iM_hasCourt.toInt ≤ 1) (b_iM_undos : 0 ≤ iM_undos.toInt ∧ iM_undos.toInt ≤ 16) (b_iM_images : 0 ≤ iM_images.toInt ∧ iM_images.toInt ≤ 3) (b_iM_scale : 1 ≤ iM_scale.toInt ∧ iM_scale.toInt ≤ 1296) (b_iM_breaths : 0 ≤ iM_breaths.toInt ∧ iM_breaths.toInt ≤ 399) (b_iM_cutMany : 0 ≤ iM_cutMany.toInt ∧ iM_cutMany.toInt ≤ 399) (r_T : ImpP (iM_token.toInt = 2) (iM_nameSize.toInt ≤ 8))  : Met l yX7_mustName (Cond.code yX7_mustName cX7_mustName 1 none :: wG) ({ frames := 5, cells := 0, slots := 0, locals := 134 }) (va_Pc [.ref oM] (Pw dC dI sz [(oc7 oM iM_thrown rM_tape iM_taped iM_size iM_at iM_end iM_token iM_whole iM_nameSize iM_fault iM_place iM_trouble rM_letters iM_failed iM_hasCourt rM_r rM_fresh rM_told rM_read rM_st rM_undone rM_kept iM_undos iM_images rM_fresher iM_fresherSize iM_scale iM_night rM_heardRow rM_cutRow iM_breaths iM_cutMany iM_allBreaths rM_trial rM_words iM_fewestBreaths iM_orderMany iM_orderSum iM_leastOrder rM_often iM_setMany iM_someOf iM_allOf iM_allWeight iM_enoughWeight iM_worthSum iM_firstRest iM_leastDrawn), (arI rM_letters kM_letters 8 fM_letters)] [(kM_letters, .int)])) (va_Qv (fun (_ : Nat) => True) (fun (_ : Nat) (t : State) => ∃ (niM_fault : Int32) (niM_place : Int32) (niM_failed : Int32), (0 ≤ niM_failed.toInt ∧ niM_failed.toInt ≤ 1) ∧ (iM_failed.toInt ≤ niM_failed.toInt) ∧ (ImpP (niM_failed.toInt ≤ 0) (iM_token.toInt = 2)) ∧ (PX7_mustName iM_at iM_token iM_nameSize iM_fault iM_place fM_letters iM_failed = (niM_fault, niM_place, niM_failed)) ∧ Bw dC dI (va_A [(oc7 oM iM_thrown rM_tape iM_taped iM_size iM_at iM_end iM_token iM_whole iM_nameSize iM_fault iM_place iM_trouble rM_letters iM_failed iM_hasCourt rM_r rM_fresh rM_told rM_read rM_st rM_undone rM_kept iM_undos iM_images rM_fresher iM_fresherSize iM_scale iM_night rM_heardRow rM_cutRow iM_breaths iM_cutMany iM_allBreaths rM_trial rM_words iM_fewestBreaths iM_orderMany iM_orderSum iM_leastOrder rM_often iM_setMany iM_someOf iM_allOf iM_allWeight iM_enoughWeight iM_worthSum iM_firstRest iM_leastDrawn), (arI rM_letters kM_letters 8 fM_letters)] sz) [(oc7 oM iM_thrown rM_tape iM_taped iM_size iM_at iM_end iM_token iM_whole iM_nameSize niM_fault niM_place iM_trouble rM_letters niM_failed iM_hasCourt rM_r rM_fresh rM_told rM_read rM_st rM_undone rM_kept iM_undos iM_images rM_fresher iM_fresherSize iM_scale iM_night rM_heardRow rM_cutRow iM_breaths iM_cutMany iM_allBreaths rM_trial rM_words iM_fewestBreaths iM_orderMany iM_orderSum iM_leastOrder rM_often iM_setMany iM_someOf iM_allOf iM_allWeight iM_enoughWeight iM_worthSum iM_firstRest iM_leastDrawn), (arI rM_letters kM_letters 8 fM_letters)] [(kM_letters, .int)] t) (va_A [(oc7 oM iM_thrown rM_tape iM_taped iM_size iM_at iM_end iM_token iM_whole iM_nameSize iM_fault iM_place iM_trouble rM_letters iM_failed iM_hasCourt rM_r rM_fresh rM_told rM_read rM_st rM_undone rM_kept iM_undos iM_images rM_fresher iM_fresherSize iM_scale iM_night rM_heardRow rM_cutRow iM_breaths iM_cutMany iM_allBreaths rM_trial rM_words iM_fewestBreaths iM_orderMany iM_orderSum iM_leastOrder rM_often iM_setMany iM_someOf iM_allOf iM_allWeight iM_enoughWeight iM_worthSum iM_firstRest iM_leastDrawn), (arI rM_letters kM_letters 8 fM_letters)] sz)) 0 0 (va_A [(oc7 oM iM_thrown rM_tape iM_taped iM_size iM_at iM_end iM_token iM_whole iM_nameSize iM_fault iM_place iM_trouble rM_letters iM_failed iM_hasCourt rM_r rM_fresh rM_told rM_read rM_st rM_undone rM_kept iM_undos iM_images rM_fresher iM_fresherSize iM_scale iM_night rM_heardRow rM_cutRow iM_breaths iM_cutMany iM_allBreaths rM_trial rM_words iM_fewestBreaths iM_orderMany iM_orderSum iM_leastOrder rM_often iM_setMany iM_someOf iM_allOf iM_allWeight iM_enoughWeight iM_worthSum iM_firstRest iM_leastDrawn), (arI rM_letters kM_letters 8 fM_letters)] sz) := by
  refine Met.ofW (cc := cX7_mustName) (maxL := 1) (ret := none) (by decide) rfl ?_
  intro p e s m args below meth c s₁ B hml hv
  obtain ⟨rfl, hsz, hP, hK, hD0, hE⟩ := hv
  have hx := B.exec
  have hb := B.bytes
  have hr := B.returns
  have hts : ∀ w ∈ wG, w.before ([.ref oM] : List Value).toArray s = true := fun w h => atoms_spec (ws := Cond.code yX7_mustName cX7_mustName 1 none :: wG) B.pre w (List.mem_cons_of_mem _ h)
  have hown : s.vm.findClass RX7 = some m.cls := findClass_of_methodNamed B.named
  have hlocks := B.notSynchronized
  subst hsz
  have hD := hD0.self (sz := s.heap.size)
  generalize hAe : va_A [(oc7 oM iM_thrown rM_tape iM_taped iM_size iM_at iM_end iM_token iM_whole iM_nameSize iM_fault iM_place iM_trouble rM_letters iM_failed iM_hasCourt rM_r rM_fresh rM_told rM_read rM_st rM_undone rM_kept iM_undos iM_images rM_fresher iM_fresherSize iM_scale iM_night rM_heardRow rM_cutRow iM_breaths iM_cutMany iM_allBreaths rM_trial rM_words iM_fewestBreaths iM_orderMany iM_orderSum iM_leastOrder rM_often iM_setMany iM_someOf iM_allOf iM_allWeight iM_enoughWeight iM_worthSum iM_firstRest iM_leastDrawn), (arI rM_letters kM_letters 8 fM_letters)] s.heap.size = A at hD hE ⊢
  have hA : ∀ q : Nat, s.heap.size ≤ q → A q := fun q h => by rw [← hAe]; exact Or.inr h
  have hS : va_S A s.heap s.heap [] := va_S.rf
  have hl := lv_entry ([.ref oM]) (n := 1) (Nat.le_of_ble_eq_true rfl)
  rw [lg_entry_eq]
  generalize (lg_sl ([.ref oM]) ++ List.replicate (1 - (lg_sl ([.ref oM])).length) Slot.unset).toArray = ls at hl ⊢
  have hl : lv_has ls 1 [(0, .ref oM)] := hl
  have hG := PX7_mustName_eq iM_at iM_token iM_nameSize iM_fault iM_place fM_letters iM_failed
  refine lv_aload_n hx hb dX7_mustName_0 rfl (lv_at hl 0 rfl) ?_
  refine va_get (D := (dC, dI)) (ci := 7) (v := .int iM_token) (C := RX7) (T := TX7) (N := 48) hx hb hts inX7 hown hK hP 0 rfl rfl 6 (by decide) (hts _ wd_383) (fun _ h9 => h9) rfl dX7_mustName_1 ?_
  refine lv_iconst (v := 2) hx hb dX7_mustName_4 (by decide) ?_
  refine lv_icmp_ne (tgt := 80) hx hb dX7_mustName_5 (by decide) (fun c_4981 => ?_) (fun c_4981 => ?_)
  · skip
    have hG := hG.trans (if_neg c_4981)
    have gc_4981 := ti_ne c_4981 rfl kc_2
    refine lv_aload_n hx hb dX7_mustName_80 rfl (lv_at hl 0 rfl) ?_
    refine lv_iconst (v := 1) hx hb dX7_mustName_81 (by decide) ?_
    refine lv_aload_n hx hb dX7_mustName_82 rfl (lv_at hl 0 rfl) ?_
    refine va_get (D := (dC, dI)) (ci := 7) (v := .int iM_at) (C := RX7) (T := TX7) (N := 48) hx hb hts inX7 hown hK hP 0 rfl rfl 4 (by decide) (hts _ wd_384) (fun _ h9 => h9) rfl dX7_mustName_83 ?_
    have hFc := va_free (wc := [(oc7 oM iM_thrown rM_tape iM_taped iM_size iM_at iM_end iM_token iM_whole iM_nameSize iM_fault iM_place iM_trouble rM_letters iM_failed iM_hasCourt rM_r rM_fresh rM_told rM_read rM_st rM_undone rM_kept iM_undos iM_images rM_fresher iM_fresherSize iM_scale iM_night rM_heardRow rM_cutRow iM_breaths iM_cutMany iM_allBreaths rM_trial rM_words iM_fewestBreaths iM_orderMany iM_orderSum iM_leastOrder rM_often iM_setMany iM_someOf iM_allOf iM_allWeight iM_enoughWeight iM_worthSum iM_firstRest iM_leastDrawn)]) hD hS hA [0] rfl
    refine va_callv (va_runV (As := [.int 1, .int iM_at]) (rest := []) ⟨hx, hb, hml, hown, hts⟩ (tX7_wrong l dC dI _ oM iM_thrown rM_tape iM_taped iM_size iM_at iM_end iM_token iM_whole iM_nameSize iM_fault iM_place iM_trouble rM_letters iM_failed iM_hasCourt rM_r rM_fresh rM_told rM_read rM_st rM_undone rM_kept iM_undos iM_images rM_fresher iM_fresherSize iM_scale iM_night rM_heardRow rM_cutRow iM_breaths iM_cutMany iM_allBreaths rM_trial rM_words iM_fewestBreaths iM_orderMany iM_orderSum iM_leastOrder rM_often iM_setMany iM_someOf iM_allOf iM_allWeight iM_enoughWeight iM_worthSum iM_firstRest iM_leastDrawn 1 iM_at (by first | omega | decide) (by first | omega | decide) (by first | omega | decide) (by first | omega | decide) (by first | omega | decide) (by first | omega | decide) (by first | omega | decide) (by first | omega | decide) (by first | omega | decide) (by first | omega | decide) (by first | omega | decide) (by first | assumption | exact (fun h9 => by have q0 := kc_0; have q1 := kc_1; omega))) (cwV 2 hts (wd_V wd_430 wd_431 wd_432 wd_5 (wd_c wd_433)) rfl rfl rfl (by decide +kernel) ⟨Nat.le_of_ble_eq_true rfl, Nat.le_of_ble_eq_true rfl⟩) ⟨Pw.fb, va_recv hK hP (ci := 7) (q0 := 0) rfl rfl, fun U hU hW => Pw.to (hP.sub [0] rfl) (hD.sub [0] (by decide) rfl) (hK.sub [] rfl) hE hS hFc hU hW⟩ rfl rfl hl.1 rfl (lv_room (Nat.le_of_ble_eq_true rfl)) dX7_mustName_86 ⟨Nat.le_of_ble_eq_true rfl, Nat.le_of_ble_eq_true rfl⟩) hS (fun q _ h => hFc q h) hFc (fun u t H locs ht hvm hw hB hz1 hk1 hS => ?_)
    obtain ⟨x_4982, x_4983, x_4984, b_x_4984, e_x_4982_0, e_x_4982_1, hB⟩ := hB
    obtain ⟨hP, hD, hK⟩ := Bw.go (ws' := [(arI rM_letters kM_letters 8 fM_letters), (oc7 oM iM_thrown rM_tape iM_taped iM_size iM_at iM_end iM_token iM_whole iM_nameSize x_4982 x_4983 iM_trouble rM_letters x_4984 iM_hasCourt rM_r rM_fresh rM_told rM_read rM_st rM_undone rM_kept iM_undos iM_images rM_fresher iM_fresherSize iM_scale iM_night rM_heardRow rM_cutRow iM_breaths iM_cutMany iM_allBreaths rM_trial rM_words iM_fewestBreaths iM_orderMany iM_orderSum iM_leastOrder rM_often iM_setMany iM_someOf iM_allOf iM_allWeight iM_enoughWeight iM_worthSum iM_firstRest iM_leastDrawn)]) (tys' := [(kM_letters, .int)]) hB rfl ht hvm hP hD hK [0] [1] rfl (by decide) (by decide) [0] hk1 hFc rfl rfl rfl
    clear hz1 hk1 hvm ht hB
    have hG := hG.trans (un3_eq e_x_4982_1)
    exact W.vret hx hb hr (fun t ht hW => ⟨⟨0, rfl, trivial, ⟨x_4982, x_4983, x_4984, b_x_4984, (by first | assumption | (have q0 := kc_0; have q1 := kc_1; omega)), (by first | assumption | exact (fun h9 => by have q0 := kc_0; have q1 := kc_1; omega)), hG, Bw.to (hP.sub [1, 0] rfl) (hD.sub [1, 0] (by decide) rfl) (hK.sub [0] rfl) ht hW⟩⟩, hS.F ht⟩) hS.2.2 dX7_mustName_89
  · skip
    have hG := hG.trans (if_pos c_4981)
    have gc_4981 := ti_eq c_4981 rfl kc_2
    have h_4985 := r_T (by omega)
    clear r_T
    refine lv_aload_n hx hb dX7_mustName_8 rfl (lv_at hl 0 rfl) ?_
    obtain ⟨sa_4986, vsa_4986, nsa_4986, fsa_4986, hnsa_4986, hnesa_4986, hfesa_4986, hRsa_4986, hSsa_4986⟩ := hE.2.2.1 (134, "court", [99, 111, 117, 114, 116]) (by decide)
    have hG := hG.trans (lt_eq hnesa_4986)
    have hG := hG.trans (lt_eq hfesa_4986)
    refine va_ldcS hx hb hown hRsa_4986 dX7_mustName_9 ?_
    have hFc := va_free (wc := [(oc7 oM iM_thrown rM_tape iM_taped iM_size iM_at iM_end iM_token iM_whole iM_nameSize iM_fault iM_place iM_trouble rM_letters iM_failed iM_hasCourt rM_r rM_fresh rM_told rM_read rM_st rM_undone rM_kept iM_undos iM_images rM_fresher iM_fresherSize iM_scale iM_night rM_heardRow rM_cutRow iM_breaths iM_cutMany iM_allBreaths rM_trial rM_words iM_fewestBreaths iM_orderMany iM_orderSum iM_leastOrder rM_often iM_setMany iM_someOf iM_allOf iM_allWeight iM_enoughWeight iM_worthSum iM_firstRest iM_leastDrawn), (arI rM_letters kM_letters 8 fM_letters)]) hD hS hA [0, 1] rfl
    refine va_calli (va_runV (As := [.ref sa_4986]) (rest := []) ⟨hx, hb, hml, hown, hts⟩ (tX7_isWord l dC dI _ oM iM_thrown rM_tape iM_taped iM_size iM_at iM_end iM_token iM_whole iM_nameSize iM_fault iM_place iM_trouble rM_letters fM_letters kM_letters iM_failed iM_hasCourt rM_r rM_fresh rM_told rM_read rM_st rM_undone rM_kept iM_undos iM_images rM_fresher iM_fresherSize iM_scale iM_night rM_heardRow rM_cutRow iM_breaths iM_cutMany iM_allBreaths rM_trial rM_words iM_fewestBreaths iM_orderMany iM_orderSum iM_leastOrder rM_often iM_setMany iM_someOf iM_allOf iM_allWeight iM_enoughWeight iM_worthSum iM_firstRest iM_leastDrawn sa_4986 vsa_4986 nsa_4986 fsa_4986 (by first | omega | decide) (by first | omega | decide) (by first | omega | decide) (by first | omega | decide) (by first | omega | decide) (by first | omega | decide) (by first | omega | decide) (by first | omega | decide) (by first | omega | decide) (by first | omega | decide) (by first | omega | decide) (by first | assumption | exact (fun h9 => by have q0 := kc_0; have q1 := kc_1; omega)) (by first | omega | decide | assumption | (have q0 := kc_0; have q1 := kc_1; omega) | (intro h; exact absurd h (by decide)))) (cwV 1 hts (wd_V wd_420 wd_421 wd_422 wd_5 (wd_c wd_423)) rfl rfl rfl (by decide +kernel) ⟨Nat.le_of_ble_eq_true rfl, Nat.le_of_ble_eq_true rfl⟩) ⟨Pq.fb, va_recv hK hP (ci := 7) (q0 := 0) rfl rfl, fun U hU hW => Pq.to (hP.sub [0, 1] rfl) (hD.sub [0, 1] (by decide) rfl) (hK.sub [0] rfl) hSsa_4986 hE hS hFc hU hW⟩ rfl rfl hl.1 rfl (lv_room (Nat.le_of_ble_eq_true rfl)) dX7_mustName_11 ⟨Nat.le_of_ble_eq_true rfl, Nat.le_of_ble_eq_true rfl⟩) hS (fun q _ h => hFc q h) hFc (fun r u t H locs ht hvm hw hB hz1 hk1 hS => ?_)
    have hru9 := hw.2
    have hw := hw.1
    obtain ⟨hP, hD, hK⟩ := Bw.go (ws' := [(oc7 oM iM_thrown rM_tape iM_taped iM_size iM_at iM_end iM_token iM_whole iM_nameSize iM_fault iM_place iM_trouble rM_letters iM_failed iM_hasCourt rM_r rM_fresh rM_told rM_read rM_st rM_undone rM_kept iM_undos iM_images rM_fresher iM_fresherSize iM_scale iM_night rM_heardRow rM_cutRow iM_breaths iM_cutMany iM_allBreaths rM_trial rM_words iM_fewestBreaths iM_orderMany iM_orderSum iM_leastOrder rM_often iM_setMany iM_someOf iM_allOf iM_allWeight iM_enoughWeight iM_worthSum iM_firstRest iM_leastDrawn), (arI rM_letters kM_letters 8 fM_letters)]) (tys' := [(kM_letters, .int)]) hB rfl ht hvm hP hD hK [0, 1] [] rfl (by decide) (by decide) [] hk1 hFc rfl rfl rfl
    clear hz1 hk1 hvm ht hB
    obtain ⟨x_4987, rfl⟩ : ∃ z, z = r := ⟨_, rfl⟩
    have hG := hG.trans (lt_eq hru9.symm)
    have bx_4987 := hw.1
    have dx_4987 := bz_ti bx_4987
    have lx_4987 := hw.2
    refine lv_if_ne (tgt := 80) hx hb dX7_mustName_14 (by decide) (fun c_4988 => ?_) (fun c_4988 => ?_)
    · skip
      have hG := hG.trans (if_neg c_4988)
      have gc_4988 := ti_ne c_4988 rfl kc_0
      replace gc_4988 : (-1) * x_4987.toInt + 1 ≤ 0 := by omega
      have h_4989 := lx_4987 (by omega)
      clear lx_4987
      refine lv_aload_n hx hb dX7_mustName_80 rfl (lv_at hl 0 rfl) ?_
      refine lv_iconst (v := 1) hx hb dX7_mustName_81 (by decide) ?_
      refine lv_aload_n hx hb dX7_mustName_82 rfl (lv_at hl 0 rfl) ?_
      refine va_get (D := (dC, dI)) (ci := 7) (v := .int iM_at) (C := RX7) (T := TX7) (N := 48) hx hb hts inX7 hown hK hP 0 rfl rfl 4 (by decide) (hts _ wd_384) (fun _ h9 => h9) rfl dX7_mustName_83 ?_
      have hFc := va_free (wc := [(oc7 oM iM_thrown rM_tape iM_taped iM_size iM_at iM_end iM_token iM_whole iM_nameSize iM_fault iM_place iM_trouble rM_letters iM_failed iM_hasCourt rM_r rM_fresh rM_told rM_read rM_st rM_undone rM_kept iM_undos iM_images rM_fresher iM_fresherSize iM_scale iM_night rM_heardRow rM_cutRow iM_breaths iM_cutMany iM_allBreaths rM_trial rM_words iM_fewestBreaths iM_orderMany iM_orderSum iM_leastOrder rM_often iM_setMany iM_someOf iM_allOf iM_allWeight iM_enoughWeight iM_worthSum iM_firstRest iM_leastDrawn)]) hD hS hA [0] rfl
      refine va_callv (va_runV (As := [.int 1, .int iM_at]) (rest := []) ⟨hx, hb, hml, hown, hts⟩ (tX7_wrong l dC dI _ oM iM_thrown rM_tape iM_taped iM_size iM_at iM_end iM_token iM_whole iM_nameSize iM_fault iM_place iM_trouble rM_letters iM_failed iM_hasCourt rM_r rM_fresh rM_told rM_read rM_st rM_undone rM_kept iM_undos iM_images rM_fresher iM_fresherSize iM_scale iM_night rM_heardRow rM_cutRow iM_breaths iM_cutMany iM_allBreaths rM_trial rM_words iM_fewestBreaths iM_orderMany iM_orderSum iM_leastOrder rM_often iM_setMany iM_someOf iM_allOf iM_allWeight iM_enoughWeight iM_worthSum iM_firstRest iM_leastDrawn 1 iM_at (by first | omega | decide) (by first | omega | decide) (by first | omega | decide) (by first | omega | decide) (by first | omega | decide) (by first | omega | decide) (by first | omega | decide) (by first | omega | decide) (by first | omega | decide) (by first | omega | decide) (by first | omega | decide) (by first | assumption | exact (fun h9 => by have q0 := kc_0; have q1 := kc_1; omega))) (cwV 2 hts (wd_V wd_430 wd_431 wd_432 wd_5 (wd_c wd_433)) rfl rfl rfl (by decide +kernel) ⟨Nat.le_of_ble_eq_true rfl, Nat.le_of_ble_eq_true rfl⟩) ⟨Pw.fb, va_recv hK hP (ci := 7) (q0 := 0) rfl rfl, fun U hU hW => Pw.to (hP.sub [0] rfl) (hD.sub [0] (by decide) rfl) (hK.sub [] rfl) hE hS hFc hU hW⟩ rfl rfl hl.1 rfl (lv_room (Nat.le_of_ble_eq_true rfl)) dX7_mustName_86 ⟨Nat.le_of_ble_eq_true rfl, Nat.le_of_ble_eq_true rfl⟩) hS (fun q _ h => hFc q h) hFc (fun u t H locs ht hvm hw hB hz1 hk1 hS => ?_)
      obtain ⟨x_4990, x_4991, x_4992, b_x_4992, e_x_4990_0, e_x_4990_1, hB⟩ := hB
      obtain ⟨hP, hD, hK⟩ := Bw.go (ws' := [(arI rM_letters kM_letters 8 fM_letters), (oc7 oM iM_thrown rM_tape iM_taped iM_size iM_at iM_end iM_token iM_whole iM_nameSize x_4990 x_4991 iM_trouble rM_letters x_4992 iM_hasCourt rM_r rM_fresh rM_told rM_read rM_st rM_undone rM_kept iM_undos iM_images rM_fresher iM_fresherSize iM_scale iM_night rM_heardRow rM_cutRow iM_breaths iM_cutMany iM_allBreaths rM_trial rM_words iM_fewestBreaths iM_orderMany iM_orderSum iM_leastOrder rM_often iM_setMany iM_someOf iM_allOf iM_allWeight iM_enoughWeight iM_worthSum iM_firstRest iM_leastDrawn)]) (tys' := [(kM_letters, .int)]) hB rfl ht hvm hP hD hK [0] [1] rfl (by decide) (by decide) [0] hk1 hFc rfl rfl rfl
      clear hz1 hk1 hvm ht hB
      have hG := hG.trans (un3_eq e_x_4990_1)
      exact W.vret hx hb hr (fun t ht hW => ⟨⟨0, rfl, trivial, ⟨x_4990, x_4991, x_4992, b_x_4992, (by first | assumption | (have q0 := kc_0; have q1 := kc_1; omega)), (by first | assumption | exact (fun h9 => by have q0 := kc_0; have q1 := kc_1; omega)), hG, Bw.to (hP.sub [1, 0] rfl) (hD.sub [1, 0] (by decide) rfl) (hK.sub [0] rfl) ht hW⟩⟩, hS.F ht⟩) hS.2.2 dX7_mustName_89
    · skip
      have hG := hG.trans (if_pos c_4988)
      have gc_4988 := ti_eq c_4988 rfl kc_0
      clear lx_4987
      refine lv_aload_n hx hb dX7_mustName_17 rfl (lv_at hl 0 rfl) ?_
      obtain ⟨sa_4993, vsa_4993, nsa_4993, fsa_4993, hnsa_4993, hnesa_4993, hfesa_4993, hRsa_4993, hSsa_4993⟩ := hE.2.2.1 (136, "word", [119, 111, 114, 100]) (by decide)
      have hG := hG.trans (lt_eq hnesa_4993)
      have hG := hG.trans (lt_eq hfesa_4993)
      refine va_ldcS hx hb hown hRsa_4993 dX7_mustName_18 ?_
      have hFc := va_free (wc := [(oc7 oM iM_thrown rM_tape iM_taped iM_size iM_at iM_end iM_token iM_whole iM_nameSize iM_fault iM_place iM_trouble rM_letters iM_failed iM_hasCourt rM_r rM_fresh rM_told rM_read rM_st rM_undone rM_kept iM_undos iM_images rM_fresher iM_fresherSize iM_scale iM_night rM_heardRow rM_cutRow iM_breaths iM_cutMany iM_allBreaths rM_trial rM_words iM_fewestBreaths iM_orderMany iM_orderSum iM_leastOrder rM_often iM_setMany iM_someOf iM_allOf iM_allWeight iM_enoughWeight iM_worthSum iM_firstRest iM_leastDrawn), (arI rM_letters kM_letters 8 fM_letters)]) hD hS hA [0, 1] rfl
      refine va_calli (va_runV (As := [.ref sa_4993]) (rest := []) ⟨hx, hb, hml, hown, hts⟩ (tX7_isWord l dC dI _ oM iM_thrown rM_tape iM_taped iM_size iM_at iM_end iM_token iM_whole iM_nameSize iM_fault iM_place iM_trouble rM_letters fM_letters kM_letters iM_failed iM_hasCourt rM_r rM_fresh rM_told rM_read rM_st rM_undone rM_kept iM_undos iM_images rM_fresher iM_fresherSize iM_scale iM_night rM_heardRow rM_cutRow iM_breaths iM_cutMany iM_allBreaths rM_trial rM_words iM_fewestBreaths iM_orderMany iM_orderSum iM_leastOrder rM_often iM_setMany iM_someOf iM_allOf iM_allWeight iM_enoughWeight iM_worthSum iM_firstRest iM_leastDrawn sa_4993 vsa_4993 nsa_4993 fsa_4993 (by first | omega | decide) (by first | omega | decide) (by first | omega | decide) (by first | omega | decide) (by first | omega | decide) (by first | omega | decide) (by first | omega | decide) (by first | omega | decide) (by first | omega | decide) (by first | omega | decide) (by first | omega | decide) (by first | assumption | exact (fun h9 => by have q0 := kc_0; have q1 := kc_1; omega)) (by first | omega | decide | assumption | (have q0 := kc_0; have q1 := kc_1; omega) | (intro h; exact absurd h (by decide)))) (cwV 1 hts (wd_V wd_420 wd_421 wd_422 wd_5 (wd_c wd_423)) rfl rfl rfl (by decide +kernel) ⟨Nat.le_of_ble_eq_true rfl, Nat.le_of_ble_eq_true rfl⟩) ⟨Pq.fb, va_recv hK hP (ci := 7) (q0 := 0) rfl rfl, fun U hU hW => Pq.to (hP.sub [0, 1] rfl) (hD.sub [0, 1] (by decide) rfl) (hK.sub [0] rfl) hSsa_4993 hE hS hFc hU hW⟩ rfl rfl hl.1 rfl (lv_room (Nat.le_of_ble_eq_true rfl)) dX7_mustName_20 ⟨Nat.le_of_ble_eq_true rfl, Nat.le_of_ble_eq_true rfl⟩) hS (fun q _ h => hFc q h) hFc (fun r u t H locs ht hvm hw hB hz1 hk1 hS => ?_)
      have hru9 := hw.2
      have hw := hw.1
      obtain ⟨hP, hD, hK⟩ := Bw.go (ws' := [(oc7 oM iM_thrown rM_tape iM_taped iM_size iM_at iM_end iM_token iM_whole iM_nameSize iM_fault iM_place iM_trouble rM_letters iM_failed iM_hasCourt rM_r rM_fresh rM_told rM_read rM_st rM_undone rM_kept iM_undos iM_images rM_fresher iM_fresherSize iM_scale iM_night rM_heardRow rM_cutRow iM_breaths iM_cutMany iM_allBreaths rM_trial rM_words iM_fewestBreaths iM_orderMany iM_orderSum iM_leastOrder rM_often iM_setMany iM_someOf iM_allOf iM_allWeight iM_enoughWeight iM_worthSum iM_firstRest iM_leastDrawn), (arI rM_letters kM_letters 8 fM_letters)]) (tys' := [(kM_letters, .int)]) hB rfl ht hvm hP hD hK [0, 1] [] rfl (by decide) (by decide) [] hk1 hFc rfl rfl rfl
      clear hz1 hk1 hvm ht hB
      obtain ⟨x_4994, rfl⟩ : ∃ z, z = r := ⟨_, rfl⟩
      have hG := hG.trans (lt_eq hru9.symm)
      have bx_4994 := hw.1
      have dx_4994 := bz_ti bx_4994
      have lx_4994 := hw.2
      refine lv_if_ne (tgt := 80) hx hb dX7_mustName_23 (by decide) (fun c_4995 => ?_) (fun c_4995 => ?_)
      · skip
        have hG := hG.trans (if_neg c_4995)
        have gc_4995 := ti_ne c_4995 rfl kc_0
        replace gc_4995 : (-1) * x_4994.toInt + 1 ≤ 0 := by omega
        have h_4996 := lx_4994 (by omega)
        clear lx_4994
        refine lv_aload_n hx hb dX7_mustName_80 rfl (lv_at hl 0 rfl) ?_
        refine lv_iconst (v := 1) hx hb dX7_mustName_81 (by decide) ?_
        refine lv_aload_n hx hb dX7_mustName_82 rfl (lv_at hl 0 rfl) ?_
        refine va_get (D := (dC, dI)) (ci := 7) (v := .int iM_at) (C := RX7) (T := TX7) (N := 48) hx hb hts inX7 hown hK hP 0 rfl rfl 4 (by decide) (hts _ wd_384) (fun _ h9 => h9) rfl dX7_mustName_83 ?_
        have hFc := va_free (wc := [(oc7 oM iM_thrown rM_tape iM_taped iM_size iM_at iM_end iM_token iM_whole iM_nameSize iM_fault iM_place iM_trouble rM_letters iM_failed iM_hasCourt rM_r rM_fresh rM_told rM_read rM_st rM_undone rM_kept iM_undos iM_images rM_fresher iM_fresherSize iM_scale iM_night rM_heardRow rM_cutRow iM_breaths iM_cutMany iM_allBreaths rM_trial rM_words iM_fewestBreaths iM_orderMany iM_orderSum iM_leastOrder rM_often iM_setMany iM_someOf iM_allOf iM_allWeight iM_enoughWeight iM_worthSum iM_firstRest iM_leastDrawn)]) hD hS hA [0] rfl
        refine va_callv (va_runV (As := [.int 1, .int iM_at]) (rest := []) ⟨hx, hb, hml, hown, hts⟩ (tX7_wrong l dC dI _ oM iM_thrown rM_tape iM_taped iM_size iM_at iM_end iM_token iM_whole iM_nameSize iM_fault iM_place iM_trouble rM_letters iM_failed iM_hasCourt rM_r rM_fresh rM_told rM_read rM_st rM_undone rM_kept iM_undos iM_images rM_fresher iM_fresherSize iM_scale iM_night rM_heardRow rM_cutRow iM_breaths iM_cutMany iM_allBreaths rM_trial rM_words iM_fewestBreaths iM_orderMany iM_orderSum iM_leastOrder rM_often iM_setMany iM_someOf iM_allOf iM_allWeight iM_enoughWeight iM_worthSum iM_firstRest iM_leastDrawn 1 iM_at (by first | omega | decide) (by first | omega | decide) (by first | omega | decide) (by first | omega | decide) (by first | omega | decide) (by first | omega | decide) (by first | omega | decide) (by first | omega | decide) (by first | omega | decide) (by first | omega | decide) (by first | omega | decide) (by first | assumption | exact (fun h9 => by have q0 := kc_0; have q1 := kc_1; omega))) (cwV 2 hts (wd_V wd_430 wd_431 wd_432 wd_5 (wd_c wd_433)) rfl rfl rfl (by decide +kernel) ⟨Nat.le_of_ble_eq_true rfl, Nat.le_of_ble_eq_true rfl⟩) ⟨Pw.fb, va_recv hK hP (ci := 7) (q0 := 0) rfl rfl, fun U hU hW => Pw.to (hP.sub [0] rfl) (hD.sub [0] (by decide) rfl) (hK.sub [] rfl) hE hS hFc hU hW⟩ rfl rfl hl.1 rfl (lv_room (Nat.le_of_ble_eq_true rfl)) dX7_mustName_86 ⟨Nat.le_of_ble_eq_true rfl, Nat.le_of_ble_eq_true rfl⟩) hS (fun q _ h => hFc q h) hFc (fun u t H locs ht hvm hw hB hz1 hk1 hS => ?_)
        obtain ⟨x_4997, x_4998, x_4999, b_x_4999, e_x_4997_0, e_x_4997_1, hB⟩ := hB
        obtain ⟨hP, hD, hK⟩ := Bw.go (ws' := [(arI rM_letters kM_letters 8 fM_letters), (oc7 oM iM_thrown rM_tape iM_taped iM_size iM_at iM_end iM_token iM_whole iM_nameSize x_4997 x_4998 iM_trouble rM_letters x_4999 iM_hasCourt rM_r rM_fresh rM_told rM_read rM_st rM_undone rM_kept iM_undos iM_images rM_fresher iM_fresherSize iM_scale iM_night rM_heardRow rM_cutRow iM_breaths iM_cutMany iM_allBreaths rM_trial rM_words iM_fewestBreaths iM_orderMany iM_orderSum iM_leastOrder rM_often iM_setMany iM_someOf iM_allOf iM_allWeight iM_enoughWeight iM_worthSum iM_firstRest iM_leastDrawn)]) (tys' := [(kM_letters, .int)]) hB rfl ht hvm hP hD hK [0] [1] rfl (by decide) (by decide) [0] hk1 hFc rfl rfl rfl
        clear hz1 hk1 hvm ht hB
        have hG := hG.trans (un3_eq e_x_4997_1)
        exact W.vret hx hb hr (fun t ht hW => ⟨⟨0, rfl, trivial, ⟨x_4997, x_4998, x_4999, b_x_4999, (by first | assumption | (have q0 := kc_0; have q1 := kc_1; omega)), (by first | assumption | exact (fun h9 => by have q0 := kc_0; have q1 := kc_1; omega)), hG, Bw.to (hP.sub [1, 0] rfl) (hD.sub [1, 0] (by decide) rfl) (hK.sub [0] rfl) ht hW⟩⟩, hS.F ht⟩) hS.2.2 dX7_mustName_89
      · skip
        have hG := hG.trans (if_pos c_4995)
        have gc_4995 := ti_eq c_4995 rfl kc_0
        clear lx_4994
        refine lv_aload_n hx hb dX7_mustName_26 rfl (lv_at hl 0 rfl) ?_
        obtain ⟨sa_5000, vsa_5000, nsa_5000, fsa_5000, hnsa_5000, hnesa_5000, hfesa_5000, hRsa_5000, hSsa_5000⟩ := hE.2.2.1 (138, "king", [107, 105, 110, 103]) (by decide)
        have hG := hG.trans (lt_eq hnesa_5000)
        have hG := hG.trans (lt_eq hfesa_5000)
        refine va_ldcS hx hb hown hRsa_5000 dX7_mustName_27 ?_
        have hFc := va_free (wc := [(oc7 oM iM_thrown rM_tape iM_taped iM_size iM_at iM_end iM_token iM_whole iM_nameSize iM_fault iM_place iM_trouble rM_letters iM_failed iM_hasCourt rM_r rM_fresh rM_told rM_read rM_st rM_undone rM_kept iM_undos iM_images rM_fresher iM_fresherSize iM_scale iM_night rM_heardRow rM_cutRow iM_breaths iM_cutMany iM_allBreaths rM_trial rM_words iM_fewestBreaths iM_orderMany iM_orderSum iM_leastOrder rM_often iM_setMany iM_someOf iM_allOf iM_allWeight iM_enoughWeight iM_worthSum iM_firstRest iM_leastDrawn), (arI rM_letters kM_letters 8 fM_letters)]) hD hS hA [0, 1] rfl
        refine va_calli (va_runV (As := [.ref sa_5000]) (rest := []) ⟨hx, hb, hml, hown, hts⟩ (tX7_isWord l dC dI _ oM iM_thrown rM_tape iM_taped iM_size iM_at iM_end iM_token iM_whole iM_nameSize iM_fault iM_place iM_trouble rM_letters fM_letters kM_letters iM_failed iM_hasCourt rM_r rM_fresh rM_told rM_read rM_st rM_undone rM_kept iM_undos iM_images rM_fresher iM_fresherSize iM_scale iM_night rM_heardRow rM_cutRow iM_breaths iM_cutMany iM_allBreaths rM_trial rM_words iM_fewestBreaths iM_orderMany iM_orderSum iM_leastOrder rM_often iM_setMany iM_someOf iM_allOf iM_allWeight iM_enoughWeight iM_worthSum iM_firstRest iM_leastDrawn sa_5000 vsa_5000 nsa_5000 fsa_5000 (by first | omega | decide) (by first | omega | decide) (by first | omega | decide) (by first | omega | decide) (by first | omega | decide) (by first | omega | decide) (by first | omega | decide) (by first | omega | decide) (by first | omega | decide) (by first | omega | decide) (by first | omega | decide) (by first | assumption | exact (fun h9 => by have q0 := kc_0; have q1 := kc_1; omega)) (by first | omega | decide | assumption | (have q0 := kc_0; have q1 := kc_1; omega) | (intro h; exact absurd h (by decide)))) (cwV 1 hts (wd_V wd_420 wd_421 wd_422 wd_5 (wd_c wd_423)) rfl rfl rfl (by decide +kernel) ⟨Nat.le_of_ble_eq_true rfl, Nat.le_of_ble_eq_true rfl⟩) ⟨Pq.fb, va_recv hK hP (ci := 7) (q0 := 0) rfl rfl, fun U hU hW => Pq.to (hP.sub [0, 1] rfl) (hD.sub [0, 1] (by decide) rfl) (hK.sub [0] rfl) hSsa_5000 hE hS hFc hU hW⟩ rfl rfl hl.1 rfl (lv_room (Nat.le_of_ble_eq_true rfl)) dX7_mustName_29 ⟨Nat.le_of_ble_eq_true rfl, Nat.le_of_ble_eq_true rfl⟩) hS (fun q _ h => hFc q h) hFc (fun r u t H locs ht hvm hw hB hz1 hk1 hS => ?_)
        have hru9 := hw.2
        have hw := hw.1
        obtain ⟨hP, hD, hK⟩ := Bw.go (ws' := [(oc7 oM iM_thrown rM_tape iM_taped iM_size iM_at iM_end iM_token iM_whole iM_nameSize iM_fault iM_place iM_trouble rM_letters iM_failed iM_hasCourt rM_r rM_fresh rM_told rM_read rM_st rM_undone rM_kept iM_undos iM_images rM_fresher iM_fresherSize iM_scale iM_night rM_heardRow rM_cutRow iM_breaths iM_cutMany iM_allBreaths rM_trial rM_words iM_fewestBreaths iM_orderMany iM_orderSum iM_leastOrder rM_often iM_setMany iM_someOf iM_allOf iM_allWeight iM_enoughWeight iM_worthSum iM_firstRest iM_leastDrawn), (arI rM_letters kM_letters 8 fM_letters)]) (tys' := [(kM_letters, .int)]) hB rfl ht hvm hP hD hK [0, 1] [] rfl (by decide) (by decide) [] hk1 hFc rfl rfl rfl
        clear hz1 hk1 hvm ht hB
        obtain ⟨x_5001, rfl⟩ : ∃ z, z = r := ⟨_, rfl⟩
        have hG := hG.trans (lt_eq hru9.symm)
        have bx_5001 := hw.1
        have dx_5001 := bz_ti bx_5001
        have lx_5001 := hw.2
        refine lv_if_ne (tgt := 80) hx hb dX7_mustName_32 (by decide) (fun c_5002 => ?_) (fun c_5002 => ?_)
        · skip
          have hG := hG.trans (if_neg c_5002)
          have gc_5002 := ti_ne c_5002 rfl kc_0
          replace gc_5002 : (-1) * x_5001.toInt + 1 ≤ 0 := by omega
          have h_5003 := lx_5001 (by omega)
          clear lx_5001
          refine lv_aload_n hx hb dX7_mustName_80 rfl (lv_at hl 0 rfl) ?_
          refine lv_iconst (v := 1) hx hb dX7_mustName_81 (by decide) ?_
          refine lv_aload_n hx hb dX7_mustName_82 rfl (lv_at hl 0 rfl) ?_
          refine va_get (D := (dC, dI)) (ci := 7) (v := .int iM_at) (C := RX7) (T := TX7) (N := 48) hx hb hts inX7 hown hK hP 0 rfl rfl 4 (by decide) (hts _ wd_384) (fun _ h9 => h9) rfl dX7_mustName_83 ?_
          have hFc := va_free (wc := [(oc7 oM iM_thrown rM_tape iM_taped iM_size iM_at iM_end iM_token iM_whole iM_nameSize iM_fault iM_place iM_trouble rM_letters iM_failed iM_hasCourt rM_r rM_fresh rM_told rM_read rM_st rM_undone rM_kept iM_undos iM_images rM_fresher iM_fresherSize iM_scale iM_night rM_heardRow rM_cutRow iM_breaths iM_cutMany iM_allBreaths rM_trial rM_words iM_fewestBreaths iM_orderMany iM_orderSum iM_leastOrder rM_often iM_setMany iM_someOf iM_allOf iM_allWeight iM_enoughWeight iM_worthSum iM_firstRest iM_leastDrawn)]) hD hS hA [0] rfl
          refine va_callv (va_runV (As := [.int 1, .int iM_at]) (rest := []) ⟨hx, hb, hml, hown, hts⟩ (tX7_wrong l dC dI _ oM iM_thrown rM_tape iM_taped iM_size iM_at iM_end iM_token iM_whole iM_nameSize iM_fault iM_place iM_trouble rM_letters iM_failed iM_hasCourt rM_r rM_fresh rM_told rM_read rM_st rM_undone rM_kept iM_undos iM_images rM_fresher iM_fresherSize iM_scale iM_night rM_heardRow rM_cutRow iM_breaths iM_cutMany iM_allBreaths rM_trial rM_words iM_fewestBreaths iM_orderMany iM_orderSum iM_leastOrder rM_often iM_setMany iM_someOf iM_allOf iM_allWeight iM_enoughWeight iM_worthSum iM_firstRest iM_leastDrawn 1 iM_at (by first | omega | decide) (by first | omega | decide) (by first | omega | decide) (by first | omega | decide) (by first | omega | decide) (by first | omega | decide) (by first | omega | decide) (by first | omega | decide) (by first | omega | decide) (by first | omega | decide) (by first | omega | decide) (by first | assumption | exact (fun h9 => by have q0 := kc_0; have q1 := kc_1; omega))) (cwV 2 hts (wd_V wd_430 wd_431 wd_432 wd_5 (wd_c wd_433)) rfl rfl rfl (by decide +kernel) ⟨Nat.le_of_ble_eq_true rfl, Nat.le_of_ble_eq_true rfl⟩) ⟨Pw.fb, va_recv hK hP (ci := 7) (q0 := 0) rfl rfl, fun U hU hW => Pw.to (hP.sub [0] rfl) (hD.sub [0] (by decide) rfl) (hK.sub [] rfl) hE hS hFc hU hW⟩ rfl rfl hl.1 rfl (lv_room (Nat.le_of_ble_eq_true rfl)) dX7_mustName_86 ⟨Nat.le_of_ble_eq_true rfl, Nat.le_of_ble_eq_true rfl⟩) hS (fun q _ h => hFc q h) hFc (fun u t H locs ht hvm hw hB hz1 hk1 hS => ?_)
          obtain ⟨x_5004, x_5005, x_5006, b_x_5006, e_x_5004_0, e_x_5004_1, hB⟩ := hB
          obtain ⟨hP, hD, hK⟩ := Bw.go (ws' := [(arI rM_letters kM_letters 8 fM_letters), (oc7 oM iM_thrown rM_tape iM_taped iM_size iM_at iM_end iM_token iM_whole iM_nameSize x_5004 x_5005 iM_trouble rM_letters x_5006 iM_hasCourt rM_r rM_fresh rM_told rM_read rM_st rM_undone rM_kept iM_undos iM_images rM_fresher iM_fresherSize iM_scale iM_night rM_heardRow rM_cutRow iM_breaths iM_cutMany iM_allBreaths rM_trial rM_words iM_fewestBreaths iM_orderMany iM_orderSum iM_leastOrder rM_often iM_setMany iM_someOf iM_allOf iM_allWeight iM_enoughWeight iM_worthSum iM_firstRest iM_leastDrawn)]) (tys' := [(kM_letters, .int)]) hB rfl ht hvm hP hD hK [0] [1] rfl (by decide) (by decide) [0] hk1 hFc rfl rfl rfl
          clear hz1 hk1 hvm ht hB
          have hG := hG.trans (un3_eq e_x_5004_1)
          exact W.vret hx hb hr (fun t ht hW => ⟨⟨0, rfl, trivial, ⟨x_5004, x_5005, x_5006, b_x_5006, (by first | assumption | (have q0 := kc_0; have q1 := kc_1; omega)), (by first | assumption | exact (fun h9 => by have q0 := kc_0; have q1 := kc_1; omega)), hG, Bw.to (hP.sub [1, 0] rfl) (hD.sub [1, 0] (by decide) rfl) (hK.sub [0] rfl) ht hW⟩⟩, hS.F ht⟩) hS.2.2 dX7_mustName_89
        · skip
          have hG := hG.trans (if_pos c_5002)
          have gc_5002 := ti_eq c_5002 rfl kc_0
          clear lx_5001
          refine lv_aload_n hx hb dX7_mustName_35 rfl (lv_at hl 0 rfl) ?_
          obtain ⟨sa_5007, vsa_5007, nsa_5007, fsa_5007, hnsa_5007, hnesa_5007, hfesa_5007, hRsa_5007, hSsa_5007⟩ := hE.2.2.1 (140, "queen", [113, 117, 101, 101, 110]) (by decide)
          have hG := hG.trans (lt_eq hnesa_5007)
          have hG := hG.trans (lt_eq hfesa_5007)
          refine va_ldcS hx hb hown hRsa_5007 dX7_mustName_36 ?_
          have hFc := va_free (wc := [(oc7 oM iM_thrown rM_tape iM_taped iM_size iM_at iM_end iM_token iM_whole iM_nameSize iM_fault iM_place iM_trouble rM_letters iM_failed iM_hasCourt rM_r rM_fresh rM_told rM_read rM_st rM_undone rM_kept iM_undos iM_images rM_fresher iM_fresherSize iM_scale iM_night rM_heardRow rM_cutRow iM_breaths iM_cutMany iM_allBreaths rM_trial rM_words iM_fewestBreaths iM_orderMany iM_orderSum iM_leastOrder rM_often iM_setMany iM_someOf iM_allOf iM_allWeight iM_enoughWeight iM_worthSum iM_firstRest iM_leastDrawn), (arI rM_letters kM_letters 8 fM_letters)]) hD hS hA [0, 1] rfl
          refine va_calli (va_runV (As := [.ref sa_5007]) (rest := []) ⟨hx, hb, hml, hown, hts⟩ (tX7_isWord l dC dI _ oM iM_thrown rM_tape iM_taped iM_size iM_at iM_end iM_token iM_whole iM_nameSize iM_fault iM_place iM_trouble rM_letters fM_letters kM_letters iM_failed iM_hasCourt rM_r rM_fresh rM_told rM_read rM_st rM_undone rM_kept iM_undos iM_images rM_fresher iM_fresherSize iM_scale iM_night rM_heardRow rM_cutRow iM_breaths iM_cutMany iM_allBreaths rM_trial rM_words iM_fewestBreaths iM_orderMany iM_orderSum iM_leastOrder rM_often iM_setMany iM_someOf iM_allOf iM_allWeight iM_enoughWeight iM_worthSum iM_firstRest iM_leastDrawn sa_5007 vsa_5007 nsa_5007 fsa_5007 (by first | omega | decide) (by first | omega | decide) (by first | omega | decide) (by first | omega | decide) (by first | omega | decide) (by first | omega | decide) (by first | omega | decide) (by first | omega | decide) (by first | omega | decide) (by first | omega | decide) (by first | omega | decide) (by first | assumption | exact (fun h9 => by have q0 := kc_0; have q1 := kc_1; omega)) (by first | omega | decide | assumption | (have q0 := kc_0; have q1 := kc_1; omega) | (intro h; exact absurd h (by decide)))) (cwV 1 hts (wd_V wd_420 wd_421 wd_422 wd_5 (wd_c wd_423)) rfl rfl rfl (by decide +kernel) ⟨Nat.le_of_ble_eq_true rfl, Nat.le_of_ble_eq_true rfl⟩) ⟨Pq.fb, va_recv hK hP (ci := 7) (q0 := 0) rfl rfl, fun U hU hW => Pq.to (hP.sub [0, 1] rfl) (hD.sub [0, 1] (by decide) rfl) (hK.sub [0] rfl) hSsa_5007 hE hS hFc hU hW⟩ rfl rfl hl.1 rfl (lv_room (Nat.le_of_ble_eq_true rfl)) dX7_mustName_38 ⟨Nat.le_of_ble_eq_true rfl, Nat.le_of_ble_eq_true rfl⟩) hS (fun q _ h => hFc q h) hFc (fun r u t H locs ht hvm hw hB hz1 hk1 hS => ?_)
          have hru9 := hw.2
          have hw := hw.1
          obtain ⟨hP, hD, hK⟩ := Bw.go (ws' := [(oc7 oM iM_thrown rM_tape iM_taped iM_size iM_at iM_end iM_token iM_whole iM_nameSize iM_fault iM_place iM_trouble rM_letters iM_failed iM_hasCourt rM_r rM_fresh rM_told rM_read rM_st rM_undone rM_kept iM_undos iM_images rM_fresher iM_fresherSize iM_scale iM_night rM_heardRow rM_cutRow iM_breaths iM_cutMany iM_allBreaths rM_trial rM_words iM_fewestBreaths iM_orderMany iM_orderSum iM_leastOrder rM_often iM_setMany iM_someOf iM_allOf iM_allWeight iM_enoughWeight iM_worthSum iM_firstRest iM_leastDrawn), (arI rM_letters kM_letters 8 fM_letters)]) (tys' := [(kM_letters, .int)]) hB rfl ht hvm hP hD hK [0, 1] [] rfl (by decide) (by decide) [] hk1 hFc rfl rfl rfl
          clear hz1 hk1 hvm ht hB
          obtain ⟨x_5008, rfl⟩ : ∃ z, z = r := ⟨_, rfl⟩
          have hG := hG.trans (lt_eq hru9.symm)
          have bx_5008 := hw.1
          have dx_5008 := bz_ti bx_5008
          have lx_5008 := hw.2
          refine lv_if_ne (tgt := 80) hx hb dX7_mustName_41 (by decide) (fun c_5009 => ?_) (fun c_5009 => ?_)
          · skip
            have hG := hG.trans (if_neg c_5009)
            have gc_5009 := ti_ne c_5009 rfl kc_0
            replace gc_5009 : (-1) * x_5008.toInt + 1 ≤ 0 := by omega
            have h_5010 := lx_5008 (by omega)
            clear lx_5008
            refine lv_aload_n hx hb dX7_mustName_80 rfl (lv_at hl 0 rfl) ?_
            refine lv_iconst (v := 1) hx hb dX7_mustName_81 (by decide) ?_
            refine lv_aload_n hx hb dX7_mustName_82 rfl (lv_at hl 0 rfl) ?_
            refine va_get (D := (dC, dI)) (ci := 7) (v := .int iM_at) (C := RX7) (T := TX7) (N := 48) hx hb hts inX7 hown hK hP 0 rfl rfl 4 (by decide) (hts _ wd_384) (fun _ h9 => h9) rfl dX7_mustName_83 ?_
            have hFc := va_free (wc := [(oc7 oM iM_thrown rM_tape iM_taped iM_size iM_at iM_end iM_token iM_whole iM_nameSize iM_fault iM_place iM_trouble rM_letters iM_failed iM_hasCourt rM_r rM_fresh rM_told rM_read rM_st rM_undone rM_kept iM_undos iM_images rM_fresher iM_fresherSize iM_scale iM_night rM_heardRow rM_cutRow iM_breaths iM_cutMany iM_allBreaths rM_trial rM_words iM_fewestBreaths iM_orderMany iM_orderSum iM_leastOrder rM_often iM_setMany iM_someOf iM_allOf iM_allWeight iM_enoughWeight iM_worthSum iM_firstRest iM_leastDrawn)]) hD hS hA [0] rfl
            refine va_callv (va_runV (As := [.int 1, .int iM_at]) (rest := []) ⟨hx, hb, hml, hown, hts⟩ (tX7_wrong l dC dI _ oM iM_thrown rM_tape iM_taped iM_size iM_at iM_end iM_token iM_whole iM_nameSize iM_fault iM_place iM_trouble rM_letters iM_failed iM_hasCourt rM_r rM_fresh rM_told rM_read rM_st rM_undone rM_kept iM_undos iM_images rM_fresher iM_fresherSize iM_scale iM_night rM_heardRow rM_cutRow iM_breaths iM_cutMany iM_allBreaths rM_trial rM_words iM_fewestBreaths iM_orderMany iM_orderSum iM_leastOrder rM_often iM_setMany iM_someOf iM_allOf iM_allWeight iM_enoughWeight iM_worthSum iM_firstRest iM_leastDrawn 1 iM_at (by first | omega | decide) (by first | omega | decide) (by first | omega | decide) (by first | omega | decide) (by first | omega | decide) (by first | omega | decide) (by first | omega | decide) (by first | omega | decide) (by first | omega | decide) (by first | omega | decide) (by first | omega | decide) (by first | assumption | exact (fun h9 => by have q0 := kc_0; have q1 := kc_1; omega))) (cwV 2 hts (wd_V wd_430 wd_431 wd_432 wd_5 (wd_c wd_433)) rfl rfl rfl (by decide +kernel) ⟨Nat.le_of_ble_eq_true rfl, Nat.le_of_ble_eq_true rfl⟩) ⟨Pw.fb, va_recv hK hP (ci := 7) (q0 := 0) rfl rfl, fun U hU hW => Pw.to (hP.sub [0] rfl) (hD.sub [0] (by decide) rfl) (hK.sub [] rfl) hE hS hFc hU hW⟩ rfl rfl hl.1 rfl (lv_room (Nat.le_of_ble_eq_true rfl)) dX7_mustName_86 ⟨Nat.le_of_ble_eq_true rfl, Nat.le_of_ble_eq_true rfl⟩) hS (fun q _ h => hFc q h) hFc (fun u t H locs ht hvm hw hB hz1 hk1 hS => ?_)
            obtain ⟨x_5011, x_5012, x_5013, b_x_5013, e_x_5011_0, e_x_5011_1, hB⟩ := hB
            obtain ⟨hP, hD, hK⟩ := Bw.go (ws' := [(arI rM_letters kM_letters 8 fM_letters), (oc7 oM iM_thrown rM_tape iM_taped iM_size iM_at iM_end iM_token iM_whole iM_nameSize x_5011 x_5012 iM_trouble rM_letters x_5013 iM_hasCourt rM_r rM_fresh rM_told rM_read rM_st rM_undone rM_kept iM_undos iM_images rM_fresher iM_fresherSize iM_scale iM_night rM_heardRow rM_cutRow iM_breaths iM_cutMany iM_allBreaths rM_trial rM_words iM_fewestBreaths iM_orderMany iM_orderSum iM_leastOrder rM_often iM_setMany iM_someOf iM_allOf iM_allWeight iM_enoughWeight iM_worthSum iM_firstRest iM_leastDrawn)]) (tys' := [(kM_letters, .int)]) hB rfl ht hvm hP hD hK [0] [1] rfl (by decide) (by decide) [0] hk1 hFc rfl rfl rfl
            clear hz1 hk1 hvm ht hB
            have hG := hG.trans (un3_eq e_x_5011_1)
            exact W.vret hx hb hr (fun t ht hW => ⟨⟨0, rfl, trivial, ⟨x_5011, x_5012, x_5013, b_x_5013, (by first | assumption | (have q0 := kc_0; have q1 := kc_1; omega)), (by first | assumption | exact (fun h9 => by have q0 := kc_0; have q1 := kc_1; omega)), hG, Bw.to (hP.sub [1, 0] rfl) (hD.sub [1, 0] (by decide) rfl) (hK.sub [0] rfl) ht hW⟩⟩, hS.F ht⟩) hS.2.2 dX7_mustName_89
          · skip
            have hG := hG.trans (if_pos c_5009)
            have gc_5009 := ti_eq c_5009 rfl kc_0
            clear lx_5008
            refine lv_aload_n hx hb dX7_mustName_44 rfl (lv_at hl 0 rfl) ?_
            obtain ⟨sa_5014, vsa_5014, nsa_5014, fsa_5014, hnsa_5014, hnesa_5014, hfesa_5014, hRsa_5014, hSsa_5014⟩ := hE.2.2.1 (142, "chance", [99, 104, 97, 110, 99, 101]) (by decide)
            have hG := hG.trans (lt_eq hnesa_5014)
            have hG := hG.trans (lt_eq hfesa_5014)
            refine va_ldcS hx hb hown hRsa_5014 dX7_mustName_45 ?_
            have hFc := va_free (wc := [(oc7 oM iM_thrown rM_tape iM_taped iM_size iM_at iM_end iM_token iM_whole iM_nameSize iM_fault iM_place iM_trouble rM_letters iM_failed iM_hasCourt rM_r rM_fresh rM_told rM_read rM_st rM_undone rM_kept iM_undos iM_images rM_fresher iM_fresherSize iM_scale iM_night rM_heardRow rM_cutRow iM_breaths iM_cutMany iM_allBreaths rM_trial rM_words iM_fewestBreaths iM_orderMany iM_orderSum iM_leastOrder rM_often iM_setMany iM_someOf iM_allOf iM_allWeight iM_enoughWeight iM_worthSum iM_firstRest iM_leastDrawn), (arI rM_letters kM_letters 8 fM_letters)]) hD hS hA [0, 1] rfl
            refine va_calli (va_runV (As := [.ref sa_5014]) (rest := []) ⟨hx, hb, hml, hown, hts⟩ (tX7_isWord l dC dI _ oM iM_thrown rM_tape iM_taped iM_size iM_at iM_end iM_token iM_whole iM_nameSize iM_fault iM_place iM_trouble rM_letters fM_letters kM_letters iM_failed iM_hasCourt rM_r rM_fresh rM_told rM_read rM_st rM_undone rM_kept iM_undos iM_images rM_fresher iM_fresherSize iM_scale iM_night rM_heardRow rM_cutRow iM_breaths iM_cutMany iM_allBreaths rM_trial rM_words iM_fewestBreaths iM_orderMany iM_orderSum iM_leastOrder rM_often iM_setMany iM_someOf iM_allOf iM_allWeight iM_enoughWeight iM_worthSum iM_firstRest iM_leastDrawn sa_5014 vsa_5014 nsa_5014 fsa_5014 (by first | omega | decide) (by first | omega | decide) (by first | omega | decide) (by first | omega | decide) (by first | omega | decide) (by first | omega | decide) (by first | omega | decide) (by first | omega | decide) (by first | omega | decide) (by first | omega | decide) (by first | omega | decide) (by first | assumption | exact (fun h9 => by have q0 := kc_0; have q1 := kc_1; omega)) (by first | omega | decide | assumption | (have q0 := kc_0; have q1 := kc_1; omega) | (intro h; exact absurd h (by decide)))) (cwV 1 hts (wd_V wd_420 wd_421 wd_422 wd_5 (wd_c wd_423)) rfl rfl rfl (by decide +kernel) ⟨Nat.le_of_ble_eq_true rfl, Nat.le_of_ble_eq_true rfl⟩) ⟨Pq.fb, va_recv hK hP (ci := 7) (q0 := 0) rfl rfl, fun U hU hW => Pq.to (hP.sub [0, 1] rfl) (hD.sub [0, 1] (by decide) rfl) (hK.sub [0] rfl) hSsa_5014 hE hS hFc hU hW⟩ rfl rfl hl.1 rfl (lv_room (Nat.le_of_ble_eq_true rfl)) dX7_mustName_47 ⟨Nat.le_of_ble_eq_true rfl, Nat.le_of_ble_eq_true rfl⟩) hS (fun q _ h => hFc q h) hFc (fun r u t H locs ht hvm hw hB hz1 hk1 hS => ?_)
            have hru9 := hw.2
            have hw := hw.1
            obtain ⟨hP, hD, hK⟩ := Bw.go (ws' := [(oc7 oM iM_thrown rM_tape iM_taped iM_size iM_at iM_end iM_token iM_whole iM_nameSize iM_fault iM_place iM_trouble rM_letters iM_failed iM_hasCourt rM_r rM_fresh rM_told rM_read rM_st rM_undone rM_kept iM_undos iM_images rM_fresher iM_fresherSize iM_scale iM_night rM_heardRow rM_cutRow iM_breaths iM_cutMany iM_allBreaths rM_trial rM_words iM_fewestBreaths iM_orderMany iM_orderSum iM_leastOrder rM_often iM_setMany iM_someOf iM_allOf iM_allWeight iM_enoughWeight iM_worthSum iM_firstRest iM_leastDrawn), (arI rM_letters kM_letters 8 fM_letters)]) (tys' := [(kM_letters, .int)]) hB rfl ht hvm hP hD hK [0, 1] [] rfl (by decide) (by decide) [] hk1 hFc rfl rfl rfl
            clear hz1 hk1 hvm ht hB
            obtain ⟨x_5015, rfl⟩ : ∃ z, z = r := ⟨_, rfl⟩
            have hG := hG.trans (lt_eq hru9.symm)
            have bx_5015 := hw.1
            have dx_5015 := bz_ti bx_5015
            have lx_5015 := hw.2
            refine lv_if_ne (tgt := 80) hx hb dX7_mustName_50 (by decide) (fun c_5016 => ?_) (fun c_5016 => ?_)
            · skip
              have hG := hG.trans (if_neg c_5016)
              have gc_5016 := ti_ne c_5016 rfl kc_0
              replace gc_5016 : (-1) * x_5015.toInt + 1 ≤ 0 := by omega
              have h_5017 := lx_5015 (by omega)
              clear lx_5015
              refine lv_aload_n hx hb dX7_mustName_80 rfl (lv_at hl 0 rfl) ?_
              refine lv_iconst (v := 1) hx hb dX7_mustName_81 (by decide) ?_
              refine lv_aload_n hx hb dX7_mustName_82 rfl (lv_at hl 0 rfl) ?_
              refine va_get (D := (dC, dI)) (ci := 7) (v := .int iM_at) (C := RX7) (T := TX7) (N := 48) hx hb hts inX7 hown hK hP 0 rfl rfl 4 (by decide) (hts _ wd_384) (fun _ h9 => h9) rfl dX7_mustName_83 ?_
              have hFc := va_free (wc := [(oc7 oM iM_thrown rM_tape iM_taped iM_size iM_at iM_end iM_token iM_whole iM_nameSize iM_fault iM_place iM_trouble rM_letters iM_failed iM_hasCourt rM_r rM_fresh rM_told rM_read rM_st rM_undone rM_kept iM_undos iM_images rM_fresher iM_fresherSize iM_scale iM_night rM_heardRow rM_cutRow iM_breaths iM_cutMany iM_allBreaths rM_trial rM_words iM_fewestBreaths iM_orderMany iM_orderSum iM_leastOrder rM_often iM_setMany iM_someOf iM_allOf iM_allWeight iM_enoughWeight iM_worthSum iM_firstRest iM_leastDrawn)]) hD hS hA [0] rfl
              refine va_callv (va_runV (As := [.int 1, .int iM_at]) (rest := []) ⟨hx, hb, hml, hown, hts⟩ (tX7_wrong l dC dI _ oM iM_thrown rM_tape iM_taped iM_size iM_at iM_end iM_token iM_whole iM_nameSize iM_fault iM_place iM_trouble rM_letters iM_failed iM_hasCourt rM_r rM_fresh rM_told rM_read rM_st rM_undone rM_kept iM_undos iM_images rM_fresher iM_fresherSize iM_scale iM_night rM_heardRow rM_cutRow iM_breaths iM_cutMany iM_allBreaths rM_trial rM_words iM_fewestBreaths iM_orderMany iM_orderSum iM_leastOrder rM_often iM_setMany iM_someOf iM_allOf iM_allWeight iM_enoughWeight iM_worthSum iM_firstRest iM_leastDrawn 1 iM_at (by first | omega | decide) (by first | omega | decide) (by first | omega | decide) (by first | omega | decide) (by first | omega | decide) (by first | omega | decide) (by first | omega | decide) (by first | omega | decide) (by first | omega | decide) (by first | omega | decide) (by first | omega | decide) (by first | assumption | exact (fun h9 => by have q0 := kc_0; have q1 := kc_1; omega))) (cwV 2 hts (wd_V wd_430 wd_431 wd_432 wd_5 (wd_c wd_433)) rfl rfl rfl (by decide +kernel) ⟨Nat.le_of_ble_eq_true rfl, Nat.le_of_ble_eq_true rfl⟩) ⟨Pw.fb, va_recv hK hP (ci := 7) (q0 := 0) rfl rfl, fun U hU hW => Pw.to (hP.sub [0] rfl) (hD.sub [0] (by decide) rfl) (hK.sub [] rfl) hE hS hFc hU hW⟩ rfl rfl hl.1 rfl (lv_room (Nat.le_of_ble_eq_true rfl)) dX7_mustName_86 ⟨Nat.le_of_ble_eq_true rfl, Nat.le_of_ble_eq_true rfl⟩) hS (fun q _ h => hFc q h) hFc (fun u t H locs ht hvm hw hB hz1 hk1 hS => ?_)
              obtain ⟨x_5018, x_5019, x_5020, b_x_5020, e_x_5018_0, e_x_5018_1, hB⟩ := hB
              obtain ⟨hP, hD, hK⟩ := Bw.go (ws' := [(arI rM_letters kM_letters 8 fM_letters), (oc7 oM iM_thrown rM_tape iM_taped iM_size iM_at iM_end iM_token iM_whole iM_nameSize x_5018 x_5019 iM_trouble rM_letters x_5020 iM_hasCourt rM_r rM_fresh rM_told rM_read rM_st rM_undone rM_kept iM_undos iM_images rM_fresher iM_fresherSize iM_scale iM_night rM_heardRow rM_cutRow iM_breaths iM_cutMany iM_allBreaths rM_trial rM_words iM_fewestBreaths iM_orderMany iM_orderSum iM_leastOrder rM_often iM_setMany iM_someOf iM_allOf iM_allWeight iM_enoughWeight iM_worthSum iM_firstRest iM_leastDrawn)]) (tys' := [(kM_letters, .int)]) hB rfl ht hvm hP hD hK [0] [1] rfl (by decide) (by decide) [0] hk1 hFc rfl rfl rfl
              clear hz1 hk1 hvm ht hB
              have hG := hG.trans (un3_eq e_x_5018_1)
              exact W.vret hx hb hr (fun t ht hW => ⟨⟨0, rfl, trivial, ⟨x_5018, x_5019, x_5020, b_x_5020, (by first | assumption | (have q0 := kc_0; have q1 := kc_1; omega)), (by first | assumption | exact (fun h9 => by have q0 := kc_0; have q1 := kc_1; omega)), hG, Bw.to (hP.sub [1, 0] rfl) (hD.sub [1, 0] (by decide) rfl) (hK.sub [0] rfl) ht hW⟩⟩, hS.F ht⟩) hS.2.2 dX7_mustName_89
            · skip
              have hG := hG.trans (if_pos c_5016)
              have gc_5016 := ti_eq c_5016 rfl kc_0
              clear lx_5015
              refine lv_aload_n hx hb dX7_mustName_53 rfl (lv_at hl 0 rfl) ?_
              obtain ⟨sa_5021, vsa_5021, nsa_5021, fsa_5021, hnsa_5021, hnesa_5021, hfesa_5021, hRsa_5021, hSsa_5021⟩ := hE.2.2.1 (144, "throne", [116, 104, 114, 111, 110, 101]) (by decide)
              have hG := hG.trans (lt_eq hnesa_5021)
              have hG := hG.trans (lt_eq hfesa_5021)
              refine va_ldcS hx hb hown hRsa_5021 dX7_mustName_54 ?_
              have hFc := va_free (wc := [(oc7 oM iM_thrown rM_tape iM_taped iM_size iM_at iM_end iM_token iM_whole iM_nameSize iM_fault iM_place iM_trouble rM_letters iM_failed iM_hasCourt rM_r rM_fresh rM_told rM_read rM_st rM_undone rM_kept iM_undos iM_images rM_fresher iM_fresherSize iM_scale iM_night rM_heardRow rM_cutRow iM_breaths iM_cutMany iM_allBreaths rM_trial rM_words iM_fewestBreaths iM_orderMany iM_orderSum iM_leastOrder rM_often iM_setMany iM_someOf iM_allOf iM_allWeight iM_enoughWeight iM_worthSum iM_firstRest iM_leastDrawn), (arI rM_letters kM_letters 8 fM_letters)]) hD hS hA [0, 1] rfl
              refine va_calli (va_runV (As := [.ref sa_5021]) (rest := []) ⟨hx, hb, hml, hown, hts⟩ (tX7_isWord l dC dI _ oM iM_thrown rM_tape iM_taped iM_size iM_at iM_end iM_token iM_whole iM_nameSize iM_fault iM_place iM_trouble rM_letters fM_letters kM_letters iM_failed iM_hasCourt rM_r rM_fresh rM_told rM_read rM_st rM_undone rM_kept iM_undos iM_images rM_fresher iM_fresherSize iM_scale iM_night rM_heardRow rM_cutRow iM_breaths iM_cutMany iM_allBreaths rM_trial rM_words iM_fewestBreaths iM_orderMany iM_orderSum iM_leastOrder rM_often iM_setMany iM_someOf iM_allOf iM_allWeight iM_enoughWeight iM_worthSum iM_firstRest iM_leastDrawn sa_5021 vsa_5021 nsa_5021 fsa_5021 (by first | omega | decide) (by first | omega | decide) (by first | omega | decide) (by first | omega | decide) (by first | omega | decide) (by first | omega | decide) (by first | omega | decide) (by first | omega | decide) (by first | omega | decide) (by first | omega | decide) (by first | omega | decide) (by first | assumption | exact (fun h9 => by have q0 := kc_0; have q1 := kc_1; omega)) (by first | omega | decide | assumption | (have q0 := kc_0; have q1 := kc_1; omega) | (intro h; exact absurd h (by decide)))) (cwV 1 hts (wd_V wd_420 wd_421 wd_422 wd_5 (wd_c wd_423)) rfl rfl rfl (by decide +kernel) ⟨Nat.le_of_ble_eq_true rfl, Nat.le_of_ble_eq_true rfl⟩) ⟨Pq.fb, va_recv hK hP (ci := 7) (q0 := 0) rfl rfl, fun U hU hW => Pq.to (hP.sub [0, 1] rfl) (hD.sub [0, 1] (by decide) rfl) (hK.sub [0] rfl) hSsa_5021 hE hS hFc hU hW⟩ rfl rfl hl.1 rfl (lv_room (Nat.le_of_ble_eq_true rfl)) dX7_mustName_56 ⟨Nat.le_of_ble_eq_true rfl, Nat.le_of_ble_eq_true rfl⟩) hS (fun q _ h => hFc q h) hFc (fun r u t H locs ht hvm hw hB hz1 hk1 hS => ?_)
              have hru9 := hw.2
              have hw := hw.1
              obtain ⟨hP, hD, hK⟩ := Bw.go (ws' := [(oc7 oM iM_thrown rM_tape iM_taped iM_size iM_at iM_end iM_token iM_whole iM_nameSize iM_fault iM_place iM_trouble rM_letters iM_failed iM_hasCourt rM_r rM_fresh rM_told rM_read rM_st rM_undone rM_kept iM_undos iM_images rM_fresher iM_fresherSize iM_scale iM_night rM_heardRow rM_cutRow iM_breaths iM_cutMany iM_allBreaths rM_trial rM_words iM_fewestBreaths iM_orderMany iM_orderSum iM_leastOrder rM_often iM_setMany iM_someOf iM_allOf iM_allWeight iM_enoughWeight iM_worthSum iM_firstRest iM_leastDrawn), (arI rM_letters kM_letters 8 fM_letters)]) (tys' := [(kM_letters, .int)]) hB rfl ht hvm hP hD hK [0, 1] [] rfl (by decide) (by decide) [] hk1 hFc rfl rfl rfl
              clear hz1 hk1 hvm ht hB
              obtain ⟨x_5022, rfl⟩ : ∃ z, z = r := ⟨_, rfl⟩
              have hG := hG.trans (lt_eq hru9.symm)
              have bx_5022 := hw.1
              have dx_5022 := bz_ti bx_5022
              have lx_5022 := hw.2
              refine lv_if_ne (tgt := 80) hx hb dX7_mustName_59 (by decide) (fun c_5023 => ?_) (fun c_5023 => ?_)
              · skip
                have hG := hG.trans (if_neg c_5023)
                have gc_5023 := ti_ne c_5023 rfl kc_0
                replace gc_5023 : (-1) * x_5022.toInt + 1 ≤ 0 := by omega
                have h_5024 := lx_5022 (by omega)
                clear lx_5022
                refine lv_aload_n hx hb dX7_mustName_80 rfl (lv_at hl 0 rfl) ?_
                refine lv_iconst (v := 1) hx hb dX7_mustName_81 (by decide) ?_
                refine lv_aload_n hx hb dX7_mustName_82 rfl (lv_at hl 0 rfl) ?_
                refine va_get (D := (dC, dI)) (ci := 7) (v := .int iM_at) (C := RX7) (T := TX7) (N := 48) hx hb hts inX7 hown hK hP 0 rfl rfl 4 (by decide) (hts _ wd_384) (fun _ h9 => h9) rfl dX7_mustName_83 ?_
                have hFc := va_free (wc := [(oc7 oM iM_thrown rM_tape iM_taped iM_size iM_at iM_end iM_token iM_whole iM_nameSize iM_fault iM_place iM_trouble rM_letters iM_failed iM_hasCourt rM_r rM_fresh rM_told rM_read rM_st rM_undone rM_kept iM_undos iM_images rM_fresher iM_fresherSize iM_scale iM_night rM_heardRow rM_cutRow iM_breaths iM_cutMany iM_allBreaths rM_trial rM_words iM_fewestBreaths iM_orderMany iM_orderSum iM_leastOrder rM_often iM_setMany iM_someOf iM_allOf iM_allWeight iM_enoughWeight iM_worthSum iM_firstRest iM_leastDrawn)]) hD hS hA [0] rfl
                refine va_callv (va_runV (As := [.int 1, .int iM_at]) (rest := []) ⟨hx, hb, hml, hown, hts⟩ (tX7_wrong l dC dI _ oM iM_thrown rM_tape iM_taped iM_size iM_at iM_end iM_token iM_whole iM_nameSize iM_fault iM_place iM_trouble rM_letters iM_failed iM_hasCourt rM_r rM_fresh rM_told rM_read rM_st rM_undone rM_kept iM_undos iM_images rM_fresher iM_fresherSize iM_scale iM_night rM_heardRow rM_cutRow iM_breaths iM_cutMany iM_allBreaths rM_trial rM_words iM_fewestBreaths iM_orderMany iM_orderSum iM_leastOrder rM_often iM_setMany iM_someOf iM_allOf iM_allWeight iM_enoughWeight iM_worthSum iM_firstRest iM_leastDrawn 1 iM_at (by first | omega | decide) (by first | omega | decide) (by first | omega | decide) (by first | omega | decide) (by first | omega | decide) (by first | omega | decide) (by first | omega | decide) (by first | omega | decide) (by first | omega | decide) (by first | omega | decide) (by first | omega | decide) (by first | assumption | exact (fun h9 => by have q0 := kc_0; have q1 := kc_1; omega))) (cwV 2 hts (wd_V wd_430 wd_431 wd_432 wd_5 (wd_c wd_433)) rfl rfl rfl (by decide +kernel) ⟨Nat.le_of_ble_eq_true rfl, Nat.le_of_ble_eq_true rfl⟩) ⟨Pw.fb, va_recv hK hP (ci := 7) (q0 := 0) rfl rfl, fun U hU hW => Pw.to (hP.sub [0] rfl) (hD.sub [0] (by decide) rfl) (hK.sub [] rfl) hE hS hFc hU hW⟩ rfl rfl hl.1 rfl (lv_room (Nat.le_of_ble_eq_true rfl)) dX7_mustName_86 ⟨Nat.le_of_ble_eq_true rfl, Nat.le_of_ble_eq_true rfl⟩) hS (fun q _ h => hFc q h) hFc (fun u t H locs ht hvm hw hB hz1 hk1 hS => ?_)
                obtain ⟨x_5025, x_5026, x_5027, b_x_5027, e_x_5025_0, e_x_5025_1, hB⟩ := hB
                obtain ⟨hP, hD, hK⟩ := Bw.go (ws' := [(arI rM_letters kM_letters 8 fM_letters), (oc7 oM iM_thrown rM_tape iM_taped iM_size iM_at iM_end iM_token iM_whole iM_nameSize x_5025 x_5026 iM_trouble rM_letters x_5027 iM_hasCourt rM_r rM_fresh rM_told rM_read rM_st rM_undone rM_kept iM_undos iM_images rM_fresher iM_fresherSize iM_scale iM_night rM_heardRow rM_cutRow iM_breaths iM_cutMany iM_allBreaths rM_trial rM_words iM_fewestBreaths iM_orderMany iM_orderSum iM_leastOrder rM_often iM_setMany iM_someOf iM_allOf iM_allWeight iM_enoughWeight iM_worthSum iM_firstRest iM_leastDrawn)]) (tys' := [(kM_letters, .int)]) hB rfl ht hvm hP hD hK [0] [1] rfl (by decide) (by decide) [0] hk1 hFc rfl rfl rfl
                clear hz1 hk1 hvm ht hB
                have hG := hG.trans (un3_eq e_x_5025_1)
                exact W.vret hx hb hr (fun t ht hW => ⟨⟨0, rfl, trivial, ⟨x_5025, x_5026, x_5027, b_x_5027, (by first | assumption | (have q0 := kc_0; have q1 := kc_1; omega)), (by first | assumption | exact (fun h9 => by have q0 := kc_0; have q1 := kc_1; omega)), hG, Bw.to (hP.sub [1, 0] rfl) (hD.sub [1, 0] (by decide) rfl) (hK.sub [0] rfl) ht hW⟩⟩, hS.F ht⟩) hS.2.2 dX7_mustName_89
              · skip
                have hG := hG.trans (if_pos c_5023)
                have gc_5023 := ti_eq c_5023 rfl kc_0
                clear lx_5022
                refine lv_aload_n hx hb dX7_mustName_62 rfl (lv_at hl 0 rfl) ?_
                obtain ⟨sa_5028, vsa_5028, nsa_5028, fsa_5028, hnsa_5028, hnesa_5028, hfesa_5028, hRsa_5028, hSsa_5028⟩ := hE.2.2.1 (146, "unsure", [117, 110, 115, 117, 114, 101]) (by decide)
                have hG := hG.trans (lt_eq hnesa_5028)
                have hG := hG.trans (lt_eq hfesa_5028)
                refine va_ldcS hx hb hown hRsa_5028 dX7_mustName_63 ?_
                have hFc := va_free (wc := [(oc7 oM iM_thrown rM_tape iM_taped iM_size iM_at iM_end iM_token iM_whole iM_nameSize iM_fault iM_place iM_trouble rM_letters iM_failed iM_hasCourt rM_r rM_fresh rM_told rM_read rM_st rM_undone rM_kept iM_undos iM_images rM_fresher iM_fresherSize iM_scale iM_night rM_heardRow rM_cutRow iM_breaths iM_cutMany iM_allBreaths rM_trial rM_words iM_fewestBreaths iM_orderMany iM_orderSum iM_leastOrder rM_often iM_setMany iM_someOf iM_allOf iM_allWeight iM_enoughWeight iM_worthSum iM_firstRest iM_leastDrawn), (arI rM_letters kM_letters 8 fM_letters)]) hD hS hA [0, 1] rfl
                refine va_calli (va_runV (As := [.ref sa_5028]) (rest := []) ⟨hx, hb, hml, hown, hts⟩ (tX7_isWord l dC dI _ oM iM_thrown rM_tape iM_taped iM_size iM_at iM_end iM_token iM_whole iM_nameSize iM_fault iM_place iM_trouble rM_letters fM_letters kM_letters iM_failed iM_hasCourt rM_r rM_fresh rM_told rM_read rM_st rM_undone rM_kept iM_undos iM_images rM_fresher iM_fresherSize iM_scale iM_night rM_heardRow rM_cutRow iM_breaths iM_cutMany iM_allBreaths rM_trial rM_words iM_fewestBreaths iM_orderMany iM_orderSum iM_leastOrder rM_often iM_setMany iM_someOf iM_allOf iM_allWeight iM_enoughWeight iM_worthSum iM_firstRest iM_leastDrawn sa_5028 vsa_5028 nsa_5028 fsa_5028 (by first | omega | decide) (by first | omega | decide) (by first | omega | decide) (by first | omega | decide) (by first | omega | decide) (by first | omega | decide) (by first | omega | decide) (by first | omega | decide) (by first | omega | decide) (by first | omega | decide) (by first | omega | decide) (by first | assumption | exact (fun h9 => by have q0 := kc_0; have q1 := kc_1; omega)) (by first | omega | decide | assumption | (have q0 := kc_0; have q1 := kc_1; omega) | (intro h; exact absurd h (by decide)))) (cwV 1 hts (wd_V wd_420 wd_421 wd_422 wd_5 (wd_c wd_423)) rfl rfl rfl (by decide +kernel) ⟨Nat.le_of_ble_eq_true rfl, Nat.le_of_ble_eq_true rfl⟩) ⟨Pq.fb, va_recv hK hP (ci := 7) (q0 := 0) rfl rfl, fun U hU hW => Pq.to (hP.sub [0, 1] rfl) (hD.sub [0, 1] (by decide) rfl) (hK.sub [0] rfl) hSsa_5028 hE hS hFc hU hW⟩ rfl rfl hl.1 rfl (lv_room (Nat.le_of_ble_eq_true rfl)) dX7_mustName_65 ⟨Nat.le_of_ble_eq_true rfl, Nat.le_of_ble_eq_true rfl⟩) hS (fun q _ h => hFc q h) hFc (fun r u t H locs ht hvm hw hB hz1 hk1 hS => ?_)
                have hru9 := hw.2
                have hw := hw.1
                obtain ⟨hP, hD, hK⟩ := Bw.go (ws' := [(oc7 oM iM_thrown rM_tape iM_taped iM_size iM_at iM_end iM_token iM_whole iM_nameSize iM_fault iM_place iM_trouble rM_letters iM_failed iM_hasCourt rM_r rM_fresh rM_told rM_read rM_st rM_undone rM_kept iM_undos iM_images rM_fresher iM_fresherSize iM_scale iM_night rM_heardRow rM_cutRow iM_breaths iM_cutMany iM_allBreaths rM_trial rM_words iM_fewestBreaths iM_orderMany iM_orderSum iM_leastOrder rM_often iM_setMany iM_someOf iM_allOf iM_allWeight iM_enoughWeight iM_worthSum iM_firstRest iM_leastDrawn), (arI rM_letters kM_letters 8 fM_letters)]) (tys' := [(kM_letters, .int)]) hB rfl ht hvm hP hD hK [0, 1] [] rfl (by decide) (by decide) [] hk1 hFc rfl rfl rfl
                clear hz1 hk1 hvm ht hB
                obtain ⟨x_5029, rfl⟩ : ∃ z, z = r := ⟨_, rfl⟩
                have hG := hG.trans (lt_eq hru9.symm)
                have bx_5029 := hw.1
                have dx_5029 := bz_ti bx_5029
                have lx_5029 := hw.2
                refine lv_if_ne (tgt := 80) hx hb dX7_mustName_68 (by decide) (fun c_5030 => ?_) (fun c_5030 => ?_)
                · skip
                  have hG := hG.trans (if_neg c_5030)
                  have gc_5030 := ti_ne c_5030 rfl kc_0
                  replace gc_5030 : (-1) * x_5029.toInt + 1 ≤ 0 := by omega
                  have h_5031 := lx_5029 (by omega)
                  clear lx_5029
                  refine lv_aload_n hx hb dX7_mustName_80 rfl (lv_at hl 0 rfl) ?_
                  refine lv_iconst (v := 1) hx hb dX7_mustName_81 (by decide) ?_
                  refine lv_aload_n hx hb dX7_mustName_82 rfl (lv_at hl 0 rfl) ?_
                  refine va_get (D := (dC, dI)) (ci := 7) (v := .int iM_at) (C := RX7) (T := TX7) (N := 48) hx hb hts inX7 hown hK hP 0 rfl rfl 4 (by decide) (hts _ wd_384) (fun _ h9 => h9) rfl dX7_mustName_83 ?_
                  have hFc := va_free (wc := [(oc7 oM iM_thrown rM_tape iM_taped iM_size iM_at iM_end iM_token iM_whole iM_nameSize iM_fault iM_place iM_trouble rM_letters iM_failed iM_hasCourt rM_r rM_fresh rM_told rM_read rM_st rM_undone rM_kept iM_undos iM_images rM_fresher iM_fresherSize iM_scale iM_night rM_heardRow rM_cutRow iM_breaths iM_cutMany iM_allBreaths rM_trial rM_words iM_fewestBreaths iM_orderMany iM_orderSum iM_leastOrder rM_often iM_setMany iM_someOf iM_allOf iM_allWeight iM_enoughWeight iM_worthSum iM_firstRest iM_leastDrawn)]) hD hS hA [0] rfl
                  refine va_callv (va_runV (As := [.int 1, .int iM_at]) (rest := []) ⟨hx, hb, hml, hown, hts⟩ (tX7_wrong l dC dI _ oM iM_thrown rM_tape iM_taped iM_size iM_at iM_end iM_token iM_whole iM_nameSize iM_fault iM_place iM_trouble rM_letters iM_failed iM_hasCourt rM_r rM_fresh rM_told rM_read rM_st rM_undone rM_kept iM_undos iM_images rM_fresher iM_fresherSize iM_scale iM_night rM_heardRow rM_cutRow iM_breaths iM_cutMany iM_allBreaths rM_trial rM_words iM_fewestBreaths iM_orderMany iM_orderSum iM_leastOrder rM_often iM_setMany iM_someOf iM_allOf iM_allWeight iM_enoughWeight iM_worthSum iM_firstRest iM_leastDrawn 1 iM_at (by first | omega | decide) (by first | omega | decide) (by first | omega | decide) (by first | omega | decide) (by first | omega | decide) (by first | omega | decide) (by first | omega | decide) (by first | omega | decide) (by first | omega | decide) (by first | omega | decide) (by first | omega | decide) (by first | assumption | exact (fun h9 => by have q0 := kc_0; have q1 := kc_1; omega))) (cwV 2 hts (wd_V wd_430 wd_431 wd_432 wd_5 (wd_c wd_433)) rfl rfl rfl (by decide +kernel) ⟨Nat.le_of_ble_eq_true rfl, Nat.le_of_ble_eq_true rfl⟩) ⟨Pw.fb, va_recv hK hP (ci := 7) (q0 := 0) rfl rfl, fun U hU hW => Pw.to (hP.sub [0] rfl) (hD.sub [0] (by decide) rfl) (hK.sub [] rfl) hE hS hFc hU hW⟩ rfl rfl hl.1 rfl (lv_room (Nat.le_of_ble_eq_true rfl)) dX7_mustName_86 ⟨Nat.le_of_ble_eq_true rfl, Nat.le_of_ble_eq_true rfl⟩) hS (fun q _ h => hFc q h) hFc (fun u t H locs ht hvm hw hB hz1 hk1 hS => ?_)
                  obtain ⟨x_5032, x_5033, x_5034, b_x_5034, e_x_5032_0, e_x_5032_1, hB⟩ := hB
                  obtain ⟨hP, hD, hK⟩ := Bw.go (ws' := [(arI rM_letters kM_letters 8 fM_letters), (oc7 oM iM_thrown rM_tape iM_taped iM_size iM_at iM_end iM_token iM_whole iM_nameSize x_5032 x_5033 iM_trouble rM_letters x_5034 iM_hasCourt rM_r rM_fresh rM_told rM_read rM_st rM_undone rM_kept iM_undos iM_images rM_fresher iM_fresherSize iM_scale iM_night rM_heardRow rM_cutRow iM_breaths iM_cutMany iM_allBreaths rM_trial rM_words iM_fewestBreaths iM_orderMany iM_orderSum iM_leastOrder rM_often iM_setMany iM_someOf iM_allOf iM_allWeight iM_enoughWeight iM_worthSum iM_firstRest iM_leastDrawn)]) (tys' := [(kM_letters, .int)]) hB rfl ht hvm hP hD hK [0] [1] rfl (by decide) (by decide) [0] hk1 hFc rfl rfl rfl
                  clear hz1 hk1 hvm ht hB
                  have hG := hG.trans (un3_eq e_x_5032_1)
                  exact W.vret hx hb hr (fun t ht hW => ⟨⟨0, rfl, trivial, ⟨x_5032, x_5033, x_5034, b_x_5034, (by first | assumption | (have q0 := kc_0; have q1 := kc_1; omega)), (by first | assumption | exact (fun h9 => by have q0 := kc_0; have q1 := kc_1; omega)), hG, Bw.to (hP.sub [1, 0] rfl) (hD.sub [1, 0] (by decide) rfl) (hK.sub [0] rfl) ht hW⟩⟩, hS.F ht⟩) hS.2.2 dX7_mustName_89
                · skip
                  have hG := hG.trans (if_pos c_5030)
                  have gc_5030 := ti_eq c_5030 rfl kc_0
                  clear lx_5029
                  refine lv_aload_n hx hb dX7_mustName_71 rfl (lv_at hl 0 rfl) ?_
                  obtain ⟨sa_5035, vsa_5035, nsa_5035, fsa_5035, hnsa_5035, hnesa_5035, hfesa_5035, hRsa_5035, hSsa_5035⟩ := hE.2.2.1 (148, "said", [115, 97, 105, 100]) (by decide)
                  have hG := hG.trans (lt_eq hnesa_5035)
                  have hG := hG.trans (lt_eq hfesa_5035)
                  refine va_ldcS hx hb hown hRsa_5035 dX7_mustName_72 ?_
                  have hFc := va_free (wc := [(oc7 oM iM_thrown rM_tape iM_taped iM_size iM_at iM_end iM_token iM_whole iM_nameSize iM_fault iM_place iM_trouble rM_letters iM_failed iM_hasCourt rM_r rM_fresh rM_told rM_read rM_st rM_undone rM_kept iM_undos iM_images rM_fresher iM_fresherSize iM_scale iM_night rM_heardRow rM_cutRow iM_breaths iM_cutMany iM_allBreaths rM_trial rM_words iM_fewestBreaths iM_orderMany iM_orderSum iM_leastOrder rM_often iM_setMany iM_someOf iM_allOf iM_allWeight iM_enoughWeight iM_worthSum iM_firstRest iM_leastDrawn), (arI rM_letters kM_letters 8 fM_letters)]) hD hS hA [0, 1] rfl
                  refine va_calli (va_runV (As := [.ref sa_5035]) (rest := []) ⟨hx, hb, hml, hown, hts⟩ (tX7_isWord l dC dI _ oM iM_thrown rM_tape iM_taped iM_size iM_at iM_end iM_token iM_whole iM_nameSize iM_fault iM_place iM_trouble rM_letters fM_letters kM_letters iM_failed iM_hasCourt rM_r rM_fresh rM_told rM_read rM_st rM_undone rM_kept iM_undos iM_images rM_fresher iM_fresherSize iM_scale iM_night rM_heardRow rM_cutRow iM_breaths iM_cutMany iM_allBreaths rM_trial rM_words iM_fewestBreaths iM_orderMany iM_orderSum iM_leastOrder rM_often iM_setMany iM_someOf iM_allOf iM_allWeight iM_enoughWeight iM_worthSum iM_firstRest iM_leastDrawn sa_5035 vsa_5035 nsa_5035 fsa_5035 (by first | omega | decide) (by first | omega | decide) (by first | omega | decide) (by first | omega | decide) (by first | omega | decide) (by first | omega | decide) (by first | omega | decide) (by first | omega | decide) (by first | omega | decide) (by first | omega | decide) (by first | omega | decide) (by first | assumption | exact (fun h9 => by have q0 := kc_0; have q1 := kc_1; omega)) (by first | omega | decide | assumption | (have q0 := kc_0; have q1 := kc_1; omega) | (intro h; exact absurd h (by decide)))) (cwV 1 hts (wd_V wd_420 wd_421 wd_422 wd_5 (wd_c wd_423)) rfl rfl rfl (by decide +kernel) ⟨Nat.le_of_ble_eq_true rfl, Nat.le_of_ble_eq_true rfl⟩) ⟨Pq.fb, va_recv hK hP (ci := 7) (q0 := 0) rfl rfl, fun U hU hW => Pq.to (hP.sub [0, 1] rfl) (hD.sub [0, 1] (by decide) rfl) (hK.sub [0] rfl) hSsa_5035 hE hS hFc hU hW⟩ rfl rfl hl.1 rfl (lv_room (Nat.le_of_ble_eq_true rfl)) dX7_mustName_74 ⟨Nat.le_of_ble_eq_true rfl, Nat.le_of_ble_eq_true rfl⟩) hS (fun q _ h => hFc q h) hFc (fun r u t H locs ht hvm hw hB hz1 hk1 hS => ?_)
                  have hru9 := hw.2
                  have hw := hw.1
                  obtain ⟨hP, hD, hK⟩ := Bw.go (ws' := [(oc7 oM iM_thrown rM_tape iM_taped iM_size iM_at iM_end iM_token iM_whole iM_nameSize iM_fault iM_place iM_trouble rM_letters iM_failed iM_hasCourt rM_r rM_fresh rM_told rM_read rM_st rM_undone rM_kept iM_undos iM_images rM_fresher iM_fresherSize iM_scale iM_night rM_heardRow rM_cutRow iM_breaths iM_cutMany iM_allBreaths rM_trial rM_words iM_fewestBreaths iM_orderMany iM_orderSum iM_leastOrder rM_often iM_setMany iM_someOf iM_allOf iM_allWeight iM_enoughWeight iM_worthSum iM_firstRest iM_leastDrawn), (arI rM_letters kM_letters 8 fM_letters)]) (tys' := [(kM_letters, .int)]) hB rfl ht hvm hP hD hK [0, 1] [] rfl (by decide) (by decide) [] hk1 hFc rfl rfl rfl
                  clear hz1 hk1 hvm ht hB
                  obtain ⟨x_5036, rfl⟩ : ∃ z, z = r := ⟨_, rfl⟩
                  have hG := hG.trans (lt_eq hru9.symm)
                  have bx_5036 := hw.1
                  have dx_5036 := bz_ti bx_5036
                  have lx_5036 := hw.2
                  refine lv_if_eq (tgt := 89) hx hb dX7_mustName_77 (by decide) (fun c_5037 => ?_) (fun c_5037 => ?_)
                  · skip
                    have hG := hG.trans (if_pos c_5037)
                    have gc_5037 := ti_eq c_5037 rfl kc_0
                    clear lx_5036
                    exact W.vret hx hb hr (fun t ht hW => ⟨⟨0, rfl, trivial, ⟨iM_fault, iM_place, iM_failed, (by omega), (by first | assumption | (have q0 := kc_0; have q1 := kc_1; omega)), (by first | assumption | exact (fun h9 => by have q0 := kc_0; have q1 := kc_1; omega)), hG, Bw.to (hP.sub [0, 1] rfl) (hD.sub [0, 1] (by decide) rfl) (hK.sub [0] rfl) ht hW⟩⟩, hS.F ht⟩) hS.2.2 dX7_mustName_89
                  · skip
                    have hG := hG.trans (if_neg c_5037)
                    have gc_5037 := ti_ne c_5037 rfl kc_0
                    replace gc_5037 : (-1) * x_5036.toInt + 1 ≤ 0 := by omega
                    have h_5038 := lx_5036 (by omega)
                    clear lx_5036
                    refine lv_aload_n hx hb dX7_mustName_80 rfl (lv_at hl 0 rfl) ?_
                    refine lv_iconst (v := 1) hx hb dX7_mustName_81 (by decide) ?_
                    refine lv_aload_n hx hb dX7_mustName_82 rfl (lv_at hl 0 rfl) ?_
                    refine va_get (D := (dC, dI)) (ci := 7) (v := .int iM_at) (C := RX7) (T := TX7) (N := 48) hx hb hts inX7 hown hK hP 0 rfl rfl 4 (by decide) (hts _ wd_384) (fun _ h9 => h9) rfl dX7_mustName_83 ?_
                    have hFc := va_free (wc := [(oc7 oM iM_thrown rM_tape iM_taped iM_size iM_at iM_end iM_token iM_whole iM_nameSize iM_fault iM_place iM_trouble rM_letters iM_failed iM_hasCourt rM_r rM_fresh rM_told rM_read rM_st rM_undone rM_kept iM_undos iM_images rM_fresher iM_fresherSize iM_scale iM_night rM_heardRow rM_cutRow iM_breaths iM_cutMany iM_allBreaths rM_trial rM_words iM_fewestBreaths iM_orderMany iM_orderSum iM_leastOrder rM_often iM_setMany iM_someOf iM_allOf iM_allWeight iM_enoughWeight iM_worthSum iM_firstRest iM_leastDrawn)]) hD hS hA [0] rfl
                    refine va_callv (va_runV (As := [.int 1, .int iM_at]) (rest := []) ⟨hx, hb, hml, hown, hts⟩ (tX7_wrong l dC dI _ oM iM_thrown rM_tape iM_taped iM_size iM_at iM_end iM_token iM_whole iM_nameSize iM_fault iM_place iM_trouble rM_letters iM_failed iM_hasCourt rM_r rM_fresh rM_told rM_read rM_st rM_undone rM_kept iM_undos iM_images rM_fresher iM_fresherSize iM_scale iM_night rM_heardRow rM_cutRow iM_breaths iM_cutMany iM_allBreaths rM_trial rM_words iM_fewestBreaths iM_orderMany iM_orderSum iM_leastOrder rM_often iM_setMany iM_someOf iM_allOf iM_allWeight iM_enoughWeight iM_worthSum iM_firstRest iM_leastDrawn 1 iM_at (by first | omega | decide) (by first | omega | decide) (by first | omega | decide) (by first | omega | decide) (by first | omega | decide) (by first | omega | decide) (by first | omega | decide) (by first | omega | decide) (by first | omega | decide) (by first | omega | decide) (by first | omega | decide) (by first | assumption | exact (fun h9 => by have q0 := kc_0; have q1 := kc_1; omega))) (cwV 2 hts (wd_V wd_430 wd_431 wd_432 wd_5 (wd_c wd_433)) rfl rfl rfl (by decide +kernel) ⟨Nat.le_of_ble_eq_true rfl, Nat.le_of_ble_eq_true rfl⟩) ⟨Pw.fb, va_recv hK hP (ci := 7) (q0 := 0) rfl rfl, fun U hU hW => Pw.to (hP.sub [0] rfl) (hD.sub [0] (by decide) rfl) (hK.sub [] rfl) hE hS hFc hU hW⟩ rfl rfl hl.1 rfl (lv_room (Nat.le_of_ble_eq_true rfl)) dX7_mustName_86 ⟨Nat.le_of_ble_eq_true rfl, Nat.le_of_ble_eq_true rfl⟩) hS (fun q _ h => hFc q h) hFc (fun u t H locs ht hvm hw hB hz1 hk1 hS => ?_)
                    obtain ⟨x_5039, x_5040, x_5041, b_x_5041, e_x_5039_0, e_x_5039_1, hB⟩ := hB
                    obtain ⟨hP, hD, hK⟩ := Bw.go (ws' := [(arI rM_letters kM_letters 8 fM_letters), (oc7 oM iM_thrown rM_tape iM_taped iM_size iM_at iM_end iM_token iM_whole iM_nameSize x_5039 x_5040 iM_trouble rM_letters x_5041 iM_hasCourt rM_r rM_fresh rM_told rM_read rM_st rM_undone rM_kept iM_undos iM_images rM_fresher iM_fresherSize iM_scale iM_night rM_heardRow rM_cutRow iM_breaths iM_cutMany iM_allBreaths rM_trial rM_words iM_fewestBreaths iM_orderMany iM_orderSum iM_leastOrder rM_often iM_setMany iM_someOf iM_allOf iM_allWeight iM_enoughWeight iM_worthSum iM_firstRest iM_leastDrawn)]) (tys' := [(kM_letters, .int)]) hB rfl ht hvm hP hD hK [0] [1] rfl (by decide) (by decide) [0] hk1 hFc rfl rfl rfl
                    clear hz1 hk1 hvm ht hB
                    have hG := hG.trans (un3_eq e_x_5039_1)
                    exact W.vret hx hb hr (fun t ht hW => ⟨⟨0, rfl, trivial, ⟨x_5039, x_5040, x_5041, b_x_5041, (by first | assumption | (have q0 := kc_0; have q1 := kc_1; omega)), (by first | assumption | exact (fun h9 => by have q0 := kc_0; have q1 := kc_1; omega)), hG, Bw.to (hP.sub [1, 0] rfl) (hD.sub [1, 0] (by decide) rfl) (hK.sub [0] rfl) ht hW⟩⟩, hS.F ht⟩) hS.2.2 dX7_mustName_89
set_option maxHeartbeats 4000000 in
set_option maxRecDepth 100000 in
theorem tX7_find (l : Launch) (dC : Nat → ClassId) (dI : Nat → Nat → Nat) (sz : Nat) (oM : Nat) (iM_thrown : Int32) (rM_tape : Nat) (iM_taped : Int32) (iM_size : Int32) (iM_at : Int32) (iM_end : Int32) (iM_token : Int32) (iM_whole : Int32) (iM_nameSize : Int32) (iM_fault : Int32) (iM_place : Int32) (iM_trouble : Int32) (rM_letters : Nat) (fM_letters : Nat → Int32) (kM_letters : ClassId) (iM_failed : Int32) (iM_hasCourt : Int32) (rM_r : Nat) (rM_fresh : Nat) (fM_fresh : Nat → Int32) (kM_fresh : ClassId) (rM_told : Nat) (rM_read : Nat) (fM_read : Nat → Int32) (kM_read : ClassId) (rM_st : Nat) (rM_undone : Nat) (rM_kept : Nat) (iM_undos : Int32) (iM_images : Int32) (rM_fresher : Nat) (iM_fresherSize : Int32) (iM_scale : Int32) (iM_night : Int32) (rM_heardRow : Nat) (rM_cutRow : Nat) (iM_breaths : Int32) (iM_cutMany : Int32) (iM_allBreaths : Int32) (rM_trial : Nat) (rM_words : Nat) (iM_fewestBreaths : Int32) (iM_orderMany : Int32) (iM_orderSum : Int32) (iM_leastOrder : Int32) (rM_often : Nat) (iM_setMany : Int32) (iM_someOf : Int32) (iM_allOf : Int32) (iM_allWeight : Int64) (iM_enoughWeight : Int64) (iM_worthSum : Int64) (iM_firstRest : Int32) (iM_leastDrawn : Int32) (b_iM_taped : 0 ≤ iM_taped.toInt ∧ iM_taped.toInt ≤ 900) (b_iM_size : 0 ≤ iM_size.toInt ∧ iM_size.toInt ≤ 900) (b_iM_end : 0 ≤ iM_end.toInt ∧ iM_end.toInt ≤ 900) (b_iM_nameSize : 0 ≤ iM_nameSize.toInt ∧ iM_nameSize.toInt ≤ 900) (b_iM_failed : 0 ≤ iM_failed.toInt ∧ iM_failed.toInt ≤ 1) (b_iM_hasCourt : 0 ≤ iM_hasCourt.toInt ∧ iM_hasCourt.toInt ≤ 1) (b_iM_undos : 0 ≤ iM_undos.toInt ∧ iM_undos.toInt ≤ 16) (b_iM_images : 0 ≤ iM_images.toInt ∧ iM_images.toInt ≤ 3) (b_iM_scale : 1 ≤ iM_scale.toInt ∧ iM_scale.toInt ≤ 1296) (b_iM_breaths : 0 ≤ iM_breaths.toInt ∧ iM_breaths.toInt ≤ 399) (b_iM_cutMany : 0 ≤ iM_cutMany.toInt ∧ iM_cutMany.toInt ≤ 399) (r_T : ImpP (iM_token.toInt = 2) (iM_nameSize.toInt ≤ 8)) (r_P : POk fM_fresh fM_read) (hns : iM_nameSize.toInt ≤ 8) : Met l yX7_find (Cond.code yX7_find cX7_find 4 (some .int) :: wG) ({ frames := 0, cells := 0, slots := 0, locals := 0 }) (va_Pc [.ref oM] (Pw dC dI sz [(oc7 oM iM_thrown rM_tape iM_taped iM_size iM_at iM_end iM_token iM_whole iM_nameSize iM_fault iM_place iM_trouble rM_letters iM_failed iM_hasCourt rM_r rM_fresh rM_told rM_read rM_st rM_undone rM_kept iM_undos iM_images rM_fresher iM_fresherSize iM_scale iM_night rM_heardRow rM_cutRow iM_breaths iM_cutMany iM_allBreaths rM_trial rM_words iM_fewestBreaths iM_orderMany iM_orderSum iM_leastOrder rM_often iM_setMany iM_someOf iM_allOf iM_allWeight iM_enoughWeight iM_worthSum iM_firstRest iM_leastDrawn), (arI rM_letters kM_letters 8 fM_letters), (arI rM_fresh kM_fresh 287 fM_fresh), (arI rM_read kM_read 90 fM_read)] [(kM_letters, .int), (kM_fresh, .int), (kM_read, .int)])) (va_Qi (fun (r : Int32) (_ : Nat) => (True ∧ (-1 ≤ r.toInt ∧ r.toInt < (fM_fresh 1).toInt ∧ r.toInt ≤ 17)) ∧ PX7_find iM_nameSize fM_letters fM_fresh = r) (fun (_ : Nat) (t : State) => Bw dC dI (va_A [(oc7 oM iM_thrown rM_tape iM_taped iM_size iM_at iM_end iM_token iM_whole iM_nameSize iM_fault iM_place iM_trouble rM_letters iM_failed iM_hasCourt rM_r rM_fresh rM_told rM_read rM_st rM_undone rM_kept iM_undos iM_images rM_fresher iM_fresherSize iM_scale iM_night rM_heardRow rM_cutRow iM_breaths iM_cutMany iM_allBreaths rM_trial rM_words iM_fewestBreaths iM_orderMany iM_orderSum iM_leastOrder rM_often iM_setMany iM_someOf iM_allOf iM_allWeight iM_enoughWeight iM_worthSum iM_firstRest iM_leastDrawn), (arI rM_letters kM_letters 8 fM_letters), (arI rM_fresh kM_fresh 287 fM_fresh), (arI rM_read kM_read 90 fM_read)] sz) [(oc7 oM iM_thrown rM_tape iM_taped iM_size iM_at iM_end iM_token iM_whole iM_nameSize iM_fault iM_place iM_trouble rM_letters iM_failed iM_hasCourt rM_r rM_fresh rM_told rM_read rM_st rM_undone rM_kept iM_undos iM_images rM_fresher iM_fresherSize iM_scale iM_night rM_heardRow rM_cutRow iM_breaths iM_cutMany iM_allBreaths rM_trial rM_words iM_fewestBreaths iM_orderMany iM_orderSum iM_leastOrder rM_often iM_setMany iM_someOf iM_allOf iM_allWeight iM_enoughWeight iM_worthSum iM_firstRest iM_leastDrawn), (arI rM_letters kM_letters 8 fM_letters), (arI rM_fresh kM_fresh 287 fM_fresh), (arI rM_read kM_read 90 fM_read)] [(kM_letters, .int), (kM_fresh, .int), (kM_read, .int)] t) (va_A [(oc7 oM iM_thrown rM_tape iM_taped iM_size iM_at iM_end iM_token iM_whole iM_nameSize iM_fault iM_place iM_trouble rM_letters iM_failed iM_hasCourt rM_r rM_fresh rM_told rM_read rM_st rM_undone rM_kept iM_undos iM_images rM_fresher iM_fresherSize iM_scale iM_night rM_heardRow rM_cutRow iM_breaths iM_cutMany iM_allBreaths rM_trial rM_words iM_fewestBreaths iM_orderMany iM_orderSum iM_leastOrder rM_often iM_setMany iM_someOf iM_allOf iM_allWeight iM_enoughWeight iM_worthSum iM_firstRest iM_leastDrawn), (arI rM_letters kM_letters 8 fM_letters), (arI rM_fresh kM_fresh 287 fM_fresh), (arI rM_read kM_read 90 fM_read)] sz)) 0 0 (va_A [(oc7 oM iM_thrown rM_tape iM_taped iM_size iM_at iM_end iM_token iM_whole iM_nameSize iM_fault iM_place iM_trouble rM_letters iM_failed iM_hasCourt rM_r rM_fresh rM_told rM_read rM_st rM_undone rM_kept iM_undos iM_images rM_fresher iM_fresherSize iM_scale iM_night rM_heardRow rM_cutRow iM_breaths iM_cutMany iM_allBreaths rM_trial rM_words iM_fewestBreaths iM_orderMany iM_orderSum iM_leastOrder rM_often iM_setMany iM_someOf iM_allOf iM_allWeight iM_enoughWeight iM_worthSum iM_firstRest iM_leastDrawn), (arI rM_letters kM_letters 8 fM_letters), (arI rM_fresh kM_fresh 287 fM_fresh), (arI rM_read kM_read 90 fM_read)] sz) := by
  refine Met.ofW (cc := cX7_find) (maxL := 4) (ret := (some .int)) (by decide) rfl ?_
  intro p e s m args below meth c s₁ B hml hv
  obtain ⟨rfl, hsz, hP, hK, hD0, hE⟩ := hv
  have hx := B.exec
  have hb := B.bytes
  have hr := B.returns
  have hts : ∀ w ∈ wG, w.before ([.ref oM] : List Value).toArray s = true := fun w h => atoms_spec (ws := Cond.code yX7_find cX7_find 4 (some .int) :: wG) B.pre w (List.mem_cons_of_mem _ h)
  have hown : s.vm.findClass RX7 = some m.cls := findClass_of_methodNamed B.named
  have hlocks := B.notSynchronized
  subst hsz
  have hD := hD0.self (sz := s.heap.size)
  generalize hAe : va_A [(oc7 oM iM_thrown rM_tape iM_taped iM_size iM_at iM_end iM_token iM_whole iM_nameSize iM_fault iM_place iM_trouble rM_letters iM_failed iM_hasCourt rM_r rM_fresh rM_told rM_read rM_st rM_undone rM_kept iM_undos iM_images rM_fresher iM_fresherSize iM_scale iM_night rM_heardRow rM_cutRow iM_breaths iM_cutMany iM_allBreaths rM_trial rM_words iM_fewestBreaths iM_orderMany iM_orderSum iM_leastOrder rM_often iM_setMany iM_someOf iM_allOf iM_allWeight iM_enoughWeight iM_worthSum iM_firstRest iM_leastDrawn), (arI rM_letters kM_letters 8 fM_letters), (arI rM_fresh kM_fresh 287 fM_fresh), (arI rM_read kM_read 90 fM_read)] s.heap.size = A at hD hE ⊢
  have hA : ∀ q : Nat, s.heap.size ≤ q → A q := fun q h => by rw [← hAe]; exact Or.inr h
  have hS : va_S A s.heap s.heap [] := va_S.rf
  have hl := lv_entry ([.ref oM]) (n := 4) (Nat.le_of_ble_eq_true rfl)
  rw [lg_entry_eq]
  generalize (lg_sl ([.ref oM]) ++ List.replicate (4 - (lg_sl ([.ref oM])).length) Slot.unset).toArray = ls at hl ⊢
  have hl : lv_has ls 4 [(0, .ref oM)] := hl
  have hG := PX7_find_eq iM_nameSize fM_letters fM_fresh
  have pl_fM_fresh := r_P.lins
  refine lv_iconst (v := 0) hx hb dX7_find_0 (by decide) ?_
  refine lv_istore_n (lv' := [(1, .int 0), (0, .ref oM)]) hx hb dX7_find_1 rfl hl (by decide) rfl (fun ls hl => ?_)
  have hl := lv_sub hl (l' := [(1, .int 0), (0, .ref oM)]) [0, 1] rfl
  have key_n_5111 : ∀ (n_5111 : Nat) (z_5110 : Int32) (H : Heap) (locs : List Loc) (ls : Array Slot), (0 ≤ z_5110.toInt ∧ z_5110.toInt ≤ 18) → (18 - z_5110.toInt).toNat < n_5111 → (PX7_find iM_nameSize fM_letters fM_fresh = HX7_find_0 iM_nameSize fM_letters fM_fresh n_5111 z_5110) → va_P (dC, dI) vwCl [(oc7 oM iM_thrown rM_tape iM_taped iM_size iM_at iM_end iM_token iM_whole iM_nameSize iM_fault iM_place iM_trouble rM_letters iM_failed iM_hasCourt rM_r rM_fresh rM_told rM_read rM_st rM_undone rM_kept iM_undos iM_images rM_fresher iM_fresherSize iM_scale iM_night rM_heardRow rM_cutRow iM_breaths iM_cutMany iM_allBreaths rM_trial rM_words iM_fewestBreaths iM_orderMany iM_orderSum iM_leastOrder rM_often iM_setMany iM_someOf iM_allOf iM_allWeight iM_enoughWeight iM_worthSum iM_firstRest iM_leastDrawn), (arI rM_letters kM_letters 8 fM_letters), (arI rM_fresh kM_fresh 287 fM_fresh), (arI rM_read kM_read 90 fM_read)] H → va_D A [(oc7 oM iM_thrown rM_tape iM_taped iM_size iM_at iM_end iM_token iM_whole iM_nameSize iM_fault iM_place iM_trouble rM_letters iM_failed iM_hasCourt rM_r rM_fresh rM_told rM_read rM_st rM_undone rM_kept iM_undos iM_images rM_fresher iM_fresherSize iM_scale iM_night rM_heardRow rM_cutRow iM_breaths iM_cutMany iM_allBreaths rM_trial rM_words iM_fewestBreaths iM_orderMany iM_orderSum iM_leastOrder rM_often iM_setMany iM_someOf iM_allOf iM_allWeight iM_enoughWeight iM_worthSum iM_firstRest iM_leastDrawn), (arI rM_letters kM_letters 8 fM_letters), (arI rM_fresh kM_fresh 287 fM_fresh), (arI rM_read kM_read 90 fM_read)] → va_S A s.heap H locs → lv_has ls 4 [(1, .int z_5110), (0, .ref oM)] → W p l e (headSpec (Cond.code yX7_find cX7_find 4 (some .int) :: wG) ({ frames := 0, cells := 0, slots := 0, locals := 0 })).room s m ([.ref oM] : List Value).toArray below meth c H locs 0 0 (MQ below (va_Qi (fun (r : Int32) (_ : Nat) => (True ∧ (-1 ≤ r.toInt ∧ r.toInt < (fM_fresh 1).toInt ∧ r.toInt ≤ 17)) ∧ PX7_find iM_nameSize fM_letters fM_fresh = r) (fun (_ : Nat) (t : State) => Bw dC dI A [(oc7 oM iM_thrown rM_tape iM_taped iM_size iM_at iM_end iM_token iM_whole iM_nameSize iM_fault iM_place iM_trouble rM_letters iM_failed iM_hasCourt rM_r rM_fresh rM_told rM_read rM_st rM_undone rM_kept iM_undos iM_images rM_fresher iM_fresherSize iM_scale iM_night rM_heardRow rM_cutRow iM_breaths iM_cutMany iM_allBreaths rM_trial rM_words iM_fewestBreaths iM_orderMany iM_orderSum iM_leastOrder rM_often iM_setMany iM_someOf iM_allOf iM_allWeight iM_enoughWeight iM_worthSum iM_firstRest iM_leastDrawn), (arI rM_letters kM_letters 8 fM_letters), (arI rM_fresh kM_fresh 287 fM_fresh), (arI rM_read kM_read 90 fM_read)] [(kM_letters, .int), (kM_fresh, .int), (kM_read, .int)] t) A) ([.ref oM] : List Value).toArray s 0 0 A) (F0 m 2 ls []) := by
    intro n_5111
    induction n_5111 with
    | zero => intro z_5110 H locs ls hi0_n_5111 hm; exact absurd hm (by omega)
    | succ n_5111 ih_n_5111 =>
      intro z_5110 H locs ls hi0_n_5111 hm hG hP hD hS hl
      have hG := hG.trans (HX7_find_0_eq _ _ _ _ _)
      refine lv_iload_n hx hb dX7_find_2 rfl (lv_at hl 0 rfl) ?_
      refine lv_bipush (v := 18) hx hb dX7_find_3 (by decide) ?_
      refine lv_icmp_ge (tgt := 104) hx hb dX7_find_5 (by decide) (fun c_5112 => ?_) (fun c_5112 => ?_)
      · skip
        have hG := hG.trans (if_pos c_5112)
        have gc_5112 := ti_le c_5112 kc_18 rfl
        refine lv_iconst (v := (-1)) hx hb dX7_find_104 (by decide) ?_
        exact W.iret hx hb hr (fun t ht hW => ⟨⟨_, 0, rfl, ⟨⟨trivial, (by have q := kc_m1; first | omega | assumption)⟩, hG⟩, Bw.to (hP.sub [0, 1, 2, 3] rfl) (hD.sub [0, 1, 2, 3] (by decide) rfl) (hK.sub [0, 1, 2] rfl) ht hW⟩, hS.F ht⟩) hS.2.2 dX7_find_105
      · skip
        have hG := hG.trans (if_neg c_5112)
        have gc_5112 := ti_nle c_5112 kc_18 rfl
        refine lv_aload_n hx hb dX7_find_8 rfl (lv_at hl 1 rfl) ?_
        refine va_get (D := (dC, dI)) (ci := 7) (v := .ref rM_fresh) (C := RX7) (T := TX7) (N := 48) hx hb hts inX7 hown hK hP 0 rfl rfl 16 (by decide) (hts _ wd_156) (fun _ h9 => h9) rfl dX7_find_9 ?_
        refine lv_bipush (v := 125) hx hb dX7_find_12 (by decide) ?_
        refine lv_iload_n hx hb dX7_find_14 rfl (lv_at hl 0 rfl) ?_
        refine lv_iadd hx hb dX7_find_15 ?_
        refine lv_topi (fun x_5113 ex_5113 => ?_)
        have hG := hG.trans (lt_eq ex_5113)
        have vx_5113 : x_5113.toInt = z_5110.toInt + 125 := by have q := ti_add ex_5113 kc_125 rfl (by omega) (by omega); omega
        refine va_iald hx hb hK hP 2 1 rfl rfl (ti_in vx_5113 (by omega) (by omega)) dX7_find_16 ?_
        refine lv_topi (fun x_5114 ex_5114 => ?_)
        have hG := hG.trans (lt_eq ex_5114)
        have kx_5114 : (fM_fresh x_5113.toNatClampNeg).toInt = x_5114.toInt := by rw [ex_5114]
        have cx_5114 : (fM_fresh (125 + z_5110.toNatClampNeg)).toInt = x_5114.toInt := by rw [show 125 + z_5110.toNatClampNeg = x_5113.toNatClampNeg from by have q9 := ti_cl (x := x_5113) vx_5113 (by omega); have q_z_5110 := ti_cl (x := z_5110) rfl (by omega); omega]; exact kx_5114
        refine lv_if_le (tgt := 40) hx hb dX7_find_17 (by decide) (fun c_5115 => ?_) (fun c_5115 => ?_)
        · skip
          have hG := hG.trans (if_pos c_5115)
          have gc_5115 := ti_le c_5115 rfl kc_0
          refine lv_iconst (v := 0) hx hb dX7_find_40 (by decide) ?_
          refine lv_istore_n (lv' := [(2, .int 0), (1, .int z_5110), (0, .ref oM)]) hx hb dX7_find_41 rfl hl (by decide) rfl (fun ls hl => ?_)
          refine lv_iconst (v := 0) hx hb dX7_find_42 (by decide) ?_
          refine lv_istore_n (lv' := [(3, .int 0), (2, .int 0), (1, .int z_5110), (0, .ref oM)]) hx hb dX7_find_43 rfl hl (by decide) rfl (fun ls hl => ?_)
          have hl := lv_sub hl (l' := [(3, .int 0), (2, .int 0), (1, .int z_5110), (0, .ref oM)]) [0, 1, 2, 3] rfl
          have key_n_5118 : ∀ (n_5118 : Nat) (z_5116 : Int32) (z_5117 : Int32) (H : Heap) (locs : List Loc) (ls : Array Slot), (0 ≤ z_5116.toInt ∧ z_5116.toInt ≤ iM_nameSize.toInt) → (0 ≤ z_5117.toInt ∧ z_5117.toInt ≤ 1) → (1 ≤ z_5117.toInt → 1 ≤ (fM_fresh (125 + z_5110.toNatClampNeg)).toInt) → (iM_nameSize.toInt - z_5116.toInt).toNat < n_5118 → (PX7_find iM_nameSize fM_letters fM_fresh = HX7_find_1 iM_nameSize fM_letters fM_fresh z_5110 (fun (z_5110 : Int32) => HX7_find_0 iM_nameSize fM_letters fM_fresh n_5111 z_5110) n_5118 z_5116 z_5117) → va_P (dC, dI) vwCl [(oc7 oM iM_thrown rM_tape iM_taped iM_size iM_at iM_end iM_token iM_whole iM_nameSize iM_fault iM_place iM_trouble rM_letters iM_failed iM_hasCourt rM_r rM_fresh rM_told rM_read rM_st rM_undone rM_kept iM_undos iM_images rM_fresher iM_fresherSize iM_scale iM_night rM_heardRow rM_cutRow iM_breaths iM_cutMany iM_allBreaths rM_trial rM_words iM_fewestBreaths iM_orderMany iM_orderSum iM_leastOrder rM_often iM_setMany iM_someOf iM_allOf iM_allWeight iM_enoughWeight iM_worthSum iM_firstRest iM_leastDrawn), (arI rM_letters kM_letters 8 fM_letters), (arI rM_fresh kM_fresh 287 fM_fresh), (arI rM_read kM_read 90 fM_read)] H → va_D A [(oc7 oM iM_thrown rM_tape iM_taped iM_size iM_at iM_end iM_token iM_whole iM_nameSize iM_fault iM_place iM_trouble rM_letters iM_failed iM_hasCourt rM_r rM_fresh rM_told rM_read rM_st rM_undone rM_kept iM_undos iM_images rM_fresher iM_fresherSize iM_scale iM_night rM_heardRow rM_cutRow iM_breaths iM_cutMany iM_allBreaths rM_trial rM_words iM_fewestBreaths iM_orderMany iM_orderSum iM_leastOrder rM_often iM_setMany iM_someOf iM_allOf iM_allWeight iM_enoughWeight iM_worthSum iM_firstRest iM_leastDrawn), (arI rM_letters kM_letters 8 fM_letters), (arI rM_fresh kM_fresh 287 fM_fresh), (arI rM_read kM_read 90 fM_read)] → va_S A s.heap H locs → lv_has ls 4 [(3, .int z_5116), (2, .int z_5117), (1, .int z_5110), (0, .ref oM)] → W p l e (headSpec (Cond.code yX7_find cX7_find 4 (some .int) :: wG) ({ frames := 0, cells := 0, slots := 0, locals := 0 })).room s m ([.ref oM] : List Value).toArray below meth c H locs 0 0 (MQ below (va_Qi (fun (r : Int32) (_ : Nat) => (True ∧ (-1 ≤ r.toInt ∧ r.toInt < (fM_fresh 1).toInt ∧ r.toInt ≤ 17)) ∧ PX7_find iM_nameSize fM_letters fM_fresh = r) (fun (_ : Nat) (t : State) => Bw dC dI A [(oc7 oM iM_thrown rM_tape iM_taped iM_size iM_at iM_end iM_token iM_whole iM_nameSize iM_fault iM_place iM_trouble rM_letters iM_failed iM_hasCourt rM_r rM_fresh rM_told rM_read rM_st rM_undone rM_kept iM_undos iM_images rM_fresher iM_fresherSize iM_scale iM_night rM_heardRow rM_cutRow iM_breaths iM_cutMany iM_allBreaths rM_trial rM_words iM_fewestBreaths iM_orderMany iM_orderSum iM_leastOrder rM_often iM_setMany iM_someOf iM_allOf iM_allWeight iM_enoughWeight iM_worthSum iM_firstRest iM_leastDrawn), (arI rM_letters kM_letters 8 fM_letters), (arI rM_fresh kM_fresh 287 fM_fresh), (arI rM_read kM_read 90 fM_read)] [(kM_letters, .int), (kM_fresh, .int), (kM_read, .int)] t) A) ([.ref oM] : List Value).toArray s 0 0 A) (F0 m 44 ls []) := by
            intro n_5118
            induction n_5118 with
            | zero => intro z_5116 z_5117 H locs ls hi0_n_5118 hi1_n_5118 hi2_n_5118 hm; exact absurd hm (by omega)
            | succ n_5118 ih_n_5118 =>
              intro z_5116 z_5117 H locs ls hi0_n_5118 hi1_n_5118 hi2_n_5118 hm hG hP hD hS hl
              have hG := hG.trans (HX7_find_1_eq _ _ _ _ _ _ _ _)
              have nm_z_5110 : 1 ≤ (fM_fresh (125 + z_5110.toNatClampNeg)).toInt → z_5110.toInt < (fM_fresh 1).toInt := fun h9 => by have q1 := ti_cl (x := z_5110) rfl (by omega); have q2 := r_P.1.names z_5110.toNatClampNeg (by omega) (by omega); omega
              clear nm_z_5110
              refine lv_iload_n hx hb dX7_find_44 rfl (lv_at hl 0 rfl) ?_
              refine lv_aload_n hx hb dX7_find_45 rfl (lv_at hl 3 rfl) ?_
              refine va_get (D := (dC, dI)) (ci := 7) (v := .int iM_nameSize) (C := RX7) (T := TX7) (N := 48) hx hb hts inX7 hown hK hP 0 rfl rfl 8 (by decide) (hts _ wd_404) (fun _ h9 => h9) rfl dX7_find_46 ?_
              refine lv_icmp_ge (tgt := 92) hx hb dX7_find_49 (by decide) (fun c_5119 => ?_) (fun c_5119 => ?_)
              · skip
                have hG := hG.trans (if_pos c_5119)
                have gc_5119 := ti_le c_5119 rfl rfl
                refine lv_iload_n hx hb dX7_find_92 rfl (lv_at hl 1 rfl) ?_
                refine lv_if_eq (tgt := 98) hx hb dX7_find_93 (by decide) (fun c_5120 => ?_) (fun c_5120 => ?_)
                · skip
                  have hG := hG.trans (if_pos c_5120)
                  have gc_5120 := ti_eq c_5120 rfl kc_0
                  clear hi2_n_5118
                  obtain ⟨x_5121, ex_5121⟩ : ∃ z : Int32, z = z_5110 + Int32.ofInt 1 := ⟨_, rfl⟩
                  have hG := hG.trans (lt_eq ex_5121)
                  have vx_5121 : x_5121.toInt = z_5110.toInt + 1 := by have q := ti_add (y := 1) ex_5121 rfl kc_1 (by omega) (by omega); omega
                  refine lv_iinc (v := x_5121) (lv' := [(1, .int x_5121), (3, .int z_5116), (2, .int z_5117), (0, .ref oM)]) hx hb dX7_find_98 hl (k := 2) rfl ex_5121.symm (by decide) rfl (fun ls hl => ?_)
                  refine lv_goto (tgt := 2) hx hb dX7_find_101 (by decide) ?_
                  exact ih_n_5111 x_5121 _ _ _  (by first | omega | decide | assumption) (by omega) hG (hP.sub [0, 1, 2, 3] rfl) (hD.sub [0, 1, 2, 3] (by decide) rfl) hS (lv_sub hl [0, 3] rfl)
                · skip
                  have hG := hG.trans (if_neg c_5120)
                  have gc_5120 := ti_ne c_5120 rfl kc_0
                  replace gc_5120 : (-1) * z_5117.toInt + 1 ≤ 0 := by omega
                  have h_5122 := hi2_n_5118 (by omega)
                  clear hi2_n_5118
                  refine lv_iload_n hx hb dX7_find_96 rfl (lv_at hl 2 rfl) ?_
                  exact W.iret hx hb hr (fun t ht hW => ⟨⟨_, 0, rfl, ⟨⟨trivial, (by first | omega | assumption)⟩, hG⟩, Bw.to (hP.sub [0, 1, 2, 3] rfl) (hD.sub [0, 1, 2, 3] (by decide) rfl) (hK.sub [0, 1, 2] rfl) ht hW⟩, hS.F ht⟩) hS.2.2 dX7_find_97
              · skip
                have hG := hG.trans (if_neg c_5119)
                have gc_5119 := ti_nle c_5119 rfl rfl
                refine lv_iload_n hx hb dX7_find_52 rfl (lv_at hl 1 rfl) ?_
                refine lv_if_eq (tgt := 92) hx hb dX7_find_53 (by decide) (fun c_5123 => ?_) (fun c_5123 => ?_)
                · skip
                  have hG := hG.trans (if_pos c_5123)
                  have gc_5123 := ti_eq c_5123 rfl kc_0
                  clear hi2_n_5118
                  refine lv_iload_n hx hb dX7_find_92 rfl (lv_at hl 1 rfl) ?_
                  refine lv_if_eq (tgt := 98) hx hb dX7_find_93 (by decide) (fun c_5124 => ?_) (fun c_5124 => ?_)
                  · skip
                    have hG := hG.trans (if_pos c_5124)
                    have gc_5124 := ti_eq c_5124 rfl kc_0
                    obtain ⟨x_5125, ex_5125⟩ : ∃ z : Int32, z = z_5110 + Int32.ofInt 1 := ⟨_, rfl⟩
                    have hG := hG.trans (lt_eq ex_5125)
                    have vx_5125 : x_5125.toInt = z_5110.toInt + 1 := by have q := ti_add (y := 1) ex_5125 rfl kc_1 (by omega) (by omega); omega
                    refine lv_iinc (v := x_5125) (lv' := [(1, .int x_5125), (3, .int z_5116), (2, .int z_5117), (0, .ref oM)]) hx hb dX7_find_98 hl (k := 2) rfl ex_5125.symm (by decide) rfl (fun ls hl => ?_)
                    refine lv_goto (tgt := 2) hx hb dX7_find_101 (by decide) ?_
                    exact ih_n_5111 x_5125 _ _ _  (by first | omega | decide | assumption) (by omega) hG (hP.sub [0, 1, 2, 3] rfl) (hD.sub [0, 1, 2, 3] (by decide) rfl) hS (lv_sub hl [0, 3] rfl)
                  · skip
                    have hG := hG.trans (if_neg c_5124)
                    have gc_5124 := ti_ne c_5124 rfl kc_0
                    replace gc_5124 : z_5117.toInt + 1 ≤ 0 := by omega
                    exfalso; clear hG; omega
                · skip
                  have hG := hG.trans (if_neg c_5123)
                  have gc_5123 := ti_ne c_5123 rfl kc_0
                  replace gc_5123 : (-1) * z_5117.toInt + 1 ≤ 0 := by omega
                  have h_5126 := hi2_n_5118 (by omega)
                  clear hi2_n_5118
                  refine lv_aload_n hx hb dX7_find_56 rfl (lv_at hl 3 rfl) ?_
                  refine va_get (D := (dC, dI)) (ci := 7) (v := .ref rM_fresh) (C := RX7) (T := TX7) (N := 48) hx hb hts inX7 hown hK hP 0 rfl rfl 16 (by decide) (hts _ wd_156) (fun _ h9 => h9) rfl dX7_find_57 ?_
                  refine lv_sipush (v := 143) hx hb dX7_find_60 (by decide) ?_
                  refine lv_bipush (v := 8) hx hb dX7_find_63 (by decide) ?_
                  refine lv_iload_n hx hb dX7_find_65 rfl (lv_at hl 2 rfl) ?_
                  refine lv_imul hx hb dX7_find_66 ?_
                  refine lv_topi (fun x_5127 ex_5127 => ?_)
                  have hG := hG.trans (lt_eq ex_5127)
                  have vx_5127 : x_5127.toInt = 8 * z_5110.toInt := by have q := ti_mul ex_5127 kc_8 rfl (by omega) (by omega); omega
                  refine lv_iadd hx hb dX7_find_67 ?_
                  refine lv_topi (fun x_5128 ex_5128 => ?_)
                  have hG := hG.trans (lt_eq ex_5128)
                  have vx_5128 : x_5128.toInt = 8 * z_5110.toInt + 143 := by have q := ti_add ex_5128 kc_143 vx_5127 (by omega) (by omega); omega
                  refine lv_iload_n hx hb dX7_find_68 rfl (lv_at hl 0 rfl) ?_
                  refine lv_iadd hx hb dX7_find_69 ?_
                  refine lv_topi (fun x_5129 ex_5129 => ?_)
                  have hG := hG.trans (lt_eq ex_5129)
                  have vx_5129 : x_5129.toInt = 8 * z_5110.toInt + z_5116.toInt + 143 := by have q := ti_add ex_5129 vx_5128 rfl (by omega) (by omega); omega
                  refine va_iald hx hb hK hP 2 1 rfl rfl (ti_in vx_5129 (by omega) (by omega)) dX7_find_70 ?_
                  refine lv_topi (fun x_5130 ex_5130 => ?_)
                  have hG := hG.trans (lt_eq ex_5130)
                  have kx_5130 : (fM_fresh x_5129.toNatClampNeg).toInt = x_5130.toInt := by rw [ex_5130]
                  have cx_5130 : (fM_fresh (143 + 8 * z_5110.toNatClampNeg + z_5116.toNatClampNeg)).toInt = x_5130.toInt := by rw [show 143 + 8 * z_5110.toNatClampNeg + z_5116.toNatClampNeg = x_5129.toNatClampNeg from by have q9 := ti_cl (x := x_5129) vx_5129 (by omega); have q_z_5110 := ti_cl (x := z_5110) rfl (by omega); have q_z_5116 := ti_cl (x := z_5116) rfl (by omega); omega]; exact kx_5130
                  refine lv_aload_n hx hb dX7_find_71 rfl (lv_at hl 3 rfl) ?_
                  refine va_get (D := (dC, dI)) (ci := 7) (v := .ref rM_letters) (C := RX7) (T := TX7) (N := 48) hx hb hts inX7 hown hK hP 0 rfl rfl 12 (by decide) (hts _ wd_154) (fun _ h9 => h9) rfl dX7_find_72 ?_
                  refine lv_iload_n hx hb dX7_find_75 rfl (lv_at hl 0 rfl) ?_
                  refine va_iald hx hb hK hP 1 0 rfl rfl (ti_in rfl (by omega) (by omega)) dX7_find_76 ?_
                  refine lv_topi (fun x_5131 ex_5131 => ?_)
                  have hG := hG.trans (lt_eq ex_5131)
                  have kx_5131 : (fM_letters z_5116.toNatClampNeg).toInt = x_5131.toInt := by rw [ex_5131]
                  have cx_5131 := kx_5131
                  refine lv_icmp_ne (tgt := 84) hx hb dX7_find_77 (by decide) (fun c_5132 => ?_) (fun c_5132 => ?_)
                  · skip
                    have hG := hG.trans (if_neg c_5132)
                    have gc_5132 := ti_ne c_5132 rfl rfl
                    refine lv_iconst (v := 0) hx hb dX7_find_84 (by decide) ?_
                    refine lv_istore_n (lv' := [(2, .int 0), (3, .int z_5116), (1, .int z_5110), (0, .ref oM)]) hx hb dX7_find_85 rfl hl (by decide) rfl (fun ls hl => ?_)
                    obtain ⟨x_5133, ex_5133⟩ : ∃ z : Int32, z = z_5116 + Int32.ofInt 1 := ⟨_, rfl⟩
                    have hG := hG.trans (lt_eq ex_5133)
                    have vx_5133 : x_5133.toInt = z_5116.toInt + 1 := by have q := ti_add (y := 1) ex_5133 rfl kc_1 (by omega) (by omega); omega
                    refine lv_iinc (v := x_5133) (lv' := [(3, .int x_5133), (2, .int 0), (1, .int z_5110), (0, .ref oM)]) hx hb dX7_find_86 hl (k := 1) rfl ex_5133.symm (by decide) rfl (fun ls hl => ?_)
                    refine lv_goto (tgt := 44) hx hb dX7_find_89 (by decide) ?_
                    exact ih_n_5118 x_5133 0 _ _ _  (by first | omega | decide | assumption) (by first | omega | decide | assumption) (by have q0 := kc_0; have q1 := kc_1; have q2 := kc_2; have q3 := kc_3; omega) (by omega) hG (hP.sub [0, 1, 2, 3] rfl) (hD.sub [0, 1, 2, 3] (by decide) rfl) hS (lv_sub hl [0, 1, 2, 3] rfl)
                  · skip
                    have hG := hG.trans (if_pos c_5132)
                    have gc_5132 := ti_eq c_5132 rfl rfl
                    refine lv_iconst (v := 1) hx hb dX7_find_80 (by decide) ?_
                    refine lv_goto (tgt := 85) hx hb dX7_find_81 (by decide) ?_
                    refine lv_istore_n (lv' := [(2, .int 1), (3, .int z_5116), (1, .int z_5110), (0, .ref oM)]) hx hb dX7_find_85 rfl hl (by decide) rfl (fun ls hl => ?_)
                    obtain ⟨x_5134, ex_5134⟩ : ∃ z : Int32, z = z_5116 + Int32.ofInt 1 := ⟨_, rfl⟩
                    have hG := hG.trans (lt_eq ex_5134)
                    have vx_5134 : x_5134.toInt = z_5116.toInt + 1 := by have q := ti_add (y := 1) ex_5134 rfl kc_1 (by omega) (by omega); omega
                    refine lv_iinc (v := x_5134) (lv' := [(3, .int x_5134), (2, .int 1), (1, .int z_5110), (0, .ref oM)]) hx hb dX7_find_86 hl (k := 1) rfl ex_5134.symm (by decide) rfl (fun ls hl => ?_)
                    refine lv_goto (tgt := 44) hx hb dX7_find_89 (by decide) ?_
                    exact ih_n_5118 x_5134 1 _ _ _  (by first | omega | decide | assumption) (by first | omega | decide | assumption) (by have q0 := kc_0; have q1 := kc_1; have q2 := kc_2; have q3 := kc_3; omega) (by omega) hG (hP.sub [0, 1, 2, 3] rfl) (hD.sub [0, 1, 2, 3] (by decide) rfl) hS (lv_sub hl [0, 1, 2, 3] rfl)
          exact key_n_5118 (((iM_nameSize.toInt - (0 : Int32).toInt).toNat) + 1) 0 0 _ _ _  (by first | omega | decide | assumption | (have q0 := kc_0; have q1 := kc_1; omega)) (by first | omega | decide | assumption | (have q0 := kc_0; have q1 := kc_1; omega)) (by first | omega | decide | assumption | (have q0 := kc_0; have q1 := kc_1; omega)) (by omega) hG hP hD hS hl
        · skip
          have hG := hG.trans (if_neg c_5115)
          have gc_5115 := ti_nle c_5115 rfl kc_0
          refine lv_aload_n hx hb dX7_find_20 rfl (lv_at hl 1 rfl) ?_
          refine va_get (D := (dC, dI)) (ci := 7) (v := .ref rM_fresh) (C := RX7) (T := TX7) (N := 48) hx hb hts inX7 hown hK hP 0 rfl rfl 16 (by decide) (hts _ wd_156) (fun _ h9 => h9) rfl dX7_find_21 ?_
          refine lv_bipush (v := 125) hx hb dX7_find_24 (by decide) ?_
          refine lv_iload_n hx hb dX7_find_26 rfl (lv_at hl 0 rfl) ?_
          refine lv_iadd hx hb dX7_find_27 ?_
          refine lv_topi (fun x_5135 ex_5135 => ?_)
          have hG := hG.trans (lt_eq ex_5135)
          have vx_5135 : x_5135.toInt = z_5110.toInt + 125 := by have q := ti_add ex_5135 kc_125 rfl (by omega) (by omega); omega
          refine va_iald hx hb hK hP 2 1 rfl rfl (ti_in vx_5135 (by omega) (by omega)) dX7_find_28 ?_
          refine lv_topi (fun x_5136 ex_5136 => ?_)
          have hG := hG.trans (lt_eq ex_5136)
          have kx_5136 : (fM_fresh x_5135.toNatClampNeg).toInt = x_5136.toInt := by rw [ex_5136]
          have cx_5136 : (fM_fresh (125 + z_5110.toNatClampNeg)).toInt = x_5136.toInt := by rw [show 125 + z_5110.toNatClampNeg = x_5135.toNatClampNeg from by have q9 := ti_cl (x := x_5135) vx_5135 (by omega); have q_z_5110 := ti_cl (x := z_5110) rfl (by omega); omega]; exact kx_5136
          refine lv_aload_n hx hb dX7_find_29 rfl (lv_at hl 1 rfl) ?_
          refine va_get (D := (dC, dI)) (ci := 7) (v := .int iM_nameSize) (C := RX7) (T := TX7) (N := 48) hx hb hts inX7 hown hK hP 0 rfl rfl 8 (by decide) (hts _ wd_404) (fun _ h9 => h9) rfl dX7_find_30 ?_
          refine lv_icmp_ne (tgt := 40) hx hb dX7_find_33 (by decide) (fun c_5137 => ?_) (fun c_5137 => ?_)
          · skip
            have hG := hG.trans (if_neg c_5137)
            have gc_5137 := ti_ne c_5137 rfl rfl
            refine lv_iconst (v := 0) hx hb dX7_find_40 (by decide) ?_
            refine lv_istore_n (lv' := [(2, .int 0), (1, .int z_5110), (0, .ref oM)]) hx hb dX7_find_41 rfl hl (by decide) rfl (fun ls hl => ?_)
            refine lv_iconst (v := 0) hx hb dX7_find_42 (by decide) ?_
            refine lv_istore_n (lv' := [(3, .int 0), (2, .int 0), (1, .int z_5110), (0, .ref oM)]) hx hb dX7_find_43 rfl hl (by decide) rfl (fun ls hl => ?_)
            have hl := lv_sub hl (l' := [(3, .int 0), (2, .int 0), (1, .int z_5110), (0, .ref oM)]) [0, 1, 2, 3] rfl
            have key_n_5140 : ∀ (n_5140 : Nat) (z_5138 : Int32) (z_5139 : Int32) (H : Heap) (locs : List Loc) (ls : Array Slot), (0 ≤ z_5138.toInt ∧ z_5138.toInt ≤ iM_nameSize.toInt) → (0 ≤ z_5139.toInt ∧ z_5139.toInt ≤ 1) → (1 ≤ z_5139.toInt → 1 ≤ (fM_fresh (125 + z_5110.toNatClampNeg)).toInt) → (iM_nameSize.toInt - z_5138.toInt).toNat < n_5140 → (PX7_find iM_nameSize fM_letters fM_fresh = HX7_find_1 iM_nameSize fM_letters fM_fresh z_5110 (fun (z_5110 : Int32) => HX7_find_0 iM_nameSize fM_letters fM_fresh n_5111 z_5110) n_5140 z_5138 z_5139) → va_P (dC, dI) vwCl [(oc7 oM iM_thrown rM_tape iM_taped iM_size iM_at iM_end iM_token iM_whole iM_nameSize iM_fault iM_place iM_trouble rM_letters iM_failed iM_hasCourt rM_r rM_fresh rM_told rM_read rM_st rM_undone rM_kept iM_undos iM_images rM_fresher iM_fresherSize iM_scale iM_night rM_heardRow rM_cutRow iM_breaths iM_cutMany iM_allBreaths rM_trial rM_words iM_fewestBreaths iM_orderMany iM_orderSum iM_leastOrder rM_often iM_setMany iM_someOf iM_allOf iM_allWeight iM_enoughWeight iM_worthSum iM_firstRest iM_leastDrawn), (arI rM_letters kM_letters 8 fM_letters), (arI rM_fresh kM_fresh 287 fM_fresh), (arI rM_read kM_read 90 fM_read)] H → va_D A [(oc7 oM iM_thrown rM_tape iM_taped iM_size iM_at iM_end iM_token iM_whole iM_nameSize iM_fault iM_place iM_trouble rM_letters iM_failed iM_hasCourt rM_r rM_fresh rM_told rM_read rM_st rM_undone rM_kept iM_undos iM_images rM_fresher iM_fresherSize iM_scale iM_night rM_heardRow rM_cutRow iM_breaths iM_cutMany iM_allBreaths rM_trial rM_words iM_fewestBreaths iM_orderMany iM_orderSum iM_leastOrder rM_often iM_setMany iM_someOf iM_allOf iM_allWeight iM_enoughWeight iM_worthSum iM_firstRest iM_leastDrawn), (arI rM_letters kM_letters 8 fM_letters), (arI rM_fresh kM_fresh 287 fM_fresh), (arI rM_read kM_read 90 fM_read)] → va_S A s.heap H locs → lv_has ls 4 [(3, .int z_5138), (2, .int z_5139), (1, .int z_5110), (0, .ref oM)] → W p l e (headSpec (Cond.code yX7_find cX7_find 4 (some .int) :: wG) ({ frames := 0, cells := 0, slots := 0, locals := 0 })).room s m ([.ref oM] : List Value).toArray below meth c H locs 0 0 (MQ below (va_Qi (fun (r : Int32) (_ : Nat) => (True ∧ (-1 ≤ r.toInt ∧ r.toInt < (fM_fresh 1).toInt ∧ r.toInt ≤ 17)) ∧ PX7_find iM_nameSize fM_letters fM_fresh = r) (fun (_ : Nat) (t : State) => Bw dC dI A [(oc7 oM iM_thrown rM_tape iM_taped iM_size iM_at iM_end iM_token iM_whole iM_nameSize iM_fault iM_place iM_trouble rM_letters iM_failed iM_hasCourt rM_r rM_fresh rM_told rM_read rM_st rM_undone rM_kept iM_undos iM_images rM_fresher iM_fresherSize iM_scale iM_night rM_heardRow rM_cutRow iM_breaths iM_cutMany iM_allBreaths rM_trial rM_words iM_fewestBreaths iM_orderMany iM_orderSum iM_leastOrder rM_often iM_setMany iM_someOf iM_allOf iM_allWeight iM_enoughWeight iM_worthSum iM_firstRest iM_leastDrawn), (arI rM_letters kM_letters 8 fM_letters), (arI rM_fresh kM_fresh 287 fM_fresh), (arI rM_read kM_read 90 fM_read)] [(kM_letters, .int), (kM_fresh, .int), (kM_read, .int)] t) A) ([.ref oM] : List Value).toArray s 0 0 A) (F0 m 44 ls []) := by
              intro n_5140
              induction n_5140 with
              | zero => intro z_5138 z_5139 H locs ls hi0_n_5140 hi1_n_5140 hi2_n_5140 hm; exact absurd hm (by omega)
              | succ n_5140 ih_n_5140 =>
                intro z_5138 z_5139 H locs ls hi0_n_5140 hi1_n_5140 hi2_n_5140 hm hG hP hD hS hl
                have hG := hG.trans (HX7_find_1_eq _ _ _ _ _ _ _ _)
                have nm_z_5110 : 1 ≤ (fM_fresh (125 + z_5110.toNatClampNeg)).toInt → z_5110.toInt < (fM_fresh 1).toInt := fun h9 => by have q1 := ti_cl (x := z_5110) rfl (by omega); have q2 := r_P.1.names z_5110.toNatClampNeg (by omega) (by omega); omega
                have h_5141 := nm_z_5110 (by omega)
                clear nm_z_5110
                refine lv_iload_n hx hb dX7_find_44 rfl (lv_at hl 0 rfl) ?_
                refine lv_aload_n hx hb dX7_find_45 rfl (lv_at hl 3 rfl) ?_
                refine va_get (D := (dC, dI)) (ci := 7) (v := .int iM_nameSize) (C := RX7) (T := TX7) (N := 48) hx hb hts inX7 hown hK hP 0 rfl rfl 8 (by decide) (hts _ wd_404) (fun _ h9 => h9) rfl dX7_find_46 ?_
                refine lv_icmp_ge (tgt := 92) hx hb dX7_find_49 (by decide) (fun c_5142 => ?_) (fun c_5142 => ?_)
                · skip
                  have hG := hG.trans (if_pos c_5142)
                  have gc_5142 := ti_le c_5142 rfl rfl
                  refine lv_iload_n hx hb dX7_find_92 rfl (lv_at hl 1 rfl) ?_
                  refine lv_if_eq (tgt := 98) hx hb dX7_find_93 (by decide) (fun c_5143 => ?_) (fun c_5143 => ?_)
                  · skip
                    have hG := hG.trans (if_pos c_5143)
                    have gc_5143 := ti_eq c_5143 rfl kc_0
                    clear hi2_n_5140
                    obtain ⟨x_5144, ex_5144⟩ : ∃ z : Int32, z = z_5110 + Int32.ofInt 1 := ⟨_, rfl⟩
                    have hG := hG.trans (lt_eq ex_5144)
                    have vx_5144 : x_5144.toInt = z_5110.toInt + 1 := by have q := ti_add (y := 1) ex_5144 rfl kc_1 (by omega) (by omega); omega
                    refine lv_iinc (v := x_5144) (lv' := [(1, .int x_5144), (3, .int z_5138), (2, .int z_5139), (0, .ref oM)]) hx hb dX7_find_98 hl (k := 2) rfl ex_5144.symm (by decide) rfl (fun ls hl => ?_)
                    refine lv_goto (tgt := 2) hx hb dX7_find_101 (by decide) ?_
                    exact ih_n_5111 x_5144 _ _ _  (by first | omega | decide | assumption) (by omega) hG (hP.sub [0, 1, 2, 3] rfl) (hD.sub [0, 1, 2, 3] (by decide) rfl) hS (lv_sub hl [0, 3] rfl)
                  · skip
                    have hG := hG.trans (if_neg c_5143)
                    have gc_5143 := ti_ne c_5143 rfl kc_0
                    replace gc_5143 : (-1) * z_5139.toInt + 1 ≤ 0 := by omega
                    have h_5145 := hi2_n_5140 (by omega)
                    clear hi2_n_5140
                    refine lv_iload_n hx hb dX7_find_96 rfl (lv_at hl 2 rfl) ?_
                    exact W.iret hx hb hr (fun t ht hW => ⟨⟨_, 0, rfl, ⟨⟨trivial, (by first | omega | assumption)⟩, hG⟩, Bw.to (hP.sub [0, 1, 2, 3] rfl) (hD.sub [0, 1, 2, 3] (by decide) rfl) (hK.sub [0, 1, 2] rfl) ht hW⟩, hS.F ht⟩) hS.2.2 dX7_find_97
                · skip
                  have hG := hG.trans (if_neg c_5142)
                  have gc_5142 := ti_nle c_5142 rfl rfl
                  refine lv_iload_n hx hb dX7_find_52 rfl (lv_at hl 1 rfl) ?_
                  refine lv_if_eq (tgt := 92) hx hb dX7_find_53 (by decide) (fun c_5146 => ?_) (fun c_5146 => ?_)
                  · skip
                    have hG := hG.trans (if_pos c_5146)
                    have gc_5146 := ti_eq c_5146 rfl kc_0
                    clear hi2_n_5140
                    refine lv_iload_n hx hb dX7_find_92 rfl (lv_at hl 1 rfl) ?_
                    refine lv_if_eq (tgt := 98) hx hb dX7_find_93 (by decide) (fun c_5147 => ?_) (fun c_5147 => ?_)
                    · skip
                      have hG := hG.trans (if_pos c_5147)
                      have gc_5147 := ti_eq c_5147 rfl kc_0
                      obtain ⟨x_5148, ex_5148⟩ : ∃ z : Int32, z = z_5110 + Int32.ofInt 1 := ⟨_, rfl⟩
                      have hG := hG.trans (lt_eq ex_5148)
                      have vx_5148 : x_5148.toInt = z_5110.toInt + 1 := by have q := ti_add (y := 1) ex_5148 rfl kc_1 (by omega) (by omega); omega
                      refine lv_iinc (v := x_5148) (lv' := [(1, .int x_5148), (3, .int z_5138), (2, .int z_5139), (0, .ref oM)]) hx hb dX7_find_98 hl (k := 2) rfl ex_5148.symm (by decide) rfl (fun ls hl => ?_)
                      refine lv_goto (tgt := 2) hx hb dX7_find_101 (by decide) ?_
                      exact ih_n_5111 x_5148 _ _ _  (by first | omega | decide | assumption) (by omega) hG (hP.sub [0, 1, 2, 3] rfl) (hD.sub [0, 1, 2, 3] (by decide) rfl) hS (lv_sub hl [0, 3] rfl)
                    · skip
                      have hG := hG.trans (if_neg c_5147)
                      have gc_5147 := ti_ne c_5147 rfl kc_0
                      replace gc_5147 : z_5139.toInt + 1 ≤ 0 := by omega
                      exfalso; clear hG; omega
                  · skip
                    have hG := hG.trans (if_neg c_5146)
                    have gc_5146 := ti_ne c_5146 rfl kc_0
                    replace gc_5146 : (-1) * z_5139.toInt + 1 ≤ 0 := by omega
                    have h_5149 := hi2_n_5140 (by omega)
                    clear hi2_n_5140
                    refine lv_aload_n hx hb dX7_find_56 rfl (lv_at hl 3 rfl) ?_
                    refine va_get (D := (dC, dI)) (ci := 7) (v := .ref rM_fresh) (C := RX7) (T := TX7) (N := 48) hx hb hts inX7 hown hK hP 0 rfl rfl 16 (by decide) (hts _ wd_156) (fun _ h9 => h9) rfl dX7_find_57 ?_
                    refine lv_sipush (v := 143) hx hb dX7_find_60 (by decide) ?_
                    refine lv_bipush (v := 8) hx hb dX7_find_63 (by decide) ?_
                    refine lv_iload_n hx hb dX7_find_65 rfl (lv_at hl 2 rfl) ?_
                    refine lv_imul hx hb dX7_find_66 ?_
                    refine lv_topi (fun x_5150 ex_5150 => ?_)
                    have hG := hG.trans (lt_eq ex_5150)
                    have vx_5150 : x_5150.toInt = 8 * z_5110.toInt := by have q := ti_mul ex_5150 kc_8 rfl (by omega) (by omega); omega
                    refine lv_iadd hx hb dX7_find_67 ?_
                    refine lv_topi (fun x_5151 ex_5151 => ?_)
                    have hG := hG.trans (lt_eq ex_5151)
                    have vx_5151 : x_5151.toInt = 8 * z_5110.toInt + 143 := by have q := ti_add ex_5151 kc_143 vx_5150 (by omega) (by omega); omega
                    refine lv_iload_n hx hb dX7_find_68 rfl (lv_at hl 0 rfl) ?_
                    refine lv_iadd hx hb dX7_find_69 ?_
                    refine lv_topi (fun x_5152 ex_5152 => ?_)
                    have hG := hG.trans (lt_eq ex_5152)
                    have vx_5152 : x_5152.toInt = 8 * z_5110.toInt + z_5138.toInt + 143 := by have q := ti_add ex_5152 vx_5151 rfl (by omega) (by omega); omega
                    refine va_iald hx hb hK hP 2 1 rfl rfl (ti_in vx_5152 (by omega) (by omega)) dX7_find_70 ?_
                    refine lv_topi (fun x_5153 ex_5153 => ?_)
                    have hG := hG.trans (lt_eq ex_5153)
                    have kx_5153 : (fM_fresh x_5152.toNatClampNeg).toInt = x_5153.toInt := by rw [ex_5153]
                    have cx_5153 : (fM_fresh (143 + 8 * z_5110.toNatClampNeg + z_5138.toNatClampNeg)).toInt = x_5153.toInt := by rw [show 143 + 8 * z_5110.toNatClampNeg + z_5138.toNatClampNeg = x_5152.toNatClampNeg from by have q9 := ti_cl (x := x_5152) vx_5152 (by omega); have q_z_5110 := ti_cl (x := z_5110) rfl (by omega); have q_z_5138 := ti_cl (x := z_5138) rfl (by omega); omega]; exact kx_5153
                    refine lv_aload_n hx hb dX7_find_71 rfl (lv_at hl 3 rfl) ?_
                    refine va_get (D := (dC, dI)) (ci := 7) (v := .ref rM_letters) (C := RX7) (T := TX7) (N := 48) hx hb hts inX7 hown hK hP 0 rfl rfl 12 (by decide) (hts _ wd_154) (fun _ h9 => h9) rfl dX7_find_72 ?_
                    refine lv_iload_n hx hb dX7_find_75 rfl (lv_at hl 0 rfl) ?_
                    refine va_iald hx hb hK hP 1 0 rfl rfl (ti_in rfl (by omega) (by omega)) dX7_find_76 ?_
                    refine lv_topi (fun x_5154 ex_5154 => ?_)
                    have hG := hG.trans (lt_eq ex_5154)
                    have kx_5154 : (fM_letters z_5138.toNatClampNeg).toInt = x_5154.toInt := by rw [ex_5154]
                    have cx_5154 := kx_5154
                    refine lv_icmp_ne (tgt := 84) hx hb dX7_find_77 (by decide) (fun c_5155 => ?_) (fun c_5155 => ?_)
                    · skip
                      have hG := hG.trans (if_neg c_5155)
                      have gc_5155 := ti_ne c_5155 rfl rfl
                      refine lv_iconst (v := 0) hx hb dX7_find_84 (by decide) ?_
                      refine lv_istore_n (lv' := [(2, .int 0), (3, .int z_5138), (1, .int z_5110), (0, .ref oM)]) hx hb dX7_find_85 rfl hl (by decide) rfl (fun ls hl => ?_)
                      obtain ⟨x_5156, ex_5156⟩ : ∃ z : Int32, z = z_5138 + Int32.ofInt 1 := ⟨_, rfl⟩
                      have hG := hG.trans (lt_eq ex_5156)
                      have vx_5156 : x_5156.toInt = z_5138.toInt + 1 := by have q := ti_add (y := 1) ex_5156 rfl kc_1 (by omega) (by omega); omega
                      refine lv_iinc (v := x_5156) (lv' := [(3, .int x_5156), (2, .int 0), (1, .int z_5110), (0, .ref oM)]) hx hb dX7_find_86 hl (k := 1) rfl ex_5156.symm (by decide) rfl (fun ls hl => ?_)
                      refine lv_goto (tgt := 44) hx hb dX7_find_89 (by decide) ?_
                      exact ih_n_5140 x_5156 0 _ _ _  (by first | omega | decide | assumption) (by first | omega | decide | assumption) (by have q0 := kc_0; have q1 := kc_1; have q2 := kc_2; have q3 := kc_3; omega) (by omega) hG (hP.sub [0, 1, 2, 3] rfl) (hD.sub [0, 1, 2, 3] (by decide) rfl) hS (lv_sub hl [0, 1, 2, 3] rfl)
                    · skip
                      have hG := hG.trans (if_pos c_5155)
                      have gc_5155 := ti_eq c_5155 rfl rfl
                      refine lv_iconst (v := 1) hx hb dX7_find_80 (by decide) ?_
                      refine lv_goto (tgt := 85) hx hb dX7_find_81 (by decide) ?_
                      refine lv_istore_n (lv' := [(2, .int 1), (3, .int z_5138), (1, .int z_5110), (0, .ref oM)]) hx hb dX7_find_85 rfl hl (by decide) rfl (fun ls hl => ?_)
                      obtain ⟨x_5157, ex_5157⟩ : ∃ z : Int32, z = z_5138 + Int32.ofInt 1 := ⟨_, rfl⟩
                      have hG := hG.trans (lt_eq ex_5157)
                      have vx_5157 : x_5157.toInt = z_5138.toInt + 1 := by have q := ti_add (y := 1) ex_5157 rfl kc_1 (by omega) (by omega); omega
                      refine lv_iinc (v := x_5157) (lv' := [(3, .int x_5157), (2, .int 1), (1, .int z_5110), (0, .ref oM)]) hx hb dX7_find_86 hl (k := 1) rfl ex_5157.symm (by decide) rfl (fun ls hl => ?_)
                      refine lv_goto (tgt := 44) hx hb dX7_find_89 (by decide) ?_
                      exact ih_n_5140 x_5157 1 _ _ _  (by first | omega | decide | assumption) (by first | omega | decide | assumption) (by have q0 := kc_0; have q1 := kc_1; have q2 := kc_2; have q3 := kc_3; omega) (by omega) hG (hP.sub [0, 1, 2, 3] rfl) (hD.sub [0, 1, 2, 3] (by decide) rfl) hS (lv_sub hl [0, 1, 2, 3] rfl)
            exact key_n_5140 (((iM_nameSize.toInt - (0 : Int32).toInt).toNat) + 1) 0 0 _ _ _  (by first | omega | decide | assumption | (have q0 := kc_0; have q1 := kc_1; omega)) (by first | omega | decide | assumption | (have q0 := kc_0; have q1 := kc_1; omega)) (by first | omega | decide | assumption | (have q0 := kc_0; have q1 := kc_1; omega)) (by omega) hG hP hD hS hl
          · skip
            have hG := hG.trans (if_pos c_5137)
            have gc_5137 := ti_eq c_5137 rfl rfl
            refine lv_iconst (v := 1) hx hb dX7_find_36 (by decide) ?_
            refine lv_goto (tgt := 41) hx hb dX7_find_37 (by decide) ?_
            refine lv_istore_n (lv' := [(2, .int 1), (1, .int z_5110), (0, .ref oM)]) hx hb dX7_find_41 rfl hl (by decide) rfl (fun ls hl => ?_)
            refine lv_iconst (v := 0) hx hb dX7_find_42 (by decide) ?_
            refine lv_istore_n (lv' := [(3, .int 0), (2, .int 1), (1, .int z_5110), (0, .ref oM)]) hx hb dX7_find_43 rfl hl (by decide) rfl (fun ls hl => ?_)
            have hl := lv_sub hl (l' := [(3, .int 0), (2, .int 1), (1, .int z_5110), (0, .ref oM)]) [0, 1, 2, 3] rfl
            have key_n_5160 : ∀ (n_5160 : Nat) (z_5158 : Int32) (z_5159 : Int32) (H : Heap) (locs : List Loc) (ls : Array Slot), (0 ≤ z_5158.toInt ∧ z_5158.toInt ≤ iM_nameSize.toInt) → (0 ≤ z_5159.toInt ∧ z_5159.toInt ≤ 1) → (1 ≤ z_5159.toInt → 1 ≤ (fM_fresh (125 + z_5110.toNatClampNeg)).toInt) → (iM_nameSize.toInt - z_5158.toInt).toNat < n_5160 → (PX7_find iM_nameSize fM_letters fM_fresh = HX7_find_1 iM_nameSize fM_letters fM_fresh z_5110 (fun (z_5110 : Int32) => HX7_find_0 iM_nameSize fM_letters fM_fresh n_5111 z_5110) n_5160 z_5158 z_5159) → va_P (dC, dI) vwCl [(oc7 oM iM_thrown rM_tape iM_taped iM_size iM_at iM_end iM_token iM_whole iM_nameSize iM_fault iM_place iM_trouble rM_letters iM_failed iM_hasCourt rM_r rM_fresh rM_told rM_read rM_st rM_undone rM_kept iM_undos iM_images rM_fresher iM_fresherSize iM_scale iM_night rM_heardRow rM_cutRow iM_breaths iM_cutMany iM_allBreaths rM_trial rM_words iM_fewestBreaths iM_orderMany iM_orderSum iM_leastOrder rM_often iM_setMany iM_someOf iM_allOf iM_allWeight iM_enoughWeight iM_worthSum iM_firstRest iM_leastDrawn), (arI rM_letters kM_letters 8 fM_letters), (arI rM_fresh kM_fresh 287 fM_fresh), (arI rM_read kM_read 90 fM_read)] H → va_D A [(oc7 oM iM_thrown rM_tape iM_taped iM_size iM_at iM_end iM_token iM_whole iM_nameSize iM_fault iM_place iM_trouble rM_letters iM_failed iM_hasCourt rM_r rM_fresh rM_told rM_read rM_st rM_undone rM_kept iM_undos iM_images rM_fresher iM_fresherSize iM_scale iM_night rM_heardRow rM_cutRow iM_breaths iM_cutMany iM_allBreaths rM_trial rM_words iM_fewestBreaths iM_orderMany iM_orderSum iM_leastOrder rM_often iM_setMany iM_someOf iM_allOf iM_allWeight iM_enoughWeight iM_worthSum iM_firstRest iM_leastDrawn), (arI rM_letters kM_letters 8 fM_letters), (arI rM_fresh kM_fresh 287 fM_fresh), (arI rM_read kM_read 90 fM_read)] → va_S A s.heap H locs → lv_has ls 4 [(3, .int z_5158), (2, .int z_5159), (1, .int z_5110), (0, .ref oM)] → W p l e (headSpec (Cond.code yX7_find cX7_find 4 (some .int) :: wG) ({ frames := 0, cells := 0, slots := 0, locals := 0 })).room s m ([.ref oM] : List Value).toArray below meth c H locs 0 0 (MQ below (va_Qi (fun (r : Int32) (_ : Nat) => (True ∧ (-1 ≤ r.toInt ∧ r.toInt < (fM_fresh 1).toInt ∧ r.toInt ≤ 17)) ∧ PX7_find iM_nameSize fM_letters fM_fresh = r) (fun (_ : Nat) (t : State) => Bw dC dI A [(oc7 oM iM_thrown rM_tape iM_taped iM_size iM_at iM_end iM_token iM_whole iM_nameSize iM_fault iM_place iM_trouble rM_letters iM_failed iM_hasCourt rM_r rM_fresh rM_told rM_read rM_st rM_undone rM_kept iM_undos iM_images rM_fresher iM_fresherSize iM_scale iM_night rM_heardRow rM_cutRow iM_breaths iM_cutMany iM_allBreaths rM_trial rM_words iM_fewestBreaths iM_orderMany iM_orderSum iM_leastOrder rM_often iM_setMany iM_someOf iM_allOf iM_allWeight iM_enoughWeight iM_worthSum iM_firstRest iM_leastDrawn), (arI rM_letters kM_letters 8 fM_letters), (arI rM_fresh kM_fresh 287 fM_fresh), (arI rM_read kM_read 90 fM_read)] [(kM_letters, .int), (kM_fresh, .int), (kM_read, .int)] t) A) ([.ref oM] : List Value).toArray s 0 0 A) (F0 m 44 ls []) := by
              intro n_5160
              induction n_5160 with
              | zero => intro z_5158 z_5159 H locs ls hi0_n_5160 hi1_n_5160 hi2_n_5160 hm; exact absurd hm (by omega)
              | succ n_5160 ih_n_5160 =>
                intro z_5158 z_5159 H locs ls hi0_n_5160 hi1_n_5160 hi2_n_5160 hm hG hP hD hS hl
                have hG := hG.trans (HX7_find_1_eq _ _ _ _ _ _ _ _)
                have nm_z_5110 : 1 ≤ (fM_fresh (125 + z_5110.toNatClampNeg)).toInt → z_5110.toInt < (fM_fresh 1).toInt := fun h9 => by have q1 := ti_cl (x := z_5110) rfl (by omega); have q2 := r_P.1.names z_5110.toNatClampNeg (by omega) (by omega); omega
                have h_5161 := nm_z_5110 (by omega)
                clear nm_z_5110
                refine lv_iload_n hx hb dX7_find_44 rfl (lv_at hl 0 rfl) ?_
                refine lv_aload_n hx hb dX7_find_45 rfl (lv_at hl 3 rfl) ?_
                refine va_get (D := (dC, dI)) (ci := 7) (v := .int iM_nameSize) (C := RX7) (T := TX7) (N := 48) hx hb hts inX7 hown hK hP 0 rfl rfl 8 (by decide) (hts _ wd_404) (fun _ h9 => h9) rfl dX7_find_46 ?_
                refine lv_icmp_ge (tgt := 92) hx hb dX7_find_49 (by decide) (fun c_5162 => ?_) (fun c_5162 => ?_)
                · skip
                  have hG := hG.trans (if_pos c_5162)
                  have gc_5162 := ti_le c_5162 rfl rfl
                  refine lv_iload_n hx hb dX7_find_92 rfl (lv_at hl 1 rfl) ?_
                  refine lv_if_eq (tgt := 98) hx hb dX7_find_93 (by decide) (fun c_5163 => ?_) (fun c_5163 => ?_)
                  · skip
                    have hG := hG.trans (if_pos c_5163)
                    have gc_5163 := ti_eq c_5163 rfl kc_0
                    clear hi2_n_5160
                    obtain ⟨x_5164, ex_5164⟩ : ∃ z : Int32, z = z_5110 + Int32.ofInt 1 := ⟨_, rfl⟩
                    have hG := hG.trans (lt_eq ex_5164)
                    have vx_5164 : x_5164.toInt = z_5110.toInt + 1 := by have q := ti_add (y := 1) ex_5164 rfl kc_1 (by omega) (by omega); omega
                    refine lv_iinc (v := x_5164) (lv' := [(1, .int x_5164), (3, .int z_5158), (2, .int z_5159), (0, .ref oM)]) hx hb dX7_find_98 hl (k := 2) rfl ex_5164.symm (by decide) rfl (fun ls hl => ?_)
                    refine lv_goto (tgt := 2) hx hb dX7_find_101 (by decide) ?_
                    exact ih_n_5111 x_5164 _ _ _  (by first | omega | decide | assumption) (by omega) hG (hP.sub [0, 1, 2, 3] rfl) (hD.sub [0, 1, 2, 3] (by decide) rfl) hS (lv_sub hl [0, 3] rfl)
                  · skip
                    have hG := hG.trans (if_neg c_5163)
                    have gc_5163 := ti_ne c_5163 rfl kc_0
                    replace gc_5163 : (-1) * z_5159.toInt + 1 ≤ 0 := by omega
                    have h_5165 := hi2_n_5160 (by omega)
                    clear hi2_n_5160
                    refine lv_iload_n hx hb dX7_find_96 rfl (lv_at hl 2 rfl) ?_
                    exact W.iret hx hb hr (fun t ht hW => ⟨⟨_, 0, rfl, ⟨⟨trivial, (by first | omega | assumption)⟩, hG⟩, Bw.to (hP.sub [0, 1, 2, 3] rfl) (hD.sub [0, 1, 2, 3] (by decide) rfl) (hK.sub [0, 1, 2] rfl) ht hW⟩, hS.F ht⟩) hS.2.2 dX7_find_97
                · skip
                  have hG := hG.trans (if_neg c_5162)
                  have gc_5162 := ti_nle c_5162 rfl rfl
                  refine lv_iload_n hx hb dX7_find_52 rfl (lv_at hl 1 rfl) ?_
                  refine lv_if_eq (tgt := 92) hx hb dX7_find_53 (by decide) (fun c_5166 => ?_) (fun c_5166 => ?_)
                  · skip
                    have hG := hG.trans (if_pos c_5166)
                    have gc_5166 := ti_eq c_5166 rfl kc_0
                    clear hi2_n_5160
                    refine lv_iload_n hx hb dX7_find_92 rfl (lv_at hl 1 rfl) ?_
                    refine lv_if_eq (tgt := 98) hx hb dX7_find_93 (by decide) (fun c_5167 => ?_) (fun c_5167 => ?_)
                    · skip
                      have hG := hG.trans (if_pos c_5167)
                      have gc_5167 := ti_eq c_5167 rfl kc_0
                      obtain ⟨x_5168, ex_5168⟩ : ∃ z : Int32, z = z_5110 + Int32.ofInt 1 := ⟨_, rfl⟩
                      have hG := hG.trans (lt_eq ex_5168)
                      have vx_5168 : x_5168.toInt = z_5110.toInt + 1 := by have q := ti_add (y := 1) ex_5168 rfl kc_1 (by omega) (by omega); omega
                      refine lv_iinc (v := x_5168) (lv' := [(1, .int x_5168), (3, .int z_5158), (2, .int z_5159), (0, .ref oM)]) hx hb dX7_find_98 hl (k := 2) rfl ex_5168.symm (by decide) rfl (fun ls hl => ?_)
                      refine lv_goto (tgt := 2) hx hb dX7_find_101 (by decide) ?_
                      exact ih_n_5111 x_5168 _ _ _  (by first | omega | decide | assumption) (by omega) hG (hP.sub [0, 1, 2, 3] rfl) (hD.sub [0, 1, 2, 3] (by decide) rfl) hS (lv_sub hl [0, 3] rfl)
                    · skip
                      have hG := hG.trans (if_neg c_5167)
                      have gc_5167 := ti_ne c_5167 rfl kc_0
                      replace gc_5167 : z_5159.toInt + 1 ≤ 0 := by omega
                      exfalso; clear hG; omega
                  · skip
                    have hG := hG.trans (if_neg c_5166)
                    have gc_5166 := ti_ne c_5166 rfl kc_0
                    replace gc_5166 : (-1) * z_5159.toInt + 1 ≤ 0 := by omega
                    have h_5169 := hi2_n_5160 (by omega)
                    clear hi2_n_5160
                    refine lv_aload_n hx hb dX7_find_56 rfl (lv_at hl 3 rfl) ?_
                    refine va_get (D := (dC, dI)) (ci := 7) (v := .ref rM_fresh) (C := RX7) (T := TX7) (N := 48) hx hb hts inX7 hown hK hP 0 rfl rfl 16 (by decide) (hts _ wd_156) (fun _ h9 => h9) rfl dX7_find_57 ?_
                    refine lv_sipush (v := 143) hx hb dX7_find_60 (by decide) ?_
                    refine lv_bipush (v := 8) hx hb dX7_find_63 (by decide) ?_
                    refine lv_iload_n hx hb dX7_find_65 rfl (lv_at hl 2 rfl) ?_
                    refine lv_imul hx hb dX7_find_66 ?_
                    refine lv_topi (fun x_5170 ex_5170 => ?_)
                    have hG := hG.trans (lt_eq ex_5170)
                    have vx_5170 : x_5170.toInt = 8 * z_5110.toInt := by have q := ti_mul ex_5170 kc_8 rfl (by omega) (by omega); omega
                    refine lv_iadd hx hb dX7_find_67 ?_
                    refine lv_topi (fun x_5171 ex_5171 => ?_)
                    have hG := hG.trans (lt_eq ex_5171)
                    have vx_5171 : x_5171.toInt = 8 * z_5110.toInt + 143 := by have q := ti_add ex_5171 kc_143 vx_5170 (by omega) (by omega); omega
                    refine lv_iload_n hx hb dX7_find_68 rfl (lv_at hl 0 rfl) ?_
                    refine lv_iadd hx hb dX7_find_69 ?_
                    refine lv_topi (fun x_5172 ex_5172 => ?_)
                    have hG := hG.trans (lt_eq ex_5172)
                    have vx_5172 : x_5172.toInt = 8 * z_5110.toInt + z_5158.toInt + 143 := by have q := ti_add ex_5172 vx_5171 rfl (by omega) (by omega); omega
                    refine va_iald hx hb hK hP 2 1 rfl rfl (ti_in vx_5172 (by omega) (by omega)) dX7_find_70 ?_
                    refine lv_topi (fun x_5173 ex_5173 => ?_)
                    have hG := hG.trans (lt_eq ex_5173)
                    have kx_5173 : (fM_fresh x_5172.toNatClampNeg).toInt = x_5173.toInt := by rw [ex_5173]
                    have cx_5173 : (fM_fresh (143 + 8 * z_5110.toNatClampNeg + z_5158.toNatClampNeg)).toInt = x_5173.toInt := by rw [show 143 + 8 * z_5110.toNatClampNeg + z_5158.toNatClampNeg = x_5172.toNatClampNeg from by have q9 := ti_cl (x := x_5172) vx_5172 (by omega); have q_z_5110 := ti_cl (x := z_5110) rfl (by omega); have q_z_5158 := ti_cl (x := z_5158) rfl (by omega); omega]; exact kx_5173
                    refine lv_aload_n hx hb dX7_find_71 rfl (lv_at hl 3 rfl) ?_
                    refine va_get (D := (dC, dI)) (ci := 7) (v := .ref rM_letters) (C := RX7) (T := TX7) (N := 48) hx hb hts inX7 hown hK hP 0 rfl rfl 12 (by decide) (hts _ wd_154) (fun _ h9 => h9) rfl dX7_find_72 ?_
                    refine lv_iload_n hx hb dX7_find_75 rfl (lv_at hl 0 rfl) ?_
                    refine va_iald hx hb hK hP 1 0 rfl rfl (ti_in rfl (by omega) (by omega)) dX7_find_76 ?_
                    refine lv_topi (fun x_5174 ex_5174 => ?_)
                    have hG := hG.trans (lt_eq ex_5174)
                    have kx_5174 : (fM_letters z_5158.toNatClampNeg).toInt = x_5174.toInt := by rw [ex_5174]
                    have cx_5174 := kx_5174
                    refine lv_icmp_ne (tgt := 84) hx hb dX7_find_77 (by decide) (fun c_5175 => ?_) (fun c_5175 => ?_)
                    · skip
                      have hG := hG.trans (if_neg c_5175)
                      have gc_5175 := ti_ne c_5175 rfl rfl
                      refine lv_iconst (v := 0) hx hb dX7_find_84 (by decide) ?_
                      refine lv_istore_n (lv' := [(2, .int 0), (3, .int z_5158), (1, .int z_5110), (0, .ref oM)]) hx hb dX7_find_85 rfl hl (by decide) rfl (fun ls hl => ?_)
                      obtain ⟨x_5176, ex_5176⟩ : ∃ z : Int32, z = z_5158 + Int32.ofInt 1 := ⟨_, rfl⟩
                      have hG := hG.trans (lt_eq ex_5176)
                      have vx_5176 : x_5176.toInt = z_5158.toInt + 1 := by have q := ti_add (y := 1) ex_5176 rfl kc_1 (by omega) (by omega); omega
                      refine lv_iinc (v := x_5176) (lv' := [(3, .int x_5176), (2, .int 0), (1, .int z_5110), (0, .ref oM)]) hx hb dX7_find_86 hl (k := 1) rfl ex_5176.symm (by decide) rfl (fun ls hl => ?_)
                      refine lv_goto (tgt := 44) hx hb dX7_find_89 (by decide) ?_
                      exact ih_n_5160 x_5176 0 _ _ _  (by first | omega | decide | assumption) (by first | omega | decide | assumption) (by have q0 := kc_0; have q1 := kc_1; have q2 := kc_2; have q3 := kc_3; omega) (by omega) hG (hP.sub [0, 1, 2, 3] rfl) (hD.sub [0, 1, 2, 3] (by decide) rfl) hS (lv_sub hl [0, 1, 2, 3] rfl)
                    · skip
                      have hG := hG.trans (if_pos c_5175)
                      have gc_5175 := ti_eq c_5175 rfl rfl
                      refine lv_iconst (v := 1) hx hb dX7_find_80 (by decide) ?_
                      refine lv_goto (tgt := 85) hx hb dX7_find_81 (by decide) ?_
                      refine lv_istore_n (lv' := [(2, .int 1), (3, .int z_5158), (1, .int z_5110), (0, .ref oM)]) hx hb dX7_find_85 rfl hl (by decide) rfl (fun ls hl => ?_)
                      obtain ⟨x_5177, ex_5177⟩ : ∃ z : Int32, z = z_5158 + Int32.ofInt 1 := ⟨_, rfl⟩
                      have hG := hG.trans (lt_eq ex_5177)
                      have vx_5177 : x_5177.toInt = z_5158.toInt + 1 := by have q := ti_add (y := 1) ex_5177 rfl kc_1 (by omega) (by omega); omega
                      refine lv_iinc (v := x_5177) (lv' := [(3, .int x_5177), (2, .int 1), (1, .int z_5110), (0, .ref oM)]) hx hb dX7_find_86 hl (k := 1) rfl ex_5177.symm (by decide) rfl (fun ls hl => ?_)
                      refine lv_goto (tgt := 44) hx hb dX7_find_89 (by decide) ?_
                      exact ih_n_5160 x_5177 1 _ _ _  (by first | omega | decide | assumption) (by first | omega | decide | assumption) (by have q0 := kc_0; have q1 := kc_1; have q2 := kc_2; have q3 := kc_3; omega) (by omega) hG (hP.sub [0, 1, 2, 3] rfl) (hD.sub [0, 1, 2, 3] (by decide) rfl) hS (lv_sub hl [0, 1, 2, 3] rfl)
            exact key_n_5160 (((iM_nameSize.toInt - (0 : Int32).toInt).toNat) + 1) 0 1 _ _ _  (by first | omega | decide | assumption | (have q0 := kc_0; have q1 := kc_1; omega)) (by first | omega | decide | assumption | (have q0 := kc_0; have q1 := kc_1; omega)) (by first | omega | decide | assumption | (have q0 := kc_0; have q1 := kc_1; omega)) (by omega) hG hP hD hS hl
  exact key_n_5111 (((18 - (0 : Int32).toInt).toNat) + 1) 0 _ _ _  (by first | omega | decide | assumption | (have q0 := kc_0; have q1 := kc_1; omega)) (by omega) hG hP hD hS hl
set_option maxHeartbeats 4000000 in
set_option maxRecDepth 100000 in
theorem tX7_newName (l : Launch) (dC : Nat → ClassId) (dI : Nat → Nat → Nat) (sz : Nat) (oM : Nat) (iM_thrown : Int32) (rM_tape : Nat) (fM_tape : Nat → Int32) (kM_tape : ClassId) (iM_taped : Int32) (iM_size : Int32) (iM_at : Int32) (iM_end : Int32) (iM_token : Int32) (iM_whole : Int32) (iM_nameSize : Int32) (iM_fault : Int32) (iM_place : Int32) (iM_trouble : Int32) (rM_letters : Nat) (fM_letters : Nat → Int32) (kM_letters : ClassId) (iM_failed : Int32) (iM_hasCourt : Int32) (rM_r : Nat) (rM_fresh : Nat) (fM_fresh : Nat → Int32) (kM_fresh : ClassId) (rM_told : Nat) (rM_read : Nat) (fM_read : Nat → Int32) (kM_read : ClassId) (rM_st : Nat) (rM_undone : Nat) (rM_kept : Nat) (iM_undos : Int32) (iM_images : Int32) (rM_fresher : Nat) (fM_fresher : Nat → Int32) (kM_fresher : ClassId) (iM_fresherSize : Int32) (iM_scale : Int32) (iM_night : Int32) (rM_heardRow : Nat) (rM_cutRow : Nat) (iM_breaths : Int32) (iM_cutMany : Int32) (iM_allBreaths : Int32) (rM_trial : Nat) (rM_words : Nat) (iM_fewestBreaths : Int32) (iM_orderMany : Int32) (iM_orderSum : Int32) (iM_leastOrder : Int32) (rM_often : Nat) (iM_setMany : Int32) (iM_someOf : Int32) (iM_allOf : Int32) (iM_allWeight : Int64) (iM_enoughWeight : Int64) (iM_worthSum : Int64) (iM_firstRest : Int32) (iM_leastDrawn : Int32) (b_iM_taped : 0 ≤ iM_taped.toInt ∧ iM_taped.toInt ≤ 900) (b_iM_size : 0 ≤ iM_size.toInt ∧ iM_size.toInt ≤ 900) (b_iM_end : 0 ≤ iM_end.toInt ∧ iM_end.toInt ≤ 900) (b_iM_nameSize : 0 ≤ iM_nameSize.toInt ∧ iM_nameSize.toInt ≤ 900) (b_iM_failed : 0 ≤ iM_failed.toInt ∧ iM_failed.toInt ≤ 1) (b_iM_hasCourt : 0 ≤ iM_hasCourt.toInt ∧ iM_hasCourt.toInt ≤ 1) (b_iM_undos : 0 ≤ iM_undos.toInt ∧ iM_undos.toInt ≤ 16) (b_iM_images : 0 ≤ iM_images.toInt ∧ iM_images.toInt ≤ 3) (b_iM_scale : 1 ≤ iM_scale.toInt ∧ iM_scale.toInt ≤ 1296) (b_iM_breaths : 0 ≤ iM_breaths.toInt ∧ iM_breaths.toInt ≤ 399) (b_iM_cutMany : 0 ≤ iM_cutMany.toInt ∧ iM_cutMany.toInt ≤ 399) (r_T : ImpP (iM_token.toInt = 2) (iM_nameSize.toInt ≤ 8)) (r_P : POk fM_fresh fM_read)  : Met l yX7_newName (Cond.code yX7_newName cX7_newName 1 none :: wG) ({ frames := 6, cells := 0, slots := 0, locals := 154 }) (va_Pc [.ref oM] (Pw dC dI sz [(oc7 oM iM_thrown rM_tape iM_taped iM_size iM_at iM_end iM_token iM_whole iM_nameSize iM_fault iM_place iM_trouble rM_letters iM_failed iM_hasCourt rM_r rM_fresh rM_told rM_read rM_st rM_undone rM_kept iM_undos iM_images rM_fresher iM_fresherSize iM_scale iM_night rM_heardRow rM_cutRow iM_breaths iM_cutMany iM_allBreaths rM_trial rM_words iM_fewestBreaths iM_orderMany iM_orderSum iM_leastOrder rM_often iM_setMany iM_someOf iM_allOf iM_allWeight iM_enoughWeight iM_worthSum iM_firstRest iM_leastDrawn), (arI rM_tape kM_tape 900 fM_tape), (arI rM_letters kM_letters 8 fM_letters), (arI rM_fresh kM_fresh 287 fM_fresh), (arI rM_read kM_read 90 fM_read), (arI rM_fresher kM_fresher 8 fM_fresher)] [(kM_tape, .int), (kM_letters, .int), (kM_fresh, .int), (kM_read, .int), (kM_fresher, .int)])) (va_Qv (fun (_ : Nat) => True) (fun (_ : Nat) (t : State) => ∃ (niM_at : Int32) (niM_end : Int32) (niM_token : Int32) (niM_whole : Int32) (niM_nameSize : Int32) (niM_fault : Int32) (niM_place : Int32) (niM_failed : Int32) (niM_fresherSize : Int32) (nfM_letters : Nat → Int32) (nfM_fresher : Nat → Int32), (0 ≤ niM_end.toInt ∧ niM_end.toInt ≤ 900) ∧ (0 ≤ niM_nameSize.toInt ∧ niM_nameSize.toInt ≤ 900) ∧ (0 ≤ niM_failed.toInt ∧ niM_failed.toInt ≤ 1) ∧ (iM_end.toInt ≤ niM_end.toInt) ∧ (ImpP (niM_token.toInt = 2) (niM_nameSize.toInt ≤ 8)) ∧ (iM_failed.toInt ≤ niM_failed.toInt) ∧ (ImpP (niM_failed.toInt ≤ 0 ∧ niM_token.toInt = 59 ) (iM_end.toInt + 1 ≤ niM_end.toInt)) ∧ (PX7_newName fM_tape iM_size iM_at iM_end iM_token iM_whole iM_nameSize iM_fault iM_place fM_letters iM_failed fM_fresh fM_fresher iM_fresherSize = (niM_at, niM_end, niM_token, niM_whole, niM_nameSize, niM_fault, niM_place, niM_failed, niM_fresherSize, nfM_letters, nfM_fresher)) ∧ Bw dC dI (va_A [(oc7 oM iM_thrown rM_tape iM_taped iM_size iM_at iM_end iM_token iM_whole iM_nameSize iM_fault iM_place iM_trouble rM_letters iM_failed iM_hasCourt rM_r rM_fresh rM_told rM_read rM_st rM_undone rM_kept iM_undos iM_images rM_fresher iM_fresherSize iM_scale iM_night rM_heardRow rM_cutRow iM_breaths iM_cutMany iM_allBreaths rM_trial rM_words iM_fewestBreaths iM_orderMany iM_orderSum iM_leastOrder rM_often iM_setMany iM_someOf iM_allOf iM_allWeight iM_enoughWeight iM_worthSum iM_firstRest iM_leastDrawn), (arI rM_tape kM_tape 900 fM_tape), (arI rM_letters kM_letters 8 fM_letters), (arI rM_fresh kM_fresh 287 fM_fresh), (arI rM_read kM_read 90 fM_read), (arI rM_fresher kM_fresher 8 fM_fresher)] sz) [(oc7 oM iM_thrown rM_tape iM_taped iM_size niM_at niM_end niM_token niM_whole niM_nameSize niM_fault niM_place iM_trouble rM_letters niM_failed iM_hasCourt rM_r rM_fresh rM_told rM_read rM_st rM_undone rM_kept iM_undos iM_images rM_fresher niM_fresherSize iM_scale iM_night rM_heardRow rM_cutRow iM_breaths iM_cutMany iM_allBreaths rM_trial rM_words iM_fewestBreaths iM_orderMany iM_orderSum iM_leastOrder rM_often iM_setMany iM_someOf iM_allOf iM_allWeight iM_enoughWeight iM_worthSum iM_firstRest iM_leastDrawn), (arI rM_tape kM_tape 900 fM_tape), (arI rM_letters kM_letters 8 nfM_letters), (arI rM_fresh kM_fresh 287 fM_fresh), (arI rM_read kM_read 90 fM_read), (arI rM_fresher kM_fresher 8 nfM_fresher)] [(kM_tape, .int), (kM_letters, .int), (kM_fresh, .int), (kM_read, .int), (kM_fresher, .int)] t) (va_A [(oc7 oM iM_thrown rM_tape iM_taped iM_size iM_at iM_end iM_token iM_whole iM_nameSize iM_fault iM_place iM_trouble rM_letters iM_failed iM_hasCourt rM_r rM_fresh rM_told rM_read rM_st rM_undone rM_kept iM_undos iM_images rM_fresher iM_fresherSize iM_scale iM_night rM_heardRow rM_cutRow iM_breaths iM_cutMany iM_allBreaths rM_trial rM_words iM_fewestBreaths iM_orderMany iM_orderSum iM_leastOrder rM_often iM_setMany iM_someOf iM_allOf iM_allWeight iM_enoughWeight iM_worthSum iM_firstRest iM_leastDrawn), (arI rM_tape kM_tape 900 fM_tape), (arI rM_letters kM_letters 8 fM_letters), (arI rM_fresh kM_fresh 287 fM_fresh), (arI rM_read kM_read 90 fM_read), (arI rM_fresher kM_fresher 8 fM_fresher)] sz)) 0 0 (va_A [(oc7 oM iM_thrown rM_tape iM_taped iM_size iM_at iM_end iM_token iM_whole iM_nameSize iM_fault iM_place iM_trouble rM_letters iM_failed iM_hasCourt rM_r rM_fresh rM_told rM_read rM_st rM_undone rM_kept iM_undos iM_images rM_fresher iM_fresherSize iM_scale iM_night rM_heardRow rM_cutRow iM_breaths iM_cutMany iM_allBreaths rM_trial rM_words iM_fewestBreaths iM_orderMany iM_orderSum iM_leastOrder rM_often iM_setMany iM_someOf iM_allOf iM_allWeight iM_enoughWeight iM_worthSum iM_firstRest iM_leastDrawn), (arI rM_tape kM_tape 900 fM_tape), (arI rM_letters kM_letters 8 fM_letters), (arI rM_fresh kM_fresh 287 fM_fresh), (arI rM_read kM_read 90 fM_read), (arI rM_fresher kM_fresher 8 fM_fresher)] sz) := by
  refine Met.ofW (cc := cX7_newName) (maxL := 1) (ret := none) (by decide) rfl ?_
  intro p e s m args below meth c s₁ B hml hv
  obtain ⟨rfl, hsz, hP, hK, hD0, hE⟩ := hv
  have hx := B.exec
  have hb := B.bytes
  have hr := B.returns
  have hts : ∀ w ∈ wG, w.before ([.ref oM] : List Value).toArray s = true := fun w h => atoms_spec (ws := Cond.code yX7_newName cX7_newName 1 none :: wG) B.pre w (List.mem_cons_of_mem _ h)
  have hown : s.vm.findClass RX7 = some m.cls := findClass_of_methodNamed B.named
  have hlocks := B.notSynchronized
  subst hsz
  have hD := hD0.self (sz := s.heap.size)
  generalize hAe : va_A [(oc7 oM iM_thrown rM_tape iM_taped iM_size iM_at iM_end iM_token iM_whole iM_nameSize iM_fault iM_place iM_trouble rM_letters iM_failed iM_hasCourt rM_r rM_fresh rM_told rM_read rM_st rM_undone rM_kept iM_undos iM_images rM_fresher iM_fresherSize iM_scale iM_night rM_heardRow rM_cutRow iM_breaths iM_cutMany iM_allBreaths rM_trial rM_words iM_fewestBreaths iM_orderMany iM_orderSum iM_leastOrder rM_often iM_setMany iM_someOf iM_allOf iM_allWeight iM_enoughWeight iM_worthSum iM_firstRest iM_leastDrawn), (arI rM_tape kM_tape 900 fM_tape), (arI rM_letters kM_letters 8 fM_letters), (arI rM_fresh kM_fresh 287 fM_fresh), (arI rM_read kM_read 90 fM_read), (arI rM_fresher kM_fresher 8 fM_fresher)] s.heap.size = A at hD hE ⊢
  have hA : ∀ q : Nat, s.heap.size ≤ q → A q := fun q h => by rw [← hAe]; exact Or.inr h
  have hS : va_S A s.heap s.heap [] := va_S.rf
  have hl := lv_entry ([.ref oM]) (n := 1) (Nat.le_of_ble_eq_true rfl)
  rw [lg_entry_eq]
  generalize (lg_sl ([.ref oM]) ++ List.replicate (1 - (lg_sl ([.ref oM])).length) Slot.unset).toArray = ls at hl ⊢
  have hl : lv_has ls 1 [(0, .ref oM)] := hl
  have hG := PX7_newName_eq fM_tape iM_size iM_at iM_end iM_token iM_whole iM_nameSize iM_fault iM_place fM_letters iM_failed fM_fresh fM_fresher iM_fresherSize
  have pl_fM_fresh := r_P.lins
  refine lv_aload_n hx hb dX7_newName_0 rfl (lv_at hl 0 rfl) ?_
  refine va_get (D := (dC, dI)) (ci := 7) (v := .int iM_failed) (C := RX7) (T := TX7) (N := 48) hx hb hts inX7 hown hK hP 0 rfl rfl 13 (by decide) (hts _ wd_380) (fun _ h9 => h9) rfl dX7_newName_1 ?_
  refine lv_if_eq (tgt := 8) hx hb dX7_newName_4 (by decide) (fun c_5200 => ?_) (fun c_5200 => ?_)
  · skip
    have hG := hG.trans (if_pos c_5200)
    have gc_5200 := ti_eq c_5200 rfl kc_0
    refine lv_aload_n hx hb dX7_newName_8 rfl (lv_at hl 0 rfl) ?_
    have hFc := va_free (wc := [(oc7 oM iM_thrown rM_tape iM_taped iM_size iM_at iM_end iM_token iM_whole iM_nameSize iM_fault iM_place iM_trouble rM_letters iM_failed iM_hasCourt rM_r rM_fresh rM_told rM_read rM_st rM_undone rM_kept iM_undos iM_images rM_fresher iM_fresherSize iM_scale iM_night rM_heardRow rM_cutRow iM_breaths iM_cutMany iM_allBreaths rM_trial rM_words iM_fewestBreaths iM_orderMany iM_orderSum iM_leastOrder rM_often iM_setMany iM_someOf iM_allOf iM_allWeight iM_enoughWeight iM_worthSum iM_firstRest iM_leastDrawn), (arI rM_letters kM_letters 8 fM_letters)]) hD hS hA [0, 2] rfl
    refine va_callv (va_runV (As := []) (rest := []) ⟨hx, hb, hml, hown, hts⟩ (tX7_mustName l dC dI _ oM iM_thrown rM_tape iM_taped iM_size iM_at iM_end iM_token iM_whole iM_nameSize iM_fault iM_place iM_trouble rM_letters fM_letters kM_letters iM_failed iM_hasCourt rM_r rM_fresh rM_told rM_read rM_st rM_undone rM_kept iM_undos iM_images rM_fresher iM_fresherSize iM_scale iM_night rM_heardRow rM_cutRow iM_breaths iM_cutMany iM_allBreaths rM_trial rM_words iM_fewestBreaths iM_orderMany iM_orderSum iM_leastOrder rM_often iM_setMany iM_someOf iM_allOf iM_allWeight iM_enoughWeight iM_worthSum iM_firstRest iM_leastDrawn (by first | omega | decide) (by first | omega | decide) (by first | omega | decide) (by first | omega | decide) (by first | omega | decide) (by first | omega | decide) (by first | omega | decide) (by first | omega | decide) (by first | omega | decide) (by first | omega | decide) (by first | omega | decide) (by first | assumption | exact (fun h9 => by have q0 := kc_0; have q1 := kc_1; omega))) (cwV 0 hts (wd_V wd_467 wd_468 wd_469 wd_5 (wd_c wd_470)) rfl rfl rfl (by decide +kernel) ⟨Nat.le_of_ble_eq_true rfl, Nat.le_of_ble_eq_true rfl⟩) ⟨Pw.fb, va_recv hK hP (ci := 7) (q0 := 0) rfl rfl, fun U hU hW => Pw.to (hP.sub [0, 2] rfl) (hD.sub [0, 2] (by decide) rfl) (hK.sub [1] rfl) hE hS hFc hU hW⟩ rfl rfl hl.1 rfl (lv_room (Nat.le_of_ble_eq_true rfl)) dX7_newName_9 ⟨Nat.le_of_ble_eq_true rfl, Nat.le_of_ble_eq_true rfl⟩) hS (fun q _ h => hFc q h) hFc (fun u t H locs ht hvm hw hB hz1 hk1 hS => ?_)
    obtain ⟨x_5201, x_5202, x_5203, b_x_5203, e_x_5201_0, e_x_5201_1, e_x_5201_2, hB⟩ := hB
    obtain ⟨hP, hD, hK⟩ := Bw.go (ws' := [(arI rM_tape kM_tape 900 fM_tape), (arI rM_fresh kM_fresh 287 fM_fresh), (arI rM_read kM_read 90 fM_read), (arI rM_fresher kM_fresher 8 fM_fresher), (oc7 oM iM_thrown rM_tape iM_taped iM_size iM_at iM_end iM_token iM_whole iM_nameSize x_5201 x_5202 iM_trouble rM_letters x_5203 iM_hasCourt rM_r rM_fresh rM_told rM_read rM_st rM_undone rM_kept iM_undos iM_images rM_fresher iM_fresherSize iM_scale iM_night rM_heardRow rM_cutRow iM_breaths iM_cutMany iM_allBreaths rM_trial rM_words iM_fewestBreaths iM_orderMany iM_orderSum iM_leastOrder rM_often iM_setMany iM_someOf iM_allOf iM_allWeight iM_enoughWeight iM_worthSum iM_firstRest iM_leastDrawn), (arI rM_letters kM_letters 8 fM_letters)]) (tys' := [(kM_tape, .int), (kM_fresh, .int), (kM_read, .int), (kM_fresher, .int), (kM_letters, .int)]) hB rfl ht hvm hP hD hK [0, 2] [1, 3, 4, 5] rfl (by decide) (by decide) [0, 2, 3, 4] hk1 hFc rfl rfl rfl
    clear hz1 hk1 hvm ht hB
    have hG := hG.trans (un3_eq e_x_5201_2)
    refine lv_aload_n hx hb dX7_newName_12 rfl (lv_at hl 0 rfl) ?_
    refine va_get (D := (dC, dI)) (ci := 7) (v := .int x_5203) (C := RX7) (T := TX7) (N := 48) hx hb hts inX7 hown hK hP 4 rfl rfl 13 (by decide) (hts _ wd_380) (fun _ h9 => h9) rfl dX7_newName_13 ?_
    refine lv_if_ne (tgt := 35) hx hb dX7_newName_16 (by decide) (fun c_5204 => ?_) (fun c_5204 => ?_)
    · skip
      have hG := hG.trans (if_neg c_5204)
      have gc_5204 := ti_ne c_5204 rfl kc_0
      replace gc_5204 : (-1) * x_5203.toInt + 1 ≤ 0 := by omega
      clear e_x_5201_1
      refine lv_aload_n hx hb dX7_newName_35 rfl (lv_at hl 0 rfl) ?_
      refine va_get (D := (dC, dI)) (ci := 7) (v := .int x_5203) (C := RX7) (T := TX7) (N := 48) hx hb hts inX7 hown hK hP 4 rfl rfl 13 (by decide) (hts _ wd_380) (fun _ h9 => h9) rfl dX7_newName_36 ?_
      refine lv_if_eq (tgt := 43) hx hb dX7_newName_39 (by decide) (fun c_5205 => ?_) (fun c_5205 => ?_)
      · skip
        have hG := hG.trans (if_pos c_5205)
        have gc_5205 := ti_eq c_5205 rfl kc_0
        exfalso; clear hG; omega
      · skip
        have hG := hG.trans (if_neg c_5205)
        have gc_5205 := ti_ne c_5205 rfl kc_0
        replace gc_5205 : (-1) * x_5203.toInt + 1 ≤ 0 := by omega
        exact W.vret hx hb hr (fun t ht hW => ⟨⟨0, rfl, trivial, ⟨iM_at, iM_end, iM_token, iM_whole, iM_nameSize, x_5201, x_5202, x_5203, iM_fresherSize, fM_letters, fM_fresher, (by omega), (by omega), b_x_5203, (by first | assumption | (have q0 := kc_0; have q1 := kc_1; omega)), r_T, (by first | assumption | (have q0 := kc_0; have q1 := kc_1; omega)), (fun h9 => by have q0 := kc_0; have q1 := kc_1; omega), hG, Bw.to (hP.sub [4, 0, 5, 1, 2, 3] rfl) (hD.sub [4, 0, 5, 1, 2, 3] (by decide) rfl) (hK.sub [0, 4, 1, 2, 3] rfl) ht hW⟩⟩, hS.F ht⟩) hS.2.2 dX7_newName_42
    · skip
      have hG := hG.trans (if_pos c_5204)
      have gc_5204 := ti_eq c_5204 rfl kc_0
      have h_5206 := e_x_5201_1 (by omega)
      clear e_x_5201_1
      have h_5207 := r_T (by omega)
      clear r_T
      refine lv_aload_n hx hb dX7_newName_19 rfl (lv_at hl 0 rfl) ?_
      have hFc := va_free (wc := [(oc7 oM iM_thrown rM_tape iM_taped iM_size iM_at iM_end iM_token iM_whole iM_nameSize x_5201 x_5202 iM_trouble rM_letters x_5203 iM_hasCourt rM_r rM_fresh rM_told rM_read rM_st rM_undone rM_kept iM_undos iM_images rM_fresher iM_fresherSize iM_scale iM_night rM_heardRow rM_cutRow iM_breaths iM_cutMany iM_allBreaths rM_trial rM_words iM_fewestBreaths iM_orderMany iM_orderSum iM_leastOrder rM_often iM_setMany iM_someOf iM_allOf iM_allWeight iM_enoughWeight iM_worthSum iM_firstRest iM_leastDrawn), (arI rM_letters kM_letters 8 fM_letters), (arI rM_fresh kM_fresh 287 fM_fresh), (arI rM_read kM_read 90 fM_read)]) hD hS hA [4, 5, 1, 2] rfl
      refine va_calli (va_runV (As := []) (rest := []) ⟨hx, hb, hml, hown, hts⟩ (tX7_find l dC dI _ oM iM_thrown rM_tape iM_taped iM_size iM_at iM_end iM_token iM_whole iM_nameSize x_5201 x_5202 iM_trouble rM_letters fM_letters kM_letters x_5203 iM_hasCourt rM_r rM_fresh fM_fresh kM_fresh rM_told rM_read fM_read kM_read rM_st rM_undone rM_kept iM_undos iM_images rM_fresher iM_fresherSize iM_scale iM_night rM_heardRow rM_cutRow iM_breaths iM_cutMany iM_allBreaths rM_trial rM_words iM_fewestBreaths iM_orderMany iM_orderSum iM_leastOrder rM_often iM_setMany iM_someOf iM_allOf iM_allWeight iM_enoughWeight iM_worthSum iM_firstRest iM_leastDrawn (by first | omega | decide) (by first | omega | decide) (by first | omega | decide) (by first | omega | decide) (by first | exact b_x_5203 | omega | decide) (by first | omega | decide) (by first | omega | decide) (by first | omega | decide) (by first | omega | decide) (by first | omega | decide) (by first | omega | decide) (by first | assumption | exact (fun h9 => by have q0 := kc_0; have q1 := kc_1; omega)) (by assumption) (by first | omega | decide | assumption | (have q0 := kc_0; have q1 := kc_1; omega) | (intro h; exact absurd h (by decide)))) (cwV 0 hts (wd_V wd_471 wd_472 wd_473 wd_5 (wd_c wd_474)) rfl rfl rfl (by decide +kernel) ⟨Nat.le_of_ble_eq_true rfl, Nat.le_of_ble_eq_true rfl⟩) ⟨Pw.fb, va_recv hK hP (ci := 7) (q0 := 4) rfl rfl, fun U hU hW => Pw.to (hP.sub [4, 5, 1, 2] rfl) (hD.sub [4, 5, 1, 2] (by decide) rfl) (hK.sub [4, 1, 2] rfl) hE hS hFc hU hW⟩ rfl rfl hl.1 rfl (lv_room (Nat.le_of_ble_eq_true rfl)) dX7_newName_20 ⟨Nat.le_of_ble_eq_true rfl, Nat.le_of_ble_eq_true rfl⟩) hS (fun q _ h => hFc q h) hFc (fun r u t H locs ht hvm hw hB hz1 hk1 hS => ?_)
      have hru9 := hw.2
      have hw := hw.1
      obtain ⟨hP, hD, hK⟩ := Bw.go (ws' := [(arI rM_tape kM_tape 900 fM_tape), (arI rM_fresher kM_fresher 8 fM_fresher), (oc7 oM iM_thrown rM_tape iM_taped iM_size iM_at iM_end iM_token iM_whole iM_nameSize x_5201 x_5202 iM_trouble rM_letters x_5203 iM_hasCourt rM_r rM_fresh rM_told rM_read rM_st rM_undone rM_kept iM_undos iM_images rM_fresher iM_fresherSize iM_scale iM_night rM_heardRow rM_cutRow iM_breaths iM_cutMany iM_allBreaths rM_trial rM_words iM_fewestBreaths iM_orderMany iM_orderSum iM_leastOrder rM_often iM_setMany iM_someOf iM_allOf iM_allWeight iM_enoughWeight iM_worthSum iM_firstRest iM_leastDrawn), (arI rM_letters kM_letters 8 fM_letters), (arI rM_fresh kM_fresh 287 fM_fresh), (arI rM_read kM_read 90 fM_read)]) (tys' := [(kM_tape, .int), (kM_fresher, .int), (kM_letters, .int), (kM_fresh, .int), (kM_read, .int)]) hB rfl ht hvm hP hD hK [4, 5, 1, 2] [0, 3] rfl (by decide) (by decide) [0, 3] hk1 hFc rfl rfl rfl
      clear hz1 hk1 hvm ht hB
      obtain ⟨x_5208, rfl⟩ : ∃ z, z = r := ⟨_, rfl⟩
      have hG := hG.trans (lt_eq hru9.symm)
      have lx_5208 := hw.2
      have ux_5208 := hw.2
      refine lv_if_lt (tgt := 35) hx hb dX7_newName_23 (by decide) (fun c_5209 => ?_) (fun c_5209 => ?_)
      · skip
        have hG := hG.trans (if_pos c_5209)
        have gc_5209 := ti_lt c_5209 rfl kc_0
        refine lv_aload_n hx hb dX7_newName_35 rfl (lv_at hl 0 rfl) ?_
        refine va_get (D := (dC, dI)) (ci := 7) (v := .int x_5203) (C := RX7) (T := TX7) (N := 48) hx hb hts inX7 hown hK hP 2 rfl rfl 13 (by decide) (hts _ wd_380) (fun _ h9 => h9) rfl dX7_newName_36 ?_
        refine lv_if_eq (tgt := 43) hx hb dX7_newName_39 (by decide) (fun c_5210 => ?_) (fun c_5210 => ?_)
        · skip
          have hG := hG.trans (if_pos c_5210)
          have gc_5210 := ti_eq c_5210 rfl kc_0
          refine lv_aload_n hx hb dX7_newName_43 rfl (lv_at hl 0 rfl) ?_
          refine va_get (D := (dC, dI)) (ci := 7) (v := .ref rM_letters) (C := RX7) (T := TX7) (N := 48) hx hb hts inX7 hown hK hP 2 rfl rfl 12 (by decide) (hts _ wd_154) (fun _ h9 => h9) rfl dX7_newName_44 ?_
          refine lv_iconst (v := 0) hx hb dX7_newName_47 (by decide) ?_
          refine lv_aload_n hx hb dX7_newName_48 rfl (lv_at hl 0 rfl) ?_
          refine va_get (D := (dC, dI)) (ci := 7) (v := .ref rM_fresher) (C := RX7) (T := TX7) (N := 48) hx hb hts inX7 hown hK hP 2 rfl rfl 24 (by decide) (hts _ wd_162) (fun _ h9 => h9) rfl dX7_newName_49 ?_
          refine lv_iconst (v := 0) hx hb dX7_newName_52 (by decide) ?_
          refine lv_bipush (v := 8) hx hb dX7_newName_53 (by decide) ?_
          have hFc := va_free (wc := [(arI rM_letters kM_letters 8 fM_letters), (arI rM_fresher kM_fresher 8 fM_fresher)]) hD hS hA [3, 1] rfl
          refine va_callv (va_runS (As := [.ref rM_letters, .int 0, .ref rM_fresher, .int 0, .int 8]) (rest := []) ⟨hx, hb, hml, hown, hts⟩ (tX7_copy_8_8 l dC dI _ rM_letters fM_letters kM_letters rM_fresher fM_fresher kM_fresher 0 0 8 (by first | omega | decide | assumption | (have q0 := kc_0; have q1 := kc_1; have q2 := kc_8; omega) | (intro h; exact absurd h (by decide))) (by first | omega | decide | assumption | (have q0 := kc_0; have q1 := kc_1; have q2 := kc_8; omega) | (intro h; exact absurd h (by decide))) (by first | omega | decide | assumption | (have q0 := kc_0; have q1 := kc_1; have q2 := kc_8; omega) | (intro h; exact absurd h (by decide)))) (va_cwS 5 hts (wd_S wd_475 wd_476 wd_5 (wd_c wd_477)) rfl rfl rfl (by decide +kernel) ⟨Nat.le_of_ble_eq_true rfl, Nat.le_of_ble_eq_true rfl⟩) ⟨Pw.fb, fun U hU hW => Pw.to (hP.sub [3, 1] rfl) (hD.sub [3, 1] (by decide) rfl) (hK.sub [2, 1] rfl) hE hS hFc hU hW⟩ rfl rfl hl.1 rfl (lv_room (Nat.le_of_ble_eq_true rfl)) dX7_newName_55 ⟨Nat.le_of_ble_eq_true rfl, Nat.le_of_ble_eq_true rfl⟩) hS (fun q _ h => hFc q h) hFc (fun u t H locs ht hvm hw hB hz1 hk1 hS => ?_)
          obtain ⟨f_5211, e_f_5211_0, hB⟩ := hB
          obtain ⟨hP, hD, hK⟩ := Bw.go (ws' := [(arI rM_tape kM_tape 900 fM_tape), (oc7 oM iM_thrown rM_tape iM_taped iM_size iM_at iM_end iM_token iM_whole iM_nameSize x_5201 x_5202 iM_trouble rM_letters x_5203 iM_hasCourt rM_r rM_fresh rM_told rM_read rM_st rM_undone rM_kept iM_undos iM_images rM_fresher iM_fresherSize iM_scale iM_night rM_heardRow rM_cutRow iM_breaths iM_cutMany iM_allBreaths rM_trial rM_words iM_fewestBreaths iM_orderMany iM_orderSum iM_leastOrder rM_often iM_setMany iM_someOf iM_allOf iM_allWeight iM_enoughWeight iM_worthSum iM_firstRest iM_leastDrawn), (arI rM_fresh kM_fresh 287 fM_fresh), (arI rM_read kM_read 90 fM_read), (arI rM_letters kM_letters 8 fM_letters), (arI rM_fresher kM_fresher 8 f_5211)]) (tys' := [(kM_tape, .int), (kM_fresh, .int), (kM_read, .int), (kM_letters, .int), (kM_fresher, .int)]) hB rfl ht hvm hP hD hK [3, 1] [0, 2, 4, 5] rfl (by decide) (by decide) [0, 3, 4] hk1 hFc rfl rfl rfl
          clear hz1 hk1 hvm ht hB
          have hG := hG.trans (lt_eq (CopyOk.fn e_f_5211_0).symm)
          refine lv_aload_n hx hb dX7_newName_58 rfl (lv_at hl 0 rfl) ?_
          refine lv_aload_n hx hb dX7_newName_59 rfl (lv_at hl 0 rfl) ?_
          refine va_get (D := (dC, dI)) (ci := 7) (v := .int iM_nameSize) (C := RX7) (T := TX7) (N := 48) hx hb hts inX7 hown hK hP 1 rfl rfl 8 (by decide) (hts _ wd_404) (fun _ h9 => h9) rfl dX7_newName_60 ?_
          refine va_put (D := (dC, dI)) (ci := 7) (v := .int iM_nameSize) (ty := .int) (C := RX7) (T := TX7) (N := 48) hx hb hts inX7 tyX7 tyX7_ok nmX7 hown hK hP hD hS 1 rfl rfl 25 (by decide) (hts _ wd_466) (fun _ h9 => h9) rfl (by decide +kernel) rfl rfl (Nat.le_of_ble_eq_true rfl) dX7_newName_63 (fun H locs hP hD hS => ?_)
          obtain ⟨hP, hD⟩ := wl2 (ws' := [(arI rM_tape kM_tape 900 fM_tape), (oc7 oM iM_thrown rM_tape iM_taped iM_size iM_at iM_end iM_token iM_whole iM_nameSize x_5201 x_5202 iM_trouble rM_letters x_5203 iM_hasCourt rM_r rM_fresh rM_told rM_read rM_st rM_undone rM_kept iM_undos iM_images rM_fresher iM_nameSize iM_scale iM_night rM_heardRow rM_cutRow iM_breaths iM_cutMany iM_allBreaths rM_trial rM_words iM_fewestBreaths iM_orderMany iM_orderSum iM_leastOrder rM_often iM_setMany iM_someOf iM_allOf iM_allWeight iM_enoughWeight iM_worthSum iM_firstRest iM_leastDrawn), (arI rM_fresh kM_fresh 287 fM_fresh), (arI rM_read kM_read 90 fM_read), (arI rM_letters kM_letters 8 fM_letters), (arI rM_fresher kM_fresher 8 f_5211)]) hP hD rfl
          refine lv_aload_n hx hb dX7_newName_66 rfl (lv_at hl 0 rfl) ?_
          have hFc := va_free (wc := [(oc7 oM iM_thrown rM_tape iM_taped iM_size iM_at iM_end iM_token iM_whole iM_nameSize x_5201 x_5202 iM_trouble rM_letters x_5203 iM_hasCourt rM_r rM_fresh rM_told rM_read rM_st rM_undone rM_kept iM_undos iM_images rM_fresher iM_nameSize iM_scale iM_night rM_heardRow rM_cutRow iM_breaths iM_cutMany iM_allBreaths rM_trial rM_words iM_fewestBreaths iM_orderMany iM_orderSum iM_leastOrder rM_often iM_setMany iM_someOf iM_allOf iM_allWeight iM_enoughWeight iM_worthSum iM_firstRest iM_leastDrawn), (arI rM_tape kM_tape 900 fM_tape), (arI rM_letters kM_letters 8 fM_letters)]) hD hS hA [1, 0, 4] rfl
          refine va_callv (va_runV (As := []) (rest := []) ⟨hx, hb, hml, hown, hts⟩ (tX7_next l dC dI _ oM iM_thrown rM_tape fM_tape kM_tape iM_taped iM_size iM_at iM_end iM_token iM_whole iM_nameSize x_5201 x_5202 iM_trouble rM_letters fM_letters kM_letters x_5203 iM_hasCourt rM_r rM_fresh rM_told rM_read rM_st rM_undone rM_kept iM_undos iM_images rM_fresher iM_nameSize iM_scale iM_night rM_heardRow rM_cutRow iM_breaths iM_cutMany iM_allBreaths rM_trial rM_words iM_fewestBreaths iM_orderMany iM_orderSum iM_leastOrder rM_often iM_setMany iM_someOf iM_allOf iM_allWeight iM_enoughWeight iM_worthSum iM_firstRest iM_leastDrawn (by first | omega | decide) (by first | omega | decide) (by first | omega | decide) (by first | omega | decide) (by first | exact b_x_5203 | omega | decide) (by first | omega | decide) (by first | omega | decide) (by first | omega | decide) (by first | omega | decide) (by first | omega | decide) (by first | omega | decide) (by first | assumption | exact (fun h9 => by have q0 := kc_0; have q1 := kc_1; omega))) (cwV 0 hts (wd_V wd_400 wd_401 wd_402 wd_5 (wd_c wd_403)) rfl rfl rfl (by decide +kernel) ⟨Nat.le_of_ble_eq_true rfl, Nat.le_of_ble_eq_true rfl⟩) ⟨Pw.fb, va_recv hK hP (ci := 7) (q0 := 1) rfl rfl, fun U hU hW => Pw.to (hP.sub [1, 0, 4] rfl) (hD.sub [1, 0, 4] (by decide) rfl) (hK.sub [0, 3] rfl) hE hS hFc hU hW⟩ rfl rfl hl.1 rfl (lv_room (Nat.le_of_ble_eq_true rfl)) dX7_newName_67 ⟨Nat.le_of_ble_eq_true rfl, Nat.le_of_ble_eq_true rfl⟩) hS (fun q _ h => hFc q h) hFc (fun u t H locs ht hvm hw hB hz1 hk1 hS => ?_)
          obtain ⟨x_5212, x_5213, x_5214, x_5215, x_5216, f_5217, b_x_5213, b_x_5216, e_x_5212_0, e_x_5212_1, e_x_5212_2, e_x_5212_3, hB⟩ := hB
          obtain ⟨hP, hD, hK⟩ := Bw.go (ws' := [(arI rM_fresh kM_fresh 287 fM_fresh), (arI rM_read kM_read 90 fM_read), (arI rM_fresher kM_fresher 8 f_5211), (oc7 oM iM_thrown rM_tape iM_taped iM_size x_5212 x_5213 x_5214 x_5215 x_5216 x_5201 x_5202 iM_trouble rM_letters x_5203 iM_hasCourt rM_r rM_fresh rM_told rM_read rM_st rM_undone rM_kept iM_undos iM_images rM_fresher iM_nameSize iM_scale iM_night rM_heardRow rM_cutRow iM_breaths iM_cutMany iM_allBreaths rM_trial rM_words iM_fewestBreaths iM_orderMany iM_orderSum iM_leastOrder rM_often iM_setMany iM_someOf iM_allOf iM_allWeight iM_enoughWeight iM_worthSum iM_firstRest iM_leastDrawn), (arI rM_tape kM_tape 900 fM_tape), (arI rM_letters kM_letters 8 f_5217)]) (tys' := [(kM_fresh, .int), (kM_read, .int), (kM_fresher, .int), (kM_tape, .int), (kM_letters, .int)]) hB rfl ht hvm hP hD hK [1, 0, 4] [2, 3, 5] rfl (by decide) (by decide) [1, 2, 4] hk1 hFc rfl rfl rfl
          clear hz1 hk1 hvm ht hB
          have hG := hG.trans (un6_eq e_x_5212_3)
          exact W.vret hx hb hr (fun t ht hW => ⟨⟨0, rfl, trivial, ⟨x_5212, x_5213, x_5214, x_5215, x_5216, x_5201, x_5202, x_5203, iM_nameSize, f_5217, f_5211, b_x_5213, b_x_5216, b_x_5203, (by first | assumption | (have q0 := kc_0; have q1 := kc_1; omega)), e_x_5212_1, (by first | assumption | (have q0 := kc_0; have q1 := kc_1; omega)), (fun h9 => by have q0 := kc_0; have q1 := kc_1; have q9 := e_x_5212_2 (by omega); omega), hG, Bw.to (hP.sub [3, 4, 5, 0, 1, 2] rfl) (hD.sub [3, 4, 5, 0, 1, 2] (by decide) rfl) (hK.sub [3, 4, 0, 1, 2] rfl) ht hW⟩⟩, hS.F ht⟩) hS.2.2 dX7_newName_70
        · skip
          have hG := hG.trans (if_neg c_5210)
          have gc_5210 := ti_ne c_5210 rfl kc_0
          replace gc_5210 : x_5203.toInt + 1 ≤ 0 := by omega
          exfalso; clear hG; omega
      · skip
        have hG := hG.trans (if_neg c_5209)
        have gc_5209 := ti_nlt c_5209 rfl kc_0
        refine lv_aload_n hx hb dX7_newName_26 rfl (lv_at hl 0 rfl) ?_
        refine lv_iconst (v := 3) hx hb dX7_newName_27 (by decide) ?_
        refine lv_aload_n hx hb dX7_newName_28 rfl (lv_at hl 0 rfl) ?_
        refine va_get (D := (dC, dI)) (ci := 7) (v := .int iM_at) (C := RX7) (T := TX7) (N := 48) hx hb hts inX7 hown hK hP 2 rfl rfl 4 (by decide) (hts _ wd_384) (fun _ h9 => h9) rfl dX7_newName_29 ?_
        have hFc := va_free (wc := [(oc7 oM iM_thrown rM_tape iM_taped iM_size iM_at iM_end iM_token iM_whole iM_nameSize x_5201 x_5202 iM_trouble rM_letters x_5203 iM_hasCourt rM_r rM_fresh rM_told rM_read rM_st rM_undone rM_kept iM_undos iM_images rM_fresher iM_fresherSize iM_scale iM_night rM_heardRow rM_cutRow iM_breaths iM_cutMany iM_allBreaths rM_trial rM_words iM_fewestBreaths iM_orderMany iM_orderSum iM_leastOrder rM_often iM_setMany iM_someOf iM_allOf iM_allWeight iM_enoughWeight iM_worthSum iM_firstRest iM_leastDrawn)]) hD hS hA [2] rfl
        refine va_callv (va_runV (As := [.int 3, .int iM_at]) (rest := []) ⟨hx, hb, hml, hown, hts⟩ (tX7_wrong l dC dI _ oM iM_thrown rM_tape iM_taped iM_size iM_at iM_end iM_token iM_whole iM_nameSize x_5201 x_5202 iM_trouble rM_letters x_5203 iM_hasCourt rM_r rM_fresh rM_told rM_read rM_st rM_undone rM_kept iM_undos iM_images rM_fresher iM_fresherSize iM_scale iM_night rM_heardRow rM_cutRow iM_breaths iM_cutMany iM_allBreaths rM_trial rM_words iM_fewestBreaths iM_orderMany iM_orderSum iM_leastOrder rM_often iM_setMany iM_someOf iM_allOf iM_allWeight iM_enoughWeight iM_worthSum iM_firstRest iM_leastDrawn 3 iM_at (by first | omega | decide) (by first | omega | decide) (by first | omega | decide) (by first | omega | decide) (by first | exact b_x_5203 | omega | decide) (by first | omega | decide) (by first | omega | decide) (by first | omega | decide) (by first | omega | decide) (by first | omega | decide) (by first | omega | decide) (by first | assumption | exact (fun h9 => by have q0 := kc_0; have q1 := kc_1; omega))) (cwV 2 hts (wd_V wd_430 wd_431 wd_432 wd_5 (wd_c wd_433)) rfl rfl rfl (by decide +kernel) ⟨Nat.le_of_ble_eq_true rfl, Nat.le_of_ble_eq_true rfl⟩) ⟨Pw.fb, va_recv hK hP (ci := 7) (q0 := 2) rfl rfl, fun U hU hW => Pw.to (hP.sub [2] rfl) (hD.sub [2] (by decide) rfl) (hK.sub [] rfl) hE hS hFc hU hW⟩ rfl rfl hl.1 rfl (lv_room (Nat.le_of_ble_eq_true rfl)) dX7_newName_32 ⟨Nat.le_of_ble_eq_true rfl, Nat.le_of_ble_eq_true rfl⟩) hS (fun q _ h => hFc q h) hFc (fun u t H locs ht hvm hw hB hz1 hk1 hS => ?_)
        obtain ⟨x_5218, x_5219, x_5220, b_x_5220, e_x_5218_0, e_x_5218_1, hB⟩ := hB
        obtain ⟨hP, hD, hK⟩ := Bw.go (ws' := [(arI rM_tape kM_tape 900 fM_tape), (arI rM_fresher kM_fresher 8 fM_fresher), (arI rM_letters kM_letters 8 fM_letters), (arI rM_fresh kM_fresh 287 fM_fresh), (arI rM_read kM_read 90 fM_read), (oc7 oM iM_thrown rM_tape iM_taped iM_size iM_at iM_end iM_token iM_whole iM_nameSize x_5218 x_5219 iM_trouble rM_letters x_5220 iM_hasCourt rM_r rM_fresh rM_told rM_read rM_st rM_undone rM_kept iM_undos iM_images rM_fresher iM_fresherSize iM_scale iM_night rM_heardRow rM_cutRow iM_breaths iM_cutMany iM_allBreaths rM_trial rM_words iM_fewestBreaths iM_orderMany iM_orderSum iM_leastOrder rM_often iM_setMany iM_someOf iM_allOf iM_allWeight iM_enoughWeight iM_worthSum iM_firstRest iM_leastDrawn)]) (tys' := [(kM_tape, .int), (kM_fresher, .int), (kM_letters, .int), (kM_fresh, .int), (kM_read, .int)]) hB rfl ht hvm hP hD hK [2] [0, 1, 3, 4, 5] rfl (by decide) (by decide) [0, 1, 2, 3, 4] hk1 hFc rfl rfl rfl
        clear hz1 hk1 hvm ht hB
        have hG := hG.trans (un3_eq e_x_5218_1)
        refine lv_aload_n hx hb dX7_newName_35 rfl (lv_at hl 0 rfl) ?_
        refine va_get (D := (dC, dI)) (ci := 7) (v := .int x_5220) (C := RX7) (T := TX7) (N := 48) hx hb hts inX7 hown hK hP 5 rfl rfl 13 (by decide) (hts _ wd_380) (fun _ h9 => h9) rfl dX7_newName_36 ?_
        refine lv_if_eq (tgt := 43) hx hb dX7_newName_39 (by decide) (fun c_5221 => ?_) (fun c_5221 => ?_)
        · skip
          have hG := hG.trans (if_pos c_5221)
          have gc_5221 := ti_eq c_5221 rfl kc_0
          exfalso; clear hG; omega
        · skip
          have hG := hG.trans (if_neg c_5221)
          have gc_5221 := ti_ne c_5221 rfl kc_0
          replace gc_5221 : (-1) * x_5220.toInt + 1 ≤ 0 := by omega
          exact W.vret hx hb hr (fun t ht hW => ⟨⟨0, rfl, trivial, ⟨iM_at, iM_end, iM_token, iM_whole, iM_nameSize, x_5218, x_5219, x_5220, iM_fresherSize, fM_letters, fM_fresher, (by omega), (by omega), b_x_5220, (by first | assumption | (have q0 := kc_0; have q1 := kc_1; omega)), (by first | assumption | exact (fun h9 => by have q0 := kc_0; have q1 := kc_1; omega)), (by first | assumption | (have q0 := kc_0; have q1 := kc_1; omega)), (fun h9 => by have q0 := kc_0; have q1 := kc_1; omega), hG, Bw.to (hP.sub [5, 0, 2, 3, 4, 1] rfl) (hD.sub [5, 0, 2, 3, 4, 1] (by decide) rfl) (hK.sub [0, 2, 3, 4, 1] rfl) ht hW⟩⟩, hS.F ht⟩) hS.2.2 dX7_newName_42
  · skip
    have hG := hG.trans (if_neg c_5200)
    have gc_5200 := ti_ne c_5200 rfl kc_0
    replace gc_5200 : (-1) * iM_failed.toInt + 1 ≤ 0 := by omega
    exact W.vret hx hb hr (fun t ht hW => ⟨⟨0, rfl, trivial, ⟨iM_at, iM_end, iM_token, iM_whole, iM_nameSize, iM_fault, iM_place, iM_failed, iM_fresherSize, fM_letters, fM_fresher, (by omega), (by omega), (by omega), (by first | assumption | (have q0 := kc_0; have q1 := kc_1; omega)), r_T, (by first | assumption | (have q0 := kc_0; have q1 := kc_1; omega)), (fun h9 => by have q0 := kc_0; have q1 := kc_1; omega), hG, Bw.to (hP.sub [0, 1, 2, 3, 4, 5] rfl) (hD.sub [0, 1, 2, 3, 4, 5] (by decide) rfl) (hK.sub [0, 1, 2, 3, 4] rfl) ht hW⟩⟩, hS.F ht⟩) hS.2.2 dX7_newName_7
set_option maxHeartbeats 4000000 in
set_option maxRecDepth 100000 in
theorem tX7_lay (l : Launch) (dC : Nat → ClassId) (dI : Nat → Nat → Nat) (sz : Nat) (oM : Nat) (iM_thrown : Int32) (rM_tape : Nat) (iM_taped : Int32) (iM_size : Int32) (iM_at : Int32) (iM_end : Int32) (iM_token : Int32) (iM_whole : Int32) (iM_nameSize : Int32) (iM_fault : Int32) (iM_place : Int32) (iM_trouble : Int32) (rM_letters : Nat) (iM_failed : Int32) (iM_hasCourt : Int32) (rM_r : Nat) (rM_fresh : Nat) (fM_fresh : Nat → Int32) (kM_fresh : ClassId) (rM_told : Nat) (rM_read : Nat) (rM_st : Nat) (rM_undone : Nat) (rM_kept : Nat) (iM_undos : Int32) (iM_images : Int32) (rM_fresher : Nat) (fM_fresher : Nat → Int32) (kM_fresher : ClassId) (iM_fresherSize : Int32) (iM_scale : Int32) (iM_night : Int32) (rM_heardRow : Nat) (rM_cutRow : Nat) (iM_breaths : Int32) (iM_cutMany : Int32) (iM_allBreaths : Int32) (rM_trial : Nat) (rM_words : Nat) (iM_fewestBreaths : Int32) (iM_orderMany : Int32) (iM_orderSum : Int32) (iM_leastOrder : Int32) (rM_often : Nat) (iM_setMany : Int32) (iM_someOf : Int32) (iM_allOf : Int32) (iM_allWeight : Int64) (iM_enoughWeight : Int64) (iM_worthSum : Int64) (iM_firstRest : Int32) (iM_leastDrawn : Int32) (p0 : Int32) (b_iM_taped : 0 ≤ iM_taped.toInt ∧ iM_taped.toInt ≤ 900) (b_iM_size : 0 ≤ iM_size.toInt ∧ iM_size.toInt ≤ 900) (b_iM_end : 0 ≤ iM_end.toInt ∧ iM_end.toInt ≤ 900) (b_iM_nameSize : 0 ≤ iM_nameSize.toInt ∧ iM_nameSize.toInt ≤ 900) (b_iM_failed : 0 ≤ iM_failed.toInt ∧ iM_failed.toInt ≤ 1) (b_iM_hasCourt : 0 ≤ iM_hasCourt.toInt ∧ iM_hasCourt.toInt ≤ 1) (b_iM_undos : 0 ≤ iM_undos.toInt ∧ iM_undos.toInt ≤ 16) (b_iM_images : 0 ≤ iM_images.toInt ∧ iM_images.toInt ≤ 3) (b_iM_scale : 1 ≤ iM_scale.toInt ∧ iM_scale.toInt ≤ 1296) (b_iM_breaths : 0 ≤ iM_breaths.toInt ∧ iM_breaths.toInt ≤ 399) (b_iM_cutMany : 0 ≤ iM_cutMany.toInt ∧ iM_cutMany.toInt ≤ 399) (r_T : ImpP (iM_token.toInt = 2) (iM_nameSize.toInt ≤ 8)) (hnf : iM_failed.toInt ≤ 0) (hf1 : 0 ≤ (fM_fresh 1).toInt ∧ (fM_fresh 1).toInt ≤ 17) : Met l yX7_lay (Cond.code yX7_lay cX7_lay 3 none :: wG) ({ frames := 1, cells := 0, slots := 0, locals := 25 }) (va_Pc [.ref oM, .int p0] (Pw dC dI sz [(oc7 oM iM_thrown rM_tape iM_taped iM_size iM_at iM_end iM_token iM_whole iM_nameSize iM_fault iM_place iM_trouble rM_letters iM_failed iM_hasCourt rM_r rM_fresh rM_told rM_read rM_st rM_undone rM_kept iM_undos iM_images rM_fresher iM_fresherSize iM_scale iM_night rM_heardRow rM_cutRow iM_breaths iM_cutMany iM_allBreaths rM_trial rM_words iM_fewestBreaths iM_orderMany iM_orderSum iM_leastOrder rM_often iM_setMany iM_someOf iM_allOf iM_allWeight iM_enoughWeight iM_worthSum iM_firstRest iM_leastDrawn), (arI rM_fresh kM_fresh 287 fM_fresh), (arI rM_fresher kM_fresher 8 fM_fresher)] [(kM_fresh, .int), (kM_fresher, .int)])) (va_Qv (fun (_ : Nat) => True) (fun (_ : Nat) (t : State) => ∃ (nfM_fresh : Nat → Int32), (LayI fM_fresh p0 nfM_fresh) ∧ (PX7_lay iM_failed fM_fresh fM_fresher iM_fresherSize p0 = nfM_fresh) ∧ Bw dC dI (va_A [(oc7 oM iM_thrown rM_tape iM_taped iM_size iM_at iM_end iM_token iM_whole iM_nameSize iM_fault iM_place iM_trouble rM_letters iM_failed iM_hasCourt rM_r rM_fresh rM_told rM_read rM_st rM_undone rM_kept iM_undos iM_images rM_fresher iM_fresherSize iM_scale iM_night rM_heardRow rM_cutRow iM_breaths iM_cutMany iM_allBreaths rM_trial rM_words iM_fewestBreaths iM_orderMany iM_orderSum iM_leastOrder rM_often iM_setMany iM_someOf iM_allOf iM_allWeight iM_enoughWeight iM_worthSum iM_firstRest iM_leastDrawn), (arI rM_fresh kM_fresh 287 fM_fresh), (arI rM_fresher kM_fresher 8 fM_fresher)] sz) [(oc7 oM iM_thrown rM_tape iM_taped iM_size iM_at iM_end iM_token iM_whole iM_nameSize iM_fault iM_place iM_trouble rM_letters iM_failed iM_hasCourt rM_r rM_fresh rM_told rM_read rM_st rM_undone rM_kept iM_undos iM_images rM_fresher iM_fresherSize iM_scale iM_night rM_heardRow rM_cutRow iM_breaths iM_cutMany iM_allBreaths rM_trial rM_words iM_fewestBreaths iM_orderMany iM_orderSum iM_leastOrder rM_often iM_setMany iM_someOf iM_allOf iM_allWeight iM_enoughWeight iM_worthSum iM_firstRest iM_leastDrawn), (arI rM_fresh kM_fresh 287 nfM_fresh), (arI rM_fresher kM_fresher 8 fM_fresher)] [(kM_fresh, .int), (kM_fresher, .int)] t) (va_A [(oc7 oM iM_thrown rM_tape iM_taped iM_size iM_at iM_end iM_token iM_whole iM_nameSize iM_fault iM_place iM_trouble rM_letters iM_failed iM_hasCourt rM_r rM_fresh rM_told rM_read rM_st rM_undone rM_kept iM_undos iM_images rM_fresher iM_fresherSize iM_scale iM_night rM_heardRow rM_cutRow iM_breaths iM_cutMany iM_allBreaths rM_trial rM_words iM_fewestBreaths iM_orderMany iM_orderSum iM_leastOrder rM_often iM_setMany iM_someOf iM_allOf iM_allWeight iM_enoughWeight iM_worthSum iM_firstRest iM_leastDrawn), (arI rM_fresh kM_fresh 287 fM_fresh), (arI rM_fresher kM_fresher 8 fM_fresher)] sz)) 0 0 (va_A [(oc7 oM iM_thrown rM_tape iM_taped iM_size iM_at iM_end iM_token iM_whole iM_nameSize iM_fault iM_place iM_trouble rM_letters iM_failed iM_hasCourt rM_r rM_fresh rM_told rM_read rM_st rM_undone rM_kept iM_undos iM_images rM_fresher iM_fresherSize iM_scale iM_night rM_heardRow rM_cutRow iM_breaths iM_cutMany iM_allBreaths rM_trial rM_words iM_fewestBreaths iM_orderMany iM_orderSum iM_leastOrder rM_often iM_setMany iM_someOf iM_allOf iM_allWeight iM_enoughWeight iM_worthSum iM_firstRest iM_leastDrawn), (arI rM_fresh kM_fresh 287 fM_fresh), (arI rM_fresher kM_fresher 8 fM_fresher)] sz) := by
  refine Met.ofW (cc := cX7_lay) (maxL := 3) (ret := none) (by decide) rfl ?_
  intro p e s m args below meth c s₁ B hml hv
  obtain ⟨rfl, hsz, hP, hK, hD0, hE⟩ := hv
  have hx := B.exec
  have hb := B.bytes
  have hr := B.returns
  have hts : ∀ w ∈ wG, w.before ([.ref oM, .int p0] : List Value).toArray s = true := fun w h => atoms_spec (ws := Cond.code yX7_lay cX7_lay 3 none :: wG) B.pre w (List.mem_cons_of_mem _ h)
  have hown : s.vm.findClass RX7 = some m.cls := findClass_of_methodNamed B.named
  have hlocks := B.notSynchronized
  subst hsz
  have hD := hD0.self (sz := s.heap.size)
  generalize hAe : va_A [(oc7 oM iM_thrown rM_tape iM_taped iM_size iM_at iM_end iM_token iM_whole iM_nameSize iM_fault iM_place iM_trouble rM_letters iM_failed iM_hasCourt rM_r rM_fresh rM_told rM_read rM_st rM_undone rM_kept iM_undos iM_images rM_fresher iM_fresherSize iM_scale iM_night rM_heardRow rM_cutRow iM_breaths iM_cutMany iM_allBreaths rM_trial rM_words iM_fewestBreaths iM_orderMany iM_orderSum iM_leastOrder rM_often iM_setMany iM_someOf iM_allOf iM_allWeight iM_enoughWeight iM_worthSum iM_firstRest iM_leastDrawn), (arI rM_fresh kM_fresh 287 fM_fresh), (arI rM_fresher kM_fresher 8 fM_fresher)] s.heap.size = A at hD hE ⊢
  have hA : ∀ q : Nat, s.heap.size ≤ q → A q := fun q h => by rw [← hAe]; exact Or.inr h
  have hS : va_S A s.heap s.heap [] := va_S.rf
  have hl := lv_entry ([.ref oM, .int p0]) (n := 3) (Nat.le_of_ble_eq_true rfl)
  rw [lg_entry_eq]
  generalize (lg_sl ([.ref oM, .int p0]) ++ List.replicate (3 - (lg_sl ([.ref oM, .int p0])).length) Slot.unset).toArray = ls at hl ⊢
  have hl : lv_has ls 3 [(0, .ref oM), (1, .int p0)] := hl
  have hG := PX7_lay_eq iM_failed fM_fresh fM_fresher iM_fresherSize p0
  refine lv_aload_n hx hb dX7_lay_0 rfl (lv_at hl 0 rfl) ?_
  refine va_get (D := (dC, dI)) (ci := 7) (v := .int iM_failed) (C := RX7) (T := TX7) (N := 48) hx hb hts inX7 hown hK hP 0 rfl rfl 13 (by decide) (hts _ wd_380) (fun _ h9 => h9) rfl dX7_lay_1 ?_
  refine lv_if_eq (tgt := 8) hx hb dX7_lay_4 (by decide) (fun c_5234 => ?_) (fun c_5234 => ?_)
  · skip
    have hG := hG.trans (if_pos c_5234)
    have gc_5234 := ti_eq c_5234 rfl kc_0
    refine lv_aload_n hx hb dX7_lay_8 rfl (lv_at hl 0 rfl) ?_
    refine va_get (D := (dC, dI)) (ci := 7) (v := .ref rM_fresh) (C := RX7) (T := TX7) (N := 48) hx hb hts inX7 hown hK hP 0 rfl rfl 16 (by decide) (hts _ wd_156) (fun _ h9 => h9) rfl dX7_lay_9 ?_
    refine lv_iconst (v := 1) hx hb dX7_lay_12 (by decide) ?_
    refine va_iald hx hb hK hP 1 0 rfl rfl (by unfold vp_in; decide) dX7_lay_13 ?_
    refine lv_topi (fun x_5235 ex_5235 => ?_)
    have hG := hG.trans (lt_eq ex_5235)
    have cx_5235 : (fM_fresh 1).toInt = x_5235.toInt := congrArg Int32.toInt (show fM_fresh 1 = x_5235 from ex_5235.symm)
    refine lv_istore_n (lv' := [(2, .int x_5235), (0, .ref oM), (1, .int p0)]) hx hb dX7_lay_14 rfl hl (by decide) rfl (fun ls hl => ?_)
    refine lv_aload_n hx hb dX7_lay_15 rfl (lv_at hl 1 rfl) ?_
    refine va_get (D := (dC, dI)) (ci := 7) (v := .ref rM_fresher) (C := RX7) (T := TX7) (N := 48) hx hb hts inX7 hown hK hP 0 rfl rfl 24 (by decide) (hts _ wd_162) (fun _ h9 => h9) rfl dX7_lay_16 ?_
    refine lv_iconst (v := 0) hx hb dX7_lay_19 (by decide) ?_
    refine lv_aload_n hx hb dX7_lay_20 rfl (lv_at hl 1 rfl) ?_
    refine va_get (D := (dC, dI)) (ci := 7) (v := .ref rM_fresh) (C := RX7) (T := TX7) (N := 48) hx hb hts inX7 hown hK hP 0 rfl rfl 16 (by decide) (hts _ wd_156) (fun _ h9 => h9) rfl dX7_lay_21 ?_
    refine lv_sipush (v := 143) hx hb dX7_lay_24 (by decide) ?_
    refine lv_bipush (v := 8) hx hb dX7_lay_27 (by decide) ?_
    refine lv_iload_n hx hb dX7_lay_29 rfl (lv_at hl 0 rfl) ?_
    refine lv_imul hx hb dX7_lay_30 ?_
    refine lv_topi (fun x_5236 ex_5236 => ?_)
    have hG := hG.trans (lt_eq ex_5236)
    have vx_5236 : x_5236.toInt = 8 * x_5235.toInt := by have q := ti_mul ex_5236 kc_8 rfl (by omega) (by omega); omega
    refine lv_iadd hx hb dX7_lay_31 ?_
    refine lv_topi (fun x_5237 ex_5237 => ?_)
    have hG := hG.trans (lt_eq ex_5237)
    have vx_5237 : x_5237.toInt = 8 * x_5235.toInt + 143 := by have q := ti_add ex_5237 kc_143 vx_5236 (by omega) (by omega); omega
    refine lv_bipush (v := 8) hx hb dX7_lay_32 (by decide) ?_
    have hFc := va_free (wc := [(arI rM_fresher kM_fresher 8 fM_fresher), (arI rM_fresh kM_fresh 287 fM_fresh)]) hD hS hA [2, 1] rfl
    refine va_callv (va_runS (As := [.ref rM_fresher, .int 0, .ref rM_fresh, .int x_5237, .int 8]) (rest := []) ⟨hx, hb, hml, hown, hts⟩ (tX7_copy_8_287 l dC dI _ rM_fresher fM_fresher kM_fresher rM_fresh fM_fresh kM_fresh 0 x_5237 8 (by first | omega | decide | assumption | (have q0 := kc_0; have q1 := kc_1; have q2 := kc_8; omega) | (intro h; exact absurd h (by decide))) (by first | omega | decide | assumption | (have q0 := kc_0; have q1 := kc_1; have q2 := kc_8; omega) | (intro h; exact absurd h (by decide))) (by first | omega | decide | assumption | (have q0 := kc_0; have q1 := kc_1; have q2 := kc_8; omega) | (intro h; exact absurd h (by decide)))) (va_cwS 5 hts (wd_S wd_475 wd_476 wd_5 (wd_c wd_477)) rfl rfl rfl (by decide +kernel) ⟨Nat.le_of_ble_eq_true rfl, Nat.le_of_ble_eq_true rfl⟩) ⟨Pw.fb, fun U hU hW => Pw.to (hP.sub [2, 1] rfl) (hD.sub [2, 1] (by decide) rfl) (hK.sub [1, 0] rfl) hE hS hFc hU hW⟩ rfl rfl hl.1 rfl (lv_room (Nat.le_of_ble_eq_true rfl)) dX7_lay_34 ⟨Nat.le_of_ble_eq_true rfl, Nat.le_of_ble_eq_true rfl⟩) hS (fun q _ h => hFc q h) hFc (fun u t H locs ht hvm hw hB hz1 hk1 hS => ?_)
    obtain ⟨f_5238, e_f_5238_0, hB⟩ := hB
    obtain ⟨hP, hD, hK⟩ := Bw.go (ws' := [(oc7 oM iM_thrown rM_tape iM_taped iM_size iM_at iM_end iM_token iM_whole iM_nameSize iM_fault iM_place iM_trouble rM_letters iM_failed iM_hasCourt rM_r rM_fresh rM_told rM_read rM_st rM_undone rM_kept iM_undos iM_images rM_fresher iM_fresherSize iM_scale iM_night rM_heardRow rM_cutRow iM_breaths iM_cutMany iM_allBreaths rM_trial rM_words iM_fewestBreaths iM_orderMany iM_orderSum iM_leastOrder rM_often iM_setMany iM_someOf iM_allOf iM_allWeight iM_enoughWeight iM_worthSum iM_firstRest iM_leastDrawn), (arI rM_fresher kM_fresher 8 fM_fresher), (arI rM_fresh kM_fresh 287 f_5238)]) (tys' := [(kM_fresher, .int), (kM_fresh, .int)]) hB rfl ht hvm hP hD hK [2, 1] [0] rfl (by decide) (by decide) [] hk1 hFc rfl rfl rfl
    clear hz1 hk1 hvm ht hB
    have o1_f_5238 : (f_5238 1).toInt = (fM_fresh 1).toInt := by rw [e_f_5238_0 1, if_neg (by have q := ti_cl (x := x_5237) vx_5237 (by omega); omega)]
    have hG := hG.trans (lt_eq (CopyOk.fn e_f_5238_0).symm)
    refine lv_aload_n hx hb dX7_lay_37 rfl (lv_at hl 1 rfl) ?_
    refine va_get (D := (dC, dI)) (ci := 7) (v := .ref rM_fresh) (C := RX7) (T := TX7) (N := 48) hx hb hts inX7 hown hK hP 0 rfl rfl 16 (by decide) (hts _ wd_156) (fun _ h9 => h9) rfl dX7_lay_38 ?_
    refine lv_bipush (v := 125) hx hb dX7_lay_41 (by decide) ?_
    refine lv_iload_n hx hb dX7_lay_43 rfl (lv_at hl 0 rfl) ?_
    refine lv_iadd hx hb dX7_lay_44 ?_
    refine lv_topi (fun x_5239 ex_5239 => ?_)
    have hG := hG.trans (lt_eq ex_5239)
    have vx_5239 : x_5239.toInt = x_5235.toInt + 125 := by have q := ti_add ex_5239 kc_125 rfl (by omega) (by omega); omega
    refine lv_aload_n hx hb dX7_lay_45 rfl (lv_at hl 1 rfl) ?_
    refine va_get (D := (dC, dI)) (ci := 7) (v := .int iM_fresherSize) (C := RX7) (T := TX7) (N := 48) hx hb hts inX7 hown hK hP 0 rfl rfl 25 (by decide) (hts _ wd_466) (fun _ h9 => h9) rfl dX7_lay_46 ?_
    refine va_iast hx hb hK hP hD hS 2 1 rfl rfl (ti_in vx_5239 (by omega) (by omega)) dX7_lay_49 (fun H locs hP hD hS => ?_)
    obtain ⟨f_5240, ef_5240⟩ : ∃ g : Nat → Int32, g = upd f_5238 x_5239.toNatClampNeg iM_fresherSize := ⟨_, rfl⟩
    rw [← ef_5240] at hP hD
    have hG := hG.trans (lt_eq ef_5240)
    obtain ⟨hP, hD⟩ := wl2 (ws' := [(oc7 oM iM_thrown rM_tape iM_taped iM_size iM_at iM_end iM_token iM_whole iM_nameSize iM_fault iM_place iM_trouble rM_letters iM_failed iM_hasCourt rM_r rM_fresh rM_told rM_read rM_st rM_undone rM_kept iM_undos iM_images rM_fresher iM_fresherSize iM_scale iM_night rM_heardRow rM_cutRow iM_breaths iM_cutMany iM_allBreaths rM_trial rM_words iM_fewestBreaths iM_orderMany iM_orderSum iM_leastOrder rM_often iM_setMany iM_someOf iM_allOf iM_allWeight iM_enoughWeight iM_worthSum iM_firstRest iM_leastDrawn), (arI rM_fresher kM_fresher 8 fM_fresher), (arI rM_fresh kM_fresh 287 f_5240)]) hP hD rfl
    have o1_f_5240 : (f_5240 1).toInt = (f_5238 1).toInt := put_at ef_5240 (by have q := ti_cl (x := x_5239) vx_5239 (by omega); omega)
    refine lv_aload_n hx hb dX7_lay_50 rfl (lv_at hl 1 rfl) ?_
    refine va_get (D := (dC, dI)) (ci := 7) (v := .ref rM_fresh) (C := RX7) (T := TX7) (N := 48) hx hb hts inX7 hown hK hP 0 rfl rfl 16 (by decide) (hts _ wd_156) (fun _ h9 => h9) rfl dX7_lay_51 ?_
    refine lv_bipush (v := 9) hx hb dX7_lay_54 (by decide) ?_
    refine lv_iload_n hx hb dX7_lay_56 rfl (lv_at hl 0 rfl) ?_
    refine lv_iadd hx hb dX7_lay_57 ?_
    refine lv_topi (fun x_5241 ex_5241 => ?_)
    have hG := hG.trans (lt_eq ex_5241)
    have vx_5241 : x_5241.toInt = x_5235.toInt + 9 := by have q := ti_add ex_5241 kc_9 rfl (by omega) (by omega); omega
    refine lv_iload_n hx hb dX7_lay_58 rfl (lv_at hl 2 rfl) ?_
    refine va_iast hx hb hK hP hD hS 2 1 rfl rfl (ti_in vx_5241 (by omega) (by omega)) dX7_lay_59 (fun H locs hP hD hS => ?_)
    obtain ⟨f_5242, ef_5242⟩ : ∃ g : Nat → Int32, g = upd f_5240 x_5241.toNatClampNeg p0 := ⟨_, rfl⟩
    rw [← ef_5242] at hP hD
    have hG := hG.trans (lt_eq ef_5242)
    obtain ⟨hP, hD⟩ := wl2 (ws' := [(oc7 oM iM_thrown rM_tape iM_taped iM_size iM_at iM_end iM_token iM_whole iM_nameSize iM_fault iM_place iM_trouble rM_letters iM_failed iM_hasCourt rM_r rM_fresh rM_told rM_read rM_st rM_undone rM_kept iM_undos iM_images rM_fresher iM_fresherSize iM_scale iM_night rM_heardRow rM_cutRow iM_breaths iM_cutMany iM_allBreaths rM_trial rM_words iM_fewestBreaths iM_orderMany iM_orderSum iM_leastOrder rM_often iM_setMany iM_someOf iM_allOf iM_allWeight iM_enoughWeight iM_worthSum iM_firstRest iM_leastDrawn), (arI rM_fresher kM_fresher 8 fM_fresher), (arI rM_fresh kM_fresh 287 f_5242)]) hP hD rfl
    have o1_f_5242 : (f_5242 1).toInt = (f_5240 1).toInt := put_at ef_5242 (by have q := ti_cl (x := x_5241) vx_5241 (by omega); omega)
    refine lv_aload_n hx hb dX7_lay_60 rfl (lv_at hl 1 rfl) ?_
    refine va_get (D := (dC, dI)) (ci := 7) (v := .ref rM_fresh) (C := RX7) (T := TX7) (N := 48) hx hb hts inX7 hown hK hP 0 rfl rfl 16 (by decide) (hts _ wd_156) (fun _ h9 => h9) rfl dX7_lay_61 ?_
    refine lv_iconst (v := 1) hx hb dX7_lay_64 (by decide) ?_
    refine lv_dup2_11 hx hb dX7_lay_65 rfl rfl ?_
    refine va_iald hx hb hK hP 2 1 rfl rfl (by unfold vp_in; decide) dX7_lay_66 ?_
    refine lv_topi (fun x_5243 ex_5243 => ?_)
    have hG := hG.trans (lt_eq ex_5243)
    have cx_5243 : (f_5242 1).toInt = x_5243.toInt := congrArg Int32.toInt (show f_5242 1 = x_5243 from ex_5243.symm)
    refine lv_iconst (v := 1) hx hb dX7_lay_67 (by decide) ?_
    refine lv_iadd hx hb dX7_lay_68 ?_
    refine lv_topi (fun x_5244 ex_5244 => ?_)
    have hG := hG.trans (lt_eq ex_5244)
    have vx_5244 : x_5244.toInt = x_5243.toInt + 1 := by have q := ti_add ex_5244 rfl kc_1 (by omega) (by omega); omega
    refine va_iast hx hb hK hP hD hS 2 1 rfl rfl (by unfold vp_in; decide) dX7_lay_69 (fun H locs hP hD hS => ?_)
    obtain ⟨f_5245, ef_5245⟩ : ∃ g : Nat → Int32, g = upd f_5242 (1 : Int32).toNatClampNeg x_5244 := ⟨_, rfl⟩
    rw [← ef_5245] at hP hD
    have hG := hG.trans (lt_eq ef_5245)
    obtain ⟨hP, hD⟩ := wl2 (ws' := [(oc7 oM iM_thrown rM_tape iM_taped iM_size iM_at iM_end iM_token iM_whole iM_nameSize iM_fault iM_place iM_trouble rM_letters iM_failed iM_hasCourt rM_r rM_fresh rM_told rM_read rM_st rM_undone rM_kept iM_undos iM_images rM_fresher iM_fresherSize iM_scale iM_night rM_heardRow rM_cutRow iM_breaths iM_cutMany iM_allBreaths rM_trial rM_words iM_fewestBreaths iM_orderMany iM_orderSum iM_leastOrder rM_often iM_setMany iM_someOf iM_allOf iM_allWeight iM_enoughWeight iM_worthSum iM_firstRest iM_leastDrawn), (arI rM_fresher kM_fresher 8 fM_fresher), (arI rM_fresh kM_fresh 287 f_5245)]) hP hD rfl
    have ly9 : LayI fM_fresh p0 f_5245 := lay_of (n := (fM_fresh 1).toNatClampNeg) rfl (by have q1 := ti_cl (x := x_5237) vx_5237 (by omega); have q2 := ti_cl (x := fM_fresh 1) rfl (by omega); omega) (by omega) e_f_5238_0 (by have q1 := ti_cl (x := x_5237) vx_5237 (by omega); have q2 := ti_cl (x := fM_fresh 1) rfl (by omega); omega) ef_5240 (by have q1 := ti_cl (x := x_5237) vx_5237 (by omega); have q2 := ti_cl (x := fM_fresh 1) rfl (by omega); have q3 := ti_cl (x := x_5239) vx_5239 (by omega); omega) ef_5242 (by have q1 := ti_cl (x := x_5237) vx_5237 (by omega); have q2 := ti_cl (x := fM_fresh 1) rfl (by omega); have q3 := ti_cl (x := x_5241) vx_5241 (by omega); omega) ef_5245 rfl (by have q4 := vx_5244; omega)
    exact W.vret hx hb hr (fun t ht hW => ⟨⟨0, rfl, trivial, ⟨f_5245, (by first | omega | decide | assumption), hG, Bw.to (hP.sub [0, 2, 1] rfl) (hD.sub [0, 2, 1] (by decide) rfl) (hK.sub [1, 0] rfl) ht hW⟩⟩, hS.F ht⟩) hS.2.2 dX7_lay_70
  · skip
    have hG := hG.trans (if_neg c_5234)
    have gc_5234 := ti_ne c_5234 rfl kc_0
    replace gc_5234 : iM_failed.toInt + 1 ≤ 0 := by omega
    exfalso; clear hG; omega
set_option maxHeartbeats 4000000 in
set_option maxRecDepth 100000 in
theorem tX7_nodeHere (l : Launch) (dC : Nat → ClassId) (dI : Nat → Nat → Nat) (sz : Nat) (oM : Nat) (iM_thrown : Int32) (rM_tape : Nat) (iM_taped : Int32) (iM_size : Int32) (iM_at : Int32) (iM_end : Int32) (iM_token : Int32) (iM_whole : Int32) (iM_nameSize : Int32) (iM_fault : Int32) (iM_place : Int32) (iM_trouble : Int32) (rM_letters : Nat) (fM_letters : Nat → Int32) (kM_letters : ClassId) (iM_failed : Int32) (iM_hasCourt : Int32) (rM_r : Nat) (rM_fresh : Nat) (fM_fresh : Nat → Int32) (kM_fresh : ClassId) (rM_told : Nat) (rM_read : Nat) (fM_read : Nat → Int32) (kM_read : ClassId) (rM_st : Nat) (rM_undone : Nat) (rM_kept : Nat) (iM_undos : Int32) (iM_images : Int32) (rM_fresher : Nat) (iM_fresherSize : Int32) (iM_scale : Int32) (iM_night : Int32) (rM_heardRow : Nat) (rM_cutRow : Nat) (iM_breaths : Int32) (iM_cutMany : Int32) (iM_allBreaths : Int32) (rM_trial : Nat) (rM_words : Nat) (iM_fewestBreaths : Int32) (iM_orderMany : Int32) (iM_orderSum : Int32) (iM_leastOrder : Int32) (rM_often : Nat) (iM_setMany : Int32) (iM_someOf : Int32) (iM_allOf : Int32) (iM_allWeight : Int64) (iM_enoughWeight : Int64) (iM_worthSum : Int64) (iM_firstRest : Int32) (iM_leastDrawn : Int32) (b_iM_taped : 0 ≤ iM_taped.toInt ∧ iM_taped.toInt ≤ 900) (b_iM_size : 0 ≤ iM_size.toInt ∧ iM_size.toInt ≤ 900) (b_iM_end : 0 ≤ iM_end.toInt ∧ iM_end.toInt ≤ 900) (b_iM_nameSize : 0 ≤ iM_nameSize.toInt ∧ iM_nameSize.toInt ≤ 900) (b_iM_failed : 0 ≤ iM_failed.toInt ∧ iM_failed.toInt ≤ 1) (b_iM_hasCourt : 0 ≤ iM_hasCourt.toInt ∧ iM_hasCourt.toInt ≤ 1) (b_iM_undos : 0 ≤ iM_undos.toInt ∧ iM_undos.toInt ≤ 16) (b_iM_images : 0 ≤ iM_images.toInt ∧ iM_images.toInt ≤ 3) (b_iM_scale : 1 ≤ iM_scale.toInt ∧ iM_scale.toInt ≤ 1296) (b_iM_breaths : 0 ≤ iM_breaths.toInt ∧ iM_breaths.toInt ≤ 399) (b_iM_cutMany : 0 ≤ iM_cutMany.toInt ∧ iM_cutMany.toInt ≤ 399) (r_T : ImpP (iM_token.toInt = 2) (iM_nameSize.toInt ≤ 8)) (r_P : POk fM_fresh fM_read)  : Met l yX7_nodeHere (Cond.code yX7_nodeHere cX7_nodeHere 2 (some .int) :: wG) ({ frames := 6, cells := 0, slots := 0, locals := 154 }) (va_Pc [.ref oM] (Pw dC dI sz [(oc7 oM iM_thrown rM_tape iM_taped iM_size iM_at iM_end iM_token iM_whole iM_nameSize iM_fault iM_place iM_trouble rM_letters iM_failed iM_hasCourt rM_r rM_fresh rM_told rM_read rM_st rM_undone rM_kept iM_undos iM_images rM_fresher iM_fresherSize iM_scale iM_night rM_heardRow rM_cutRow iM_breaths iM_cutMany iM_allBreaths rM_trial rM_words iM_fewestBreaths iM_orderMany iM_orderSum iM_leastOrder rM_often iM_setMany iM_someOf iM_allOf iM_allWeight iM_enoughWeight iM_worthSum iM_firstRest iM_leastDrawn), (arI rM_letters kM_letters 8 fM_letters), (arI rM_fresh kM_fresh 287 fM_fresh), (arI rM_read kM_read 90 fM_read)] [(kM_letters, .int), (kM_fresh, .int), (kM_read, .int)])) (va_Qi (fun (r : Int32) (u : Nat) => (True ∧ (0 ≤ r.toInt ∧ ImpP (1 ≤ (fM_fresh 1).toInt) (r.toInt < (fM_fresh 1).toInt) ∧ r.toInt ≤ 17)) ∧ r = Int32.ofNat u) (fun (u : Nat) (t : State) => ∃ (niM_fault : Int32) (niM_place : Int32) (niM_failed : Int32), (0 ≤ niM_failed.toInt ∧ niM_failed.toInt ≤ 1) ∧ (iM_failed.toInt ≤ niM_failed.toInt) ∧ (ImpP (niM_failed.toInt ≤ 0) (1 ≤ (fM_fresh 1).toInt)) ∧ (PX7_nodeHere iM_at iM_token iM_nameSize iM_fault iM_place fM_letters iM_failed fM_fresh = (Int32.ofNat u, niM_fault, niM_place, niM_failed)) ∧ Bw dC dI (va_A [(oc7 oM iM_thrown rM_tape iM_taped iM_size iM_at iM_end iM_token iM_whole iM_nameSize iM_fault iM_place iM_trouble rM_letters iM_failed iM_hasCourt rM_r rM_fresh rM_told rM_read rM_st rM_undone rM_kept iM_undos iM_images rM_fresher iM_fresherSize iM_scale iM_night rM_heardRow rM_cutRow iM_breaths iM_cutMany iM_allBreaths rM_trial rM_words iM_fewestBreaths iM_orderMany iM_orderSum iM_leastOrder rM_often iM_setMany iM_someOf iM_allOf iM_allWeight iM_enoughWeight iM_worthSum iM_firstRest iM_leastDrawn), (arI rM_letters kM_letters 8 fM_letters), (arI rM_fresh kM_fresh 287 fM_fresh), (arI rM_read kM_read 90 fM_read)] sz) [(oc7 oM iM_thrown rM_tape iM_taped iM_size iM_at iM_end iM_token iM_whole iM_nameSize niM_fault niM_place iM_trouble rM_letters niM_failed iM_hasCourt rM_r rM_fresh rM_told rM_read rM_st rM_undone rM_kept iM_undos iM_images rM_fresher iM_fresherSize iM_scale iM_night rM_heardRow rM_cutRow iM_breaths iM_cutMany iM_allBreaths rM_trial rM_words iM_fewestBreaths iM_orderMany iM_orderSum iM_leastOrder rM_often iM_setMany iM_someOf iM_allOf iM_allWeight iM_enoughWeight iM_worthSum iM_firstRest iM_leastDrawn), (arI rM_letters kM_letters 8 fM_letters), (arI rM_fresh kM_fresh 287 fM_fresh), (arI rM_read kM_read 90 fM_read)] [(kM_letters, .int), (kM_fresh, .int), (kM_read, .int)] t) (va_A [(oc7 oM iM_thrown rM_tape iM_taped iM_size iM_at iM_end iM_token iM_whole iM_nameSize iM_fault iM_place iM_trouble rM_letters iM_failed iM_hasCourt rM_r rM_fresh rM_told rM_read rM_st rM_undone rM_kept iM_undos iM_images rM_fresher iM_fresherSize iM_scale iM_night rM_heardRow rM_cutRow iM_breaths iM_cutMany iM_allBreaths rM_trial rM_words iM_fewestBreaths iM_orderMany iM_orderSum iM_leastOrder rM_often iM_setMany iM_someOf iM_allOf iM_allWeight iM_enoughWeight iM_worthSum iM_firstRest iM_leastDrawn), (arI rM_letters kM_letters 8 fM_letters), (arI rM_fresh kM_fresh 287 fM_fresh), (arI rM_read kM_read 90 fM_read)] sz)) 0 0 (va_A [(oc7 oM iM_thrown rM_tape iM_taped iM_size iM_at iM_end iM_token iM_whole iM_nameSize iM_fault iM_place iM_trouble rM_letters iM_failed iM_hasCourt rM_r rM_fresh rM_told rM_read rM_st rM_undone rM_kept iM_undos iM_images rM_fresher iM_fresherSize iM_scale iM_night rM_heardRow rM_cutRow iM_breaths iM_cutMany iM_allBreaths rM_trial rM_words iM_fewestBreaths iM_orderMany iM_orderSum iM_leastOrder rM_often iM_setMany iM_someOf iM_allOf iM_allWeight iM_enoughWeight iM_worthSum iM_firstRest iM_leastDrawn), (arI rM_letters kM_letters 8 fM_letters), (arI rM_fresh kM_fresh 287 fM_fresh), (arI rM_read kM_read 90 fM_read)] sz) := by
  refine Met.ofW (cc := cX7_nodeHere) (maxL := 2) (ret := (some .int)) (by decide) rfl ?_
  intro p e s m args below meth c s₁ B hml hv
  obtain ⟨rfl, hsz, hP, hK, hD0, hE⟩ := hv
  have hx := B.exec
  have hb := B.bytes
  have hr := B.returns
  have hts : ∀ w ∈ wG, w.before ([.ref oM] : List Value).toArray s = true := fun w h => atoms_spec (ws := Cond.code yX7_nodeHere cX7_nodeHere 2 (some .int) :: wG) B.pre w (List.mem_cons_of_mem _ h)
  have hown : s.vm.findClass RX7 = some m.cls := findClass_of_methodNamed B.named
  have hlocks := B.notSynchronized
  subst hsz
  have hD := hD0.self (sz := s.heap.size)
  generalize hAe : va_A [(oc7 oM iM_thrown rM_tape iM_taped iM_size iM_at iM_end iM_token iM_whole iM_nameSize iM_fault iM_place iM_trouble rM_letters iM_failed iM_hasCourt rM_r rM_fresh rM_told rM_read rM_st rM_undone rM_kept iM_undos iM_images rM_fresher iM_fresherSize iM_scale iM_night rM_heardRow rM_cutRow iM_breaths iM_cutMany iM_allBreaths rM_trial rM_words iM_fewestBreaths iM_orderMany iM_orderSum iM_leastOrder rM_often iM_setMany iM_someOf iM_allOf iM_allWeight iM_enoughWeight iM_worthSum iM_firstRest iM_leastDrawn), (arI rM_letters kM_letters 8 fM_letters), (arI rM_fresh kM_fresh 287 fM_fresh), (arI rM_read kM_read 90 fM_read)] s.heap.size = A at hD hE ⊢
  have hA : ∀ q : Nat, s.heap.size ≤ q → A q := fun q h => by rw [← hAe]; exact Or.inr h
  have hS : va_S A s.heap s.heap [] := va_S.rf
  have hl := lv_entry ([.ref oM]) (n := 2) (Nat.le_of_ble_eq_true rfl)
  rw [lg_entry_eq]
  generalize (lg_sl ([.ref oM]) ++ List.replicate (2 - (lg_sl ([.ref oM])).length) Slot.unset).toArray = ls at hl ⊢
  have hl : lv_has ls 2 [(0, .ref oM)] := hl
  have hG := PX7_nodeHere_eq iM_at iM_token iM_nameSize iM_fault iM_place fM_letters iM_failed fM_fresh
  have pl_fM_fresh := r_P.lins
  refine lv_aload_n hx hb dX7_nodeHere_0 rfl (lv_at hl 0 rfl) ?_
  refine va_get (D := (dC, dI)) (ci := 7) (v := .int iM_failed) (C := RX7) (T := TX7) (N := 48) hx hb hts inX7 hown hK hP 0 rfl rfl 13 (by decide) (hts _ wd_380) (fun _ h9 => h9) rfl dX7_nodeHere_1 ?_
  refine lv_if_eq (tgt := 9) hx hb dX7_nodeHere_4 (by decide) (fun c_5260 => ?_) (fun c_5260 => ?_)
  · skip
    have hG := hG.trans (if_pos c_5260)
    have gc_5260 := ti_eq c_5260 rfl kc_0
    refine lv_aload_n hx hb dX7_nodeHere_9 rfl (lv_at hl 0 rfl) ?_
    have hFc := va_free (wc := [(oc7 oM iM_thrown rM_tape iM_taped iM_size iM_at iM_end iM_token iM_whole iM_nameSize iM_fault iM_place iM_trouble rM_letters iM_failed iM_hasCourt rM_r rM_fresh rM_told rM_read rM_st rM_undone rM_kept iM_undos iM_images rM_fresher iM_fresherSize iM_scale iM_night rM_heardRow rM_cutRow iM_breaths iM_cutMany iM_allBreaths rM_trial rM_words iM_fewestBreaths iM_orderMany iM_orderSum iM_leastOrder rM_often iM_setMany iM_someOf iM_allOf iM_allWeight iM_enoughWeight iM_worthSum iM_firstRest iM_leastDrawn), (arI rM_letters kM_letters 8 fM_letters)]) hD hS hA [0, 1] rfl
    refine va_callv (va_runV (As := []) (rest := []) ⟨hx, hb, hml, hown, hts⟩ (tX7_mustName l dC dI _ oM iM_thrown rM_tape iM_taped iM_size iM_at iM_end iM_token iM_whole iM_nameSize iM_fault iM_place iM_trouble rM_letters fM_letters kM_letters iM_failed iM_hasCourt rM_r rM_fresh rM_told rM_read rM_st rM_undone rM_kept iM_undos iM_images rM_fresher iM_fresherSize iM_scale iM_night rM_heardRow rM_cutRow iM_breaths iM_cutMany iM_allBreaths rM_trial rM_words iM_fewestBreaths iM_orderMany iM_orderSum iM_leastOrder rM_often iM_setMany iM_someOf iM_allOf iM_allWeight iM_enoughWeight iM_worthSum iM_firstRest iM_leastDrawn (by first | omega | decide) (by first | omega | decide) (by first | omega | decide) (by first | omega | decide) (by first | omega | decide) (by first | omega | decide) (by first | omega | decide) (by first | omega | decide) (by first | omega | decide) (by first | omega | decide) (by first | omega | decide) (by first | assumption | exact (fun h9 => by have q0 := kc_0; have q1 := kc_1; omega))) (cwV 0 hts (wd_V wd_467 wd_468 wd_469 wd_5 (wd_c wd_470)) rfl rfl rfl (by decide +kernel) ⟨Nat.le_of_ble_eq_true rfl, Nat.le_of_ble_eq_true rfl⟩) ⟨Pw.fb, va_recv hK hP (ci := 7) (q0 := 0) rfl rfl, fun U hU hW => Pw.to (hP.sub [0, 1] rfl) (hD.sub [0, 1] (by decide) rfl) (hK.sub [0] rfl) hE hS hFc hU hW⟩ rfl rfl hl.1 rfl (lv_room (Nat.le_of_ble_eq_true rfl)) dX7_nodeHere_10 ⟨Nat.le_of_ble_eq_true rfl, Nat.le_of_ble_eq_true rfl⟩) hS (fun q _ h => hFc q h) hFc (fun u t H locs ht hvm hw hB hz1 hk1 hS => ?_)
    obtain ⟨x_5261, x_5262, x_5263, b_x_5263, e_x_5261_0, e_x_5261_1, e_x_5261_2, hB⟩ := hB
    obtain ⟨hP, hD, hK⟩ := Bw.go (ws' := [(arI rM_fresh kM_fresh 287 fM_fresh), (arI rM_read kM_read 90 fM_read), (oc7 oM iM_thrown rM_tape iM_taped iM_size iM_at iM_end iM_token iM_whole iM_nameSize x_5261 x_5262 iM_trouble rM_letters x_5263 iM_hasCourt rM_r rM_fresh rM_told rM_read rM_st rM_undone rM_kept iM_undos iM_images rM_fresher iM_fresherSize iM_scale iM_night rM_heardRow rM_cutRow iM_breaths iM_cutMany iM_allBreaths rM_trial rM_words iM_fewestBreaths iM_orderMany iM_orderSum iM_leastOrder rM_often iM_setMany iM_someOf iM_allOf iM_allWeight iM_enoughWeight iM_worthSum iM_firstRest iM_leastDrawn), (arI rM_letters kM_letters 8 fM_letters)]) (tys' := [(kM_fresh, .int), (kM_read, .int), (kM_letters, .int)]) hB rfl ht hvm hP hD hK [0, 1] [2, 3] rfl (by decide) (by decide) [1, 2] hk1 hFc rfl rfl rfl
    clear hz1 hk1 hvm ht hB
    have hG := hG.trans (un3_eq e_x_5261_2)
    refine lv_aload_n hx hb dX7_nodeHere_13 rfl (lv_at hl 0 rfl) ?_
    refine va_get (D := (dC, dI)) (ci := 7) (v := .int x_5263) (C := RX7) (T := TX7) (N := 48) hx hb hts inX7 hown hK hP 2 rfl rfl 13 (by decide) (hts _ wd_380) (fun _ h9 => h9) rfl dX7_nodeHere_14 ?_
    refine lv_if_eq (tgt := 22) hx hb dX7_nodeHere_17 (by decide) (fun c_5264 => ?_) (fun c_5264 => ?_)
    · skip
      have hG := hG.trans (if_pos c_5264)
      have gc_5264 := ti_eq c_5264 rfl kc_0
      have h_5265 := e_x_5261_1 (by omega)
      clear e_x_5261_1
      have h_5266 := r_T (by omega)
      clear r_T
      refine lv_aload_n hx hb dX7_nodeHere_22 rfl (lv_at hl 0 rfl) ?_
      have hFc := va_free (wc := [(oc7 oM iM_thrown rM_tape iM_taped iM_size iM_at iM_end iM_token iM_whole iM_nameSize x_5261 x_5262 iM_trouble rM_letters x_5263 iM_hasCourt rM_r rM_fresh rM_told rM_read rM_st rM_undone rM_kept iM_undos iM_images rM_fresher iM_fresherSize iM_scale iM_night rM_heardRow rM_cutRow iM_breaths iM_cutMany iM_allBreaths rM_trial rM_words iM_fewestBreaths iM_orderMany iM_orderSum iM_leastOrder rM_often iM_setMany iM_someOf iM_allOf iM_allWeight iM_enoughWeight iM_worthSum iM_firstRest iM_leastDrawn), (arI rM_letters kM_letters 8 fM_letters), (arI rM_fresh kM_fresh 287 fM_fresh), (arI rM_read kM_read 90 fM_read)]) hD hS hA [2, 3, 0, 1] rfl
      refine va_calli (va_runV (As := []) (rest := []) ⟨hx, hb, hml, hown, hts⟩ (tX7_find l dC dI _ oM iM_thrown rM_tape iM_taped iM_size iM_at iM_end iM_token iM_whole iM_nameSize x_5261 x_5262 iM_trouble rM_letters fM_letters kM_letters x_5263 iM_hasCourt rM_r rM_fresh fM_fresh kM_fresh rM_told rM_read fM_read kM_read rM_st rM_undone rM_kept iM_undos iM_images rM_fresher iM_fresherSize iM_scale iM_night rM_heardRow rM_cutRow iM_breaths iM_cutMany iM_allBreaths rM_trial rM_words iM_fewestBreaths iM_orderMany iM_orderSum iM_leastOrder rM_often iM_setMany iM_someOf iM_allOf iM_allWeight iM_enoughWeight iM_worthSum iM_firstRest iM_leastDrawn (by first | omega | decide) (by first | omega | decide) (by first | omega | decide) (by first | omega | decide) (by first | exact b_x_5263 | omega | decide) (by first | omega | decide) (by first | omega | decide) (by first | omega | decide) (by first | omega | decide) (by first | omega | decide) (by first | omega | decide) (by first | assumption | exact (fun h9 => by have q0 := kc_0; have q1 := kc_1; omega)) (by assumption) (by first | omega | decide | assumption | (have q0 := kc_0; have q1 := kc_1; omega) | (intro h; exact absurd h (by decide)))) (cwV 0 hts (wd_V wd_471 wd_472 wd_473 wd_5 (wd_c wd_474)) rfl rfl rfl (by decide +kernel) ⟨Nat.le_of_ble_eq_true rfl, Nat.le_of_ble_eq_true rfl⟩) ⟨Pw.fb, va_recv hK hP (ci := 7) (q0 := 2) rfl rfl, fun U hU hW => Pw.to (hP.sub [2, 3, 0, 1] rfl) (hD.sub [2, 3, 0, 1] (by decide) rfl) (hK.sub [2, 0, 1] rfl) hE hS hFc hU hW⟩ rfl rfl hl.1 rfl (lv_room (Nat.le_of_ble_eq_true rfl)) dX7_nodeHere_23 ⟨Nat.le_of_ble_eq_true rfl, Nat.le_of_ble_eq_true rfl⟩) hS (fun q _ h => hFc q h) hFc (fun r u t H locs ht hvm hw hB hz1 hk1 hS => ?_)
      have hru9 := hw.2
      have hw := hw.1
      obtain ⟨hP, hD, hK⟩ := Bw.go (ws' := [(oc7 oM iM_thrown rM_tape iM_taped iM_size iM_at iM_end iM_token iM_whole iM_nameSize x_5261 x_5262 iM_trouble rM_letters x_5263 iM_hasCourt rM_r rM_fresh rM_told rM_read rM_st rM_undone rM_kept iM_undos iM_images rM_fresher iM_fresherSize iM_scale iM_night rM_heardRow rM_cutRow iM_breaths iM_cutMany iM_allBreaths rM_trial rM_words iM_fewestBreaths iM_orderMany iM_orderSum iM_leastOrder rM_often iM_setMany iM_someOf iM_allOf iM_allWeight iM_enoughWeight iM_worthSum iM_firstRest iM_leastDrawn), (arI rM_letters kM_letters 8 fM_letters), (arI rM_fresh kM_fresh 287 fM_fresh), (arI rM_read kM_read 90 fM_read)]) (tys' := [(kM_letters, .int), (kM_fresh, .int), (kM_read, .int)]) hB rfl ht hvm hP hD hK [2, 3, 0, 1] [] rfl (by decide) (by decide) [] hk1 hFc rfl rfl rfl
      clear hz1 hk1 hvm ht hB
      obtain ⟨x_5267, rfl⟩ : ∃ z, z = r := ⟨_, rfl⟩
      have hG := hG.trans (lt_eq hru9.symm)
      have lx_5267 := hw.2
      have ux_5267 := hw.2
      refine lv_istore_n (lv' := [(1, .int x_5267), (0, .ref oM)]) hx hb dX7_nodeHere_26 rfl hl (by decide) rfl (fun ls hl => ?_)
      refine lv_iload_n hx hb dX7_nodeHere_27 rfl (lv_at hl 0 rfl) ?_
      refine lv_if_ge (tgt := 40) hx hb dX7_nodeHere_28 (by decide) (fun c_5268 => ?_) (fun c_5268 => ?_)
      · skip
        have hG := hG.trans (if_pos c_5268)
        have gc_5268 := ti_le c_5268 kc_0 rfl
        refine lv_aload_n hx hb dX7_nodeHere_40 rfl (lv_at hl 1 rfl) ?_
        refine va_get (D := (dC, dI)) (ci := 7) (v := .int x_5263) (C := RX7) (T := TX7) (N := 48) hx hb hts inX7 hown hK hP 0 rfl rfl 13 (by decide) (hts _ wd_380) (fun _ h9 => h9) rfl dX7_nodeHere_41 ?_
        refine lv_if_eq (tgt := 51) hx hb dX7_nodeHere_44 (by decide) (fun c_5269 => ?_) (fun c_5269 => ?_)
        · skip
          have hG := hG.trans (if_pos c_5269)
          have gc_5269 := ti_eq c_5269 rfl kc_0
          refine lv_iload_n hx hb dX7_nodeHere_51 rfl (lv_at hl 0 rfl) ?_
          exact W.iret hx hb hr (fun t ht hW => ⟨⟨_, (cI x_5267), rfl, ⟨⟨trivial, ⟨by have q0 := kc_0; omega, fun h9 => by have q0 := kc_0; omega, by have q0 := kc_0; omega⟩⟩, (cI_of x_5267)⟩, ⟨x_5261, x_5262, x_5263, b_x_5263, (by first | assumption | (have q0 := kc_0; have q1 := kc_1; omega)), (by first | assumption | exact (fun h9 => by have q0 := kc_0; have q1 := kc_1; omega)), (cI_tup hG), Bw.to (hP.sub [0, 1, 2, 3] rfl) (hD.sub [0, 1, 2, 3] (by decide) rfl) (hK.sub [0, 1, 2] rfl) ht hW⟩⟩, hS.F ht⟩) hS.2.2 dX7_nodeHere_52
        · skip
          have hG := hG.trans (if_neg c_5269)
          have gc_5269 := ti_ne c_5269 rfl kc_0
          replace gc_5269 : x_5263.toInt + 1 ≤ 0 := by omega
          exfalso; clear hG; omega
      · skip
        have hG := hG.trans (if_neg c_5268)
        have gc_5268 := ti_nle c_5268 kc_0 rfl
        refine lv_aload_n hx hb dX7_nodeHere_31 rfl (lv_at hl 1 rfl) ?_
        refine lv_iconst (v := 2) hx hb dX7_nodeHere_32 (by decide) ?_
        refine lv_aload_n hx hb dX7_nodeHere_33 rfl (lv_at hl 1 rfl) ?_
        refine va_get (D := (dC, dI)) (ci := 7) (v := .int iM_at) (C := RX7) (T := TX7) (N := 48) hx hb hts inX7 hown hK hP 0 rfl rfl 4 (by decide) (hts _ wd_384) (fun _ h9 => h9) rfl dX7_nodeHere_34 ?_
        have hFc := va_free (wc := [(oc7 oM iM_thrown rM_tape iM_taped iM_size iM_at iM_end iM_token iM_whole iM_nameSize x_5261 x_5262 iM_trouble rM_letters x_5263 iM_hasCourt rM_r rM_fresh rM_told rM_read rM_st rM_undone rM_kept iM_undos iM_images rM_fresher iM_fresherSize iM_scale iM_night rM_heardRow rM_cutRow iM_breaths iM_cutMany iM_allBreaths rM_trial rM_words iM_fewestBreaths iM_orderMany iM_orderSum iM_leastOrder rM_often iM_setMany iM_someOf iM_allOf iM_allWeight iM_enoughWeight iM_worthSum iM_firstRest iM_leastDrawn)]) hD hS hA [0] rfl
        refine va_callv (va_runV (As := [.int 2, .int iM_at]) (rest := []) ⟨hx, hb, hml, hown, hts⟩ (tX7_wrong l dC dI _ oM iM_thrown rM_tape iM_taped iM_size iM_at iM_end iM_token iM_whole iM_nameSize x_5261 x_5262 iM_trouble rM_letters x_5263 iM_hasCourt rM_r rM_fresh rM_told rM_read rM_st rM_undone rM_kept iM_undos iM_images rM_fresher iM_fresherSize iM_scale iM_night rM_heardRow rM_cutRow iM_breaths iM_cutMany iM_allBreaths rM_trial rM_words iM_fewestBreaths iM_orderMany iM_orderSum iM_leastOrder rM_often iM_setMany iM_someOf iM_allOf iM_allWeight iM_enoughWeight iM_worthSum iM_firstRest iM_leastDrawn 2 iM_at (by first | omega | decide) (by first | omega | decide) (by first | omega | decide) (by first | omega | decide) (by first | exact b_x_5263 | omega | decide) (by first | omega | decide) (by first | omega | decide) (by first | omega | decide) (by first | omega | decide) (by first | omega | decide) (by first | omega | decide) (by first | assumption | exact (fun h9 => by have q0 := kc_0; have q1 := kc_1; omega))) (cwV 2 hts (wd_V wd_430 wd_431 wd_432 wd_5 (wd_c wd_433)) rfl rfl rfl (by decide +kernel) ⟨Nat.le_of_ble_eq_true rfl, Nat.le_of_ble_eq_true rfl⟩) ⟨Pw.fb, va_recv hK hP (ci := 7) (q0 := 0) rfl rfl, fun U hU hW => Pw.to (hP.sub [0] rfl) (hD.sub [0] (by decide) rfl) (hK.sub [] rfl) hE hS hFc hU hW⟩ rfl rfl hl.1 rfl (lv_room (Nat.le_of_ble_eq_true rfl)) dX7_nodeHere_37 ⟨Nat.le_of_ble_eq_true rfl, Nat.le_of_ble_eq_true rfl⟩) hS (fun q _ h => hFc q h) hFc (fun u t H locs ht hvm hw hB hz1 hk1 hS => ?_)
        obtain ⟨x_5270, x_5271, x_5272, b_x_5272, e_x_5270_0, e_x_5270_1, hB⟩ := hB
        obtain ⟨hP, hD, hK⟩ := Bw.go (ws' := [(arI rM_letters kM_letters 8 fM_letters), (arI rM_fresh kM_fresh 287 fM_fresh), (arI rM_read kM_read 90 fM_read), (oc7 oM iM_thrown rM_tape iM_taped iM_size iM_at iM_end iM_token iM_whole iM_nameSize x_5270 x_5271 iM_trouble rM_letters x_5272 iM_hasCourt rM_r rM_fresh rM_told rM_read rM_st rM_undone rM_kept iM_undos iM_images rM_fresher iM_fresherSize iM_scale iM_night rM_heardRow rM_cutRow iM_breaths iM_cutMany iM_allBreaths rM_trial rM_words iM_fewestBreaths iM_orderMany iM_orderSum iM_leastOrder rM_often iM_setMany iM_someOf iM_allOf iM_allWeight iM_enoughWeight iM_worthSum iM_firstRest iM_leastDrawn)]) (tys' := [(kM_letters, .int), (kM_fresh, .int), (kM_read, .int)]) hB rfl ht hvm hP hD hK [0] [1, 2, 3] rfl (by decide) (by decide) [0, 1, 2] hk1 hFc rfl rfl rfl
        clear hz1 hk1 hvm ht hB
        have hG := hG.trans (un3_eq e_x_5270_1)
        refine lv_aload_n hx hb dX7_nodeHere_40 rfl (lv_at hl 1 rfl) ?_
        refine va_get (D := (dC, dI)) (ci := 7) (v := .int x_5272) (C := RX7) (T := TX7) (N := 48) hx hb hts inX7 hown hK hP 3 rfl rfl 13 (by decide) (hts _ wd_380) (fun _ h9 => h9) rfl dX7_nodeHere_41 ?_
        refine lv_if_eq (tgt := 51) hx hb dX7_nodeHere_44 (by decide) (fun c_5273 => ?_) (fun c_5273 => ?_)
        · skip
          have hG := hG.trans (if_pos c_5273)
          have gc_5273 := ti_eq c_5273 rfl kc_0
          exfalso; clear hG; omega
        · skip
          have hG := hG.trans (if_neg c_5273)
          have gc_5273 := ti_ne c_5273 rfl kc_0
          replace gc_5273 : (-1) * x_5272.toInt + 1 ≤ 0 := by omega
          refine lv_iconst (v := 0) hx hb dX7_nodeHere_47 (by decide) ?_
          refine lv_goto (tgt := 52) hx hb dX7_nodeHere_48 (by decide) ?_
          exact W.iret hx hb hr (fun t ht hW => ⟨⟨_, (cI 0), rfl, ⟨⟨trivial, ⟨by have q0 := kc_0; omega, fun h9 => by have q0 := kc_0; omega, by have q0 := kc_0; omega⟩⟩, (cI_of 0)⟩, ⟨x_5270, x_5271, x_5272, b_x_5272, (by first | assumption | (have q0 := kc_0; have q1 := kc_1; omega)), (by first | assumption | exact (fun h9 => by have q0 := kc_0; have q1 := kc_1; omega)), (cI_tup hG), Bw.to (hP.sub [3, 0, 1, 2] rfl) (hD.sub [3, 0, 1, 2] (by decide) rfl) (hK.sub [0, 1, 2] rfl) ht hW⟩⟩, hS.F ht⟩) hS.2.2 dX7_nodeHere_52
    · skip
      have hG := hG.trans (if_neg c_5264)
      have gc_5264 := ti_ne c_5264 rfl kc_0
      replace gc_5264 : (-1) * x_5263.toInt + 1 ≤ 0 := by omega
      clear e_x_5261_1
      refine lv_iconst (v := 0) hx hb dX7_nodeHere_20 (by decide) ?_
      exact W.iret hx hb hr (fun t ht hW => ⟨⟨_, (cI 0), rfl, ⟨⟨trivial, ⟨by have q0 := kc_0; omega, fun h9 => by have q0 := kc_0; omega, by have q0 := kc_0; omega⟩⟩, (cI_of 0)⟩, ⟨x_5261, x_5262, x_5263, b_x_5263, (by first | assumption | (have q0 := kc_0; have q1 := kc_1; omega)), (by first | assumption | exact (fun h9 => by have q0 := kc_0; have q1 := kc_1; omega)), (cI_tup hG), Bw.to (hP.sub [2, 3, 0, 1] rfl) (hD.sub [2, 3, 0, 1] (by decide) rfl) (hK.sub [2, 0, 1] rfl) ht hW⟩⟩, hS.F ht⟩) hS.2.2 dX7_nodeHere_21
  · skip
    have hG := hG.trans (if_neg c_5260)
    have gc_5260 := ti_ne c_5260 rfl kc_0
    replace gc_5260 : (-1) * iM_failed.toInt + 1 ≤ 0 := by omega
    refine lv_iconst (v := 0) hx hb dX7_nodeHere_7 (by decide) ?_
    exact W.iret hx hb hr (fun t ht hW => ⟨⟨_, (cI 0), rfl, ⟨⟨trivial, ⟨by have q0 := kc_0; omega, fun h9 => by have q0 := kc_0; omega, by have q0 := kc_0; omega⟩⟩, (cI_of 0)⟩, ⟨iM_fault, iM_place, iM_failed, (by omega), (by first | assumption | (have q0 := kc_0; have q1 := kc_1; omega)), (by first | assumption | exact (fun h9 => by have q0 := kc_0; have q1 := kc_1; omega)), (cI_tup hG), Bw.to (hP.sub [0, 1, 2, 3] rfl) (hD.sub [0, 1, 2, 3] (by decide) rfl) (hK.sub [0, 1, 2] rfl) ht hW⟩⟩, hS.F ht⟩) hS.2.2 dX7_nodeHere_8
set_option maxHeartbeats 4000000 in
set_option maxRecDepth 100000 in
theorem tX7_pass (l : Launch) (dC : Nat → ClassId) (dI : Nat → Nat → Nat) (sz : Nat) (oM : Nat) (iM_thrown : Int32) (rM_tape : Nat) (fM_tape : Nat → Int32) (kM_tape : ClassId) (iM_taped : Int32) (iM_size : Int32) (iM_at : Int32) (iM_end : Int32) (iM_token : Int32) (iM_whole : Int32) (iM_nameSize : Int32) (iM_fault : Int32) (iM_place : Int32) (iM_trouble : Int32) (rM_letters : Nat) (fM_letters : Nat → Int32) (kM_letters : ClassId) (iM_failed : Int32) (iM_hasCourt : Int32) (rM_r : Nat) (rM_fresh : Nat) (rM_told : Nat) (rM_read : Nat) (rM_st : Nat) (rM_undone : Nat) (rM_kept : Nat) (iM_undos : Int32) (iM_images : Int32) (rM_fresher : Nat) (iM_fresherSize : Int32) (iM_scale : Int32) (iM_night : Int32) (rM_heardRow : Nat) (rM_cutRow : Nat) (iM_breaths : Int32) (iM_cutMany : Int32) (iM_allBreaths : Int32) (rM_trial : Nat) (rM_words : Nat) (iM_fewestBreaths : Int32) (iM_orderMany : Int32) (iM_orderSum : Int32) (iM_leastOrder : Int32) (rM_often : Nat) (iM_setMany : Int32) (iM_someOf : Int32) (iM_allOf : Int32) (iM_allWeight : Int64) (iM_enoughWeight : Int64) (iM_worthSum : Int64) (iM_firstRest : Int32) (iM_leastDrawn : Int32) (b_iM_taped : 0 ≤ iM_taped.toInt ∧ iM_taped.toInt ≤ 900) (b_iM_size : 0 ≤ iM_size.toInt ∧ iM_size.toInt ≤ 900) (b_iM_end : 0 ≤ iM_end.toInt ∧ iM_end.toInt ≤ 900) (b_iM_nameSize : 0 ≤ iM_nameSize.toInt ∧ iM_nameSize.toInt ≤ 900) (b_iM_failed : 0 ≤ iM_failed.toInt ∧ iM_failed.toInt ≤ 1) (b_iM_hasCourt : 0 ≤ iM_hasCourt.toInt ∧ iM_hasCourt.toInt ≤ 1) (b_iM_undos : 0 ≤ iM_undos.toInt ∧ iM_undos.toInt ≤ 16) (b_iM_images : 0 ≤ iM_images.toInt ∧ iM_images.toInt ≤ 3) (b_iM_scale : 1 ≤ iM_scale.toInt ∧ iM_scale.toInt ≤ 1296) (b_iM_breaths : 0 ≤ iM_breaths.toInt ∧ iM_breaths.toInt ≤ 399) (b_iM_cutMany : 0 ≤ iM_cutMany.toInt ∧ iM_cutMany.toInt ≤ 399) (r_T : ImpP (iM_token.toInt = 2) (iM_nameSize.toInt ≤ 8))  : Met l yX7_pass (Cond.code yX7_pass cX7_pass 1 none :: wG) ({ frames := 2, cells := 0, slots := 0, locals := 44 }) (va_Pc [.ref oM] (Pw dC dI sz [(oc7 oM iM_thrown rM_tape iM_taped iM_size iM_at iM_end iM_token iM_whole iM_nameSize iM_fault iM_place iM_trouble rM_letters iM_failed iM_hasCourt rM_r rM_fresh rM_told rM_read rM_st rM_undone rM_kept iM_undos iM_images rM_fresher iM_fresherSize iM_scale iM_night rM_heardRow rM_cutRow iM_breaths iM_cutMany iM_allBreaths rM_trial rM_words iM_fewestBreaths iM_orderMany iM_orderSum iM_leastOrder rM_often iM_setMany iM_someOf iM_allOf iM_allWeight iM_enoughWeight iM_worthSum iM_firstRest iM_leastDrawn), (arI rM_tape kM_tape 900 fM_tape), (arI rM_letters kM_letters 8 fM_letters)] [(kM_tape, .int), (kM_letters, .int)])) (va_Qv (fun (_ : Nat) => True) (fun (_ : Nat) (t : State) => ∃ (niM_at : Int32) (niM_end : Int32) (niM_token : Int32) (niM_whole : Int32) (niM_nameSize : Int32) (nfM_letters : Nat → Int32), (0 ≤ niM_end.toInt ∧ niM_end.toInt ≤ 900) ∧ (0 ≤ niM_nameSize.toInt ∧ niM_nameSize.toInt ≤ 900) ∧ (iM_end.toInt ≤ niM_end.toInt) ∧ (ImpP (niM_token.toInt = 2) (niM_nameSize.toInt ≤ 8)) ∧ (ImpP (iM_failed.toInt ≤ 0 ∧ niM_token.toInt = 59 ) (iM_end.toInt + 1 ≤ niM_end.toInt)) ∧ (PX7_pass fM_tape iM_size iM_at iM_end iM_token iM_whole iM_nameSize fM_letters iM_failed = (niM_at, niM_end, niM_token, niM_whole, niM_nameSize, nfM_letters)) ∧ Bw dC dI (va_A [(oc7 oM iM_thrown rM_tape iM_taped iM_size iM_at iM_end iM_token iM_whole iM_nameSize iM_fault iM_place iM_trouble rM_letters iM_failed iM_hasCourt rM_r rM_fresh rM_told rM_read rM_st rM_undone rM_kept iM_undos iM_images rM_fresher iM_fresherSize iM_scale iM_night rM_heardRow rM_cutRow iM_breaths iM_cutMany iM_allBreaths rM_trial rM_words iM_fewestBreaths iM_orderMany iM_orderSum iM_leastOrder rM_often iM_setMany iM_someOf iM_allOf iM_allWeight iM_enoughWeight iM_worthSum iM_firstRest iM_leastDrawn), (arI rM_tape kM_tape 900 fM_tape), (arI rM_letters kM_letters 8 fM_letters)] sz) [(oc7 oM iM_thrown rM_tape iM_taped iM_size niM_at niM_end niM_token niM_whole niM_nameSize iM_fault iM_place iM_trouble rM_letters iM_failed iM_hasCourt rM_r rM_fresh rM_told rM_read rM_st rM_undone rM_kept iM_undos iM_images rM_fresher iM_fresherSize iM_scale iM_night rM_heardRow rM_cutRow iM_breaths iM_cutMany iM_allBreaths rM_trial rM_words iM_fewestBreaths iM_orderMany iM_orderSum iM_leastOrder rM_often iM_setMany iM_someOf iM_allOf iM_allWeight iM_enoughWeight iM_worthSum iM_firstRest iM_leastDrawn), (arI rM_tape kM_tape 900 fM_tape), (arI rM_letters kM_letters 8 nfM_letters)] [(kM_tape, .int), (kM_letters, .int)] t) (va_A [(oc7 oM iM_thrown rM_tape iM_taped iM_size iM_at iM_end iM_token iM_whole iM_nameSize iM_fault iM_place iM_trouble rM_letters iM_failed iM_hasCourt rM_r rM_fresh rM_told rM_read rM_st rM_undone rM_kept iM_undos iM_images rM_fresher iM_fresherSize iM_scale iM_night rM_heardRow rM_cutRow iM_breaths iM_cutMany iM_allBreaths rM_trial rM_words iM_fewestBreaths iM_orderMany iM_orderSum iM_leastOrder rM_often iM_setMany iM_someOf iM_allOf iM_allWeight iM_enoughWeight iM_worthSum iM_firstRest iM_leastDrawn), (arI rM_tape kM_tape 900 fM_tape), (arI rM_letters kM_letters 8 fM_letters)] sz)) 0 0 (va_A [(oc7 oM iM_thrown rM_tape iM_taped iM_size iM_at iM_end iM_token iM_whole iM_nameSize iM_fault iM_place iM_trouble rM_letters iM_failed iM_hasCourt rM_r rM_fresh rM_told rM_read rM_st rM_undone rM_kept iM_undos iM_images rM_fresher iM_fresherSize iM_scale iM_night rM_heardRow rM_cutRow iM_breaths iM_cutMany iM_allBreaths rM_trial rM_words iM_fewestBreaths iM_orderMany iM_orderSum iM_leastOrder rM_often iM_setMany iM_someOf iM_allOf iM_allWeight iM_enoughWeight iM_worthSum iM_firstRest iM_leastDrawn), (arI rM_tape kM_tape 900 fM_tape), (arI rM_letters kM_letters 8 fM_letters)] sz) := by
  refine Met.ofW (cc := cX7_pass) (maxL := 1) (ret := none) (by decide) rfl ?_
  intro p e s m args below meth c s₁ B hml hv
  obtain ⟨rfl, hsz, hP, hK, hD0, hE⟩ := hv
  have hx := B.exec
  have hb := B.bytes
  have hr := B.returns
  have hts : ∀ w ∈ wG, w.before ([.ref oM] : List Value).toArray s = true := fun w h => atoms_spec (ws := Cond.code yX7_pass cX7_pass 1 none :: wG) B.pre w (List.mem_cons_of_mem _ h)
  have hown : s.vm.findClass RX7 = some m.cls := findClass_of_methodNamed B.named
  have hlocks := B.notSynchronized
  subst hsz
  have hD := hD0.self (sz := s.heap.size)
  generalize hAe : va_A [(oc7 oM iM_thrown rM_tape iM_taped iM_size iM_at iM_end iM_token iM_whole iM_nameSize iM_fault iM_place iM_trouble rM_letters iM_failed iM_hasCourt rM_r rM_fresh rM_told rM_read rM_st rM_undone rM_kept iM_undos iM_images rM_fresher iM_fresherSize iM_scale iM_night rM_heardRow rM_cutRow iM_breaths iM_cutMany iM_allBreaths rM_trial rM_words iM_fewestBreaths iM_orderMany iM_orderSum iM_leastOrder rM_often iM_setMany iM_someOf iM_allOf iM_allWeight iM_enoughWeight iM_worthSum iM_firstRest iM_leastDrawn), (arI rM_tape kM_tape 900 fM_tape), (arI rM_letters kM_letters 8 fM_letters)] s.heap.size = A at hD hE ⊢
  have hA : ∀ q : Nat, s.heap.size ≤ q → A q := fun q h => by rw [← hAe]; exact Or.inr h
  have hS : va_S A s.heap s.heap [] := va_S.rf
  have hl := lv_entry ([.ref oM]) (n := 1) (Nat.le_of_ble_eq_true rfl)
  rw [lg_entry_eq]
  generalize (lg_sl ([.ref oM]) ++ List.replicate (1 - (lg_sl ([.ref oM])).length) Slot.unset).toArray = ls at hl ⊢
  have hl : lv_has ls 1 [(0, .ref oM)] := hl
  have hG := PX7_pass_eq fM_tape iM_size iM_at iM_end iM_token iM_whole iM_nameSize fM_letters iM_failed
  refine lv_aload_n hx hb dX7_pass_0 rfl (lv_at hl 0 rfl) ?_
  refine va_get (D := (dC, dI)) (ci := 7) (v := .int iM_failed) (C := RX7) (T := TX7) (N := 48) hx hb hts inX7 hown hK hP 0 rfl rfl 13 (by decide) (hts _ wd_380) (fun _ h9 => h9) rfl dX7_pass_1 ?_
  refine lv_if_ne (tgt := 11) hx hb dX7_pass_4 (by decide) (fun c_5281 => ?_) (fun c_5281 => ?_)
  · skip
    have hG := hG.trans (if_neg c_5281)
    have gc_5281 := ti_ne c_5281 rfl kc_0
    replace gc_5281 : (-1) * iM_failed.toInt + 1 ≤ 0 := by omega
    exact W.vret hx hb hr (fun t ht hW => ⟨⟨0, rfl, trivial, ⟨iM_at, iM_end, iM_token, iM_whole, iM_nameSize, fM_letters, (by omega), (by omega), (by first | assumption | (have q0 := kc_0; have q1 := kc_1; omega)), r_T, (fun h9 => by have q0 := kc_0; have q1 := kc_1; omega), hG, Bw.to (hP.sub [0, 1, 2] rfl) (hD.sub [0, 1, 2] (by decide) rfl) (hK.sub [0, 1] rfl) ht hW⟩⟩, hS.F ht⟩) hS.2.2 dX7_pass_11
  · skip
    have hG := hG.trans (if_pos c_5281)
    have gc_5281 := ti_eq c_5281 rfl kc_0
    refine lv_aload_n hx hb dX7_pass_7 rfl (lv_at hl 0 rfl) ?_
    have hFc := va_free (wc := [(oc7 oM iM_thrown rM_tape iM_taped iM_size iM_at iM_end iM_token iM_whole iM_nameSize iM_fault iM_place iM_trouble rM_letters iM_failed iM_hasCourt rM_r rM_fresh rM_told rM_read rM_st rM_undone rM_kept iM_undos iM_images rM_fresher iM_fresherSize iM_scale iM_night rM_heardRow rM_cutRow iM_breaths iM_cutMany iM_allBreaths rM_trial rM_words iM_fewestBreaths iM_orderMany iM_orderSum iM_leastOrder rM_often iM_setMany iM_someOf iM_allOf iM_allWeight iM_enoughWeight iM_worthSum iM_firstRest iM_leastDrawn), (arI rM_tape kM_tape 900 fM_tape), (arI rM_letters kM_letters 8 fM_letters)]) hD hS hA [0, 1, 2] rfl
    refine va_callv (va_runV (As := []) (rest := []) ⟨hx, hb, hml, hown, hts⟩ (tX7_next l dC dI _ oM iM_thrown rM_tape fM_tape kM_tape iM_taped iM_size iM_at iM_end iM_token iM_whole iM_nameSize iM_fault iM_place iM_trouble rM_letters fM_letters kM_letters iM_failed iM_hasCourt rM_r rM_fresh rM_told rM_read rM_st rM_undone rM_kept iM_undos iM_images rM_fresher iM_fresherSize iM_scale iM_night rM_heardRow rM_cutRow iM_breaths iM_cutMany iM_allBreaths rM_trial rM_words iM_fewestBreaths iM_orderMany iM_orderSum iM_leastOrder rM_often iM_setMany iM_someOf iM_allOf iM_allWeight iM_enoughWeight iM_worthSum iM_firstRest iM_leastDrawn (by first | omega | decide) (by first | omega | decide) (by first | omega | decide) (by first | omega | decide) (by first | omega | decide) (by first | omega | decide) (by first | omega | decide) (by first | omega | decide) (by first | omega | decide) (by first | omega | decide) (by first | omega | decide) (by first | assumption | exact (fun h9 => by have q0 := kc_0; have q1 := kc_1; omega))) (cwV 0 hts (wd_V wd_400 wd_401 wd_402 wd_5 (wd_c wd_403)) rfl rfl rfl (by decide +kernel) ⟨Nat.le_of_ble_eq_true rfl, Nat.le_of_ble_eq_true rfl⟩) ⟨Pw.fb, va_recv hK hP (ci := 7) (q0 := 0) rfl rfl, fun U hU hW => Pw.to (hP.sub [0, 1, 2] rfl) (hD.sub [0, 1, 2] (by decide) rfl) (hK.sub [0, 1] rfl) hE hS hFc hU hW⟩ rfl rfl hl.1 rfl (lv_room (Nat.le_of_ble_eq_true rfl)) dX7_pass_8 ⟨Nat.le_of_ble_eq_true rfl, Nat.le_of_ble_eq_true rfl⟩) hS (fun q _ h => hFc q h) hFc (fun u t H locs ht hvm hw hB hz1 hk1 hS => ?_)
    obtain ⟨x_5282, x_5283, x_5284, x_5285, x_5286, f_5287, b_x_5283, b_x_5286, e_x_5282_0, e_x_5282_1, e_x_5282_2, e_x_5282_3, hB⟩ := hB
    obtain ⟨hP, hD, hK⟩ := Bw.go (ws' := [(oc7 oM iM_thrown rM_tape iM_taped iM_size x_5282 x_5283 x_5284 x_5285 x_5286 iM_fault iM_place iM_trouble rM_letters iM_failed iM_hasCourt rM_r rM_fresh rM_told rM_read rM_st rM_undone rM_kept iM_undos iM_images rM_fresher iM_fresherSize iM_scale iM_night rM_heardRow rM_cutRow iM_breaths iM_cutMany iM_allBreaths rM_trial rM_words iM_fewestBreaths iM_orderMany iM_orderSum iM_leastOrder rM_often iM_setMany iM_someOf iM_allOf iM_allWeight iM_enoughWeight iM_worthSum iM_firstRest iM_leastDrawn), (arI rM_tape kM_tape 900 fM_tape), (arI rM_letters kM_letters 8 f_5287)]) (tys' := [(kM_tape, .int), (kM_letters, .int)]) hB rfl ht hvm hP hD hK [0, 1, 2] [] rfl (by decide) (by decide) [] hk1 hFc rfl rfl rfl
    clear hz1 hk1 hvm ht hB
    have hG := hG.trans (un6_eq e_x_5282_3)
    clear r_T
    exact W.vret hx hb hr (fun t ht hW => ⟨⟨0, rfl, trivial, ⟨x_5282, x_5283, x_5284, x_5285, x_5286, f_5287, b_x_5283, b_x_5286, (by first | assumption | (have q0 := kc_0; have q1 := kc_1; omega)), e_x_5282_1, (fun h9 => by have q0 := kc_0; have q1 := kc_1; have q9 := e_x_5282_2 (by omega); omega), hG, Bw.to (hP.sub [0, 1, 2] rfl) (hD.sub [0, 1, 2] (by decide) rfl) (hK.sub [0, 1] rfl) ht hW⟩⟩, hS.F ht⟩) hS.2.2 dX7_pass_11
set_option maxHeartbeats 4000000 in
set_option maxRecDepth 100000 in
theorem tX7_number (l : Launch) (dC : Nat → ClassId) (dI : Nat → Nat → Nat) (sz : Nat) (oM : Nat) (iM_thrown : Int32) (rM_tape : Nat) (fM_tape : Nat → Int32) (kM_tape : ClassId) (iM_taped : Int32) (iM_size : Int32) (iM_at : Int32) (iM_end : Int32) (iM_token : Int32) (iM_whole : Int32) (iM_nameSize : Int32) (iM_fault : Int32) (iM_place : Int32) (iM_trouble : Int32) (rM_letters : Nat) (fM_letters : Nat → Int32) (kM_letters : ClassId) (iM_failed : Int32) (iM_hasCourt : Int32) (rM_r : Nat) (rM_fresh : Nat) (rM_told : Nat) (rM_read : Nat) (rM_st : Nat) (rM_undone : Nat) (rM_kept : Nat) (iM_undos : Int32) (iM_images : Int32) (rM_fresher : Nat) (iM_fresherSize : Int32) (iM_scale : Int32) (iM_night : Int32) (rM_heardRow : Nat) (rM_cutRow : Nat) (iM_breaths : Int32) (iM_cutMany : Int32) (iM_allBreaths : Int32) (rM_trial : Nat) (rM_words : Nat) (iM_fewestBreaths : Int32) (iM_orderMany : Int32) (iM_orderSum : Int32) (iM_leastOrder : Int32) (rM_often : Nat) (iM_setMany : Int32) (iM_someOf : Int32) (iM_allOf : Int32) (iM_allWeight : Int64) (iM_enoughWeight : Int64) (iM_worthSum : Int64) (iM_firstRest : Int32) (iM_leastDrawn : Int32) (p0 : Int32) (p1 : Int32) (b_iM_taped : 0 ≤ iM_taped.toInt ∧ iM_taped.toInt ≤ 900) (b_iM_size : 0 ≤ iM_size.toInt ∧ iM_size.toInt ≤ 900) (b_iM_end : 0 ≤ iM_end.toInt ∧ iM_end.toInt ≤ 900) (b_iM_nameSize : 0 ≤ iM_nameSize.toInt ∧ iM_nameSize.toInt ≤ 900) (b_iM_failed : 0 ≤ iM_failed.toInt ∧ iM_failed.toInt ≤ 1) (b_iM_hasCourt : 0 ≤ iM_hasCourt.toInt ∧ iM_hasCourt.toInt ≤ 1) (b_iM_undos : 0 ≤ iM_undos.toInt ∧ iM_undos.toInt ≤ 16) (b_iM_images : 0 ≤ iM_images.toInt ∧ iM_images.toInt ≤ 3) (b_iM_scale : 1 ≤ iM_scale.toInt ∧ iM_scale.toInt ≤ 1296) (b_iM_breaths : 0 ≤ iM_breaths.toInt ∧ iM_breaths.toInt ≤ 399) (b_iM_cutMany : 0 ≤ iM_cutMany.toInt ∧ iM_cutMany.toInt ≤ 399) (r_T : ImpP (iM_token.toInt = 2) (iM_nameSize.toInt ≤ 8)) (hlh : p0.toInt ≤ p1.toInt) : Met l yX7_number (Cond.code yX7_number cX7_number 4 (some .int) :: wG) ({ frames := 2, cells := 0, slots := 0, locals := 44 }) (va_Pc [.ref oM, .int p0, .int p1] (Pw dC dI sz [(oc7 oM iM_thrown rM_tape iM_taped iM_size iM_at iM_end iM_token iM_whole iM_nameSize iM_fault iM_place iM_trouble rM_letters iM_failed iM_hasCourt rM_r rM_fresh rM_told rM_read rM_st rM_undone rM_kept iM_undos iM_images rM_fresher iM_fresherSize iM_scale iM_night rM_heardRow rM_cutRow iM_breaths iM_cutMany iM_allBreaths rM_trial rM_words iM_fewestBreaths iM_orderMany iM_orderSum iM_leastOrder rM_often iM_setMany iM_someOf iM_allOf iM_allWeight iM_enoughWeight iM_worthSum iM_firstRest iM_leastDrawn), (arI rM_tape kM_tape 900 fM_tape), (arI rM_letters kM_letters 8 fM_letters)] [(kM_tape, .int), (kM_letters, .int)])) (va_Qi (fun (r : Int32) (u : Nat) => (True ∧ (p0.toInt ≤ r.toInt ∧ r.toInt ≤ p1.toInt)) ∧ r = Int32.ofNat u) (fun (u : Nat) (t : State) => ∃ (niM_at : Int32) (niM_end : Int32) (niM_token : Int32) (niM_whole : Int32) (niM_nameSize : Int32) (niM_fault : Int32) (niM_place : Int32) (niM_failed : Int32) (nfM_letters : Nat → Int32), (0 ≤ niM_end.toInt ∧ niM_end.toInt ≤ 900) ∧ (0 ≤ niM_nameSize.toInt ∧ niM_nameSize.toInt ≤ 900) ∧ (0 ≤ niM_failed.toInt ∧ niM_failed.toInt ≤ 1) ∧ (iM_end.toInt ≤ niM_end.toInt) ∧ (ImpP (niM_token.toInt = 2) (niM_nameSize.toInt ≤ 8)) ∧ (iM_failed.toInt ≤ niM_failed.toInt) ∧ (ImpP (niM_failed.toInt ≤ 0 ∧ niM_token.toInt = 59 ) (iM_end.toInt + 1 ≤ niM_end.toInt)) ∧ (PX7_number fM_tape iM_size iM_at iM_end iM_token iM_whole iM_nameSize iM_fault iM_place fM_letters iM_failed p0 p1 = (Int32.ofNat u, niM_at, niM_end, niM_token, niM_whole, niM_nameSize, niM_fault, niM_place, niM_failed, nfM_letters)) ∧ Bw dC dI (va_A [(oc7 oM iM_thrown rM_tape iM_taped iM_size iM_at iM_end iM_token iM_whole iM_nameSize iM_fault iM_place iM_trouble rM_letters iM_failed iM_hasCourt rM_r rM_fresh rM_told rM_read rM_st rM_undone rM_kept iM_undos iM_images rM_fresher iM_fresherSize iM_scale iM_night rM_heardRow rM_cutRow iM_breaths iM_cutMany iM_allBreaths rM_trial rM_words iM_fewestBreaths iM_orderMany iM_orderSum iM_leastOrder rM_often iM_setMany iM_someOf iM_allOf iM_allWeight iM_enoughWeight iM_worthSum iM_firstRest iM_leastDrawn), (arI rM_tape kM_tape 900 fM_tape), (arI rM_letters kM_letters 8 fM_letters)] sz) [(oc7 oM iM_thrown rM_tape iM_taped iM_size niM_at niM_end niM_token niM_whole niM_nameSize niM_fault niM_place iM_trouble rM_letters niM_failed iM_hasCourt rM_r rM_fresh rM_told rM_read rM_st rM_undone rM_kept iM_undos iM_images rM_fresher iM_fresherSize iM_scale iM_night rM_heardRow rM_cutRow iM_breaths iM_cutMany iM_allBreaths rM_trial rM_words iM_fewestBreaths iM_orderMany iM_orderSum iM_leastOrder rM_often iM_setMany iM_someOf iM_allOf iM_allWeight iM_enoughWeight iM_worthSum iM_firstRest iM_leastDrawn), (arI rM_tape kM_tape 900 fM_tape), (arI rM_letters kM_letters 8 nfM_letters)] [(kM_tape, .int), (kM_letters, .int)] t) (va_A [(oc7 oM iM_thrown rM_tape iM_taped iM_size iM_at iM_end iM_token iM_whole iM_nameSize iM_fault iM_place iM_trouble rM_letters iM_failed iM_hasCourt rM_r rM_fresh rM_told rM_read rM_st rM_undone rM_kept iM_undos iM_images rM_fresher iM_fresherSize iM_scale iM_night rM_heardRow rM_cutRow iM_breaths iM_cutMany iM_allBreaths rM_trial rM_words iM_fewestBreaths iM_orderMany iM_orderSum iM_leastOrder rM_often iM_setMany iM_someOf iM_allOf iM_allWeight iM_enoughWeight iM_worthSum iM_firstRest iM_leastDrawn), (arI rM_tape kM_tape 900 fM_tape), (arI rM_letters kM_letters 8 fM_letters)] sz)) 0 0 (va_A [(oc7 oM iM_thrown rM_tape iM_taped iM_size iM_at iM_end iM_token iM_whole iM_nameSize iM_fault iM_place iM_trouble rM_letters iM_failed iM_hasCourt rM_r rM_fresh rM_told rM_read rM_st rM_undone rM_kept iM_undos iM_images rM_fresher iM_fresherSize iM_scale iM_night rM_heardRow rM_cutRow iM_breaths iM_cutMany iM_allBreaths rM_trial rM_words iM_fewestBreaths iM_orderMany iM_orderSum iM_leastOrder rM_often iM_setMany iM_someOf iM_allOf iM_allWeight iM_enoughWeight iM_worthSum iM_firstRest iM_leastDrawn), (arI rM_tape kM_tape 900 fM_tape), (arI rM_letters kM_letters 8 fM_letters)] sz) := by
  refine Met.ofW (cc := cX7_number) (maxL := 4) (ret := (some .int)) (by decide) rfl ?_
  intro p e s m args below meth c s₁ B hml hv
  obtain ⟨rfl, hsz, hP, hK, hD0, hE⟩ := hv
  have hx := B.exec
  have hb := B.bytes
  have hr := B.returns
  have hts : ∀ w ∈ wG, w.before ([.ref oM, .int p0, .int p1] : List Value).toArray s = true := fun w h => atoms_spec (ws := Cond.code yX7_number cX7_number 4 (some .int) :: wG) B.pre w (List.mem_cons_of_mem _ h)
  have hown : s.vm.findClass RX7 = some m.cls := findClass_of_methodNamed B.named
  have hlocks := B.notSynchronized
  subst hsz
  have hD := hD0.self (sz := s.heap.size)
  generalize hAe : va_A [(oc7 oM iM_thrown rM_tape iM_taped iM_size iM_at iM_end iM_token iM_whole iM_nameSize iM_fault iM_place iM_trouble rM_letters iM_failed iM_hasCourt rM_r rM_fresh rM_told rM_read rM_st rM_undone rM_kept iM_undos iM_images rM_fresher iM_fresherSize iM_scale iM_night rM_heardRow rM_cutRow iM_breaths iM_cutMany iM_allBreaths rM_trial rM_words iM_fewestBreaths iM_orderMany iM_orderSum iM_leastOrder rM_often iM_setMany iM_someOf iM_allOf iM_allWeight iM_enoughWeight iM_worthSum iM_firstRest iM_leastDrawn), (arI rM_tape kM_tape 900 fM_tape), (arI rM_letters kM_letters 8 fM_letters)] s.heap.size = A at hD hE ⊢
  have hA : ∀ q : Nat, s.heap.size ≤ q → A q := fun q h => by rw [← hAe]; exact Or.inr h
  have hS : va_S A s.heap s.heap [] := va_S.rf
  have hl := lv_entry ([.ref oM, .int p0, .int p1]) (n := 4) (Nat.le_of_ble_eq_true rfl)
  rw [lg_entry_eq]
  generalize (lg_sl ([.ref oM, .int p0, .int p1]) ++ List.replicate (4 - (lg_sl ([.ref oM, .int p0, .int p1])).length) Slot.unset).toArray = ls at hl ⊢
  have hl : lv_has ls 4 [(0, .ref oM), (1, .int p0), (2, .int p1)] := hl
  have hG := PX7_number_eq fM_tape iM_size iM_at iM_end iM_token iM_whole iM_nameSize iM_fault iM_place fM_letters iM_failed p0 p1
  refine lv_aload_n hx hb dX7_number_0 rfl (lv_at hl 0 rfl) ?_
  refine va_get (D := (dC, dI)) (ci := 7) (v := .int iM_failed) (C := RX7) (T := TX7) (N := 48) hx hb hts inX7 hown hK hP 0 rfl rfl 13 (by decide) (hts _ wd_380) (fun _ h9 => h9) rfl dX7_number_1 ?_
  refine lv_if_eq (tgt := 9) hx hb dX7_number_4 (by decide) (fun c_5308 => ?_) (fun c_5308 => ?_)
  · skip
    have hG := hG.trans (if_pos c_5308)
    have gc_5308 := ti_eq c_5308 rfl kc_0
    refine lv_aload_n hx hb dX7_number_9 rfl (lv_at hl 0 rfl) ?_
    refine va_get (D := (dC, dI)) (ci := 7) (v := .int iM_token) (C := RX7) (T := TX7) (N := 48) hx hb hts inX7 hown hK hP 0 rfl rfl 6 (by decide) (hts _ wd_383) (fun _ h9 => h9) rfl dX7_number_10 ?_
    refine lv_iconst (v := 3) hx hb dX7_number_13 (by decide) ?_
    refine lv_icmp_eq (tgt := 29) hx hb dX7_number_14 (by decide) (fun c_5309 => ?_) (fun c_5309 => ?_)
    · skip
      have hG := hG.trans (if_pos c_5309)
      have gc_5309 := ti_eq c_5309 rfl kc_3
      refine lv_aload_n hx hb dX7_number_29 rfl (lv_at hl 0 rfl) ?_
      refine va_get (D := (dC, dI)) (ci := 7) (v := .int iM_whole) (C := RX7) (T := TX7) (N := 48) hx hb hts inX7 hown hK hP 0 rfl rfl 7 (by decide) (hts _ wd_405) (fun _ h9 => h9) rfl dX7_number_30 ?_
      refine lv_iload_n hx hb dX7_number_33 rfl (lv_at hl 1 rfl) ?_
      refine lv_iload_n hx hb dX7_number_34 rfl (lv_at hl 2 rfl) ?_
      have hFc : ∀ q, va_A [] _ q → A q := fun q h => hA q (Nat.le_trans hS.1 (va_nilA h))
      refine va_calli (va_runS (As := [.int iM_whole, .int p0, .int p1]) (rest := []) ⟨hx, hb, hml, hown, hts⟩ (tX7_in l dC dI _ iM_whole p0 p1 ) (va_cwS 3 hts (wd_S wd_393 wd_394 wd_5 (wd_c wd_395)) rfl rfl rfl (by decide +kernel) ⟨Nat.le_of_ble_eq_true rfl, Nat.le_of_ble_eq_true rfl⟩) ⟨Pw.fb, fun U hU hW => Pn.to hK hE hS hA hU hW⟩ rfl rfl hl.1 rfl (lv_room (Nat.le_of_ble_eq_true rfl)) dX7_number_35 ⟨Nat.le_of_ble_eq_true rfl, Nat.le_of_ble_eq_true rfl⟩) hS (fun q _ h => hFc q h) hFc (fun r u t H locs ht hvm hw hB hz1 hk1 hS => ?_)
      obtain ⟨hP, hD, hK⟩ := Bw.same ht hvm hP hD hK hk1 hFc
      clear hz1 hk1 hvm ht hB
      have hq9 := hw.2
      have hw := hw.1
      obtain ⟨x_5310, rfl⟩ : ∃ z, z = r := ⟨_, rfl⟩
      have hq_x_5310 := hq9
      have hG := hG.trans (lt_eq hq_x_5310.symm)
      have bx_5310 := hw.1
      have dx_5310 := bz_ti bx_5310
      have px_5310 := hw.2
      rcases px_5310 with ⟨gx_5310, hx_5310⟩ | ⟨gx_5310, hx_5310⟩
      · skip
        refine lv_if_ne (tgt := 50) hx hb dX7_number_38 (by decide) (fun c_5311 => ?_) (fun c_5311 => ?_)
        · skip
          have hG := hG.trans (if_neg c_5311)
          have gc_5311 := ti_ne c_5311 rfl kc_0
          replace gc_5311 : (-1) * x_5310.toInt + 1 ≤ 0 := by omega
          refine lv_aload_n hx hb dX7_number_50 rfl (lv_at hl 0 rfl) ?_
          refine va_get (D := (dC, dI)) (ci := 7) (v := .int iM_failed) (C := RX7) (T := TX7) (N := 48) hx hb hts inX7 hown hK hP 0 rfl rfl 13 (by decide) (hts _ wd_380) (fun _ h9 => h9) rfl dX7_number_51 ?_
          refine lv_if_eq (tgt := 59) hx hb dX7_number_54 (by decide) (fun c_5312 => ?_) (fun c_5312 => ?_)
          · skip
            have hG := hG.trans (if_pos c_5312)
            have gc_5312 := ti_eq c_5312 rfl kc_0
            refine lv_aload_n hx hb dX7_number_59 rfl (lv_at hl 0 rfl) ?_
            refine va_get (D := (dC, dI)) (ci := 7) (v := .int iM_whole) (C := RX7) (T := TX7) (N := 48) hx hb hts inX7 hown hK hP 0 rfl rfl 7 (by decide) (hts _ wd_405) (fun _ h9 => h9) rfl dX7_number_60 ?_
            refine lv_istore_n (lv' := [(3, .int iM_whole), (0, .ref oM), (1, .int p0), (2, .int p1)]) hx hb dX7_number_63 rfl hl (by decide) rfl (fun ls hl => ?_)
            refine lv_aload_n hx hb dX7_number_64 rfl (lv_at hl 1 rfl) ?_
            have hFc := va_free (wc := [(oc7 oM iM_thrown rM_tape iM_taped iM_size iM_at iM_end iM_token iM_whole iM_nameSize iM_fault iM_place iM_trouble rM_letters iM_failed iM_hasCourt rM_r rM_fresh rM_told rM_read rM_st rM_undone rM_kept iM_undos iM_images rM_fresher iM_fresherSize iM_scale iM_night rM_heardRow rM_cutRow iM_breaths iM_cutMany iM_allBreaths rM_trial rM_words iM_fewestBreaths iM_orderMany iM_orderSum iM_leastOrder rM_often iM_setMany iM_someOf iM_allOf iM_allWeight iM_enoughWeight iM_worthSum iM_firstRest iM_leastDrawn), (arI rM_tape kM_tape 900 fM_tape), (arI rM_letters kM_letters 8 fM_letters)]) hD hS hA [0, 1, 2] rfl
            refine va_callv (va_runV (As := []) (rest := []) ⟨hx, hb, hml, hown, hts⟩ (tX7_next l dC dI _ oM iM_thrown rM_tape fM_tape kM_tape iM_taped iM_size iM_at iM_end iM_token iM_whole iM_nameSize iM_fault iM_place iM_trouble rM_letters fM_letters kM_letters iM_failed iM_hasCourt rM_r rM_fresh rM_told rM_read rM_st rM_undone rM_kept iM_undos iM_images rM_fresher iM_fresherSize iM_scale iM_night rM_heardRow rM_cutRow iM_breaths iM_cutMany iM_allBreaths rM_trial rM_words iM_fewestBreaths iM_orderMany iM_orderSum iM_leastOrder rM_often iM_setMany iM_someOf iM_allOf iM_allWeight iM_enoughWeight iM_worthSum iM_firstRest iM_leastDrawn (by first | omega | decide) (by first | omega | decide) (by first | omega | decide) (by first | omega | decide) (by first | omega | decide) (by first | omega | decide) (by first | omega | decide) (by first | omega | decide) (by first | omega | decide) (by first | omega | decide) (by first | omega | decide) (by first | assumption | exact (fun h9 => by have q0 := kc_0; have q1 := kc_1; omega))) (cwV 0 hts (wd_V wd_400 wd_401 wd_402 wd_5 (wd_c wd_403)) rfl rfl rfl (by decide +kernel) ⟨Nat.le_of_ble_eq_true rfl, Nat.le_of_ble_eq_true rfl⟩) ⟨Pw.fb, va_recv hK hP (ci := 7) (q0 := 0) rfl rfl, fun U hU hW => Pw.to (hP.sub [0, 1, 2] rfl) (hD.sub [0, 1, 2] (by decide) rfl) (hK.sub [0, 1] rfl) hE hS hFc hU hW⟩ rfl rfl hl.1 rfl (lv_room (Nat.le_of_ble_eq_true rfl)) dX7_number_65 ⟨Nat.le_of_ble_eq_true rfl, Nat.le_of_ble_eq_true rfl⟩) hS (fun q _ h => hFc q h) hFc (fun u t H locs ht hvm hw hB hz1 hk1 hS => ?_)
            obtain ⟨x_5313, x_5314, x_5315, x_5316, x_5317, f_5318, b_x_5314, b_x_5317, e_x_5313_0, e_x_5313_1, e_x_5313_2, e_x_5313_3, hB⟩ := hB
            obtain ⟨hP, hD, hK⟩ := Bw.go (ws' := [(oc7 oM iM_thrown rM_tape iM_taped iM_size x_5313 x_5314 x_5315 x_5316 x_5317 iM_fault iM_place iM_trouble rM_letters iM_failed iM_hasCourt rM_r rM_fresh rM_told rM_read rM_st rM_undone rM_kept iM_undos iM_images rM_fresher iM_fresherSize iM_scale iM_night rM_heardRow rM_cutRow iM_breaths iM_cutMany iM_allBreaths rM_trial rM_words iM_fewestBreaths iM_orderMany iM_orderSum iM_leastOrder rM_often iM_setMany iM_someOf iM_allOf iM_allWeight iM_enoughWeight iM_worthSum iM_firstRest iM_leastDrawn), (arI rM_tape kM_tape 900 fM_tape), (arI rM_letters kM_letters 8 f_5318)]) (tys' := [(kM_tape, .int), (kM_letters, .int)]) hB rfl ht hvm hP hD hK [0, 1, 2] [] rfl (by decide) (by decide) [] hk1 hFc rfl rfl rfl
            clear hz1 hk1 hvm ht hB
            have hG := hG.trans (un6_eq e_x_5313_3)
            clear r_T
            refine lv_iload_n hx hb dX7_number_68 rfl (lv_at hl 0 rfl) ?_
            exact W.iret hx hb hr (fun t ht hW => ⟨⟨_, (cI iM_whole), rfl, ⟨⟨trivial, (by first | omega | assumption)⟩, (cI_of iM_whole)⟩, ⟨x_5313, x_5314, x_5315, x_5316, x_5317, iM_fault, iM_place, iM_failed, f_5318, b_x_5314, b_x_5317, (by omega), (by first | assumption | (have q0 := kc_0; have q1 := kc_1; omega)), e_x_5313_1, (by first | assumption | (have q0 := kc_0; have q1 := kc_1; omega)), (fun h9 => by have q0 := kc_0; have q1 := kc_1; have q9 := e_x_5313_2 (by omega); omega), (cI_tup hG), Bw.to (hP.sub [0, 1, 2] rfl) (hD.sub [0, 1, 2] (by decide) rfl) (hK.sub [0, 1] rfl) ht hW⟩⟩, hS.F ht⟩) hS.2.2 dX7_number_69
          · skip
            have hG := hG.trans (if_neg c_5312)
            have gc_5312 := ti_ne c_5312 rfl kc_0
            replace gc_5312 : iM_failed.toInt + 1 ≤ 0 := by omega
            exfalso; clear hG; omega
        · skip
          have hG := hG.trans (if_pos c_5311)
          have gc_5311 := ti_eq c_5311 rfl kc_0
          exfalso; clear hG; omega
      · skip
        refine lv_if_ne (tgt := 50) hx hb dX7_number_38 (by decide) (fun c_5319 => ?_) (fun c_5319 => ?_)
        · skip
          have hG := hG.trans (if_neg c_5319)
          have gc_5319 := ti_ne c_5319 rfl kc_0
          replace gc_5319 : x_5310.toInt + 1 ≤ 0 := by omega
          exfalso; clear hG; omega
        · skip
          have hG := hG.trans (if_pos c_5319)
          have gc_5319 := ti_eq c_5319 rfl kc_0
          refine lv_aload_n hx hb dX7_number_41 rfl (lv_at hl 0 rfl) ?_
          refine lv_iconst (v := 4) hx hb dX7_number_42 (by decide) ?_
          refine lv_aload_n hx hb dX7_number_43 rfl (lv_at hl 0 rfl) ?_
          refine va_get (D := (dC, dI)) (ci := 7) (v := .int iM_at) (C := RX7) (T := TX7) (N := 48) hx hb hts inX7 hown hK hP 0 rfl rfl 4 (by decide) (hts _ wd_384) (fun _ h9 => h9) rfl dX7_number_44 ?_
          have hFc := va_free (wc := [(oc7 oM iM_thrown rM_tape iM_taped iM_size iM_at iM_end iM_token iM_whole iM_nameSize iM_fault iM_place iM_trouble rM_letters iM_failed iM_hasCourt rM_r rM_fresh rM_told rM_read rM_st rM_undone rM_kept iM_undos iM_images rM_fresher iM_fresherSize iM_scale iM_night rM_heardRow rM_cutRow iM_breaths iM_cutMany iM_allBreaths rM_trial rM_words iM_fewestBreaths iM_orderMany iM_orderSum iM_leastOrder rM_often iM_setMany iM_someOf iM_allOf iM_allWeight iM_enoughWeight iM_worthSum iM_firstRest iM_leastDrawn)]) hD hS hA [0] rfl
          refine va_callv (va_runV (As := [.int 4, .int iM_at]) (rest := []) ⟨hx, hb, hml, hown, hts⟩ (tX7_wrong l dC dI _ oM iM_thrown rM_tape iM_taped iM_size iM_at iM_end iM_token iM_whole iM_nameSize iM_fault iM_place iM_trouble rM_letters iM_failed iM_hasCourt rM_r rM_fresh rM_told rM_read rM_st rM_undone rM_kept iM_undos iM_images rM_fresher iM_fresherSize iM_scale iM_night rM_heardRow rM_cutRow iM_breaths iM_cutMany iM_allBreaths rM_trial rM_words iM_fewestBreaths iM_orderMany iM_orderSum iM_leastOrder rM_often iM_setMany iM_someOf iM_allOf iM_allWeight iM_enoughWeight iM_worthSum iM_firstRest iM_leastDrawn 4 iM_at (by first | omega | decide) (by first | omega | decide) (by first | omega | decide) (by first | omega | decide) (by first | omega | decide) (by first | omega | decide) (by first | omega | decide) (by first | omega | decide) (by first | omega | decide) (by first | omega | decide) (by first | omega | decide) (by first | assumption | exact (fun h9 => by have q0 := kc_0; have q1 := kc_1; omega))) (cwV 2 hts (wd_V wd_430 wd_431 wd_432 wd_5 (wd_c wd_433)) rfl rfl rfl (by decide +kernel) ⟨Nat.le_of_ble_eq_true rfl, Nat.le_of_ble_eq_true rfl⟩) ⟨Pw.fb, va_recv hK hP (ci := 7) (q0 := 0) rfl rfl, fun U hU hW => Pw.to (hP.sub [0] rfl) (hD.sub [0] (by decide) rfl) (hK.sub [] rfl) hE hS hFc hU hW⟩ rfl rfl hl.1 rfl (lv_room (Nat.le_of_ble_eq_true rfl)) dX7_number_47 ⟨Nat.le_of_ble_eq_true rfl, Nat.le_of_ble_eq_true rfl⟩) hS (fun q _ h => hFc q h) hFc (fun u t H locs ht hvm hw hB hz1 hk1 hS => ?_)
          obtain ⟨x_5320, x_5321, x_5322, b_x_5322, e_x_5320_0, e_x_5320_1, hB⟩ := hB
          obtain ⟨hP, hD, hK⟩ := Bw.go (ws' := [(arI rM_tape kM_tape 900 fM_tape), (arI rM_letters kM_letters 8 fM_letters), (oc7 oM iM_thrown rM_tape iM_taped iM_size iM_at iM_end iM_token iM_whole iM_nameSize x_5320 x_5321 iM_trouble rM_letters x_5322 iM_hasCourt rM_r rM_fresh rM_told rM_read rM_st rM_undone rM_kept iM_undos iM_images rM_fresher iM_fresherSize iM_scale iM_night rM_heardRow rM_cutRow iM_breaths iM_cutMany iM_allBreaths rM_trial rM_words iM_fewestBreaths iM_orderMany iM_orderSum iM_leastOrder rM_often iM_setMany iM_someOf iM_allOf iM_allWeight iM_enoughWeight iM_worthSum iM_firstRest iM_leastDrawn)]) (tys' := [(kM_tape, .int), (kM_letters, .int)]) hB rfl ht hvm hP hD hK [0] [1, 2] rfl (by decide) (by decide) [0, 1] hk1 hFc rfl rfl rfl
          clear hz1 hk1 hvm ht hB
          have hG := hG.trans (un3_eq e_x_5320_1)
          refine lv_aload_n hx hb dX7_number_50 rfl (lv_at hl 0 rfl) ?_
          refine va_get (D := (dC, dI)) (ci := 7) (v := .int x_5322) (C := RX7) (T := TX7) (N := 48) hx hb hts inX7 hown hK hP 2 rfl rfl 13 (by decide) (hts _ wd_380) (fun _ h9 => h9) rfl dX7_number_51 ?_
          refine lv_if_eq (tgt := 59) hx hb dX7_number_54 (by decide) (fun c_5323 => ?_) (fun c_5323 => ?_)
          · skip
            have hG := hG.trans (if_pos c_5323)
            have gc_5323 := ti_eq c_5323 rfl kc_0
            exfalso; clear hG; omega
          · skip
            have hG := hG.trans (if_neg c_5323)
            have gc_5323 := ti_ne c_5323 rfl kc_0
            replace gc_5323 : (-1) * x_5322.toInt + 1 ≤ 0 := by omega
            refine lv_iload_n hx hb dX7_number_57 rfl (lv_at hl 1 rfl) ?_
            exact W.iret hx hb hr (fun t ht hW => ⟨⟨_, (cI p0), rfl, ⟨⟨trivial, (by first | omega | assumption)⟩, (cI_of p0)⟩, ⟨iM_at, iM_end, iM_token, iM_whole, iM_nameSize, x_5320, x_5321, x_5322, fM_letters, (by omega), (by omega), b_x_5322, (by first | assumption | (have q0 := kc_0; have q1 := kc_1; omega)), r_T, (by first | assumption | (have q0 := kc_0; have q1 := kc_1; omega)), (fun h9 => by have q0 := kc_0; have q1 := kc_1; omega), (cI_tup hG), Bw.to (hP.sub [2, 0, 1] rfl) (hD.sub [2, 0, 1] (by decide) rfl) (hK.sub [0, 1] rfl) ht hW⟩⟩, hS.F ht⟩) hS.2.2 dX7_number_58
    · skip
      have hG := hG.trans (if_neg c_5309)
      have gc_5309 := ti_ne c_5309 rfl kc_3
      refine lv_aload_n hx hb dX7_number_17 rfl (lv_at hl 0 rfl) ?_
      refine lv_iconst (v := 1) hx hb dX7_number_18 (by decide) ?_
      refine lv_aload_n hx hb dX7_number_19 rfl (lv_at hl 0 rfl) ?_
      refine va_get (D := (dC, dI)) (ci := 7) (v := .int iM_at) (C := RX7) (T := TX7) (N := 48) hx hb hts inX7 hown hK hP 0 rfl rfl 4 (by decide) (hts _ wd_384) (fun _ h9 => h9) rfl dX7_number_20 ?_
      have hFc := va_free (wc := [(oc7 oM iM_thrown rM_tape iM_taped iM_size iM_at iM_end iM_token iM_whole iM_nameSize iM_fault iM_place iM_trouble rM_letters iM_failed iM_hasCourt rM_r rM_fresh rM_told rM_read rM_st rM_undone rM_kept iM_undos iM_images rM_fresher iM_fresherSize iM_scale iM_night rM_heardRow rM_cutRow iM_breaths iM_cutMany iM_allBreaths rM_trial rM_words iM_fewestBreaths iM_orderMany iM_orderSum iM_leastOrder rM_often iM_setMany iM_someOf iM_allOf iM_allWeight iM_enoughWeight iM_worthSum iM_firstRest iM_leastDrawn)]) hD hS hA [0] rfl
      refine va_callv (va_runV (As := [.int 1, .int iM_at]) (rest := []) ⟨hx, hb, hml, hown, hts⟩ (tX7_wrong l dC dI _ oM iM_thrown rM_tape iM_taped iM_size iM_at iM_end iM_token iM_whole iM_nameSize iM_fault iM_place iM_trouble rM_letters iM_failed iM_hasCourt rM_r rM_fresh rM_told rM_read rM_st rM_undone rM_kept iM_undos iM_images rM_fresher iM_fresherSize iM_scale iM_night rM_heardRow rM_cutRow iM_breaths iM_cutMany iM_allBreaths rM_trial rM_words iM_fewestBreaths iM_orderMany iM_orderSum iM_leastOrder rM_often iM_setMany iM_someOf iM_allOf iM_allWeight iM_enoughWeight iM_worthSum iM_firstRest iM_leastDrawn 1 iM_at (by first | omega | decide) (by first | omega | decide) (by first | omega | decide) (by first | omega | decide) (by first | omega | decide) (by first | omega | decide) (by first | omega | decide) (by first | omega | decide) (by first | omega | decide) (by first | omega | decide) (by first | omega | decide) (by first | assumption | exact (fun h9 => by have q0 := kc_0; have q1 := kc_1; omega))) (cwV 2 hts (wd_V wd_430 wd_431 wd_432 wd_5 (wd_c wd_433)) rfl rfl rfl (by decide +kernel) ⟨Nat.le_of_ble_eq_true rfl, Nat.le_of_ble_eq_true rfl⟩) ⟨Pw.fb, va_recv hK hP (ci := 7) (q0 := 0) rfl rfl, fun U hU hW => Pw.to (hP.sub [0] rfl) (hD.sub [0] (by decide) rfl) (hK.sub [] rfl) hE hS hFc hU hW⟩ rfl rfl hl.1 rfl (lv_room (Nat.le_of_ble_eq_true rfl)) dX7_number_23 ⟨Nat.le_of_ble_eq_true rfl, Nat.le_of_ble_eq_true rfl⟩) hS (fun q _ h => hFc q h) hFc (fun u t H locs ht hvm hw hB hz1 hk1 hS => ?_)
      obtain ⟨x_5324, x_5325, x_5326, b_x_5326, e_x_5324_0, e_x_5324_1, hB⟩ := hB
      obtain ⟨hP, hD, hK⟩ := Bw.go (ws' := [(arI rM_tape kM_tape 900 fM_tape), (arI rM_letters kM_letters 8 fM_letters), (oc7 oM iM_thrown rM_tape iM_taped iM_size iM_at iM_end iM_token iM_whole iM_nameSize x_5324 x_5325 iM_trouble rM_letters x_5326 iM_hasCourt rM_r rM_fresh rM_told rM_read rM_st rM_undone rM_kept iM_undos iM_images rM_fresher iM_fresherSize iM_scale iM_night rM_heardRow rM_cutRow iM_breaths iM_cutMany iM_allBreaths rM_trial rM_words iM_fewestBreaths iM_orderMany iM_orderSum iM_leastOrder rM_often iM_setMany iM_someOf iM_allOf iM_allWeight iM_enoughWeight iM_worthSum iM_firstRest iM_leastDrawn)]) (tys' := [(kM_tape, .int), (kM_letters, .int)]) hB rfl ht hvm hP hD hK [0] [1, 2] rfl (by decide) (by decide) [0, 1] hk1 hFc rfl rfl rfl
      clear hz1 hk1 hvm ht hB
      have hG := hG.trans (un3_eq e_x_5324_1)
      refine lv_goto (tgt := 50) hx hb dX7_number_26 (by decide) ?_
      refine lv_aload_n hx hb dX7_number_50 rfl (lv_at hl 0 rfl) ?_
      refine va_get (D := (dC, dI)) (ci := 7) (v := .int x_5326) (C := RX7) (T := TX7) (N := 48) hx hb hts inX7 hown hK hP 2 rfl rfl 13 (by decide) (hts _ wd_380) (fun _ h9 => h9) rfl dX7_number_51 ?_
      refine lv_if_eq (tgt := 59) hx hb dX7_number_54 (by decide) (fun c_5327 => ?_) (fun c_5327 => ?_)
      · skip
        have hG := hG.trans (if_pos c_5327)
        have gc_5327 := ti_eq c_5327 rfl kc_0
        exfalso; clear hG; omega
      · skip
        have hG := hG.trans (if_neg c_5327)
        have gc_5327 := ti_ne c_5327 rfl kc_0
        replace gc_5327 : (-1) * x_5326.toInt + 1 ≤ 0 := by omega
        refine lv_iload_n hx hb dX7_number_57 rfl (lv_at hl 1 rfl) ?_
        exact W.iret hx hb hr (fun t ht hW => ⟨⟨_, (cI p0), rfl, ⟨⟨trivial, (by first | omega | assumption)⟩, (cI_of p0)⟩, ⟨iM_at, iM_end, iM_token, iM_whole, iM_nameSize, x_5324, x_5325, x_5326, fM_letters, (by omega), (by omega), b_x_5326, (by first | assumption | (have q0 := kc_0; have q1 := kc_1; omega)), r_T, (by first | assumption | (have q0 := kc_0; have q1 := kc_1; omega)), (fun h9 => by have q0 := kc_0; have q1 := kc_1; omega), (cI_tup hG), Bw.to (hP.sub [2, 0, 1] rfl) (hD.sub [2, 0, 1] (by decide) rfl) (hK.sub [0, 1] rfl) ht hW⟩⟩, hS.F ht⟩) hS.2.2 dX7_number_58
  · skip
    have hG := hG.trans (if_neg c_5308)
    have gc_5308 := ti_ne c_5308 rfl kc_0
    replace gc_5308 : (-1) * iM_failed.toInt + 1 ≤ 0 := by omega
    refine lv_iload_n hx hb dX7_number_7 rfl (lv_at hl 1 rfl) ?_
    exact W.iret hx hb hr (fun t ht hW => ⟨⟨_, (cI p0), rfl, ⟨⟨trivial, (by first | omega | assumption)⟩, (cI_of p0)⟩, ⟨iM_at, iM_end, iM_token, iM_whole, iM_nameSize, iM_fault, iM_place, iM_failed, fM_letters, (by omega), (by omega), (by omega), (by first | assumption | (have q0 := kc_0; have q1 := kc_1; omega)), r_T, (by first | assumption | (have q0 := kc_0; have q1 := kc_1; omega)), (fun h9 => by have q0 := kc_0; have q1 := kc_1; omega), (cI_tup hG), Bw.to (hP.sub [0, 1, 2] rfl) (hD.sub [0, 1, 2] (by decide) rfl) (hK.sub [0, 1] rfl) ht hW⟩⟩, hS.F ht⟩) hS.2.2 dX7_number_8
set_option maxHeartbeats 4000000 in
set_option maxRecDepth 100000 in
theorem tX7_after (l : Launch) (dC : Nat → ClassId) (dI : Nat → Nat → Nat) (sz : Nat) (oM : Nat) (iM_thrown : Int32) (rM_tape : Nat) (fM_tape : Nat → Int32) (kM_tape : ClassId) (iM_taped : Int32) (iM_size : Int32) (iM_at : Int32) (iM_end : Int32) (iM_token : Int32) (iM_whole : Int32) (iM_nameSize : Int32) (iM_fault : Int32) (iM_place : Int32) (iM_trouble : Int32) (rM_letters : Nat) (fM_letters : Nat → Int32) (kM_letters : ClassId) (iM_failed : Int32) (iM_hasCourt : Int32) (rM_r : Nat) (rM_fresh : Nat) (rM_told : Nat) (rM_read : Nat) (rM_st : Nat) (rM_undone : Nat) (rM_kept : Nat) (iM_undos : Int32) (iM_images : Int32) (rM_fresher : Nat) (iM_fresherSize : Int32) (iM_scale : Int32) (iM_night : Int32) (rM_heardRow : Nat) (rM_cutRow : Nat) (iM_breaths : Int32) (iM_cutMany : Int32) (iM_allBreaths : Int32) (rM_trial : Nat) (rM_words : Nat) (iM_fewestBreaths : Int32) (iM_orderMany : Int32) (iM_orderSum : Int32) (iM_leastOrder : Int32) (rM_often : Nat) (iM_setMany : Int32) (iM_someOf : Int32) (iM_allOf : Int32) (iM_allWeight : Int64) (iM_enoughWeight : Int64) (iM_worthSum : Int64) (iM_firstRest : Int32) (iM_leastDrawn : Int32) (sA : Nat) (p0 : Int32) (p1 : Int32) (sV : Nat) (sN : Nat) (sF : Nat → Int32) (b_iM_taped : 0 ≤ iM_taped.toInt ∧ iM_taped.toInt ≤ 900) (b_iM_size : 0 ≤ iM_size.toInt ∧ iM_size.toInt ≤ 900) (b_iM_end : 0 ≤ iM_end.toInt ∧ iM_end.toInt ≤ 900) (b_iM_nameSize : 0 ≤ iM_nameSize.toInt ∧ iM_nameSize.toInt ≤ 900) (b_iM_failed : 0 ≤ iM_failed.toInt ∧ iM_failed.toInt ≤ 1) (b_iM_hasCourt : 0 ≤ iM_hasCourt.toInt ∧ iM_hasCourt.toInt ≤ 1) (b_iM_undos : 0 ≤ iM_undos.toInt ∧ iM_undos.toInt ≤ 16) (b_iM_images : 0 ≤ iM_images.toInt ∧ iM_images.toInt ≤ 3) (b_iM_scale : 1 ≤ iM_scale.toInt ∧ iM_scale.toInt ≤ 1296) (b_iM_breaths : 0 ≤ iM_breaths.toInt ∧ iM_breaths.toInt ≤ 399) (b_iM_cutMany : 0 ≤ iM_cutMany.toInt ∧ iM_cutMany.toInt ≤ 399) (r_T : ImpP (iM_token.toInt = 2) (iM_nameSize.toInt ≤ 8)) (hsn : sN ≤ 8) (hlh : p0.toInt ≤ p1.toInt) : Met l yX7_after (Cond.code yX7_after cX7_after 4 (some .int) :: wG) ({ frames := 7, cells := 0, slots := 0, locals := 176 }) (va_Pc [.ref oM, .ref sA, .int p0, .int p1] (Pq dC dI sz [(oc7 oM iM_thrown rM_tape iM_taped iM_size iM_at iM_end iM_token iM_whole iM_nameSize iM_fault iM_place iM_trouble rM_letters iM_failed iM_hasCourt rM_r rM_fresh rM_told rM_read rM_st rM_undone rM_kept iM_undos iM_images rM_fresher iM_fresherSize iM_scale iM_night rM_heardRow rM_cutRow iM_breaths iM_cutMany iM_allBreaths rM_trial rM_words iM_fewestBreaths iM_orderMany iM_orderSum iM_leastOrder rM_often iM_setMany iM_someOf iM_allOf iM_allWeight iM_enoughWeight iM_worthSum iM_firstRest iM_leastDrawn), (arI rM_tape kM_tape 900 fM_tape), (arI rM_letters kM_letters 8 fM_letters)] [(kM_tape, .int), (kM_letters, .int)] sA sV sN sF)) (va_Qi (fun (r : Int32) (u : Nat) => (True ∧ (p0.toInt ≤ r.toInt ∧ r.toInt ≤ p1.toInt)) ∧ r = Int32.ofNat u) (fun (u : Nat) (t : State) => ∃ (niM_at : Int32) (niM_end : Int32) (niM_token : Int32) (niM_whole : Int32) (niM_nameSize : Int32) (niM_fault : Int32) (niM_place : Int32) (niM_failed : Int32) (nfM_letters : Nat → Int32), (0 ≤ niM_end.toInt ∧ niM_end.toInt ≤ 900) ∧ (0 ≤ niM_nameSize.toInt ∧ niM_nameSize.toInt ≤ 900) ∧ (0 ≤ niM_failed.toInt ∧ niM_failed.toInt ≤ 1) ∧ (iM_end.toInt ≤ niM_end.toInt) ∧ (ImpP (niM_token.toInt = 2) (niM_nameSize.toInt ≤ 8)) ∧ (iM_failed.toInt ≤ niM_failed.toInt) ∧ (ImpP (niM_failed.toInt ≤ 0 ∧ niM_token.toInt = 59 ) (iM_end.toInt + 1 ≤ niM_end.toInt)) ∧ (PX7_after fM_tape iM_size iM_at iM_end iM_token iM_whole iM_nameSize iM_fault iM_place fM_letters iM_failed p0 p1 sN sF = (Int32.ofNat u, niM_at, niM_end, niM_token, niM_whole, niM_nameSize, niM_fault, niM_place, niM_failed, nfM_letters)) ∧ Bw dC dI (va_A [(oc7 oM iM_thrown rM_tape iM_taped iM_size iM_at iM_end iM_token iM_whole iM_nameSize iM_fault iM_place iM_trouble rM_letters iM_failed iM_hasCourt rM_r rM_fresh rM_told rM_read rM_st rM_undone rM_kept iM_undos iM_images rM_fresher iM_fresherSize iM_scale iM_night rM_heardRow rM_cutRow iM_breaths iM_cutMany iM_allBreaths rM_trial rM_words iM_fewestBreaths iM_orderMany iM_orderSum iM_leastOrder rM_often iM_setMany iM_someOf iM_allOf iM_allWeight iM_enoughWeight iM_worthSum iM_firstRest iM_leastDrawn), (arI rM_tape kM_tape 900 fM_tape), (arI rM_letters kM_letters 8 fM_letters)] sz) [(oc7 oM iM_thrown rM_tape iM_taped iM_size niM_at niM_end niM_token niM_whole niM_nameSize niM_fault niM_place iM_trouble rM_letters niM_failed iM_hasCourt rM_r rM_fresh rM_told rM_read rM_st rM_undone rM_kept iM_undos iM_images rM_fresher iM_fresherSize iM_scale iM_night rM_heardRow rM_cutRow iM_breaths iM_cutMany iM_allBreaths rM_trial rM_words iM_fewestBreaths iM_orderMany iM_orderSum iM_leastOrder rM_often iM_setMany iM_someOf iM_allOf iM_allWeight iM_enoughWeight iM_worthSum iM_firstRest iM_leastDrawn), (arI rM_tape kM_tape 900 fM_tape), (arI rM_letters kM_letters 8 nfM_letters)] [(kM_tape, .int), (kM_letters, .int)] t) (va_A [(oc7 oM iM_thrown rM_tape iM_taped iM_size iM_at iM_end iM_token iM_whole iM_nameSize iM_fault iM_place iM_trouble rM_letters iM_failed iM_hasCourt rM_r rM_fresh rM_told rM_read rM_st rM_undone rM_kept iM_undos iM_images rM_fresher iM_fresherSize iM_scale iM_night rM_heardRow rM_cutRow iM_breaths iM_cutMany iM_allBreaths rM_trial rM_words iM_fewestBreaths iM_orderMany iM_orderSum iM_leastOrder rM_often iM_setMany iM_someOf iM_allOf iM_allWeight iM_enoughWeight iM_worthSum iM_firstRest iM_leastDrawn), (arI rM_tape kM_tape 900 fM_tape), (arI rM_letters kM_letters 8 fM_letters)] sz)) 0 0 (va_A [(oc7 oM iM_thrown rM_tape iM_taped iM_size iM_at iM_end iM_token iM_whole iM_nameSize iM_fault iM_place iM_trouble rM_letters iM_failed iM_hasCourt rM_r rM_fresh rM_told rM_read rM_st rM_undone rM_kept iM_undos iM_images rM_fresher iM_fresherSize iM_scale iM_night rM_heardRow rM_cutRow iM_breaths iM_cutMany iM_allBreaths rM_trial rM_words iM_fewestBreaths iM_orderMany iM_orderSum iM_leastOrder rM_often iM_setMany iM_someOf iM_allOf iM_allWeight iM_enoughWeight iM_worthSum iM_firstRest iM_leastDrawn), (arI rM_tape kM_tape 900 fM_tape), (arI rM_letters kM_letters 8 fM_letters)] sz) := by
  refine Met.ofW (cc := cX7_after) (maxL := 4) (ret := (some .int)) (by decide) rfl ?_
  intro p e s m args below meth c s₁ B hml hv
  obtain ⟨rfl, ⟨hsz, hP, hK, hD0, hE⟩, hSw⟩ := hv
  have hx := B.exec
  have hb := B.bytes
  have hr := B.returns
  have hts : ∀ w ∈ wG, w.before ([.ref oM, .ref sA, .int p0, .int p1] : List Value).toArray s = true := fun w h => atoms_spec (ws := Cond.code yX7_after cX7_after 4 (some .int) :: wG) B.pre w (List.mem_cons_of_mem _ h)
  have hown : s.vm.findClass RX7 = some m.cls := findClass_of_methodNamed B.named
  have hlocks := B.notSynchronized
  subst hsz
  have hD := hD0.self (sz := s.heap.size)
  generalize hAe : va_A [(oc7 oM iM_thrown rM_tape iM_taped iM_size iM_at iM_end iM_token iM_whole iM_nameSize iM_fault iM_place iM_trouble rM_letters iM_failed iM_hasCourt rM_r rM_fresh rM_told rM_read rM_st rM_undone rM_kept iM_undos iM_images rM_fresher iM_fresherSize iM_scale iM_night rM_heardRow rM_cutRow iM_breaths iM_cutMany iM_allBreaths rM_trial rM_words iM_fewestBreaths iM_orderMany iM_orderSum iM_leastOrder rM_often iM_setMany iM_someOf iM_allOf iM_allWeight iM_enoughWeight iM_worthSum iM_firstRest iM_leastDrawn), (arI rM_tape kM_tape 900 fM_tape), (arI rM_letters kM_letters 8 fM_letters)] s.heap.size = A at hD hE hSw ⊢
  have hA : ∀ q : Nat, s.heap.size ≤ q → A q := fun q h => by rw [← hAe]; exact Or.inr h
  have hS : va_S A s.heap s.heap [] := va_S.rf
  have hl := lv_entry ([.ref oM, .ref sA, .int p0, .int p1]) (n := 4) (Nat.le_of_ble_eq_true rfl)
  rw [lg_entry_eq]
  generalize (lg_sl ([.ref oM, .ref sA, .int p0, .int p1]) ++ List.replicate (4 - (lg_sl ([.ref oM, .ref sA, .int p0, .int p1])).length) Slot.unset).toArray = ls at hl ⊢
  have hl : lv_has ls 4 [(0, .ref oM), (1, .ref sA), (2, .int p0), (3, .int p1)] := hl
  have hG := PX7_after_eq fM_tape iM_size iM_at iM_end iM_token iM_whole iM_nameSize iM_fault iM_place fM_letters iM_failed p0 p1 sN sF
  refine lv_aload_n hx hb dX7_after_0 rfl (lv_at hl 0 rfl) ?_
  refine lv_aload_n hx hb dX7_after_1 rfl (lv_at hl 1 rfl) ?_
  have hFc := va_free (wc := [(oc7 oM iM_thrown rM_tape iM_taped iM_size iM_at iM_end iM_token iM_whole iM_nameSize iM_fault iM_place iM_trouble rM_letters iM_failed iM_hasCourt rM_r rM_fresh rM_told rM_read rM_st rM_undone rM_kept iM_undos iM_images rM_fresher iM_fresherSize iM_scale iM_night rM_heardRow rM_cutRow iM_breaths iM_cutMany iM_allBreaths rM_trial rM_words iM_fewestBreaths iM_orderMany iM_orderSum iM_leastOrder rM_often iM_setMany iM_someOf iM_allOf iM_allWeight iM_enoughWeight iM_worthSum iM_firstRest iM_leastDrawn), (arI rM_tape kM_tape 900 fM_tape), (arI rM_letters kM_letters 8 fM_letters)]) hD hS hA [0, 1, 2] rfl
  refine va_callv (va_runV (As := [.ref sA]) (rest := []) ⟨hx, hb, hml, hown, hts⟩ (tX7_must l dC dI _ oM iM_thrown rM_tape fM_tape kM_tape iM_taped iM_size iM_at iM_end iM_token iM_whole iM_nameSize iM_fault iM_place iM_trouble rM_letters fM_letters kM_letters iM_failed iM_hasCourt rM_r rM_fresh rM_told rM_read rM_st rM_undone rM_kept iM_undos iM_images rM_fresher iM_fresherSize iM_scale iM_night rM_heardRow rM_cutRow iM_breaths iM_cutMany iM_allBreaths rM_trial rM_words iM_fewestBreaths iM_orderMany iM_orderSum iM_leastOrder rM_often iM_setMany iM_someOf iM_allOf iM_allWeight iM_enoughWeight iM_worthSum iM_firstRest iM_leastDrawn sA sV sN sF (by first | omega | decide) (by first | omega | decide) (by first | omega | decide) (by first | omega | decide) (by first | omega | decide) (by first | omega | decide) (by first | omega | decide) (by first | omega | decide) (by first | omega | decide) (by first | omega | decide) (by first | omega | decide) (by first | assumption | exact (fun h9 => by have q0 := kc_0; have q1 := kc_1; omega)) (by first | omega | decide | assumption | (have q0 := kc_0; have q1 := kc_1; omega) | (intro h; exact absurd h (by decide)))) (cwV 1 hts (wd_V wd_438 wd_439 wd_440 wd_5 (wd_c wd_441)) rfl rfl rfl (by decide +kernel) ⟨Nat.le_of_ble_eq_true rfl, Nat.le_of_ble_eq_true rfl⟩) ⟨Pq.fb, va_recv hK hP (ci := 7) (q0 := 0) rfl rfl, fun U hU hW => Pq.to (hP.sub [0, 1, 2] rfl) (hD.sub [0, 1, 2] (by decide) rfl) (hK.sub [0, 1] rfl) hSw hE hS hFc hU hW⟩ rfl rfl hl.1 rfl (lv_room (Nat.le_of_ble_eq_true rfl)) dX7_after_2 ⟨Nat.le_of_ble_eq_true rfl, Nat.le_of_ble_eq_true rfl⟩) hS (fun q _ h => hFc q h) hFc (fun u t H locs ht hvm hw hB hz1 hk1 hS => ?_)
  obtain ⟨x_5347, x_5348, x_5349, x_5350, x_5351, x_5352, x_5353, x_5354, f_5355, b_x_5348, b_x_5351, b_x_5354, e_x_5347_0, e_x_5347_1, e_x_5347_2, e_x_5347_3, e_x_5347_4, hB⟩ := hB
  obtain ⟨hP, hD, hK⟩ := Bw.go (ws' := [(oc7 oM iM_thrown rM_tape iM_taped iM_size x_5347 x_5348 x_5349 x_5350 x_5351 x_5352 x_5353 iM_trouble rM_letters x_5354 iM_hasCourt rM_r rM_fresh rM_told rM_read rM_st rM_undone rM_kept iM_undos iM_images rM_fresher iM_fresherSize iM_scale iM_night rM_heardRow rM_cutRow iM_breaths iM_cutMany iM_allBreaths rM_trial rM_words iM_fewestBreaths iM_orderMany iM_orderSum iM_leastOrder rM_often iM_setMany iM_someOf iM_allOf iM_allWeight iM_enoughWeight iM_worthSum iM_firstRest iM_leastDrawn), (arI rM_tape kM_tape 900 fM_tape), (arI rM_letters kM_letters 8 f_5355)]) (tys' := [(kM_tape, .int), (kM_letters, .int)]) hB rfl ht hvm hP hD hK [0, 1, 2] [] rfl (by decide) (by decide) [] hk1 hFc rfl rfl rfl
  clear hz1 hk1 hvm ht hB
  have hG := hG.trans (un9_eq e_x_5347_4)
  clear r_T
  refine lv_aload_n hx hb dX7_after_5 rfl (lv_at hl 0 rfl) ?_
  refine lv_iload_n hx hb dX7_after_6 rfl (lv_at hl 2 rfl) ?_
  refine lv_iload_n hx hb dX7_after_7 rfl (lv_at hl 3 rfl) ?_
  have hFc := va_free (wc := [(oc7 oM iM_thrown rM_tape iM_taped iM_size x_5347 x_5348 x_5349 x_5350 x_5351 x_5352 x_5353 iM_trouble rM_letters x_5354 iM_hasCourt rM_r rM_fresh rM_told rM_read rM_st rM_undone rM_kept iM_undos iM_images rM_fresher iM_fresherSize iM_scale iM_night rM_heardRow rM_cutRow iM_breaths iM_cutMany iM_allBreaths rM_trial rM_words iM_fewestBreaths iM_orderMany iM_orderSum iM_leastOrder rM_often iM_setMany iM_someOf iM_allOf iM_allWeight iM_enoughWeight iM_worthSum iM_firstRest iM_leastDrawn), (arI rM_tape kM_tape 900 fM_tape), (arI rM_letters kM_letters 8 f_5355)]) hD hS hA [0, 1, 2] rfl
  refine va_calli (va_runV (As := [.int p0, .int p1]) (rest := []) ⟨hx, hb, hml, hown, hts⟩ (tX7_number l dC dI _ oM iM_thrown rM_tape fM_tape kM_tape iM_taped iM_size x_5347 x_5348 x_5349 x_5350 x_5351 x_5352 x_5353 iM_trouble rM_letters f_5355 kM_letters x_5354 iM_hasCourt rM_r rM_fresh rM_told rM_read rM_st rM_undone rM_kept iM_undos iM_images rM_fresher iM_fresherSize iM_scale iM_night rM_heardRow rM_cutRow iM_breaths iM_cutMany iM_allBreaths rM_trial rM_words iM_fewestBreaths iM_orderMany iM_orderSum iM_leastOrder rM_often iM_setMany iM_someOf iM_allOf iM_allWeight iM_enoughWeight iM_worthSum iM_firstRest iM_leastDrawn p0 p1 (by first | omega | decide) (by first | omega | decide) (by first | exact b_x_5348 | omega | decide) (by first | exact b_x_5351 | omega | decide) (by first | exact b_x_5354 | omega | decide) (by first | omega | decide) (by first | omega | decide) (by first | omega | decide) (by first | omega | decide) (by first | omega | decide) (by first | omega | decide) (by first | assumption | exact (fun h9 => by have q0 := kc_0; have q1 := kc_1; omega)) (by first | omega | decide | assumption | (have q0 := kc_0; have q1 := kc_1; omega) | (intro h; exact absurd h (by decide)))) (cwV 2 hts (wd_V wd_446 wd_447 wd_448 wd_5 (wd_c wd_449)) rfl rfl rfl (by decide +kernel) ⟨Nat.le_of_ble_eq_true rfl, Nat.le_of_ble_eq_true rfl⟩) ⟨Pw.fb, va_recv hK hP (ci := 7) (q0 := 0) rfl rfl, fun U hU hW => Pw.to (hP.sub [0, 1, 2] rfl) (hD.sub [0, 1, 2] (by decide) rfl) (hK.sub [0, 1] rfl) hE hS hFc hU hW⟩ rfl rfl hl.1 rfl (lv_room (Nat.le_of_ble_eq_true rfl)) dX7_after_8 ⟨Nat.le_of_ble_eq_true rfl, Nat.le_of_ble_eq_true rfl⟩) hS (fun q _ h => hFc q h) hFc (fun r u t H locs ht hvm hw hB hz1 hk1 hS => ?_)
  have hru9 := hw.2
  have hw := hw.1
  obtain ⟨x_5356, x_5357, x_5358, x_5359, x_5360, x_5361, x_5362, x_5363, f_5364, b_x_5357, b_x_5360, b_x_5363, e_x_5356_0, e_x_5356_1, e_x_5356_2, e_x_5356_3, e_x_5356_4, hB⟩ := hB
  obtain ⟨hP, hD, hK⟩ := Bw.go (ws' := [(oc7 oM iM_thrown rM_tape iM_taped iM_size x_5356 x_5357 x_5358 x_5359 x_5360 x_5361 x_5362 iM_trouble rM_letters x_5363 iM_hasCourt rM_r rM_fresh rM_told rM_read rM_st rM_undone rM_kept iM_undos iM_images rM_fresher iM_fresherSize iM_scale iM_night rM_heardRow rM_cutRow iM_breaths iM_cutMany iM_allBreaths rM_trial rM_words iM_fewestBreaths iM_orderMany iM_orderSum iM_leastOrder rM_often iM_setMany iM_someOf iM_allOf iM_allWeight iM_enoughWeight iM_worthSum iM_firstRest iM_leastDrawn), (arI rM_tape kM_tape 900 fM_tape), (arI rM_letters kM_letters 8 f_5364)]) (tys' := [(kM_tape, .int), (kM_letters, .int)]) hB rfl ht hvm hP hD hK [0, 1, 2] [] rfl (by decide) (by decide) [] hk1 hFc rfl rfl rfl
  clear hz1 hk1 hvm ht hB
  rw [← hru9] at e_x_5356_4
  obtain ⟨x_5365, rfl⟩ : ∃ z, z = r := ⟨_, rfl⟩
  have hG := hG.trans (un10_eq e_x_5356_4)
  have lx_5365 := hw.2
  clear e_x_5347_1
  clear e_x_5347_3
  exact W.iret hx hb hr (fun t ht hW => ⟨⟨_, (cI x_5365), rfl, ⟨⟨trivial, (by first | omega | assumption)⟩, (cI_of x_5365)⟩, ⟨x_5356, x_5357, x_5358, x_5359, x_5360, x_5361, x_5362, x_5363, f_5364, b_x_5357, b_x_5360, b_x_5363, (by first | assumption | (have q0 := kc_0; have q1 := kc_1; omega)), e_x_5356_1, (by first | assumption | (have q0 := kc_0; have q1 := kc_1; omega)), (fun h9 => by have q0 := kc_0; have q1 := kc_1; have q9 := e_x_5356_3 (by omega); omega), (cI_tup hG), Bw.to (hP.sub [0, 1, 2] rfl) (hD.sub [0, 1, 2] (by decide) rfl) (hK.sub [0, 1] rfl) ht hW⟩⟩, hS.F ht⟩) hS.2.2 dX7_after_11
set_option maxHeartbeats 4000000 in
set_option maxRecDepth 100000 in
theorem tX7_begins (l : Launch) (dC : Nat → ClassId) (dI : Nat → Nat → Nat) (sz : Nat) (oM : Nat) (iM_thrown : Int32) (rM_tape : Nat) (fM_tape : Nat → Int32) (kM_tape : ClassId) (iM_taped : Int32) (iM_size : Int32) (iM_at : Int32) (iM_end : Int32) (iM_token : Int32) (iM_whole : Int32) (iM_nameSize : Int32) (iM_fault : Int32) (iM_place : Int32) (iM_trouble : Int32) (rM_letters : Nat) (fM_letters : Nat → Int32) (kM_letters : ClassId) (iM_failed : Int32) (iM_hasCourt : Int32) (rM_r : Nat) (rM_fresh : Nat) (fM_fresh : Nat → Int32) (kM_fresh : ClassId) (rM_told : Nat) (rM_read : Nat) (fM_read : Nat → Int32) (kM_read : ClassId) (rM_st : Nat) (rM_undone : Nat) (rM_kept : Nat) (iM_undos : Int32) (iM_images : Int32) (rM_fresher : Nat) (iM_fresherSize : Int32) (iM_scale : Int32) (iM_night : Int32) (rM_heardRow : Nat) (rM_cutRow : Nat) (iM_breaths : Int32) (iM_cutMany : Int32) (iM_allBreaths : Int32) (rM_trial : Nat) (rM_words : Nat) (iM_fewestBreaths : Int32) (iM_orderMany : Int32) (iM_orderSum : Int32) (iM_leastOrder : Int32) (rM_often : Nat) (iM_setMany : Int32) (iM_someOf : Int32) (iM_allOf : Int32) (iM_allWeight : Int64) (iM_enoughWeight : Int64) (iM_worthSum : Int64) (iM_firstRest : Int32) (iM_leastDrawn : Int32) (sA : Nat) (p0 : Int32) (sV : Nat) (sN : Nat) (sF : Nat → Int32) (b_iM_taped : 0 ≤ iM_taped.toInt ∧ iM_taped.toInt ≤ 900) (b_iM_size : 0 ≤ iM_size.toInt ∧ iM_size.toInt ≤ 900) (b_iM_end : 0 ≤ iM_end.toInt ∧ iM_end.toInt ≤ 900) (b_iM_nameSize : 0 ≤ iM_nameSize.toInt ∧ iM_nameSize.toInt ≤ 900) (b_iM_failed : 0 ≤ iM_failed.toInt ∧ iM_failed.toInt ≤ 1) (b_iM_hasCourt : 0 ≤ iM_hasCourt.toInt ∧ iM_hasCourt.toInt ≤ 1) (b_iM_undos : 0 ≤ iM_undos.toInt ∧ iM_undos.toInt ≤ 16) (b_iM_images : 0 ≤ iM_images.toInt ∧ iM_images.toInt ≤ 3) (b_iM_scale : 1 ≤ iM_scale.toInt ∧ iM_scale.toInt ≤ 1296) (b_iM_breaths : 0 ≤ iM_breaths.toInt ∧ iM_breaths.toInt ≤ 399) (b_iM_cutMany : 0 ≤ iM_cutMany.toInt ∧ iM_cutMany.toInt ≤ 399) (r_T : ImpP (iM_token.toInt = 2) (iM_nameSize.toInt ≤ 8)) (r_P : POk fM_fresh fM_read) (hsn : sN ≤ 8) (hp0 : 0 ≤ p0.toInt ∧ p0.toInt ≤ 1) : Met l yX7_begins (Cond.code yX7_begins cX7_begins 3 (some .boolean) :: wG) ({ frames := 5, cells := 0, slots := 0, locals := 134 }) (va_Pc [.ref oM, .ref sA, .int p0] (Pq dC dI sz [(oc7 oM iM_thrown rM_tape iM_taped iM_size iM_at iM_end iM_token iM_whole iM_nameSize iM_fault iM_place iM_trouble rM_letters iM_failed iM_hasCourt rM_r rM_fresh rM_told rM_read rM_st rM_undone rM_kept iM_undos iM_images rM_fresher iM_fresherSize iM_scale iM_night rM_heardRow rM_cutRow iM_breaths iM_cutMany iM_allBreaths rM_trial rM_words iM_fewestBreaths iM_orderMany iM_orderSum iM_leastOrder rM_often iM_setMany iM_someOf iM_allOf iM_allWeight iM_enoughWeight iM_worthSum iM_firstRest iM_leastDrawn), (arI rM_tape kM_tape 900 fM_tape), (arI rM_letters kM_letters 8 fM_letters), (arI rM_fresh kM_fresh 287 fM_fresh), (arI rM_read kM_read 90 fM_read)] [(kM_tape, .int), (kM_letters, .int), (kM_fresh, .int), (kM_read, .int)] sA sV sN sF)) (va_Qi (fun (r : Int32) (u : Nat) => ((r = 0 ∨ r = 1) ∧ (r.toInt = (u : Int))) ∧ r = Int32.ofNat u) (fun (u : Nat) (t : State) => ∃ (niM_at : Int32) (niM_end : Int32) (niM_token : Int32) (niM_whole : Int32) (niM_nameSize : Int32) (niM_fault : Int32) (niM_place : Int32) (niM_failed : Int32) (nfM_letters : Nat → Int32), (0 ≤ niM_end.toInt ∧ niM_end.toInt ≤ 900) ∧ (0 ≤ niM_nameSize.toInt ∧ niM_nameSize.toInt ≤ 900) ∧ (0 ≤ niM_failed.toInt ∧ niM_failed.toInt ≤ 1) ∧ (iM_end.toInt ≤ niM_end.toInt) ∧ (ImpP (niM_token.toInt = 2) (niM_nameSize.toInt ≤ 8)) ∧ (iM_failed.toInt ≤ niM_failed.toInt) ∧ (ImpP ((u : Int) = 1) (iM_token.toInt = 2 ∧ (1 ≤ p0.toInt ∨ 1 ≤ niM_failed.toInt))) ∧ (ImpP ((u : Int) = 1 ∧ niM_failed.toInt ≤ 0 ∧ niM_token.toInt = 59 ) (iM_end.toInt + 1 ≤ niM_end.toInt)) ∧ (PX7_begins fM_tape iM_size iM_at iM_end iM_token iM_whole iM_nameSize iM_fault iM_place fM_letters iM_failed fM_fresh p0 sN sF = (Int32.ofNat u, niM_at, niM_end, niM_token, niM_whole, niM_nameSize, niM_fault, niM_place, niM_failed, nfM_letters)) ∧ Bw dC dI (va_A [(oc7 oM iM_thrown rM_tape iM_taped iM_size iM_at iM_end iM_token iM_whole iM_nameSize iM_fault iM_place iM_trouble rM_letters iM_failed iM_hasCourt rM_r rM_fresh rM_told rM_read rM_st rM_undone rM_kept iM_undos iM_images rM_fresher iM_fresherSize iM_scale iM_night rM_heardRow rM_cutRow iM_breaths iM_cutMany iM_allBreaths rM_trial rM_words iM_fewestBreaths iM_orderMany iM_orderSum iM_leastOrder rM_often iM_setMany iM_someOf iM_allOf iM_allWeight iM_enoughWeight iM_worthSum iM_firstRest iM_leastDrawn), (arI rM_tape kM_tape 900 fM_tape), (arI rM_letters kM_letters 8 fM_letters), (arI rM_fresh kM_fresh 287 fM_fresh), (arI rM_read kM_read 90 fM_read)] sz) [(oc7 oM iM_thrown rM_tape iM_taped iM_size niM_at niM_end niM_token niM_whole niM_nameSize niM_fault niM_place iM_trouble rM_letters niM_failed iM_hasCourt rM_r rM_fresh rM_told rM_read rM_st rM_undone rM_kept iM_undos iM_images rM_fresher iM_fresherSize iM_scale iM_night rM_heardRow rM_cutRow iM_breaths iM_cutMany iM_allBreaths rM_trial rM_words iM_fewestBreaths iM_orderMany iM_orderSum iM_leastOrder rM_often iM_setMany iM_someOf iM_allOf iM_allWeight iM_enoughWeight iM_worthSum iM_firstRest iM_leastDrawn), (arI rM_tape kM_tape 900 fM_tape), (arI rM_letters kM_letters 8 nfM_letters), (arI rM_fresh kM_fresh 287 fM_fresh), (arI rM_read kM_read 90 fM_read)] [(kM_tape, .int), (kM_letters, .int), (kM_fresh, .int), (kM_read, .int)] t) (va_A [(oc7 oM iM_thrown rM_tape iM_taped iM_size iM_at iM_end iM_token iM_whole iM_nameSize iM_fault iM_place iM_trouble rM_letters iM_failed iM_hasCourt rM_r rM_fresh rM_told rM_read rM_st rM_undone rM_kept iM_undos iM_images rM_fresher iM_fresherSize iM_scale iM_night rM_heardRow rM_cutRow iM_breaths iM_cutMany iM_allBreaths rM_trial rM_words iM_fewestBreaths iM_orderMany iM_orderSum iM_leastOrder rM_often iM_setMany iM_someOf iM_allOf iM_allWeight iM_enoughWeight iM_worthSum iM_firstRest iM_leastDrawn), (arI rM_tape kM_tape 900 fM_tape), (arI rM_letters kM_letters 8 fM_letters), (arI rM_fresh kM_fresh 287 fM_fresh), (arI rM_read kM_read 90 fM_read)] sz)) 0 0 (va_A [(oc7 oM iM_thrown rM_tape iM_taped iM_size iM_at iM_end iM_token iM_whole iM_nameSize iM_fault iM_place iM_trouble rM_letters iM_failed iM_hasCourt rM_r rM_fresh rM_told rM_read rM_st rM_undone rM_kept iM_undos iM_images rM_fresher iM_fresherSize iM_scale iM_night rM_heardRow rM_cutRow iM_breaths iM_cutMany iM_allBreaths rM_trial rM_words iM_fewestBreaths iM_orderMany iM_orderSum iM_leastOrder rM_often iM_setMany iM_someOf iM_allOf iM_allWeight iM_enoughWeight iM_worthSum iM_firstRest iM_leastDrawn), (arI rM_tape kM_tape 900 fM_tape), (arI rM_letters kM_letters 8 fM_letters), (arI rM_fresh kM_fresh 287 fM_fresh), (arI rM_read kM_read 90 fM_read)] sz) := by
  refine Met.ofW (cc := cX7_begins) (maxL := 3) (ret := (some .boolean)) (by decide) rfl ?_
  intro p e s m args below meth c s₁ B hml hv
  obtain ⟨rfl, ⟨hsz, hP, hK, hD0, hE⟩, hSw⟩ := hv
  have hx := B.exec
  have hb := B.bytes
  have hr := B.returns
  have hts : ∀ w ∈ wG, w.before ([.ref oM, .ref sA, .int p0] : List Value).toArray s = true := fun w h => atoms_spec (ws := Cond.code yX7_begins cX7_begins 3 (some .boolean) :: wG) B.pre w (List.mem_cons_of_mem _ h)
  have hown : s.vm.findClass RX7 = some m.cls := findClass_of_methodNamed B.named
  have hlocks := B.notSynchronized
  subst hsz
  have hD := hD0.self (sz := s.heap.size)
  generalize hAe : va_A [(oc7 oM iM_thrown rM_tape iM_taped iM_size iM_at iM_end iM_token iM_whole iM_nameSize iM_fault iM_place iM_trouble rM_letters iM_failed iM_hasCourt rM_r rM_fresh rM_told rM_read rM_st rM_undone rM_kept iM_undos iM_images rM_fresher iM_fresherSize iM_scale iM_night rM_heardRow rM_cutRow iM_breaths iM_cutMany iM_allBreaths rM_trial rM_words iM_fewestBreaths iM_orderMany iM_orderSum iM_leastOrder rM_often iM_setMany iM_someOf iM_allOf iM_allWeight iM_enoughWeight iM_worthSum iM_firstRest iM_leastDrawn), (arI rM_tape kM_tape 900 fM_tape), (arI rM_letters kM_letters 8 fM_letters), (arI rM_fresh kM_fresh 287 fM_fresh), (arI rM_read kM_read 90 fM_read)] s.heap.size = A at hD hE hSw ⊢
  have hA : ∀ q : Nat, s.heap.size ≤ q → A q := fun q h => by rw [← hAe]; exact Or.inr h
  have hS : va_S A s.heap s.heap [] := va_S.rf
  have hl := lv_entry ([.ref oM, .ref sA, .int p0]) (n := 3) (Nat.le_of_ble_eq_true rfl)
  rw [lg_entry_eq]
  generalize (lg_sl ([.ref oM, .ref sA, .int p0]) ++ List.replicate (3 - (lg_sl ([.ref oM, .ref sA, .int p0])).length) Slot.unset).toArray = ls at hl ⊢
  have hl : lv_has ls 3 [(0, .ref oM), (1, .ref sA), (2, .int p0)] := hl
  have hG := PX7_begins_eq fM_tape iM_size iM_at iM_end iM_token iM_whole iM_nameSize iM_fault iM_place fM_letters iM_failed fM_fresh p0 sN sF
  have pl_fM_fresh := r_P.lins
  refine lv_aload_n hx hb dX7_begins_0 rfl (lv_at hl 0 rfl) ?_
  refine lv_aload_n hx hb dX7_begins_1 rfl (lv_at hl 1 rfl) ?_
  have hFc := va_free (wc := [(oc7 oM iM_thrown rM_tape iM_taped iM_size iM_at iM_end iM_token iM_whole iM_nameSize iM_fault iM_place iM_trouble rM_letters iM_failed iM_hasCourt rM_r rM_fresh rM_told rM_read rM_st rM_undone rM_kept iM_undos iM_images rM_fresher iM_fresherSize iM_scale iM_night rM_heardRow rM_cutRow iM_breaths iM_cutMany iM_allBreaths rM_trial rM_words iM_fewestBreaths iM_orderMany iM_orderSum iM_leastOrder rM_often iM_setMany iM_someOf iM_allOf iM_allWeight iM_enoughWeight iM_worthSum iM_firstRest iM_leastDrawn), (arI rM_letters kM_letters 8 fM_letters)]) hD hS hA [0, 2] rfl
  refine va_calli (va_runV (As := [.ref sA]) (rest := []) ⟨hx, hb, hml, hown, hts⟩ (tX7_isWord l dC dI _ oM iM_thrown rM_tape iM_taped iM_size iM_at iM_end iM_token iM_whole iM_nameSize iM_fault iM_place iM_trouble rM_letters fM_letters kM_letters iM_failed iM_hasCourt rM_r rM_fresh rM_told rM_read rM_st rM_undone rM_kept iM_undos iM_images rM_fresher iM_fresherSize iM_scale iM_night rM_heardRow rM_cutRow iM_breaths iM_cutMany iM_allBreaths rM_trial rM_words iM_fewestBreaths iM_orderMany iM_orderSum iM_leastOrder rM_often iM_setMany iM_someOf iM_allOf iM_allWeight iM_enoughWeight iM_worthSum iM_firstRest iM_leastDrawn sA sV sN sF (by first | omega | decide) (by first | omega | decide) (by first | omega | decide) (by first | omega | decide) (by first | omega | decide) (by first | omega | decide) (by first | omega | decide) (by first | omega | decide) (by first | omega | decide) (by first | omega | decide) (by first | omega | decide) (by first | assumption | exact (fun h9 => by have q0 := kc_0; have q1 := kc_1; omega)) (by first | omega | decide | assumption | (have q0 := kc_0; have q1 := kc_1; omega) | (intro h; exact absurd h (by decide)))) (cwV 1 hts (wd_V wd_420 wd_421 wd_422 wd_5 (wd_c wd_423)) rfl rfl rfl (by decide +kernel) ⟨Nat.le_of_ble_eq_true rfl, Nat.le_of_ble_eq_true rfl⟩) ⟨Pq.fb, va_recv hK hP (ci := 7) (q0 := 0) rfl rfl, fun U hU hW => Pq.to (hP.sub [0, 2] rfl) (hD.sub [0, 2] (by decide) rfl) (hK.sub [1] rfl) hSw hE hS hFc hU hW⟩ rfl rfl hl.1 rfl (lv_room (Nat.le_of_ble_eq_true rfl)) dX7_begins_2 ⟨Nat.le_of_ble_eq_true rfl, Nat.le_of_ble_eq_true rfl⟩) hS (fun q _ h => hFc q h) hFc (fun r u t H locs ht hvm hw hB hz1 hk1 hS => ?_)
  have hru9 := hw.2
  have hw := hw.1
  obtain ⟨hP, hD, hK⟩ := Bw.go (ws' := [(arI rM_tape kM_tape 900 fM_tape), (arI rM_fresh kM_fresh 287 fM_fresh), (arI rM_read kM_read 90 fM_read), (oc7 oM iM_thrown rM_tape iM_taped iM_size iM_at iM_end iM_token iM_whole iM_nameSize iM_fault iM_place iM_trouble rM_letters iM_failed iM_hasCourt rM_r rM_fresh rM_told rM_read rM_st rM_undone rM_kept iM_undos iM_images rM_fresher iM_fresherSize iM_scale iM_night rM_heardRow rM_cutRow iM_breaths iM_cutMany iM_allBreaths rM_trial rM_words iM_fewestBreaths iM_orderMany iM_orderSum iM_leastOrder rM_often iM_setMany iM_someOf iM_allOf iM_allWeight iM_enoughWeight iM_worthSum iM_firstRest iM_leastDrawn), (arI rM_letters kM_letters 8 fM_letters)]) (tys' := [(kM_tape, .int), (kM_fresh, .int), (kM_read, .int), (kM_letters, .int)]) hB rfl ht hvm hP hD hK [0, 2] [1, 3, 4] rfl (by decide) (by decide) [0, 2, 3] hk1 hFc rfl rfl rfl
  clear hz1 hk1 hvm ht hB
  obtain ⟨x_5408, rfl⟩ : ∃ z, z = r := ⟨_, rfl⟩
  have hG := hG.trans (lt_eq hru9.symm)
  have bx_5408 := hw.1
  have dx_5408 := bz_ti bx_5408
  have lx_5408 := hw.2
  refine lv_if_ne (tgt := 10) hx hb dX7_begins_5 (by decide) (fun c_5409 => ?_) (fun c_5409 => ?_)
  · skip
    have hG := hG.trans (if_neg c_5409)
    have gc_5409 := ti_ne c_5409 rfl kc_0
    replace gc_5409 : (-1) * x_5408.toInt + 1 ≤ 0 := by omega
    have h_5410 := lx_5408 (by omega)
    clear lx_5408
    have h_5411 := r_T (by omega)
    clear r_T
    refine lv_iload_n hx hb dX7_begins_10 rfl (lv_at hl 2 rfl) ?_
    refine lv_if_ne (tgt := 23) hx hb dX7_begins_11 (by decide) (fun c_5412 => ?_) (fun c_5412 => ?_)
    · skip
      have hG := hG.trans (if_neg c_5412)
      have gc_5412 := ti_ne c_5412 rfl kc_0
      replace gc_5412 : (-1) * p0.toInt + 1 ≤ 0 := by omega
      refine lv_aload_n hx hb dX7_begins_23 rfl (lv_at hl 0 rfl) ?_
      refine va_get (D := (dC, dI)) (ci := 7) (v := .ref rM_fresh) (C := RX7) (T := TX7) (N := 48) hx hb hts inX7 hown hK hP 3 rfl rfl 16 (by decide) (hts _ wd_156) (fun _ h9 => h9) rfl dX7_begins_24 ?_
      refine lv_iconst (v := 5) hx hb dX7_begins_27 (by decide) ?_
      refine va_iald hx hb hK hP 1 1 rfl rfl (by unfold vp_in; decide) dX7_begins_28 ?_
      refine lv_topi (fun x_5413 ex_5413 => ?_)
      have hG := hG.trans (lt_eq ex_5413)
      have cx_5413 : (fM_fresh 5).toInt = x_5413.toInt := congrArg Int32.toInt (show fM_fresh 5 = x_5413 from ex_5413.symm)
      refine lv_if_ne (tgt := 42) hx hb dX7_begins_29 (by decide) (fun c_5414 => ?_) (fun c_5414 => ?_)
      · skip
        have hG := hG.trans (if_neg c_5414)
        have gc_5414 := ti_ne c_5414 rfl kc_0
        refine lv_aload_n hx hb dX7_begins_42 rfl (lv_at hl 0 rfl) ?_
        have hFc := va_free (wc := [(oc7 oM iM_thrown rM_tape iM_taped iM_size iM_at iM_end iM_token iM_whole iM_nameSize iM_fault iM_place iM_trouble rM_letters iM_failed iM_hasCourt rM_r rM_fresh rM_told rM_read rM_st rM_undone rM_kept iM_undos iM_images rM_fresher iM_fresherSize iM_scale iM_night rM_heardRow rM_cutRow iM_breaths iM_cutMany iM_allBreaths rM_trial rM_words iM_fewestBreaths iM_orderMany iM_orderSum iM_leastOrder rM_often iM_setMany iM_someOf iM_allOf iM_allWeight iM_enoughWeight iM_worthSum iM_firstRest iM_leastDrawn), (arI rM_tape kM_tape 900 fM_tape), (arI rM_letters kM_letters 8 fM_letters)]) hD hS hA [3, 0, 4] rfl
        refine va_callv (va_runV (As := []) (rest := []) ⟨hx, hb, hml, hown, hts⟩ (tX7_pass l dC dI _ oM iM_thrown rM_tape fM_tape kM_tape iM_taped iM_size iM_at iM_end iM_token iM_whole iM_nameSize iM_fault iM_place iM_trouble rM_letters fM_letters kM_letters iM_failed iM_hasCourt rM_r rM_fresh rM_told rM_read rM_st rM_undone rM_kept iM_undos iM_images rM_fresher iM_fresherSize iM_scale iM_night rM_heardRow rM_cutRow iM_breaths iM_cutMany iM_allBreaths rM_trial rM_words iM_fewestBreaths iM_orderMany iM_orderSum iM_leastOrder rM_often iM_setMany iM_someOf iM_allOf iM_allWeight iM_enoughWeight iM_worthSum iM_firstRest iM_leastDrawn (by first | omega | decide) (by first | omega | decide) (by first | omega | decide) (by first | omega | decide) (by first | omega | decide) (by first | omega | decide) (by first | omega | decide) (by first | omega | decide) (by first | omega | decide) (by first | omega | decide) (by first | omega | decide) (by first | assumption | exact (fun h9 => by have q0 := kc_0; have q1 := kc_1; omega))) (cwV 0 hts (wd_V wd_454 wd_455 wd_456 wd_5 (wd_c wd_457)) rfl rfl rfl (by decide +kernel) ⟨Nat.le_of_ble_eq_true rfl, Nat.le_of_ble_eq_true rfl⟩) ⟨Pw.fb, va_recv hK hP (ci := 7) (q0 := 3) rfl rfl, fun U hU hW => Pw.to (hP.sub [3, 0, 4] rfl) (hD.sub [3, 0, 4] (by decide) rfl) (hK.sub [0, 3] rfl) hE hS hFc hU hW⟩ rfl rfl hl.1 rfl (lv_room (Nat.le_of_ble_eq_true rfl)) dX7_begins_43 ⟨Nat.le_of_ble_eq_true rfl, Nat.le_of_ble_eq_true rfl⟩) hS (fun q _ h => hFc q h) hFc (fun u t H locs ht hvm hw hB hz1 hk1 hS => ?_)
        obtain ⟨x_5415, x_5416, x_5417, x_5418, x_5419, f_5420, b_x_5416, b_x_5419, e_x_5415_0, e_x_5415_1, e_x_5415_2, e_x_5415_3, hB⟩ := hB
        obtain ⟨hP, hD, hK⟩ := Bw.go (ws' := [(arI rM_fresh kM_fresh 287 fM_fresh), (arI rM_read kM_read 90 fM_read), (oc7 oM iM_thrown rM_tape iM_taped iM_size x_5415 x_5416 x_5417 x_5418 x_5419 iM_fault iM_place iM_trouble rM_letters iM_failed iM_hasCourt rM_r rM_fresh rM_told rM_read rM_st rM_undone rM_kept iM_undos iM_images rM_fresher iM_fresherSize iM_scale iM_night rM_heardRow rM_cutRow iM_breaths iM_cutMany iM_allBreaths rM_trial rM_words iM_fewestBreaths iM_orderMany iM_orderSum iM_leastOrder rM_often iM_setMany iM_someOf iM_allOf iM_allWeight iM_enoughWeight iM_worthSum iM_firstRest iM_leastDrawn), (arI rM_tape kM_tape 900 fM_tape), (arI rM_letters kM_letters 8 f_5420)]) (tys' := [(kM_fresh, .int), (kM_read, .int), (kM_tape, .int), (kM_letters, .int)]) hB rfl ht hvm hP hD hK [3, 0, 4] [1, 2] rfl (by decide) (by decide) [1, 2] hk1 hFc rfl rfl rfl
        clear hz1 hk1 hvm ht hB
        have hG := hG.trans (un6_eq e_x_5415_3)
        refine lv_iconst (v := 1) hx hb dX7_begins_46 (by decide) ?_
        exact W.zret (v := 1) hx hb hr rfl (fun t ht hW => ⟨⟨_, 1, rfl, ⟨⟨Or.inr rfl, (by decide)⟩, (by decide)⟩, ⟨x_5415, x_5416, x_5417, x_5418, x_5419, iM_fault, iM_place, iM_failed, f_5420, b_x_5416, b_x_5419, (by omega), (by first | assumption | (have q0 := kc_0; have q1 := kc_1; omega)), e_x_5415_1, (by first | assumption | (have q0 := kc_0; have q1 := kc_1; omega)), (by first | assumption | exact (fun h9 => by have q0 := kc_0; have q1 := kc_1; omega)), (fun h9 => by have q0 := kc_0; have q1 := kc_1; have q9 := e_x_5415_2 (by omega); omega), hG, Bw.to (hP.sub [2, 3, 4, 0, 1] rfl) (hD.sub [2, 3, 4, 0, 1] (by decide) rfl) (hK.sub [2, 3, 0, 1] rfl) ht hW⟩⟩, hS.F ht⟩) hS.2.2 dX7_begins_47
      · skip
        have hG := hG.trans (if_pos c_5414)
        have gc_5414 := ti_eq c_5414 rfl kc_0
        refine lv_aload_n hx hb dX7_begins_32 rfl (lv_at hl 0 rfl) ?_
        refine lv_bipush (v := 6) hx hb dX7_begins_33 (by decide) ?_
        refine lv_aload_n hx hb dX7_begins_35 rfl (lv_at hl 0 rfl) ?_
        refine va_get (D := (dC, dI)) (ci := 7) (v := .int iM_at) (C := RX7) (T := TX7) (N := 48) hx hb hts inX7 hown hK hP 3 rfl rfl 4 (by decide) (hts _ wd_384) (fun _ h9 => h9) rfl dX7_begins_36 ?_
        have hFc := va_free (wc := [(oc7 oM iM_thrown rM_tape iM_taped iM_size iM_at iM_end iM_token iM_whole iM_nameSize iM_fault iM_place iM_trouble rM_letters iM_failed iM_hasCourt rM_r rM_fresh rM_told rM_read rM_st rM_undone rM_kept iM_undos iM_images rM_fresher iM_fresherSize iM_scale iM_night rM_heardRow rM_cutRow iM_breaths iM_cutMany iM_allBreaths rM_trial rM_words iM_fewestBreaths iM_orderMany iM_orderSum iM_leastOrder rM_often iM_setMany iM_someOf iM_allOf iM_allWeight iM_enoughWeight iM_worthSum iM_firstRest iM_leastDrawn)]) hD hS hA [3] rfl
        refine va_callv (va_runV (As := [.int 6, .int iM_at]) (rest := []) ⟨hx, hb, hml, hown, hts⟩ (tX7_wrong l dC dI _ oM iM_thrown rM_tape iM_taped iM_size iM_at iM_end iM_token iM_whole iM_nameSize iM_fault iM_place iM_trouble rM_letters iM_failed iM_hasCourt rM_r rM_fresh rM_told rM_read rM_st rM_undone rM_kept iM_undos iM_images rM_fresher iM_fresherSize iM_scale iM_night rM_heardRow rM_cutRow iM_breaths iM_cutMany iM_allBreaths rM_trial rM_words iM_fewestBreaths iM_orderMany iM_orderSum iM_leastOrder rM_often iM_setMany iM_someOf iM_allOf iM_allWeight iM_enoughWeight iM_worthSum iM_firstRest iM_leastDrawn 6 iM_at (by first | omega | decide) (by first | omega | decide) (by first | omega | decide) (by first | omega | decide) (by first | omega | decide) (by first | omega | decide) (by first | omega | decide) (by first | omega | decide) (by first | omega | decide) (by first | omega | decide) (by first | omega | decide) (by first | assumption | exact (fun h9 => by have q0 := kc_0; have q1 := kc_1; omega))) (cwV 2 hts (wd_V wd_430 wd_431 wd_432 wd_5 (wd_c wd_433)) rfl rfl rfl (by decide +kernel) ⟨Nat.le_of_ble_eq_true rfl, Nat.le_of_ble_eq_true rfl⟩) ⟨Pw.fb, va_recv hK hP (ci := 7) (q0 := 3) rfl rfl, fun U hU hW => Pw.to (hP.sub [3] rfl) (hD.sub [3] (by decide) rfl) (hK.sub [] rfl) hE hS hFc hU hW⟩ rfl rfl hl.1 rfl (lv_room (Nat.le_of_ble_eq_true rfl)) dX7_begins_39 ⟨Nat.le_of_ble_eq_true rfl, Nat.le_of_ble_eq_true rfl⟩) hS (fun q _ h => hFc q h) hFc (fun u t H locs ht hvm hw hB hz1 hk1 hS => ?_)
        obtain ⟨x_5421, x_5422, x_5423, b_x_5423, e_x_5421_0, e_x_5421_1, hB⟩ := hB
        obtain ⟨hP, hD, hK⟩ := Bw.go (ws' := [(arI rM_tape kM_tape 900 fM_tape), (arI rM_fresh kM_fresh 287 fM_fresh), (arI rM_read kM_read 90 fM_read), (arI rM_letters kM_letters 8 fM_letters), (oc7 oM iM_thrown rM_tape iM_taped iM_size iM_at iM_end iM_token iM_whole iM_nameSize x_5421 x_5422 iM_trouble rM_letters x_5423 iM_hasCourt rM_r rM_fresh rM_told rM_read rM_st rM_undone rM_kept iM_undos iM_images rM_fresher iM_fresherSize iM_scale iM_night rM_heardRow rM_cutRow iM_breaths iM_cutMany iM_allBreaths rM_trial rM_words iM_fewestBreaths iM_orderMany iM_orderSum iM_leastOrder rM_often iM_setMany iM_someOf iM_allOf iM_allWeight iM_enoughWeight iM_worthSum iM_firstRest iM_leastDrawn)]) (tys' := [(kM_tape, .int), (kM_fresh, .int), (kM_read, .int), (kM_letters, .int)]) hB rfl ht hvm hP hD hK [3] [0, 1, 2, 4] rfl (by decide) (by decide) [0, 1, 2, 3] hk1 hFc rfl rfl rfl
        clear hz1 hk1 hvm ht hB
        have hG := hG.trans (un3_eq e_x_5421_1)
        refine lv_aload_n hx hb dX7_begins_42 rfl (lv_at hl 0 rfl) ?_
        have hFc := va_free (wc := [(oc7 oM iM_thrown rM_tape iM_taped iM_size iM_at iM_end iM_token iM_whole iM_nameSize x_5421 x_5422 iM_trouble rM_letters x_5423 iM_hasCourt rM_r rM_fresh rM_told rM_read rM_st rM_undone rM_kept iM_undos iM_images rM_fresher iM_fresherSize iM_scale iM_night rM_heardRow rM_cutRow iM_breaths iM_cutMany iM_allBreaths rM_trial rM_words iM_fewestBreaths iM_orderMany iM_orderSum iM_leastOrder rM_often iM_setMany iM_someOf iM_allOf iM_allWeight iM_enoughWeight iM_worthSum iM_firstRest iM_leastDrawn), (arI rM_tape kM_tape 900 fM_tape), (arI rM_letters kM_letters 8 fM_letters)]) hD hS hA [4, 0, 3] rfl
        refine va_callv (va_runV (As := []) (rest := []) ⟨hx, hb, hml, hown, hts⟩ (tX7_pass l dC dI _ oM iM_thrown rM_tape fM_tape kM_tape iM_taped iM_size iM_at iM_end iM_token iM_whole iM_nameSize x_5421 x_5422 iM_trouble rM_letters fM_letters kM_letters x_5423 iM_hasCourt rM_r rM_fresh rM_told rM_read rM_st rM_undone rM_kept iM_undos iM_images rM_fresher iM_fresherSize iM_scale iM_night rM_heardRow rM_cutRow iM_breaths iM_cutMany iM_allBreaths rM_trial rM_words iM_fewestBreaths iM_orderMany iM_orderSum iM_leastOrder rM_often iM_setMany iM_someOf iM_allOf iM_allWeight iM_enoughWeight iM_worthSum iM_firstRest iM_leastDrawn (by first | omega | decide) (by first | omega | decide) (by first | omega | decide) (by first | omega | decide) (by first | exact b_x_5423 | omega | decide) (by first | omega | decide) (by first | omega | decide) (by first | omega | decide) (by first | omega | decide) (by first | omega | decide) (by first | omega | decide) (by first | assumption | exact (fun h9 => by have q0 := kc_0; have q1 := kc_1; omega))) (cwV 0 hts (wd_V wd_454 wd_455 wd_456 wd_5 (wd_c wd_457)) rfl rfl rfl (by decide +kernel) ⟨Nat.le_of_ble_eq_true rfl, Nat.le_of_ble_eq_true rfl⟩) ⟨Pw.fb, va_recv hK hP (ci := 7) (q0 := 4) rfl rfl, fun U hU hW => Pw.to (hP.sub [4, 0, 3] rfl) (hD.sub [4, 0, 3] (by decide) rfl) (hK.sub [0, 3] rfl) hE hS hFc hU hW⟩ rfl rfl hl.1 rfl (lv_room (Nat.le_of_ble_eq_true rfl)) dX7_begins_43 ⟨Nat.le_of_ble_eq_true rfl, Nat.le_of_ble_eq_true rfl⟩) hS (fun q _ h => hFc q h) hFc (fun u t H locs ht hvm hw hB hz1 hk1 hS => ?_)
        obtain ⟨x_5424, x_5425, x_5426, x_5427, x_5428, f_5429, b_x_5425, b_x_5428, e_x_5424_0, e_x_5424_1, e_x_5424_2, e_x_5424_3, hB⟩ := hB
        obtain ⟨hP, hD, hK⟩ := Bw.go (ws' := [(arI rM_fresh kM_fresh 287 fM_fresh), (arI rM_read kM_read 90 fM_read), (oc7 oM iM_thrown rM_tape iM_taped iM_size x_5424 x_5425 x_5426 x_5427 x_5428 x_5421 x_5422 iM_trouble rM_letters x_5423 iM_hasCourt rM_r rM_fresh rM_told rM_read rM_st rM_undone rM_kept iM_undos iM_images rM_fresher iM_fresherSize iM_scale iM_night rM_heardRow rM_cutRow iM_breaths iM_cutMany iM_allBreaths rM_trial rM_words iM_fewestBreaths iM_orderMany iM_orderSum iM_leastOrder rM_often iM_setMany iM_someOf iM_allOf iM_allWeight iM_enoughWeight iM_worthSum iM_firstRest iM_leastDrawn), (arI rM_tape kM_tape 900 fM_tape), (arI rM_letters kM_letters 8 f_5429)]) (tys' := [(kM_fresh, .int), (kM_read, .int), (kM_tape, .int), (kM_letters, .int)]) hB rfl ht hvm hP hD hK [4, 0, 3] [1, 2] rfl (by decide) (by decide) [1, 2] hk1 hFc rfl rfl rfl
        clear hz1 hk1 hvm ht hB
        have hG := hG.trans (un6_eq e_x_5424_3)
        refine lv_iconst (v := 1) hx hb dX7_begins_46 (by decide) ?_
        exact W.zret (v := 1) hx hb hr rfl (fun t ht hW => ⟨⟨_, 1, rfl, ⟨⟨Or.inr rfl, (by decide)⟩, (by decide)⟩, ⟨x_5424, x_5425, x_5426, x_5427, x_5428, x_5421, x_5422, x_5423, f_5429, b_x_5425, b_x_5428, b_x_5423, (by first | assumption | (have q0 := kc_0; have q1 := kc_1; omega)), e_x_5424_1, (by first | assumption | (have q0 := kc_0; have q1 := kc_1; omega)), (by first | assumption | exact (fun h9 => by have q0 := kc_0; have q1 := kc_1; omega)), (fun h9 => by have q0 := kc_0; have q1 := kc_1; omega), hG, Bw.to (hP.sub [2, 3, 4, 0, 1] rfl) (hD.sub [2, 3, 4, 0, 1] (by decide) rfl) (hK.sub [2, 3, 0, 1] rfl) ht hW⟩⟩, hS.F ht⟩) hS.2.2 dX7_begins_47
    · skip
      have hG := hG.trans (if_pos c_5412)
      have gc_5412 := ti_eq c_5412 rfl kc_0
      refine lv_aload_n hx hb dX7_begins_14 rfl (lv_at hl 0 rfl) ?_
      refine lv_iconst (v := 5) hx hb dX7_begins_15 (by decide) ?_
      refine lv_aload_n hx hb dX7_begins_16 rfl (lv_at hl 0 rfl) ?_
      refine va_get (D := (dC, dI)) (ci := 7) (v := .int iM_at) (C := RX7) (T := TX7) (N := 48) hx hb hts inX7 hown hK hP 3 rfl rfl 4 (by decide) (hts _ wd_384) (fun _ h9 => h9) rfl dX7_begins_17 ?_
      have hFc := va_free (wc := [(oc7 oM iM_thrown rM_tape iM_taped iM_size iM_at iM_end iM_token iM_whole iM_nameSize iM_fault iM_place iM_trouble rM_letters iM_failed iM_hasCourt rM_r rM_fresh rM_told rM_read rM_st rM_undone rM_kept iM_undos iM_images rM_fresher iM_fresherSize iM_scale iM_night rM_heardRow rM_cutRow iM_breaths iM_cutMany iM_allBreaths rM_trial rM_words iM_fewestBreaths iM_orderMany iM_orderSum iM_leastOrder rM_often iM_setMany iM_someOf iM_allOf iM_allWeight iM_enoughWeight iM_worthSum iM_firstRest iM_leastDrawn)]) hD hS hA [3] rfl
      refine va_callv (va_runV (As := [.int 5, .int iM_at]) (rest := []) ⟨hx, hb, hml, hown, hts⟩ (tX7_wrong l dC dI _ oM iM_thrown rM_tape iM_taped iM_size iM_at iM_end iM_token iM_whole iM_nameSize iM_fault iM_place iM_trouble rM_letters iM_failed iM_hasCourt rM_r rM_fresh rM_told rM_read rM_st rM_undone rM_kept iM_undos iM_images rM_fresher iM_fresherSize iM_scale iM_night rM_heardRow rM_cutRow iM_breaths iM_cutMany iM_allBreaths rM_trial rM_words iM_fewestBreaths iM_orderMany iM_orderSum iM_leastOrder rM_often iM_setMany iM_someOf iM_allOf iM_allWeight iM_enoughWeight iM_worthSum iM_firstRest iM_leastDrawn 5 iM_at (by first | omega | decide) (by first | omega | decide) (by first | omega | decide) (by first | omega | decide) (by first | omega | decide) (by first | omega | decide) (by first | omega | decide) (by first | omega | decide) (by first | omega | decide) (by first | omega | decide) (by first | omega | decide) (by first | assumption | exact (fun h9 => by have q0 := kc_0; have q1 := kc_1; omega))) (cwV 2 hts (wd_V wd_430 wd_431 wd_432 wd_5 (wd_c wd_433)) rfl rfl rfl (by decide +kernel) ⟨Nat.le_of_ble_eq_true rfl, Nat.le_of_ble_eq_true rfl⟩) ⟨Pw.fb, va_recv hK hP (ci := 7) (q0 := 3) rfl rfl, fun U hU hW => Pw.to (hP.sub [3] rfl) (hD.sub [3] (by decide) rfl) (hK.sub [] rfl) hE hS hFc hU hW⟩ rfl rfl hl.1 rfl (lv_room (Nat.le_of_ble_eq_true rfl)) dX7_begins_20 ⟨Nat.le_of_ble_eq_true rfl, Nat.le_of_ble_eq_true rfl⟩) hS (fun q _ h => hFc q h) hFc (fun u t H locs ht hvm hw hB hz1 hk1 hS => ?_)
      obtain ⟨x_5430, x_5431, x_5432, b_x_5432, e_x_5430_0, e_x_5430_1, hB⟩ := hB
      obtain ⟨hP, hD, hK⟩ := Bw.go (ws' := [(arI rM_tape kM_tape 900 fM_tape), (arI rM_fresh kM_fresh 287 fM_fresh), (arI rM_read kM_read 90 fM_read), (arI rM_letters kM_letters 8 fM_letters), (oc7 oM iM_thrown rM_tape iM_taped iM_size iM_at iM_end iM_token iM_whole iM_nameSize x_5430 x_5431 iM_trouble rM_letters x_5432 iM_hasCourt rM_r rM_fresh rM_told rM_read rM_st rM_undone rM_kept iM_undos iM_images rM_fresher iM_fresherSize iM_scale iM_night rM_heardRow rM_cutRow iM_breaths iM_cutMany iM_allBreaths rM_trial rM_words iM_fewestBreaths iM_orderMany iM_orderSum iM_leastOrder rM_often iM_setMany iM_someOf iM_allOf iM_allWeight iM_enoughWeight iM_worthSum iM_firstRest iM_leastDrawn)]) (tys' := [(kM_tape, .int), (kM_fresh, .int), (kM_read, .int), (kM_letters, .int)]) hB rfl ht hvm hP hD hK [3] [0, 1, 2, 4] rfl (by decide) (by decide) [0, 1, 2, 3] hk1 hFc rfl rfl rfl
      clear hz1 hk1 hvm ht hB
      have hG := hG.trans (un3_eq e_x_5430_1)
      refine lv_aload_n hx hb dX7_begins_23 rfl (lv_at hl 0 rfl) ?_
      refine va_get (D := (dC, dI)) (ci := 7) (v := .ref rM_fresh) (C := RX7) (T := TX7) (N := 48) hx hb hts inX7 hown hK hP 4 rfl rfl 16 (by decide) (hts _ wd_156) (fun _ h9 => h9) rfl dX7_begins_24 ?_
      refine lv_iconst (v := 5) hx hb dX7_begins_27 (by decide) ?_
      refine va_iald hx hb hK hP 1 1 rfl rfl (by unfold vp_in; decide) dX7_begins_28 ?_
      refine lv_topi (fun x_5433 ex_5433 => ?_)
      have hG := hG.trans (lt_eq ex_5433)
      have cx_5433 : (fM_fresh 5).toInt = x_5433.toInt := congrArg Int32.toInt (show fM_fresh 5 = x_5433 from ex_5433.symm)
      refine lv_if_ne (tgt := 42) hx hb dX7_begins_29 (by decide) (fun c_5434 => ?_) (fun c_5434 => ?_)
      · skip
        have hG := hG.trans (if_neg c_5434)
        have gc_5434 := ti_ne c_5434 rfl kc_0
        refine lv_aload_n hx hb dX7_begins_42 rfl (lv_at hl 0 rfl) ?_
        have hFc := va_free (wc := [(oc7 oM iM_thrown rM_tape iM_taped iM_size iM_at iM_end iM_token iM_whole iM_nameSize x_5430 x_5431 iM_trouble rM_letters x_5432 iM_hasCourt rM_r rM_fresh rM_told rM_read rM_st rM_undone rM_kept iM_undos iM_images rM_fresher iM_fresherSize iM_scale iM_night rM_heardRow rM_cutRow iM_breaths iM_cutMany iM_allBreaths rM_trial rM_words iM_fewestBreaths iM_orderMany iM_orderSum iM_leastOrder rM_often iM_setMany iM_someOf iM_allOf iM_allWeight iM_enoughWeight iM_worthSum iM_firstRest iM_leastDrawn), (arI rM_tape kM_tape 900 fM_tape), (arI rM_letters kM_letters 8 fM_letters)]) hD hS hA [4, 0, 3] rfl
        refine va_callv (va_runV (As := []) (rest := []) ⟨hx, hb, hml, hown, hts⟩ (tX7_pass l dC dI _ oM iM_thrown rM_tape fM_tape kM_tape iM_taped iM_size iM_at iM_end iM_token iM_whole iM_nameSize x_5430 x_5431 iM_trouble rM_letters fM_letters kM_letters x_5432 iM_hasCourt rM_r rM_fresh rM_told rM_read rM_st rM_undone rM_kept iM_undos iM_images rM_fresher iM_fresherSize iM_scale iM_night rM_heardRow rM_cutRow iM_breaths iM_cutMany iM_allBreaths rM_trial rM_words iM_fewestBreaths iM_orderMany iM_orderSum iM_leastOrder rM_often iM_setMany iM_someOf iM_allOf iM_allWeight iM_enoughWeight iM_worthSum iM_firstRest iM_leastDrawn (by first | omega | decide) (by first | omega | decide) (by first | omega | decide) (by first | omega | decide) (by first | exact b_x_5432 | omega | decide) (by first | omega | decide) (by first | omega | decide) (by first | omega | decide) (by first | omega | decide) (by first | omega | decide) (by first | omega | decide) (by first | assumption | exact (fun h9 => by have q0 := kc_0; have q1 := kc_1; omega))) (cwV 0 hts (wd_V wd_454 wd_455 wd_456 wd_5 (wd_c wd_457)) rfl rfl rfl (by decide +kernel) ⟨Nat.le_of_ble_eq_true rfl, Nat.le_of_ble_eq_true rfl⟩) ⟨Pw.fb, va_recv hK hP (ci := 7) (q0 := 4) rfl rfl, fun U hU hW => Pw.to (hP.sub [4, 0, 3] rfl) (hD.sub [4, 0, 3] (by decide) rfl) (hK.sub [0, 3] rfl) hE hS hFc hU hW⟩ rfl rfl hl.1 rfl (lv_room (Nat.le_of_ble_eq_true rfl)) dX7_begins_43 ⟨Nat.le_of_ble_eq_true rfl, Nat.le_of_ble_eq_true rfl⟩) hS (fun q _ h => hFc q h) hFc (fun u t H locs ht hvm hw hB hz1 hk1 hS => ?_)
        obtain ⟨x_5435, x_5436, x_5437, x_5438, x_5439, f_5440, b_x_5436, b_x_5439, e_x_5435_0, e_x_5435_1, e_x_5435_2, e_x_5435_3, hB⟩ := hB
        obtain ⟨hP, hD, hK⟩ := Bw.go (ws' := [(arI rM_fresh kM_fresh 287 fM_fresh), (arI rM_read kM_read 90 fM_read), (oc7 oM iM_thrown rM_tape iM_taped iM_size x_5435 x_5436 x_5437 x_5438 x_5439 x_5430 x_5431 iM_trouble rM_letters x_5432 iM_hasCourt rM_r rM_fresh rM_told rM_read rM_st rM_undone rM_kept iM_undos iM_images rM_fresher iM_fresherSize iM_scale iM_night rM_heardRow rM_cutRow iM_breaths iM_cutMany iM_allBreaths rM_trial rM_words iM_fewestBreaths iM_orderMany iM_orderSum iM_leastOrder rM_often iM_setMany iM_someOf iM_allOf iM_allWeight iM_enoughWeight iM_worthSum iM_firstRest iM_leastDrawn), (arI rM_tape kM_tape 900 fM_tape), (arI rM_letters kM_letters 8 f_5440)]) (tys' := [(kM_fresh, .int), (kM_read, .int), (kM_tape, .int), (kM_letters, .int)]) hB rfl ht hvm hP hD hK [4, 0, 3] [1, 2] rfl (by decide) (by decide) [1, 2] hk1 hFc rfl rfl rfl
        clear hz1 hk1 hvm ht hB
        have hG := hG.trans (un6_eq e_x_5435_3)
        refine lv_iconst (v := 1) hx hb dX7_begins_46 (by decide) ?_
        exact W.zret (v := 1) hx hb hr rfl (fun t ht hW => ⟨⟨_, 1, rfl, ⟨⟨Or.inr rfl, (by decide)⟩, (by decide)⟩, ⟨x_5435, x_5436, x_5437, x_5438, x_5439, x_5430, x_5431, x_5432, f_5440, b_x_5436, b_x_5439, b_x_5432, (by first | assumption | (have q0 := kc_0; have q1 := kc_1; omega)), e_x_5435_1, (by first | assumption | (have q0 := kc_0; have q1 := kc_1; omega)), (by first | assumption | exact (fun h9 => by have q0 := kc_0; have q1 := kc_1; omega)), (fun h9 => by have q0 := kc_0; have q1 := kc_1; omega), hG, Bw.to (hP.sub [2, 3, 4, 0, 1] rfl) (hD.sub [2, 3, 4, 0, 1] (by decide) rfl) (hK.sub [2, 3, 0, 1] rfl) ht hW⟩⟩, hS.F ht⟩) hS.2.2 dX7_begins_47
      · skip
        have hG := hG.trans (if_pos c_5434)
        have gc_5434 := ti_eq c_5434 rfl kc_0
        refine lv_aload_n hx hb dX7_begins_32 rfl (lv_at hl 0 rfl) ?_
        refine lv_bipush (v := 6) hx hb dX7_begins_33 (by decide) ?_
        refine lv_aload_n hx hb dX7_begins_35 rfl (lv_at hl 0 rfl) ?_
        refine va_get (D := (dC, dI)) (ci := 7) (v := .int iM_at) (C := RX7) (T := TX7) (N := 48) hx hb hts inX7 hown hK hP 4 rfl rfl 4 (by decide) (hts _ wd_384) (fun _ h9 => h9) rfl dX7_begins_36 ?_
        have hFc := va_free (wc := [(oc7 oM iM_thrown rM_tape iM_taped iM_size iM_at iM_end iM_token iM_whole iM_nameSize x_5430 x_5431 iM_trouble rM_letters x_5432 iM_hasCourt rM_r rM_fresh rM_told rM_read rM_st rM_undone rM_kept iM_undos iM_images rM_fresher iM_fresherSize iM_scale iM_night rM_heardRow rM_cutRow iM_breaths iM_cutMany iM_allBreaths rM_trial rM_words iM_fewestBreaths iM_orderMany iM_orderSum iM_leastOrder rM_often iM_setMany iM_someOf iM_allOf iM_allWeight iM_enoughWeight iM_worthSum iM_firstRest iM_leastDrawn)]) hD hS hA [4] rfl
        refine va_callv (va_runV (As := [.int 6, .int iM_at]) (rest := []) ⟨hx, hb, hml, hown, hts⟩ (tX7_wrong l dC dI _ oM iM_thrown rM_tape iM_taped iM_size iM_at iM_end iM_token iM_whole iM_nameSize x_5430 x_5431 iM_trouble rM_letters x_5432 iM_hasCourt rM_r rM_fresh rM_told rM_read rM_st rM_undone rM_kept iM_undos iM_images rM_fresher iM_fresherSize iM_scale iM_night rM_heardRow rM_cutRow iM_breaths iM_cutMany iM_allBreaths rM_trial rM_words iM_fewestBreaths iM_orderMany iM_orderSum iM_leastOrder rM_often iM_setMany iM_someOf iM_allOf iM_allWeight iM_enoughWeight iM_worthSum iM_firstRest iM_leastDrawn 6 iM_at (by first | omega | decide) (by first | omega | decide) (by first | omega | decide) (by first | omega | decide) (by first | exact b_x_5432 | omega | decide) (by first | omega | decide) (by first | omega | decide) (by first | omega | decide) (by first | omega | decide) (by first | omega | decide) (by first | omega | decide) (by first | assumption | exact (fun h9 => by have q0 := kc_0; have q1 := kc_1; omega))) (cwV 2 hts (wd_V wd_430 wd_431 wd_432 wd_5 (wd_c wd_433)) rfl rfl rfl (by decide +kernel) ⟨Nat.le_of_ble_eq_true rfl, Nat.le_of_ble_eq_true rfl⟩) ⟨Pw.fb, va_recv hK hP (ci := 7) (q0 := 4) rfl rfl, fun U hU hW => Pw.to (hP.sub [4] rfl) (hD.sub [4] (by decide) rfl) (hK.sub [] rfl) hE hS hFc hU hW⟩ rfl rfl hl.1 rfl (lv_room (Nat.le_of_ble_eq_true rfl)) dX7_begins_39 ⟨Nat.le_of_ble_eq_true rfl, Nat.le_of_ble_eq_true rfl⟩) hS (fun q _ h => hFc q h) hFc (fun u t H locs ht hvm hw hB hz1 hk1 hS => ?_)
        obtain ⟨x_5441, x_5442, x_5443, b_x_5443, e_x_5441_0, e_x_5441_1, hB⟩ := hB
        obtain ⟨hP, hD, hK⟩ := Bw.go (ws' := [(arI rM_tape kM_tape 900 fM_tape), (arI rM_fresh kM_fresh 287 fM_fresh), (arI rM_read kM_read 90 fM_read), (arI rM_letters kM_letters 8 fM_letters), (oc7 oM iM_thrown rM_tape iM_taped iM_size iM_at iM_end iM_token iM_whole iM_nameSize x_5441 x_5442 iM_trouble rM_letters x_5443 iM_hasCourt rM_r rM_fresh rM_told rM_read rM_st rM_undone rM_kept iM_undos iM_images rM_fresher iM_fresherSize iM_scale iM_night rM_heardRow rM_cutRow iM_breaths iM_cutMany iM_allBreaths rM_trial rM_words iM_fewestBreaths iM_orderMany iM_orderSum iM_leastOrder rM_often iM_setMany iM_someOf iM_allOf iM_allWeight iM_enoughWeight iM_worthSum iM_firstRest iM_leastDrawn)]) (tys' := [(kM_tape, .int), (kM_fresh, .int), (kM_read, .int), (kM_letters, .int)]) hB rfl ht hvm hP hD hK [4] [0, 1, 2, 3] rfl (by decide) (by decide) [0, 1, 2, 3] hk1 hFc rfl rfl rfl
        clear hz1 hk1 hvm ht hB
        have hG := hG.trans (un3_eq e_x_5441_1)
        refine lv_aload_n hx hb dX7_begins_42 rfl (lv_at hl 0 rfl) ?_
        have hFc := va_free (wc := [(oc7 oM iM_thrown rM_tape iM_taped iM_size iM_at iM_end iM_token iM_whole iM_nameSize x_5441 x_5442 iM_trouble rM_letters x_5443 iM_hasCourt rM_r rM_fresh rM_told rM_read rM_st rM_undone rM_kept iM_undos iM_images rM_fresher iM_fresherSize iM_scale iM_night rM_heardRow rM_cutRow iM_breaths iM_cutMany iM_allBreaths rM_trial rM_words iM_fewestBreaths iM_orderMany iM_orderSum iM_leastOrder rM_often iM_setMany iM_someOf iM_allOf iM_allWeight iM_enoughWeight iM_worthSum iM_firstRest iM_leastDrawn), (arI rM_tape kM_tape 900 fM_tape), (arI rM_letters kM_letters 8 fM_letters)]) hD hS hA [4, 0, 3] rfl
        refine va_callv (va_runV (As := []) (rest := []) ⟨hx, hb, hml, hown, hts⟩ (tX7_pass l dC dI _ oM iM_thrown rM_tape fM_tape kM_tape iM_taped iM_size iM_at iM_end iM_token iM_whole iM_nameSize x_5441 x_5442 iM_trouble rM_letters fM_letters kM_letters x_5443 iM_hasCourt rM_r rM_fresh rM_told rM_read rM_st rM_undone rM_kept iM_undos iM_images rM_fresher iM_fresherSize iM_scale iM_night rM_heardRow rM_cutRow iM_breaths iM_cutMany iM_allBreaths rM_trial rM_words iM_fewestBreaths iM_orderMany iM_orderSum iM_leastOrder rM_often iM_setMany iM_someOf iM_allOf iM_allWeight iM_enoughWeight iM_worthSum iM_firstRest iM_leastDrawn (by first | omega | decide) (by first | omega | decide) (by first | omega | decide) (by first | omega | decide) (by first | exact b_x_5443 | omega | decide) (by first | omega | decide) (by first | omega | decide) (by first | omega | decide) (by first | omega | decide) (by first | omega | decide) (by first | omega | decide) (by first | assumption | exact (fun h9 => by have q0 := kc_0; have q1 := kc_1; omega))) (cwV 0 hts (wd_V wd_454 wd_455 wd_456 wd_5 (wd_c wd_457)) rfl rfl rfl (by decide +kernel) ⟨Nat.le_of_ble_eq_true rfl, Nat.le_of_ble_eq_true rfl⟩) ⟨Pw.fb, va_recv hK hP (ci := 7) (q0 := 4) rfl rfl, fun U hU hW => Pw.to (hP.sub [4, 0, 3] rfl) (hD.sub [4, 0, 3] (by decide) rfl) (hK.sub [0, 3] rfl) hE hS hFc hU hW⟩ rfl rfl hl.1 rfl (lv_room (Nat.le_of_ble_eq_true rfl)) dX7_begins_43 ⟨Nat.le_of_ble_eq_true rfl, Nat.le_of_ble_eq_true rfl⟩) hS (fun q _ h => hFc q h) hFc (fun u t H locs ht hvm hw hB hz1 hk1 hS => ?_)
        obtain ⟨x_5444, x_5445, x_5446, x_5447, x_5448, f_5449, b_x_5445, b_x_5448, e_x_5444_0, e_x_5444_1, e_x_5444_2, e_x_5444_3, hB⟩ := hB
        obtain ⟨hP, hD, hK⟩ := Bw.go (ws' := [(arI rM_fresh kM_fresh 287 fM_fresh), (arI rM_read kM_read 90 fM_read), (oc7 oM iM_thrown rM_tape iM_taped iM_size x_5444 x_5445 x_5446 x_5447 x_5448 x_5441 x_5442 iM_trouble rM_letters x_5443 iM_hasCourt rM_r rM_fresh rM_told rM_read rM_st rM_undone rM_kept iM_undos iM_images rM_fresher iM_fresherSize iM_scale iM_night rM_heardRow rM_cutRow iM_breaths iM_cutMany iM_allBreaths rM_trial rM_words iM_fewestBreaths iM_orderMany iM_orderSum iM_leastOrder rM_often iM_setMany iM_someOf iM_allOf iM_allWeight iM_enoughWeight iM_worthSum iM_firstRest iM_leastDrawn), (arI rM_tape kM_tape 900 fM_tape), (arI rM_letters kM_letters 8 f_5449)]) (tys' := [(kM_fresh, .int), (kM_read, .int), (kM_tape, .int), (kM_letters, .int)]) hB rfl ht hvm hP hD hK [4, 0, 3] [1, 2] rfl (by decide) (by decide) [1, 2] hk1 hFc rfl rfl rfl
        clear hz1 hk1 hvm ht hB
        have hG := hG.trans (un6_eq e_x_5444_3)
        refine lv_iconst (v := 1) hx hb dX7_begins_46 (by decide) ?_
        exact W.zret (v := 1) hx hb hr rfl (fun t ht hW => ⟨⟨_, 1, rfl, ⟨⟨Or.inr rfl, (by decide)⟩, (by decide)⟩, ⟨x_5444, x_5445, x_5446, x_5447, x_5448, x_5441, x_5442, x_5443, f_5449, b_x_5445, b_x_5448, b_x_5443, (by first | assumption | (have q0 := kc_0; have q1 := kc_1; omega)), e_x_5444_1, (by first | assumption | (have q0 := kc_0; have q1 := kc_1; omega)), (by first | assumption | exact (fun h9 => by have q0 := kc_0; have q1 := kc_1; omega)), (fun h9 => by have q0 := kc_0; have q1 := kc_1; omega), hG, Bw.to (hP.sub [2, 3, 4, 0, 1] rfl) (hD.sub [2, 3, 4, 0, 1] (by decide) rfl) (hK.sub [2, 3, 0, 1] rfl) ht hW⟩⟩, hS.F ht⟩) hS.2.2 dX7_begins_47
  · skip
    have hG := hG.trans (if_pos c_5409)
    have gc_5409 := ti_eq c_5409 rfl kc_0
    clear lx_5408
    refine lv_iconst (v := 0) hx hb dX7_begins_8 (by decide) ?_
    exact W.zret (v := 0) hx hb hr rfl (fun t ht hW => ⟨⟨_, 0, rfl, ⟨⟨Or.inl rfl, (by decide)⟩, (by decide)⟩, ⟨iM_at, iM_end, iM_token, iM_whole, iM_nameSize, iM_fault, iM_place, iM_failed, fM_letters, (by omega), (by omega), (by omega), (by first | assumption | (have q0 := kc_0; have q1 := kc_1; omega)), r_T, (by first | assumption | (have q0 := kc_0; have q1 := kc_1; omega)), (by first | assumption | exact (fun h9 => by have q0 := kc_0; have q1 := kc_1; omega)), (fun h9 => by have q0 := kc_0; have q1 := kc_1; omega), hG, Bw.to (hP.sub [3, 0, 4, 1, 2] rfl) (hD.sub [3, 0, 4, 1, 2] (by decide) rfl) (hK.sub [0, 3, 1, 2] rfl) ht hW⟩⟩, hS.F ht⟩) hS.2.2 dX7_begins_9
