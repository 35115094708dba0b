set_option maxHeartbeats 4000000 in
set_option maxRecDepth 100000 in
theorem tX7_isSmall_p (l : Launch) (dC : Nat → ClassId) (dI : Nat → Nat → Nat) (sz : Nat) (p0 : Int32)  : Met l yX7_isSmall (Cond.code yX7_isSmall cX7_isSmall 1 (some .boolean) :: wG) ({ frames := 0, cells := 0, slots := 0, locals := 0 }) (va_Pc [.int p0] (Pw dC dI sz [] [])) (va_Qi (fun (r : Int32) (_ : Nat) => ((r = 0 ∨ r = 1) ∧ (r.toInt = 1 → 97 ≤ p0.toInt ∧ p0.toInt ≤ 122)) ∧ PX7_isSmall p0 = r) (fun (_ : Nat) (_ : State) => True) (va_A [] sz)) 0 0 (va_A [] sz) := by
  refine Met.ofW (cc := cX7_isSmall) (maxL := 1) (ret := (some .boolean)) (by decide) rfl ?_
  intro p e s m args below meth c s₁ B hml hv
  obtain ⟨rfl, hsz, hP, hK, hD0, hE⟩ := hv
  have hx := B.exec
  have hb := B.bytes
  have hr := B.returns
  have hts : ∀ w ∈ wG, w.before ([.int p0] : List Value).toArray s = true := fun w h => atoms_spec (ws := Cond.code yX7_isSmall cX7_isSmall 1 (some .boolean) :: wG) B.pre w (List.mem_cons_of_mem _ h)
  have hown : s.vm.findClass RX7 = some m.cls := findClass_of_methodNamed B.named
  have hlocks := B.notSynchronized
  subst hsz
  generalize hAe : va_A [] s.heap.size = A at hE ⊢
  have hA : ∀ q : Nat, s.heap.size ≤ q → A q := fun q h => by rw [← hAe]; exact Or.inr h
  have hS : va_S A s.heap s.heap [] := va_S.rf
  have hl := lv_entry ([.int p0]) (n := 1) (Nat.le_of_ble_eq_true rfl)
  rw [lg_entry_eq]
  generalize (lg_sl ([.int p0]) ++ List.replicate (1 - (lg_sl ([.int p0])).length) Slot.unset).toArray = ls at hl ⊢
  have hl : lv_has ls 1 [(0, .int p0)] := hl
  have hG := PX7_isSmall_eq p0
  refine lv_iload_n hx hb dX7_isSmall_0 rfl (lv_at hl 0 rfl) ?_
  refine lv_bipush (v := 97) hx hb dX7_isSmall_1 (by decide) ?_
  refine lv_icmp_lt (tgt := 16) hx hb dX7_isSmall_3 (by decide) (fun c_4723 => ?_) (fun c_4723 => ?_)
  · skip
    have hG := hG.trans (if_pos c_4723)
    have gc_4723 := ti_lt c_4723 rfl kc_97
    refine lv_iconst (v := 0) hx hb dX7_isSmall_16 (by decide) ?_
    exact W.zret (v := 0) hx hb hr rfl (fun t ht hW => ⟨⟨_, 0, rfl, ⟨⟨Or.inl rfl, (by have q0 := kc_0; have q1 := kc_1; omega)⟩, hG⟩, trivial⟩, hS.F ht⟩) hS.2.2 dX7_isSmall_17
  · skip
    have hG := hG.trans (if_neg c_4723)
    have gc_4723 := ti_nlt c_4723 rfl kc_97
    refine lv_iload_n hx hb dX7_isSmall_6 rfl (lv_at hl 0 rfl) ?_
    refine lv_bipush (v := 122) hx hb dX7_isSmall_7 (by decide) ?_
    refine lv_icmp_gt (tgt := 16) hx hb dX7_isSmall_9 (by decide) (fun c_4724 => ?_) (fun c_4724 => ?_)
    · skip
      have hG := hG.trans (if_pos c_4724)
      have gc_4724 := ti_lt c_4724 kc_122 rfl
      refine lv_iconst (v := 0) hx hb dX7_isSmall_16 (by decide) ?_
      exact W.zret (v := 0) hx hb hr rfl (fun t ht hW => ⟨⟨_, 0, rfl, ⟨⟨Or.inl rfl, (by have q0 := kc_0; have q1 := kc_1; omega)⟩, hG⟩, trivial⟩, hS.F ht⟩) hS.2.2 dX7_isSmall_17
    · skip
      have hG := hG.trans (if_neg c_4724)
      have gc_4724 := ti_nlt c_4724 kc_122 rfl
      refine lv_iconst (v := 1) hx hb dX7_isSmall_12 (by decide) ?_
      refine lv_goto (tgt := 17) hx hb dX7_isSmall_13 (by decide) ?_
      exact W.zret (v := 1) hx hb hr rfl (fun t ht hW => ⟨⟨_, 0, rfl, ⟨⟨Or.inr rfl, (by have q0 := kc_0; have q1 := kc_1; omega)⟩, hG⟩, trivial⟩, hS.F ht⟩) hS.2.2 dX7_isSmall_17
set_option maxHeartbeats 4000000 in
set_option maxRecDepth 100000 in
theorem tX7_isDigit_p (l : Launch) (dC : Nat → ClassId) (dI : Nat → Nat → Nat) (sz : Nat) (p0 : Int32)  : Met l yX7_isDigit (Cond.code yX7_isDigit cX7_isDigit 1 (some .boolean) :: wG) ({ frames := 0, cells := 0, slots := 0, locals := 0 }) (va_Pc [.int p0] (Pw dC dI sz [] [])) (va_Qi (fun (r : Int32) (_ : Nat) => ((r = 0 ∨ r = 1) ∧ (r.toInt = 1 → 48 ≤ p0.toInt ∧ p0.toInt ≤ 57)) ∧ PX7_isDigit p0 = r) (fun (_ : Nat) (_ : State) => True) (va_A [] sz)) 0 0 (va_A [] sz) := by
  refine Met.ofW (cc := cX7_isDigit) (maxL := 1) (ret := (some .boolean)) (by decide) rfl ?_
  intro p e s m args below meth c s₁ B hml hv
  obtain ⟨rfl, hsz, hP, hK, hD0, hE⟩ := hv
  have hx := B.exec
  have hb := B.bytes
  have hr := B.returns
  have hts : ∀ w ∈ wG, w.before ([.int p0] : List Value).toArray s = true := fun w h => atoms_spec (ws := Cond.code yX7_isDigit cX7_isDigit 1 (some .boolean) :: wG) B.pre w (List.mem_cons_of_mem _ h)
  have hown : s.vm.findClass RX7 = some m.cls := findClass_of_methodNamed B.named
  have hlocks := B.notSynchronized
  subst hsz
  generalize hAe : va_A [] s.heap.size = A at hE ⊢
  have hA : ∀ q : Nat, s.heap.size ≤ q → A q := fun q h => by rw [← hAe]; exact Or.inr h
  have hS : va_S A s.heap s.heap [] := va_S.rf
  have hl := lv_entry ([.int p0]) (n := 1) (Nat.le_of_ble_eq_true rfl)
  rw [lg_entry_eq]
  generalize (lg_sl ([.int p0]) ++ List.replicate (1 - (lg_sl ([.int p0])).length) Slot.unset).toArray = ls at hl ⊢
  have hl : lv_has ls 1 [(0, .int p0)] := hl
  have hG := PX7_isDigit_eq p0
  refine lv_iload_n hx hb dX7_isDigit_0 rfl (lv_at hl 0 rfl) ?_
  refine lv_bipush (v := 48) hx hb dX7_isDigit_1 (by decide) ?_
  refine lv_icmp_lt (tgt := 16) hx hb dX7_isDigit_3 (by decide) (fun c_4725 => ?_) (fun c_4725 => ?_)
  · skip
    have hG := hG.trans (if_pos c_4725)
    have gc_4725 := ti_lt c_4725 rfl kc_48
    refine lv_iconst (v := 0) hx hb dX7_isDigit_16 (by decide) ?_
    exact W.zret (v := 0) hx hb hr rfl (fun t ht hW => ⟨⟨_, 0, rfl, ⟨⟨Or.inl rfl, (by have q0 := kc_0; have q1 := kc_1; omega)⟩, hG⟩, trivial⟩, hS.F ht⟩) hS.2.2 dX7_isDigit_17
  · skip
    have hG := hG.trans (if_neg c_4725)
    have gc_4725 := ti_nlt c_4725 rfl kc_48
    refine lv_iload_n hx hb dX7_isDigit_6 rfl (lv_at hl 0 rfl) ?_
    refine lv_bipush (v := 57) hx hb dX7_isDigit_7 (by decide) ?_
    refine lv_icmp_gt (tgt := 16) hx hb dX7_isDigit_9 (by decide) (fun c_4726 => ?_) (fun c_4726 => ?_)
    · skip
      have hG := hG.trans (if_pos c_4726)
      have gc_4726 := ti_lt c_4726 kc_57 rfl
      refine lv_iconst (v := 0) hx hb dX7_isDigit_16 (by decide) ?_
      exact W.zret (v := 0) hx hb hr rfl (fun t ht hW => ⟨⟨_, 0, rfl, ⟨⟨Or.inl rfl, (by have q0 := kc_0; have q1 := kc_1; omega)⟩, hG⟩, trivial⟩, hS.F ht⟩) hS.2.2 dX7_isDigit_17
    · skip
      have hG := hG.trans (if_neg c_4726)
      have gc_4726 := ti_nlt c_4726 kc_57 rfl
      refine lv_iconst (v := 1) hx hb dX7_isDigit_12 (by decide) ?_
      refine lv_goto (tgt := 17) hx hb dX7_isDigit_13 (by decide) ?_
      exact W.zret (v := 1) hx hb hr rfl (fun t ht hW => ⟨⟨_, 0, rfl, ⟨⟨Or.inr rfl, (by have q0 := kc_0; have q1 := kc_1; omega)⟩, hG⟩, trivial⟩, hS.F ht⟩) hS.2.2 dX7_isDigit_17
set_option maxHeartbeats 4000000 in
set_option maxRecDepth 100000 in
theorem tX7_see_p (l : Launch) (dC : Nat → ClassId) (dI : Nat → Nat → Nat) (sz : Nat) (oM : Nat) (iM_thrown : Int32) (rM_tape : Nat) (fM_tape : Nat → Int32) (kM_tape : ClassId) (iM_taped : Int32) (iM_size : Int32) (iM_at : Int32) (iM_end : Int32) (iM_token : Int32) (iM_whole : Int32) (iM_nameSize : Int32) (iM_fault : Int32) (iM_place : Int32) (iM_trouble : Int32) (rM_letters : Nat) (iM_failed : Int32) (iM_hasCourt : Int32) (rM_r : Nat) (rM_fresh : Nat) (rM_told : Nat) (rM_read : Nat) (rM_st : Nat) (rM_undone : Nat) (rM_kept : Nat) (iM_undos : Int32) (iM_images : Int32) (rM_fresher : Nat) (iM_fresherSize : Int32) (iM_scale : Int32) (iM_night : Int32) (rM_heardRow : Nat) (rM_cutRow : Nat) (iM_breaths : Int32) (iM_cutMany : Int32) (iM_allBreaths : Int32) (rM_trial : Nat) (rM_words : Nat) (iM_fewestBreaths : Int32) (iM_orderMany : Int32) (iM_orderSum : Int32) (iM_leastOrder : Int32) (rM_often : Nat) (iM_setMany : Int32) (iM_someOf : Int32) (iM_allOf : Int32) (iM_allWeight : Int64) (iM_enoughWeight : Int64) (iM_worthSum : Int64) (iM_firstRest : Int32) (iM_leastDrawn : Int32) (p0 : Int32) (b_iM_taped : 0 ≤ iM_taped.toInt ∧ iM_taped.toInt ≤ 900) (b_iM_size : 0 ≤ iM_size.toInt ∧ iM_size.toInt ≤ 900) (b_iM_end : 0 ≤ iM_end.toInt ∧ iM_end.toInt ≤ 900) (b_iM_nameSize : 0 ≤ iM_nameSize.toInt ∧ iM_nameSize.toInt ≤ 900) (b_iM_failed : 0 ≤ iM_failed.toInt ∧ iM_failed.toInt ≤ 1) (b_iM_hasCourt : 0 ≤ iM_hasCourt.toInt ∧ iM_hasCourt.toInt ≤ 1) (b_iM_undos : 0 ≤ iM_undos.toInt ∧ iM_undos.toInt ≤ 16) (b_iM_images : 0 ≤ iM_images.toInt ∧ iM_images.toInt ≤ 3) (b_iM_scale : 1 ≤ iM_scale.toInt ∧ iM_scale.toInt ≤ 1296) (b_iM_breaths : 0 ≤ iM_breaths.toInt ∧ iM_breaths.toInt ≤ 399) (b_iM_cutMany : 0 ≤ iM_cutMany.toInt ∧ iM_cutMany.toInt ≤ 399) (hs : 0 ≤ p0.toInt) : Met l yX7_see (Cond.code yX7_see cX7_see 2 (some .int) :: wG) ({ frames := 0, cells := 0, slots := 0, locals := 0 }) (va_Pc [.ref oM, .int p0] (Pw dC dI sz [(oc7 oM iM_thrown rM_tape iM_taped iM_size iM_at iM_end iM_token iM_whole iM_nameSize iM_fault iM_place iM_trouble rM_letters iM_failed iM_hasCourt rM_r rM_fresh rM_told rM_read rM_st rM_undone rM_kept iM_undos iM_images rM_fresher iM_fresherSize iM_scale iM_night rM_heardRow rM_cutRow iM_breaths iM_cutMany iM_allBreaths rM_trial rM_words iM_fewestBreaths iM_orderMany iM_orderSum iM_leastOrder rM_often iM_setMany iM_someOf iM_allOf iM_allWeight iM_enoughWeight iM_worthSum iM_firstRest iM_leastDrawn), (arI rM_tape kM_tape 900 fM_tape)] [(kM_tape, .int)])) (va_Qi (fun (r : Int32) (_ : Nat) => (True ∧ (r.toInt ≠ -1 → p0.toInt < iM_size.toInt)) ∧ PX7_see_p fM_tape iM_size p0 = r) (fun (_ : Nat) (t : State) => Bw dC dI (va_A [(oc7 oM iM_thrown rM_tape iM_taped iM_size iM_at iM_end iM_token iM_whole iM_nameSize iM_fault iM_place iM_trouble rM_letters iM_failed iM_hasCourt rM_r rM_fresh rM_told rM_read rM_st rM_undone rM_kept iM_undos iM_images rM_fresher iM_fresherSize iM_scale iM_night rM_heardRow rM_cutRow iM_breaths iM_cutMany iM_allBreaths rM_trial rM_words iM_fewestBreaths iM_orderMany iM_orderSum iM_leastOrder rM_often iM_setMany iM_someOf iM_allOf iM_allWeight iM_enoughWeight iM_worthSum iM_firstRest iM_leastDrawn), (arI rM_tape kM_tape 900 fM_tape)] sz) [(oc7 oM iM_thrown rM_tape iM_taped iM_size iM_at iM_end iM_token iM_whole iM_nameSize iM_fault iM_place iM_trouble rM_letters iM_failed iM_hasCourt rM_r rM_fresh rM_told rM_read rM_st rM_undone rM_kept iM_undos iM_images rM_fresher iM_fresherSize iM_scale iM_night rM_heardRow rM_cutRow iM_breaths iM_cutMany iM_allBreaths rM_trial rM_words iM_fewestBreaths iM_orderMany iM_orderSum iM_leastOrder rM_often iM_setMany iM_someOf iM_allOf iM_allWeight iM_enoughWeight iM_worthSum iM_firstRest iM_leastDrawn), (arI rM_tape kM_tape 900 fM_tape)] [(kM_tape, .int)] t) (va_A [(oc7 oM iM_thrown rM_tape iM_taped iM_size iM_at iM_end iM_token iM_whole iM_nameSize iM_fault iM_place iM_trouble rM_letters iM_failed iM_hasCourt rM_r rM_fresh rM_told rM_read rM_st rM_undone rM_kept iM_undos iM_images rM_fresher iM_fresherSize iM_scale iM_night rM_heardRow rM_cutRow iM_breaths iM_cutMany iM_allBreaths rM_trial rM_words iM_fewestBreaths iM_orderMany iM_orderSum iM_leastOrder rM_often iM_setMany iM_someOf iM_allOf iM_allWeight iM_enoughWeight iM_worthSum iM_firstRest iM_leastDrawn), (arI rM_tape kM_tape 900 fM_tape)] sz)) 0 0 (va_A [(oc7 oM iM_thrown rM_tape iM_taped iM_size iM_at iM_end iM_token iM_whole iM_nameSize iM_fault iM_place iM_trouble rM_letters iM_failed iM_hasCourt rM_r rM_fresh rM_told rM_read rM_st rM_undone rM_kept iM_undos iM_images rM_fresher iM_fresherSize iM_scale iM_night rM_heardRow rM_cutRow iM_breaths iM_cutMany iM_allBreaths rM_trial rM_words iM_fewestBreaths iM_orderMany iM_orderSum iM_leastOrder rM_often iM_setMany iM_someOf iM_allOf iM_allWeight iM_enoughWeight iM_worthSum iM_firstRest iM_leastDrawn), (arI rM_tape kM_tape 900 fM_tape)] sz) := by
  refine Met.ofW (cc := cX7_see) (maxL := 2) (ret := (some .int)) (by decide) rfl ?_
  intro p e s m args below meth c s₁ B hml hv
  obtain ⟨rfl, hsz, hP, hK, hD0, hE⟩ := hv
  have hx := B.exec
  have hb := B.bytes
  have hr := B.returns
  have hts : ∀ w ∈ wG, w.before ([.ref oM, .int p0] : List Value).toArray s = true := fun w h => atoms_spec (ws := Cond.code yX7_see cX7_see 2 (some .int) :: wG) B.pre w (List.mem_cons_of_mem _ h)
  have hown : s.vm.findClass RX7 = some m.cls := findClass_of_methodNamed B.named
  have hlocks := B.notSynchronized
  subst hsz
  have hD := hD0.self (sz := s.heap.size)
  generalize hAe : va_A [(oc7 oM iM_thrown rM_tape iM_taped iM_size iM_at iM_end iM_token iM_whole iM_nameSize iM_fault iM_place iM_trouble rM_letters iM_failed iM_hasCourt rM_r rM_fresh rM_told rM_read rM_st rM_undone rM_kept iM_undos iM_images rM_fresher iM_fresherSize iM_scale iM_night rM_heardRow rM_cutRow iM_breaths iM_cutMany iM_allBreaths rM_trial rM_words iM_fewestBreaths iM_orderMany iM_orderSum iM_leastOrder rM_often iM_setMany iM_someOf iM_allOf iM_allWeight iM_enoughWeight iM_worthSum iM_firstRest iM_leastDrawn), (arI rM_tape kM_tape 900 fM_tape)] s.heap.size = A at hD hE ⊢
  have hA : ∀ q : Nat, s.heap.size ≤ q → A q := fun q h => by rw [← hAe]; exact Or.inr h
  have hS : va_S A s.heap s.heap [] := va_S.rf
  have hl := lv_entry ([.ref oM, .int p0]) (n := 2) (Nat.le_of_ble_eq_true rfl)
  rw [lg_entry_eq]
  generalize (lg_sl ([.ref oM, .int p0]) ++ List.replicate (2 - (lg_sl ([.ref oM, .int p0])).length) Slot.unset).toArray = ls at hl ⊢
  have hl : lv_has ls 2 [(0, .ref oM), (1, .int p0)] := hl
  have hG := PX7_see_p_eq fM_tape iM_size p0
  refine lv_iload_n hx hb dX7_see_0 rfl (lv_at hl 1 rfl) ?_
  refine lv_aload_n hx hb dX7_see_1 rfl (lv_at hl 0 rfl) ?_
  refine va_get (D := (dC, dI)) (ci := 7) (v := .int iM_size) (C := RX7) (T := TX7) (N := 48) hx hb hts inX7 hown hK hP 0 rfl rfl 3 (by decide) (hts _ wd_381) (fun _ h9 => h9) rfl dX7_see_2 ?_
  refine lv_icmp_ge (tgt := 17) hx hb dX7_see_5 (by decide) (fun c_4729 => ?_) (fun c_4729 => ?_)
  · skip
    have hG := hG.trans (if_pos c_4729)
    have gc_4729 := ti_le c_4729 rfl rfl
    refine lv_iconst (v := (-1)) hx hb dX7_see_17 (by decide) ?_
    exact W.iret hx hb hr (fun t ht hW => ⟨⟨_, 0, rfl, ⟨⟨trivial, (by have q := kc_m1; first | omega | assumption)⟩, hG⟩, Bw.to (hP.sub [0, 1] rfl) (hD.sub [0, 1] (by decide) rfl) (hK.sub [0] rfl) ht hW⟩, hS.F ht⟩) hS.2.2 dX7_see_18
  · skip
    have hG := hG.trans (if_neg c_4729)
    have gc_4729 := ti_nle c_4729 rfl rfl
    refine lv_aload_n hx hb dX7_see_8 rfl (lv_at hl 0 rfl) ?_
    refine va_get (D := (dC, dI)) (ci := 7) (v := .ref rM_tape) (C := RX7) (T := TX7) (N := 48) hx hb hts inX7 hown hK hP 0 rfl rfl 1 (by decide) (hts _ wd_152) (fun _ h9 => h9) rfl dX7_see_9 ?_
    refine lv_iload_n hx hb dX7_see_12 rfl (lv_at hl 1 rfl) ?_
    refine va_iald hx hb hK hP 1 0 rfl rfl (ti_in rfl (by omega) (by omega)) dX7_see_13 ?_
    refine lv_topi (fun x_4730 ex_4730 => ?_)
    have hG := hG.trans (lt_eq ex_4730)
    have kx_4730 : (fM_tape p0.toNatClampNeg).toInt = x_4730.toInt := by rw [ex_4730]
    have cx_4730 := kx_4730
    refine lv_goto (tgt := 18) hx hb dX7_see_14 (by decide) ?_
    exact W.iret hx hb hr (fun t ht hW => ⟨⟨_, 0, rfl, ⟨⟨trivial, (by first | omega | assumption)⟩, hG⟩, Bw.to (hP.sub [0, 1] rfl) (hD.sub [0, 1] (by decide) rfl) (hK.sub [0] rfl) ht hW⟩, hS.F ht⟩) hS.2.2 dX7_see_18
set_option maxHeartbeats 4000000 in
set_option maxRecDepth 100000 in
theorem tX7_next (l : Launch) (dC : Nat → ClassId) (dI : Nat → Nat → Nat) (sz : Nat) (oM : Nat) (iM_thrown : Int32) (rM_tape : Nat) (fM_tape : Nat → Int32) (kM_tape : ClassId) (iM_taped : Int32) (iM_size : Int32) (iM_at : Int32) (iM_end : Int32) (iM_token : Int32) (iM_whole : Int32) (iM_nameSize : Int32) (iM_fault : Int32) (iM_place : Int32) (iM_trouble : Int32) (rM_letters : Nat) (fM_letters : Nat → Int32) (kM_letters : ClassId) (iM_failed : Int32) (iM_hasCourt : Int32) (rM_r : Nat) (rM_fresh : Nat) (rM_told : Nat) (rM_read : Nat) (rM_st : Nat) (rM_undone : Nat) (rM_kept : Nat) (iM_undos : Int32) (iM_images : Int32) (rM_fresher : Nat) (iM_fresherSize : Int32) (iM_scale : Int32) (iM_night : Int32) (rM_heardRow : Nat) (rM_cutRow : Nat) (iM_breaths : Int32) (iM_cutMany : Int32) (iM_allBreaths : Int32) (rM_trial : Nat) (rM_words : Nat) (iM_fewestBreaths : Int32) (iM_orderMany : Int32) (iM_orderSum : Int32) (iM_leastOrder : Int32) (rM_often : Nat) (iM_setMany : Int32) (iM_someOf : Int32) (iM_allOf : Int32) (iM_allWeight : Int64) (iM_enoughWeight : Int64) (iM_worthSum : Int64) (iM_firstRest : Int32) (iM_leastDrawn : Int32) (b_iM_taped : 0 ≤ iM_taped.toInt ∧ iM_taped.toInt ≤ 900) (b_iM_size : 0 ≤ iM_size.toInt ∧ iM_size.toInt ≤ 900) (b_iM_end : 0 ≤ iM_end.toInt ∧ iM_end.toInt ≤ 900) (b_iM_nameSize : 0 ≤ iM_nameSize.toInt ∧ iM_nameSize.toInt ≤ 900) (b_iM_failed : 0 ≤ iM_failed.toInt ∧ iM_failed.toInt ≤ 1) (b_iM_hasCourt : 0 ≤ iM_hasCourt.toInt ∧ iM_hasCourt.toInt ≤ 1) (b_iM_undos : 0 ≤ iM_undos.toInt ∧ iM_undos.toInt ≤ 16) (b_iM_images : 0 ≤ iM_images.toInt ∧ iM_images.toInt ≤ 3) (b_iM_scale : 1 ≤ iM_scale.toInt ∧ iM_scale.toInt ≤ 1296) (b_iM_breaths : 0 ≤ iM_breaths.toInt ∧ iM_breaths.toInt ≤ 399) (b_iM_cutMany : 0 ≤ iM_cutMany.toInt ∧ iM_cutMany.toInt ≤ 399) (r_T : ImpP (iM_token.toInt = 2) (iM_nameSize.toInt ≤ 8))  : Met l yX7_next (Cond.code yX7_next cX7_next 4 none :: wG) ({ frames := 1, cells := 0, slots := 0, locals := 21 }) (va_Pc [.ref oM] (Pw dC dI sz [(oc7 oM iM_thrown rM_tape iM_taped iM_size iM_at iM_end iM_token iM_whole iM_nameSize iM_fault iM_place iM_trouble rM_letters iM_failed iM_hasCourt rM_r rM_fresh rM_told rM_read rM_st rM_undone rM_kept iM_undos iM_images rM_fresher iM_fresherSize iM_scale iM_night rM_heardRow rM_cutRow iM_breaths iM_cutMany iM_allBreaths rM_trial rM_words iM_fewestBreaths iM_orderMany iM_orderSum iM_leastOrder rM_often iM_setMany iM_someOf iM_allOf iM_allWeight iM_enoughWeight iM_worthSum iM_firstRest iM_leastDrawn), (arI rM_tape kM_tape 900 fM_tape), (arI rM_letters kM_letters 8 fM_letters)] [(kM_tape, .int), (kM_letters, .int)])) (va_Qv (fun (_ : Nat) => True) (fun (_ : Nat) (t : State) => ∃ (niM_at : Int32) (niM_end : Int32) (niM_token : Int32) (niM_whole : Int32) (niM_nameSize : Int32) (nfM_letters : Nat → Int32), (0 ≤ niM_end.toInt ∧ niM_end.toInt ≤ 900) ∧ (0 ≤ niM_nameSize.toInt ∧ niM_nameSize.toInt ≤ 900) ∧ (iM_end.toInt ≤ niM_end.toInt) ∧ (ImpP (niM_token.toInt = 2) (niM_nameSize.toInt ≤ 8)) ∧ (ImpP (niM_token.toInt = 59 ) (iM_end.toInt + 1 ≤ niM_end.toInt)) ∧ (PX7_next fM_tape iM_size iM_end fM_letters = (niM_at, niM_end, niM_token, niM_whole, niM_nameSize, nfM_letters)) ∧ Bw dC dI (va_A [(oc7 oM iM_thrown rM_tape iM_taped iM_size iM_at iM_end iM_token iM_whole iM_nameSize iM_fault iM_place iM_trouble rM_letters iM_failed iM_hasCourt rM_r rM_fresh rM_told rM_read rM_st rM_undone rM_kept iM_undos iM_images rM_fresher iM_fresherSize iM_scale iM_night rM_heardRow rM_cutRow iM_breaths iM_cutMany iM_allBreaths rM_trial rM_words iM_fewestBreaths iM_orderMany iM_orderSum iM_leastOrder rM_often iM_setMany iM_someOf iM_allOf iM_allWeight iM_enoughWeight iM_worthSum iM_firstRest iM_leastDrawn), (arI rM_tape kM_tape 900 fM_tape), (arI rM_letters kM_letters 8 fM_letters)] sz) [(oc7 oM iM_thrown rM_tape iM_taped iM_size niM_at niM_end niM_token niM_whole niM_nameSize iM_fault iM_place iM_trouble rM_letters iM_failed iM_hasCourt rM_r rM_fresh rM_told rM_read rM_st rM_undone rM_kept iM_undos iM_images rM_fresher iM_fresherSize iM_scale iM_night rM_heardRow rM_cutRow iM_breaths iM_cutMany iM_allBreaths rM_trial rM_words iM_fewestBreaths iM_orderMany iM_orderSum iM_leastOrder rM_often iM_setMany iM_someOf iM_allOf iM_allWeight iM_enoughWeight iM_worthSum iM_firstRest iM_leastDrawn), (arI rM_tape kM_tape 900 fM_tape), (arI rM_letters kM_letters 8 nfM_letters)] [(kM_tape, .int), (kM_letters, .int)] t) (va_A [(oc7 oM iM_thrown rM_tape iM_taped iM_size iM_at iM_end iM_token iM_whole iM_nameSize iM_fault iM_place iM_trouble rM_letters iM_failed iM_hasCourt rM_r rM_fresh rM_told rM_read rM_st rM_undone rM_kept iM_undos iM_images rM_fresher iM_fresherSize iM_scale iM_night rM_heardRow rM_cutRow iM_breaths iM_cutMany iM_allBreaths rM_trial rM_words iM_fewestBreaths iM_orderMany iM_orderSum iM_leastOrder rM_often iM_setMany iM_someOf iM_allOf iM_allWeight iM_enoughWeight iM_worthSum iM_firstRest iM_leastDrawn), (arI rM_tape kM_tape 900 fM_tape), (arI rM_letters kM_letters 8 fM_letters)] sz)) 0 0 (va_A [(oc7 oM iM_thrown rM_tape iM_taped iM_size iM_at iM_end iM_token iM_whole iM_nameSize iM_fault iM_place iM_trouble rM_letters iM_failed iM_hasCourt rM_r rM_fresh rM_told rM_read rM_st rM_undone rM_kept iM_undos iM_images rM_fresher iM_fresherSize iM_scale iM_night rM_heardRow rM_cutRow iM_breaths iM_cutMany iM_allBreaths rM_trial rM_words iM_fewestBreaths iM_orderMany iM_orderSum iM_leastOrder rM_often iM_setMany iM_someOf iM_allOf iM_allWeight iM_enoughWeight iM_worthSum iM_firstRest iM_leastDrawn), (arI rM_tape kM_tape 900 fM_tape), (arI rM_letters kM_letters 8 fM_letters)] sz) := by
  refine Met.ofW (cc := cX7_next) (maxL := 4) (ret := none) (by decide) rfl ?_
  intro p e s m args below meth c s₁ B hml hv
  obtain ⟨rfl, hsz, hP, hK, hD0, hE⟩ := hv
  have hx := B.exec
  have hb := B.bytes
  have hr := B.returns
  have hts : ∀ w ∈ wG, w.before ([.ref oM] : List Value).toArray s = true := fun w h => atoms_spec (ws := Cond.code yX7_next cX7_next 4 none :: wG) B.pre w (List.mem_cons_of_mem _ h)
  have hown : s.vm.findClass RX7 = some m.cls := findClass_of_methodNamed B.named
  have hlocks := B.notSynchronized
  subst hsz
  have hD := hD0.self (sz := s.heap.size)
  generalize hAe : va_A [(oc7 oM iM_thrown rM_tape iM_taped iM_size iM_at iM_end iM_token iM_whole iM_nameSize iM_fault iM_place iM_trouble rM_letters iM_failed iM_hasCourt rM_r rM_fresh rM_told rM_read rM_st rM_undone rM_kept iM_undos iM_images rM_fresher iM_fresherSize iM_scale iM_night rM_heardRow rM_cutRow iM_breaths iM_cutMany iM_allBreaths rM_trial rM_words iM_fewestBreaths iM_orderMany iM_orderSum iM_leastOrder rM_often iM_setMany iM_someOf iM_allOf iM_allWeight iM_enoughWeight iM_worthSum iM_firstRest iM_leastDrawn), (arI rM_tape kM_tape 900 fM_tape), (arI rM_letters kM_letters 8 fM_letters)] s.heap.size = A at hD hE ⊢
  have hA : ∀ q : Nat, s.heap.size ≤ q → A q := fun q h => by rw [← hAe]; exact Or.inr h
  have hS : va_S A s.heap s.heap [] := va_S.rf
  have hl := lv_entry ([.ref oM]) (n := 4) (Nat.le_of_ble_eq_true rfl)
  rw [lg_entry_eq]
  generalize (lg_sl ([.ref oM]) ++ List.replicate (4 - (lg_sl ([.ref oM])).length) Slot.unset).toArray = ls at hl ⊢
  have hl : lv_has ls 4 [(0, .ref oM)] := hl
  have hG := PX7_next_eq fM_tape iM_size iM_end fM_letters
  refine lv_aload_n hx hb dX7_next_0 rfl (lv_at hl 0 rfl) ?_
  refine va_get (D := (dC, dI)) (ci := 7) (v := .int iM_end) (C := RX7) (T := TX7) (N := 48) hx hb hts inX7 hown hK hP 0 rfl rfl 5 (by decide) (hts _ wd_382) (fun _ h9 => h9) rfl dX7_next_1 ?_
  refine lv_istore_n (lv' := [(1, .int iM_end), (0, .ref oM)]) hx hb dX7_next_4 rfl hl (by decide) rfl (fun ls hl => ?_)
  have hl := lv_sub hl (l' := [(1, .int iM_end), (0, .ref oM)]) [0, 1] rfl
  have key_n_4786 : ∀ (n_4786 : Nat) (z_4785 : Int32) (H : Heap) (locs : List Loc) (ls : Array Slot), (iM_end.toInt ≤ z_4785.toInt ∧ z_4785.toInt ≤ 900) → (900 - z_4785.toInt).toNat < n_4786 → (PX7_next fM_tape iM_size iM_end fM_letters = HX7_next_0 fM_tape iM_size fM_letters n_4786 z_4785) → va_P (dC, dI) vwCl [(oc7 oM iM_thrown rM_tape iM_taped iM_size iM_at iM_end iM_token iM_whole iM_nameSize iM_fault iM_place iM_trouble rM_letters iM_failed iM_hasCourt rM_r rM_fresh rM_told rM_read rM_st rM_undone rM_kept iM_undos iM_images rM_fresher iM_fresherSize iM_scale iM_night rM_heardRow rM_cutRow iM_breaths iM_cutMany iM_allBreaths rM_trial rM_words iM_fewestBreaths iM_orderMany iM_orderSum iM_leastOrder rM_often iM_setMany iM_someOf iM_allOf iM_allWeight iM_enoughWeight iM_worthSum iM_firstRest iM_leastDrawn), (arI rM_tape kM_tape 900 fM_tape), (arI rM_letters kM_letters 8 fM_letters)] H → va_D A [(oc7 oM iM_thrown rM_tape iM_taped iM_size iM_at iM_end iM_token iM_whole iM_nameSize iM_fault iM_place iM_trouble rM_letters iM_failed iM_hasCourt rM_r rM_fresh rM_told rM_read rM_st rM_undone rM_kept iM_undos iM_images rM_fresher iM_fresherSize iM_scale iM_night rM_heardRow rM_cutRow iM_breaths iM_cutMany iM_allBreaths rM_trial rM_words iM_fewestBreaths iM_orderMany iM_orderSum iM_leastOrder rM_often iM_setMany iM_someOf iM_allOf iM_allWeight iM_enoughWeight iM_worthSum iM_firstRest iM_leastDrawn), (arI rM_tape kM_tape 900 fM_tape), (arI rM_letters kM_letters 8 fM_letters)] → va_S A s.heap H locs → lv_has ls 4 [(1, .int z_4785), (0, .ref oM)] → W p l e (headSpec (Cond.code yX7_next cX7_next 4 none :: wG) ({ frames := 1, cells := 0, slots := 0, locals := 21 })).room s m ([.ref oM] : List Value).toArray below meth c H locs 0 0 (MQ below (va_Qv (fun (_ : Nat) => True) (fun (_ : Nat) (t : State) => ∃ (niM_at : Int32) (niM_end : Int32) (niM_token : Int32) (niM_whole : Int32) (niM_nameSize : Int32) (nfM_letters : Nat → Int32), (0 ≤ niM_end.toInt ∧ niM_end.toInt ≤ 900) ∧ (0 ≤ niM_nameSize.toInt ∧ niM_nameSize.toInt ≤ 900) ∧ (iM_end.toInt ≤ niM_end.toInt) ∧ (ImpP (niM_token.toInt = 2) (niM_nameSize.toInt ≤ 8)) ∧ (ImpP (niM_token.toInt = 59 ) (iM_end.toInt + 1 ≤ niM_end.toInt)) ∧ (PX7_next fM_tape iM_size iM_end fM_letters = (niM_at, niM_end, niM_token, niM_whole, niM_nameSize, nfM_letters)) ∧ Bw dC dI A [(oc7 oM iM_thrown rM_tape iM_taped iM_size niM_at niM_end niM_token niM_whole niM_nameSize iM_fault iM_place iM_trouble rM_letters iM_failed iM_hasCourt rM_r rM_fresh rM_told rM_read rM_st rM_undone rM_kept iM_undos iM_images rM_fresher iM_fresherSize iM_scale iM_night rM_heardRow rM_cutRow iM_breaths iM_cutMany iM_allBreaths rM_trial rM_words iM_fewestBreaths iM_orderMany iM_orderSum iM_leastOrder rM_often iM_setMany iM_someOf iM_allOf iM_allWeight iM_enoughWeight iM_worthSum iM_firstRest iM_leastDrawn), (arI rM_tape kM_tape 900 fM_tape), (arI rM_letters kM_letters 8 nfM_letters)] [(kM_tape, .int), (kM_letters, .int)] t) A) ([.ref oM] : List Value).toArray s 0 0 A) (F0 m 5 ls []) := by
    intro n_4786
    induction n_4786 with
    | zero => intro z_4785 H locs ls hi0_n_4786 hm; exact absurd hm (by omega)
    | succ n_4786 ih_n_4786 =>
      intro z_4785 H locs ls hi0_n_4786 hm hG hP hD hS hl
      have hG := hG.trans (HX7_next_0_eq _ _ _ _ _)
      refine lv_aload_n hx hb dX7_next_5 rfl (lv_at hl 1 rfl) ?_
      refine lv_iload_n hx hb dX7_next_6 rfl (lv_at hl 0 rfl) ?_
      have hFc := va_free (wc := [(oc7 oM iM_thrown rM_tape iM_taped iM_size iM_at iM_end iM_token iM_whole iM_nameSize iM_fault iM_place iM_trouble rM_letters iM_failed iM_hasCourt rM_r rM_fresh rM_told rM_read rM_st rM_undone rM_kept iM_undos iM_images rM_fresher iM_fresherSize iM_scale iM_night rM_heardRow rM_cutRow iM_breaths iM_cutMany iM_allBreaths rM_trial rM_words iM_fewestBreaths iM_orderMany iM_orderSum iM_leastOrder rM_often iM_setMany iM_someOf iM_allOf iM_allWeight iM_enoughWeight iM_worthSum iM_firstRest iM_leastDrawn), (arI rM_tape kM_tape 900 fM_tape)]) hD hS hA [0, 1] rfl
      refine va_calli (va_runV (As := [.int z_4785]) (rest := []) ⟨hx, hb, hml, hown, hts⟩ (tX7_see_p l dC dI _ oM iM_thrown rM_tape fM_tape kM_tape iM_taped iM_size iM_at iM_end iM_token iM_whole iM_nameSize iM_fault iM_place iM_trouble rM_letters iM_failed iM_hasCourt rM_r rM_fresh rM_told rM_read rM_st rM_undone rM_kept iM_undos iM_images rM_fresher iM_fresherSize iM_scale iM_night rM_heardRow rM_cutRow iM_breaths iM_cutMany iM_allBreaths rM_trial rM_words iM_fewestBreaths iM_orderMany iM_orderSum iM_leastOrder rM_often iM_setMany iM_someOf iM_allOf iM_allWeight iM_enoughWeight iM_worthSum iM_firstRest iM_leastDrawn z_4785 (by first | omega | decide) (by first | omega | decide) (by first | omega | decide) (by first | omega | decide) (by first | omega | decide) (by first | omega | decide) (by first | omega | decide) (by first | omega | decide) (by first | omega | decide) (by first | omega | decide) (by first | omega | decide) (by first | omega | decide | assumption | (have q0 := kc_0; have q1 := kc_1; omega) | (intro h; exact absurd h (by decide)))) (cwV 1 hts (wd_V wd_406 wd_407 wd_408 wd_5 (wd_c wd_409)) rfl rfl rfl (by decide +kernel) ⟨Nat.le_of_ble_eq_true rfl, Nat.le_of_ble_eq_true rfl⟩) ⟨Pw.fb, va_recv hK hP (ci := 7) (q0 := 0) rfl rfl, fun U hU hW => Pw.to (hP.sub [0, 1] rfl) (hD.sub [0, 1] (by decide) rfl) (hK.sub [0] rfl) hE hS hFc hU hW⟩ rfl rfl hl.1 rfl (lv_room (Nat.le_of_ble_eq_true rfl)) dX7_next_7 ⟨Nat.le_of_ble_eq_true rfl, Nat.le_of_ble_eq_true rfl⟩) hS (fun q _ h => hFc q h) hFc (fun r u t H locs ht hvm hw hB hz1 hk1 hS => ?_)
      have hru9 := hw.2
      have hw := hw.1
      obtain ⟨hP, hD, hK⟩ := Bw.go (ws' := [(arI rM_letters kM_letters 8 fM_letters), (oc7 oM iM_thrown rM_tape iM_taped iM_size iM_at iM_end iM_token iM_whole iM_nameSize iM_fault iM_place iM_trouble rM_letters iM_failed iM_hasCourt rM_r rM_fresh rM_told rM_read rM_st rM_undone rM_kept iM_undos iM_images rM_fresher iM_fresherSize iM_scale iM_night rM_heardRow rM_cutRow iM_breaths iM_cutMany iM_allBreaths rM_trial rM_words iM_fewestBreaths iM_orderMany iM_orderSum iM_leastOrder rM_often iM_setMany iM_someOf iM_allOf iM_allWeight iM_enoughWeight iM_worthSum iM_firstRest iM_leastDrawn), (arI rM_tape kM_tape 900 fM_tape)]) (tys' := [(kM_letters, .int), (kM_tape, .int)]) hB rfl ht hvm hP hD hK [0, 1] [2] rfl (by decide) (by decide) [1] hk1 hFc rfl rfl rfl
      clear hz1 hk1 hvm ht hB
      obtain ⟨x_4787, rfl⟩ : ∃ z, z = r := ⟨_, rfl⟩
      have hG := hG.trans (lt_eq hru9.symm)
      have lx_4787 := hw.2
      refine lv_bipush (v := 32) hx hb dX7_next_10 (by decide) ?_
      refine lv_icmp_ne (tgt := 21) hx hb dX7_next_12 (by decide) (fun c_4788 => ?_) (fun c_4788 => ?_)
      · skip
        have hG := hG.trans (if_neg c_4788)
        have gc_4788 := ti_ne c_4788 rfl kc_32
        refine lv_aload_n hx hb dX7_next_21 rfl (lv_at hl 1 rfl) ?_
        refine lv_iload_n hx hb dX7_next_22 rfl (lv_at hl 0 rfl) ?_
        refine va_put (D := (dC, dI)) (ci := 7) (v := .int z_4785) (ty := .int) (C := RX7) (T := TX7) (N := 48) hx hb hts inX7 tyX7 tyX7_ok nmX7 hown hK hP hD hS 1 rfl rfl 4 (by decide) (hts _ wd_384) (fun _ h9 => h9) rfl (by decide +kernel) rfl rfl (Nat.le_of_ble_eq_true rfl) dX7_next_23 (fun H locs hP hD hS => ?_)
        obtain ⟨hP, hD⟩ := wl2 (ws' := [(arI rM_letters kM_letters 8 fM_letters), (oc7 oM iM_thrown rM_tape iM_taped iM_size z_4785 iM_end iM_token iM_whole iM_nameSize iM_fault iM_place iM_trouble rM_letters iM_failed iM_hasCourt rM_r rM_fresh rM_told rM_read rM_st rM_undone rM_kept iM_undos iM_images rM_fresher iM_fresherSize iM_scale iM_night rM_heardRow rM_cutRow iM_breaths iM_cutMany iM_allBreaths rM_trial rM_words iM_fewestBreaths iM_orderMany iM_orderSum iM_leastOrder rM_often iM_setMany iM_someOf iM_allOf iM_allWeight iM_enoughWeight iM_worthSum iM_firstRest iM_leastDrawn), (arI rM_tape kM_tape 900 fM_tape)]) hP hD rfl
        refine lv_aload_n hx hb dX7_next_26 rfl (lv_at hl 1 rfl) ?_
        refine lv_iload_n hx hb dX7_next_27 rfl (lv_at hl 0 rfl) ?_
        have hFc := va_free (wc := [(oc7 oM iM_thrown rM_tape iM_taped iM_size z_4785 iM_end iM_token iM_whole iM_nameSize iM_fault iM_place iM_trouble rM_letters iM_failed iM_hasCourt rM_r rM_fresh rM_told rM_read rM_st rM_undone rM_kept iM_undos iM_images rM_fresher iM_fresherSize iM_scale iM_night rM_heardRow rM_cutRow iM_breaths iM_cutMany iM_allBreaths rM_trial rM_words iM_fewestBreaths iM_orderMany iM_orderSum iM_leastOrder rM_often iM_setMany iM_someOf iM_allOf iM_allWeight iM_enoughWeight iM_worthSum iM_firstRest iM_leastDrawn), (arI rM_tape kM_tape 900 fM_tape)]) hD hS hA [1, 2] rfl
        refine va_calli (va_runV (As := [.int z_4785]) (rest := []) ⟨hx, hb, hml, hown, hts⟩ (tX7_see_p l dC dI _ oM iM_thrown rM_tape fM_tape kM_tape iM_taped iM_size z_4785 iM_end iM_token iM_whole iM_nameSize iM_fault iM_place iM_trouble rM_letters iM_failed iM_hasCourt rM_r rM_fresh rM_told rM_read rM_st rM_undone rM_kept iM_undos iM_images rM_fresher iM_fresherSize iM_scale iM_night rM_heardRow rM_cutRow iM_breaths iM_cutMany iM_allBreaths rM_trial rM_words iM_fewestBreaths iM_orderMany iM_orderSum iM_leastOrder rM_often iM_setMany iM_someOf iM_allOf iM_allWeight iM_enoughWeight iM_worthSum iM_firstRest iM_leastDrawn z_4785 (by first | omega | decide) (by first | omega | decide) (by first | omega | decide) (by first | omega | decide) (by first | omega | decide) (by first | omega | decide) (by first | omega | decide) (by first | omega | decide) (by first | omega | decide) (by first | omega | decide) (by first | omega | decide) (by first | omega | decide | assumption | (have q0 := kc_0; have q1 := kc_1; omega) | (intro h; exact absurd h (by decide)))) (cwV 1 hts (wd_V wd_406 wd_407 wd_408 wd_5 (wd_c wd_409)) rfl rfl rfl (by decide +kernel) ⟨Nat.le_of_ble_eq_true rfl, Nat.le_of_ble_eq_true rfl⟩) ⟨Pw.fb, va_recv hK hP (ci := 7) (q0 := 1) rfl rfl, fun U hU hW => Pw.to (hP.sub [1, 2] rfl) (hD.sub [1, 2] (by decide) rfl) (hK.sub [1] rfl) hE hS hFc hU hW⟩ rfl rfl hl.1 rfl (lv_room (Nat.le_of_ble_eq_true rfl)) dX7_next_28 ⟨Nat.le_of_ble_eq_true rfl, Nat.le_of_ble_eq_true rfl⟩) hS (fun q _ h => hFc q h) hFc (fun r u t H locs ht hvm hw hB hz1 hk1 hS => ?_)
        have hru9 := hw.2
        have hw := hw.1
        obtain ⟨hP, hD, hK⟩ := Bw.go (ws' := [(arI rM_letters kM_letters 8 fM_letters), (oc7 oM iM_thrown rM_tape iM_taped iM_size z_4785 iM_end iM_token iM_whole iM_nameSize iM_fault iM_place iM_trouble rM_letters iM_failed iM_hasCourt rM_r rM_fresh rM_told rM_read rM_st rM_undone rM_kept iM_undos iM_images rM_fresher iM_fresherSize iM_scale iM_night rM_heardRow rM_cutRow iM_breaths iM_cutMany iM_allBreaths rM_trial rM_words iM_fewestBreaths iM_orderMany iM_orderSum iM_leastOrder rM_often iM_setMany iM_someOf iM_allOf iM_allWeight iM_enoughWeight iM_worthSum iM_firstRest iM_leastDrawn), (arI rM_tape kM_tape 900 fM_tape)]) (tys' := [(kM_letters, .int), (kM_tape, .int)]) hB rfl ht hvm hP hD hK [1, 2] [0] rfl (by decide) (by decide) [0] hk1 hFc rfl rfl rfl
        clear hz1 hk1 hvm ht hB
        obtain ⟨x_4789, rfl⟩ : ∃ z, z = r := ⟨_, rfl⟩
        have hG := hG.trans (lt_eq hru9.symm)
        have lx_4789 := hw.2
        refine lv_istore_n (lv' := [(2, .int x_4789), (1, .int z_4785), (0, .ref oM)]) hx hb dX7_next_31 rfl hl (by decide) rfl (fun ls hl => ?_)
        refine lv_aload_n hx hb dX7_next_32 rfl (lv_at hl 2 rfl) ?_
        refine lv_iconst (v := 0) hx hb dX7_next_33 (by decide) ?_
        refine va_put (D := (dC, dI)) (ci := 7) (v := .int 0) (ty := .int) (C := RX7) (T := TX7) (N := 48) hx hb hts inX7 tyX7 tyX7_ok nmX7 hown hK hP hD hS 1 rfl rfl 8 (by decide) (hts _ wd_404) (fun _ h9 => h9) rfl (by decide +kernel) rfl rfl (Nat.le_of_ble_eq_true rfl) dX7_next_34 (fun H locs hP hD hS => ?_)
        obtain ⟨hP, hD⟩ := wl2 (ws' := [(arI rM_letters kM_letters 8 fM_letters), (oc7 oM iM_thrown rM_tape iM_taped iM_size z_4785 iM_end iM_token iM_whole 0 iM_fault iM_place iM_trouble rM_letters iM_failed iM_hasCourt rM_r rM_fresh rM_told rM_read rM_st rM_undone rM_kept iM_undos iM_images rM_fresher iM_fresherSize iM_scale iM_night rM_heardRow rM_cutRow iM_breaths iM_cutMany iM_allBreaths rM_trial rM_words iM_fewestBreaths iM_orderMany iM_orderSum iM_leastOrder rM_often iM_setMany iM_someOf iM_allOf iM_allWeight iM_enoughWeight iM_worthSum iM_firstRest iM_leastDrawn), (arI rM_tape kM_tape 900 fM_tape)]) hP hD rfl
        refine lv_aload_n hx hb dX7_next_37 rfl (lv_at hl 2 rfl) ?_
        refine lv_iconst (v := 0) hx hb dX7_next_38 (by decide) ?_
        refine va_put (D := (dC, dI)) (ci := 7) (v := .int 0) (ty := .int) (C := RX7) (T := TX7) (N := 48) hx hb hts inX7 tyX7 tyX7_ok nmX7 hown hK hP hD hS 1 rfl rfl 7 (by decide) (hts _ wd_405) (fun _ h9 => h9) rfl (by decide +kernel) rfl rfl (Nat.le_of_ble_eq_true rfl) dX7_next_39 (fun H locs hP hD hS => ?_)
        obtain ⟨hP, hD⟩ := wl2 (ws' := [(arI rM_letters kM_letters 8 fM_letters), (oc7 oM iM_thrown rM_tape iM_taped iM_size z_4785 iM_end iM_token 0 0 iM_fault iM_place iM_trouble rM_letters iM_failed iM_hasCourt rM_r rM_fresh rM_told rM_read rM_st rM_undone rM_kept iM_undos iM_images rM_fresher iM_fresherSize iM_scale iM_night rM_heardRow rM_cutRow iM_breaths iM_cutMany iM_allBreaths rM_trial rM_words iM_fewestBreaths iM_orderMany iM_orderSum iM_leastOrder rM_often iM_setMany iM_someOf iM_allOf iM_allWeight iM_enoughWeight iM_worthSum iM_firstRest iM_leastDrawn), (arI rM_tape kM_tape 900 fM_tape)]) hP hD rfl
        refine lv_iload_n hx hb dX7_next_42 rfl (lv_at hl 0 rfl) ?_
        refine lv_iconst (v := (-1)) hx hb dX7_next_43 (by decide) ?_
        refine lv_icmp_ne (tgt := 60) hx hb dX7_next_44 (by decide) (fun c_4790 => ?_) (fun c_4790 => ?_)
        · skip
          have hG := hG.trans (if_neg c_4790)
          have gc_4790 := ti_ne c_4790 rfl kc_m1
          have h_4791 := lx_4789 (by omega)
          clear lx_4789
          refine lv_iload_n hx hb dX7_next_60 rfl (lv_at hl 0 rfl) ?_
          have hFc : ∀ q, va_A [] _ q → A q := fun q h => hA q (Nat.le_trans hS.1 (va_nilA h))
          refine va_calli (va_runS (As := [.int x_4789]) (rest := []) ⟨hx, hb, hml, hown, hts⟩ (tX7_isSmall_p l dC dI _ x_4789 ) (va_cwS 1 hts (wd_S wd_410 wd_411 wd_5 (wd_c wd_412)) rfl rfl rfl (by decide +kernel) ⟨Nat.le_of_ble_eq_true rfl, Nat.le_of_ble_eq_true rfl⟩) ⟨Pw.fb, fun U hU hW => Pn.to hK hE hS hA hU hW⟩ rfl rfl hl.1 rfl (lv_room (Nat.le_of_ble_eq_true rfl)) dX7_next_61 ⟨Nat.le_of_ble_eq_true rfl, Nat.le_of_ble_eq_true rfl⟩) hS (fun q _ h => hFc q h) hFc (fun r u t H locs ht hvm hw hB hz1 hk1 hS => ?_)
          obtain ⟨hP, hD, hK⟩ := Bw.same ht hvm hP hD hK hk1 hFc
          clear hz1 hk1 hvm ht hB
          have hq9 := hw.2
          have hw := hw.1
          obtain ⟨x_4792, rfl⟩ : ∃ z, z = r := ⟨_, rfl⟩
          have hq_x_4792 := hq9
          have hG := hG.trans (lt_eq hq_x_4792.symm)
          have bx_4792 := hw.1
          have dx_4792 := bz_ti bx_4792
          have lx_4792 := hw.2
          refine lv_if_eq (tgt := 143) hx hb dX7_next_64 (by decide) (fun c_4793 => ?_) (fun c_4793 => ?_)
          · skip
            have hG := hG.trans (if_pos c_4793)
            have gc_4793 := ti_eq c_4793 rfl kc_0
            clear lx_4792
            refine lv_iload_n hx hb dX7_next_143 rfl (lv_at hl 0 rfl) ?_
            have hFc : ∀ q, va_A [] _ q → A q := fun q h => hA q (Nat.le_trans hS.1 (va_nilA h))
            refine va_calli (va_runS (As := [.int x_4789]) (rest := []) ⟨hx, hb, hml, hown, hts⟩ (tX7_isDigit_p l dC dI _ x_4789 ) (va_cwS 1 hts (wd_S wd_413 wd_414 wd_5 (wd_c wd_415)) rfl rfl rfl (by decide +kernel) ⟨Nat.le_of_ble_eq_true rfl, Nat.le_of_ble_eq_true rfl⟩) ⟨Pw.fb, fun U hU hW => Pn.to hK hE hS hA hU hW⟩ rfl rfl hl.1 rfl (lv_room (Nat.le_of_ble_eq_true rfl)) dX7_next_144 ⟨Nat.le_of_ble_eq_true rfl, Nat.le_of_ble_eq_true rfl⟩) hS (fun q _ h => hFc q h) hFc (fun r u t H locs ht hvm hw hB hz1 hk1 hS => ?_)
            obtain ⟨hP, hD, hK⟩ := Bw.same ht hvm hP hD hK hk1 hFc
            clear hz1 hk1 hvm ht hB
            have hq9 := hw.2
            have hw := hw.1
            obtain ⟨x_4794, rfl⟩ : ∃ z, z = r := ⟨_, rfl⟩
            have hq_x_4794 := hq9
            have hG := hG.trans (lt_eq hq_x_4794.symm)
            have bx_4794 := hw.1
            have dx_4794 := bz_ti bx_4794
            have lx_4794 := hw.2
            refine lv_if_eq (tgt := 219) hx hb dX7_next_147 (by decide) (fun c_4795 => ?_) (fun c_4795 => ?_)
            · skip
              have hG := hG.trans (if_pos c_4795)
              have gc_4795 := ti_eq c_4795 rfl kc_0
              clear lx_4794
              refine lv_aload_n hx hb dX7_next_219 rfl (lv_at hl 2 rfl) ?_
              refine lv_iload_n hx hb dX7_next_220 rfl (lv_at hl 1 rfl) ?_
              refine lv_iconst (v := 1) hx hb dX7_next_221 (by decide) ?_
              refine lv_iadd hx hb dX7_next_222 ?_
              refine lv_topi (fun x_4796 ex_4796 => ?_)
              have hG := hG.trans (lt_eq ex_4796)
              have vx_4796 : x_4796.toInt = z_4785.toInt + 1 := by have q := ti_add ex_4796 rfl kc_1 (by omega) (by omega); omega
              refine va_put (D := (dC, dI)) (ci := 7) (v := .int x_4796) (ty := .int) (C := RX7) (T := TX7) (N := 48) hx hb hts inX7 tyX7 tyX7_ok nmX7 hown hK hP hD hS 1 rfl rfl 5 (by decide) (hts _ wd_382) (fun _ h9 => h9) rfl (by decide +kernel) rfl rfl (Nat.le_of_ble_eq_true rfl) dX7_next_223 (fun H locs hP hD hS => ?_)
              obtain ⟨hP, hD⟩ := wl2 (ws' := [(arI rM_letters kM_letters 8 fM_letters), (oc7 oM iM_thrown rM_tape iM_taped iM_size z_4785 x_4796 iM_token 0 0 iM_fault iM_place iM_trouble rM_letters iM_failed iM_hasCourt rM_r rM_fresh rM_told rM_read rM_st rM_undone rM_kept iM_undos iM_images rM_fresher iM_fresherSize iM_scale iM_night rM_heardRow rM_cutRow iM_breaths iM_cutMany iM_allBreaths rM_trial rM_words iM_fewestBreaths iM_orderMany iM_orderSum iM_leastOrder rM_often iM_setMany iM_someOf iM_allOf iM_allWeight iM_enoughWeight iM_worthSum iM_firstRest iM_leastDrawn), (arI rM_tape kM_tape 900 fM_tape)]) hP hD rfl
              refine lv_aload_n hx hb dX7_next_226 rfl (lv_at hl 2 rfl) ?_
              refine lv_iload_n hx hb dX7_next_227 rfl (lv_at hl 0 rfl) ?_
              refine lv_bipush (v := 59) hx hb dX7_next_228 (by decide) ?_
              refine lv_icmp_eq (tgt := 239) hx hb dX7_next_230 (by decide) (fun c_4797 => ?_) (fun c_4797 => ?_)
              · skip
                have hG := hG.trans (if_pos c_4797)
                have gc_4797 := ti_eq c_4797 rfl kc_59
                refine lv_iload_n hx hb dX7_next_239 rfl (lv_at hl 0 rfl) ?_
                refine lv_goto (tgt := 244) hx hb dX7_next_240 (by decide) ?_
                refine va_put (D := (dC, dI)) (ci := 7) (v := .int x_4789) (ty := .int) (C := RX7) (T := TX7) (N := 48) hx hb hts inX7 tyX7 tyX7_ok nmX7 hown hK hP hD hS 1 rfl rfl 6 (by decide) (hts _ wd_383) (fun _ h9 => h9) rfl (by decide +kernel) rfl rfl (Nat.le_of_ble_eq_true rfl) dX7_next_244 (fun H locs hP hD hS => ?_)
                obtain ⟨hP, hD⟩ := wl2 (ws' := [(arI rM_letters kM_letters 8 fM_letters), (oc7 oM iM_thrown rM_tape iM_taped iM_size z_4785 x_4796 x_4789 0 0 iM_fault iM_place iM_trouble rM_letters iM_failed iM_hasCourt rM_r rM_fresh rM_told rM_read rM_st rM_undone rM_kept iM_undos iM_images rM_fresher iM_fresherSize iM_scale iM_night rM_heardRow rM_cutRow iM_breaths iM_cutMany iM_allBreaths rM_trial rM_words iM_fewestBreaths iM_orderMany iM_orderSum iM_leastOrder rM_often iM_setMany iM_someOf iM_allOf iM_allWeight iM_enoughWeight iM_worthSum iM_firstRest iM_leastDrawn), (arI rM_tape kM_tape 900 fM_tape)]) hP hD rfl
                exact W.vret hx hb hr (fun t ht hW => ⟨⟨0, rfl, trivial, ⟨z_4785, x_4796, x_4789, 0, 0, fM_letters, (by have q := vx_4796; omega), (by decide), (by have q0 := kc_0; have q1 := kc_1; have q2 := kc_2; have q3 := kc_3; omega), (fun h9 => by have q0 := kc_0; have q1 := kc_1; have q2 := kc_2; have q3 := kc_3; omega), (fun h9 => by have q0 := kc_0; have q1 := kc_1; have q2 := kc_2; have q3 := kc_3; omega), hG, Bw.to (hP.sub [1, 2, 0] rfl) (hD.sub [1, 2, 0] (by decide) rfl) (hK.sub [1, 0] rfl) ht hW⟩⟩, hS.F ht⟩) hS.2.2 dX7_next_247
              · skip
                have hG := hG.trans (if_neg c_4797)
                have gc_4797 := ti_ne c_4797 rfl kc_59
                refine lv_iload_n hx hb dX7_next_233 rfl (lv_at hl 0 rfl) ?_
                refine lv_bipush (v := 44) hx hb dX7_next_234 (by decide) ?_
                refine lv_icmp_ne (tgt := 243) hx hb dX7_next_236 (by decide) (fun c_4798 => ?_) (fun c_4798 => ?_)
                · skip
                  have hG := hG.trans (if_neg c_4798)
                  have gc_4798 := ti_ne c_4798 rfl kc_44
                  refine lv_iconst (v := 1) hx hb dX7_next_243 (by decide) ?_
                  refine va_put (D := (dC, dI)) (ci := 7) (v := .int 1) (ty := .int) (C := RX7) (T := TX7) (N := 48) hx hb hts inX7 tyX7 tyX7_ok nmX7 hown hK hP hD hS 1 rfl rfl 6 (by decide) (hts _ wd_383) (fun _ h9 => h9) rfl (by decide +kernel) rfl rfl (Nat.le_of_ble_eq_true rfl) dX7_next_244 (fun H locs hP hD hS => ?_)
                  obtain ⟨hP, hD⟩ := wl2 (ws' := [(arI rM_letters kM_letters 8 fM_letters), (oc7 oM iM_thrown rM_tape iM_taped iM_size z_4785 x_4796 1 0 0 iM_fault iM_place iM_trouble rM_letters iM_failed iM_hasCourt rM_r rM_fresh rM_told rM_read rM_st rM_undone rM_kept iM_undos iM_images rM_fresher iM_fresherSize iM_scale iM_night rM_heardRow rM_cutRow iM_breaths iM_cutMany iM_allBreaths rM_trial rM_words iM_fewestBreaths iM_orderMany iM_orderSum iM_leastOrder rM_often iM_setMany iM_someOf iM_allOf iM_allWeight iM_enoughWeight iM_worthSum iM_firstRest iM_leastDrawn), (arI rM_tape kM_tape 900 fM_tape)]) hP hD rfl
                  exact W.vret hx hb hr (fun t ht hW => ⟨⟨0, rfl, trivial, ⟨z_4785, x_4796, 1, 0, 0, fM_letters, (by have q := vx_4796; omega), (by decide), (by have q0 := kc_0; have q1 := kc_1; have q2 := kc_2; have q3 := kc_3; omega), (fun h9 => by have q0 := kc_0; have q1 := kc_1; have q2 := kc_2; have q3 := kc_3; omega), (fun h9 => by have q0 := kc_0; have q1 := kc_1; have q2 := kc_2; have q3 := kc_3; omega), hG, Bw.to (hP.sub [1, 2, 0] rfl) (hD.sub [1, 2, 0] (by decide) rfl) (hK.sub [1, 0] rfl) ht hW⟩⟩, hS.F ht⟩) hS.2.2 dX7_next_247
                · skip
                  have hG := hG.trans (if_pos c_4798)
                  have gc_4798 := ti_eq c_4798 rfl kc_44
                  refine lv_iload_n hx hb dX7_next_239 rfl (lv_at hl 0 rfl) ?_
                  refine lv_goto (tgt := 244) hx hb dX7_next_240 (by decide) ?_
                  refine va_put (D := (dC, dI)) (ci := 7) (v := .int x_4789) (ty := .int) (C := RX7) (T := TX7) (N := 48) hx hb hts inX7 tyX7 tyX7_ok nmX7 hown hK hP hD hS 1 rfl rfl 6 (by decide) (hts _ wd_383) (fun _ h9 => h9) rfl (by decide +kernel) rfl rfl (Nat.le_of_ble_eq_true rfl) dX7_next_244 (fun H locs hP hD hS => ?_)
                  obtain ⟨hP, hD⟩ := wl2 (ws' := [(arI rM_letters kM_letters 8 fM_letters), (oc7 oM iM_thrown rM_tape iM_taped iM_size z_4785 x_4796 x_4789 0 0 iM_fault iM_place iM_trouble rM_letters iM_failed iM_hasCourt rM_r rM_fresh rM_told rM_read rM_st rM_undone rM_kept iM_undos iM_images rM_fresher iM_fresherSize iM_scale iM_night rM_heardRow rM_cutRow iM_breaths iM_cutMany iM_allBreaths rM_trial rM_words iM_fewestBreaths iM_orderMany iM_orderSum iM_leastOrder rM_often iM_setMany iM_someOf iM_allOf iM_allWeight iM_enoughWeight iM_worthSum iM_firstRest iM_leastDrawn), (arI rM_tape kM_tape 900 fM_tape)]) hP hD rfl
                  exact W.vret hx hb hr (fun t ht hW => ⟨⟨0, rfl, trivial, ⟨z_4785, x_4796, x_4789, 0, 0, fM_letters, (by have q := vx_4796; omega), (by decide), (by have q0 := kc_0; have q1 := kc_1; have q2 := kc_2; have q3 := kc_3; omega), (fun h9 => by have q0 := kc_0; have q1 := kc_1; have q2 := kc_2; have q3 := kc_3; omega), (fun h9 => by have q0 := kc_0; have q1 := kc_1; have q2 := kc_2; have q3 := kc_3; omega), hG, Bw.to (hP.sub [1, 2, 0] rfl) (hD.sub [1, 2, 0] (by decide) rfl) (hK.sub [1, 0] rfl) ht hW⟩⟩, hS.F ht⟩) hS.2.2 dX7_next_247
            · skip
              have hG := hG.trans (if_neg c_4795)
              have gc_4795 := ti_ne c_4795 rfl kc_0
              replace gc_4795 : (-1) * x_4794.toInt + 1 ≤ 0 := by omega
              have h_4799 := lx_4794 (by omega)
              clear lx_4794
              refine lv_iconst (v := 0) hx hb dX7_next_150 (by decide) ?_
              refine lv_istore_n (lv' := [(3, .int 0), (2, .int x_4789), (1, .int z_4785), (0, .ref oM)]) hx hb dX7_next_151 rfl hl (by decide) rfl (fun ls hl => ?_)
              have hl := lv_sub hl (l' := [(3, .int 0), (2, .int x_4789), (1, .int z_4785), (0, .ref oM)]) [0, 1, 2, 3] rfl
              have key_n_4803 : ∀ (n_4803 : Nat) (z_4800 : Int32) (z_4801 : Int32) (z_4802 : Int32) (H : Heap) (locs : List Loc) (ls : Array Slot), (iM_end.toInt ≤ z_4800.toInt ∧ z_4800.toInt ≤ 900) → (0 ≤ z_4801.toInt ∧ z_4801.toInt ≤ z_4800.toInt) → (900 - z_4800.toInt).toNat < n_4803 → (PX7_next fM_tape iM_size iM_end fM_letters = HX7_next_1 fM_tape iM_size fM_letters z_4785 n_4803 z_4800 z_4801 z_4802) → va_P (dC, dI) vwCl [(arI rM_letters kM_letters 8 fM_letters), (oc7 oM iM_thrown rM_tape iM_taped iM_size z_4785 iM_end iM_token z_4802 0 iM_fault iM_place iM_trouble rM_letters iM_failed iM_hasCourt rM_r rM_fresh rM_told rM_read rM_st rM_undone rM_kept iM_undos iM_images rM_fresher iM_fresherSize iM_scale iM_night rM_heardRow rM_cutRow iM_breaths iM_cutMany iM_allBreaths rM_trial rM_words iM_fewestBreaths iM_orderMany iM_orderSum iM_leastOrder rM_often iM_setMany iM_someOf iM_allOf iM_allWeight iM_enoughWeight iM_worthSum iM_firstRest iM_leastDrawn), (arI rM_tape kM_tape 900 fM_tape)] H → va_D A [(arI rM_letters kM_letters 8 fM_letters), (oc7 oM iM_thrown rM_tape iM_taped iM_size z_4785 iM_end iM_token z_4802 0 iM_fault iM_place iM_trouble rM_letters iM_failed iM_hasCourt rM_r rM_fresh rM_told rM_read rM_st rM_undone rM_kept iM_undos iM_images rM_fresher iM_fresherSize iM_scale iM_night rM_heardRow rM_cutRow iM_breaths iM_cutMany iM_allBreaths rM_trial rM_words iM_fewestBreaths iM_orderMany iM_orderSum iM_leastOrder rM_often iM_setMany iM_someOf iM_allOf iM_allWeight iM_enoughWeight iM_worthSum iM_firstRest iM_leastDrawn), (arI rM_tape kM_tape 900 fM_tape)] → va_S A s.heap H locs → lv_has ls 4 [(3, .int z_4801), (2, .int x_4789), (1, .int z_4800), (0, .ref oM)] → W p l e (headSpec (Cond.code yX7_next cX7_next 4 none :: wG) ({ frames := 1, cells := 0, slots := 0, locals := 21 })).room s m ([.ref oM] : List Value).toArray below meth c H locs 0 0 (MQ below (va_Qv (fun (_ : Nat) => True) (fun (_ : Nat) (t : State) => ∃ (niM_at : Int32) (niM_end : Int32) (niM_token : Int32) (niM_whole : Int32) (niM_nameSize : Int32) (nfM_letters : Nat → Int32), (0 ≤ niM_end.toInt ∧ niM_end.toInt ≤ 900) ∧ (0 ≤ niM_nameSize.toInt ∧ niM_nameSize.toInt ≤ 900) ∧ (iM_end.toInt ≤ niM_end.toInt) ∧ (ImpP (niM_token.toInt = 2) (niM_nameSize.toInt ≤ 8)) ∧ (ImpP (niM_token.toInt = 59 ) (iM_end.toInt + 1 ≤ niM_end.toInt)) ∧ (PX7_next fM_tape iM_size iM_end fM_letters = (niM_at, niM_end, niM_token, niM_whole, niM_nameSize, nfM_letters)) ∧ Bw dC dI A [(oc7 oM iM_thrown rM_tape iM_taped iM_size niM_at niM_end niM_token niM_whole niM_nameSize iM_fault iM_place iM_trouble rM_letters iM_failed iM_hasCourt rM_r rM_fresh rM_told rM_read rM_st rM_undone rM_kept iM_undos iM_images rM_fresher iM_fresherSize iM_scale iM_night rM_heardRow rM_cutRow iM_breaths iM_cutMany iM_allBreaths rM_trial rM_words iM_fewestBreaths iM_orderMany iM_orderSum iM_leastOrder rM_often iM_setMany iM_someOf iM_allOf iM_allWeight iM_enoughWeight iM_worthSum iM_firstRest iM_leastDrawn), (arI rM_tape kM_tape 900 fM_tape), (arI rM_letters kM_letters 8 nfM_letters)] [(kM_tape, .int), (kM_letters, .int)] t) A) ([.ref oM] : List Value).toArray s 0 0 A) (F0 m 152 ls []) := by
                intro n_4803
                induction n_4803 with
                | zero => intro z_4800 z_4801 z_4802 H locs ls hi0_n_4803 hi1_n_4803 hm; exact absurd hm (by omega)
                | succ n_4803 ih_n_4803 =>
                  intro z_4800 z_4801 z_4802 H locs ls hi0_n_4803 hi1_n_4803 hm hG hP hD hS hl
                  have hG := hG.trans (HX7_next_1_eq _ _ _ _ _ _ _ _)
                  refine lv_aload_n hx hb dX7_next_152 rfl (lv_at hl 3 rfl) ?_
                  refine lv_iload_n hx hb dX7_next_153 rfl (lv_at hl 2 rfl) ?_
                  have hFc := va_free (wc := [(oc7 oM iM_thrown rM_tape iM_taped iM_size z_4785 iM_end iM_token z_4802 0 iM_fault iM_place iM_trouble rM_letters iM_failed iM_hasCourt rM_r rM_fresh rM_told rM_read rM_st rM_undone rM_kept iM_undos iM_images rM_fresher iM_fresherSize iM_scale iM_night rM_heardRow rM_cutRow iM_breaths iM_cutMany iM_allBreaths rM_trial rM_words iM_fewestBreaths iM_orderMany iM_orderSum iM_leastOrder rM_often iM_setMany iM_someOf iM_allOf iM_allWeight iM_enoughWeight iM_worthSum iM_firstRest iM_leastDrawn), (arI rM_tape kM_tape 900 fM_tape)]) hD hS hA [1, 2] rfl
                  refine va_calli (va_runV (As := [.int z_4800]) (rest := []) ⟨hx, hb, hml, hown, hts⟩ (tX7_see_p l dC dI _ oM iM_thrown rM_tape fM_tape kM_tape iM_taped iM_size z_4785 iM_end iM_token z_4802 0 iM_fault iM_place iM_trouble rM_letters iM_failed iM_hasCourt rM_r rM_fresh rM_told rM_read rM_st rM_undone rM_kept iM_undos iM_images rM_fresher iM_fresherSize iM_scale iM_night rM_heardRow rM_cutRow iM_breaths iM_cutMany iM_allBreaths rM_trial rM_words iM_fewestBreaths iM_orderMany iM_orderSum iM_leastOrder rM_often iM_setMany iM_someOf iM_allOf iM_allWeight iM_enoughWeight iM_worthSum iM_firstRest iM_leastDrawn z_4800 (by first | omega | decide) (by first | omega | decide) (by first | omega | decide) (by first | decide | omega) (by first | omega | decide) (by first | omega | decide) (by first | omega | decide) (by first | omega | decide) (by first | omega | decide) (by first | omega | decide) (by first | omega | decide) (by first | omega | decide | assumption | (have q0 := kc_0; have q1 := kc_1; omega) | (intro h; exact absurd h (by decide)))) (cwV 1 hts (wd_V wd_406 wd_407 wd_408 wd_5 (wd_c wd_409)) rfl rfl rfl (by decide +kernel) ⟨Nat.le_of_ble_eq_true rfl, Nat.le_of_ble_eq_true rfl⟩) ⟨Pw.fb, va_recv hK hP (ci := 7) (q0 := 1) rfl rfl, fun U hU hW => Pw.to (hP.sub [1, 2] rfl) (hD.sub [1, 2] (by decide) rfl) (hK.sub [1] rfl) hE hS hFc hU hW⟩ rfl rfl hl.1 rfl (lv_room (Nat.le_of_ble_eq_true rfl)) dX7_next_154 ⟨Nat.le_of_ble_eq_true rfl, Nat.le_of_ble_eq_true rfl⟩) hS (fun q _ h => hFc q h) hFc (fun r u t H locs ht hvm hw hB hz1 hk1 hS => ?_)
                  have hru9 := hw.2
                  have hw := hw.1
                  obtain ⟨hP, hD, hK⟩ := Bw.go (ws' := [(arI rM_letters kM_letters 8 fM_letters), (oc7 oM iM_thrown rM_tape iM_taped iM_size z_4785 iM_end iM_token z_4802 0 iM_fault iM_place iM_trouble rM_letters iM_failed iM_hasCourt rM_r rM_fresh rM_told rM_read rM_st rM_undone rM_kept iM_undos iM_images rM_fresher iM_fresherSize iM_scale iM_night rM_heardRow rM_cutRow iM_breaths iM_cutMany iM_allBreaths rM_trial rM_words iM_fewestBreaths iM_orderMany iM_orderSum iM_leastOrder rM_often iM_setMany iM_someOf iM_allOf iM_allWeight iM_enoughWeight iM_worthSum iM_firstRest iM_leastDrawn), (arI rM_tape kM_tape 900 fM_tape)]) (tys' := [(kM_letters, .int), (kM_tape, .int)]) hB rfl ht hvm hP hD hK [1, 2] [0] rfl (by decide) (by decide) [0] hk1 hFc rfl rfl rfl
                  clear hz1 hk1 hvm ht hB
                  obtain ⟨x_4804, rfl⟩ : ∃ z, z = r := ⟨_, rfl⟩
                  have hG := hG.trans (lt_eq hru9.symm)
                  have lx_4804 := hw.2
                  have hFc : ∀ q, va_A [] _ q → A q := fun q h => hA q (Nat.le_trans hS.1 (va_nilA h))
                  refine va_calli (va_runS (As := [.int x_4804]) (rest := []) ⟨hx, hb, hml, hown, hts⟩ (tX7_isDigit_p l dC dI _ x_4804 ) (va_cwS 1 hts (wd_S wd_413 wd_414 wd_5 (wd_c wd_415)) rfl rfl rfl (by decide +kernel) ⟨Nat.le_of_ble_eq_true rfl, Nat.le_of_ble_eq_true rfl⟩) ⟨Pw.fb, fun U hU hW => Pn.to hK hE hS hA hU hW⟩ rfl rfl hl.1 rfl (lv_room (Nat.le_of_ble_eq_true rfl)) dX7_next_157 ⟨Nat.le_of_ble_eq_true rfl, Nat.le_of_ble_eq_true rfl⟩) hS (fun q _ h => hFc q h) hFc (fun r u t H locs ht hvm hw hB hz1 hk1 hS => ?_)
                  obtain ⟨hP, hD, hK⟩ := Bw.same ht hvm hP hD hK hk1 hFc
                  clear hz1 hk1 hvm ht hB
                  have hq9 := hw.2
                  have hw := hw.1
                  obtain ⟨x_4805, rfl⟩ : ∃ z, z = r := ⟨_, rfl⟩
                  have hq_x_4805 := hq9
                  have hG := hG.trans (lt_eq hq_x_4805.symm)
                  have bx_4805 := hw.1
                  have dx_4805 := bz_ti bx_4805
                  have lx_4805 := hw.2
                  refine lv_if_eq (tgt := 197) hx hb dX7_next_160 (by decide) (fun c_4806 => ?_) (fun c_4806 => ?_)
                  · skip
                    have hG := hG.trans (if_pos c_4806)
                    have gc_4806 := ti_eq c_4806 rfl kc_0
                    clear lx_4805
                    refine lv_aload_n hx hb dX7_next_197 rfl (lv_at hl 3 rfl) ?_
                    refine lv_iload_n hx hb dX7_next_198 rfl (lv_at hl 2 rfl) ?_
                    refine va_put (D := (dC, dI)) (ci := 7) (v := .int z_4800) (ty := .int) (C := RX7) (T := TX7) (N := 48) hx hb hts inX7 tyX7 tyX7_ok nmX7 hown hK hP hD hS 1 rfl rfl 5 (by decide) (hts _ wd_382) (fun _ h9 => h9) rfl (by decide +kernel) rfl rfl (Nat.le_of_ble_eq_true rfl) dX7_next_199 (fun H locs hP hD hS => ?_)
                    obtain ⟨hP, hD⟩ := wl2 (ws' := [(arI rM_letters kM_letters 8 fM_letters), (oc7 oM iM_thrown rM_tape iM_taped iM_size z_4785 z_4800 iM_token z_4802 0 iM_fault iM_place iM_trouble rM_letters iM_failed iM_hasCourt rM_r rM_fresh rM_told rM_read rM_st rM_undone rM_kept iM_undos iM_images rM_fresher iM_fresherSize iM_scale iM_night rM_heardRow rM_cutRow iM_breaths iM_cutMany iM_allBreaths rM_trial rM_words iM_fewestBreaths iM_orderMany iM_orderSum iM_leastOrder rM_often iM_setMany iM_someOf iM_allOf iM_allWeight iM_enoughWeight iM_worthSum iM_firstRest iM_leastDrawn), (arI rM_tape kM_tape 900 fM_tape)]) hP hD rfl
                    refine lv_aload_n hx hb dX7_next_202 rfl (lv_at hl 3 rfl) ?_
                    refine lv_iload_n hx hb dX7_next_203 rfl (lv_at hl 0 rfl) ?_
                    refine lv_iconst (v := 3) hx hb dX7_next_204 (by decide) ?_
                    refine lv_icmp_le (tgt := 212) hx hb dX7_next_205 (by decide) (fun c_4807 => ?_) (fun c_4807 => ?_)
                    · skip
                      have hG := hG.trans (if_pos c_4807)
                      have gc_4807 := ti_le c_4807 rfl kc_3
                      refine lv_iconst (v := 3) hx hb dX7_next_212 (by decide) ?_
                      refine va_put (D := (dC, dI)) (ci := 7) (v := .int 3) (ty := .int) (C := RX7) (T := TX7) (N := 48) hx hb hts inX7 tyX7 tyX7_ok nmX7 hown hK hP hD hS 1 rfl rfl 6 (by decide) (hts _ wd_383) (fun _ h9 => h9) rfl (by decide +kernel) rfl rfl (Nat.le_of_ble_eq_true rfl) dX7_next_213 (fun H locs hP hD hS => ?_)
                      obtain ⟨hP, hD⟩ := wl2 (ws' := [(arI rM_letters kM_letters 8 fM_letters), (oc7 oM iM_thrown rM_tape iM_taped iM_size z_4785 z_4800 3 z_4802 0 iM_fault iM_place iM_trouble rM_letters iM_failed iM_hasCourt rM_r rM_fresh rM_told rM_read rM_st rM_undone rM_kept iM_undos iM_images rM_fresher iM_fresherSize iM_scale iM_night rM_heardRow rM_cutRow iM_breaths iM_cutMany iM_allBreaths rM_trial rM_words iM_fewestBreaths iM_orderMany iM_orderSum iM_leastOrder rM_often iM_setMany iM_someOf iM_allOf iM_allWeight iM_enoughWeight iM_worthSum iM_firstRest iM_leastDrawn), (arI rM_tape kM_tape 900 fM_tape)]) hP hD rfl
                      refine lv_goto (tgt := 247) hx hb dX7_next_216 (by decide) ?_
                      exact W.vret hx hb hr (fun t ht hW => ⟨⟨0, rfl, trivial, ⟨z_4785, z_4800, 3, z_4802, 0, fM_letters, (by omega), (by decide), (by have q0 := kc_0; have q1 := kc_1; have q2 := kc_2; have q3 := kc_3; omega), (fun h9 => by have q0 := kc_0; have q1 := kc_1; have q2 := kc_2; have q3 := kc_3; omega), (fun h9 => by have q0 := kc_0; have q1 := kc_1; have q2 := kc_2; have q3 := kc_3; omega), hG, Bw.to (hP.sub [1, 2, 0] rfl) (hD.sub [1, 2, 0] (by decide) rfl) (hK.sub [1, 0] rfl) ht hW⟩⟩, hS.F ht⟩) hS.2.2 dX7_next_247
                    · skip
                      have hG := hG.trans (if_neg c_4807)
                      have gc_4807 := ti_nle c_4807 rfl kc_3
                      refine lv_iconst (v := 1) hx hb dX7_next_208 (by decide) ?_
                      refine lv_goto (tgt := 213) hx hb dX7_next_209 (by decide) ?_
                      refine va_put (D := (dC, dI)) (ci := 7) (v := .int 1) (ty := .int) (C := RX7) (T := TX7) (N := 48) hx hb hts inX7 tyX7 tyX7_ok nmX7 hown hK hP hD hS 1 rfl rfl 6 (by decide) (hts _ wd_383) (fun _ h9 => h9) rfl (by decide +kernel) rfl rfl (Nat.le_of_ble_eq_true rfl) dX7_next_213 (fun H locs hP hD hS => ?_)
                      obtain ⟨hP, hD⟩ := wl2 (ws' := [(arI rM_letters kM_letters 8 fM_letters), (oc7 oM iM_thrown rM_tape iM_taped iM_size z_4785 z_4800 1 z_4802 0 iM_fault iM_place iM_trouble rM_letters iM_failed iM_hasCourt rM_r rM_fresh rM_told rM_read rM_st rM_undone rM_kept iM_undos iM_images rM_fresher iM_fresherSize iM_scale iM_night rM_heardRow rM_cutRow iM_breaths iM_cutMany iM_allBreaths rM_trial rM_words iM_fewestBreaths iM_orderMany iM_orderSum iM_leastOrder rM_often iM_setMany iM_someOf iM_allOf iM_allWeight iM_enoughWeight iM_worthSum iM_firstRest iM_leastDrawn), (arI rM_tape kM_tape 900 fM_tape)]) hP hD rfl
                      refine lv_goto (tgt := 247) hx hb dX7_next_216 (by decide) ?_
                      exact W.vret hx hb hr (fun t ht hW => ⟨⟨0, rfl, trivial, ⟨z_4785, z_4800, 1, z_4802, 0, fM_letters, (by omega), (by decide), (by have q0 := kc_0; have q1 := kc_1; have q2 := kc_2; have q3 := kc_3; omega), (fun h9 => by have q0 := kc_0; have q1 := kc_1; have q2 := kc_2; have q3 := kc_3; omega), (fun h9 => by have q0 := kc_0; have q1 := kc_1; have q2 := kc_2; have q3 := kc_3; omega), hG, Bw.to (hP.sub [1, 2, 0] rfl) (hD.sub [1, 2, 0] (by decide) rfl) (hK.sub [1, 0] rfl) ht hW⟩⟩, hS.F ht⟩) hS.2.2 dX7_next_247
                  · skip
                    have hG := hG.trans (if_neg c_4806)
                    have gc_4806 := ti_ne c_4806 rfl kc_0
                    replace gc_4806 : (-1) * x_4805.toInt + 1 ≤ 0 := by omega
                    have h_4808 := lx_4805 (by omega)
                    clear lx_4805
                    have h_4809 := lx_4804 (by omega)
                    clear lx_4804
                    refine lv_iload_n hx hb dX7_next_163 rfl (lv_at hl 0 rfl) ?_
                    refine lv_iconst (v := 3) hx hb dX7_next_164 (by decide) ?_
                    refine lv_icmp_ge (tgt := 188) hx hb dX7_next_165 (by decide) (fun c_4810 => ?_) (fun c_4810 => ?_)
                    · skip
                      have hG := hG.trans (if_pos c_4810)
                      have gc_4810 := ti_le c_4810 kc_3 rfl
                      obtain ⟨x_4811, ex_4811⟩ : ∃ z : Int32, z = z_4801 + Int32.ofInt 1 := ⟨_, rfl⟩
                      have hG := hG.trans (lt_eq ex_4811)
                      have vx_4811 : x_4811.toInt = z_4801.toInt + 1 := by have q := ti_add (y := 1) ex_4811 rfl kc_1 (by omega) (by omega); omega
                      refine lv_iinc (v := x_4811) (lv' := [(3, .int x_4811), (2, .int x_4789), (1, .int z_4800), (0, .ref oM)]) hx hb dX7_next_188 hl (k := 0) rfl ex_4811.symm (by decide) rfl (fun ls hl => ?_)
                      obtain ⟨x_4812, ex_4812⟩ : ∃ z : Int32, z = z_4800 + Int32.ofInt 1 := ⟨_, rfl⟩
                      have hG := hG.trans (lt_eq ex_4812)
                      have vx_4812 : x_4812.toInt = z_4800.toInt + 1 := by have q := ti_add (y := 1) ex_4812 rfl kc_1 (by omega) (by omega); omega
                      refine lv_iinc (v := x_4812) (lv' := [(1, .int x_4812), (3, .int x_4811), (2, .int x_4789), (0, .ref oM)]) hx hb dX7_next_191 hl (k := 2) rfl ex_4812.symm (by decide) rfl (fun ls hl => ?_)
                      refine lv_goto (tgt := 152) hx hb dX7_next_194 (by decide) ?_
                      exact ih_n_4803 x_4812 x_4811 z_4802 _ _ _  (by first | omega | decide | assumption) (by first | omega | decide | assumption) (by omega) hG (hP.sub [0, 1, 2] rfl) (hD.sub [0, 1, 2] (by decide) rfl) hS (lv_sub hl [1, 2, 0, 3] rfl)
                    · skip
                      have hG := hG.trans (if_neg c_4810)
                      have gc_4810 := ti_nle c_4810 kc_3 rfl
                      refine lv_aload_n hx hb dX7_next_168 rfl (lv_at hl 3 rfl) ?_
                      refine lv_bipush (v := 10) hx hb dX7_next_169 (by decide) ?_
                      refine lv_aload_n hx hb dX7_next_171 rfl (lv_at hl 3 rfl) ?_
                      refine va_get (D := (dC, dI)) (ci := 7) (v := .int z_4802) (C := RX7) (T := TX7) (N := 48) hx hb hts inX7 hown hK hP 1 rfl rfl 7 (by decide) (hts _ wd_405) (fun _ h9 => h9) rfl dX7_next_172 ?_
                      refine lv_imul hx hb dX7_next_175 ?_
                      refine lv_topi (fun x_4813 ex_4813 => ?_)
                      have hG := hG.trans (lt_eq ex_4813)
                      refine lv_aload_n hx hb dX7_next_176 rfl (lv_at hl 3 rfl) ?_
                      refine lv_iload_n hx hb dX7_next_177 rfl (lv_at hl 2 rfl) ?_
                      have hFc := va_free (wc := [(oc7 oM iM_thrown rM_tape iM_taped iM_size z_4785 iM_end iM_token z_4802 0 iM_fault iM_place iM_trouble rM_letters iM_failed iM_hasCourt rM_r rM_fresh rM_told rM_read rM_st rM_undone rM_kept iM_undos iM_images rM_fresher iM_fresherSize iM_scale iM_night rM_heardRow rM_cutRow iM_breaths iM_cutMany iM_allBreaths rM_trial rM_words iM_fewestBreaths iM_orderMany iM_orderSum iM_leastOrder rM_often iM_setMany iM_someOf iM_allOf iM_allWeight iM_enoughWeight iM_worthSum iM_firstRest iM_leastDrawn), (arI rM_tape kM_tape 900 fM_tape)]) hD hS hA [1, 2] rfl
                      refine va_calli (va_runV (As := [.int z_4800]) (rest := [.int x_4813, .ref oM]) ⟨hx, hb, hml, hown, hts⟩ (tX7_see_p l dC dI _ oM iM_thrown rM_tape fM_tape kM_tape iM_taped iM_size z_4785 iM_end iM_token z_4802 0 iM_fault iM_place iM_trouble rM_letters iM_failed iM_hasCourt rM_r rM_fresh rM_told rM_read rM_st rM_undone rM_kept iM_undos iM_images rM_fresher iM_fresherSize iM_scale iM_night rM_heardRow rM_cutRow iM_breaths iM_cutMany iM_allBreaths rM_trial rM_words iM_fewestBreaths iM_orderMany iM_orderSum iM_leastOrder rM_often iM_setMany iM_someOf iM_allOf iM_allWeight iM_enoughWeight iM_worthSum iM_firstRest iM_leastDrawn z_4800 (by first | omega | decide) (by first | omega | decide) (by first | omega | decide) (by first | decide | omega) (by first | omega | decide) (by first | omega | decide) (by first | omega | decide) (by first | omega | decide) (by first | omega | decide) (by first | omega | decide) (by first | omega | decide) (by first | omega | decide | assumption | (have q0 := kc_0; have q1 := kc_1; omega) | (intro h; exact absurd h (by decide)))) (cwV 1 hts (wd_V wd_406 wd_407 wd_408 wd_5 (wd_c wd_409)) rfl rfl rfl (by decide +kernel) ⟨Nat.le_of_ble_eq_true rfl, Nat.le_of_ble_eq_true rfl⟩) ⟨Pw.fb, va_recv hK hP (ci := 7) (q0 := 1) rfl rfl, fun U hU hW => Pw.to (hP.sub [1, 2] rfl) (hD.sub [1, 2] (by decide) rfl) (hK.sub [1] rfl) hE hS hFc hU hW⟩ rfl rfl hl.1 rfl (lv_room (Nat.le_of_ble_eq_true rfl)) dX7_next_178 ⟨Nat.le_of_ble_eq_true rfl, Nat.le_of_ble_eq_true rfl⟩) hS (fun q _ h => hFc q h) hFc (fun r u t H locs ht hvm hw hB hz1 hk1 hS => ?_)
                      have hru9 := hw.2
                      have hw := hw.1
                      obtain ⟨hP, hD, hK⟩ := Bw.go (ws' := [(arI rM_letters kM_letters 8 fM_letters), (oc7 oM iM_thrown rM_tape iM_taped iM_size z_4785 iM_end iM_token z_4802 0 iM_fault iM_place iM_trouble rM_letters iM_failed iM_hasCourt rM_r rM_fresh rM_told rM_read rM_st rM_undone rM_kept iM_undos iM_images rM_fresher iM_fresherSize iM_scale iM_night rM_heardRow rM_cutRow iM_breaths iM_cutMany iM_allBreaths rM_trial rM_words iM_fewestBreaths iM_orderMany iM_orderSum iM_leastOrder rM_often iM_setMany iM_someOf iM_allOf iM_allWeight iM_enoughWeight iM_worthSum iM_firstRest iM_leastDrawn), (arI rM_tape kM_tape 900 fM_tape)]) (tys' := [(kM_letters, .int), (kM_tape, .int)]) hB rfl ht hvm hP hD hK [1, 2] [0] rfl (by decide) (by decide) [0] hk1 hFc rfl rfl rfl
                      clear hz1 hk1 hvm ht hB
                      obtain ⟨x_4814, rfl⟩ : ∃ z, z = r := ⟨_, rfl⟩
                      have hG := hG.trans (lt_eq hru9.symm)
                      have lx_4814 := hw.2
                      refine lv_iadd hx hb dX7_next_181 ?_
                      refine lv_topi (fun x_4815 ex_4815 => ?_)
                      have hG := hG.trans (lt_eq ex_4815)
                      refine lv_bipush (v := 48) hx hb dX7_next_182 (by decide) ?_
                      refine lv_isub hx hb dX7_next_184 ?_
                      refine lv_topi (fun x_4816 ex_4816 => ?_)
                      have hG := hG.trans (lt_eq ex_4816)
                      refine va_put (D := (dC, dI)) (ci := 7) (v := .int x_4816) (ty := .int) (C := RX7) (T := TX7) (N := 48) hx hb hts inX7 tyX7 tyX7_ok nmX7 hown hK hP hD hS 1 rfl rfl 7 (by decide) (hts _ wd_405) (fun _ h9 => h9) rfl (by decide +kernel) rfl rfl (Nat.le_of_ble_eq_true rfl) dX7_next_185 (fun H locs hP hD hS => ?_)
                      obtain ⟨hP, hD⟩ := wl2 (ws' := [(arI rM_letters kM_letters 8 fM_letters), (oc7 oM iM_thrown rM_tape iM_taped iM_size z_4785 iM_end iM_token x_4816 0 iM_fault iM_place iM_trouble rM_letters iM_failed iM_hasCourt rM_r rM_fresh rM_told rM_read rM_st rM_undone rM_kept iM_undos iM_images rM_fresher iM_fresherSize iM_scale iM_night rM_heardRow rM_cutRow iM_breaths iM_cutMany iM_allBreaths rM_trial rM_words iM_fewestBreaths iM_orderMany iM_orderSum iM_leastOrder rM_often iM_setMany iM_someOf iM_allOf iM_allWeight iM_enoughWeight iM_worthSum iM_firstRest iM_leastDrawn), (arI rM_tape kM_tape 900 fM_tape)]) hP hD rfl
                      obtain ⟨x_4817, ex_4817⟩ : ∃ z : Int32, z = z_4801 + Int32.ofInt 1 := ⟨_, rfl⟩
                      have hG := hG.trans (lt_eq ex_4817)
                      have vx_4817 : x_4817.toInt = z_4801.toInt + 1 := by have q := ti_add (y := 1) ex_4817 rfl kc_1 (by omega) (by omega); omega
                      refine lv_iinc (v := x_4817) (lv' := [(3, .int x_4817), (2, .int x_4789), (1, .int z_4800), (0, .ref oM)]) hx hb dX7_next_188 hl (k := 0) rfl ex_4817.symm (by decide) rfl (fun ls hl => ?_)
                      obtain ⟨x_4818, ex_4818⟩ : ∃ z : Int32, z = z_4800 + Int32.ofInt 1 := ⟨_, rfl⟩
                      have hG := hG.trans (lt_eq ex_4818)
                      have vx_4818 : x_4818.toInt = z_4800.toInt + 1 := by have q := ti_add (y := 1) ex_4818 rfl kc_1 (by omega) (by omega); omega
                      refine lv_iinc (v := x_4818) (lv' := [(1, .int x_4818), (3, .int x_4817), (2, .int x_4789), (0, .ref oM)]) hx hb dX7_next_191 hl (k := 2) rfl ex_4818.symm (by decide) rfl (fun ls hl => ?_)
                      refine lv_goto (tgt := 152) hx hb dX7_next_194 (by decide) ?_
                      exact ih_n_4803 x_4818 x_4817 x_4816 _ _ _  (by first | omega | decide | assumption) (by first | omega | decide | assumption) (by omega) hG (hP.sub [0, 1, 2] rfl) (hD.sub [0, 1, 2] (by decide) rfl) hS (lv_sub hl [1, 2, 0, 3] rfl)
              exact key_n_4803 (((900 - z_4785.toInt).toNat) + 1) z_4785 0 0 _ _ _  (by first | omega | decide | assumption | (have q0 := kc_0; have q1 := kc_1; omega)) (by first | omega | decide | assumption | (have q0 := kc_0; have q1 := kc_1; omega)) (by omega) hG hP hD hS hl
          · skip
            have hG := hG.trans (if_neg c_4793)
            have gc_4793 := ti_ne c_4793 rfl kc_0
            replace gc_4793 : (-1) * x_4792.toInt + 1 ≤ 0 := by omega
            have h_4819 := lx_4792 (by omega)
            clear lx_4792
            have hl := lv_sub hl (l' := [(2, .int x_4789), (1, .int z_4785), (0, .ref oM)]) [0, 1, 2] rfl
            have key_n_4823 : ∀ (n_4823 : Nat) (z_4820 : Int32) (z_4821 : Int32) (f_4822 : Nat → Int32) (H : Heap) (locs : List Loc) (ls : Array Slot), (0 ≤ z_4821.toInt ∧ z_4821.toInt ≤ 900) → (iM_end.toInt ≤ z_4820.toInt ∧ z_4820.toInt ≤ 900) → (0 ≤ z_4821.toInt ∧ z_4821.toInt ≤ z_4820.toInt) → (900 - z_4820.toInt).toNat < n_4823 → (PX7_next fM_tape iM_size iM_end fM_letters = HX7_next_2 fM_tape iM_size z_4785 n_4823 z_4820 z_4821 f_4822) → va_P (dC, dI) vwCl [(arI rM_letters kM_letters 8 f_4822), (oc7 oM iM_thrown rM_tape iM_taped iM_size z_4785 iM_end iM_token 0 z_4821 iM_fault iM_place iM_trouble rM_letters iM_failed iM_hasCourt rM_r rM_fresh rM_told rM_read rM_st rM_undone rM_kept iM_undos iM_images rM_fresher iM_fresherSize iM_scale iM_night rM_heardRow rM_cutRow iM_breaths iM_cutMany iM_allBreaths rM_trial rM_words iM_fewestBreaths iM_orderMany iM_orderSum iM_leastOrder rM_often iM_setMany iM_someOf iM_allOf iM_allWeight iM_enoughWeight iM_worthSum iM_firstRest iM_leastDrawn), (arI rM_tape kM_tape 900 fM_tape)] H → va_D A [(arI rM_letters kM_letters 8 f_4822), (oc7 oM iM_thrown rM_tape iM_taped iM_size z_4785 iM_end iM_token 0 z_4821 iM_fault iM_place iM_trouble rM_letters iM_failed iM_hasCourt rM_r rM_fresh rM_told rM_read rM_st rM_undone rM_kept iM_undos iM_images rM_fresher iM_fresherSize iM_scale iM_night rM_heardRow rM_cutRow iM_breaths iM_cutMany iM_allBreaths rM_trial rM_words iM_fewestBreaths iM_orderMany iM_orderSum iM_leastOrder rM_often iM_setMany iM_someOf iM_allOf iM_allWeight iM_enoughWeight iM_worthSum iM_firstRest iM_leastDrawn), (arI rM_tape kM_tape 900 fM_tape)] → va_S A s.heap H locs → lv_has ls 4 [(2, .int x_4789), (1, .int z_4820), (0, .ref oM)] → W p l e (headSpec (Cond.code yX7_next cX7_next 4 none :: wG) ({ frames := 1, cells := 0, slots := 0, locals := 21 })).room s m ([.ref oM] : List Value).toArray below meth c H locs 0 0 (MQ below (va_Qv (fun (_ : Nat) => True) (fun (_ : Nat) (t : State) => ∃ (niM_at : Int32) (niM_end : Int32) (niM_token : Int32) (niM_whole : Int32) (niM_nameSize : Int32) (nfM_letters : Nat → Int32), (0 ≤ niM_end.toInt ∧ niM_end.toInt ≤ 900) ∧ (0 ≤ niM_nameSize.toInt ∧ niM_nameSize.toInt ≤ 900) ∧ (iM_end.toInt ≤ niM_end.toInt) ∧ (ImpP (niM_token.toInt = 2) (niM_nameSize.toInt ≤ 8)) ∧ (ImpP (niM_token.toInt = 59 ) (iM_end.toInt + 1 ≤ niM_end.toInt)) ∧ (PX7_next fM_tape iM_size iM_end fM_letters = (niM_at, niM_end, niM_token, niM_whole, niM_nameSize, nfM_letters)) ∧ Bw dC dI A [(oc7 oM iM_thrown rM_tape iM_taped iM_size niM_at niM_end niM_token niM_whole niM_nameSize iM_fault iM_place iM_trouble rM_letters iM_failed iM_hasCourt rM_r rM_fresh rM_told rM_read rM_st rM_undone rM_kept iM_undos iM_images rM_fresher iM_fresherSize iM_scale iM_night rM_heardRow rM_cutRow iM_breaths iM_cutMany iM_allBreaths rM_trial rM_words iM_fewestBreaths iM_orderMany iM_orderSum iM_leastOrder rM_often iM_setMany iM_someOf iM_allOf iM_allWeight iM_enoughWeight iM_worthSum iM_firstRest iM_leastDrawn), (arI rM_tape kM_tape 900 fM_tape), (arI rM_letters kM_letters 8 nfM_letters)] [(kM_tape, .int), (kM_letters, .int)] t) A) ([.ref oM] : List Value).toArray s 0 0 A) (F0 m 67 ls []) := by
              intro n_4823
              induction n_4823 with
              | zero => intro z_4820 z_4821 f_4822 H locs ls b_z_4821 hi0_n_4823 hi1_n_4823 hm; exact absurd hm (by omega)
              | succ n_4823 ih_n_4823 =>
                intro z_4820 z_4821 f_4822 H locs ls b_z_4821 hi0_n_4823 hi1_n_4823 hm hG hP hD hS hl
                have hG := hG.trans (HX7_next_2_eq _ _ _ _ _ _ _)
                refine lv_aload_n hx hb dX7_next_67 rfl (lv_at hl 2 rfl) ?_
                refine lv_iload_n hx hb dX7_next_68 rfl (lv_at hl 1 rfl) ?_
                have hFc := va_free (wc := [(oc7 oM iM_thrown rM_tape iM_taped iM_size z_4785 iM_end iM_token 0 z_4821 iM_fault iM_place iM_trouble rM_letters iM_failed iM_hasCourt rM_r rM_fresh rM_told rM_read rM_st rM_undone rM_kept iM_undos iM_images rM_fresher iM_fresherSize iM_scale iM_night rM_heardRow rM_cutRow iM_breaths iM_cutMany iM_allBreaths rM_trial rM_words iM_fewestBreaths iM_orderMany iM_orderSum iM_leastOrder rM_often iM_setMany iM_someOf iM_allOf iM_allWeight iM_enoughWeight iM_worthSum iM_firstRest iM_leastDrawn), (arI rM_tape kM_tape 900 fM_tape)]) hD hS hA [1, 2] rfl
                refine va_calli (va_runV (As := [.int z_4820]) (rest := []) ⟨hx, hb, hml, hown, hts⟩ (tX7_see_p l dC dI _ oM iM_thrown rM_tape fM_tape kM_tape iM_taped iM_size z_4785 iM_end iM_token 0 z_4821 iM_fault iM_place iM_trouble rM_letters iM_failed iM_hasCourt rM_r rM_fresh rM_told rM_read rM_st rM_undone rM_kept iM_undos iM_images rM_fresher iM_fresherSize iM_scale iM_night rM_heardRow rM_cutRow iM_breaths iM_cutMany iM_allBreaths rM_trial rM_words iM_fewestBreaths iM_orderMany iM_orderSum iM_leastOrder rM_often iM_setMany iM_someOf iM_allOf iM_allWeight iM_enoughWeight iM_worthSum iM_firstRest iM_leastDrawn z_4820 (by first | omega | decide) (by first | omega | decide) (by first | omega | decide) (by first | exact b_z_4821 | omega | decide) (by first | omega | decide) (by first | omega | decide) (by first | omega | decide) (by first | omega | decide) (by first | omega | decide) (by first | omega | decide) (by first | omega | decide) (by first | omega | decide | assumption | (have q0 := kc_0; have q1 := kc_1; omega) | (intro h; exact absurd h (by decide)))) (cwV 1 hts (wd_V wd_406 wd_407 wd_408 wd_5 (wd_c wd_409)) rfl rfl rfl (by decide +kernel) ⟨Nat.le_of_ble_eq_true rfl, Nat.le_of_ble_eq_true rfl⟩) ⟨Pw.fb, va_recv hK hP (ci := 7) (q0 := 1) rfl rfl, fun U hU hW => Pw.to (hP.sub [1, 2] rfl) (hD.sub [1, 2] (by decide) rfl) (hK.sub [1] rfl) hE hS hFc hU hW⟩ rfl rfl hl.1 rfl (lv_room (Nat.le_of_ble_eq_true rfl)) dX7_next_69 ⟨Nat.le_of_ble_eq_true rfl, Nat.le_of_ble_eq_true rfl⟩) hS (fun q _ h => hFc q h) hFc (fun r u t H locs ht hvm hw hB hz1 hk1 hS => ?_)
                have hru9 := hw.2
                have hw := hw.1
                obtain ⟨hP, hD, hK⟩ := Bw.go (ws' := [(arI rM_letters kM_letters 8 f_4822), (oc7 oM iM_thrown rM_tape iM_taped iM_size z_4785 iM_end iM_token 0 z_4821 iM_fault iM_place iM_trouble rM_letters iM_failed iM_hasCourt rM_r rM_fresh rM_told rM_read rM_st rM_undone rM_kept iM_undos iM_images rM_fresher iM_fresherSize iM_scale iM_night rM_heardRow rM_cutRow iM_breaths iM_cutMany iM_allBreaths rM_trial rM_words iM_fewestBreaths iM_orderMany iM_orderSum iM_leastOrder rM_often iM_setMany iM_someOf iM_allOf iM_allWeight iM_enoughWeight iM_worthSum iM_firstRest iM_leastDrawn), (arI rM_tape kM_tape 900 fM_tape)]) (tys' := [(kM_letters, .int), (kM_tape, .int)]) hB rfl ht hvm hP hD hK [1, 2] [0] rfl (by decide) (by decide) [0] hk1 hFc rfl rfl rfl
                clear hz1 hk1 hvm ht hB
                obtain ⟨x_4824, rfl⟩ : ∃ z, z = r := ⟨_, rfl⟩
                have hG := hG.trans (lt_eq hru9.symm)
                have lx_4824 := hw.2
                have hFc : ∀ q, va_A [] _ q → A q := fun q h => hA q (Nat.le_trans hS.1 (va_nilA h))
                refine va_calli (va_runS (As := [.int x_4824]) (rest := []) ⟨hx, hb, hml, hown, hts⟩ (tX7_isSmall_p l dC dI _ x_4824 ) (va_cwS 1 hts (wd_S wd_410 wd_411 wd_5 (wd_c wd_412)) rfl rfl rfl (by decide +kernel) ⟨Nat.le_of_ble_eq_true rfl, Nat.le_of_ble_eq_true rfl⟩) ⟨Pw.fb, fun U hU hW => Pn.to hK hE hS hA hU hW⟩ rfl rfl hl.1 rfl (lv_room (Nat.le_of_ble_eq_true rfl)) dX7_next_72 ⟨Nat.le_of_ble_eq_true rfl, Nat.le_of_ble_eq_true rfl⟩) hS (fun q _ h => hFc q h) hFc (fun r u t H locs ht hvm hw hB hz1 hk1 hS => ?_)
                obtain ⟨hP, hD, hK⟩ := Bw.same ht hvm hP hD hK hk1 hFc
                clear hz1 hk1 hvm ht hB
                have hq9 := hw.2
                have hw := hw.1
                obtain ⟨x_4825, rfl⟩ : ∃ z, z = r := ⟨_, rfl⟩
                have hq_x_4825 := hq9
                have hG := hG.trans (lt_eq hq_x_4825.symm)
                have bx_4825 := hw.1
                have dx_4825 := bz_ti bx_4825
                have lx_4825 := hw.2
                refine lv_if_eq (tgt := 117) hx hb dX7_next_75 (by decide) (fun c_4826 => ?_) (fun c_4826 => ?_)
                · skip
                  have hG := hG.trans (if_pos c_4826)
                  have gc_4826 := ti_eq c_4826 rfl kc_0
                  clear lx_4825
                  refine lv_aload_n hx hb dX7_next_117 rfl (lv_at hl 2 rfl) ?_
                  refine lv_iload_n hx hb dX7_next_118 rfl (lv_at hl 1 rfl) ?_
                  refine va_put (D := (dC, dI)) (ci := 7) (v := .int z_4820) (ty := .int) (C := RX7) (T := TX7) (N := 48) hx hb hts inX7 tyX7 tyX7_ok nmX7 hown hK hP hD hS 1 rfl rfl 5 (by decide) (hts _ wd_382) (fun _ h9 => h9) rfl (by decide +kernel) rfl rfl (Nat.le_of_ble_eq_true rfl) dX7_next_119 (fun H locs hP hD hS => ?_)
                  obtain ⟨hP, hD⟩ := wl2 (ws' := [(arI rM_letters kM_letters 8 f_4822), (oc7 oM iM_thrown rM_tape iM_taped iM_size z_4785 z_4820 iM_token 0 z_4821 iM_fault iM_place iM_trouble rM_letters iM_failed iM_hasCourt rM_r rM_fresh rM_told rM_read rM_st rM_undone rM_kept iM_undos iM_images rM_fresher iM_fresherSize iM_scale iM_night rM_heardRow rM_cutRow iM_breaths iM_cutMany iM_allBreaths rM_trial rM_words iM_fewestBreaths iM_orderMany iM_orderSum iM_leastOrder rM_often iM_setMany iM_someOf iM_allOf iM_allWeight iM_enoughWeight iM_worthSum iM_firstRest iM_leastDrawn), (arI rM_tape kM_tape 900 fM_tape)]) hP hD rfl
                  refine lv_aload_n hx hb dX7_next_122 rfl (lv_at hl 2 rfl) ?_
                  refine lv_aload_n hx hb dX7_next_123 rfl (lv_at hl 2 rfl) ?_
                  refine va_get (D := (dC, dI)) (ci := 7) (v := .int z_4821) (C := RX7) (T := TX7) (N := 48) hx hb hts inX7 hown hK hP 1 rfl rfl 8 (by decide) (hts _ wd_404) (fun _ h9 => h9) rfl dX7_next_124 ?_
                  refine lv_bipush (v := 8) hx hb dX7_next_127 (by decide) ?_
                  refine lv_icmp_le (tgt := 136) hx hb dX7_next_129 (by decide) (fun c_4827 => ?_) (fun c_4827 => ?_)
                  · skip
                    have hG := hG.trans (if_pos c_4827)
                    have gc_4827 := ti_le c_4827 rfl kc_8
                    refine lv_iconst (v := 2) hx hb dX7_next_136 (by decide) ?_
                    refine va_put (D := (dC, dI)) (ci := 7) (v := .int 2) (ty := .int) (C := RX7) (T := TX7) (N := 48) hx hb hts inX7 tyX7 tyX7_ok nmX7 hown hK hP hD hS 1 rfl rfl 6 (by decide) (hts _ wd_383) (fun _ h9 => h9) rfl (by decide +kernel) rfl rfl (Nat.le_of_ble_eq_true rfl) dX7_next_137 (fun H locs hP hD hS => ?_)
                    obtain ⟨hP, hD⟩ := wl2 (ws' := [(arI rM_letters kM_letters 8 f_4822), (oc7 oM iM_thrown rM_tape iM_taped iM_size z_4785 z_4820 2 0 z_4821 iM_fault iM_place iM_trouble rM_letters iM_failed iM_hasCourt rM_r rM_fresh rM_told rM_read rM_st rM_undone rM_kept iM_undos iM_images rM_fresher iM_fresherSize iM_scale iM_night rM_heardRow rM_cutRow iM_breaths iM_cutMany iM_allBreaths rM_trial rM_words iM_fewestBreaths iM_orderMany iM_orderSum iM_leastOrder rM_often iM_setMany iM_someOf iM_allOf iM_allWeight iM_enoughWeight iM_worthSum iM_firstRest iM_leastDrawn), (arI rM_tape kM_tape 900 fM_tape)]) hP hD rfl
                    refine lv_goto (tgt := 247) hx hb dX7_next_140 (by decide) ?_
                    exact W.vret hx hb hr (fun t ht hW => ⟨⟨0, rfl, trivial, ⟨z_4785, z_4820, 2, 0, z_4821, f_4822, (by omega), b_z_4821, (by have q0 := kc_0; have q1 := kc_1; have q2 := kc_2; have q3 := kc_3; omega), (fun h9 => by have q0 := kc_0; have q1 := kc_1; have q2 := kc_2; have q3 := kc_3; omega), (fun h9 => by have q0 := kc_0; have q1 := kc_1; have q2 := kc_2; have q3 := kc_3; omega), hG, Bw.to (hP.sub [1, 2, 0] rfl) (hD.sub [1, 2, 0] (by decide) rfl) (hK.sub [1, 0] rfl) ht hW⟩⟩, hS.F ht⟩) hS.2.2 dX7_next_247
                  · skip
                    have hG := hG.trans (if_neg c_4827)
                    have gc_4827 := ti_nle c_4827 rfl kc_8
                    refine lv_iconst (v := 1) hx hb dX7_next_132 (by decide) ?_
                    refine lv_goto (tgt := 137) hx hb dX7_next_133 (by decide) ?_
                    refine va_put (D := (dC, dI)) (ci := 7) (v := .int 1) (ty := .int) (C := RX7) (T := TX7) (N := 48) hx hb hts inX7 tyX7 tyX7_ok nmX7 hown hK hP hD hS 1 rfl rfl 6 (by decide) (hts _ wd_383) (fun _ h9 => h9) rfl (by decide +kernel) rfl rfl (Nat.le_of_ble_eq_true rfl) dX7_next_137 (fun H locs hP hD hS => ?_)
                    obtain ⟨hP, hD⟩ := wl2 (ws' := [(arI rM_letters kM_letters 8 f_4822), (oc7 oM iM_thrown rM_tape iM_taped iM_size z_4785 z_4820 1 0 z_4821 iM_fault iM_place iM_trouble rM_letters iM_failed iM_hasCourt rM_r rM_fresh rM_told rM_read rM_st rM_undone rM_kept iM_undos iM_images rM_fresher iM_fresherSize iM_scale iM_night rM_heardRow rM_cutRow iM_breaths iM_cutMany iM_allBreaths rM_trial rM_words iM_fewestBreaths iM_orderMany iM_orderSum iM_leastOrder rM_often iM_setMany iM_someOf iM_allOf iM_allWeight iM_enoughWeight iM_worthSum iM_firstRest iM_leastDrawn), (arI rM_tape kM_tape 900 fM_tape)]) hP hD rfl
                    refine lv_goto (tgt := 247) hx hb dX7_next_140 (by decide) ?_
                    exact W.vret hx hb hr (fun t ht hW => ⟨⟨0, rfl, trivial, ⟨z_4785, z_4820, 1, 0, z_4821, f_4822, (by omega), b_z_4821, (by have q0 := kc_0; have q1 := kc_1; have q2 := kc_2; have q3 := kc_3; omega), (fun h9 => by have q0 := kc_0; have q1 := kc_1; have q2 := kc_2; have q3 := kc_3; omega), (fun h9 => by have q0 := kc_0; have q1 := kc_1; have q2 := kc_2; have q3 := kc_3; omega), hG, Bw.to (hP.sub [1, 2, 0] rfl) (hD.sub [1, 2, 0] (by decide) rfl) (hK.sub [1, 0] rfl) ht hW⟩⟩, hS.F ht⟩) hS.2.2 dX7_next_247
                · skip
                  have hG := hG.trans (if_neg c_4826)
                  have gc_4826 := ti_ne c_4826 rfl kc_0
                  replace gc_4826 : (-1) * x_4825.toInt + 1 ≤ 0 := by omega
                  have h_4828 := lx_4825 (by omega)
                  clear lx_4825
                  have h_4829 := lx_4824 (by omega)
                  clear lx_4824
                  refine lv_aload_n hx hb dX7_next_78 rfl (lv_at hl 2 rfl) ?_
                  refine va_get (D := (dC, dI)) (ci := 7) (v := .int z_4821) (C := RX7) (T := TX7) (N := 48) hx hb hts inX7 hown hK hP 1 rfl rfl 8 (by decide) (hts _ wd_404) (fun _ h9 => h9) rfl dX7_next_79 ?_
                  refine lv_bipush (v := 8) hx hb dX7_next_82 (by decide) ?_
                  refine lv_icmp_ge (tgt := 101) hx hb dX7_next_84 (by decide) (fun c_4830 => ?_) (fun c_4830 => ?_)
                  · skip
                    have hG := hG.trans (if_pos c_4830)
                    have gc_4830 := ti_le c_4830 kc_8 rfl
                    refine lv_aload_n hx hb dX7_next_101 rfl (lv_at hl 2 rfl) ?_
                    refine lv_dup hx hb dX7_next_102 rfl ?_
                    refine va_get (D := (dC, dI)) (ci := 7) (v := .int z_4821) (C := RX7) (T := TX7) (N := 48) hx hb hts inX7 hown hK hP 1 rfl rfl 8 (by decide) (hts _ wd_404) (fun _ h9 => h9) rfl dX7_next_103 ?_
                    refine lv_iconst (v := 1) hx hb dX7_next_106 (by decide) ?_
                    refine lv_iadd hx hb dX7_next_107 ?_
                    refine lv_topi (fun x_4831 ex_4831 => ?_)
                    have hG := hG.trans (lt_eq ex_4831)
                    have vx_4831 : x_4831.toInt = z_4821.toInt + 1 := by have q := ti_add ex_4831 rfl kc_1 (by omega) (by omega); omega
                    refine va_put (D := (dC, dI)) (ci := 7) (v := .int x_4831) (ty := .int) (C := RX7) (T := TX7) (N := 48) hx hb hts inX7 tyX7 tyX7_ok nmX7 hown hK hP hD hS 1 rfl rfl 8 (by decide) (hts _ wd_404) (fun _ h9 => h9) rfl (by decide +kernel) rfl rfl (Nat.le_of_ble_eq_true rfl) dX7_next_108 (fun H locs hP hD hS => ?_)
                    obtain ⟨hP, hD⟩ := wl2 (ws' := [(arI rM_letters kM_letters 8 f_4822), (oc7 oM iM_thrown rM_tape iM_taped iM_size z_4785 iM_end iM_token 0 x_4831 iM_fault iM_place iM_trouble rM_letters iM_failed iM_hasCourt rM_r rM_fresh rM_told rM_read rM_st rM_undone rM_kept iM_undos iM_images rM_fresher iM_fresherSize iM_scale iM_night rM_heardRow rM_cutRow iM_breaths iM_cutMany iM_allBreaths rM_trial rM_words iM_fewestBreaths iM_orderMany iM_orderSum iM_leastOrder rM_often iM_setMany iM_someOf iM_allOf iM_allWeight iM_enoughWeight iM_worthSum iM_firstRest iM_leastDrawn), (arI rM_tape kM_tape 900 fM_tape)]) hP hD rfl
                    obtain ⟨x_4832, ex_4832⟩ : ∃ z : Int32, z = z_4820 + Int32.ofInt 1 := ⟨_, rfl⟩
                    have hG := hG.trans (lt_eq ex_4832)
                    have vx_4832 : x_4832.toInt = z_4820.toInt + 1 := by have q := ti_add (y := 1) ex_4832 rfl kc_1 (by omega) (by omega); omega
                    refine lv_iinc (v := x_4832) (lv' := [(1, .int x_4832), (2, .int x_4789), (0, .ref oM)]) hx hb dX7_next_111 hl (k := 1) rfl ex_4832.symm (by decide) rfl (fun ls hl => ?_)
                    refine lv_goto (tgt := 67) hx hb dX7_next_114 (by decide) ?_
                    exact ih_n_4823 x_4832 x_4831 f_4822 _ _ _ (by have q := vx_4831; omega) (by first | omega | decide | assumption) (by first | omega | decide | assumption) (by omega) hG (hP.sub [0, 1, 2] rfl) (hD.sub [0, 1, 2] (by decide) rfl) hS (lv_sub hl [1, 0, 2] rfl)
                  · skip
                    have hG := hG.trans (if_neg c_4830)
                    have gc_4830 := ti_nle c_4830 kc_8 rfl
                    refine lv_aload_n hx hb dX7_next_87 rfl (lv_at hl 2 rfl) ?_
                    refine va_get (D := (dC, dI)) (ci := 7) (v := .ref rM_letters) (C := RX7) (T := TX7) (N := 48) hx hb hts inX7 hown hK hP 1 rfl rfl 12 (by decide) (hts _ wd_154) (fun _ h9 => h9) rfl dX7_next_88 ?_
                    refine lv_aload_n hx hb dX7_next_91 rfl (lv_at hl 2 rfl) ?_
                    refine va_get (D := (dC, dI)) (ci := 7) (v := .int z_4821) (C := RX7) (T := TX7) (N := 48) hx hb hts inX7 hown hK hP 1 rfl rfl 8 (by decide) (hts _ wd_404) (fun _ h9 => h9) rfl dX7_next_92 ?_
                    refine lv_aload_n hx hb dX7_next_95 rfl (lv_at hl 2 rfl) ?_
                    refine lv_iload_n hx hb dX7_next_96 rfl (lv_at hl 1 rfl) ?_
                    have hFc := va_free (wc := [(oc7 oM iM_thrown rM_tape iM_taped iM_size z_4785 iM_end iM_token 0 z_4821 iM_fault iM_place iM_trouble rM_letters iM_failed iM_hasCourt rM_r rM_fresh rM_told rM_read rM_st rM_undone rM_kept iM_undos iM_images rM_fresher iM_fresherSize iM_scale iM_night rM_heardRow rM_cutRow iM_breaths iM_cutMany iM_allBreaths rM_trial rM_words iM_fewestBreaths iM_orderMany iM_orderSum iM_leastOrder rM_often iM_setMany iM_someOf iM_allOf iM_allWeight iM_enoughWeight iM_worthSum iM_firstRest iM_leastDrawn), (arI rM_tape kM_tape 900 fM_tape)]) hD hS hA [1, 2] rfl
                    refine va_calli (va_runV (As := [.int z_4820]) (rest := [.int z_4821, .ref rM_letters]) ⟨hx, hb, hml, hown, hts⟩ (tX7_see_p l dC dI _ oM iM_thrown rM_tape fM_tape kM_tape iM_taped iM_size z_4785 iM_end iM_token 0 z_4821 iM_fault iM_place iM_trouble rM_letters iM_failed iM_hasCourt rM_r rM_fresh rM_told rM_read rM_st rM_undone rM_kept iM_undos iM_images rM_fresher iM_fresherSize iM_scale iM_night rM_heardRow rM_cutRow iM_breaths iM_cutMany iM_allBreaths rM_trial rM_words iM_fewestBreaths iM_orderMany iM_orderSum iM_leastOrder rM_often iM_setMany iM_someOf iM_allOf iM_allWeight iM_enoughWeight iM_worthSum iM_firstRest iM_leastDrawn z_4820 (by first | omega | decide) (by first | omega | decide) (by first | omega | decide) (by first | exact b_z_4821 | omega | decide) (by first | omega | decide) (by first | omega | decide) (by first | omega | decide) (by first | omega | decide) (by first | omega | decide) (by first | omega | decide) (by first | omega | decide) (by first | omega | decide | assumption | (have q0 := kc_0; have q1 := kc_1; omega) | (intro h; exact absurd h (by decide)))) (cwV 1 hts (wd_V wd_406 wd_407 wd_408 wd_5 (wd_c wd_409)) rfl rfl rfl (by decide +kernel) ⟨Nat.le_of_ble_eq_true rfl, Nat.le_of_ble_eq_true rfl⟩) ⟨Pw.fb, va_recv hK hP (ci := 7) (q0 := 1) rfl rfl, fun U hU hW => Pw.to (hP.sub [1, 2] rfl) (hD.sub [1, 2] (by decide) rfl) (hK.sub [1] rfl) hE hS hFc hU hW⟩ rfl rfl hl.1 rfl (lv_room (Nat.le_of_ble_eq_true rfl)) dX7_next_97 ⟨Nat.le_of_ble_eq_true rfl, Nat.le_of_ble_eq_true rfl⟩) hS (fun q _ h => hFc q h) hFc (fun r u t H locs ht hvm hw hB hz1 hk1 hS => ?_)
                    have hru9 := hw.2
                    have hw := hw.1
                    obtain ⟨hP, hD, hK⟩ := Bw.go (ws' := [(arI rM_letters kM_letters 8 f_4822), (oc7 oM iM_thrown rM_tape iM_taped iM_size z_4785 iM_end iM_token 0 z_4821 iM_fault iM_place iM_trouble rM_letters iM_failed iM_hasCourt rM_r rM_fresh rM_told rM_read rM_st rM_undone rM_kept iM_undos iM_images rM_fresher iM_fresherSize iM_scale iM_night rM_heardRow rM_cutRow iM_breaths iM_cutMany iM_allBreaths rM_trial rM_words iM_fewestBreaths iM_orderMany iM_orderSum iM_leastOrder rM_often iM_setMany iM_someOf iM_allOf iM_allWeight iM_enoughWeight iM_worthSum iM_firstRest iM_leastDrawn), (arI rM_tape kM_tape 900 fM_tape)]) (tys' := [(kM_letters, .int), (kM_tape, .int)]) hB rfl ht hvm hP hD hK [1, 2] [0] rfl (by decide) (by decide) [0] hk1 hFc rfl rfl rfl
                    clear hz1 hk1 hvm ht hB
                    obtain ⟨x_4833, rfl⟩ : ∃ z, z = r := ⟨_, rfl⟩
                    have hG := hG.trans (lt_eq hru9.symm)
                    have lx_4833 := hw.2
                    refine va_iast hx hb hK hP hD hS 0 0 rfl rfl (ti_in rfl (by omega) (by omega)) dX7_next_100 (fun H locs hP hD hS => ?_)
                    obtain ⟨f_4835, ef_4835⟩ : ∃ g : Nat → Int32, g = upd f_4822 z_4821.toNatClampNeg x_4833 := ⟨_, rfl⟩
                    rw [← ef_4835] at hP hD
                    have hG := hG.trans (lt_eq ef_4835)
                    obtain ⟨hP, hD⟩ := wl2 (ws' := [(arI rM_letters kM_letters 8 f_4835), (oc7 oM iM_thrown rM_tape iM_taped iM_size z_4785 iM_end iM_token 0 z_4821 iM_fault iM_place iM_trouble rM_letters iM_failed iM_hasCourt rM_r rM_fresh rM_told rM_read rM_st rM_undone rM_kept iM_undos iM_images rM_fresher iM_fresherSize iM_scale iM_night rM_heardRow rM_cutRow iM_breaths iM_cutMany iM_allBreaths rM_trial rM_words iM_fewestBreaths iM_orderMany iM_orderSum iM_leastOrder rM_often iM_setMany iM_someOf iM_allOf iM_allWeight iM_enoughWeight iM_worthSum iM_firstRest iM_leastDrawn), (arI rM_tape kM_tape 900 fM_tape)]) hP hD rfl
                    refine lv_aload_n hx hb dX7_next_101 rfl (lv_at hl 2 rfl) ?_
                    refine lv_dup hx hb dX7_next_102 rfl ?_
                    refine va_get (D := (dC, dI)) (ci := 7) (v := .int z_4821) (C := RX7) (T := TX7) (N := 48) hx hb hts inX7 hown hK hP 1 rfl rfl 8 (by decide) (hts _ wd_404) (fun _ h9 => h9) rfl dX7_next_103 ?_
                    refine lv_iconst (v := 1) hx hb dX7_next_106 (by decide) ?_
                    refine lv_iadd hx hb dX7_next_107 ?_
                    refine lv_topi (fun x_4836 ex_4836 => ?_)
                    have hG := hG.trans (lt_eq ex_4836)
                    have vx_4836 : x_4836.toInt = z_4821.toInt + 1 := by have q := ti_add ex_4836 rfl kc_1 (by omega) (by omega); omega
                    refine va_put (D := (dC, dI)) (ci := 7) (v := .int x_4836) (ty := .int) (C := RX7) (T := TX7) (N := 48) hx hb hts inX7 tyX7 tyX7_ok nmX7 hown hK hP hD hS 1 rfl rfl 8 (by decide) (hts _ wd_404) (fun _ h9 => h9) rfl (by decide +kernel) rfl rfl (Nat.le_of_ble_eq_true rfl) dX7_next_108 (fun H locs hP hD hS => ?_)
                    obtain ⟨hP, hD⟩ := wl2 (ws' := [(arI rM_letters kM_letters 8 f_4835), (oc7 oM iM_thrown rM_tape iM_taped iM_size z_4785 iM_end iM_token 0 x_4836 iM_fault iM_place iM_trouble rM_letters iM_failed iM_hasCourt rM_r rM_fresh rM_told rM_read rM_st rM_undone rM_kept iM_undos iM_images rM_fresher iM_fresherSize iM_scale iM_night rM_heardRow rM_cutRow iM_breaths iM_cutMany iM_allBreaths rM_trial rM_words iM_fewestBreaths iM_orderMany iM_orderSum iM_leastOrder rM_often iM_setMany iM_someOf iM_allOf iM_allWeight iM_enoughWeight iM_worthSum iM_firstRest iM_leastDrawn), (arI rM_tape kM_tape 900 fM_tape)]) hP hD rfl
                    obtain ⟨x_4837, ex_4837⟩ : ∃ z : Int32, z = z_4820 + Int32.ofInt 1 := ⟨_, rfl⟩
                    have hG := hG.trans (lt_eq ex_4837)
                    have vx_4837 : x_4837.toInt = z_4820.toInt + 1 := by have q := ti_add (y := 1) ex_4837 rfl kc_1 (by omega) (by omega); omega
                    refine lv_iinc (v := x_4837) (lv' := [(1, .int x_4837), (2, .int x_4789), (0, .ref oM)]) hx hb dX7_next_111 hl (k := 1) rfl ex_4837.symm (by decide) rfl (fun ls hl => ?_)
                    refine lv_goto (tgt := 67) hx hb dX7_next_114 (by decide) ?_
                    exact ih_n_4823 x_4837 x_4836 f_4835 _ _ _ (by have q := vx_4836; omega) (by first | omega | decide | assumption) (by first | omega | decide | assumption) (by omega) hG (hP.sub [0, 1, 2] rfl) (hD.sub [0, 1, 2] (by decide) rfl) hS (lv_sub hl [1, 0, 2] rfl)
            exact key_n_4823 (((900 - z_4785.toInt).toNat) + 1) z_4785 0 fM_letters _ _ _ (by decide) (by first | omega | decide | assumption | (have q0 := kc_0; have q1 := kc_1; omega)) (by first | omega | decide | assumption | (have q0 := kc_0; have q1 := kc_1; omega)) (by omega) hG hP hD hS hl
        · skip
          have hG := hG.trans (if_pos c_4790)
          have gc_4790 := ti_eq c_4790 rfl kc_m1
          refine lv_aload_n hx hb dX7_next_47 rfl (lv_at hl 2 rfl) ?_
          refine lv_iconst (v := 0) hx hb dX7_next_48 (by decide) ?_
          refine va_put (D := (dC, dI)) (ci := 7) (v := .int 0) (ty := .int) (C := RX7) (T := TX7) (N := 48) hx hb hts inX7 tyX7 tyX7_ok nmX7 hown hK hP hD hS 1 rfl rfl 6 (by decide) (hts _ wd_383) (fun _ h9 => h9) rfl (by decide +kernel) rfl rfl (Nat.le_of_ble_eq_true rfl) dX7_next_49 (fun H locs hP hD hS => ?_)
          obtain ⟨hP, hD⟩ := wl2 (ws' := [(arI rM_letters kM_letters 8 fM_letters), (oc7 oM iM_thrown rM_tape iM_taped iM_size z_4785 iM_end 0 0 0 iM_fault iM_place iM_trouble rM_letters iM_failed iM_hasCourt rM_r rM_fresh rM_told rM_read rM_st rM_undone rM_kept iM_undos iM_images rM_fresher iM_fresherSize iM_scale iM_night rM_heardRow rM_cutRow iM_breaths iM_cutMany iM_allBreaths rM_trial rM_words iM_fewestBreaths iM_orderMany iM_orderSum iM_leastOrder rM_often iM_setMany iM_someOf iM_allOf iM_allWeight iM_enoughWeight iM_worthSum iM_firstRest iM_leastDrawn), (arI rM_tape kM_tape 900 fM_tape)]) hP hD rfl
          refine lv_aload_n hx hb dX7_next_52 rfl (lv_at hl 2 rfl) ?_
          refine lv_iload_n hx hb dX7_next_53 rfl (lv_at hl 1 rfl) ?_
          refine va_put (D := (dC, dI)) (ci := 7) (v := .int z_4785) (ty := .int) (C := RX7) (T := TX7) (N := 48) hx hb hts inX7 tyX7 tyX7_ok nmX7 hown hK hP hD hS 1 rfl rfl 5 (by decide) (hts _ wd_382) (fun _ h9 => h9) rfl (by decide +kernel) rfl rfl (Nat.le_of_ble_eq_true rfl) dX7_next_54 (fun H locs hP hD hS => ?_)
          obtain ⟨hP, hD⟩ := wl2 (ws' := [(arI rM_letters kM_letters 8 fM_letters), (oc7 oM iM_thrown rM_tape iM_taped iM_size z_4785 z_4785 0 0 0 iM_fault iM_place iM_trouble rM_letters iM_failed iM_hasCourt rM_r rM_fresh rM_told rM_read rM_st rM_undone rM_kept iM_undos iM_images rM_fresher iM_fresherSize iM_scale iM_night rM_heardRow rM_cutRow iM_breaths iM_cutMany iM_allBreaths rM_trial rM_words iM_fewestBreaths iM_orderMany iM_orderSum iM_leastOrder rM_often iM_setMany iM_someOf iM_allOf iM_allWeight iM_enoughWeight iM_worthSum iM_firstRest iM_leastDrawn), (arI rM_tape kM_tape 900 fM_tape)]) hP hD rfl
          refine lv_goto (tgt := 247) hx hb dX7_next_57 (by decide) ?_
          exact W.vret hx hb hr (fun t ht hW => ⟨⟨0, rfl, trivial, ⟨z_4785, z_4785, 0, 0, 0, fM_letters, (by omega), (by decide), (by have q0 := kc_0; have q1 := kc_1; have q2 := kc_2; have q3 := kc_3; omega), (fun h9 => by have q0 := kc_0; have q1 := kc_1; have q2 := kc_2; have q3 := kc_3; omega), (fun h9 => by have q0 := kc_0; have q1 := kc_1; have q2 := kc_2; have q3 := kc_3; omega), hG, Bw.to (hP.sub [1, 2, 0] rfl) (hD.sub [1, 2, 0] (by decide) rfl) (hK.sub [1, 0] rfl) ht hW⟩⟩, hS.F ht⟩) hS.2.2 dX7_next_247
      · skip
        have hG := hG.trans (if_pos c_4788)
        have gc_4788 := ti_eq c_4788 rfl kc_32
        have h_4838 := lx_4787 (by omega)
        clear lx_4787
        obtain ⟨x_4839, ex_4839⟩ : ∃ z : Int32, z = z_4785 + Int32.ofInt 1 := ⟨_, rfl⟩
        have hG := hG.trans (lt_eq ex_4839)
        have vx_4839 : x_4839.toInt = z_4785.toInt + 1 := by have q := ti_add (y := 1) ex_4839 rfl kc_1 (by omega) (by omega); omega
        refine lv_iinc (v := x_4839) (lv' := [(1, .int x_4839), (0, .ref oM)]) hx hb dX7_next_15 hl (k := 0) rfl ex_4839.symm (by decide) rfl (fun ls hl => ?_)
        refine lv_goto (tgt := 5) hx hb dX7_next_18 (by decide) ?_
        exact ih_n_4786 x_4839 _ _ _  (by first | omega | decide | assumption) (by omega) hG (hP.sub [1, 2, 0] rfl) (hD.sub [1, 2, 0] (by decide) rfl) hS (lv_sub hl [0, 1] rfl)
  exact key_n_4786 (((900 - iM_end.toInt).toNat) + 1) iM_end _ _ _  (by first | omega | decide | assumption | (have q0 := kc_0; have q1 := kc_1; omega)) (by omega) hG hP hD hS hl
set_option maxHeartbeats 4000000 in
set_option maxRecDepth 100000 in
theorem tX7_wrong (l : Launch) (dC : Nat → ClassId) (dI : Nat → Nat → Nat) (sz : Nat) (oM : Nat) (iM_thrown : Int32) (rM_tape : Nat) (iM_taped : Int32) (iM_size : Int32) (iM_at : Int32) (iM_end : Int32) (iM_token : Int32) (iM_whole : Int32) (iM_nameSize : Int32) (iM_fault : Int32) (iM_place : Int32) (iM_trouble : Int32) (rM_letters : Nat) (iM_failed : Int32) (iM_hasCourt : Int32) (rM_r : Nat) (rM_fresh : Nat) (rM_told : Nat) (rM_read : Nat) (rM_st : Nat) (rM_undone : Nat) (rM_kept : Nat) (iM_undos : Int32) (iM_images : Int32) (rM_fresher : Nat) (iM_fresherSize : Int32) (iM_scale : Int32) (iM_night : Int32) (rM_heardRow : Nat) (rM_cutRow : Nat) (iM_breaths : Int32) (iM_cutMany : Int32) (iM_allBreaths : Int32) (rM_trial : Nat) (rM_words : Nat) (iM_fewestBreaths : Int32) (iM_orderMany : Int32) (iM_orderSum : Int32) (iM_leastOrder : Int32) (rM_often : Nat) (iM_setMany : Int32) (iM_someOf : Int32) (iM_allOf : Int32) (iM_allWeight : Int64) (iM_enoughWeight : Int64) (iM_worthSum : Int64) (iM_firstRest : Int32) (iM_leastDrawn : Int32) (p0 : Int32) (p1 : Int32) (b_iM_taped : 0 ≤ iM_taped.toInt ∧ iM_taped.toInt ≤ 900) (b_iM_size : 0 ≤ iM_size.toInt ∧ iM_size.toInt ≤ 900) (b_iM_end : 0 ≤ iM_end.toInt ∧ iM_end.toInt ≤ 900) (b_iM_nameSize : 0 ≤ iM_nameSize.toInt ∧ iM_nameSize.toInt ≤ 900) (b_iM_failed : 0 ≤ iM_failed.toInt ∧ iM_failed.toInt ≤ 1) (b_iM_hasCourt : 0 ≤ iM_hasCourt.toInt ∧ iM_hasCourt.toInt ≤ 1) (b_iM_undos : 0 ≤ iM_undos.toInt ∧ iM_undos.toInt ≤ 16) (b_iM_images : 0 ≤ iM_images.toInt ∧ iM_images.toInt ≤ 3) (b_iM_scale : 1 ≤ iM_scale.toInt ∧ iM_scale.toInt ≤ 1296) (b_iM_breaths : 0 ≤ iM_breaths.toInt ∧ iM_breaths.toInt ≤ 399) (b_iM_cutMany : 0 ≤ iM_cutMany.toInt ∧ iM_cutMany.toInt ≤ 399) (r_T : ImpP (iM_token.toInt = 2) (iM_nameSize.toInt ≤ 8))  : Met l yX7_wrong (Cond.code yX7_wrong cX7_wrong 3 none :: wG) ({ frames := 0, cells := 0, slots := 0, locals := 0 }) (va_Pc [.ref oM, .int p0, .int p1] (Pw dC dI sz [(oc7 oM iM_thrown rM_tape iM_taped iM_size iM_at iM_end iM_token iM_whole iM_nameSize iM_fault iM_place iM_trouble rM_letters iM_failed iM_hasCourt rM_r rM_fresh rM_told rM_read rM_st rM_undone rM_kept iM_undos iM_images rM_fresher iM_fresherSize iM_scale iM_night rM_heardRow rM_cutRow iM_breaths iM_cutMany iM_allBreaths rM_trial rM_words iM_fewestBreaths iM_orderMany iM_orderSum iM_leastOrder rM_often iM_setMany iM_someOf iM_allOf iM_allWeight iM_enoughWeight iM_worthSum iM_firstRest iM_leastDrawn)] [])) (va_Qv (fun (_ : Nat) => True) (fun (_ : Nat) (t : State) => ∃ (niM_fault : Int32) (niM_place : Int32) (niM_failed : Int32), (0 ≤ niM_failed.toInt ∧ niM_failed.toInt ≤ 1) ∧ (niM_failed.toInt = 1) ∧ (PX7_wrong iM_fault iM_place iM_failed p0 p1 = (niM_fault, niM_place, niM_failed)) ∧ Bw dC dI (va_A [(oc7 oM iM_thrown rM_tape iM_taped iM_size iM_at iM_end iM_token iM_whole iM_nameSize iM_fault iM_place iM_trouble rM_letters iM_failed iM_hasCourt rM_r rM_fresh rM_told rM_read rM_st rM_undone rM_kept iM_undos iM_images rM_fresher iM_fresherSize iM_scale iM_night rM_heardRow rM_cutRow iM_breaths iM_cutMany iM_allBreaths rM_trial rM_words iM_fewestBreaths iM_orderMany iM_orderSum iM_leastOrder rM_often iM_setMany iM_someOf iM_allOf iM_allWeight iM_enoughWeight iM_worthSum iM_firstRest iM_leastDrawn)] sz) [(oc7 oM iM_thrown rM_tape iM_taped iM_size iM_at iM_end iM_token iM_whole iM_nameSize niM_fault niM_place iM_trouble rM_letters niM_failed iM_hasCourt rM_r rM_fresh rM_told rM_read rM_st rM_undone rM_kept iM_undos iM_images rM_fresher iM_fresherSize iM_scale iM_night rM_heardRow rM_cutRow iM_breaths iM_cutMany iM_allBreaths rM_trial rM_words iM_fewestBreaths iM_orderMany iM_orderSum iM_leastOrder rM_often iM_setMany iM_someOf iM_allOf iM_allWeight iM_enoughWeight iM_worthSum iM_firstRest iM_leastDrawn)] [] t) (va_A [(oc7 oM iM_thrown rM_tape iM_taped iM_size iM_at iM_end iM_token iM_whole iM_nameSize iM_fault iM_place iM_trouble rM_letters iM_failed iM_hasCourt rM_r rM_fresh rM_told rM_read rM_st rM_undone rM_kept iM_undos iM_images rM_fresher iM_fresherSize iM_scale iM_night rM_heardRow rM_cutRow iM_breaths iM_cutMany iM_allBreaths rM_trial rM_words iM_fewestBreaths iM_orderMany iM_orderSum iM_leastOrder rM_often iM_setMany iM_someOf iM_allOf iM_allWeight iM_enoughWeight iM_worthSum iM_firstRest iM_leastDrawn)] sz)) 0 0 (va_A [(oc7 oM iM_thrown rM_tape iM_taped iM_size iM_at iM_end iM_token iM_whole iM_nameSize iM_fault iM_place iM_trouble rM_letters iM_failed iM_hasCourt rM_r rM_fresh rM_told rM_read rM_st rM_undone rM_kept iM_undos iM_images rM_fresher iM_fresherSize iM_scale iM_night rM_heardRow rM_cutRow iM_breaths iM_cutMany iM_allBreaths rM_trial rM_words iM_fewestBreaths iM_orderMany iM_orderSum iM_leastOrder rM_often iM_setMany iM_someOf iM_allOf iM_allWeight iM_enoughWeight iM_worthSum iM_firstRest iM_leastDrawn)] sz) := by
  refine Met.ofW (cc := cX7_wrong) (maxL := 3) (ret := none) (by decide) rfl ?_
  intro p e s m args below meth c s₁ B hml hv
  obtain ⟨rfl, hsz, hP, hK, hD0, hE⟩ := hv
  have hx := B.exec
  have hb := B.bytes
  have hr := B.returns
  have hts : ∀ w ∈ wG, w.before ([.ref oM, .int p0, .int p1] : List Value).toArray s = true := fun w h => atoms_spec (ws := Cond.code yX7_wrong cX7_wrong 3 none :: wG) B.pre w (List.mem_cons_of_mem _ h)
  have hown : s.vm.findClass RX7 = some m.cls := findClass_of_methodNamed B.named
  have hlocks := B.notSynchronized
  subst hsz
  have hD := hD0.self (sz := s.heap.size)
  generalize hAe : va_A [(oc7 oM iM_thrown rM_tape iM_taped iM_size iM_at iM_end iM_token iM_whole iM_nameSize iM_fault iM_place iM_trouble rM_letters iM_failed iM_hasCourt rM_r rM_fresh rM_told rM_read rM_st rM_undone rM_kept iM_undos iM_images rM_fresher iM_fresherSize iM_scale iM_night rM_heardRow rM_cutRow iM_breaths iM_cutMany iM_allBreaths rM_trial rM_words iM_fewestBreaths iM_orderMany iM_orderSum iM_leastOrder rM_often iM_setMany iM_someOf iM_allOf iM_allWeight iM_enoughWeight iM_worthSum iM_firstRest iM_leastDrawn)] s.heap.size = A at hD hE ⊢
  have hA : ∀ q : Nat, s.heap.size ≤ q → A q := fun q h => by rw [← hAe]; exact Or.inr h
  have hS : va_S A s.heap s.heap [] := va_S.rf
  have hl := lv_entry ([.ref oM, .int p0, .int p1]) (n := 3) (Nat.le_of_ble_eq_true rfl)
  rw [lg_entry_eq]
  generalize (lg_sl ([.ref oM, .int p0, .int p1]) ++ List.replicate (3 - (lg_sl ([.ref oM, .int p0, .int p1])).length) Slot.unset).toArray = ls at hl ⊢
  have hl : lv_has ls 3 [(0, .ref oM), (1, .int p0), (2, .int p1)] := hl
  have hG := PX7_wrong_eq iM_fault iM_place iM_failed p0 p1
  refine lv_aload_n hx hb dX7_wrong_0 rfl (lv_at hl 0 rfl) ?_
  refine va_get (D := (dC, dI)) (ci := 7) (v := .int iM_failed) (C := RX7) (T := TX7) (N := 48) hx hb hts inX7 hown hK hP 0 rfl rfl 13 (by decide) (hts _ wd_380) (fun _ h9 => h9) rfl dX7_wrong_1 ?_
  refine lv_if_eq (tgt := 8) hx hb dX7_wrong_4 (by decide) (fun c_4841 => ?_) (fun c_4841 => ?_)
  · skip
    have hG := hG.trans (if_pos c_4841)
    have gc_4841 := ti_eq c_4841 rfl kc_0
    refine lv_aload_n hx hb dX7_wrong_8 rfl (lv_at hl 0 rfl) ?_
    refine lv_iconst (v := 1) hx hb dX7_wrong_9 (by decide) ?_
    refine va_put (D := (dC, dI)) (ci := 7) (v := .int 1) (ty := .boolean) (C := RX7) (T := TX7) (N := 48) hx hb hts inX7 tyX7 tyX7_ok nmX7 hown hK hP hD hS 0 rfl rfl 13 (by decide) (hts _ wd_380) (fun _ h9 => h9) rfl (by decide +kernel) rfl rfl (Nat.le_of_ble_eq_true rfl) dX7_wrong_10 (fun H locs hP hD hS => ?_)
    obtain ⟨hP, hD⟩ := wl2 (ws' := [(oc7 oM iM_thrown rM_tape iM_taped iM_size iM_at iM_end iM_token iM_whole iM_nameSize iM_fault iM_place iM_trouble rM_letters 1 iM_hasCourt rM_r rM_fresh rM_told rM_read rM_st rM_undone rM_kept iM_undos iM_images rM_fresher iM_fresherSize iM_scale iM_night rM_heardRow rM_cutRow iM_breaths iM_cutMany iM_allBreaths rM_trial rM_words iM_fewestBreaths iM_orderMany iM_orderSum iM_leastOrder rM_often iM_setMany iM_someOf iM_allOf iM_allWeight iM_enoughWeight iM_worthSum iM_firstRest iM_leastDrawn)]) hP hD rfl
    refine lv_aload_n hx hb dX7_wrong_13 rfl (lv_at hl 0 rfl) ?_
    refine lv_iload_n hx hb dX7_wrong_14 rfl (lv_at hl 1 rfl) ?_
    refine va_put (D := (dC, dI)) (ci := 7) (v := .int p0) (ty := .int) (C := RX7) (T := TX7) (N := 48) hx hb hts inX7 tyX7 tyX7_ok nmX7 hown hK hP hD hS 0 rfl rfl 9 (by decide) (hts _ wd_379) (fun _ h9 => h9) rfl (by decide +kernel) rfl rfl (Nat.le_of_ble_eq_true rfl) dX7_wrong_15 (fun H locs hP hD hS => ?_)
    obtain ⟨hP, hD⟩ := wl2 (ws' := [(oc7 oM iM_thrown rM_tape iM_taped iM_size iM_at iM_end iM_token iM_whole iM_nameSize p0 iM_place iM_trouble rM_letters 1 iM_hasCourt rM_r rM_fresh rM_told rM_read rM_st rM_undone rM_kept iM_undos iM_images rM_fresher iM_fresherSize iM_scale iM_night rM_heardRow rM_cutRow iM_breaths iM_cutMany iM_allBreaths rM_trial rM_words iM_fewestBreaths iM_orderMany iM_orderSum iM_leastOrder rM_often iM_setMany iM_someOf iM_allOf iM_allWeight iM_enoughWeight iM_worthSum iM_firstRest iM_leastDrawn)]) hP hD rfl
    refine lv_aload_n hx hb dX7_wrong_18 rfl (lv_at hl 0 rfl) ?_
    refine lv_iload_n hx hb dX7_wrong_19 rfl (lv_at hl 2 rfl) ?_
    refine va_put (D := (dC, dI)) (ci := 7) (v := .int p1) (ty := .int) (C := RX7) (T := TX7) (N := 48) hx hb hts inX7 tyX7 tyX7_ok nmX7 hown hK hP hD hS 0 rfl rfl 10 (by decide) (hts _ wd_153) (fun _ h9 => h9) rfl (by decide +kernel) rfl rfl (Nat.le_of_ble_eq_true rfl) dX7_wrong_20 (fun H locs hP hD hS => ?_)
    obtain ⟨hP, hD⟩ := wl2 (ws' := [(oc7 oM iM_thrown rM_tape iM_taped iM_size iM_at iM_end iM_token iM_whole iM_nameSize p0 p1 iM_trouble rM_letters 1 iM_hasCourt rM_r rM_fresh rM_told rM_read rM_st rM_undone rM_kept iM_undos iM_images rM_fresher iM_fresherSize iM_scale iM_night rM_heardRow rM_cutRow iM_breaths iM_cutMany iM_allBreaths rM_trial rM_words iM_fewestBreaths iM_orderMany iM_orderSum iM_leastOrder rM_often iM_setMany iM_someOf iM_allOf iM_allWeight iM_enoughWeight iM_worthSum iM_firstRest iM_leastDrawn)]) hP hD rfl
    exact W.vret hx hb hr (fun t ht hW => ⟨⟨0, rfl, trivial, ⟨p0, p1, 1, (by decide), (by first | omega | decide | assumption), hG, Bw.to (hP.sub [0] rfl) (hD.sub [0] (by decide) rfl) (hK.sub [] rfl) ht hW⟩⟩, hS.F ht⟩) hS.2.2 dX7_wrong_23
  · skip
    have hG := hG.trans (if_neg c_4841)
    have gc_4841 := ti_ne c_4841 rfl kc_0
    replace gc_4841 : (-1) * iM_failed.toInt + 1 ≤ 0 := by omega
    exact W.vret hx hb hr (fun t ht hW => ⟨⟨0, rfl, trivial, ⟨iM_fault, iM_place, iM_failed, (by omega), (by first | omega | decide | assumption), hG, Bw.to (hP.sub [0] rfl) (hD.sub [0] (by decide) rfl) (hK.sub [] rfl) ht hW⟩⟩, hS.F ht⟩) hS.2.2 dX7_wrong_7
set_option maxHeartbeats 4000000 in
set_option maxRecDepth 100000 in
theorem tX7_isWord (l : Launch) (dC : Nat → ClassId) (dI : Nat → Nat → Nat) (sz : Nat) (oM : Nat) (iM_thrown : Int32) (rM_tape : Nat) (iM_taped : Int32) (iM_size : Int32) (iM_at : Int32) (iM_end : Int32) (iM_token : Int32) (iM_whole : Int32) (iM_nameSize : Int32) (iM_fault : Int32) (iM_place : Int32) (iM_trouble : Int32) (rM_letters : Nat) (fM_letters : Nat → Int32) (kM_letters : ClassId) (iM_failed : Int32) (iM_hasCourt : Int32) (rM_r : Nat) (rM_fresh : Nat) (rM_told : Nat) (rM_read : Nat) (rM_st : Nat) (rM_undone : Nat) (rM_kept : Nat) (iM_undos : Int32) (iM_images : Int32) (rM_fresher : Nat) (iM_fresherSize : Int32) (iM_scale : Int32) (iM_night : Int32) (rM_heardRow : Nat) (rM_cutRow : Nat) (iM_breaths : Int32) (iM_cutMany : Int32) (iM_allBreaths : Int32) (rM_trial : Nat) (rM_words : Nat) (iM_fewestBreaths : Int32) (iM_orderMany : Int32) (iM_orderSum : Int32) (iM_leastOrder : Int32) (rM_often : Nat) (iM_setMany : Int32) (iM_someOf : Int32) (iM_allOf : Int32) (iM_allWeight : Int64) (iM_enoughWeight : Int64) (iM_worthSum : Int64) (iM_firstRest : Int32) (iM_leastDrawn : Int32) (sA : Nat) (sV : Nat) (sN : Nat) (sF : Nat → Int32) (b_iM_taped : 0 ≤ iM_taped.toInt ∧ iM_taped.toInt ≤ 900) (b_iM_size : 0 ≤ iM_size.toInt ∧ iM_size.toInt ≤ 900) (b_iM_end : 0 ≤ iM_end.toInt ∧ iM_end.toInt ≤ 900) (b_iM_nameSize : 0 ≤ iM_nameSize.toInt ∧ iM_nameSize.toInt ≤ 900) (b_iM_failed : 0 ≤ iM_failed.toInt ∧ iM_failed.toInt ≤ 1) (b_iM_hasCourt : 0 ≤ iM_hasCourt.toInt ∧ iM_hasCourt.toInt ≤ 1) (b_iM_undos : 0 ≤ iM_undos.toInt ∧ iM_undos.toInt ≤ 16) (b_iM_images : 0 ≤ iM_images.toInt ∧ iM_images.toInt ≤ 3) (b_iM_scale : 1 ≤ iM_scale.toInt ∧ iM_scale.toInt ≤ 1296) (b_iM_breaths : 0 ≤ iM_breaths.toInt ∧ iM_breaths.toInt ≤ 399) (b_iM_cutMany : 0 ≤ iM_cutMany.toInt ∧ iM_cutMany.toInt ≤ 399) (r_T : ImpP (iM_token.toInt = 2) (iM_nameSize.toInt ≤ 8)) (hsn : sN ≤ 8) : Met l yX7_isWord (Cond.code yX7_isWord cX7_isWord 4 (some .boolean) :: wG) ({ frames := 4, cells := 0, slots := 0, locals := 111 }) (va_Pc [.ref oM, .ref sA] (Pq dC dI sz [(oc7 oM iM_thrown rM_tape iM_taped iM_size iM_at iM_end iM_token iM_whole iM_nameSize iM_fault iM_place iM_trouble rM_letters iM_failed iM_hasCourt rM_r rM_fresh rM_told rM_read rM_st rM_undone rM_kept iM_undos iM_images rM_fresher iM_fresherSize iM_scale iM_night rM_heardRow rM_cutRow iM_breaths iM_cutMany iM_allBreaths rM_trial rM_words iM_fewestBreaths iM_orderMany iM_orderSum iM_leastOrder rM_often iM_setMany iM_someOf iM_allOf iM_allWeight iM_enoughWeight iM_worthSum iM_firstRest iM_leastDrawn), (arI rM_letters kM_letters 8 fM_letters)] [(kM_letters, .int)] sA sV sN sF)) (va_Qi (fun (r : Int32) (_ : Nat) => ((r = 0 ∨ r = 1) ∧ (r.toInt = 1 → iM_token.toInt = 2)) ∧ PX7_isWord iM_token iM_nameSize fM_letters iM_failed sN sF = r) (fun (_ : Nat) (t : State) => Bw dC dI (va_A [(oc7 oM iM_thrown rM_tape iM_taped iM_size iM_at iM_end iM_token iM_whole iM_nameSize iM_fault iM_place iM_trouble rM_letters iM_failed iM_hasCourt rM_r rM_fresh rM_told rM_read rM_st rM_undone rM_kept iM_undos iM_images rM_fresher iM_fresherSize iM_scale iM_night rM_heardRow rM_cutRow iM_breaths iM_cutMany iM_allBreaths rM_trial rM_words iM_fewestBreaths iM_orderMany iM_orderSum iM_leastOrder rM_often iM_setMany iM_someOf iM_allOf iM_allWeight iM_enoughWeight iM_worthSum iM_firstRest iM_leastDrawn), (arI rM_letters kM_letters 8 fM_letters)] sz) [(oc7 oM iM_thrown rM_tape iM_taped iM_size iM_at iM_end iM_token iM_whole iM_nameSize iM_fault iM_place iM_trouble rM_letters iM_failed iM_hasCourt rM_r rM_fresh rM_told rM_read rM_st rM_undone rM_kept iM_undos iM_images rM_fresher iM_fresherSize iM_scale iM_night rM_heardRow rM_cutRow iM_breaths iM_cutMany iM_allBreaths rM_trial rM_words iM_fewestBreaths iM_orderMany iM_orderSum iM_leastOrder rM_often iM_setMany iM_someOf iM_allOf iM_allWeight iM_enoughWeight iM_worthSum iM_firstRest iM_leastDrawn), (arI rM_letters kM_letters 8 fM_letters)] [(kM_letters, .int)] t) (va_A [(oc7 oM iM_thrown rM_tape iM_taped iM_size iM_at iM_end iM_token iM_whole iM_nameSize iM_fault iM_place iM_trouble rM_letters iM_failed iM_hasCourt rM_r rM_fresh rM_told rM_read rM_st rM_undone rM_kept iM_undos iM_images rM_fresher iM_fresherSize iM_scale iM_night rM_heardRow rM_cutRow iM_breaths iM_cutMany iM_allBreaths rM_trial rM_words iM_fewestBreaths iM_orderMany iM_orderSum iM_leastOrder rM_often iM_setMany iM_someOf iM_allOf iM_allWeight iM_enoughWeight iM_worthSum iM_firstRest iM_leastDrawn), (arI rM_letters kM_letters 8 fM_letters)] sz)) 0 0 (va_A [(oc7 oM iM_thrown rM_tape iM_taped iM_size iM_at iM_end iM_token iM_whole iM_nameSize iM_fault iM_place iM_trouble rM_letters iM_failed iM_hasCourt rM_r rM_fresh rM_told rM_read rM_st rM_undone rM_kept iM_undos iM_images rM_fresher iM_fresherSize iM_scale iM_night rM_heardRow rM_cutRow iM_breaths iM_cutMany iM_allBreaths rM_trial rM_words iM_fewestBreaths iM_orderMany iM_orderSum iM_leastOrder rM_often iM_setMany iM_someOf iM_allOf iM_allWeight iM_enoughWeight iM_worthSum iM_firstRest iM_leastDrawn), (arI rM_letters kM_letters 8 fM_letters)] sz) := by
  refine Met.ofW (cc := cX7_isWord) (maxL := 4) (ret := (some .boolean)) (by decide) rfl ?_
  intro p e s m args below meth c s₁ B hml hv
  obtain ⟨rfl, ⟨hsz, hP, hK, hD0, hE⟩, hSw⟩ := hv
  have hx := B.exec
  have hb := B.bytes
  have hr := B.returns
  have hts : ∀ w ∈ wG, w.before ([.ref oM, .ref sA] : List Value).toArray s = true := fun w h => atoms_spec (ws := Cond.code yX7_isWord cX7_isWord 4 (some .boolean) :: wG) B.pre w (List.mem_cons_of_mem _ h)
  have hown : s.vm.findClass RX7 = some m.cls := findClass_of_methodNamed B.named
  have hlocks := B.notSynchronized
  subst hsz
  have hD := hD0.self (sz := s.heap.size)
  generalize hAe : va_A [(oc7 oM iM_thrown rM_tape iM_taped iM_size iM_at iM_end iM_token iM_whole iM_nameSize iM_fault iM_place iM_trouble rM_letters iM_failed iM_hasCourt rM_r rM_fresh rM_told rM_read rM_st rM_undone rM_kept iM_undos iM_images rM_fresher iM_fresherSize iM_scale iM_night rM_heardRow rM_cutRow iM_breaths iM_cutMany iM_allBreaths rM_trial rM_words iM_fewestBreaths iM_orderMany iM_orderSum iM_leastOrder rM_often iM_setMany iM_someOf iM_allOf iM_allWeight iM_enoughWeight iM_worthSum iM_firstRest iM_leastDrawn), (arI rM_letters kM_letters 8 fM_letters)] s.heap.size = A at hD hE hSw ⊢
  have hA : ∀ q : Nat, s.heap.size ≤ q → A q := fun q h => by rw [← hAe]; exact Or.inr h
  have hS : va_S A s.heap s.heap [] := va_S.rf
  have hl := lv_entry ([.ref oM, .ref sA]) (n := 4) (Nat.le_of_ble_eq_true rfl)
  rw [lg_entry_eq]
  generalize (lg_sl ([.ref oM, .ref sA]) ++ List.replicate (4 - (lg_sl ([.ref oM, .ref sA])).length) Slot.unset).toArray = ls at hl ⊢
  have hl : lv_has ls 4 [(0, .ref oM), (1, .ref sA)] := hl
  have hG := PX7_isWord_eq iM_token iM_nameSize fM_letters iM_failed sN sF
  refine lv_aload_n hx hb dX7_isWord_0 rfl (lv_at hl 0 rfl) ?_
  refine va_get (D := (dC, dI)) (ci := 7) (v := .int iM_failed) (C := RX7) (T := TX7) (N := 48) hx hb hts inX7 hown hK hP 0 rfl rfl 13 (by decide) (hts _ wd_380) (fun _ h9 => h9) rfl dX7_isWord_1 ?_
  refine lv_if_ne (tgt := 26) hx hb dX7_isWord_4 (by decide) (fun c_4858 => ?_) (fun c_4858 => ?_)
  · skip
    have hG := hG.trans (if_neg c_4858)
    have gc_4858 := ti_ne c_4858 rfl kc_0
    replace gc_4858 : (-1) * iM_failed.toInt + 1 ≤ 0 := by omega
    refine lv_iconst (v := 0) hx hb dX7_isWord_26 (by decide) ?_
    exact W.zret (v := 0) hx hb hr rfl (fun t ht hW => ⟨⟨_, 0, rfl, ⟨⟨Or.inl rfl, (by have q := kc_0; first | omega | assumption)⟩, hG⟩, Bw.to (hP.sub [0, 1] rfl) (hD.sub [0, 1] (by decide) rfl) (hK.sub [0] rfl) ht hW⟩, hS.F ht⟩) hS.2.2 dX7_isWord_27
  · skip
    have hG := hG.trans (if_pos c_4858)
    have gc_4858 := ti_eq c_4858 rfl kc_0
    refine lv_aload_n hx hb dX7_isWord_7 rfl (lv_at hl 0 rfl) ?_
    refine va_get (D := (dC, dI)) (ci := 7) (v := .int iM_token) (C := RX7) (T := TX7) (N := 48) hx hb hts inX7 hown hK hP 0 rfl rfl 6 (by decide) (hts _ wd_383) (fun _ h9 => h9) rfl dX7_isWord_8 ?_
    refine lv_iconst (v := 2) hx hb dX7_isWord_11 (by decide) ?_
    refine lv_icmp_ne (tgt := 26) hx hb dX7_isWord_12 (by decide) (fun c_4859 => ?_) (fun c_4859 => ?_)
    · skip
      have hG := hG.trans (if_neg c_4859)
      have gc_4859 := ti_ne c_4859 rfl kc_2
      refine lv_iconst (v := 0) hx hb dX7_isWord_26 (by decide) ?_
      exact W.zret (v := 0) hx hb hr rfl (fun t ht hW => ⟨⟨_, 0, rfl, ⟨⟨Or.inl rfl, (by have q := kc_0; first | omega | assumption)⟩, hG⟩, Bw.to (hP.sub [0, 1] rfl) (hD.sub [0, 1] (by decide) rfl) (hK.sub [0] rfl) ht hW⟩, hS.F ht⟩) hS.2.2 dX7_isWord_27
    · skip
      have hG := hG.trans (if_pos c_4859)
      have gc_4859 := ti_eq c_4859 rfl kc_2
      have h_4860 := r_T (by omega)
      clear r_T
      refine lv_aload_n hx hb dX7_isWord_15 rfl (lv_at hl 0 rfl) ?_
      refine va_get (D := (dC, dI)) (ci := 7) (v := .int iM_nameSize) (C := RX7) (T := TX7) (N := 48) hx hb hts inX7 hown hK hP 0 rfl rfl 8 (by decide) (hts _ wd_404) (fun _ h9 => h9) rfl dX7_isWord_16 ?_
      refine lv_aload_n hx hb dX7_isWord_19 rfl (lv_at hl 1 rfl) ?_
      have hFc : ∀ q, va_A [] _ q → A q := fun q h => hA q (Nat.le_trans hS.1 (va_nilA h))
      refine va_calli (va_runV (As := []) (rest := [.int iM_nameSize]) ⟨hx, hb, hml, hown, hts⟩ (c_length l dC dI _ sA sV sN sF) (cwV 0 hts (wd_V wd_424 wd_72 wd_73 wd_74 (wd_c wd_75)) rfl rfl rfl (by decide +kernel) ⟨Nat.le_of_ble_eq_true rfl, Nat.le_of_ble_eq_true rfl⟩) ⟨Ps.fb, va_Orecv hSw.1 hS, fun U hU hW => Ps.to hK hSw hE hS hA hU hW⟩ rfl rfl hl.1 rfl (lv_room (Nat.le_of_ble_eq_true rfl)) dX7_isWord_20 ⟨Nat.le_of_ble_eq_true rfl, Nat.le_of_ble_eq_true rfl⟩) hS (fun q _ h => hFc q h) hFc (fun r u t H locs ht hvm hw hB hz1 hk1 hS => ?_)
      obtain ⟨hP, hD, hK⟩ := Bw.same ht hvm hP hD hK hk1 hFc
      clear hz1 hk1 hvm ht hB
      obtain ⟨x_4861, rfl⟩ : ∃ z, z = r := ⟨_, rfl⟩
      have hG := hG.trans (lt_eq hw)
      have vx_4861 : x_4861.toInt = (sN : Int) := by rw [hw]; exact nI_toInt (by omega)
      refine lv_icmp_eq (tgt := 28) hx hb dX7_isWord_23 (by decide) (fun c_4862 => ?_) (fun c_4862 => ?_)
      · skip
        have hG := hG.trans (if_pos c_4862)
        have gc_4862 := ti_eq c_4862 rfl vx_4861
        refine lv_iconst (v := 1) hx hb dX7_isWord_28 (by decide) ?_
        refine lv_istore_n (lv' := [(2, .int 1), (0, .ref oM), (1, .ref sA)]) hx hb dX7_isWord_29 rfl hl (by decide) rfl (fun ls hl => ?_)
        refine lv_iconst (v := 0) hx hb dX7_isWord_30 (by decide) ?_
        refine lv_istore_n (lv' := [(3, .int 0), (2, .int 1), (0, .ref oM), (1, .ref sA)]) hx hb dX7_isWord_31 rfl hl (by decide) rfl (fun ls hl => ?_)
        have hl := lv_sub hl (l' := [(3, .int 0), (2, .int 1), (0, .ref oM), (1, .ref sA)]) [0, 1, 2, 3] rfl
        have key_n_4865 : ∀ (n_4865 : Nat) (z_4863 : Int32) (z_4864 : Int32) (H : Heap) (locs : List Loc) (ls : Array Slot), (0 ≤ z_4863.toInt ∧ z_4863.toInt ≤ iM_nameSize.toInt) → (0 ≤ z_4864.toInt ∧ z_4864.toInt ≤ 1) → (iM_nameSize.toInt - z_4863.toInt).toNat < n_4865 → (PX7_isWord iM_token iM_nameSize fM_letters iM_failed sN sF = HX7_isWord_0 iM_nameSize fM_letters sF n_4865 z_4863 z_4864) → va_P (dC, dI) vwCl [(oc7 oM iM_thrown rM_tape iM_taped iM_size iM_at iM_end iM_token iM_whole iM_nameSize iM_fault iM_place iM_trouble rM_letters iM_failed iM_hasCourt rM_r rM_fresh rM_told rM_read rM_st rM_undone rM_kept iM_undos iM_images rM_fresher iM_fresherSize iM_scale iM_night rM_heardRow rM_cutRow iM_breaths iM_cutMany iM_allBreaths rM_trial rM_words iM_fewestBreaths iM_orderMany iM_orderSum iM_leastOrder rM_often iM_setMany iM_someOf iM_allOf iM_allWeight iM_enoughWeight iM_worthSum iM_firstRest iM_leastDrawn), (arI rM_letters kM_letters 8 fM_letters)] H → va_D A [(oc7 oM iM_thrown rM_tape iM_taped iM_size iM_at iM_end iM_token iM_whole iM_nameSize iM_fault iM_place iM_trouble rM_letters iM_failed iM_hasCourt rM_r rM_fresh rM_told rM_read rM_st rM_undone rM_kept iM_undos iM_images rM_fresher iM_fresherSize iM_scale iM_night rM_heardRow rM_cutRow iM_breaths iM_cutMany iM_allBreaths rM_trial rM_words iM_fewestBreaths iM_orderMany iM_orderSum iM_leastOrder rM_often iM_setMany iM_someOf iM_allOf iM_allWeight iM_enoughWeight iM_worthSum iM_firstRest iM_leastDrawn), (arI rM_letters kM_letters 8 fM_letters)] → va_S A s.heap H locs → lv_has ls 4 [(3, .int z_4863), (2, .int z_4864), (0, .ref oM), (1, .ref sA)] → W p l e (headSpec (Cond.code yX7_isWord cX7_isWord 4 (some .boolean) :: wG) ({ frames := 4, cells := 0, slots := 0, locals := 111 })).room s m ([.ref oM, .ref sA] : List Value).toArray below meth c H locs 0 0 (MQ below (va_Qi (fun (r : Int32) (_ : Nat) => ((r = 0 ∨ r = 1) ∧ (r.toInt = 1 → iM_token.toInt = 2)) ∧ PX7_isWord iM_token iM_nameSize fM_letters iM_failed sN sF = r) (fun (_ : Nat) (t : State) => Bw dC dI A [(oc7 oM iM_thrown rM_tape iM_taped iM_size iM_at iM_end iM_token iM_whole iM_nameSize iM_fault iM_place iM_trouble rM_letters iM_failed iM_hasCourt rM_r rM_fresh rM_told rM_read rM_st rM_undone rM_kept iM_undos iM_images rM_fresher iM_fresherSize iM_scale iM_night rM_heardRow rM_cutRow iM_breaths iM_cutMany iM_allBreaths rM_trial rM_words iM_fewestBreaths iM_orderMany iM_orderSum iM_leastOrder rM_often iM_setMany iM_someOf iM_allOf iM_allWeight iM_enoughWeight iM_worthSum iM_firstRest iM_leastDrawn), (arI rM_letters kM_letters 8 fM_letters)] [(kM_letters, .int)] t) A) ([.ref oM, .ref sA] : List Value).toArray s 0 0 A) (F0 m 32 ls []) := by
          intro n_4865
          induction n_4865 with
          | zero => intro z_4863 z_4864 H locs ls hi0_n_4865 hi1_n_4865 hm; exact absurd hm (by omega)
          | succ n_4865 ih_n_4865 =>
            intro z_4863 z_4864 H locs ls hi0_n_4865 hi1_n_4865 hm hG hP hD hS hl
            have hG := hG.trans (HX7_isWord_0_eq _ _ _ _ _ _)
            refine lv_iload_n hx hb dX7_isWord_32 rfl (lv_at hl 0 rfl) ?_
            refine lv_aload_n hx hb dX7_isWord_33 rfl (lv_at hl 2 rfl) ?_
            refine va_get (D := (dC, dI)) (ci := 7) (v := .int iM_nameSize) (C := RX7) (T := TX7) (N := 48) hx hb hts inX7 hown hK hP 0 rfl rfl 8 (by decide) (hts _ wd_404) (fun _ h9 => h9) rfl dX7_isWord_34 ?_
            refine lv_icmp_ge (tgt := 70) hx hb dX7_isWord_37 (by decide) (fun c_4866 => ?_) (fun c_4866 => ?_)
            · skip
              have hG := hG.trans (if_pos c_4866)
              have gc_4866 := ti_le c_4866 rfl rfl
              refine lv_iload_n hx hb dX7_isWord_70 rfl (lv_at hl 1 rfl) ?_
              exact W.zret (v := z_4864) hx hb hr (bz_nar (bz_of (by omega))) (fun t ht hW => ⟨⟨_, 0, rfl, ⟨⟨(bz_of (by omega)), (by first | omega | assumption)⟩, hG⟩, Bw.to (hP.sub [0, 1] rfl) (hD.sub [0, 1] (by decide) rfl) (hK.sub [0] rfl) ht hW⟩, hS.F ht⟩) hS.2.2 dX7_isWord_71
            · skip
              have hG := hG.trans (if_neg c_4866)
              have gc_4866 := ti_nle c_4866 rfl rfl
              refine lv_iload_n hx hb dX7_isWord_40 rfl (lv_at hl 1 rfl) ?_
              refine lv_if_eq (tgt := 62) hx hb dX7_isWord_41 (by decide) (fun c_4867 => ?_) (fun c_4867 => ?_)
              · skip
                have hG := hG.trans (if_pos c_4867)
                have gc_4867 := ti_eq c_4867 rfl kc_0
                refine lv_iconst (v := 0) hx hb dX7_isWord_62 (by decide) ?_
                refine lv_istore_n (lv' := [(2, .int 0), (3, .int z_4863), (0, .ref oM), (1, .ref sA)]) hx hb dX7_isWord_63 rfl hl (by decide) rfl (fun ls hl => ?_)
                obtain ⟨x_4868, ex_4868⟩ : ∃ z : Int32, z = z_4863 + Int32.ofInt 1 := ⟨_, rfl⟩
                have hG := hG.trans (lt_eq ex_4868)
                have vx_4868 : x_4868.toInt = z_4863.toInt + 1 := by have q := ti_add (y := 1) ex_4868 rfl kc_1 (by omega) (by omega); omega
                refine lv_iinc (v := x_4868) (lv' := [(3, .int x_4868), (2, .int 0), (0, .ref oM), (1, .ref sA)]) hx hb dX7_isWord_64 hl (k := 1) rfl ex_4868.symm (by decide) rfl (fun ls hl => ?_)
                refine lv_goto (tgt := 32) hx hb dX7_isWord_67 (by decide) ?_
                exact ih_n_4865 x_4868 0 _ _ _  (by first | omega | decide | assumption) (by first | omega | decide | assumption) (by omega) hG (hP.sub [0, 1] rfl) (hD.sub [0, 1] (by decide) rfl) hS (lv_sub hl [0, 1, 2, 3] rfl)
              · skip
                have hG := hG.trans (if_neg c_4867)
                have gc_4867 := ti_ne c_4867 rfl kc_0
                replace gc_4867 : (-1) * z_4864.toInt + 1 ≤ 0 := by omega
                refine lv_aload_n hx hb dX7_isWord_44 rfl (lv_at hl 2 rfl) ?_
                refine va_get (D := (dC, dI)) (ci := 7) (v := .ref rM_letters) (C := RX7) (T := TX7) (N := 48) hx hb hts inX7 hown hK hP 0 rfl rfl 12 (by decide) (hts _ wd_154) (fun _ h9 => h9) rfl dX7_isWord_45 ?_
                refine lv_iload_n hx hb dX7_isWord_48 rfl (lv_at hl 0 rfl) ?_
                refine va_iald hx hb hK hP 1 0 rfl rfl (ti_in rfl (by omega) (by omega)) dX7_isWord_49 ?_
                refine lv_topi (fun x_4869 ex_4869 => ?_)
                have hG := hG.trans (lt_eq ex_4869)
                have kx_4869 : (fM_letters z_4863.toNatClampNeg).toInt = x_4869.toInt := by rw [ex_4869]
                have cx_4869 := kx_4869
                refine lv_aload_n hx hb dX7_isWord_50 rfl (lv_at hl 3 rfl) ?_
                refine lv_iload_n hx hb dX7_isWord_51 rfl (lv_at hl 0 rfl) ?_
                have hFc : ∀ q, va_A [] _ q → A q := fun q h => hA q (Nat.le_trans hS.1 (va_nilA h))
                refine va_calli (va_runV (As := [.int z_4863]) (rest := [.int x_4869]) ⟨hx, hb, hml, hown, hts⟩ (c_charAt32 l dC dI _ sA sV sN sF z_4863 (by omega) (by omega) hsn) (cwV 1 hts (wd_V wd_425 wd_84 wd_85 wd_74 (wd_c wd_86)) rfl rfl rfl (by decide +kernel) ⟨Nat.le_of_ble_eq_true rfl, Nat.le_of_ble_eq_true rfl⟩) ⟨Ps.fb, va_Orecv hSw.1 hS, fun U hU hW => Ps.to hK hSw hE hS hA hU hW⟩ rfl rfl hl.1 rfl (lv_room (Nat.le_of_ble_eq_true rfl)) dX7_isWord_52 ⟨Nat.le_of_ble_eq_true rfl, Nat.le_of_ble_eq_true rfl⟩) hS (fun q _ h => hFc q h) hFc (fun r u t H locs ht hvm hw hB hz1 hk1 hS => ?_)
                obtain ⟨hP, hD, hK⟩ := Bw.same ht hvm hP hD hK hk1 hFc
                clear hz1 hk1 hvm ht hB
                obtain ⟨x_4870, rfl⟩ : ∃ z, z = r := ⟨_, rfl⟩
                have hG := hG.trans (lt_eq hw.2)
                refine lv_icmp_ne (tgt := 62) hx hb dX7_isWord_55 (by decide) (fun c_4871 => ?_) (fun c_4871 => ?_)
                · skip
                  have hG := hG.trans (if_neg c_4871)
                  have gc_4871 := ti_ne c_4871 rfl rfl
                  refine lv_iconst (v := 0) hx hb dX7_isWord_62 (by decide) ?_
                  refine lv_istore_n (lv' := [(2, .int 0), (3, .int z_4863), (0, .ref oM), (1, .ref sA)]) hx hb dX7_isWord_63 rfl hl (by decide) rfl (fun ls hl => ?_)
                  obtain ⟨x_4872, ex_4872⟩ : ∃ z : Int32, z = z_4863 + Int32.ofInt 1 := ⟨_, rfl⟩
                  have hG := hG.trans (lt_eq ex_4872)
                  have vx_4872 : x_4872.toInt = z_4863.toInt + 1 := by have q := ti_add (y := 1) ex_4872 rfl kc_1 (by omega) (by omega); omega
                  refine lv_iinc (v := x_4872) (lv' := [(3, .int x_4872), (2, .int 0), (0, .ref oM), (1, .ref sA)]) hx hb dX7_isWord_64 hl (k := 1) rfl ex_4872.symm (by decide) rfl (fun ls hl => ?_)
                  refine lv_goto (tgt := 32) hx hb dX7_isWord_67 (by decide) ?_
                  exact ih_n_4865 x_4872 0 _ _ _  (by first | omega | decide | assumption) (by first | omega | decide | assumption) (by omega) hG (hP.sub [0, 1] rfl) (hD.sub [0, 1] (by decide) rfl) hS (lv_sub hl [0, 1, 2, 3] rfl)
                · skip
                  have hG := hG.trans (if_pos c_4871)
                  have gc_4871 := ti_eq c_4871 rfl rfl
                  refine lv_iconst (v := 1) hx hb dX7_isWord_58 (by decide) ?_
                  refine lv_goto (tgt := 63) hx hb dX7_isWord_59 (by decide) ?_
                  refine lv_istore_n (lv' := [(2, .int 1), (3, .int z_4863), (0, .ref oM), (1, .ref sA)]) hx hb dX7_isWord_63 rfl hl (by decide) rfl (fun ls hl => ?_)
                  obtain ⟨x_4873, ex_4873⟩ : ∃ z : Int32, z = z_4863 + Int32.ofInt 1 := ⟨_, rfl⟩
                  have hG := hG.trans (lt_eq ex_4873)
                  have vx_4873 : x_4873.toInt = z_4863.toInt + 1 := by have q := ti_add (y := 1) ex_4873 rfl kc_1 (by omega) (by omega); omega
                  refine lv_iinc (v := x_4873) (lv' := [(3, .int x_4873), (2, .int 1), (0, .ref oM), (1, .ref sA)]) hx hb dX7_isWord_64 hl (k := 1) rfl ex_4873.symm (by decide) rfl (fun ls hl => ?_)
                  refine lv_goto (tgt := 32) hx hb dX7_isWord_67 (by decide) ?_
                  exact ih_n_4865 x_4873 1 _ _ _  (by first | omega | decide | assumption) (by first | omega | decide | assumption) (by omega) hG (hP.sub [0, 1] rfl) (hD.sub [0, 1] (by decide) rfl) hS (lv_sub hl [0, 1, 2, 3] rfl)
        exact key_n_4865 (((iM_nameSize.toInt - (0 : Int32).toInt).toNat) + 1) 0 1 _ _ _  (by first | omega | decide | assumption | (have q0 := kc_0; have q1 := kc_1; omega)) (by first | omega | decide | assumption | (have q0 := kc_0; have q1 := kc_1; omega)) (by omega) hG hP hD hS hl
      · skip
        have hG := hG.trans (if_neg c_4862)
        have gc_4862 := ti_ne c_4862 rfl vx_4861
        refine lv_iconst (v := 0) hx hb dX7_isWord_26 (by decide) ?_
        exact W.zret (v := 0) hx hb hr rfl (fun t ht hW => ⟨⟨_, 0, rfl, ⟨⟨Or.inl rfl, (by have q := kc_0; first | omega | assumption)⟩, hG⟩, Bw.to (hP.sub [0, 1] rfl) (hD.sub [0, 1] (by decide) rfl) (hK.sub [0] rfl) ht hW⟩, hS.F ht⟩) hS.2.2 dX7_isWord_27
set_option maxHeartbeats 4000000 in
set_option maxRecDepth 100000 in
theorem tX7_takesWord (l : Launch) (dC : Nat → ClassId) (dI : Nat → Nat → Nat) (sz : Nat) (oM : Nat) (iM_thrown : Int32) (rM_tape : Nat) (fM_tape : Nat → Int32) (kM_tape : ClassId) (iM_taped : Int32) (iM_size : Int32) (iM_at : Int32) (iM_end : Int32) (iM_token : Int32) (iM_whole : Int32) (iM_nameSize : Int32) (iM_fault : Int32) (iM_place : Int32) (iM_trouble : Int32) (rM_letters : Nat) (fM_letters : Nat → Int32) (kM_letters : ClassId) (iM_failed : Int32) (iM_hasCourt : Int32) (rM_r : Nat) (rM_fresh : Nat) (rM_told : Nat) (rM_read : Nat) (rM_st : Nat) (rM_undone : Nat) (rM_kept : Nat) (iM_undos : Int32) (iM_images : Int32) (rM_fresher : Nat) (iM_fresherSize : Int32) (iM_scale : Int32) (iM_night : Int32) (rM_heardRow : Nat) (rM_cutRow : Nat) (iM_breaths : Int32) (iM_cutMany : Int32) (iM_allBreaths : Int32) (rM_trial : Nat) (rM_words : Nat) (iM_fewestBreaths : Int32) (iM_orderMany : Int32) (iM_orderSum : Int32) (iM_leastOrder : Int32) (rM_often : Nat) (iM_setMany : Int32) (iM_someOf : Int32) (iM_allOf : Int32) (iM_allWeight : Int64) (iM_enoughWeight : Int64) (iM_worthSum : Int64) (iM_firstRest : Int32) (iM_leastDrawn : Int32) (sA : Nat) (sV : Nat) (sN : Nat) (sF : Nat → Int32) (b_iM_taped : 0 ≤ iM_taped.toInt ∧ iM_taped.toInt ≤ 900) (b_iM_size : 0 ≤ iM_size.toInt ∧ iM_size.toInt ≤ 900) (b_iM_end : 0 ≤ iM_end.toInt ∧ iM_end.toInt ≤ 900) (b_iM_nameSize : 0 ≤ iM_nameSize.toInt ∧ iM_nameSize.toInt ≤ 900) (b_iM_failed : 0 ≤ iM_failed.toInt ∧ iM_failed.toInt ≤ 1) (b_iM_hasCourt : 0 ≤ iM_hasCourt.toInt ∧ iM_hasCourt.toInt ≤ 1) (b_iM_undos : 0 ≤ iM_undos.toInt ∧ iM_undos.toInt ≤ 16) (b_iM_images : 0 ≤ iM_images.toInt ∧ iM_images.toInt ≤ 3) (b_iM_scale : 1 ≤ iM_scale.toInt ∧ iM_scale.toInt ≤ 1296) (b_iM_breaths : 0 ≤ iM_breaths.toInt ∧ iM_breaths.toInt ≤ 399) (b_iM_cutMany : 0 ≤ iM_cutMany.toInt ∧ iM_cutMany.toInt ≤ 399) (r_T : ImpP (iM_token.toInt = 2) (iM_nameSize.toInt ≤ 8)) (hsn : sN ≤ 8) : Met l yX7_takesWord (Cond.code yX7_takesWord cX7_takesWord 2 (some .boolean) :: wG) ({ frames := 5, cells := 0, slots := 0, locals := 134 }) (va_Pc [.ref oM, .ref sA] (Pq dC dI sz [(oc7 oM iM_thrown rM_tape iM_taped iM_size iM_at iM_end iM_token iM_whole iM_nameSize iM_fault iM_place iM_trouble rM_letters iM_failed iM_hasCourt rM_r rM_fresh rM_told rM_read rM_st rM_undone rM_kept iM_undos iM_images rM_fresher iM_fresherSize iM_scale iM_night rM_heardRow rM_cutRow iM_breaths iM_cutMany iM_allBreaths rM_trial rM_words iM_fewestBreaths iM_orderMany iM_orderSum iM_leastOrder rM_often iM_setMany iM_someOf iM_allOf iM_allWeight iM_enoughWeight iM_worthSum iM_firstRest iM_leastDrawn), (arI rM_tape kM_tape 900 fM_tape), (arI rM_letters kM_letters 8 fM_letters)] [(kM_tape, .int), (kM_letters, .int)] sA sV sN sF)) (va_Qi (fun (r : Int32) (u : Nat) => ((r = 0 ∨ r = 1) ∧ (r.toInt = (u : Int))) ∧ r = Int32.ofNat u) (fun (u : Nat) (t : State) => ∃ (niM_at : Int32) (niM_end : Int32) (niM_token : Int32) (niM_whole : Int32) (niM_nameSize : Int32) (nfM_letters : Nat → Int32), (0 ≤ niM_end.toInt ∧ niM_end.toInt ≤ 900) ∧ (0 ≤ niM_nameSize.toInt ∧ niM_nameSize.toInt ≤ 900) ∧ (iM_end.toInt ≤ niM_end.toInt) ∧ (ImpP (niM_token.toInt = 2) (niM_nameSize.toInt ≤ 8)) ∧ (ImpP ((u : Int) = 1 ∧ niM_token.toInt = 59 ) (iM_end.toInt + 1 ≤ niM_end.toInt)) ∧ (PX7_takesWord fM_tape iM_size iM_at iM_end iM_token iM_whole iM_nameSize fM_letters iM_failed sN sF = (Int32.ofNat u, niM_at, niM_end, niM_token, niM_whole, niM_nameSize, nfM_letters)) ∧ Bw dC dI (va_A [(oc7 oM iM_thrown rM_tape iM_taped iM_size iM_at iM_end iM_token iM_whole iM_nameSize iM_fault iM_place iM_trouble rM_letters iM_failed iM_hasCourt rM_r rM_fresh rM_told rM_read rM_st rM_undone rM_kept iM_undos iM_images rM_fresher iM_fresherSize iM_scale iM_night rM_heardRow rM_cutRow iM_breaths iM_cutMany iM_allBreaths rM_trial rM_words iM_fewestBreaths iM_orderMany iM_orderSum iM_leastOrder rM_often iM_setMany iM_someOf iM_allOf iM_allWeight iM_enoughWeight iM_worthSum iM_firstRest iM_leastDrawn), (arI rM_tape kM_tape 900 fM_tape), (arI rM_letters kM_letters 8 fM_letters)] sz) [(oc7 oM iM_thrown rM_tape iM_taped iM_size niM_at niM_end niM_token niM_whole niM_nameSize iM_fault iM_place iM_trouble rM_letters iM_failed iM_hasCourt rM_r rM_fresh rM_told rM_read rM_st rM_undone rM_kept iM_undos iM_images rM_fresher iM_fresherSize iM_scale iM_night rM_heardRow rM_cutRow iM_breaths iM_cutMany iM_allBreaths rM_trial rM_words iM_fewestBreaths iM_orderMany iM_orderSum iM_leastOrder rM_often iM_setMany iM_someOf iM_allOf iM_allWeight iM_enoughWeight iM_worthSum iM_firstRest iM_leastDrawn), (arI rM_tape kM_tape 900 fM_tape), (arI rM_letters kM_letters 8 nfM_letters)] [(kM_tape, .int), (kM_letters, .int)] t) (va_A [(oc7 oM iM_thrown rM_tape iM_taped iM_size iM_at iM_end iM_token iM_whole iM_nameSize iM_fault iM_place iM_trouble rM_letters iM_failed iM_hasCourt rM_r rM_fresh rM_told rM_read rM_st rM_undone rM_kept iM_undos iM_images rM_fresher iM_fresherSize iM_scale iM_night rM_heardRow rM_cutRow iM_breaths iM_cutMany iM_allBreaths rM_trial rM_words iM_fewestBreaths iM_orderMany iM_orderSum iM_leastOrder rM_often iM_setMany iM_someOf iM_allOf iM_allWeight iM_enoughWeight iM_worthSum iM_firstRest iM_leastDrawn), (arI rM_tape kM_tape 900 fM_tape), (arI rM_letters kM_letters 8 fM_letters)] sz)) 0 0 (va_A [(oc7 oM iM_thrown rM_tape iM_taped iM_size iM_at iM_end iM_token iM_whole iM_nameSize iM_fault iM_place iM_trouble rM_letters iM_failed iM_hasCourt rM_r rM_fresh rM_told rM_read rM_st rM_undone rM_kept iM_undos iM_images rM_fresher iM_fresherSize iM_scale iM_night rM_heardRow rM_cutRow iM_breaths iM_cutMany iM_allBreaths rM_trial rM_words iM_fewestBreaths iM_orderMany iM_orderSum iM_leastOrder rM_often iM_setMany iM_someOf iM_allOf iM_allWeight iM_enoughWeight iM_worthSum iM_firstRest iM_leastDrawn), (arI rM_tape kM_tape 900 fM_tape), (arI rM_letters kM_letters 8 fM_letters)] sz) := by
  refine Met.ofW (cc := cX7_takesWord) (maxL := 2) (ret := (some .boolean)) (by decide) rfl ?_
  intro p e s m args below meth c s₁ B hml hv
  obtain ⟨rfl, ⟨hsz, hP, hK, hD0, hE⟩, hSw⟩ := hv
  have hx := B.exec
  have hb := B.bytes
  have hr := B.returns
  have hts : ∀ w ∈ wG, w.before ([.ref oM, .ref sA] : List Value).toArray s = true := fun w h => atoms_spec (ws := Cond.code yX7_takesWord cX7_takesWord 2 (some .boolean) :: wG) B.pre w (List.mem_cons_of_mem _ h)
  have hown : s.vm.findClass RX7 = some m.cls := findClass_of_methodNamed B.named
  have hlocks := B.notSynchronized
  subst hsz
  have hD := hD0.self (sz := s.heap.size)
  generalize hAe : va_A [(oc7 oM iM_thrown rM_tape iM_taped iM_size iM_at iM_end iM_token iM_whole iM_nameSize iM_fault iM_place iM_trouble rM_letters iM_failed iM_hasCourt rM_r rM_fresh rM_told rM_read rM_st rM_undone rM_kept iM_undos iM_images rM_fresher iM_fresherSize iM_scale iM_night rM_heardRow rM_cutRow iM_breaths iM_cutMany iM_allBreaths rM_trial rM_words iM_fewestBreaths iM_orderMany iM_orderSum iM_leastOrder rM_often iM_setMany iM_someOf iM_allOf iM_allWeight iM_enoughWeight iM_worthSum iM_firstRest iM_leastDrawn), (arI rM_tape kM_tape 900 fM_tape), (arI rM_letters kM_letters 8 fM_letters)] s.heap.size = A at hD hE hSw ⊢
  have hA : ∀ q : Nat, s.heap.size ≤ q → A q := fun q h => by rw [← hAe]; exact Or.inr h
  have hS : va_S A s.heap s.heap [] := va_S.rf
  have hl := lv_entry ([.ref oM, .ref sA]) (n := 2) (Nat.le_of_ble_eq_true rfl)
  rw [lg_entry_eq]
  generalize (lg_sl ([.ref oM, .ref sA]) ++ List.replicate (2 - (lg_sl ([.ref oM, .ref sA])).length) Slot.unset).toArray = ls at hl ⊢
  have hl : lv_has ls 2 [(0, .ref oM), (1, .ref sA)] := hl
  have hG := PX7_takesWord_eq fM_tape iM_size iM_at iM_end iM_token iM_whole iM_nameSize fM_letters iM_failed sN sF
  refine lv_aload_n hx hb dX7_takesWord_0 rfl (lv_at hl 0 rfl) ?_
  refine lv_aload_n hx hb dX7_takesWord_1 rfl (lv_at hl 1 rfl) ?_
  have hFc := va_free (wc := [(oc7 oM iM_thrown rM_tape iM_taped iM_size iM_at iM_end iM_token iM_whole iM_nameSize iM_fault iM_place iM_trouble rM_letters iM_failed iM_hasCourt rM_r rM_fresh rM_told rM_read rM_st rM_undone rM_kept iM_undos iM_images rM_fresher iM_fresherSize iM_scale iM_night rM_heardRow rM_cutRow iM_breaths iM_cutMany iM_allBreaths rM_trial rM_words iM_fewestBreaths iM_orderMany iM_orderSum iM_leastOrder rM_often iM_setMany iM_someOf iM_allOf iM_allWeight iM_enoughWeight iM_worthSum iM_firstRest iM_leastDrawn), (arI rM_letters kM_letters 8 fM_letters)]) hD hS hA [0, 2] rfl
  refine va_calli (va_runV (As := [.ref sA]) (rest := []) ⟨hx, hb, hml, hown, hts⟩ (tX7_isWord l dC dI _ oM iM_thrown rM_tape iM_taped iM_size iM_at iM_end iM_token iM_whole iM_nameSize iM_fault iM_place iM_trouble rM_letters fM_letters kM_letters iM_failed iM_hasCourt rM_r rM_fresh rM_told rM_read rM_st rM_undone rM_kept iM_undos iM_images rM_fresher iM_fresherSize iM_scale iM_night rM_heardRow rM_cutRow iM_breaths iM_cutMany iM_allBreaths rM_trial rM_words iM_fewestBreaths iM_orderMany iM_orderSum iM_leastOrder rM_often iM_setMany iM_someOf iM_allOf iM_allWeight iM_enoughWeight iM_worthSum iM_firstRest iM_leastDrawn sA sV sN sF (by first | omega | decide) (by first | omega | decide) (by first | omega | decide) (by first | omega | decide) (by first | omega | decide) (by first | omega | decide) (by first | omega | decide) (by first | omega | decide) (by first | omega | decide) (by first | omega | decide) (by first | omega | decide) (by first | assumption | exact (fun h9 => by have q0 := kc_0; have q1 := kc_1; omega)) (by first | omega | decide | assumption | (have q0 := kc_0; have q1 := kc_1; omega) | (intro h; exact absurd h (by decide)))) (cwV 1 hts (wd_V wd_420 wd_421 wd_422 wd_5 (wd_c wd_423)) rfl rfl rfl (by decide +kernel) ⟨Nat.le_of_ble_eq_true rfl, Nat.le_of_ble_eq_true rfl⟩) ⟨Pq.fb, va_recv hK hP (ci := 7) (q0 := 0) rfl rfl, fun U hU hW => Pq.to (hP.sub [0, 2] rfl) (hD.sub [0, 2] (by decide) rfl) (hK.sub [1] rfl) hSw hE hS hFc hU hW⟩ rfl rfl hl.1 rfl (lv_room (Nat.le_of_ble_eq_true rfl)) dX7_takesWord_2 ⟨Nat.le_of_ble_eq_true rfl, Nat.le_of_ble_eq_true rfl⟩) hS (fun q _ h => hFc q h) hFc (fun r u t H locs ht hvm hw hB hz1 hk1 hS => ?_)
  have hru9 := hw.2
  have hw := hw.1
  obtain ⟨hP, hD, hK⟩ := Bw.go (ws' := [(arI rM_tape kM_tape 900 fM_tape), (oc7 oM iM_thrown rM_tape iM_taped iM_size iM_at iM_end iM_token iM_whole iM_nameSize iM_fault iM_place iM_trouble rM_letters iM_failed iM_hasCourt rM_r rM_fresh rM_told rM_read rM_st rM_undone rM_kept iM_undos iM_images rM_fresher iM_fresherSize iM_scale iM_night rM_heardRow rM_cutRow iM_breaths iM_cutMany iM_allBreaths rM_trial rM_words iM_fewestBreaths iM_orderMany iM_orderSum iM_leastOrder rM_often iM_setMany iM_someOf iM_allOf iM_allWeight iM_enoughWeight iM_worthSum iM_firstRest iM_leastDrawn), (arI rM_letters kM_letters 8 fM_letters)]) (tys' := [(kM_tape, .int), (kM_letters, .int)]) hB rfl ht hvm hP hD hK [0, 2] [1] rfl (by decide) (by decide) [0] hk1 hFc rfl rfl rfl
  clear hz1 hk1 hvm ht hB
  obtain ⟨x_4884, rfl⟩ : ∃ z, z = r := ⟨_, rfl⟩
  have hG := hG.trans (lt_eq hru9.symm)
  have bx_4884 := hw.1
  have dx_4884 := bz_ti bx_4884
  have lx_4884 := hw.2
  refine lv_if_ne (tgt := 10) hx hb dX7_takesWord_5 (by decide) (fun c_4885 => ?_) (fun c_4885 => ?_)
  · skip
    have hG := hG.trans (if_neg c_4885)
    have gc_4885 := ti_ne c_4885 rfl kc_0
    replace gc_4885 : (-1) * x_4884.toInt + 1 ≤ 0 := by omega
    have h_4886 := lx_4884 (by omega)
    clear lx_4884
    have h_4887 := r_T (by omega)
    clear r_T
    refine lv_aload_n hx hb dX7_takesWord_10 rfl (lv_at hl 0 rfl) ?_
    have hFc := va_free (wc := [(oc7 oM iM_thrown rM_tape iM_taped iM_size iM_at iM_end iM_token iM_whole iM_nameSize iM_fault iM_place iM_trouble rM_letters iM_failed iM_hasCourt rM_r rM_fresh rM_told rM_read rM_st rM_undone rM_kept iM_undos iM_images rM_fresher iM_fresherSize iM_scale iM_night rM_heardRow rM_cutRow iM_breaths iM_cutMany iM_allBreaths rM_trial rM_words iM_fewestBreaths iM_orderMany iM_orderSum iM_leastOrder rM_often iM_setMany iM_someOf iM_allOf iM_allWeight iM_enoughWeight iM_worthSum iM_firstRest iM_leastDrawn), (arI rM_tape kM_tape 900 fM_tape), (arI rM_letters kM_letters 8 fM_letters)]) hD hS hA [1, 0, 2] rfl
    refine va_callv (va_runV (As := []) (rest := []) ⟨hx, hb, hml, hown, hts⟩ (tX7_next l dC dI _ oM iM_thrown rM_tape fM_tape kM_tape iM_taped iM_size iM_at iM_end iM_token iM_whole iM_nameSize iM_fault iM_place iM_trouble rM_letters fM_letters kM_letters iM_failed iM_hasCourt rM_r rM_fresh rM_told rM_read rM_st rM_undone rM_kept iM_undos iM_images rM_fresher iM_fresherSize iM_scale iM_night rM_heardRow rM_cutRow iM_breaths iM_cutMany iM_allBreaths rM_trial rM_words iM_fewestBreaths iM_orderMany iM_orderSum iM_leastOrder rM_often iM_setMany iM_someOf iM_allOf iM_allWeight iM_enoughWeight iM_worthSum iM_firstRest iM_leastDrawn (by first | omega | decide) (by first | omega | decide) (by first | omega | decide) (by first | omega | decide) (by first | omega | decide) (by first | omega | decide) (by first | omega | decide) (by first | omega | decide) (by first | omega | decide) (by first | omega | decide) (by first | omega | decide) (by first | assumption | exact (fun h9 => by have q0 := kc_0; have q1 := kc_1; omega))) (cwV 0 hts (wd_V wd_400 wd_401 wd_402 wd_5 (wd_c wd_403)) rfl rfl rfl (by decide +kernel) ⟨Nat.le_of_ble_eq_true rfl, Nat.le_of_ble_eq_true rfl⟩) ⟨Pw.fb, va_recv hK hP (ci := 7) (q0 := 1) rfl rfl, fun U hU hW => Pw.to (hP.sub [1, 0, 2] rfl) (hD.sub [1, 0, 2] (by decide) rfl) (hK.sub [0, 1] rfl) hE hS hFc hU hW⟩ rfl rfl hl.1 rfl (lv_room (Nat.le_of_ble_eq_true rfl)) dX7_takesWord_11 ⟨Nat.le_of_ble_eq_true rfl, Nat.le_of_ble_eq_true rfl⟩) hS (fun q _ h => hFc q h) hFc (fun u t H locs ht hvm hw hB hz1 hk1 hS => ?_)
    obtain ⟨x_4888, x_4889, x_4890, x_4891, x_4892, f_4893, b_x_4889, b_x_4892, e_x_4888_0, e_x_4888_1, e_x_4888_2, e_x_4888_3, hB⟩ := hB
    obtain ⟨hP, hD, hK⟩ := Bw.go (ws' := [(oc7 oM iM_thrown rM_tape iM_taped iM_size x_4888 x_4889 x_4890 x_4891 x_4892 iM_fault iM_place iM_trouble rM_letters iM_failed iM_hasCourt rM_r rM_fresh rM_told rM_read rM_st rM_undone rM_kept iM_undos iM_images rM_fresher iM_fresherSize iM_scale iM_night rM_heardRow rM_cutRow iM_breaths iM_cutMany iM_allBreaths rM_trial rM_words iM_fewestBreaths iM_orderMany iM_orderSum iM_leastOrder rM_often iM_setMany iM_someOf iM_allOf iM_allWeight iM_enoughWeight iM_worthSum iM_firstRest iM_leastDrawn), (arI rM_tape kM_tape 900 fM_tape), (arI rM_letters kM_letters 8 f_4893)]) (tys' := [(kM_tape, .int), (kM_letters, .int)]) hB rfl ht hvm hP hD hK [1, 0, 2] [] rfl (by decide) (by decide) [] hk1 hFc rfl rfl rfl
    clear hz1 hk1 hvm ht hB
    have hG := hG.trans (un6_eq e_x_4888_3)
    refine lv_iconst (v := 1) hx hb dX7_takesWord_14 (by decide) ?_
    exact W.zret (v := 1) hx hb hr rfl (fun t ht hW => ⟨⟨_, 1, rfl, ⟨⟨Or.inr rfl, (by decide)⟩, (by decide)⟩, ⟨x_4888, x_4889, x_4890, x_4891, x_4892, f_4893, b_x_4889, b_x_4892, (by first | assumption | (have q0 := kc_0; have q1 := kc_1; omega)), e_x_4888_1, (fun h9 => by have q0 := kc_0; have q1 := kc_1; have q9 := e_x_4888_2 (by omega); omega), hG, Bw.to (hP.sub [0, 1, 2] rfl) (hD.sub [0, 1, 2] (by decide) rfl) (hK.sub [0, 1] rfl) ht hW⟩⟩, hS.F ht⟩) hS.2.2 dX7_takesWord_15
  · skip
    have hG := hG.trans (if_pos c_4885)
    have gc_4885 := ti_eq c_4885 rfl kc_0
    clear lx_4884
    refine lv_iconst (v := 0) hx hb dX7_takesWord_8 (by decide) ?_
    exact W.zret (v := 0) hx hb hr rfl (fun t ht hW => ⟨⟨_, 0, rfl, ⟨⟨Or.inl rfl, (by decide)⟩, (by decide)⟩, ⟨iM_at, iM_end, iM_token, iM_whole, iM_nameSize, fM_letters, (by omega), (by omega), (by first | assumption | (have q0 := kc_0; have q1 := kc_1; omega)), r_T, (fun h9 => by have q0 := kc_0; have q1 := kc_1; omega), hG, Bw.to (hP.sub [1, 0, 2] rfl) (hD.sub [1, 0, 2] (by decide) rfl) (hK.sub [0, 1] rfl) ht hW⟩⟩, hS.F ht⟩) hS.2.2 dX7_takesWord_9
set_option maxHeartbeats 4000000 in
set_option maxRecDepth 100000 in
theorem tX7_must (l : Launch) (dC : Nat → ClassId) (dI : Nat → Nat → Nat) (sz : Nat) (oM : Nat) (iM_thrown : Int32) (rM_tape : Nat) (fM_tape : Nat → Int32) (kM_tape : ClassId) (iM_taped : Int32) (iM_size : Int32) (iM_at : Int32) (iM_end : Int32) (iM_token : Int32) (iM_whole : Int32) (iM_nameSize : Int32) (iM_fault : Int32) (iM_place : Int32) (iM_trouble : Int32) (rM_letters : Nat) (fM_letters : Nat → Int32) (kM_letters : ClassId) (iM_failed : Int32) (iM_hasCourt : Int32) (rM_r : Nat) (rM_fresh : Nat) (rM_told : Nat) (rM_read : Nat) (rM_st : Nat) (rM_undone : Nat) (rM_kept : Nat) (iM_undos : Int32) (iM_images : Int32) (rM_fresher : Nat) (iM_fresherSize : Int32) (iM_scale : Int32) (iM_night : Int32) (rM_heardRow : Nat) (rM_cutRow : Nat) (iM_breaths : Int32) (iM_cutMany : Int32) (iM_allBreaths : Int32) (rM_trial : Nat) (rM_words : Nat) (iM_fewestBreaths : Int32) (iM_orderMany : Int32) (iM_orderSum : Int32) (iM_leastOrder : Int32) (rM_often : Nat) (iM_setMany : Int32) (iM_someOf : Int32) (iM_allOf : Int32) (iM_allWeight : Int64) (iM_enoughWeight : Int64) (iM_worthSum : Int64) (iM_firstRest : Int32) (iM_leastDrawn : Int32) (sA : Nat) (sV : Nat) (sN : Nat) (sF : Nat → Int32) (b_iM_taped : 0 ≤ iM_taped.toInt ∧ iM_taped.toInt ≤ 900) (b_iM_size : 0 ≤ iM_size.toInt ∧ iM_size.toInt ≤ 900) (b_iM_end : 0 ≤ iM_end.toInt ∧ iM_end.toInt ≤ 900) (b_iM_nameSize : 0 ≤ iM_nameSize.toInt ∧ iM_nameSize.toInt ≤ 900) (b_iM_failed : 0 ≤ iM_failed.toInt ∧ iM_failed.toInt ≤ 1) (b_iM_hasCourt : 0 ≤ iM_hasCourt.toInt ∧ iM_hasCourt.toInt ≤ 1) (b_iM_undos : 0 ≤ iM_undos.toInt ∧ iM_undos.toInt ≤ 16) (b_iM_images : 0 ≤ iM_images.toInt ∧ iM_images.toInt ≤ 3) (b_iM_scale : 1 ≤ iM_scale.toInt ∧ iM_scale.toInt ≤ 1296) (b_iM_breaths : 0 ≤ iM_breaths.toInt ∧ iM_breaths.toInt ≤ 399) (b_iM_cutMany : 0 ≤ iM_cutMany.toInt ∧ iM_cutMany.toInt ≤ 399) (r_T : ImpP (iM_token.toInt = 2) (iM_nameSize.toInt ≤ 8)) (hsn : sN ≤ 8) : Met l yX7_must (Cond.code yX7_must cX7_must 2 none :: wG) ({ frames := 6, cells := 0, slots := 0, locals := 155 }) (va_Pc [.ref oM, .ref sA] (Pq dC dI sz [(oc7 oM iM_thrown rM_tape iM_taped iM_size iM_at iM_end iM_token iM_whole iM_nameSize iM_fault iM_place iM_trouble rM_letters iM_failed iM_hasCourt rM_r rM_fresh rM_told rM_read rM_st rM_undone rM_kept iM_undos iM_images rM_fresher iM_fresherSize iM_scale iM_night rM_heardRow rM_cutRow iM_breaths iM_cutMany iM_allBreaths rM_trial rM_words iM_fewestBreaths iM_orderMany iM_orderSum iM_leastOrder rM_often iM_setMany iM_someOf iM_allOf iM_allWeight iM_enoughWeight iM_worthSum iM_firstRest iM_leastDrawn), (arI rM_tape kM_tape 900 fM_tape), (arI rM_letters kM_letters 8 fM_letters)] [(kM_tape, .int), (kM_letters, .int)] sA sV sN sF)) (va_Qv (fun (_ : Nat) => True) (fun (_ : Nat) (t : State) => ∃ (niM_at : Int32) (niM_end : Int32) (niM_token : Int32) (niM_whole : Int32) (niM_nameSize : Int32) (niM_fault : Int32) (niM_place : Int32) (niM_failed : Int32) (nfM_letters : Nat → Int32), (0 ≤ niM_end.toInt ∧ niM_end.toInt ≤ 900) ∧ (0 ≤ niM_nameSize.toInt ∧ niM_nameSize.toInt ≤ 900) ∧ (0 ≤ niM_failed.toInt ∧ niM_failed.toInt ≤ 1) ∧ (iM_end.toInt ≤ niM_end.toInt) ∧ (ImpP (niM_token.toInt = 2) (niM_nameSize.toInt ≤ 8)) ∧ (iM_failed.toInt ≤ niM_failed.toInt) ∧ (ImpP (niM_failed.toInt ≤ 0 ∧ niM_token.toInt = 59 ) (iM_end.toInt + 1 ≤ niM_end.toInt)) ∧ (PX7_must fM_tape iM_size iM_at iM_end iM_token iM_whole iM_nameSize iM_fault iM_place fM_letters iM_failed sN sF = (niM_at, niM_end, niM_token, niM_whole, niM_nameSize, niM_fault, niM_place, niM_failed, nfM_letters)) ∧ Bw dC dI (va_A [(oc7 oM iM_thrown rM_tape iM_taped iM_size iM_at iM_end iM_token iM_whole iM_nameSize iM_fault iM_place iM_trouble rM_letters iM_failed iM_hasCourt rM_r rM_fresh rM_told rM_read rM_st rM_undone rM_kept iM_undos iM_images rM_fresher iM_fresherSize iM_scale iM_night rM_heardRow rM_cutRow iM_breaths iM_cutMany iM_allBreaths rM_trial rM_words iM_fewestBreaths iM_orderMany iM_orderSum iM_leastOrder rM_often iM_setMany iM_someOf iM_allOf iM_allWeight iM_enoughWeight iM_worthSum iM_firstRest iM_leastDrawn), (arI rM_tape kM_tape 900 fM_tape), (arI rM_letters kM_letters 8 fM_letters)] sz) [(oc7 oM iM_thrown rM_tape iM_taped iM_size niM_at niM_end niM_token niM_whole niM_nameSize niM_fault niM_place iM_trouble rM_letters niM_failed iM_hasCourt rM_r rM_fresh rM_told rM_read rM_st rM_undone rM_kept iM_undos iM_images rM_fresher iM_fresherSize iM_scale iM_night rM_heardRow rM_cutRow iM_breaths iM_cutMany iM_allBreaths rM_trial rM_words iM_fewestBreaths iM_orderMany iM_orderSum iM_leastOrder rM_often iM_setMany iM_someOf iM_allOf iM_allWeight iM_enoughWeight iM_worthSum iM_firstRest iM_leastDrawn), (arI rM_tape kM_tape 900 fM_tape), (arI rM_letters kM_letters 8 nfM_letters)] [(kM_tape, .int), (kM_letters, .int)] t) (va_A [(oc7 oM iM_thrown rM_tape iM_taped iM_size iM_at iM_end iM_token iM_whole iM_nameSize iM_fault iM_place iM_trouble rM_letters iM_failed iM_hasCourt rM_r rM_fresh rM_told rM_read rM_st rM_undone rM_kept iM_undos iM_images rM_fresher iM_fresherSize iM_scale iM_night rM_heardRow rM_cutRow iM_breaths iM_cutMany iM_allBreaths rM_trial rM_words iM_fewestBreaths iM_orderMany iM_orderSum iM_leastOrder rM_often iM_setMany iM_someOf iM_allOf iM_allWeight iM_enoughWeight iM_worthSum iM_firstRest iM_leastDrawn), (arI rM_tape kM_tape 900 fM_tape), (arI rM_letters kM_letters 8 fM_letters)] sz)) 0 0 (va_A [(oc7 oM iM_thrown rM_tape iM_taped iM_size iM_at iM_end iM_token iM_whole iM_nameSize iM_fault iM_place iM_trouble rM_letters iM_failed iM_hasCourt rM_r rM_fresh rM_told rM_read rM_st rM_undone rM_kept iM_undos iM_images rM_fresher iM_fresherSize iM_scale iM_night rM_heardRow rM_cutRow iM_breaths iM_cutMany iM_allBreaths rM_trial rM_words iM_fewestBreaths iM_orderMany iM_orderSum iM_leastOrder rM_often iM_setMany iM_someOf iM_allOf iM_allWeight iM_enoughWeight iM_worthSum iM_firstRest iM_leastDrawn), (arI rM_tape kM_tape 900 fM_tape), (arI rM_letters kM_letters 8 fM_letters)] sz) := by
  refine Met.ofW (cc := cX7_must) (maxL := 2) (ret := none) (by decide) rfl ?_
  intro p e s m args below meth c s₁ B hml hv
  obtain ⟨rfl, ⟨hsz, hP, hK, hD0, hE⟩, hSw⟩ := hv
  have hx := B.exec
  have hb := B.bytes
  have hr := B.returns
  have hts : ∀ w ∈ wG, w.before ([.ref oM, .ref sA] : List Value).toArray s = true := fun w h => atoms_spec (ws := Cond.code yX7_must cX7_must 2 none :: wG) B.pre w (List.mem_cons_of_mem _ h)
  have hown : s.vm.findClass RX7 = some m.cls := findClass_of_methodNamed B.named
  have hlocks := B.notSynchronized
  subst hsz
  have hD := hD0.self (sz := s.heap.size)
  generalize hAe : va_A [(oc7 oM iM_thrown rM_tape iM_taped iM_size iM_at iM_end iM_token iM_whole iM_nameSize iM_fault iM_place iM_trouble rM_letters iM_failed iM_hasCourt rM_r rM_fresh rM_told rM_read rM_st rM_undone rM_kept iM_undos iM_images rM_fresher iM_fresherSize iM_scale iM_night rM_heardRow rM_cutRow iM_breaths iM_cutMany iM_allBreaths rM_trial rM_words iM_fewestBreaths iM_orderMany iM_orderSum iM_leastOrder rM_often iM_setMany iM_someOf iM_allOf iM_allWeight iM_enoughWeight iM_worthSum iM_firstRest iM_leastDrawn), (arI rM_tape kM_tape 900 fM_tape), (arI rM_letters kM_letters 8 fM_letters)] s.heap.size = A at hD hE hSw ⊢
  have hA : ∀ q : Nat, s.heap.size ≤ q → A q := fun q h => by rw [← hAe]; exact Or.inr h
  have hS : va_S A s.heap s.heap [] := va_S.rf
  have hl := lv_entry ([.ref oM, .ref sA]) (n := 2) (Nat.le_of_ble_eq_true rfl)
  rw [lg_entry_eq]
  generalize (lg_sl ([.ref oM, .ref sA]) ++ List.replicate (2 - (lg_sl ([.ref oM, .ref sA])).length) Slot.unset).toArray = ls at hl ⊢
  have hl : lv_has ls 2 [(0, .ref oM), (1, .ref sA)] := hl
  have hG := PX7_must_eq fM_tape iM_size iM_at iM_end iM_token iM_whole iM_nameSize iM_fault iM_place fM_letters iM_failed sN sF
  refine lv_aload_n hx hb dX7_must_0 rfl (lv_at hl 0 rfl) ?_
  refine va_get (D := (dC, dI)) (ci := 7) (v := .int iM_failed) (C := RX7) (T := TX7) (N := 48) hx hb hts inX7 hown hK hP 0 rfl rfl 13 (by decide) (hts _ wd_380) (fun _ h9 => h9) rfl dX7_must_1 ?_
  refine lv_if_ne (tgt := 24) hx hb dX7_must_4 (by decide) (fun c_4906 => ?_) (fun c_4906 => ?_)
  · skip
    have hG := hG.trans (if_neg c_4906)
    have gc_4906 := ti_ne c_4906 rfl kc_0
    replace gc_4906 : (-1) * iM_failed.toInt + 1 ≤ 0 := by omega
    exact W.vret hx hb hr (fun t ht hW => ⟨⟨0, rfl, trivial, ⟨iM_at, iM_end, iM_token, iM_whole, iM_nameSize, iM_fault, iM_place, iM_failed, fM_letters, (by omega), (by omega), (by omega), (by first | assumption | (have q0 := kc_0; have q1 := kc_1; omega)), r_T, (by first | assumption | (have q0 := kc_0; have q1 := kc_1; omega)), (fun h9 => by have q0 := kc_0; have q1 := kc_1; omega), hG, Bw.to (hP.sub [0, 1, 2] rfl) (hD.sub [0, 1, 2] (by decide) rfl) (hK.sub [0, 1] rfl) ht hW⟩⟩, hS.F ht⟩) hS.2.2 dX7_must_24
  · skip
    have hG := hG.trans (if_pos c_4906)
    have gc_4906 := ti_eq c_4906 rfl kc_0
    refine lv_aload_n hx hb dX7_must_7 rfl (lv_at hl 0 rfl) ?_
    refine lv_aload_n hx hb dX7_must_8 rfl (lv_at hl 1 rfl) ?_
    have hFc := va_free (wc := [(oc7 oM iM_thrown rM_tape iM_taped iM_size iM_at iM_end iM_token iM_whole iM_nameSize iM_fault iM_place iM_trouble rM_letters iM_failed iM_hasCourt rM_r rM_fresh rM_told rM_read rM_st rM_undone rM_kept iM_undos iM_images rM_fresher iM_fresherSize iM_scale iM_night rM_heardRow rM_cutRow iM_breaths iM_cutMany iM_allBreaths rM_trial rM_words iM_fewestBreaths iM_orderMany iM_orderSum iM_leastOrder rM_often iM_setMany iM_someOf iM_allOf iM_allWeight iM_enoughWeight iM_worthSum iM_firstRest iM_leastDrawn), (arI rM_tape kM_tape 900 fM_tape), (arI rM_letters kM_letters 8 fM_letters)]) hD hS hA [0, 1, 2] rfl
    refine va_calli (va_runV (As := [.ref sA]) (rest := []) ⟨hx, hb, hml, hown, hts⟩ (tX7_takesWord l dC dI _ oM iM_thrown rM_tape fM_tape kM_tape iM_taped iM_size iM_at iM_end iM_token iM_whole iM_nameSize iM_fault iM_place iM_trouble rM_letters fM_letters kM_letters iM_failed iM_hasCourt rM_r rM_fresh rM_told rM_read rM_st rM_undone rM_kept iM_undos iM_images rM_fresher iM_fresherSize iM_scale iM_night rM_heardRow rM_cutRow iM_breaths iM_cutMany iM_allBreaths rM_trial rM_words iM_fewestBreaths iM_orderMany iM_orderSum iM_leastOrder rM_often iM_setMany iM_someOf iM_allOf iM_allWeight iM_enoughWeight iM_worthSum iM_firstRest iM_leastDrawn sA sV sN sF (by first | omega | decide) (by first | omega | decide) (by first | omega | decide) (by first | omega | decide) (by first | omega | decide) (by first | omega | decide) (by first | omega | decide) (by first | omega | decide) (by first | omega | decide) (by first | omega | decide) (by first | omega | decide) (by first | assumption | exact (fun h9 => by have q0 := kc_0; have q1 := kc_1; omega)) (by first | omega | decide | assumption | (have q0 := kc_0; have q1 := kc_1; omega) | (intro h; exact absurd h (by decide)))) (cwV 1 hts (wd_V wd_442 wd_443 wd_444 wd_5 (wd_c wd_445)) rfl rfl rfl (by decide +kernel) ⟨Nat.le_of_ble_eq_true rfl, Nat.le_of_ble_eq_true rfl⟩) ⟨Pq.fb, va_recv hK hP (ci := 7) (q0 := 0) rfl rfl, fun U hU hW => Pq.to (hP.sub [0, 1, 2] rfl) (hD.sub [0, 1, 2] (by decide) rfl) (hK.sub [0, 1] rfl) hSw hE hS hFc hU hW⟩ rfl rfl hl.1 rfl (lv_room (Nat.le_of_ble_eq_true rfl)) dX7_must_9 ⟨Nat.le_of_ble_eq_true rfl, Nat.le_of_ble_eq_true rfl⟩) hS (fun q _ h => hFc q h) hFc (fun r u t H locs ht hvm hw hB hz1 hk1 hS => ?_)
    have hru9 := hw.2
    have hw := hw.1
    obtain ⟨x_4907, x_4908, x_4909, x_4910, x_4911, f_4912, b_x_4908, b_x_4911, e_x_4907_0, e_x_4907_1, e_x_4907_2, e_x_4907_3, hB⟩ := hB
    obtain ⟨hP, hD, hK⟩ := Bw.go (ws' := [(oc7 oM iM_thrown rM_tape iM_taped iM_size x_4907 x_4908 x_4909 x_4910 x_4911 iM_fault iM_place iM_trouble rM_letters iM_failed iM_hasCourt rM_r rM_fresh rM_told rM_read rM_st rM_undone rM_kept iM_undos iM_images rM_fresher iM_fresherSize iM_scale iM_night rM_heardRow rM_cutRow iM_breaths iM_cutMany iM_allBreaths rM_trial rM_words iM_fewestBreaths iM_orderMany iM_orderSum iM_leastOrder rM_often iM_setMany iM_someOf iM_allOf iM_allWeight iM_enoughWeight iM_worthSum iM_firstRest iM_leastDrawn), (arI rM_tape kM_tape 900 fM_tape), (arI rM_letters kM_letters 8 f_4912)]) (tys' := [(kM_tape, .int), (kM_letters, .int)]) hB rfl ht hvm hP hD hK [0, 1, 2] [] rfl (by decide) (by decide) [] hk1 hFc rfl rfl rfl
    clear hz1 hk1 hvm ht hB
    rw [← hru9] at e_x_4907_3
    obtain ⟨x_4913, rfl⟩ : ∃ z, z = r := ⟨_, rfl⟩
    have hG := hG.trans (un7_eq e_x_4907_3)
    have bx_4913 := hw.1
    have dx_4913 := bz_ti bx_4913
    have lx_4913 := hw.2
    clear r_T
    refine lv_if_ne (tgt := 24) hx hb dX7_must_12 (by decide) (fun c_4914 => ?_) (fun c_4914 => ?_)
    · skip
      have hG := hG.trans (if_neg c_4914)
      have gc_4914 := ti_ne c_4914 rfl kc_0
      replace gc_4914 : (-1) * x_4913.toInt + 1 ≤ 0 := by omega
      exact W.vret hx hb hr (fun t ht hW => ⟨⟨0, rfl, trivial, ⟨x_4907, x_4908, x_4909, x_4910, x_4911, iM_fault, iM_place, iM_failed, f_4912, b_x_4908, b_x_4911, (by omega), (by first | assumption | (have q0 := kc_0; have q1 := kc_1; omega)), e_x_4907_1, (by first | assumption | (have q0 := kc_0; have q1 := kc_1; omega)), (fun h9 => by have q0 := kc_0; have q1 := kc_1; have q9 := e_x_4907_2 (by omega); omega), hG, Bw.to (hP.sub [0, 1, 2] rfl) (hD.sub [0, 1, 2] (by decide) rfl) (hK.sub [0, 1] rfl) ht hW⟩⟩, hS.F ht⟩) hS.2.2 dX7_must_24
    · skip
      have hG := hG.trans (if_pos c_4914)
      have gc_4914 := ti_eq c_4914 rfl kc_0
      refine lv_aload_n hx hb dX7_must_15 rfl (lv_at hl 0 rfl) ?_
      refine lv_iconst (v := 1) hx hb dX7_must_16 (by decide) ?_
      refine lv_aload_n hx hb dX7_must_17 rfl (lv_at hl 0 rfl) ?_
      refine va_get (D := (dC, dI)) (ci := 7) (v := .int x_4907) (C := RX7) (T := TX7) (N := 48) hx hb hts inX7 hown hK hP 0 rfl rfl 4 (by decide) (hts _ wd_384) (fun _ h9 => h9) rfl dX7_must_18 ?_
      have hFc := va_free (wc := [(oc7 oM iM_thrown rM_tape iM_taped iM_size x_4907 x_4908 x_4909 x_4910 x_4911 iM_fault iM_place iM_trouble rM_letters iM_failed iM_hasCourt rM_r rM_fresh rM_told rM_read rM_st rM_undone rM_kept iM_undos iM_images rM_fresher iM_fresherSize iM_scale iM_night rM_heardRow rM_cutRow iM_breaths iM_cutMany iM_allBreaths rM_trial rM_words iM_fewestBreaths iM_orderMany iM_orderSum iM_leastOrder rM_often iM_setMany iM_someOf iM_allOf iM_allWeight iM_enoughWeight iM_worthSum iM_firstRest iM_leastDrawn)]) hD hS hA [0] rfl
      refine va_callv (va_runV (As := [.int 1, .int x_4907]) (rest := []) ⟨hx, hb, hml, hown, hts⟩ (tX7_wrong l dC dI _ oM iM_thrown rM_tape iM_taped iM_size x_4907 x_4908 x_4909 x_4910 x_4911 iM_fault iM_place iM_trouble rM_letters iM_failed iM_hasCourt rM_r rM_fresh rM_told rM_read rM_st rM_undone rM_kept iM_undos iM_images rM_fresher iM_fresherSize iM_scale iM_night rM_heardRow rM_cutRow iM_breaths iM_cutMany iM_allBreaths rM_trial rM_words iM_fewestBreaths iM_orderMany iM_orderSum iM_leastOrder rM_often iM_setMany iM_someOf iM_allOf iM_allWeight iM_enoughWeight iM_worthSum iM_firstRest iM_leastDrawn 1 x_4907 (by first | omega | decide) (by first | omega | decide) (by first | exact b_x_4908 | omega | decide) (by first | exact b_x_4911 | omega | decide) (by first | omega | decide) (by first | omega | decide) (by first | omega | decide) (by first | omega | decide) (by first | omega | decide) (by first | omega | decide) (by first | omega | decide) (by first | assumption | exact (fun h9 => by have q0 := kc_0; have q1 := kc_1; omega))) (cwV 2 hts (wd_V wd_430 wd_431 wd_432 wd_5 (wd_c wd_433)) rfl rfl rfl (by decide +kernel) ⟨Nat.le_of_ble_eq_true rfl, Nat.le_of_ble_eq_true rfl⟩) ⟨Pw.fb, va_recv hK hP (ci := 7) (q0 := 0) rfl rfl, fun U hU hW => Pw.to (hP.sub [0] rfl) (hD.sub [0] (by decide) rfl) (hK.sub [] rfl) hE hS hFc hU hW⟩ rfl rfl hl.1 rfl (lv_room (Nat.le_of_ble_eq_true rfl)) dX7_must_21 ⟨Nat.le_of_ble_eq_true rfl, Nat.le_of_ble_eq_true rfl⟩) hS (fun q _ h => hFc q h) hFc (fun u t H locs ht hvm hw hB hz1 hk1 hS => ?_)
      obtain ⟨x_4915, x_4916, x_4917, b_x_4917, e_x_4915_0, e_x_4915_1, hB⟩ := hB
      obtain ⟨hP, hD, hK⟩ := Bw.go (ws' := [(arI rM_tape kM_tape 900 fM_tape), (arI rM_letters kM_letters 8 f_4912), (oc7 oM iM_thrown rM_tape iM_taped iM_size x_4907 x_4908 x_4909 x_4910 x_4911 x_4915 x_4916 iM_trouble rM_letters x_4917 iM_hasCourt rM_r rM_fresh rM_told rM_read rM_st rM_undone rM_kept iM_undos iM_images rM_fresher iM_fresherSize iM_scale iM_night rM_heardRow rM_cutRow iM_breaths iM_cutMany iM_allBreaths rM_trial rM_words iM_fewestBreaths iM_orderMany iM_orderSum iM_leastOrder rM_often iM_setMany iM_someOf iM_allOf iM_allWeight iM_enoughWeight iM_worthSum iM_firstRest iM_leastDrawn)]) (tys' := [(kM_tape, .int), (kM_letters, .int)]) hB rfl ht hvm hP hD hK [0] [1, 2] rfl (by decide) (by decide) [0, 1] hk1 hFc rfl rfl rfl
      clear hz1 hk1 hvm ht hB
      have hG := hG.trans (un3_eq e_x_4915_1)
      exact W.vret hx hb hr (fun t ht hW => ⟨⟨0, rfl, trivial, ⟨x_4907, x_4908, x_4909, x_4910, x_4911, x_4915, x_4916, x_4917, f_4912, b_x_4908, b_x_4911, b_x_4917, (by first | assumption | (have q0 := kc_0; have q1 := kc_1; omega)), e_x_4907_1, (by first | assumption | (have q0 := kc_0; have q1 := kc_1; omega)), (fun h9 => by have q0 := kc_0; have q1 := kc_1; omega), hG, Bw.to (hP.sub [2, 0, 1] rfl) (hD.sub [2, 0, 1] (by decide) rfl) (hK.sub [0, 1] rfl) ht hW⟩⟩, hS.F ht⟩) hS.2.2 dX7_must_24
set_option maxHeartbeats 4000000 in
set_option maxRecDepth 100000 in
theorem tX7_mustName (l : Launch) (dC : Nat → ClassId) (dI : Nat → Nat → Nat) (sz : Nat) (oM : Nat) (iM_thrown : Int32) (rM_tape : Nat) (iM_taped : Int32) (iM_size : Int32) (iM_at : Int32) (iM_end : Int32) (iM_token : Int32) (iM_whole : Int32) (iM_nameSize : Int32) (iM_fault : Int32) (iM_place : Int32) (iM_trouble : Int32) (rM_letters : Nat) (fM_letters : Nat → Int32) (kM_letters : ClassId) (iM_failed : Int32) (iM_hasCourt : Int32) (rM_r : Nat) (rM_fresh : Nat) (rM_told : Nat) (rM_read : Nat) (rM_st : Nat) (rM_undone : Nat) (rM_kept : Nat) (iM_undos : Int32) (iM_images : Int32) (rM_fresher : Nat) (iM_fresherSize : Int32) (iM_scale : Int32) (iM_night : Int32) (rM_heardRow : Nat) (rM_cutRow : Nat) (iM_breaths : Int32) (iM_cutMany : Int32) (iM_allBreaths : Int32) (rM_trial : Nat) (rM_words : Nat) (iM_fewestBreaths : Int32) (iM_orderMany : Int32) (iM_orderSum : Int32) (iM_leastOrder : Int32) (rM_often : Nat) (iM_setMany : Int32) (iM_someOf : Int32) (iM_allOf : Int32) (iM_allWeight : Int64) (iM_enoughWeight : Int64) (iM_worthSum : Int64) (iM_firstRest : Int32) (iM_leastDrawn : Int32) (b_iM_taped : 0 ≤ iM_taped.toInt ∧ iM_taped.toInt ≤ 900) (b_iM_size : 0 ≤ iM_size.toInt ∧ iM_size.toInt ≤ 900) (b_iM_end : 0 ≤ iM_end.toInt ∧ iM_end.toInt ≤ 900) (b_iM_nameSize : 0 ≤ iM_nameSize.toInt ∧ iM_nameSize.toInt ≤ 900) (b_iM_failed : 0 ≤ iM_failed.toInt ∧ iM_failed.toInt ≤ 1) (b_iM_hasCourt : 0 ≤ iM_hasCourt.toInt ∧ iM_hasCourt.toInt ≤ 1) (b_iM_undos : 0 ≤ iM_undos.toInt ∧ iM_undos.toInt ≤ 16) (b_iM_images : 0 ≤ iM_images.toInt ∧ iM_images.toInt ≤ 3) (b_iM_scale : 1 ≤ iM_scale.toInt ∧ iM_scale.toInt ≤ 1296) (b_iM_breaths : 0 ≤ iM_breaths.toInt ∧ iM_breaths.toInt ≤ 399) (b_iM_cutMany : 0 ≤ iM_cutMany.toInt ∧ iM_cutMany.toInt ≤ 399) (r_T : ImpP (iM_token.toInt = 2) (iM_nameSize.toInt ≤ 8))  : Met l yX7_mustName (Cond.code yX7_mustName cX7_mustName 1 none :: wG) ({ frames := 5, cells := 0, slots := 0, locals := 134 }) (va_Pc [.ref oM] (Pw dC dI sz [(oc7 oM iM_thrown rM_tape iM_taped iM_size iM_at iM_end iM_token iM_whole iM_nameSize iM_fault iM_place iM_trouble rM_letters iM_failed iM_hasCourt rM_r rM_fresh rM_told rM_read rM_st rM_undone rM_kept iM_undos iM_images rM_fresher iM_fresherSize iM_scale iM_night rM_heardRow rM_cutRow iM_breaths iM_cutMany iM_allBreaths rM_trial rM_words iM_fewestBreaths iM_orderMany iM_orderSum iM_leastOrder rM_often iM_setMany iM_someOf iM_allOf iM_allWeight iM_enoughWeight iM_worthSum iM_firstRest iM_leastDrawn), (arI rM_letters kM_letters 8 fM_letters)] [(kM_letters, .int)])) (va_Qv (fun (_ : Nat) => True) (fun (_ : Nat) (t : State) => ∃ (niM_fault : Int32) (niM_place : Int32) (niM_failed : Int32), (0 ≤ niM_failed.toInt ∧ niM_failed.toInt ≤ 1) ∧ (iM_failed.toInt ≤ niM_failed.toInt) ∧ (ImpP (niM_failed.toInt ≤ 0) (iM_token.toInt = 2)) ∧ (PX7_mustName iM_at iM_token iM_nameSize iM_fault iM_place fM_letters iM_failed = (niM_fault, niM_place, niM_failed)) ∧ Bw dC dI (va_A [(oc7 oM iM_thrown rM_tape iM_taped iM_size iM_at iM_end iM_token iM_whole iM_nameSize iM_fault iM_place iM_trouble rM_letters iM_failed iM_hasCourt rM_r rM_fresh rM_told rM_read rM_st rM_undone rM_kept iM_undos iM_images rM_fresher iM_fresherSize iM_scale iM_night rM_heardRow rM_cutRow iM_breaths iM_cutMany iM_allBreaths rM_trial rM_words iM_fewestBreaths iM_orderMany iM_orderSum iM_leastOrder rM_often iM_setMany iM_someOf iM_allOf iM_allWeight iM_enoughWeight iM_worthSum iM_firstRest iM_leastDrawn), (arI rM_letters kM_letters 8 fM_letters)] sz) [(oc7 oM iM_thrown rM_tape iM_taped iM_size iM_at iM_end iM_token iM_whole iM_nameSize niM_fault niM_place iM_trouble rM_letters niM_failed iM_hasCourt rM_r rM_fresh rM_told rM_read rM_st rM_undone rM_kept iM_undos iM_images rM_fresher iM_fresherSize iM_scale iM_night rM_heardRow rM_cutRow iM_breaths iM_cutMany iM_allBreaths rM_trial rM_words iM_fewestBreaths iM_orderMany iM_orderSum iM_leastOrder rM_often iM_setMany iM_someOf iM_allOf iM_allWeight iM_enoughWeight iM_worthSum iM_firstRest iM_leastDrawn), (arI rM_letters kM_letters 8 fM_letters)] [(kM_letters, .int)] t) (va_A [(oc7 oM iM_thrown rM_tape iM_taped iM_size iM_at iM_end iM_token iM_whole iM_nameSize iM_fault iM_place iM_trouble rM_letters iM_failed iM_hasCourt rM_r rM_fresh rM_told rM_read rM_st rM_undone rM_kept iM_undos iM_images rM_fresher iM_fresherSize iM_scale iM_night rM_heardRow rM_cutRow iM_breaths iM_cutMany iM_allBreaths rM_trial rM_words iM_fewestBreaths iM_orderMany iM_orderSum iM_leastOrder rM_often iM_setMany iM_someOf iM_allOf iM_allWeight iM_enoughWeight iM_worthSum iM_firstRest iM_leastDrawn), (arI rM_letters kM_letters 8 fM_letters)] sz)) 0 0 (va_A [(oc7 oM iM_thrown rM_tape iM_taped iM_size iM_at iM_end iM_token iM_whole iM_nameSize iM_fault iM_place iM_trouble rM_letters iM_failed iM_hasCourt rM_r rM_fresh rM_told rM_read rM_st rM_undone rM_kept iM_undos iM_images rM_fresher iM_fresherSize iM_scale iM_night rM_heardRow rM_cutRow iM_breaths iM_cutMany iM_allBreaths rM_trial rM_words iM_fewestBreaths iM_orderMany iM_orderSum iM_leastOrder rM_often iM_setMany iM_someOf iM_allOf iM_allWeight iM_enoughWeight iM_worthSum iM_firstRest iM_leastDrawn), (arI rM_letters kM_letters 8 fM_letters)] sz) := by
  refine Met.ofW (cc := cX7_mustName) (maxL := 1) (ret := none) (by decide) rfl ?_
  intro p e s m args below meth c s₁ B hml hv
  obtain ⟨rfl, hsz, hP, hK, hD0, hE⟩ := hv
  have hx := B.exec
  have hb := B.bytes
  have hr := B.returns
  have hts : ∀ w ∈ wG, w.before ([.ref oM] : List Value).toArray s = true := fun w h => atoms_spec (ws := Cond.code yX7_mustName cX7_mustName 1 none :: wG) B.pre w (List.mem_cons_of_mem _ h)
  have hown : s.vm.findClass RX7 = some m.cls := findClass_of_methodNamed B.named
  have hlocks := B.notSynchronized
  subst hsz
  have hD := hD0.self (sz := s.heap.size)
  generalize hAe : va_A [(oc7 oM iM_thrown rM_tape iM_taped iM_size iM_at iM_end iM_token iM_whole iM_nameSize iM_fault iM_place iM_trouble rM_letters iM_failed iM_hasCourt rM_r rM_fresh rM_told rM_read rM_st rM_undone rM_kept iM_undos iM_images rM_fresher iM_fresherSize iM_scale iM_night rM_heardRow rM_cutRow iM_breaths iM_cutMany iM_allBreaths rM_trial rM_words iM_fewestBreaths iM_orderMany iM_orderSum iM_leastOrder rM_often iM_setMany iM_someOf iM_allOf iM_allWeight iM_enoughWeight iM_worthSum iM_firstRest iM_leastDrawn), (arI rM_letters kM_letters 8 fM_letters)] s.heap.size = A at hD hE ⊢
  have hA : ∀ q : Nat, s.heap.size ≤ q → A q := fun q h => by rw [← hAe]; exact Or.inr h
  have hS : va_S A s.heap s.heap [] := va_S.rf
  have hl := lv_entry ([.ref oM]) (n := 1) (Nat.le_of_ble_eq_true rfl)
  rw [lg_entry_eq]
  generalize (lg_sl ([.ref oM]) ++ List.replicate (1 - (lg_sl ([.ref oM])).length) Slot.unset).toArray = ls at hl ⊢
  have hl : lv_has ls 1 [(0, .ref oM)] := hl
  have hG := PX7_mustName_eq iM_at iM_token iM_nameSize iM_fault iM_place fM_letters iM_failed
  refine lv_aload_n hx hb dX7_mustName_0 rfl (lv_at hl 0 rfl) ?_
  refine va_get (D := (dC, dI)) (ci := 7) (v := .int iM_token) (C := RX7) (T := TX7) (N := 48) hx hb hts inX7 hown hK hP 0 rfl rfl 6 (by decide) (hts _ wd_383) (fun _ h9 => h9) rfl dX7_mustName_1 ?_
  refine lv_iconst (v := 2) hx hb dX7_mustName_4 (by decide) ?_
  refine lv_icmp_ne (tgt := 80) hx hb dX7_mustName_5 (by decide) (fun c_4979 => ?_) (fun c_4979 => ?_)
  · skip
    have hG := hG.trans (if_neg c_4979)
    have gc_4979 := ti_ne c_4979 rfl kc_2
    refine lv_aload_n hx hb dX7_mustName_80 rfl (lv_at hl 0 rfl) ?_
    refine lv_iconst (v := 1) hx hb dX7_mustName_81 (by decide) ?_
    refine lv_aload_n hx hb dX7_mustName_82 rfl (lv_at hl 0 rfl) ?_
    refine va_get (D := (dC, dI)) (ci := 7) (v := .int iM_at) (C := RX7) (T := TX7) (N := 48) hx hb hts inX7 hown hK hP 0 rfl rfl 4 (by decide) (hts _ wd_384) (fun _ h9 => h9) rfl dX7_mustName_83 ?_
    have hFc := va_free (wc := [(oc7 oM iM_thrown rM_tape iM_taped iM_size iM_at iM_end iM_token iM_whole iM_nameSize iM_fault iM_place iM_trouble rM_letters iM_failed iM_hasCourt rM_r rM_fresh rM_told rM_read rM_st rM_undone rM_kept iM_undos iM_images rM_fresher iM_fresherSize iM_scale iM_night rM_heardRow rM_cutRow iM_breaths iM_cutMany iM_allBreaths rM_trial rM_words iM_fewestBreaths iM_orderMany iM_orderSum iM_leastOrder rM_often iM_setMany iM_someOf iM_allOf iM_allWeight iM_enoughWeight iM_worthSum iM_firstRest iM_leastDrawn)]) hD hS hA [0] rfl
    refine va_callv (va_runV (As := [.int 1, .int iM_at]) (rest := []) ⟨hx, hb, hml, hown, hts⟩ (tX7_wrong l dC dI _ oM iM_thrown rM_tape iM_taped iM_size iM_at iM_end iM_token iM_whole iM_nameSize iM_fault iM_place iM_trouble rM_letters iM_failed iM_hasCourt rM_r rM_fresh rM_told rM_read rM_st rM_undone rM_kept iM_undos iM_images rM_fresher iM_fresherSize iM_scale iM_night rM_heardRow rM_cutRow iM_breaths iM_cutMany iM_allBreaths rM_trial rM_words iM_fewestBreaths iM_orderMany iM_orderSum iM_leastOrder rM_often iM_setMany iM_someOf iM_allOf iM_allWeight iM_enoughWeight iM_worthSum iM_firstRest iM_leastDrawn 1 iM_at (by first | omega | decide) (by first | omega | decide) (by first | omega | decide) (by first | omega | decide) (by first | omega | decide) (by first | omega | decide) (by first | omega | decide) (by first | omega | decide) (by first | omega | decide) (by first | omega | decide) (by first | omega | decide) (by first | assumption | exact (fun h9 => by have q0 := kc_0; have q1 := kc_1; omega))) (cwV 2 hts (wd_V wd_430 wd_431 wd_432 wd_5 (wd_c wd_433)) rfl rfl rfl (by decide +kernel) ⟨Nat.le_of_ble_eq_true rfl, Nat.le_of_ble_eq_true rfl⟩) ⟨Pw.fb, va_recv hK hP (ci := 7) (q0 := 0) rfl rfl, fun U hU hW => Pw.to (hP.sub [0] rfl) (hD.sub [0] (by decide) rfl) (hK.sub [] rfl) hE hS hFc hU hW⟩ rfl rfl hl.1 rfl (lv_room (Nat.le_of_ble_eq_true rfl)) dX7_mustName_86 ⟨Nat.le_of_ble_eq_true rfl, Nat.le_of_ble_eq_true rfl⟩) hS (fun q _ h => hFc q h) hFc (fun u t H locs ht hvm hw hB hz1 hk1 hS => ?_)
    obtain ⟨x_4980, x_4981, x_4982, b_x_4982, e_x_4980_0, e_x_4980_1, hB⟩ := hB
    obtain ⟨hP, hD, hK⟩ := Bw.go (ws' := [(arI rM_letters kM_letters 8 fM_letters), (oc7 oM iM_thrown rM_tape iM_taped iM_size iM_at iM_end iM_token iM_whole iM_nameSize x_4980 x_4981 iM_trouble rM_letters x_4982 iM_hasCourt rM_r rM_fresh rM_told rM_read rM_st rM_undone rM_kept iM_undos iM_images rM_fresher iM_fresherSize iM_scale iM_night rM_heardRow rM_cutRow iM_breaths iM_cutMany iM_allBreaths rM_trial rM_words iM_fewestBreaths iM_orderMany iM_orderSum iM_leastOrder rM_often iM_setMany iM_someOf iM_allOf iM_allWeight iM_enoughWeight iM_worthSum iM_firstRest iM_leastDrawn)]) (tys' := [(kM_letters, .int)]) hB rfl ht hvm hP hD hK [0] [1] rfl (by decide) (by decide) [0] hk1 hFc rfl rfl rfl
    clear hz1 hk1 hvm ht hB
    have hG := hG.trans (un3_eq e_x_4980_1)
    exact W.vret hx hb hr (fun t ht hW => ⟨⟨0, rfl, trivial, ⟨x_4980, x_4981, x_4982, b_x_4982, (by first | assumption | (have q0 := kc_0; have q1 := kc_1; omega)), (by first | assumption | exact (fun h9 => by have q0 := kc_0; have q1 := kc_1; omega)), hG, Bw.to (hP.sub [1, 0] rfl) (hD.sub [1, 0] (by decide) rfl) (hK.sub [0] rfl) ht hW⟩⟩, hS.F ht⟩) hS.2.2 dX7_mustName_89
  · skip
    have hG := hG.trans (if_pos c_4979)
    have gc_4979 := ti_eq c_4979 rfl kc_2
    have h_4983 := r_T (by omega)
    clear r_T
    refine lv_aload_n hx hb dX7_mustName_8 rfl (lv_at hl 0 rfl) ?_
    obtain ⟨sa_4984, vsa_4984, nsa_4984, fsa_4984, hnsa_4984, hnesa_4984, hfesa_4984, hRsa_4984, hSsa_4984⟩ := hE.2.2.1 (134, "court", [99, 111, 117, 114, 116]) (by decide)
    have hG := hG.trans (lt_eq hnesa_4984)
    have hG := hG.trans (lt_eq hfesa_4984)
    refine va_ldcS hx hb hown hRsa_4984 dX7_mustName_9 ?_
    have hFc := va_free (wc := [(oc7 oM iM_thrown rM_tape iM_taped iM_size iM_at iM_end iM_token iM_whole iM_nameSize iM_fault iM_place iM_trouble rM_letters iM_failed iM_hasCourt rM_r rM_fresh rM_told rM_read rM_st rM_undone rM_kept iM_undos iM_images rM_fresher iM_fresherSize iM_scale iM_night rM_heardRow rM_cutRow iM_breaths iM_cutMany iM_allBreaths rM_trial rM_words iM_fewestBreaths iM_orderMany iM_orderSum iM_leastOrder rM_often iM_setMany iM_someOf iM_allOf iM_allWeight iM_enoughWeight iM_worthSum iM_firstRest iM_leastDrawn), (arI rM_letters kM_letters 8 fM_letters)]) hD hS hA [0, 1] rfl
    refine va_calli (va_runV (As := [.ref sa_4984]) (rest := []) ⟨hx, hb, hml, hown, hts⟩ (tX7_isWord l dC dI _ oM iM_thrown rM_tape iM_taped iM_size iM_at iM_end iM_token iM_whole iM_nameSize iM_fault iM_place iM_trouble rM_letters fM_letters kM_letters iM_failed iM_hasCourt rM_r rM_fresh rM_told rM_read rM_st rM_undone rM_kept iM_undos iM_images rM_fresher iM_fresherSize iM_scale iM_night rM_heardRow rM_cutRow iM_breaths iM_cutMany iM_allBreaths rM_trial rM_words iM_fewestBreaths iM_orderMany iM_orderSum iM_leastOrder rM_often iM_setMany iM_someOf iM_allOf iM_allWeight iM_enoughWeight iM_worthSum iM_firstRest iM_leastDrawn sa_4984 vsa_4984 nsa_4984 fsa_4984 (by first | omega | decide) (by first | omega | decide) (by first | omega | decide) (by first | omega | decide) (by first | omega | decide) (by first | omega | decide) (by first | omega | decide) (by first | omega | decide) (by first | omega | decide) (by first | omega | decide) (by first | omega | decide) (by first | assumption | exact (fun h9 => by have q0 := kc_0; have q1 := kc_1; omega)) (by first | omega | decide | assumption | (have q0 := kc_0; have q1 := kc_1; omega) | (intro h; exact absurd h (by decide)))) (cwV 1 hts (wd_V wd_420 wd_421 wd_422 wd_5 (wd_c wd_423)) rfl rfl rfl (by decide +kernel) ⟨Nat.le_of_ble_eq_true rfl, Nat.le_of_ble_eq_true rfl⟩) ⟨Pq.fb, va_recv hK hP (ci := 7) (q0 := 0) rfl rfl, fun U hU hW => Pq.to (hP.sub [0, 1] rfl) (hD.sub [0, 1] (by decide) rfl) (hK.sub [0] rfl) hSsa_4984 hE hS hFc hU hW⟩ rfl rfl hl.1 rfl (lv_room (Nat.le_of_ble_eq_true rfl)) dX7_mustName_11 ⟨Nat.le_of_ble_eq_true rfl, Nat.le_of_ble_eq_true rfl⟩) hS (fun q _ h => hFc q h) hFc (fun r u t H locs ht hvm hw hB hz1 hk1 hS => ?_)
    have hru9 := hw.2
    have hw := hw.1
    obtain ⟨hP, hD, hK⟩ := Bw.go (ws' := [(oc7 oM iM_thrown rM_tape iM_taped iM_size iM_at iM_end iM_token iM_whole iM_nameSize iM_fault iM_place iM_trouble rM_letters iM_failed iM_hasCourt rM_r rM_fresh rM_told rM_read rM_st rM_undone rM_kept iM_undos iM_images rM_fresher iM_fresherSize iM_scale iM_night rM_heardRow rM_cutRow iM_breaths iM_cutMany iM_allBreaths rM_trial rM_words iM_fewestBreaths iM_orderMany iM_orderSum iM_leastOrder rM_often iM_setMany iM_someOf iM_allOf iM_allWeight iM_enoughWeight iM_worthSum iM_firstRest iM_leastDrawn), (arI rM_letters kM_letters 8 fM_letters)]) (tys' := [(kM_letters, .int)]) hB rfl ht hvm hP hD hK [0, 1] [] rfl (by decide) (by decide) [] hk1 hFc rfl rfl rfl
    clear hz1 hk1 hvm ht hB
    obtain ⟨x_4985, rfl⟩ : ∃ z, z = r := ⟨_, rfl⟩
    have hG := hG.trans (lt_eq hru9.symm)
    have bx_4985 := hw.1
    have dx_4985 := bz_ti bx_4985
    have lx_4985 := hw.2
    refine lv_if_ne (tgt := 80) hx hb dX7_mustName_14 (by decide) (fun c_4986 => ?_) (fun c_4986 => ?_)
    · skip
      have hG := hG.trans (if_neg c_4986)
      have gc_4986 := ti_ne c_4986 rfl kc_0
      replace gc_4986 : (-1) * x_4985.toInt + 1 ≤ 0 := by omega
      have h_4987 := lx_4985 (by omega)
      clear lx_4985
      refine lv_aload_n hx hb dX7_mustName_80 rfl (lv_at hl 0 rfl) ?_
      refine lv_iconst (v := 1) hx hb dX7_mustName_81 (by decide) ?_
      refine lv_aload_n hx hb dX7_mustName_82 rfl (lv_at hl 0 rfl) ?_
      refine va_get (D := (dC, dI)) (ci := 7) (v := .int iM_at) (C := RX7) (T := TX7) (N := 48) hx hb hts inX7 hown hK hP 0 rfl rfl 4 (by decide) (hts _ wd_384) (fun _ h9 => h9) rfl dX7_mustName_83 ?_
      have hFc := va_free (wc := [(oc7 oM iM_thrown rM_tape iM_taped iM_size iM_at iM_end iM_token iM_whole iM_nameSize iM_fault iM_place iM_trouble rM_letters iM_failed iM_hasCourt rM_r rM_fresh rM_told rM_read rM_st rM_undone rM_kept iM_undos iM_images rM_fresher iM_fresherSize iM_scale iM_night rM_heardRow rM_cutRow iM_breaths iM_cutMany iM_allBreaths rM_trial rM_words iM_fewestBreaths iM_orderMany iM_orderSum iM_leastOrder rM_often iM_setMany iM_someOf iM_allOf iM_allWeight iM_enoughWeight iM_worthSum iM_firstRest iM_leastDrawn)]) hD hS hA [0] rfl
      refine va_callv (va_runV (As := [.int 1, .int iM_at]) (rest := []) ⟨hx, hb, hml, hown, hts⟩ (tX7_wrong l dC dI _ oM iM_thrown rM_tape iM_taped iM_size iM_at iM_end iM_token iM_whole iM_nameSize iM_fault iM_place iM_trouble rM_letters iM_failed iM_hasCourt rM_r rM_fresh rM_told rM_read rM_st rM_undone rM_kept iM_undos iM_images rM_fresher iM_fresherSize iM_scale iM_night rM_heardRow rM_cutRow iM_breaths iM_cutMany iM_allBreaths rM_trial rM_words iM_fewestBreaths iM_orderMany iM_orderSum iM_leastOrder rM_often iM_setMany iM_someOf iM_allOf iM_allWeight iM_enoughWeight iM_worthSum iM_firstRest iM_leastDrawn 1 iM_at (by first | omega | decide) (by first | omega | decide) (by first | omega | decide) (by first | omega | decide) (by first | omega | decide) (by first | omega | decide) (by first | omega | decide) (by first | omega | decide) (by first | omega | decide) (by first | omega | decide) (by first | omega | decide) (by first | assumption | exact (fun h9 => by have q0 := kc_0; have q1 := kc_1; omega))) (cwV 2 hts (wd_V wd_430 wd_431 wd_432 wd_5 (wd_c wd_433)) rfl rfl rfl (by decide +kernel) ⟨Nat.le_of_ble_eq_true rfl, Nat.le_of_ble_eq_true rfl⟩) ⟨Pw.fb, va_recv hK hP (ci := 7) (q0 := 0) rfl rfl, fun U hU hW => Pw.to (hP.sub [0] rfl) (hD.sub [0] (by decide) rfl) (hK.sub [] rfl) hE hS hFc hU hW⟩ rfl rfl hl.1 rfl (lv_room (Nat.le_of_ble_eq_true rfl)) dX7_mustName_86 ⟨Nat.le_of_ble_eq_true rfl, Nat.le_of_ble_eq_true rfl⟩) hS (fun q _ h => hFc q h) hFc (fun u t H locs ht hvm hw hB hz1 hk1 hS => ?_)
      obtain ⟨x_4988, x_4989, x_4990, b_x_4990, e_x_4988_0, e_x_4988_1, hB⟩ := hB
      obtain ⟨hP, hD, hK⟩ := Bw.go (ws' := [(arI rM_letters kM_letters 8 fM_letters), (oc7 oM iM_thrown rM_tape iM_taped iM_size iM_at iM_end iM_token iM_whole iM_nameSize x_4988 x_4989 iM_trouble rM_letters x_4990 iM_hasCourt rM_r rM_fresh rM_told rM_read rM_st rM_undone rM_kept iM_undos iM_images rM_fresher iM_fresherSize iM_scale iM_night rM_heardRow rM_cutRow iM_breaths iM_cutMany iM_allBreaths rM_trial rM_words iM_fewestBreaths iM_orderMany iM_orderSum iM_leastOrder rM_often iM_setMany iM_someOf iM_allOf iM_allWeight iM_enoughWeight iM_worthSum iM_firstRest iM_leastDrawn)]) (tys' := [(kM_letters, .int)]) hB rfl ht hvm hP hD hK [0] [1] rfl (by decide) (by decide) [0] hk1 hFc rfl rfl rfl
      clear hz1 hk1 hvm ht hB
      have hG := hG.trans (un3_eq e_x_4988_1)
      exact W.vret hx hb hr (fun t ht hW => ⟨⟨0, rfl, trivial, ⟨x_4988, x_4989, x_4990, b_x_4990, (by first | assumption | (have q0 := kc_0; have q1 := kc_1; omega)), (by first | assumption | exact (fun h9 => by have q0 := kc_0; have q1 := kc_1; omega)), hG, Bw.to (hP.sub [1, 0] rfl) (hD.sub [1, 0] (by decide) rfl) (hK.sub [0] rfl) ht hW⟩⟩, hS.F ht⟩) hS.2.2 dX7_mustName_89
    · skip
      have hG := hG.trans (if_pos c_4986)
      have gc_4986 := ti_eq c_4986 rfl kc_0
      clear lx_4985
      refine lv_aload_n hx hb dX7_mustName_17 rfl (lv_at hl 0 rfl) ?_
      obtain ⟨sa_4991, vsa_4991, nsa_4991, fsa_4991, hnsa_4991, hnesa_4991, hfesa_4991, hRsa_4991, hSsa_4991⟩ := hE.2.2.1 (136, "word", [119, 111, 114, 100]) (by decide)
      have hG := hG.trans (lt_eq hnesa_4991)
      have hG := hG.trans (lt_eq hfesa_4991)
      refine va_ldcS hx hb hown hRsa_4991 dX7_mustName_18 ?_
      have hFc := va_free (wc := [(oc7 oM iM_thrown rM_tape iM_taped iM_size iM_at iM_end iM_token iM_whole iM_nameSize iM_fault iM_place iM_trouble rM_letters iM_failed iM_hasCourt rM_r rM_fresh rM_told rM_read rM_st rM_undone rM_kept iM_undos iM_images rM_fresher iM_fresherSize iM_scale iM_night rM_heardRow rM_cutRow iM_breaths iM_cutMany iM_allBreaths rM_trial rM_words iM_fewestBreaths iM_orderMany iM_orderSum iM_leastOrder rM_often iM_setMany iM_someOf iM_allOf iM_allWeight iM_enoughWeight iM_worthSum iM_firstRest iM_leastDrawn), (arI rM_letters kM_letters 8 fM_letters)]) hD hS hA [0, 1] rfl
      refine va_calli (va_runV (As := [.ref sa_4991]) (rest := []) ⟨hx, hb, hml, hown, hts⟩ (tX7_isWord l dC dI _ oM iM_thrown rM_tape iM_taped iM_size iM_at iM_end iM_token iM_whole iM_nameSize iM_fault iM_place iM_trouble rM_letters fM_letters kM_letters iM_failed iM_hasCourt rM_r rM_fresh rM_told rM_read rM_st rM_undone rM_kept iM_undos iM_images rM_fresher iM_fresherSize iM_scale iM_night rM_heardRow rM_cutRow iM_breaths iM_cutMany iM_allBreaths rM_trial rM_words iM_fewestBreaths iM_orderMany iM_orderSum iM_leastOrder rM_often iM_setMany iM_someOf iM_allOf iM_allWeight iM_enoughWeight iM_worthSum iM_firstRest iM_leastDrawn sa_4991 vsa_4991 nsa_4991 fsa_4991 (by first | omega | decide) (by first | omega | decide) (by first | omega | decide) (by first | omega | decide) (by first | omega | decide) (by first | omega | decide) (by first | omega | decide) (by first | omega | decide) (by first | omega | decide) (by first | omega | decide) (by first | omega | decide) (by first | assumption | exact (fun h9 => by have q0 := kc_0; have q1 := kc_1; omega)) (by first | omega | decide | assumption | (have q0 := kc_0; have q1 := kc_1; omega) | (intro h; exact absurd h (by decide)))) (cwV 1 hts (wd_V wd_420 wd_421 wd_422 wd_5 (wd_c wd_423)) rfl rfl rfl (by decide +kernel) ⟨Nat.le_of_ble_eq_true rfl, Nat.le_of_ble_eq_true rfl⟩) ⟨Pq.fb, va_recv hK hP (ci := 7) (q0 := 0) rfl rfl, fun U hU hW => Pq.to (hP.sub [0, 1] rfl) (hD.sub [0, 1] (by decide) rfl) (hK.sub [0] rfl) hSsa_4991 hE hS hFc hU hW⟩ rfl rfl hl.1 rfl (lv_room (Nat.le_of_ble_eq_true rfl)) dX7_mustName_20 ⟨Nat.le_of_ble_eq_true rfl, Nat.le_of_ble_eq_true rfl⟩) hS (fun q _ h => hFc q h) hFc (fun r u t H locs ht hvm hw hB hz1 hk1 hS => ?_)
      have hru9 := hw.2
      have hw := hw.1
      obtain ⟨hP, hD, hK⟩ := Bw.go (ws' := [(oc7 oM iM_thrown rM_tape iM_taped iM_size iM_at iM_end iM_token iM_whole iM_nameSize iM_fault iM_place iM_trouble rM_letters iM_failed iM_hasCourt rM_r rM_fresh rM_told rM_read rM_st rM_undone rM_kept iM_undos iM_images rM_fresher iM_fresherSize iM_scale iM_night rM_heardRow rM_cutRow iM_breaths iM_cutMany iM_allBreaths rM_trial rM_words iM_fewestBreaths iM_orderMany iM_orderSum iM_leastOrder rM_often iM_setMany iM_someOf iM_allOf iM_allWeight iM_enoughWeight iM_worthSum iM_firstRest iM_leastDrawn), (arI rM_letters kM_letters 8 fM_letters)]) (tys' := [(kM_letters, .int)]) hB rfl ht hvm hP hD hK [0, 1] [] rfl (by decide) (by decide) [] hk1 hFc rfl rfl rfl
      clear hz1 hk1 hvm ht hB
      obtain ⟨x_4992, rfl⟩ : ∃ z, z = r := ⟨_, rfl⟩
      have hG := hG.trans (lt_eq hru9.symm)
      have bx_4992 := hw.1
      have dx_4992 := bz_ti bx_4992
      have lx_4992 := hw.2
      refine lv_if_ne (tgt := 80) hx hb dX7_mustName_23 (by decide) (fun c_4993 => ?_) (fun c_4993 => ?_)
      · skip
        have hG := hG.trans (if_neg c_4993)
        have gc_4993 := ti_ne c_4993 rfl kc_0
        replace gc_4993 : (-1) * x_4992.toInt + 1 ≤ 0 := by omega
        have h_4994 := lx_4992 (by omega)
        clear lx_4992
        refine lv_aload_n hx hb dX7_mustName_80 rfl (lv_at hl 0 rfl) ?_
        refine lv_iconst (v := 1) hx hb dX7_mustName_81 (by decide) ?_
        refine lv_aload_n hx hb dX7_mustName_82 rfl (lv_at hl 0 rfl) ?_
        refine va_get (D := (dC, dI)) (ci := 7) (v := .int iM_at) (C := RX7) (T := TX7) (N := 48) hx hb hts inX7 hown hK hP 0 rfl rfl 4 (by decide) (hts _ wd_384) (fun _ h9 => h9) rfl dX7_mustName_83 ?_
        have hFc := va_free (wc := [(oc7 oM iM_thrown rM_tape iM_taped iM_size iM_at iM_end iM_token iM_whole iM_nameSize iM_fault iM_place iM_trouble rM_letters iM_failed iM_hasCourt rM_r rM_fresh rM_told rM_read rM_st rM_undone rM_kept iM_undos iM_images rM_fresher iM_fresherSize iM_scale iM_night rM_heardRow rM_cutRow iM_breaths iM_cutMany iM_allBreaths rM_trial rM_words iM_fewestBreaths iM_orderMany iM_orderSum iM_leastOrder rM_often iM_setMany iM_someOf iM_allOf iM_allWeight iM_enoughWeight iM_worthSum iM_firstRest iM_leastDrawn)]) hD hS hA [0] rfl
        refine va_callv (va_runV (As := [.int 1, .int iM_at]) (rest := []) ⟨hx, hb, hml, hown, hts⟩ (tX7_wrong l dC dI _ oM iM_thrown rM_tape iM_taped iM_size iM_at iM_end iM_token iM_whole iM_nameSize iM_fault iM_place iM_trouble rM_letters iM_failed iM_hasCourt rM_r rM_fresh rM_told rM_read rM_st rM_undone rM_kept iM_undos iM_images rM_fresher iM_fresherSize iM_scale iM_night rM_heardRow rM_cutRow iM_breaths iM_cutMany iM_allBreaths rM_trial rM_words iM_fewestBreaths iM_orderMany iM_orderSum iM_leastOrder rM_often iM_setMany iM_someOf iM_allOf iM_allWeight iM_enoughWeight iM_worthSum iM_firstRest iM_leastDrawn 1 iM_at (by first | omega | decide) (by first | omega | decide) (by first | omega | decide) (by first | omega | decide) (by first | omega | decide) (by first | omega | decide) (by first | omega | decide) (by first | omega | decide) (by first | omega | decide) (by first | omega | decide) (by first | omega | decide) (by first | assumption | exact (fun h9 => by have q0 := kc_0; have q1 := kc_1; omega))) (cwV 2 hts (wd_V wd_430 wd_431 wd_432 wd_5 (wd_c wd_433)) rfl rfl rfl (by decide +kernel) ⟨Nat.le_of_ble_eq_true rfl, Nat.le_of_ble_eq_true rfl⟩) ⟨Pw.fb, va_recv hK hP (ci := 7) (q0 := 0) rfl rfl, fun U hU hW => Pw.to (hP.sub [0] rfl) (hD.sub [0] (by decide) rfl) (hK.sub [] rfl) hE hS hFc hU hW⟩ rfl rfl hl.1 rfl (lv_room (Nat.le_of_ble_eq_true rfl)) dX7_mustName_86 ⟨Nat.le_of_ble_eq_true rfl, Nat.le_of_ble_eq_true rfl⟩) hS (fun q _ h => hFc q h) hFc (fun u t H locs ht hvm hw hB hz1 hk1 hS => ?_)
        obtain ⟨x_4995, x_4996, x_4997, b_x_4997, e_x_4995_0, e_x_4995_1, hB⟩ := hB
        obtain ⟨hP, hD, hK⟩ := Bw.go (ws' := [(arI rM_letters kM_letters 8 fM_letters), (oc7 oM iM_thrown rM_tape iM_taped iM_size iM_at iM_end iM_token iM_whole iM_nameSize x_4995 x_4996 iM_trouble rM_letters x_4997 iM_hasCourt rM_r rM_fresh rM_told rM_read rM_st rM_undone rM_kept iM_undos iM_images rM_fresher iM_fresherSize iM_scale iM_night rM_heardRow rM_cutRow iM_breaths iM_cutMany iM_allBreaths rM_trial rM_words iM_fewestBreaths iM_orderMany iM_orderSum iM_leastOrder rM_often iM_setMany iM_someOf iM_allOf iM_allWeight iM_enoughWeight iM_worthSum iM_firstRest iM_leastDrawn)]) (tys' := [(kM_letters, .int)]) hB rfl ht hvm hP hD hK [0] [1] rfl (by decide) (by decide) [0] hk1 hFc rfl rfl rfl
        clear hz1 hk1 hvm ht hB
        have hG := hG.trans (un3_eq e_x_4995_1)
        exact W.vret hx hb hr (fun t ht hW => ⟨⟨0, rfl, trivial, ⟨x_4995, x_4996, x_4997, b_x_4997, (by first | assumption | (have q0 := kc_0; have q1 := kc_1; omega)), (by first | assumption | exact (fun h9 => by have q0 := kc_0; have q1 := kc_1; omega)), hG, Bw.to (hP.sub [1, 0] rfl) (hD.sub [1, 0] (by decide) rfl) (hK.sub [0] rfl) ht hW⟩⟩, hS.F ht⟩) hS.2.2 dX7_mustName_89
      · skip
        have hG := hG.trans (if_pos c_4993)
        have gc_4993 := ti_eq c_4993 rfl kc_0
        clear lx_4992
        refine lv_aload_n hx hb dX7_mustName_26 rfl (lv_at hl 0 rfl) ?_
        obtain ⟨sa_4998, vsa_4998, nsa_4998, fsa_4998, hnsa_4998, hnesa_4998, hfesa_4998, hRsa_4998, hSsa_4998⟩ := hE.2.2.1 (138, "king", [107, 105, 110, 103]) (by decide)
        have hG := hG.trans (lt_eq hnesa_4998)
        have hG := hG.trans (lt_eq hfesa_4998)
        refine va_ldcS hx hb hown hRsa_4998 dX7_mustName_27 ?_
        have hFc := va_free (wc := [(oc7 oM iM_thrown rM_tape iM_taped iM_size iM_at iM_end iM_token iM_whole iM_nameSize iM_fault iM_place iM_trouble rM_letters iM_failed iM_hasCourt rM_r rM_fresh rM_told rM_read rM_st rM_undone rM_kept iM_undos iM_images rM_fresher iM_fresherSize iM_scale iM_night rM_heardRow rM_cutRow iM_breaths iM_cutMany iM_allBreaths rM_trial rM_words iM_fewestBreaths iM_orderMany iM_orderSum iM_leastOrder rM_often iM_setMany iM_someOf iM_allOf iM_allWeight iM_enoughWeight iM_worthSum iM_firstRest iM_leastDrawn), (arI rM_letters kM_letters 8 fM_letters)]) hD hS hA [0, 1] rfl
        refine va_calli (va_runV (As := [.ref sa_4998]) (rest := []) ⟨hx, hb, hml, hown, hts⟩ (tX7_isWord l dC dI _ oM iM_thrown rM_tape iM_taped iM_size iM_at iM_end iM_token iM_whole iM_nameSize iM_fault iM_place iM_trouble rM_letters fM_letters kM_letters iM_failed iM_hasCourt rM_r rM_fresh rM_told rM_read rM_st rM_undone rM_kept iM_undos iM_images rM_fresher iM_fresherSize iM_scale iM_night rM_heardRow rM_cutRow iM_breaths iM_cutMany iM_allBreaths rM_trial rM_words iM_fewestBreaths iM_orderMany iM_orderSum iM_leastOrder rM_often iM_setMany iM_someOf iM_allOf iM_allWeight iM_enoughWeight iM_worthSum iM_firstRest iM_leastDrawn sa_4998 vsa_4998 nsa_4998 fsa_4998 (by first | omega | decide) (by first | omega | decide) (by first | omega | decide) (by first | omega | decide) (by first | omega | decide) (by first | omega | decide) (by first | omega | decide) (by first | omega | decide) (by first | omega | decide) (by first | omega | decide) (by first | omega | decide) (by first | assumption | exact (fun h9 => by have q0 := kc_0; have q1 := kc_1; omega)) (by first | omega | decide | assumption | (have q0 := kc_0; have q1 := kc_1; omega) | (intro h; exact absurd h (by decide)))) (cwV 1 hts (wd_V wd_420 wd_421 wd_422 wd_5 (wd_c wd_423)) rfl rfl rfl (by decide +kernel) ⟨Nat.le_of_ble_eq_true rfl, Nat.le_of_ble_eq_true rfl⟩) ⟨Pq.fb, va_recv hK hP (ci := 7) (q0 := 0) rfl rfl, fun U hU hW => Pq.to (hP.sub [0, 1] rfl) (hD.sub [0, 1] (by decide) rfl) (hK.sub [0] rfl) hSsa_4998 hE hS hFc hU hW⟩ rfl rfl hl.1 rfl (lv_room (Nat.le_of_ble_eq_true rfl)) dX7_mustName_29 ⟨Nat.le_of_ble_eq_true rfl, Nat.le_of_ble_eq_true rfl⟩) hS (fun q _ h => hFc q h) hFc (fun r u t H locs ht hvm hw hB hz1 hk1 hS => ?_)
        have hru9 := hw.2
        have hw := hw.1
        obtain ⟨hP, hD, hK⟩ := Bw.go (ws' := [(oc7 oM iM_thrown rM_tape iM_taped iM_size iM_at iM_end iM_token iM_whole iM_nameSize iM_fault iM_place iM_trouble rM_letters iM_failed iM_hasCourt rM_r rM_fresh rM_told rM_read rM_st rM_undone rM_kept iM_undos iM_images rM_fresher iM_fresherSize iM_scale iM_night rM_heardRow rM_cutRow iM_breaths iM_cutMany iM_allBreaths rM_trial rM_words iM_fewestBreaths iM_orderMany iM_orderSum iM_leastOrder rM_often iM_setMany iM_someOf iM_allOf iM_allWeight iM_enoughWeight iM_worthSum iM_firstRest iM_leastDrawn), (arI rM_letters kM_letters 8 fM_letters)]) (tys' := [(kM_letters, .int)]) hB rfl ht hvm hP hD hK [0, 1] [] rfl (by decide) (by decide) [] hk1 hFc rfl rfl rfl
        clear hz1 hk1 hvm ht hB
        obtain ⟨x_4999, rfl⟩ : ∃ z, z = r := ⟨_, rfl⟩
        have hG := hG.trans (lt_eq hru9.symm)
        have bx_4999 := hw.1
        have dx_4999 := bz_ti bx_4999
        have lx_4999 := hw.2
        refine lv_if_ne (tgt := 80) hx hb dX7_mustName_32 (by decide) (fun c_5000 => ?_) (fun c_5000 => ?_)
        · skip
          have hG := hG.trans (if_neg c_5000)
          have gc_5000 := ti_ne c_5000 rfl kc_0
          replace gc_5000 : (-1) * x_4999.toInt + 1 ≤ 0 := by omega
          have h_5001 := lx_4999 (by omega)
          clear lx_4999
          refine lv_aload_n hx hb dX7_mustName_80 rfl (lv_at hl 0 rfl) ?_
          refine lv_iconst (v := 1) hx hb dX7_mustName_81 (by decide) ?_
          refine lv_aload_n hx hb dX7_mustName_82 rfl (lv_at hl 0 rfl) ?_
          refine va_get (D := (dC, dI)) (ci := 7) (v := .int iM_at) (C := RX7) (T := TX7) (N := 48) hx hb hts inX7 hown hK hP 0 rfl rfl 4 (by decide) (hts _ wd_384) (fun _ h9 => h9) rfl dX7_mustName_83 ?_
          have hFc := va_free (wc := [(oc7 oM iM_thrown rM_tape iM_taped iM_size iM_at iM_end iM_token iM_whole iM_nameSize iM_fault iM_place iM_trouble rM_letters iM_failed iM_hasCourt rM_r rM_fresh rM_told rM_read rM_st rM_undone rM_kept iM_undos iM_images rM_fresher iM_fresherSize iM_scale iM_night rM_heardRow rM_cutRow iM_breaths iM_cutMany iM_allBreaths rM_trial rM_words iM_fewestBreaths iM_orderMany iM_orderSum iM_leastOrder rM_often iM_setMany iM_someOf iM_allOf iM_allWeight iM_enoughWeight iM_worthSum iM_firstRest iM_leastDrawn)]) hD hS hA [0] rfl
          refine va_callv (va_runV (As := [.int 1, .int iM_at]) (rest := []) ⟨hx, hb, hml, hown, hts⟩ (tX7_wrong l dC dI _ oM iM_thrown rM_tape iM_taped iM_size iM_at iM_end iM_token iM_whole iM_nameSize iM_fault iM_place iM_trouble rM_letters iM_failed iM_hasCourt rM_r rM_fresh rM_told rM_read rM_st rM_undone rM_kept iM_undos iM_images rM_fresher iM_fresherSize iM_scale iM_night rM_heardRow rM_cutRow iM_breaths iM_cutMany iM_allBreaths rM_trial rM_words iM_fewestBreaths iM_orderMany iM_orderSum iM_leastOrder rM_often iM_setMany iM_someOf iM_allOf iM_allWeight iM_enoughWeight iM_worthSum iM_firstRest iM_leastDrawn 1 iM_at (by first | omega | decide) (by first | omega | decide) (by first | omega | decide) (by first | omega | decide) (by first | omega | decide) (by first | omega | decide) (by first | omega | decide) (by first | omega | decide) (by first | omega | decide) (by first | omega | decide) (by first | omega | decide) (by first | assumption | exact (fun h9 => by have q0 := kc_0; have q1 := kc_1; omega))) (cwV 2 hts (wd_V wd_430 wd_431 wd_432 wd_5 (wd_c wd_433)) rfl rfl rfl (by decide +kernel) ⟨Nat.le_of_ble_eq_true rfl, Nat.le_of_ble_eq_true rfl⟩) ⟨Pw.fb, va_recv hK hP (ci := 7) (q0 := 0) rfl rfl, fun U hU hW => Pw.to (hP.sub [0] rfl) (hD.sub [0] (by decide) rfl) (hK.sub [] rfl) hE hS hFc hU hW⟩ rfl rfl hl.1 rfl (lv_room (Nat.le_of_ble_eq_true rfl)) dX7_mustName_86 ⟨Nat.le_of_ble_eq_true rfl, Nat.le_of_ble_eq_true rfl⟩) hS (fun q _ h => hFc q h) hFc (fun u t H locs ht hvm hw hB hz1 hk1 hS => ?_)
          obtain ⟨x_5002, x_5003, x_5004, b_x_5004, e_x_5002_0, e_x_5002_1, hB⟩ := hB
          obtain ⟨hP, hD, hK⟩ := Bw.go (ws' := [(arI rM_letters kM_letters 8 fM_letters), (oc7 oM iM_thrown rM_tape iM_taped iM_size iM_at iM_end iM_token iM_whole iM_nameSize x_5002 x_5003 iM_trouble rM_letters x_5004 iM_hasCourt rM_r rM_fresh rM_told rM_read rM_st rM_undone rM_kept iM_undos iM_images rM_fresher iM_fresherSize iM_scale iM_night rM_heardRow rM_cutRow iM_breaths iM_cutMany iM_allBreaths rM_trial rM_words iM_fewestBreaths iM_orderMany iM_orderSum iM_leastOrder rM_often iM_setMany iM_someOf iM_allOf iM_allWeight iM_enoughWeight iM_worthSum iM_firstRest iM_leastDrawn)]) (tys' := [(kM_letters, .int)]) hB rfl ht hvm hP hD hK [0] [1] rfl (by decide) (by decide) [0] hk1 hFc rfl rfl rfl
          clear hz1 hk1 hvm ht hB
          have hG := hG.trans (un3_eq e_x_5002_1)
          exact W.vret hx hb hr (fun t ht hW => ⟨⟨0, rfl, trivial, ⟨x_5002, x_5003, x_5004, b_x_5004, (by first | assumption | (have q0 := kc_0; have q1 := kc_1; omega)), (by first | assumption | exact (fun h9 => by have q0 := kc_0; have q1 := kc_1; omega)), hG, Bw.to (hP.sub [1, 0] rfl) (hD.sub [1, 0] (by decide) rfl) (hK.sub [0] rfl) ht hW⟩⟩, hS.F ht⟩) hS.2.2 dX7_mustName_89
        · skip
          have hG := hG.trans (if_pos c_5000)
          have gc_5000 := ti_eq c_5000 rfl kc_0
          clear lx_4999
          refine lv_aload_n hx hb dX7_mustName_35 rfl (lv_at hl 0 rfl) ?_
          obtain ⟨sa_5005, vsa_5005, nsa_5005, fsa_5005, hnsa_5005, hnesa_5005, hfesa_5005, hRsa_5005, hSsa_5005⟩ := hE.2.2.1 (140, "queen", [113, 117, 101, 101, 110]) (by decide)
          have hG := hG.trans (lt_eq hnesa_5005)
          have hG := hG.trans (lt_eq hfesa_5005)
          refine va_ldcS hx hb hown hRsa_5005 dX7_mustName_36 ?_
          have hFc := va_free (wc := [(oc7 oM iM_thrown rM_tape iM_taped iM_size iM_at iM_end iM_token iM_whole iM_nameSize iM_fault iM_place iM_trouble rM_letters iM_failed iM_hasCourt rM_r rM_fresh rM_told rM_read rM_st rM_undone rM_kept iM_undos iM_images rM_fresher iM_fresherSize iM_scale iM_night rM_heardRow rM_cutRow iM_breaths iM_cutMany iM_allBreaths rM_trial rM_words iM_fewestBreaths iM_orderMany iM_orderSum iM_leastOrder rM_often iM_setMany iM_someOf iM_allOf iM_allWeight iM_enoughWeight iM_worthSum iM_firstRest iM_leastDrawn), (arI rM_letters kM_letters 8 fM_letters)]) hD hS hA [0, 1] rfl
          refine va_calli (va_runV (As := [.ref sa_5005]) (rest := []) ⟨hx, hb, hml, hown, hts⟩ (tX7_isWord l dC dI _ oM iM_thrown rM_tape iM_taped iM_size iM_at iM_end iM_token iM_whole iM_nameSize iM_fault iM_place iM_trouble rM_letters fM_letters kM_letters iM_failed iM_hasCourt rM_r rM_fresh rM_told rM_read rM_st rM_undone rM_kept iM_undos iM_images rM_fresher iM_fresherSize iM_scale iM_night rM_heardRow rM_cutRow iM_breaths iM_cutMany iM_allBreaths rM_trial rM_words iM_fewestBreaths iM_orderMany iM_orderSum iM_leastOrder rM_often iM_setMany iM_someOf iM_allOf iM_allWeight iM_enoughWeight iM_worthSum iM_firstRest iM_leastDrawn sa_5005 vsa_5005 nsa_5005 fsa_5005 (by first | omega | decide) (by first | omega | decide) (by first | omega | decide) (by first | omega | decide) (by first | omega | decide) (by first | omega | decide) (by first | omega | decide) (by first | omega | decide) (by first | omega | decide) (by first | omega | decide) (by first | omega | decide) (by first | assumption | exact (fun h9 => by have q0 := kc_0; have q1 := kc_1; omega)) (by first | omega | decide | assumption | (have q0 := kc_0; have q1 := kc_1; omega) | (intro h; exact absurd h (by decide)))) (cwV 1 hts (wd_V wd_420 wd_421 wd_422 wd_5 (wd_c wd_423)) rfl rfl rfl (by decide +kernel) ⟨Nat.le_of_ble_eq_true rfl, Nat.le_of_ble_eq_true rfl⟩) ⟨Pq.fb, va_recv hK hP (ci := 7) (q0 := 0) rfl rfl, fun U hU hW => Pq.to (hP.sub [0, 1] rfl) (hD.sub [0, 1] (by decide) rfl) (hK.sub [0] rfl) hSsa_5005 hE hS hFc hU hW⟩ rfl rfl hl.1 rfl (lv_room (Nat.le_of_ble_eq_true rfl)) dX7_mustName_38 ⟨Nat.le_of_ble_eq_true rfl, Nat.le_of_ble_eq_true rfl⟩) hS (fun q _ h => hFc q h) hFc (fun r u t H locs ht hvm hw hB hz1 hk1 hS => ?_)
          have hru9 := hw.2
          have hw := hw.1
          obtain ⟨hP, hD, hK⟩ := Bw.go (ws' := [(oc7 oM iM_thrown rM_tape iM_taped iM_size iM_at iM_end iM_token iM_whole iM_nameSize iM_fault iM_place iM_trouble rM_letters iM_failed iM_hasCourt rM_r rM_fresh rM_told rM_read rM_st rM_undone rM_kept iM_undos iM_images rM_fresher iM_fresherSize iM_scale iM_night rM_heardRow rM_cutRow iM_breaths iM_cutMany iM_allBreaths rM_trial rM_words iM_fewestBreaths iM_orderMany iM_orderSum iM_leastOrder rM_often iM_setMany iM_someOf iM_allOf iM_allWeight iM_enoughWeight iM_worthSum iM_firstRest iM_leastDrawn), (arI rM_letters kM_letters 8 fM_letters)]) (tys' := [(kM_letters, .int)]) hB rfl ht hvm hP hD hK [0, 1] [] rfl (by decide) (by decide) [] hk1 hFc rfl rfl rfl
          clear hz1 hk1 hvm ht hB
          obtain ⟨x_5006, rfl⟩ : ∃ z, z = r := ⟨_, rfl⟩
          have hG := hG.trans (lt_eq hru9.symm)
          have bx_5006 := hw.1
          have dx_5006 := bz_ti bx_5006
          have lx_5006 := hw.2
          refine lv_if_ne (tgt := 80) hx hb dX7_mustName_41 (by decide) (fun c_5007 => ?_) (fun c_5007 => ?_)
          · skip
            have hG := hG.trans (if_neg c_5007)
            have gc_5007 := ti_ne c_5007 rfl kc_0
            replace gc_5007 : (-1) * x_5006.toInt + 1 ≤ 0 := by omega
            have h_5008 := lx_5006 (by omega)
            clear lx_5006
            refine lv_aload_n hx hb dX7_mustName_80 rfl (lv_at hl 0 rfl) ?_
            refine lv_iconst (v := 1) hx hb dX7_mustName_81 (by decide) ?_
            refine lv_aload_n hx hb dX7_mustName_82 rfl (lv_at hl 0 rfl) ?_
            refine va_get (D := (dC, dI)) (ci := 7) (v := .int iM_at) (C := RX7) (T := TX7) (N := 48) hx hb hts inX7 hown hK hP 0 rfl rfl 4 (by decide) (hts _ wd_384) (fun _ h9 => h9) rfl dX7_mustName_83 ?_
            have hFc := va_free (wc := [(oc7 oM iM_thrown rM_tape iM_taped iM_size iM_at iM_end iM_token iM_whole iM_nameSize iM_fault iM_place iM_trouble rM_letters iM_failed iM_hasCourt rM_r rM_fresh rM_told rM_read rM_st rM_undone rM_kept iM_undos iM_images rM_fresher iM_fresherSize iM_scale iM_night rM_heardRow rM_cutRow iM_breaths iM_cutMany iM_allBreaths rM_trial rM_words iM_fewestBreaths iM_orderMany iM_orderSum iM_leastOrder rM_often iM_setMany iM_someOf iM_allOf iM_allWeight iM_enoughWeight iM_worthSum iM_firstRest iM_leastDrawn)]) hD hS hA [0] rfl
            refine va_callv (va_runV (As := [.int 1, .int iM_at]) (rest := []) ⟨hx, hb, hml, hown, hts⟩ (tX7_wrong l dC dI _ oM iM_thrown rM_tape iM_taped iM_size iM_at iM_end iM_token iM_whole iM_nameSize iM_fault iM_place iM_trouble rM_letters iM_failed iM_hasCourt rM_r rM_fresh rM_told rM_read rM_st rM_undone rM_kept iM_undos iM_images rM_fresher iM_fresherSize iM_scale iM_night rM_heardRow rM_cutRow iM_breaths iM_cutMany iM_allBreaths rM_trial rM_words iM_fewestBreaths iM_orderMany iM_orderSum iM_leastOrder rM_often iM_setMany iM_someOf iM_allOf iM_allWeight iM_enoughWeight iM_worthSum iM_firstRest iM_leastDrawn 1 iM_at (by first | omega | decide) (by first | omega | decide) (by first | omega | decide) (by first | omega | decide) (by first | omega | decide) (by first | omega | decide) (by first | omega | decide) (by first | omega | decide) (by first | omega | decide) (by first | omega | decide) (by first | omega | decide) (by first | assumption | exact (fun h9 => by have q0 := kc_0; have q1 := kc_1; omega))) (cwV 2 hts (wd_V wd_430 wd_431 wd_432 wd_5 (wd_c wd_433)) rfl rfl rfl (by decide +kernel) ⟨Nat.le_of_ble_eq_true rfl, Nat.le_of_ble_eq_true rfl⟩) ⟨Pw.fb, va_recv hK hP (ci := 7) (q0 := 0) rfl rfl, fun U hU hW => Pw.to (hP.sub [0] rfl) (hD.sub [0] (by decide) rfl) (hK.sub [] rfl) hE hS hFc hU hW⟩ rfl rfl hl.1 rfl (lv_room (Nat.le_of_ble_eq_true rfl)) dX7_mustName_86 ⟨Nat.le_of_ble_eq_true rfl, Nat.le_of_ble_eq_true rfl⟩) hS (fun q _ h => hFc q h) hFc (fun u t H locs ht hvm hw hB hz1 hk1 hS => ?_)
            obtain ⟨x_5009, x_5010, x_5011, b_x_5011, e_x_5009_0, e_x_5009_1, hB⟩ := hB
            obtain ⟨hP, hD, hK⟩ := Bw.go (ws' := [(arI rM_letters kM_letters 8 fM_letters), (oc7 oM iM_thrown rM_tape iM_taped iM_size iM_at iM_end iM_token iM_whole iM_nameSize x_5009 x_5010 iM_trouble rM_letters x_5011 iM_hasCourt rM_r rM_fresh rM_told rM_read rM_st rM_undone rM_kept iM_undos iM_images rM_fresher iM_fresherSize iM_scale iM_night rM_heardRow rM_cutRow iM_breaths iM_cutMany iM_allBreaths rM_trial rM_words iM_fewestBreaths iM_orderMany iM_orderSum iM_leastOrder rM_often iM_setMany iM_someOf iM_allOf iM_allWeight iM_enoughWeight iM_worthSum iM_firstRest iM_leastDrawn)]) (tys' := [(kM_letters, .int)]) hB rfl ht hvm hP hD hK [0] [1] rfl (by decide) (by decide) [0] hk1 hFc rfl rfl rfl
            clear hz1 hk1 hvm ht hB
            have hG := hG.trans (un3_eq e_x_5009_1)
            exact W.vret hx hb hr (fun t ht hW => ⟨⟨0, rfl, trivial, ⟨x_5009, x_5010, x_5011, b_x_5011, (by first | assumption | (have q0 := kc_0; have q1 := kc_1; omega)), (by first | assumption | exact (fun h9 => by have q0 := kc_0; have q1 := kc_1; omega)), hG, Bw.to (hP.sub [1, 0] rfl) (hD.sub [1, 0] (by decide) rfl) (hK.sub [0] rfl) ht hW⟩⟩, hS.F ht⟩) hS.2.2 dX7_mustName_89
          · skip
            have hG := hG.trans (if_pos c_5007)
            have gc_5007 := ti_eq c_5007 rfl kc_0
            clear lx_5006
            refine lv_aload_n hx hb dX7_mustName_44 rfl (lv_at hl 0 rfl) ?_
            obtain ⟨sa_5012, vsa_5012, nsa_5012, fsa_5012, hnsa_5012, hnesa_5012, hfesa_5012, hRsa_5012, hSsa_5012⟩ := hE.2.2.1 (142, "chance", [99, 104, 97, 110, 99, 101]) (by decide)
            have hG := hG.trans (lt_eq hnesa_5012)
            have hG := hG.trans (lt_eq hfesa_5012)
            refine va_ldcS hx hb hown hRsa_5012 dX7_mustName_45 ?_
            have hFc := va_free (wc := [(oc7 oM iM_thrown rM_tape iM_taped iM_size iM_at iM_end iM_token iM_whole iM_nameSize iM_fault iM_place iM_trouble rM_letters iM_failed iM_hasCourt rM_r rM_fresh rM_told rM_read rM_st rM_undone rM_kept iM_undos iM_images rM_fresher iM_fresherSize iM_scale iM_night rM_heardRow rM_cutRow iM_breaths iM_cutMany iM_allBreaths rM_trial rM_words iM_fewestBreaths iM_orderMany iM_orderSum iM_leastOrder rM_often iM_setMany iM_someOf iM_allOf iM_allWeight iM_enoughWeight iM_worthSum iM_firstRest iM_leastDrawn), (arI rM_letters kM_letters 8 fM_letters)]) hD hS hA [0, 1] rfl
            refine va_calli (va_runV (As := [.ref sa_5012]) (rest := []) ⟨hx, hb, hml, hown, hts⟩ (tX7_isWord l dC dI _ oM iM_thrown rM_tape iM_taped iM_size iM_at iM_end iM_token iM_whole iM_nameSize iM_fault iM_place iM_trouble rM_letters fM_letters kM_letters iM_failed iM_hasCourt rM_r rM_fresh rM_told rM_read rM_st rM_undone rM_kept iM_undos iM_images rM_fresher iM_fresherSize iM_scale iM_night rM_heardRow rM_cutRow iM_breaths iM_cutMany iM_allBreaths rM_trial rM_words iM_fewestBreaths iM_orderMany iM_orderSum iM_leastOrder rM_often iM_setMany iM_someOf iM_allOf iM_allWeight iM_enoughWeight iM_worthSum iM_firstRest iM_leastDrawn sa_5012 vsa_5012 nsa_5012 fsa_5012 (by first | omega | decide) (by first | omega | decide) (by first | omega | decide) (by first | omega | decide) (by first | omega | decide) (by first | omega | decide) (by first | omega | decide) (by first | omega | decide) (by first | omega | decide) (by first | omega | decide) (by first | omega | decide) (by first | assumption | exact (fun h9 => by have q0 := kc_0; have q1 := kc_1; omega)) (by first | omega | decide | assumption | (have q0 := kc_0; have q1 := kc_1; omega) | (intro h; exact absurd h (by decide)))) (cwV 1 hts (wd_V wd_420 wd_421 wd_422 wd_5 (wd_c wd_423)) rfl rfl rfl (by decide +kernel) ⟨Nat.le_of_ble_eq_true rfl, Nat.le_of_ble_eq_true rfl⟩) ⟨Pq.fb, va_recv hK hP (ci := 7) (q0 := 0) rfl rfl, fun U hU hW => Pq.to (hP.sub [0, 1] rfl) (hD.sub [0, 1] (by decide) rfl) (hK.sub [0] rfl) hSsa_5012 hE hS hFc hU hW⟩ rfl rfl hl.1 rfl (lv_room (Nat.le_of_ble_eq_true rfl)) dX7_mustName_47 ⟨Nat.le_of_ble_eq_true rfl, Nat.le_of_ble_eq_true rfl⟩) hS (fun q _ h => hFc q h) hFc (fun r u t H locs ht hvm hw hB hz1 hk1 hS => ?_)
            have hru9 := hw.2
            have hw := hw.1
            obtain ⟨hP, hD, hK⟩ := Bw.go (ws' := [(oc7 oM iM_thrown rM_tape iM_taped iM_size iM_at iM_end iM_token iM_whole iM_nameSize iM_fault iM_place iM_trouble rM_letters iM_failed iM_hasCourt rM_r rM_fresh rM_told rM_read rM_st rM_undone rM_kept iM_undos iM_images rM_fresher iM_fresherSize iM_scale iM_night rM_heardRow rM_cutRow iM_breaths iM_cutMany iM_allBreaths rM_trial rM_words iM_fewestBreaths iM_orderMany iM_orderSum iM_leastOrder rM_often iM_setMany iM_someOf iM_allOf iM_allWeight iM_enoughWeight iM_worthSum iM_firstRest iM_leastDrawn), (arI rM_letters kM_letters 8 fM_letters)]) (tys' := [(kM_letters, .int)]) hB rfl ht hvm hP hD hK [0, 1] [] rfl (by decide) (by decide) [] hk1 hFc rfl rfl rfl
            clear hz1 hk1 hvm ht hB
            obtain ⟨x_5013, rfl⟩ : ∃ z, z = r := ⟨_, rfl⟩
            have hG := hG.trans (lt_eq hru9.symm)
            have bx_5013 := hw.1
            have dx_5013 := bz_ti bx_5013
            have lx_5013 := hw.2
            refine lv_if_ne (tgt := 80) hx hb dX7_mustName_50 (by decide) (fun c_5014 => ?_) (fun c_5014 => ?_)
            · skip
              have hG := hG.trans (if_neg c_5014)
              have gc_5014 := ti_ne c_5014 rfl kc_0
              replace gc_5014 : (-1) * x_5013.toInt + 1 ≤ 0 := by omega
              have h_5015 := lx_5013 (by omega)
              clear lx_5013
              refine lv_aload_n hx hb dX7_mustName_80 rfl (lv_at hl 0 rfl) ?_
              refine lv_iconst (v := 1) hx hb dX7_mustName_81 (by decide) ?_
              refine lv_aload_n hx hb dX7_mustName_82 rfl (lv_at hl 0 rfl) ?_
              refine va_get (D := (dC, dI)) (ci := 7) (v := .int iM_at) (C := RX7) (T := TX7) (N := 48) hx hb hts inX7 hown hK hP 0 rfl rfl 4 (by decide) (hts _ wd_384) (fun _ h9 => h9) rfl dX7_mustName_83 ?_
              have hFc := va_free (wc := [(oc7 oM iM_thrown rM_tape iM_taped iM_size iM_at iM_end iM_token iM_whole iM_nameSize iM_fault iM_place iM_trouble rM_letters iM_failed iM_hasCourt rM_r rM_fresh rM_told rM_read rM_st rM_undone rM_kept iM_undos iM_images rM_fresher iM_fresherSize iM_scale iM_night rM_heardRow rM_cutRow iM_breaths iM_cutMany iM_allBreaths rM_trial rM_words iM_fewestBreaths iM_orderMany iM_orderSum iM_leastOrder rM_often iM_setMany iM_someOf iM_allOf iM_allWeight iM_enoughWeight iM_worthSum iM_firstRest iM_leastDrawn)]) hD hS hA [0] rfl
              refine va_callv (va_runV (As := [.int 1, .int iM_at]) (rest := []) ⟨hx, hb, hml, hown, hts⟩ (tX7_wrong l dC dI _ oM iM_thrown rM_tape iM_taped iM_size iM_at iM_end iM_token iM_whole iM_nameSize iM_fault iM_place iM_trouble rM_letters iM_failed iM_hasCourt rM_r rM_fresh rM_told rM_read rM_st rM_undone rM_kept iM_undos iM_images rM_fresher iM_fresherSize iM_scale iM_night rM_heardRow rM_cutRow iM_breaths iM_cutMany iM_allBreaths rM_trial rM_words iM_fewestBreaths iM_orderMany iM_orderSum iM_leastOrder rM_often iM_setMany iM_someOf iM_allOf iM_allWeight iM_enoughWeight iM_worthSum iM_firstRest iM_leastDrawn 1 iM_at (by first | omega | decide) (by first | omega | decide) (by first | omega | decide) (by first | omega | decide) (by first | omega | decide) (by first | omega | decide) (by first | omega | decide) (by first | omega | decide) (by first | omega | decide) (by first | omega | decide) (by first | omega | decide) (by first | assumption | exact (fun h9 => by have q0 := kc_0; have q1 := kc_1; omega))) (cwV 2 hts (wd_V wd_430 wd_431 wd_432 wd_5 (wd_c wd_433)) rfl rfl rfl (by decide +kernel) ⟨Nat.le_of_ble_eq_true rfl, Nat.le_of_ble_eq_true rfl⟩) ⟨Pw.fb, va_recv hK hP (ci := 7) (q0 := 0) rfl rfl, fun U hU hW => Pw.to (hP.sub [0] rfl) (hD.sub [0] (by decide) rfl) (hK.sub [] rfl) hE hS hFc hU hW⟩ rfl rfl hl.1 rfl (lv_room (Nat.le_of_ble_eq_true rfl)) dX7_mustName_86 ⟨Nat.le_of_ble_eq_true rfl, Nat.le_of_ble_eq_true rfl⟩) hS (fun q _ h => hFc q h) hFc (fun u t H locs ht hvm hw hB hz1 hk1 hS => ?_)
              obtain ⟨x_5016, x_5017, x_5018, b_x_5018, e_x_5016_0, e_x_5016_1, hB⟩ := hB
              obtain ⟨hP, hD, hK⟩ := Bw.go (ws' := [(arI rM_letters kM_letters 8 fM_letters), (oc7 oM iM_thrown rM_tape iM_taped iM_size iM_at iM_end iM_token iM_whole iM_nameSize x_5016 x_5017 iM_trouble rM_letters x_5018 iM_hasCourt rM_r rM_fresh rM_told rM_read rM_st rM_undone rM_kept iM_undos iM_images rM_fresher iM_fresherSize iM_scale iM_night rM_heardRow rM_cutRow iM_breaths iM_cutMany iM_allBreaths rM_trial rM_words iM_fewestBreaths iM_orderMany iM_orderSum iM_leastOrder rM_often iM_setMany iM_someOf iM_allOf iM_allWeight iM_enoughWeight iM_worthSum iM_firstRest iM_leastDrawn)]) (tys' := [(kM_letters, .int)]) hB rfl ht hvm hP hD hK [0] [1] rfl (by decide) (by decide) [0] hk1 hFc rfl rfl rfl
              clear hz1 hk1 hvm ht hB
              have hG := hG.trans (un3_eq e_x_5016_1)
              exact W.vret hx hb hr (fun t ht hW => ⟨⟨0, rfl, trivial, ⟨x_5016, x_5017, x_5018, b_x_5018, (by first | assumption | (have q0 := kc_0; have q1 := kc_1; omega)), (by first | assumption | exact (fun h9 => by have q0 := kc_0; have q1 := kc_1; omega)), hG, Bw.to (hP.sub [1, 0] rfl) (hD.sub [1, 0] (by decide) rfl) (hK.sub [0] rfl) ht hW⟩⟩, hS.F ht⟩) hS.2.2 dX7_mustName_89
            · skip
              have hG := hG.trans (if_pos c_5014)
              have gc_5014 := ti_eq c_5014 rfl kc_0
              clear lx_5013
              refine lv_aload_n hx hb dX7_mustName_53 rfl (lv_at hl 0 rfl) ?_
              obtain ⟨sa_5019, vsa_5019, nsa_5019, fsa_5019, hnsa_5019, hnesa_5019, hfesa_5019, hRsa_5019, hSsa_5019⟩ := hE.2.2.1 (144, "throne", [116, 104, 114, 111, 110, 101]) (by decide)
              have hG := hG.trans (lt_eq hnesa_5019)
              have hG := hG.trans (lt_eq hfesa_5019)
              refine va_ldcS hx hb hown hRsa_5019 dX7_mustName_54 ?_
              have hFc := va_free (wc := [(oc7 oM iM_thrown rM_tape iM_taped iM_size iM_at iM_end iM_token iM_whole iM_nameSize iM_fault iM_place iM_trouble rM_letters iM_failed iM_hasCourt rM_r rM_fresh rM_told rM_read rM_st rM_undone rM_kept iM_undos iM_images rM_fresher iM_fresherSize iM_scale iM_night rM_heardRow rM_cutRow iM_breaths iM_cutMany iM_allBreaths rM_trial rM_words iM_fewestBreaths iM_orderMany iM_orderSum iM_leastOrder rM_often iM_setMany iM_someOf iM_allOf iM_allWeight iM_enoughWeight iM_worthSum iM_firstRest iM_leastDrawn), (arI rM_letters kM_letters 8 fM_letters)]) hD hS hA [0, 1] rfl
              refine va_calli (va_runV (As := [.ref sa_5019]) (rest := []) ⟨hx, hb, hml, hown, hts⟩ (tX7_isWord l dC dI _ oM iM_thrown rM_tape iM_taped iM_size iM_at iM_end iM_token iM_whole iM_nameSize iM_fault iM_place iM_trouble rM_letters fM_letters kM_letters iM_failed iM_hasCourt rM_r rM_fresh rM_told rM_read rM_st rM_undone rM_kept iM_undos iM_images rM_fresher iM_fresherSize iM_scale iM_night rM_heardRow rM_cutRow iM_breaths iM_cutMany iM_allBreaths rM_trial rM_words iM_fewestBreaths iM_orderMany iM_orderSum iM_leastOrder rM_often iM_setMany iM_someOf iM_allOf iM_allWeight iM_enoughWeight iM_worthSum iM_firstRest iM_leastDrawn sa_5019 vsa_5019 nsa_5019 fsa_5019 (by first | omega | decide) (by first | omega | decide) (by first | omega | decide) (by first | omega | decide) (by first | omega | decide) (by first | omega | decide) (by first | omega | decide) (by first | omega | decide) (by first | omega | decide) (by first | omega | decide) (by first | omega | decide) (by first | assumption | exact (fun h9 => by have q0 := kc_0; have q1 := kc_1; omega)) (by first | omega | decide | assumption | (have q0 := kc_0; have q1 := kc_1; omega) | (intro h; exact absurd h (by decide)))) (cwV 1 hts (wd_V wd_420 wd_421 wd_422 wd_5 (wd_c wd_423)) rfl rfl rfl (by decide +kernel) ⟨Nat.le_of_ble_eq_true rfl, Nat.le_of_ble_eq_true rfl⟩) ⟨Pq.fb, va_recv hK hP (ci := 7) (q0 := 0) rfl rfl, fun U hU hW => Pq.to (hP.sub [0, 1] rfl) (hD.sub [0, 1] (by decide) rfl) (hK.sub [0] rfl) hSsa_5019 hE hS hFc hU hW⟩ rfl rfl hl.1 rfl (lv_room (Nat.le_of_ble_eq_true rfl)) dX7_mustName_56 ⟨Nat.le_of_ble_eq_true rfl, Nat.le_of_ble_eq_true rfl⟩) hS (fun q _ h => hFc q h) hFc (fun r u t H locs ht hvm hw hB hz1 hk1 hS => ?_)
              have hru9 := hw.2
              have hw := hw.1
              obtain ⟨hP, hD, hK⟩ := Bw.go (ws' := [(oc7 oM iM_thrown rM_tape iM_taped iM_size iM_at iM_end iM_token iM_whole iM_nameSize iM_fault iM_place iM_trouble rM_letters iM_failed iM_hasCourt rM_r rM_fresh rM_told rM_read rM_st rM_undone rM_kept iM_undos iM_images rM_fresher iM_fresherSize iM_scale iM_night rM_heardRow rM_cutRow iM_breaths iM_cutMany iM_allBreaths rM_trial rM_words iM_fewestBreaths iM_orderMany iM_orderSum iM_leastOrder rM_often iM_setMany iM_someOf iM_allOf iM_allWeight iM_enoughWeight iM_worthSum iM_firstRest iM_leastDrawn), (arI rM_letters kM_letters 8 fM_letters)]) (tys' := [(kM_letters, .int)]) hB rfl ht hvm hP hD hK [0, 1] [] rfl (by decide) (by decide) [] hk1 hFc rfl rfl rfl
              clear hz1 hk1 hvm ht hB
              obtain ⟨x_5020, rfl⟩ : ∃ z, z = r := ⟨_, rfl⟩
              have hG := hG.trans (lt_eq hru9.symm)
              have bx_5020 := hw.1
              have dx_5020 := bz_ti bx_5020
              have lx_5020 := hw.2
              refine lv_if_ne (tgt := 80) hx hb dX7_mustName_59 (by decide) (fun c_5021 => ?_) (fun c_5021 => ?_)
              · skip
                have hG := hG.trans (if_neg c_5021)
                have gc_5021 := ti_ne c_5021 rfl kc_0
                replace gc_5021 : (-1) * x_5020.toInt + 1 ≤ 0 := by omega
                have h_5022 := lx_5020 (by omega)
                clear lx_5020
                refine lv_aload_n hx hb dX7_mustName_80 rfl (lv_at hl 0 rfl) ?_
                refine lv_iconst (v := 1) hx hb dX7_mustName_81 (by decide) ?_
                refine lv_aload_n hx hb dX7_mustName_82 rfl (lv_at hl 0 rfl) ?_
                refine va_get (D := (dC, dI)) (ci := 7) (v := .int iM_at) (C := RX7) (T := TX7) (N := 48) hx hb hts inX7 hown hK hP 0 rfl rfl 4 (by decide) (hts _ wd_384) (fun _ h9 => h9) rfl dX7_mustName_83 ?_
                have hFc := va_free (wc := [(oc7 oM iM_thrown rM_tape iM_taped iM_size iM_at iM_end iM_token iM_whole iM_nameSize iM_fault iM_place iM_trouble rM_letters iM_failed iM_hasCourt rM_r rM_fresh rM_told rM_read rM_st rM_undone rM_kept iM_undos iM_images rM_fresher iM_fresherSize iM_scale iM_night rM_heardRow rM_cutRow iM_breaths iM_cutMany iM_allBreaths rM_trial rM_words iM_fewestBreaths iM_orderMany iM_orderSum iM_leastOrder rM_often iM_setMany iM_someOf iM_allOf iM_allWeight iM_enoughWeight iM_worthSum iM_firstRest iM_leastDrawn)]) hD hS hA [0] rfl
                refine va_callv (va_runV (As := [.int 1, .int iM_at]) (rest := []) ⟨hx, hb, hml, hown, hts⟩ (tX7_wrong l dC dI _ oM iM_thrown rM_tape iM_taped iM_size iM_at iM_end iM_token iM_whole iM_nameSize iM_fault iM_place iM_trouble rM_letters iM_failed iM_hasCourt rM_r rM_fresh rM_told rM_read rM_st rM_undone rM_kept iM_undos iM_images rM_fresher iM_fresherSize iM_scale iM_night rM_heardRow rM_cutRow iM_breaths iM_cutMany iM_allBreaths rM_trial rM_words iM_fewestBreaths iM_orderMany iM_orderSum iM_leastOrder rM_often iM_setMany iM_someOf iM_allOf iM_allWeight iM_enoughWeight iM_worthSum iM_firstRest iM_leastDrawn 1 iM_at (by first | omega | decide) (by first | omega | decide) (by first | omega | decide) (by first | omega | decide) (by first | omega | decide) (by first | omega | decide) (by first | omega | decide) (by first | omega | decide) (by first | omega | decide) (by first | omega | decide) (by first | omega | decide) (by first | assumption | exact (fun h9 => by have q0 := kc_0; have q1 := kc_1; omega))) (cwV 2 hts (wd_V wd_430 wd_431 wd_432 wd_5 (wd_c wd_433)) rfl rfl rfl (by decide +kernel) ⟨Nat.le_of_ble_eq_true rfl, Nat.le_of_ble_eq_true rfl⟩) ⟨Pw.fb, va_recv hK hP (ci := 7) (q0 := 0) rfl rfl, fun U hU hW => Pw.to (hP.sub [0] rfl) (hD.sub [0] (by decide) rfl) (hK.sub [] rfl) hE hS hFc hU hW⟩ rfl rfl hl.1 rfl (lv_room (Nat.le_of_ble_eq_true rfl)) dX7_mustName_86 ⟨Nat.le_of_ble_eq_true rfl, Nat.le_of_ble_eq_true rfl⟩) hS (fun q _ h => hFc q h) hFc (fun u t H locs ht hvm hw hB hz1 hk1 hS => ?_)
                obtain ⟨x_5023, x_5024, x_5025, b_x_5025, e_x_5023_0, e_x_5023_1, hB⟩ := hB
                obtain ⟨hP, hD, hK⟩ := Bw.go (ws' := [(arI rM_letters kM_letters 8 fM_letters), (oc7 oM iM_thrown rM_tape iM_taped iM_size iM_at iM_end iM_token iM_whole iM_nameSize x_5023 x_5024 iM_trouble rM_letters x_5025 iM_hasCourt rM_r rM_fresh rM_told rM_read rM_st rM_undone rM_kept iM_undos iM_images rM_fresher iM_fresherSize iM_scale iM_night rM_heardRow rM_cutRow iM_breaths iM_cutMany iM_allBreaths rM_trial rM_words iM_fewestBreaths iM_orderMany iM_orderSum iM_leastOrder rM_often iM_setMany iM_someOf iM_allOf iM_allWeight iM_enoughWeight iM_worthSum iM_firstRest iM_leastDrawn)]) (tys' := [(kM_letters, .int)]) hB rfl ht hvm hP hD hK [0] [1] rfl (by decide) (by decide) [0] hk1 hFc rfl rfl rfl
                clear hz1 hk1 hvm ht hB
                have hG := hG.trans (un3_eq e_x_5023_1)
                exact W.vret hx hb hr (fun t ht hW => ⟨⟨0, rfl, trivial, ⟨x_5023, x_5024, x_5025, b_x_5025, (by first | assumption | (have q0 := kc_0; have q1 := kc_1; omega)), (by first | assumption | exact (fun h9 => by have q0 := kc_0; have q1 := kc_1; omega)), hG, Bw.to (hP.sub [1, 0] rfl) (hD.sub [1, 0] (by decide) rfl) (hK.sub [0] rfl) ht hW⟩⟩, hS.F ht⟩) hS.2.2 dX7_mustName_89
              · skip
                have hG := hG.trans (if_pos c_5021)
                have gc_5021 := ti_eq c_5021 rfl kc_0
                clear lx_5020
                refine lv_aload_n hx hb dX7_mustName_62 rfl (lv_at hl 0 rfl) ?_
                obtain ⟨sa_5026, vsa_5026, nsa_5026, fsa_5026, hnsa_5026, hnesa_5026, hfesa_5026, hRsa_5026, hSsa_5026⟩ := hE.2.2.1 (146, "unsure", [117, 110, 115, 117, 114, 101]) (by decide)
                have hG := hG.trans (lt_eq hnesa_5026)
                have hG := hG.trans (lt_eq hfesa_5026)
                refine va_ldcS hx hb hown hRsa_5026 dX7_mustName_63 ?_
                have hFc := va_free (wc := [(oc7 oM iM_thrown rM_tape iM_taped iM_size iM_at iM_end iM_token iM_whole iM_nameSize iM_fault iM_place iM_trouble rM_letters iM_failed iM_hasCourt rM_r rM_fresh rM_told rM_read rM_st rM_undone rM_kept iM_undos iM_images rM_fresher iM_fresherSize iM_scale iM_night rM_heardRow rM_cutRow iM_breaths iM_cutMany iM_allBreaths rM_trial rM_words iM_fewestBreaths iM_orderMany iM_orderSum iM_leastOrder rM_often iM_setMany iM_someOf iM_allOf iM_allWeight iM_enoughWeight iM_worthSum iM_firstRest iM_leastDrawn), (arI rM_letters kM_letters 8 fM_letters)]) hD hS hA [0, 1] rfl
                refine va_calli (va_runV (As := [.ref sa_5026]) (rest := []) ⟨hx, hb, hml, hown, hts⟩ (tX7_isWord l dC dI _ oM iM_thrown rM_tape iM_taped iM_size iM_at iM_end iM_token iM_whole iM_nameSize iM_fault iM_place iM_trouble rM_letters fM_letters kM_letters iM_failed iM_hasCourt rM_r rM_fresh rM_told rM_read rM_st rM_undone rM_kept iM_undos iM_images rM_fresher iM_fresherSize iM_scale iM_night rM_heardRow rM_cutRow iM_breaths iM_cutMany iM_allBreaths rM_trial rM_words iM_fewestBreaths iM_orderMany iM_orderSum iM_leastOrder rM_often iM_setMany iM_someOf iM_allOf iM_allWeight iM_enoughWeight iM_worthSum iM_firstRest iM_leastDrawn sa_5026 vsa_5026 nsa_5026 fsa_5026 (by first | omega | decide) (by first | omega | decide) (by first | omega | decide) (by first | omega | decide) (by first | omega | decide) (by first | omega | decide) (by first | omega | decide) (by first | omega | decide) (by first | omega | decide) (by first | omega | decide) (by first | omega | decide) (by first | assumption | exact (fun h9 => by have q0 := kc_0; have q1 := kc_1; omega)) (by first | omega | decide | assumption | (have q0 := kc_0; have q1 := kc_1; omega) | (intro h; exact absurd h (by decide)))) (cwV 1 hts (wd_V wd_420 wd_421 wd_422 wd_5 (wd_c wd_423)) rfl rfl rfl (by decide +kernel) ⟨Nat.le_of_ble_eq_true rfl, Nat.le_of_ble_eq_true rfl⟩) ⟨Pq.fb, va_recv hK hP (ci := 7) (q0 := 0) rfl rfl, fun U hU hW => Pq.to (hP.sub [0, 1] rfl) (hD.sub [0, 1] (by decide) rfl) (hK.sub [0] rfl) hSsa_5026 hE hS hFc hU hW⟩ rfl rfl hl.1 rfl (lv_room (Nat.le_of_ble_eq_true rfl)) dX7_mustName_65 ⟨Nat.le_of_ble_eq_true rfl, Nat.le_of_ble_eq_true rfl⟩) hS (fun q _ h => hFc q h) hFc (fun r u t H locs ht hvm hw hB hz1 hk1 hS => ?_)
                have hru9 := hw.2
                have hw := hw.1
                obtain ⟨hP, hD, hK⟩ := Bw.go (ws' := [(oc7 oM iM_thrown rM_tape iM_taped iM_size iM_at iM_end iM_token iM_whole iM_nameSize iM_fault iM_place iM_trouble rM_letters iM_failed iM_hasCourt rM_r rM_fresh rM_told rM_read rM_st rM_undone rM_kept iM_undos iM_images rM_fresher iM_fresherSize iM_scale iM_night rM_heardRow rM_cutRow iM_breaths iM_cutMany iM_allBreaths rM_trial rM_words iM_fewestBreaths iM_orderMany iM_orderSum iM_leastOrder rM_often iM_setMany iM_someOf iM_allOf iM_allWeight iM_enoughWeight iM_worthSum iM_firstRest iM_leastDrawn), (arI rM_letters kM_letters 8 fM_letters)]) (tys' := [(kM_letters, .int)]) hB rfl ht hvm hP hD hK [0, 1] [] rfl (by decide) (by decide) [] hk1 hFc rfl rfl rfl
                clear hz1 hk1 hvm ht hB
                obtain ⟨x_5027, rfl⟩ : ∃ z, z = r := ⟨_, rfl⟩
                have hG := hG.trans (lt_eq hru9.symm)
                have bx_5027 := hw.1
                have dx_5027 := bz_ti bx_5027
                have lx_5027 := hw.2
                refine lv_if_ne (tgt := 80) hx hb dX7_mustName_68 (by decide) (fun c_5028 => ?_) (fun c_5028 => ?_)
                · skip
                  have hG := hG.trans (if_neg c_5028)
                  have gc_5028 := ti_ne c_5028 rfl kc_0
                  replace gc_5028 : (-1) * x_5027.toInt + 1 ≤ 0 := by omega
                  have h_5029 := lx_5027 (by omega)
                  clear lx_5027
                  refine lv_aload_n hx hb dX7_mustName_80 rfl (lv_at hl 0 rfl) ?_
                  refine lv_iconst (v := 1) hx hb dX7_mustName_81 (by decide) ?_
                  refine lv_aload_n hx hb dX7_mustName_82 rfl (lv_at hl 0 rfl) ?_
                  refine va_get (D := (dC, dI)) (ci := 7) (v := .int iM_at) (C := RX7) (T := TX7) (N := 48) hx hb hts inX7 hown hK hP 0 rfl rfl 4 (by decide) (hts _ wd_384) (fun _ h9 => h9) rfl dX7_mustName_83 ?_
                  have hFc := va_free (wc := [(oc7 oM iM_thrown rM_tape iM_taped iM_size iM_at iM_end iM_token iM_whole iM_nameSize iM_fault iM_place iM_trouble rM_letters iM_failed iM_hasCourt rM_r rM_fresh rM_told rM_read rM_st rM_undone rM_kept iM_undos iM_images rM_fresher iM_fresherSize iM_scale iM_night rM_heardRow rM_cutRow iM_breaths iM_cutMany iM_allBreaths rM_trial rM_words iM_fewestBreaths iM_orderMany iM_orderSum iM_leastOrder rM_often iM_setMany iM_someOf iM_allOf iM_allWeight iM_enoughWeight iM_worthSum iM_firstRest iM_leastDrawn)]) hD hS hA [0] rfl
                  refine va_callv (va_runV (As := [.int 1, .int iM_at]) (rest := []) ⟨hx, hb, hml, hown, hts⟩ (tX7_wrong l dC dI _ oM iM_thrown rM_tape iM_taped iM_size iM_at iM_end iM_token iM_whole iM_nameSize iM_fault iM_place iM_trouble rM_letters iM_failed iM_hasCourt rM_r rM_fresh rM_told rM_read rM_st rM_undone rM_kept iM_undos iM_images rM_fresher iM_fresherSize iM_scale iM_night rM_heardRow rM_cutRow iM_breaths iM_cutMany iM_allBreaths rM_trial rM_words iM_fewestBreaths iM_orderMany iM_orderSum iM_leastOrder rM_often iM_setMany iM_someOf iM_allOf iM_allWeight iM_enoughWeight iM_worthSum iM_firstRest iM_leastDrawn 1 iM_at (by first | omega | decide) (by first | omega | decide) (by first | omega | decide) (by first | omega | decide) (by first | omega | decide) (by first | omega | decide) (by first | omega | decide) (by first | omega | decide) (by first | omega | decide) (by first | omega | decide) (by first | omega | decide) (by first | assumption | exact (fun h9 => by have q0 := kc_0; have q1 := kc_1; omega))) (cwV 2 hts (wd_V wd_430 wd_431 wd_432 wd_5 (wd_c wd_433)) rfl rfl rfl (by decide +kernel) ⟨Nat.le_of_ble_eq_true rfl, Nat.le_of_ble_eq_true rfl⟩) ⟨Pw.fb, va_recv hK hP (ci := 7) (q0 := 0) rfl rfl, fun U hU hW => Pw.to (hP.sub [0] rfl) (hD.sub [0] (by decide) rfl) (hK.sub [] rfl) hE hS hFc hU hW⟩ rfl rfl hl.1 rfl (lv_room (Nat.le_of_ble_eq_true rfl)) dX7_mustName_86 ⟨Nat.le_of_ble_eq_true rfl, Nat.le_of_ble_eq_true rfl⟩) hS (fun q _ h => hFc q h) hFc (fun u t H locs ht hvm hw hB hz1 hk1 hS => ?_)
                  obtain ⟨x_5030, x_5031, x_5032, b_x_5032, e_x_5030_0, e_x_5030_1, hB⟩ := hB
                  obtain ⟨hP, hD, hK⟩ := Bw.go (ws' := [(arI rM_letters kM_letters 8 fM_letters), (oc7 oM iM_thrown rM_tape iM_taped iM_size iM_at iM_end iM_token iM_whole iM_nameSize x_5030 x_5031 iM_trouble rM_letters x_5032 iM_hasCourt rM_r rM_fresh rM_told rM_read rM_st rM_undone rM_kept iM_undos iM_images rM_fresher iM_fresherSize iM_scale iM_night rM_heardRow rM_cutRow iM_breaths iM_cutMany iM_allBreaths rM_trial rM_words iM_fewestBreaths iM_orderMany iM_orderSum iM_leastOrder rM_often iM_setMany iM_someOf iM_allOf iM_allWeight iM_enoughWeight iM_worthSum iM_firstRest iM_leastDrawn)]) (tys' := [(kM_letters, .int)]) hB rfl ht hvm hP hD hK [0] [1] rfl (by decide) (by decide) [0] hk1 hFc rfl rfl rfl
                  clear hz1 hk1 hvm ht hB
                  have hG := hG.trans (un3_eq e_x_5030_1)
                  exact W.vret hx hb hr (fun t ht hW => ⟨⟨0, rfl, trivial, ⟨x_5030, x_5031, x_5032, b_x_5032, (by first | assumption | (have q0 := kc_0; have q1 := kc_1; omega)), (by first | assumption | exact (fun h9 => by have q0 := kc_0; have q1 := kc_1; omega)), hG, Bw.to (hP.sub [1, 0] rfl) (hD.sub [1, 0] (by decide) rfl) (hK.sub [0] rfl) ht hW⟩⟩, hS.F ht⟩) hS.2.2 dX7_mustName_89
                · skip
                  have hG := hG.trans (if_pos c_5028)
                  have gc_5028 := ti_eq c_5028 rfl kc_0
                  clear lx_5027
                  refine lv_aload_n hx hb dX7_mustName_71 rfl (lv_at hl 0 rfl) ?_
                  obtain ⟨sa_5033, vsa_5033, nsa_5033, fsa_5033, hnsa_5033, hnesa_5033, hfesa_5033, hRsa_5033, hSsa_5033⟩ := hE.2.2.1 (148, "said", [115, 97, 105, 100]) (by decide)
                  have hG := hG.trans (lt_eq hnesa_5033)
                  have hG := hG.trans (lt_eq hfesa_5033)
                  refine va_ldcS hx hb hown hRsa_5033 dX7_mustName_72 ?_
                  have hFc := va_free (wc := [(oc7 oM iM_thrown rM_tape iM_taped iM_size iM_at iM_end iM_token iM_whole iM_nameSize iM_fault iM_place iM_trouble rM_letters iM_failed iM_hasCourt rM_r rM_fresh rM_told rM_read rM_st rM_undone rM_kept iM_undos iM_images rM_fresher iM_fresherSize iM_scale iM_night rM_heardRow rM_cutRow iM_breaths iM_cutMany iM_allBreaths rM_trial rM_words iM_fewestBreaths iM_orderMany iM_orderSum iM_leastOrder rM_often iM_setMany iM_someOf iM_allOf iM_allWeight iM_enoughWeight iM_worthSum iM_firstRest iM_leastDrawn), (arI rM_letters kM_letters 8 fM_letters)]) hD hS hA [0, 1] rfl
                  refine va_calli (va_runV (As := [.ref sa_5033]) (rest := []) ⟨hx, hb, hml, hown, hts⟩ (tX7_isWord l dC dI _ oM iM_thrown rM_tape iM_taped iM_size iM_at iM_end iM_token iM_whole iM_nameSize iM_fault iM_place iM_trouble rM_letters fM_letters kM_letters iM_failed iM_hasCourt rM_r rM_fresh rM_told rM_read rM_st rM_undone rM_kept iM_undos iM_images rM_fresher iM_fresherSize iM_scale iM_night rM_heardRow rM_cutRow iM_breaths iM_cutMany iM_allBreaths rM_trial rM_words iM_fewestBreaths iM_orderMany iM_orderSum iM_leastOrder rM_often iM_setMany iM_someOf iM_allOf iM_allWeight iM_enoughWeight iM_worthSum iM_firstRest iM_leastDrawn sa_5033 vsa_5033 nsa_5033 fsa_5033 (by first | omega | decide) (by first | omega | decide) (by first | omega | decide) (by first | omega | decide) (by first | omega | decide) (by first | omega | decide) (by first | omega | decide) (by first | omega | decide) (by first | omega | decide) (by first | omega | decide) (by first | omega | decide) (by first | assumption | exact (fun h9 => by have q0 := kc_0; have q1 := kc_1; omega)) (by first | omega | decide | assumption | (have q0 := kc_0; have q1 := kc_1; omega) | (intro h; exact absurd h (by decide)))) (cwV 1 hts (wd_V wd_420 wd_421 wd_422 wd_5 (wd_c wd_423)) rfl rfl rfl (by decide +kernel) ⟨Nat.le_of_ble_eq_true rfl, Nat.le_of_ble_eq_true rfl⟩) ⟨Pq.fb, va_recv hK hP (ci := 7) (q0 := 0) rfl rfl, fun U hU hW => Pq.to (hP.sub [0, 1] rfl) (hD.sub [0, 1] (by decide) rfl) (hK.sub [0] rfl) hSsa_5033 hE hS hFc hU hW⟩ rfl rfl hl.1 rfl (lv_room (Nat.le_of_ble_eq_true rfl)) dX7_mustName_74 ⟨Nat.le_of_ble_eq_true rfl, Nat.le_of_ble_eq_true rfl⟩) hS (fun q _ h => hFc q h) hFc (fun r u t H locs ht hvm hw hB hz1 hk1 hS => ?_)
                  have hru9 := hw.2
                  have hw := hw.1
                  obtain ⟨hP, hD, hK⟩ := Bw.go (ws' := [(oc7 oM iM_thrown rM_tape iM_taped iM_size iM_at iM_end iM_token iM_whole iM_nameSize iM_fault iM_place iM_trouble rM_letters iM_failed iM_hasCourt rM_r rM_fresh rM_told rM_read rM_st rM_undone rM_kept iM_undos iM_images rM_fresher iM_fresherSize iM_scale iM_night rM_heardRow rM_cutRow iM_breaths iM_cutMany iM_allBreaths rM_trial rM_words iM_fewestBreaths iM_orderMany iM_orderSum iM_leastOrder rM_often iM_setMany iM_someOf iM_allOf iM_allWeight iM_enoughWeight iM_worthSum iM_firstRest iM_leastDrawn), (arI rM_letters kM_letters 8 fM_letters)]) (tys' := [(kM_letters, .int)]) hB rfl ht hvm hP hD hK [0, 1] [] rfl (by decide) (by decide) [] hk1 hFc rfl rfl rfl
                  clear hz1 hk1 hvm ht hB
                  obtain ⟨x_5034, rfl⟩ : ∃ z, z = r := ⟨_, rfl⟩
                  have hG := hG.trans (lt_eq hru9.symm)
                  have bx_5034 := hw.1
                  have dx_5034 := bz_ti bx_5034
                  have lx_5034 := hw.2
                  refine lv_if_eq (tgt := 89) hx hb dX7_mustName_77 (by decide) (fun c_5035 => ?_) (fun c_5035 => ?_)
                  · skip
                    have hG := hG.trans (if_pos c_5035)
                    have gc_5035 := ti_eq c_5035 rfl kc_0
                    clear lx_5034
                    exact W.vret hx hb hr (fun t ht hW => ⟨⟨0, rfl, trivial, ⟨iM_fault, iM_place, iM_failed, (by omega), (by first | assumption | (have q0 := kc_0; have q1 := kc_1; omega)), (by first | assumption | exact (fun h9 => by have q0 := kc_0; have q1 := kc_1; omega)), hG, Bw.to (hP.sub [0, 1] rfl) (hD.sub [0, 1] (by decide) rfl) (hK.sub [0] rfl) ht hW⟩⟩, hS.F ht⟩) hS.2.2 dX7_mustName_89
                  · skip
                    have hG := hG.trans (if_neg c_5035)
                    have gc_5035 := ti_ne c_5035 rfl kc_0
                    replace gc_5035 : (-1) * x_5034.toInt + 1 ≤ 0 := by omega
                    have h_5036 := lx_5034 (by omega)
                    clear lx_5034
                    refine lv_aload_n hx hb dX7_mustName_80 rfl (lv_at hl 0 rfl) ?_
                    refine lv_iconst (v := 1) hx hb dX7_mustName_81 (by decide) ?_
                    refine lv_aload_n hx hb dX7_mustName_82 rfl (lv_at hl 0 rfl) ?_
                    refine va_get (D := (dC, dI)) (ci := 7) (v := .int iM_at) (C := RX7) (T := TX7) (N := 48) hx hb hts inX7 hown hK hP 0 rfl rfl 4 (by decide) (hts _ wd_384) (fun _ h9 => h9) rfl dX7_mustName_83 ?_
                    have hFc := va_free (wc := [(oc7 oM iM_thrown rM_tape iM_taped iM_size iM_at iM_end iM_token iM_whole iM_nameSize iM_fault iM_place iM_trouble rM_letters iM_failed iM_hasCourt rM_r rM_fresh rM_told rM_read rM_st rM_undone rM_kept iM_undos iM_images rM_fresher iM_fresherSize iM_scale iM_night rM_heardRow rM_cutRow iM_breaths iM_cutMany iM_allBreaths rM_trial rM_words iM_fewestBreaths iM_orderMany iM_orderSum iM_leastOrder rM_often iM_setMany iM_someOf iM_allOf iM_allWeight iM_enoughWeight iM_worthSum iM_firstRest iM_leastDrawn)]) hD hS hA [0] rfl
                    refine va_callv (va_runV (As := [.int 1, .int iM_at]) (rest := []) ⟨hx, hb, hml, hown, hts⟩ (tX7_wrong l dC dI _ oM iM_thrown rM_tape iM_taped iM_size iM_at iM_end iM_token iM_whole iM_nameSize iM_fault iM_place iM_trouble rM_letters iM_failed iM_hasCourt rM_r rM_fresh rM_told rM_read rM_st rM_undone rM_kept iM_undos iM_images rM_fresher iM_fresherSize iM_scale iM_night rM_heardRow rM_cutRow iM_breaths iM_cutMany iM_allBreaths rM_trial rM_words iM_fewestBreaths iM_orderMany iM_orderSum iM_leastOrder rM_often iM_setMany iM_someOf iM_allOf iM_allWeight iM_enoughWeight iM_worthSum iM_firstRest iM_leastDrawn 1 iM_at (by first | omega | decide) (by first | omega | decide) (by first | omega | decide) (by first | omega | decide) (by first | omega | decide) (by first | omega | decide) (by first | omega | decide) (by first | omega | decide) (by first | omega | decide) (by first | omega | decide) (by first | omega | decide) (by first | assumption | exact (fun h9 => by have q0 := kc_0; have q1 := kc_1; omega))) (cwV 2 hts (wd_V wd_430 wd_431 wd_432 wd_5 (wd_c wd_433)) rfl rfl rfl (by decide +kernel) ⟨Nat.le_of_ble_eq_true rfl, Nat.le_of_ble_eq_true rfl⟩) ⟨Pw.fb, va_recv hK hP (ci := 7) (q0 := 0) rfl rfl, fun U hU hW => Pw.to (hP.sub [0] rfl) (hD.sub [0] (by decide) rfl) (hK.sub [] rfl) hE hS hFc hU hW⟩ rfl rfl hl.1 rfl (lv_room (Nat.le_of_ble_eq_true rfl)) dX7_mustName_86 ⟨Nat.le_of_ble_eq_true rfl, Nat.le_of_ble_eq_true rfl⟩) hS (fun q _ h => hFc q h) hFc (fun u t H locs ht hvm hw hB hz1 hk1 hS => ?_)
                    obtain ⟨x_5037, x_5038, x_5039, b_x_5039, e_x_5037_0, e_x_5037_1, hB⟩ := hB
                    obtain ⟨hP, hD, hK⟩ := Bw.go (ws' := [(arI rM_letters kM_letters 8 fM_letters), (oc7 oM iM_thrown rM_tape iM_taped iM_size iM_at iM_end iM_token iM_whole iM_nameSize x_5037 x_5038 iM_trouble rM_letters x_5039 iM_hasCourt rM_r rM_fresh rM_told rM_read rM_st rM_undone rM_kept iM_undos iM_images rM_fresher iM_fresherSize iM_scale iM_night rM_heardRow rM_cutRow iM_breaths iM_cutMany iM_allBreaths rM_trial rM_words iM_fewestBreaths iM_orderMany iM_orderSum iM_leastOrder rM_often iM_setMany iM_someOf iM_allOf iM_allWeight iM_enoughWeight iM_worthSum iM_firstRest iM_leastDrawn)]) (tys' := [(kM_letters, .int)]) hB rfl ht hvm hP hD hK [0] [1] rfl (by decide) (by decide) [0] hk1 hFc rfl rfl rfl
                    clear hz1 hk1 hvm ht hB
                    have hG := hG.trans (un3_eq e_x_5037_1)
                    exact W.vret hx hb hr (fun t ht hW => ⟨⟨0, rfl, trivial, ⟨x_5037, x_5038, x_5039, b_x_5039, (by first | assumption | (have q0 := kc_0; have q1 := kc_1; omega)), (by first | assumption | exact (fun h9 => by have q0 := kc_0; have q1 := kc_1; omega)), hG, Bw.to (hP.sub [1, 0] rfl) (hD.sub [1, 0] (by decide) rfl) (hK.sub [0] rfl) ht hW⟩⟩, hS.F ht⟩) hS.2.2 dX7_mustName_89
set_option maxHeartbeats 4000000 in
set_option maxRecDepth 100000 in
theorem tX7_find (l : Launch) (dC : Nat → ClassId) (dI : Nat → Nat → Nat) (sz : Nat) (oM : Nat) (iM_thrown : Int32) (rM_tape : Nat) (iM_taped : Int32) (iM_size : Int32) (iM_at : Int32) (iM_end : Int32) (iM_token : Int32) (iM_whole : Int32) (iM_nameSize : Int32) (iM_fault : Int32) (iM_place : Int32) (iM_trouble : Int32) (rM_letters : Nat) (fM_letters : Nat → Int32) (kM_letters : ClassId) (iM_failed : Int32) (iM_hasCourt : Int32) (rM_r : Nat) (rM_fresh : Nat) (fM_fresh : Nat → Int32) (kM_fresh : ClassId) (rM_told : Nat) (rM_read : Nat) (fM_read : Nat → Int32) (kM_read : ClassId) (rM_st : Nat) (rM_undone : Nat) (rM_kept : Nat) (iM_undos : Int32) (iM_images : Int32) (rM_fresher : Nat) (iM_fresherSize : Int32) (iM_scale : Int32) (iM_night : Int32) (rM_heardRow : Nat) (rM_cutRow : Nat) (iM_breaths : Int32) (iM_cutMany : Int32) (iM_allBreaths : Int32) (rM_trial : Nat) (rM_words : Nat) (iM_fewestBreaths : Int32) (iM_orderMany : Int32) (iM_orderSum : Int32) (iM_leastOrder : Int32) (rM_often : Nat) (iM_setMany : Int32) (iM_someOf : Int32) (iM_allOf : Int32) (iM_allWeight : Int64) (iM_enoughWeight : Int64) (iM_worthSum : Int64) (iM_firstRest : Int32) (iM_leastDrawn : Int32) (b_iM_taped : 0 ≤ iM_taped.toInt ∧ iM_taped.toInt ≤ 900) (b_iM_size : 0 ≤ iM_size.toInt ∧ iM_size.toInt ≤ 900) (b_iM_end : 0 ≤ iM_end.toInt ∧ iM_end.toInt ≤ 900) (b_iM_nameSize : 0 ≤ iM_nameSize.toInt ∧ iM_nameSize.toInt ≤ 900) (b_iM_failed : 0 ≤ iM_failed.toInt ∧ iM_failed.toInt ≤ 1) (b_iM_hasCourt : 0 ≤ iM_hasCourt.toInt ∧ iM_hasCourt.toInt ≤ 1) (b_iM_undos : 0 ≤ iM_undos.toInt ∧ iM_undos.toInt ≤ 16) (b_iM_images : 0 ≤ iM_images.toInt ∧ iM_images.toInt ≤ 3) (b_iM_scale : 1 ≤ iM_scale.toInt ∧ iM_scale.toInt ≤ 1296) (b_iM_breaths : 0 ≤ iM_breaths.toInt ∧ iM_breaths.toInt ≤ 399) (b_iM_cutMany : 0 ≤ iM_cutMany.toInt ∧ iM_cutMany.toInt ≤ 399) (r_T : ImpP (iM_token.toInt = 2) (iM_nameSize.toInt ≤ 8)) (r_P : POk fM_fresh fM_read) (hns : iM_nameSize.toInt ≤ 8) : Met l yX7_find (Cond.code yX7_find cX7_find 4 (some .int) :: wG) ({ frames := 0, cells := 0, slots := 0, locals := 0 }) (va_Pc [.ref oM] (Pw dC dI sz [(oc7 oM iM_thrown rM_tape iM_taped iM_size iM_at iM_end iM_token iM_whole iM_nameSize iM_fault iM_place iM_trouble rM_letters iM_failed iM_hasCourt rM_r rM_fresh rM_told rM_read rM_st rM_undone rM_kept iM_undos iM_images rM_fresher iM_fresherSize iM_scale iM_night rM_heardRow rM_cutRow iM_breaths iM_cutMany iM_allBreaths rM_trial rM_words iM_fewestBreaths iM_orderMany iM_orderSum iM_leastOrder rM_often iM_setMany iM_someOf iM_allOf iM_allWeight iM_enoughWeight iM_worthSum iM_firstRest iM_leastDrawn), (arI rM_letters kM_letters 8 fM_letters), (arI rM_fresh kM_fresh 287 fM_fresh), (arI rM_read kM_read 90 fM_read)] [(kM_letters, .int), (kM_fresh, .int), (kM_read, .int)])) (va_Qi (fun (r : Int32) (_ : Nat) => (True ∧ (-1 ≤ r.toInt ∧ r.toInt < (fM_fresh 1).toInt ∧ r.toInt ≤ 17)) ∧ PX7_find iM_nameSize fM_letters fM_fresh = r) (fun (_ : Nat) (t : State) => Bw dC dI (va_A [(oc7 oM iM_thrown rM_tape iM_taped iM_size iM_at iM_end iM_token iM_whole iM_nameSize iM_fault iM_place iM_trouble rM_letters iM_failed iM_hasCourt rM_r rM_fresh rM_told rM_read rM_st rM_undone rM_kept iM_undos iM_images rM_fresher iM_fresherSize iM_scale iM_night rM_heardRow rM_cutRow iM_breaths iM_cutMany iM_allBreaths rM_trial rM_words iM_fewestBreaths iM_orderMany iM_orderSum iM_leastOrder rM_often iM_setMany iM_someOf iM_allOf iM_allWeight iM_enoughWeight iM_worthSum iM_firstRest iM_leastDrawn), (arI rM_letters kM_letters 8 fM_letters), (arI rM_fresh kM_fresh 287 fM_fresh), (arI rM_read kM_read 90 fM_read)] sz) [(oc7 oM iM_thrown rM_tape iM_taped iM_size iM_at iM_end iM_token iM_whole iM_nameSize iM_fault iM_place iM_trouble rM_letters iM_failed iM_hasCourt rM_r rM_fresh rM_told rM_read rM_st rM_undone rM_kept iM_undos iM_images rM_fresher iM_fresherSize iM_scale iM_night rM_heardRow rM_cutRow iM_breaths iM_cutMany iM_allBreaths rM_trial rM_words iM_fewestBreaths iM_orderMany iM_orderSum iM_leastOrder rM_often iM_setMany iM_someOf iM_allOf iM_allWeight iM_enoughWeight iM_worthSum iM_firstRest iM_leastDrawn), (arI rM_letters kM_letters 8 fM_letters), (arI rM_fresh kM_fresh 287 fM_fresh), (arI rM_read kM_read 90 fM_read)] [(kM_letters, .int), (kM_fresh, .int), (kM_read, .int)] t) (va_A [(oc7 oM iM_thrown rM_tape iM_taped iM_size iM_at iM_end iM_token iM_whole iM_nameSize iM_fault iM_place iM_trouble rM_letters iM_failed iM_hasCourt rM_r rM_fresh rM_told rM_read rM_st rM_undone rM_kept iM_undos iM_images rM_fresher iM_fresherSize iM_scale iM_night rM_heardRow rM_cutRow iM_breaths iM_cutMany iM_allBreaths rM_trial rM_words iM_fewestBreaths iM_orderMany iM_orderSum iM_leastOrder rM_often iM_setMany iM_someOf iM_allOf iM_allWeight iM_enoughWeight iM_worthSum iM_firstRest iM_leastDrawn), (arI rM_letters kM_letters 8 fM_letters), (arI rM_fresh kM_fresh 287 fM_fresh), (arI rM_read kM_read 90 fM_read)] sz)) 0 0 (va_A [(oc7 oM iM_thrown rM_tape iM_taped iM_size iM_at iM_end iM_token iM_whole iM_nameSize iM_fault iM_place iM_trouble rM_letters iM_failed iM_hasCourt rM_r rM_fresh rM_told rM_read rM_st rM_undone rM_kept iM_undos iM_images rM_fresher iM_fresherSize iM_scale iM_night rM_heardRow rM_cutRow iM_breaths iM_cutMany iM_allBreaths rM_trial rM_words iM_fewestBreaths iM_orderMany iM_orderSum iM_leastOrder rM_often iM_setMany iM_someOf iM_allOf iM_allWeight iM_enoughWeight iM_worthSum iM_firstRest iM_leastDrawn), (arI rM_letters kM_letters 8 fM_letters), (arI rM_fresh kM_fresh 287 fM_fresh), (arI rM_read kM_read 90 fM_read)] sz) := by
  refine Met.ofW (cc := cX7_find) (maxL := 4) (ret := (some .int)) (by decide) rfl ?_
  intro p e s m args below meth c s₁ B hml hv
  obtain ⟨rfl, hsz, hP, hK, hD0, hE⟩ := hv
  have hx := B.exec
  have hb := B.bytes
  have hr := B.returns
  have hts : ∀ w ∈ wG, w.before ([.ref oM] : List Value).toArray s = true := fun w h => atoms_spec (ws := Cond.code yX7_find cX7_find 4 (some .int) :: wG) B.pre w (List.mem_cons_of_mem _ h)
  have hown : s.vm.findClass RX7 = some m.cls := findClass_of_methodNamed B.named
  have hlocks := B.notSynchronized
  subst hsz
  have hD := hD0.self (sz := s.heap.size)
  generalize hAe : va_A [(oc7 oM iM_thrown rM_tape iM_taped iM_size iM_at iM_end iM_token iM_whole iM_nameSize iM_fault iM_place iM_trouble rM_letters iM_failed iM_hasCourt rM_r rM_fresh rM_told rM_read rM_st rM_undone rM_kept iM_undos iM_images rM_fresher iM_fresherSize iM_scale iM_night rM_heardRow rM_cutRow iM_breaths iM_cutMany iM_allBreaths rM_trial rM_words iM_fewestBreaths iM_orderMany iM_orderSum iM_leastOrder rM_often iM_setMany iM_someOf iM_allOf iM_allWeight iM_enoughWeight iM_worthSum iM_firstRest iM_leastDrawn), (arI rM_letters kM_letters 8 fM_letters), (arI rM_fresh kM_fresh 287 fM_fresh), (arI rM_read kM_read 90 fM_read)] s.heap.size = A at hD hE ⊢
  have hA : ∀ q : Nat, s.heap.size ≤ q → A q := fun q h => by rw [← hAe]; exact Or.inr h
  have hS : va_S A s.heap s.heap [] := va_S.rf
  have hl := lv_entry ([.ref oM]) (n := 4) (Nat.le_of_ble_eq_true rfl)
  rw [lg_entry_eq]
  generalize (lg_sl ([.ref oM]) ++ List.replicate (4 - (lg_sl ([.ref oM])).length) Slot.unset).toArray = ls at hl ⊢
  have hl : lv_has ls 4 [(0, .ref oM)] := hl
  have hG := PX7_find_eq iM_nameSize fM_letters fM_fresh
  have pl_fM_fresh := r_P.lins
  refine lv_iconst (v := 0) hx hb dX7_find_0 (by decide) ?_
  refine lv_istore_n (lv' := [(1, .int 0), (0, .ref oM)]) hx hb dX7_find_1 rfl hl (by decide) rfl (fun ls hl => ?_)
  have hl := lv_sub hl (l' := [(1, .int 0), (0, .ref oM)]) [0, 1] rfl
  have key_n_5109 : ∀ (n_5109 : Nat) (z_5108 : Int32) (H : Heap) (locs : List Loc) (ls : Array Slot), (0 ≤ z_5108.toInt ∧ z_5108.toInt ≤ 18) → (18 - z_5108.toInt).toNat < n_5109 → (PX7_find iM_nameSize fM_letters fM_fresh = HX7_find_0 iM_nameSize fM_letters fM_fresh n_5109 z_5108) → va_P (dC, dI) vwCl [(oc7 oM iM_thrown rM_tape iM_taped iM_size iM_at iM_end iM_token iM_whole iM_nameSize iM_fault iM_place iM_trouble rM_letters iM_failed iM_hasCourt rM_r rM_fresh rM_told rM_read rM_st rM_undone rM_kept iM_undos iM_images rM_fresher iM_fresherSize iM_scale iM_night rM_heardRow rM_cutRow iM_breaths iM_cutMany iM_allBreaths rM_trial rM_words iM_fewestBreaths iM_orderMany iM_orderSum iM_leastOrder rM_often iM_setMany iM_someOf iM_allOf iM_allWeight iM_enoughWeight iM_worthSum iM_firstRest iM_leastDrawn), (arI rM_letters kM_letters 8 fM_letters), (arI rM_fresh kM_fresh 287 fM_fresh), (arI rM_read kM_read 90 fM_read)] H → va_D A [(oc7 oM iM_thrown rM_tape iM_taped iM_size iM_at iM_end iM_token iM_whole iM_nameSize iM_fault iM_place iM_trouble rM_letters iM_failed iM_hasCourt rM_r rM_fresh rM_told rM_read rM_st rM_undone rM_kept iM_undos iM_images rM_fresher iM_fresherSize iM_scale iM_night rM_heardRow rM_cutRow iM_breaths iM_cutMany iM_allBreaths rM_trial rM_words iM_fewestBreaths iM_orderMany iM_orderSum iM_leastOrder rM_often iM_setMany iM_someOf iM_allOf iM_allWeight iM_enoughWeight iM_worthSum iM_firstRest iM_leastDrawn), (arI rM_letters kM_letters 8 fM_letters), (arI rM_fresh kM_fresh 287 fM_fresh), (arI rM_read kM_read 90 fM_read)] → va_S A s.heap H locs → lv_has ls 4 [(1, .int z_5108), (0, .ref oM)] → W p l e (headSpec (Cond.code yX7_find cX7_find 4 (some .int) :: wG) ({ frames := 0, cells := 0, slots := 0, locals := 0 })).room s m ([.ref oM] : List Value).toArray below meth c H locs 0 0 (MQ below (va_Qi (fun (r : Int32) (_ : Nat) => (True ∧ (-1 ≤ r.toInt ∧ r.toInt < (fM_fresh 1).toInt ∧ r.toInt ≤ 17)) ∧ PX7_find iM_nameSize fM_letters fM_fresh = r) (fun (_ : Nat) (t : State) => Bw dC dI A [(oc7 oM iM_thrown rM_tape iM_taped iM_size iM_at iM_end iM_token iM_whole iM_nameSize iM_fault iM_place iM_trouble rM_letters iM_failed iM_hasCourt rM_r rM_fresh rM_told rM_read rM_st rM_undone rM_kept iM_undos iM_images rM_fresher iM_fresherSize iM_scale iM_night rM_heardRow rM_cutRow iM_breaths iM_cutMany iM_allBreaths rM_trial rM_words iM_fewestBreaths iM_orderMany iM_orderSum iM_leastOrder rM_often iM_setMany iM_someOf iM_allOf iM_allWeight iM_enoughWeight iM_worthSum iM_firstRest iM_leastDrawn), (arI rM_letters kM_letters 8 fM_letters), (arI rM_fresh kM_fresh 287 fM_fresh), (arI rM_read kM_read 90 fM_read)] [(kM_letters, .int), (kM_fresh, .int), (kM_read, .int)] t) A) ([.ref oM] : List Value).toArray s 0 0 A) (F0 m 2 ls []) := by
    intro n_5109
    induction n_5109 with
    | zero => intro z_5108 H locs ls hi0_n_5109 hm; exact absurd hm (by omega)
    | succ n_5109 ih_n_5109 =>
      intro z_5108 H locs ls hi0_n_5109 hm hG hP hD hS hl
      have hG := hG.trans (HX7_find_0_eq _ _ _ _ _)
      refine lv_iload_n hx hb dX7_find_2 rfl (lv_at hl 0 rfl) ?_
      refine lv_bipush (v := 18) hx hb dX7_find_3 (by decide) ?_
      refine lv_icmp_ge (tgt := 104) hx hb dX7_find_5 (by decide) (fun c_5110 => ?_) (fun c_5110 => ?_)
      · skip
        have hG := hG.trans (if_pos c_5110)
        have gc_5110 := ti_le c_5110 kc_18 rfl
        refine lv_iconst (v := (-1)) hx hb dX7_find_104 (by decide) ?_
        exact W.iret hx hb hr (fun t ht hW => ⟨⟨_, 0, rfl, ⟨⟨trivial, (by have q := kc_m1; first | omega | assumption)⟩, hG⟩, Bw.to (hP.sub [0, 1, 2, 3] rfl) (hD.sub [0, 1, 2, 3] (by decide) rfl) (hK.sub [0, 1, 2] rfl) ht hW⟩, hS.F ht⟩) hS.2.2 dX7_find_105
      · skip
        have hG := hG.trans (if_neg c_5110)
        have gc_5110 := ti_nle c_5110 kc_18 rfl
        refine lv_aload_n hx hb dX7_find_8 rfl (lv_at hl 1 rfl) ?_
        refine va_get (D := (dC, dI)) (ci := 7) (v := .ref rM_fresh) (C := RX7) (T := TX7) (N := 48) hx hb hts inX7 hown hK hP 0 rfl rfl 16 (by decide) (hts _ wd_156) (fun _ h9 => h9) rfl dX7_find_9 ?_
        refine lv_bipush (v := 125) hx hb dX7_find_12 (by decide) ?_
        refine lv_iload_n hx hb dX7_find_14 rfl (lv_at hl 0 rfl) ?_
        refine lv_iadd hx hb dX7_find_15 ?_
        refine lv_topi (fun x_5111 ex_5111 => ?_)
        have hG := hG.trans (lt_eq ex_5111)
        have vx_5111 : x_5111.toInt = z_5108.toInt + 125 := by have q := ti_add ex_5111 kc_125 rfl (by omega) (by omega); omega
        refine va_iald hx hb hK hP 2 1 rfl rfl (ti_in vx_5111 (by omega) (by omega)) dX7_find_16 ?_
        refine lv_topi (fun x_5112 ex_5112 => ?_)
        have hG := hG.trans (lt_eq ex_5112)
        have kx_5112 : (fM_fresh x_5111.toNatClampNeg).toInt = x_5112.toInt := by rw [ex_5112]
        have cx_5112 : (fM_fresh (125 + z_5108.toNatClampNeg)).toInt = x_5112.toInt := by rw [show 125 + z_5108.toNatClampNeg = x_5111.toNatClampNeg from by have q9 := ti_cl (x := x_5111) vx_5111 (by omega); have q_z_5108 := ti_cl (x := z_5108) rfl (by omega); omega]; exact kx_5112
        refine lv_if_le (tgt := 40) hx hb dX7_find_17 (by decide) (fun c_5113 => ?_) (fun c_5113 => ?_)
        · skip
          have hG := hG.trans (if_pos c_5113)
          have gc_5113 := ti_le c_5113 rfl kc_0
          refine lv_iconst (v := 0) hx hb dX7_find_40 (by decide) ?_
          refine lv_istore_n (lv' := [(2, .int 0), (1, .int z_5108), (0, .ref oM)]) hx hb dX7_find_41 rfl hl (by decide) rfl (fun ls hl => ?_)
          refine lv_iconst (v := 0) hx hb dX7_find_42 (by decide) ?_
          refine lv_istore_n (lv' := [(3, .int 0), (2, .int 0), (1, .int z_5108), (0, .ref oM)]) hx hb dX7_find_43 rfl hl (by decide) rfl (fun ls hl => ?_)
          have hl := lv_sub hl (l' := [(3, .int 0), (2, .int 0), (1, .int z_5108), (0, .ref oM)]) [0, 1, 2, 3] rfl
          have key_n_5116 : ∀ (n_5116 : Nat) (z_5114 : Int32) (z_5115 : Int32) (H : Heap) (locs : List Loc) (ls : Array Slot), (0 ≤ z_5114.toInt ∧ z_5114.toInt ≤ iM_nameSize.toInt) → (0 ≤ z_5115.toInt ∧ z_5115.toInt ≤ 1) → (1 ≤ z_5115.toInt → 1 ≤ (fM_fresh (125 + z_5108.toNatClampNeg)).toInt) → (iM_nameSize.toInt - z_5114.toInt).toNat < n_5116 → (PX7_find iM_nameSize fM_letters fM_fresh = HX7_find_1 iM_nameSize fM_letters fM_fresh z_5108 (fun (z_5108 : Int32) => HX7_find_0 iM_nameSize fM_letters fM_fresh n_5109 z_5108) n_5116 z_5114 z_5115) → va_P (dC, dI) vwCl [(oc7 oM iM_thrown rM_tape iM_taped iM_size iM_at iM_end iM_token iM_whole iM_nameSize iM_fault iM_place iM_trouble rM_letters iM_failed iM_hasCourt rM_r rM_fresh rM_told rM_read rM_st rM_undone rM_kept iM_undos iM_images rM_fresher iM_fresherSize iM_scale iM_night rM_heardRow rM_cutRow iM_breaths iM_cutMany iM_allBreaths rM_trial rM_words iM_fewestBreaths iM_orderMany iM_orderSum iM_leastOrder rM_often iM_setMany iM_someOf iM_allOf iM_allWeight iM_enoughWeight iM_worthSum iM_firstRest iM_leastDrawn), (arI rM_letters kM_letters 8 fM_letters), (arI rM_fresh kM_fresh 287 fM_fresh), (arI rM_read kM_read 90 fM_read)] H → va_D A [(oc7 oM iM_thrown rM_tape iM_taped iM_size iM_at iM_end iM_token iM_whole iM_nameSize iM_fault iM_place iM_trouble rM_letters iM_failed iM_hasCourt rM_r rM_fresh rM_told rM_read rM_st rM_undone rM_kept iM_undos iM_images rM_fresher iM_fresherSize iM_scale iM_night rM_heardRow rM_cutRow iM_breaths iM_cutMany iM_allBreaths rM_trial rM_words iM_fewestBreaths iM_orderMany iM_orderSum iM_leastOrder rM_often iM_setMany iM_someOf iM_allOf iM_allWeight iM_enoughWeight iM_worthSum iM_firstRest iM_leastDrawn), (arI rM_letters kM_letters 8 fM_letters), (arI rM_fresh kM_fresh 287 fM_fresh), (arI rM_read kM_read 90 fM_read)] → va_S A s.heap H locs → lv_has ls 4 [(3, .int z_5114), (2, .int z_5115), (1, .int z_5108), (0, .ref oM)] → W p l e (headSpec (Cond.code yX7_find cX7_find 4 (some .int) :: wG) ({ frames := 0, cells := 0, slots := 0, locals := 0 })).room s m ([.ref oM] : List Value).toArray below meth c H locs 0 0 (MQ below (va_Qi (fun (r : Int32) (_ : Nat) => (True ∧ (-1 ≤ r.toInt ∧ r.toInt < (fM_fresh 1).toInt ∧ r.toInt ≤ 17)) ∧ PX7_find iM_nameSize fM_letters fM_fresh = r) (fun (_ : Nat) (t : State) => Bw dC dI A [(oc7 oM iM_thrown rM_tape iM_taped iM_size iM_at iM_end iM_token iM_whole iM_nameSize iM_fault iM_place iM_trouble rM_letters iM_failed iM_hasCourt rM_r rM_fresh rM_told rM_read rM_st rM_undone rM_kept iM_undos iM_images rM_fresher iM_fresherSize iM_scale iM_night rM_heardRow rM_cutRow iM_breaths iM_cutMany iM_allBreaths rM_trial rM_words iM_fewestBreaths iM_orderMany iM_orderSum iM_leastOrder rM_often iM_setMany iM_someOf iM_allOf iM_allWeight iM_enoughWeight iM_worthSum iM_firstRest iM_leastDrawn), (arI rM_letters kM_letters 8 fM_letters), (arI rM_fresh kM_fresh 287 fM_fresh), (arI rM_read kM_read 90 fM_read)] [(kM_letters, .int), (kM_fresh, .int), (kM_read, .int)] t) A) ([.ref oM] : List Value).toArray s 0 0 A) (F0 m 44 ls []) := by
            intro n_5116
            induction n_5116 with
            | zero => intro z_5114 z_5115 H locs ls hi0_n_5116 hi1_n_5116 hi2_n_5116 hm; exact absurd hm (by omega)
            | succ n_5116 ih_n_5116 =>
              intro z_5114 z_5115 H locs ls hi0_n_5116 hi1_n_5116 hi2_n_5116 hm hG hP hD hS hl
              have hG := hG.trans (HX7_find_1_eq _ _ _ _ _ _ _ _)
              have nm_z_5108 : 1 ≤ (fM_fresh (125 + z_5108.toNatClampNeg)).toInt → z_5108.toInt < (fM_fresh 1).toInt := fun h9 => by have q1 := ti_cl (x := z_5108) rfl (by omega); have q2 := r_P.1.names z_5108.toNatClampNeg (by omega) (by omega); omega
              clear nm_z_5108
              refine lv_iload_n hx hb dX7_find_44 rfl (lv_at hl 0 rfl) ?_
              refine lv_aload_n hx hb dX7_find_45 rfl (lv_at hl 3 rfl) ?_
              refine va_get (D := (dC, dI)) (ci := 7) (v := .int iM_nameSize) (C := RX7) (T := TX7) (N := 48) hx hb hts inX7 hown hK hP 0 rfl rfl 8 (by decide) (hts _ wd_404) (fun _ h9 => h9) rfl dX7_find_46 ?_
              refine lv_icmp_ge (tgt := 92) hx hb dX7_find_49 (by decide) (fun c_5117 => ?_) (fun c_5117 => ?_)
              · skip
                have hG := hG.trans (if_pos c_5117)
                have gc_5117 := ti_le c_5117 rfl rfl
                refine lv_iload_n hx hb dX7_find_92 rfl (lv_at hl 1 rfl) ?_
                refine lv_if_eq (tgt := 98) hx hb dX7_find_93 (by decide) (fun c_5118 => ?_) (fun c_5118 => ?_)
                · skip
                  have hG := hG.trans (if_pos c_5118)
                  have gc_5118 := ti_eq c_5118 rfl kc_0
                  clear hi2_n_5116
                  obtain ⟨x_5119, ex_5119⟩ : ∃ z : Int32, z = z_5108 + Int32.ofInt 1 := ⟨_, rfl⟩
                  have hG := hG.trans (lt_eq ex_5119)
                  have vx_5119 : x_5119.toInt = z_5108.toInt + 1 := by have q := ti_add (y := 1) ex_5119 rfl kc_1 (by omega) (by omega); omega
                  refine lv_iinc (v := x_5119) (lv' := [(1, .int x_5119), (3, .int z_5114), (2, .int z_5115), (0, .ref oM)]) hx hb dX7_find_98 hl (k := 2) rfl ex_5119.symm (by decide) rfl (fun ls hl => ?_)
                  refine lv_goto (tgt := 2) hx hb dX7_find_101 (by decide) ?_
                  exact ih_n_5109 x_5119 _ _ _  (by first | omega | decide | assumption) (by omega) hG (hP.sub [0, 1, 2, 3] rfl) (hD.sub [0, 1, 2, 3] (by decide) rfl) hS (lv_sub hl [0, 3] rfl)
                · skip
                  have hG := hG.trans (if_neg c_5118)
                  have gc_5118 := ti_ne c_5118 rfl kc_0
                  replace gc_5118 : (-1) * z_5115.toInt + 1 ≤ 0 := by omega
                  have h_5120 := hi2_n_5116 (by omega)
                  clear hi2_n_5116
                  refine lv_iload_n hx hb dX7_find_96 rfl (lv_at hl 2 rfl) ?_
                  exact W.iret hx hb hr (fun t ht hW => ⟨⟨_, 0, rfl, ⟨⟨trivial, (by first | omega | assumption)⟩, hG⟩, Bw.to (hP.sub [0, 1, 2, 3] rfl) (hD.sub [0, 1, 2, 3] (by decide) rfl) (hK.sub [0, 1, 2] rfl) ht hW⟩, hS.F ht⟩) hS.2.2 dX7_find_97
              · skip
                have hG := hG.trans (if_neg c_5117)
                have gc_5117 := ti_nle c_5117 rfl rfl
                refine lv_iload_n hx hb dX7_find_52 rfl (lv_at hl 1 rfl) ?_
                refine lv_if_eq (tgt := 92) hx hb dX7_find_53 (by decide) (fun c_5121 => ?_) (fun c_5121 => ?_)
                · skip
                  have hG := hG.trans (if_pos c_5121)
                  have gc_5121 := ti_eq c_5121 rfl kc_0
                  clear hi2_n_5116
                  refine lv_iload_n hx hb dX7_find_92 rfl (lv_at hl 1 rfl) ?_
                  refine lv_if_eq (tgt := 98) hx hb dX7_find_93 (by decide) (fun c_5122 => ?_) (fun c_5122 => ?_)
                  · skip
                    have hG := hG.trans (if_pos c_5122)
                    have gc_5122 := ti_eq c_5122 rfl kc_0
                    obtain ⟨x_5123, ex_5123⟩ : ∃ z : Int32, z = z_5108 + Int32.ofInt 1 := ⟨_, rfl⟩
                    have hG := hG.trans (lt_eq ex_5123)
                    have vx_5123 : x_5123.toInt = z_5108.toInt + 1 := by have q := ti_add (y := 1) ex_5123 rfl kc_1 (by omega) (by omega); omega
                    refine lv_iinc (v := x_5123) (lv' := [(1, .int x_5123), (3, .int z_5114), (2, .int z_5115), (0, .ref oM)]) hx hb dX7_find_98 hl (k := 2) rfl ex_5123.symm (by decide) rfl (fun ls hl => ?_)
                    refine lv_goto (tgt := 2) hx hb dX7_find_101 (by decide) ?_
                    exact ih_n_5109 x_5123 _ _ _  (by first | omega | decide | assumption) (by omega) hG (hP.sub [0, 1, 2, 3] rfl) (hD.sub [0, 1, 2, 3] (by decide) rfl) hS (lv_sub hl [0, 3] rfl)
                  · skip
                    have hG := hG.trans (if_neg c_5122)
                    have gc_5122 := ti_ne c_5122 rfl kc_0
                    replace gc_5122 : z_5115.toInt + 1 ≤ 0 := by omega
                    exfalso; clear hG; omega
                · skip
                  have hG := hG.trans (if_neg c_5121)
                  have gc_5121 := ti_ne c_5121 rfl kc_0
                  replace gc_5121 : (-1) * z_5115.toInt + 1 ≤ 0 := by omega
                  have h_5124 := hi2_n_5116 (by omega)
                  clear hi2_n_5116
                  refine lv_aload_n hx hb dX7_find_56 rfl (lv_at hl 3 rfl) ?_
                  refine va_get (D := (dC, dI)) (ci := 7) (v := .ref rM_fresh) (C := RX7) (T := TX7) (N := 48) hx hb hts inX7 hown hK hP 0 rfl rfl 16 (by decide) (hts _ wd_156) (fun _ h9 => h9) rfl dX7_find_57 ?_
                  refine lv_sipush (v := 143) hx hb dX7_find_60 (by decide) ?_
                  refine lv_bipush (v := 8) hx hb dX7_find_63 (by decide) ?_
                  refine lv_iload_n hx hb dX7_find_65 rfl (lv_at hl 2 rfl) ?_
                  refine lv_imul hx hb dX7_find_66 ?_
                  refine lv_topi (fun x_5125 ex_5125 => ?_)
                  have hG := hG.trans (lt_eq ex_5125)
                  have vx_5125 : x_5125.toInt = 8 * z_5108.toInt := by have q := ti_mul ex_5125 kc_8 rfl (by omega) (by omega); omega
                  refine lv_iadd hx hb dX7_find_67 ?_
                  refine lv_topi (fun x_5126 ex_5126 => ?_)
                  have hG := hG.trans (lt_eq ex_5126)
                  have vx_5126 : x_5126.toInt = 8 * z_5108.toInt + 143 := by have q := ti_add ex_5126 kc_143 vx_5125 (by omega) (by omega); omega
                  refine lv_iload_n hx hb dX7_find_68 rfl (lv_at hl 0 rfl) ?_
                  refine lv_iadd hx hb dX7_find_69 ?_
                  refine lv_topi (fun x_5127 ex_5127 => ?_)
                  have hG := hG.trans (lt_eq ex_5127)
                  have vx_5127 : x_5127.toInt = 8 * z_5108.toInt + z_5114.toInt + 143 := by have q := ti_add ex_5127 vx_5126 rfl (by omega) (by omega); omega
                  refine va_iald hx hb hK hP 2 1 rfl rfl (ti_in vx_5127 (by omega) (by omega)) dX7_find_70 ?_
                  refine lv_topi (fun x_5128 ex_5128 => ?_)
                  have hG := hG.trans (lt_eq ex_5128)
                  have kx_5128 : (fM_fresh x_5127.toNatClampNeg).toInt = x_5128.toInt := by rw [ex_5128]
                  have cx_5128 : (fM_fresh (143 + 8 * z_5108.toNatClampNeg + z_5114.toNatClampNeg)).toInt = x_5128.toInt := by rw [show 143 + 8 * z_5108.toNatClampNeg + z_5114.toNatClampNeg = x_5127.toNatClampNeg from by have q9 := ti_cl (x := x_5127) vx_5127 (by omega); have q_z_5108 := ti_cl (x := z_5108) rfl (by omega); have q_z_5114 := ti_cl (x := z_5114) rfl (by omega); omega]; exact kx_5128
                  refine lv_aload_n hx hb dX7_find_71 rfl (lv_at hl 3 rfl) ?_
                  refine va_get (D := (dC, dI)) (ci := 7) (v := .ref rM_letters) (C := RX7) (T := TX7) (N := 48) hx hb hts inX7 hown hK hP 0 rfl rfl 12 (by decide) (hts _ wd_154) (fun _ h9 => h9) rfl dX7_find_72 ?_
                  refine lv_iload_n hx hb dX7_find_75 rfl (lv_at hl 0 rfl) ?_
                  refine va_iald hx hb hK hP 1 0 rfl rfl (ti_in rfl (by omega) (by omega)) dX7_find_76 ?_
                  refine lv_topi (fun x_5129 ex_5129 => ?_)
                  have hG := hG.trans (lt_eq ex_5129)
                  have kx_5129 : (fM_letters z_5114.toNatClampNeg).toInt = x_5129.toInt := by rw [ex_5129]
                  have cx_5129 := kx_5129
                  refine lv_icmp_ne (tgt := 84) hx hb dX7_find_77 (by decide) (fun c_5130 => ?_) (fun c_5130 => ?_)
                  · skip
                    have hG := hG.trans (if_neg c_5130)
                    have gc_5130 := ti_ne c_5130 rfl rfl
                    refine lv_iconst (v := 0) hx hb dX7_find_84 (by decide) ?_
                    refine lv_istore_n (lv' := [(2, .int 0), (3, .int z_5114), (1, .int z_5108), (0, .ref oM)]) hx hb dX7_find_85 rfl hl (by decide) rfl (fun ls hl => ?_)
                    obtain ⟨x_5131, ex_5131⟩ : ∃ z : Int32, z = z_5114 + Int32.ofInt 1 := ⟨_, rfl⟩
                    have hG := hG.trans (lt_eq ex_5131)
                    have vx_5131 : x_5131.toInt = z_5114.toInt + 1 := by have q := ti_add (y := 1) ex_5131 rfl kc_1 (by omega) (by omega); omega
                    refine lv_iinc (v := x_5131) (lv' := [(3, .int x_5131), (2, .int 0), (1, .int z_5108), (0, .ref oM)]) hx hb dX7_find_86 hl (k := 1) rfl ex_5131.symm (by decide) rfl (fun ls hl => ?_)
                    refine lv_goto (tgt := 44) hx hb dX7_find_89 (by decide) ?_
                    exact ih_n_5116 x_5131 0 _ _ _  (by first | omega | decide | assumption) (by first | omega | decide | assumption) (by have q0 := kc_0; have q1 := kc_1; have q2 := kc_2; have q3 := kc_3; omega) (by omega) hG (hP.sub [0, 1, 2, 3] rfl) (hD.sub [0, 1, 2, 3] (by decide) rfl) hS (lv_sub hl [0, 1, 2, 3] rfl)
                  · skip
                    have hG := hG.trans (if_pos c_5130)
                    have gc_5130 := ti_eq c_5130 rfl rfl
                    refine lv_iconst (v := 1) hx hb dX7_find_80 (by decide) ?_
                    refine lv_goto (tgt := 85) hx hb dX7_find_81 (by decide) ?_
                    refine lv_istore_n (lv' := [(2, .int 1), (3, .int z_5114), (1, .int z_5108), (0, .ref oM)]) hx hb dX7_find_85 rfl hl (by decide) rfl (fun ls hl => ?_)
                    obtain ⟨x_5132, ex_5132⟩ : ∃ z : Int32, z = z_5114 + Int32.ofInt 1 := ⟨_, rfl⟩
                    have hG := hG.trans (lt_eq ex_5132)
                    have vx_5132 : x_5132.toInt = z_5114.toInt + 1 := by have q := ti_add (y := 1) ex_5132 rfl kc_1 (by omega) (by omega); omega
                    refine lv_iinc (v := x_5132) (lv' := [(3, .int x_5132), (2, .int 1), (1, .int z_5108), (0, .ref oM)]) hx hb dX7_find_86 hl (k := 1) rfl ex_5132.symm (by decide) rfl (fun ls hl => ?_)
                    refine lv_goto (tgt := 44) hx hb dX7_find_89 (by decide) ?_
                    exact ih_n_5116 x_5132 1 _ _ _  (by first | omega | decide | assumption) (by first | omega | decide | assumption) (by have q0 := kc_0; have q1 := kc_1; have q2 := kc_2; have q3 := kc_3; omega) (by omega) hG (hP.sub [0, 1, 2, 3] rfl) (hD.sub [0, 1, 2, 3] (by decide) rfl) hS (lv_sub hl [0, 1, 2, 3] rfl)
          exact key_n_5116 (((iM_nameSize.toInt - (0 : Int32).toInt).toNat) + 1) 0 0 _ _ _  (by first | omega | decide | assumption | (have q0 := kc_0; have q1 := kc_1; omega)) (by first | omega | decide | assumption | (have q0 := kc_0; have q1 := kc_1; omega)) (by first | omega | decide | assumption | (have q0 := kc_0; have q1 := kc_1; omega)) (by omega) hG hP hD hS hl
        · skip
          have hG := hG.trans (if_neg c_5113)
          have gc_5113 := ti_nle c_5113 rfl kc_0
          refine lv_aload_n hx hb dX7_find_20 rfl (lv_at hl 1 rfl) ?_
          refine va_get (D := (dC, dI)) (ci := 7) (v := .ref rM_fresh) (C := RX7) (T := TX7) (N := 48) hx hb hts inX7 hown hK hP 0 rfl rfl 16 (by decide) (hts _ wd_156) (fun _ h9 => h9) rfl dX7_find_21 ?_
          refine lv_bipush (v := 125) hx hb dX7_find_24 (by decide) ?_
          refine lv_iload_n hx hb dX7_find_26 rfl (lv_at hl 0 rfl) ?_
          refine lv_iadd hx hb dX7_find_27 ?_
          refine lv_topi (fun x_5133 ex_5133 => ?_)
          have hG := hG.trans (lt_eq ex_5133)
          have vx_5133 : x_5133.toInt = z_5108.toInt + 125 := by have q := ti_add ex_5133 kc_125 rfl (by omega) (by omega); omega
          refine va_iald hx hb hK hP 2 1 rfl rfl (ti_in vx_5133 (by omega) (by omega)) dX7_find_28 ?_
          refine lv_topi (fun x_5134 ex_5134 => ?_)
          have hG := hG.trans (lt_eq ex_5134)
          have kx_5134 : (fM_fresh x_5133.toNatClampNeg).toInt = x_5134.toInt := by rw [ex_5134]
          have cx_5134 : (fM_fresh (125 + z_5108.toNatClampNeg)).toInt = x_5134.toInt := by rw [show 125 + z_5108.toNatClampNeg = x_5133.toNatClampNeg from by have q9 := ti_cl (x := x_5133) vx_5133 (by omega); have q_z_5108 := ti_cl (x := z_5108) rfl (by omega); omega]; exact kx_5134
          refine lv_aload_n hx hb dX7_find_29 rfl (lv_at hl 1 rfl) ?_
          refine va_get (D := (dC, dI)) (ci := 7) (v := .int iM_nameSize) (C := RX7) (T := TX7) (N := 48) hx hb hts inX7 hown hK hP 0 rfl rfl 8 (by decide) (hts _ wd_404) (fun _ h9 => h9) rfl dX7_find_30 ?_
          refine lv_icmp_ne (tgt := 40) hx hb dX7_find_33 (by decide) (fun c_5135 => ?_) (fun c_5135 => ?_)
          · skip
            have hG := hG.trans (if_neg c_5135)
            have gc_5135 := ti_ne c_5135 rfl rfl
            refine lv_iconst (v := 0) hx hb dX7_find_40 (by decide) ?_
            refine lv_istore_n (lv' := [(2, .int 0), (1, .int z_5108), (0, .ref oM)]) hx hb dX7_find_41 rfl hl (by decide) rfl (fun ls hl => ?_)
            refine lv_iconst (v := 0) hx hb dX7_find_42 (by decide) ?_
            refine lv_istore_n (lv' := [(3, .int 0), (2, .int 0), (1, .int z_5108), (0, .ref oM)]) hx hb dX7_find_43 rfl hl (by decide) rfl (fun ls hl => ?_)
            have hl := lv_sub hl (l' := [(3, .int 0), (2, .int 0), (1, .int z_5108), (0, .ref oM)]) [0, 1, 2, 3] rfl
            have key_n_5138 : ∀ (n_5138 : Nat) (z_5136 : Int32) (z_5137 : Int32) (H : Heap) (locs : List Loc) (ls : Array Slot), (0 ≤ z_5136.toInt ∧ z_5136.toInt ≤ iM_nameSize.toInt) → (0 ≤ z_5137.toInt ∧ z_5137.toInt ≤ 1) → (1 ≤ z_5137.toInt → 1 ≤ (fM_fresh (125 + z_5108.toNatClampNeg)).toInt) → (iM_nameSize.toInt - z_5136.toInt).toNat < n_5138 → (PX7_find iM_nameSize fM_letters fM_fresh = HX7_find_1 iM_nameSize fM_letters fM_fresh z_5108 (fun (z_5108 : Int32) => HX7_find_0 iM_nameSize fM_letters fM_fresh n_5109 z_5108) n_5138 z_5136 z_5137) → va_P (dC, dI) vwCl [(oc7 oM iM_thrown rM_tape iM_taped iM_size iM_at iM_end iM_token iM_whole iM_nameSize iM_fault iM_place iM_trouble rM_letters iM_failed iM_hasCourt rM_r rM_fresh rM_told rM_read rM_st rM_undone rM_kept iM_undos iM_images rM_fresher iM_fresherSize iM_scale iM_night rM_heardRow rM_cutRow iM_breaths iM_cutMany iM_allBreaths rM_trial rM_words iM_fewestBreaths iM_orderMany iM_orderSum iM_leastOrder rM_often iM_setMany iM_someOf iM_allOf iM_allWeight iM_enoughWeight iM_worthSum iM_firstRest iM_leastDrawn), (arI rM_letters kM_letters 8 fM_letters), (arI rM_fresh kM_fresh 287 fM_fresh), (arI rM_read kM_read 90 fM_read)] H → va_D A [(oc7 oM iM_thrown rM_tape iM_taped iM_size iM_at iM_end iM_token iM_whole iM_nameSize iM_fault iM_place iM_trouble rM_letters iM_failed iM_hasCourt rM_r rM_fresh rM_told rM_read rM_st rM_undone rM_kept iM_undos iM_images rM_fresher iM_fresherSize iM_scale iM_night rM_heardRow rM_cutRow iM_breaths iM_cutMany iM_allBreaths rM_trial rM_words iM_fewestBreaths iM_orderMany iM_orderSum iM_leastOrder rM_often iM_setMany iM_someOf iM_allOf iM_allWeight iM_enoughWeight iM_worthSum iM_firstRest iM_leastDrawn), (arI rM_letters kM_letters 8 fM_letters), (arI rM_fresh kM_fresh 287 fM_fresh), (arI rM_read kM_read 90 fM_read)] → va_S A s.heap H locs → lv_has ls 4 [(3, .int z_5136), (2, .int z_5137), (1, .int z_5108), (0, .ref oM)] → W p l e (headSpec (Cond.code yX7_find cX7_find 4 (some .int) :: wG) ({ frames := 0, cells := 0, slots := 0, locals := 0 })).room s m ([.ref oM] : List Value).toArray below meth c H locs 0 0 (MQ below (va_Qi (fun (r : Int32) (_ : Nat) => (True ∧ (-1 ≤ r.toInt ∧ r.toInt < (fM_fresh 1).toInt ∧ r.toInt ≤ 17)) ∧ PX7_find iM_nameSize fM_letters fM_fresh = r) (fun (_ : Nat) (t : State) => Bw dC dI A [(oc7 oM iM_thrown rM_tape iM_taped iM_size iM_at iM_end iM_token iM_whole iM_nameSize iM_fault iM_place iM_trouble rM_letters iM_failed iM_hasCourt rM_r rM_fresh rM_told rM_read rM_st rM_undone rM_kept iM_undos iM_images rM_fresher iM_fresherSize iM_scale iM_night rM_heardRow rM_cutRow iM_breaths iM_cutMany iM_allBreaths rM_trial rM_words iM_fewestBreaths iM_orderMany iM_orderSum iM_leastOrder rM_often iM_setMany iM_someOf iM_allOf iM_allWeight iM_enoughWeight iM_worthSum iM_firstRest iM_leastDrawn), (arI rM_letters kM_letters 8 fM_letters), (arI rM_fresh kM_fresh 287 fM_fresh), (arI rM_read kM_read 90 fM_read)] [(kM_letters, .int), (kM_fresh, .int), (kM_read, .int)] t) A) ([.ref oM] : List Value).toArray s 0 0 A) (F0 m 44 ls []) := by
              intro n_5138
              induction n_5138 with
              | zero => intro z_5136 z_5137 H locs ls hi0_n_5138 hi1_n_5138 hi2_n_5138 hm; exact absurd hm (by omega)
              | succ n_5138 ih_n_5138 =>
                intro z_5136 z_5137 H locs ls hi0_n_5138 hi1_n_5138 hi2_n_5138 hm hG hP hD hS hl
                have hG := hG.trans (HX7_find_1_eq _ _ _ _ _ _ _ _)
                have nm_z_5108 : 1 ≤ (fM_fresh (125 + z_5108.toNatClampNeg)).toInt → z_5108.toInt < (fM_fresh 1).toInt := fun h9 => by have q1 := ti_cl (x := z_5108) rfl (by omega); have q2 := r_P.1.names z_5108.toNatClampNeg (by omega) (by omega); omega
                have h_5139 := nm_z_5108 (by omega)
                clear nm_z_5108
                refine lv_iload_n hx hb dX7_find_44 rfl (lv_at hl 0 rfl) ?_
                refine lv_aload_n hx hb dX7_find_45 rfl (lv_at hl 3 rfl) ?_
                refine va_get (D := (dC, dI)) (ci := 7) (v := .int iM_nameSize) (C := RX7) (T := TX7) (N := 48) hx hb hts inX7 hown hK hP 0 rfl rfl 8 (by decide) (hts _ wd_404) (fun _ h9 => h9) rfl dX7_find_46 ?_
                refine lv_icmp_ge (tgt := 92) hx hb dX7_find_49 (by decide) (fun c_5140 => ?_) (fun c_5140 => ?_)
                · skip
                  have hG := hG.trans (if_pos c_5140)
                  have gc_5140 := ti_le c_5140 rfl rfl
                  refine lv_iload_n hx hb dX7_find_92 rfl (lv_at hl 1 rfl) ?_
                  refine lv_if_eq (tgt := 98) hx hb dX7_find_93 (by decide) (fun c_5141 => ?_) (fun c_5141 => ?_)
                  · skip
                    have hG := hG.trans (if_pos c_5141)
                    have gc_5141 := ti_eq c_5141 rfl kc_0
                    clear hi2_n_5138
                    obtain ⟨x_5142, ex_5142⟩ : ∃ z : Int32, z = z_5108 + Int32.ofInt 1 := ⟨_, rfl⟩
                    have hG := hG.trans (lt_eq ex_5142)
                    have vx_5142 : x_5142.toInt = z_5108.toInt + 1 := by have q := ti_add (y := 1) ex_5142 rfl kc_1 (by omega) (by omega); omega
                    refine lv_iinc (v := x_5142) (lv' := [(1, .int x_5142), (3, .int z_5136), (2, .int z_5137), (0, .ref oM)]) hx hb dX7_find_98 hl (k := 2) rfl ex_5142.symm (by decide) rfl (fun ls hl => ?_)
                    refine lv_goto (tgt := 2) hx hb dX7_find_101 (by decide) ?_
                    exact ih_n_5109 x_5142 _ _ _  (by first | omega | decide | assumption) (by omega) hG (hP.sub [0, 1, 2, 3] rfl) (hD.sub [0, 1, 2, 3] (by decide) rfl) hS (lv_sub hl [0, 3] rfl)
                  · skip
                    have hG := hG.trans (if_neg c_5141)
                    have gc_5141 := ti_ne c_5141 rfl kc_0
                    replace gc_5141 : (-1) * z_5137.toInt + 1 ≤ 0 := by omega
                    have h_5143 := hi2_n_5138 (by omega)
                    clear hi2_n_5138
                    refine lv_iload_n hx hb dX7_find_96 rfl (lv_at hl 2 rfl) ?_
                    exact W.iret hx hb hr (fun t ht hW => ⟨⟨_, 0, rfl, ⟨⟨trivial, (by first | omega | assumption)⟩, hG⟩, Bw.to (hP.sub [0, 1, 2, 3] rfl) (hD.sub [0, 1, 2, 3] (by decide) rfl) (hK.sub [0, 1, 2] rfl) ht hW⟩, hS.F ht⟩) hS.2.2 dX7_find_97
                · skip
                  have hG := hG.trans (if_neg c_5140)
                  have gc_5140 := ti_nle c_5140 rfl rfl
                  refine lv_iload_n hx hb dX7_find_52 rfl (lv_at hl 1 rfl) ?_
                  refine lv_if_eq (tgt := 92) hx hb dX7_find_53 (by decide) (fun c_5144 => ?_) (fun c_5144 => ?_)
                  · skip
                    have hG := hG.trans (if_pos c_5144)
                    have gc_5144 := ti_eq c_5144 rfl kc_0
                    clear hi2_n_5138
                    refine lv_iload_n hx hb dX7_find_92 rfl (lv_at hl 1 rfl) ?_
                    refine lv_if_eq (tgt := 98) hx hb dX7_find_93 (by decide) (fun c_5145 => ?_) (fun c_5145 => ?_)
                    · skip
                      have hG := hG.trans (if_pos c_5145)
                      have gc_5145 := ti_eq c_5145 rfl kc_0
                      obtain ⟨x_5146, ex_5146⟩ : ∃ z : Int32, z = z_5108 + Int32.ofInt 1 := ⟨_, rfl⟩
                      have hG := hG.trans (lt_eq ex_5146)
                      have vx_5146 : x_5146.toInt = z_5108.toInt + 1 := by have q := ti_add (y := 1) ex_5146 rfl kc_1 (by omega) (by omega); omega
                      refine lv_iinc (v := x_5146) (lv' := [(1, .int x_5146), (3, .int z_5136), (2, .int z_5137), (0, .ref oM)]) hx hb dX7_find_98 hl (k := 2) rfl ex_5146.symm (by decide) rfl (fun ls hl => ?_)
                      refine lv_goto (tgt := 2) hx hb dX7_find_101 (by decide) ?_
                      exact ih_n_5109 x_5146 _ _ _  (by first | omega | decide | assumption) (by omega) hG (hP.sub [0, 1, 2, 3] rfl) (hD.sub [0, 1, 2, 3] (by decide) rfl) hS (lv_sub hl [0, 3] rfl)
                    · skip
                      have hG := hG.trans (if_neg c_5145)
                      have gc_5145 := ti_ne c_5145 rfl kc_0
                      replace gc_5145 : z_5137.toInt + 1 ≤ 0 := by omega
                      exfalso; clear hG; omega
                  · skip
                    have hG := hG.trans (if_neg c_5144)
                    have gc_5144 := ti_ne c_5144 rfl kc_0
                    replace gc_5144 : (-1) * z_5137.toInt + 1 ≤ 0 := by omega
                    have h_5147 := hi2_n_5138 (by omega)
                    clear hi2_n_5138
                    refine lv_aload_n hx hb dX7_find_56 rfl (lv_at hl 3 rfl) ?_
                    refine va_get (D := (dC, dI)) (ci := 7) (v := .ref rM_fresh) (C := RX7) (T := TX7) (N := 48) hx hb hts inX7 hown hK hP 0 rfl rfl 16 (by decide) (hts _ wd_156) (fun _ h9 => h9) rfl dX7_find_57 ?_
                    refine lv_sipush (v := 143) hx hb dX7_find_60 (by decide) ?_
                    refine lv_bipush (v := 8) hx hb dX7_find_63 (by decide) ?_
                    refine lv_iload_n hx hb dX7_find_65 rfl (lv_at hl 2 rfl) ?_
                    refine lv_imul hx hb dX7_find_66 ?_
                    refine lv_topi (fun x_5148 ex_5148 => ?_)
                    have hG := hG.trans (lt_eq ex_5148)
                    have vx_5148 : x_5148.toInt = 8 * z_5108.toInt := by have q := ti_mul ex_5148 kc_8 rfl (by omega) (by omega); omega
                    refine lv_iadd hx hb dX7_find_67 ?_
                    refine lv_topi (fun x_5149 ex_5149 => ?_)
                    have hG := hG.trans (lt_eq ex_5149)
                    have vx_5149 : x_5149.toInt = 8 * z_5108.toInt + 143 := by have q := ti_add ex_5149 kc_143 vx_5148 (by omega) (by omega); omega
                    refine lv_iload_n hx hb dX7_find_68 rfl (lv_at hl 0 rfl) ?_
                    refine lv_iadd hx hb dX7_find_69 ?_
                    refine lv_topi (fun x_5150 ex_5150 => ?_)
                    have hG := hG.trans (lt_eq ex_5150)
                    have vx_5150 : x_5150.toInt = 8 * z_5108.toInt + z_5136.toInt + 143 := by have q := ti_add ex_5150 vx_5149 rfl (by omega) (by omega); omega
                    refine va_iald hx hb hK hP 2 1 rfl rfl (ti_in vx_5150 (by omega) (by omega)) dX7_find_70 ?_
                    refine lv_topi (fun x_5151 ex_5151 => ?_)
                    have hG := hG.trans (lt_eq ex_5151)
                    have kx_5151 : (fM_fresh x_5150.toNatClampNeg).toInt = x_5151.toInt := by rw [ex_5151]
                    have cx_5151 : (fM_fresh (143 + 8 * z_5108.toNatClampNeg + z_5136.toNatClampNeg)).toInt = x_5151.toInt := by rw [show 143 + 8 * z_5108.toNatClampNeg + z_5136.toNatClampNeg = x_5150.toNatClampNeg from by have q9 := ti_cl (x := x_5150) vx_5150 (by omega); have q_z_5108 := ti_cl (x := z_5108) rfl (by omega); have q_z_5136 := ti_cl (x := z_5136) rfl (by omega); omega]; exact kx_5151
                    refine lv_aload_n hx hb dX7_find_71 rfl (lv_at hl 3 rfl) ?_
                    refine va_get (D := (dC, dI)) (ci := 7) (v := .ref rM_letters) (C := RX7) (T := TX7) (N := 48) hx hb hts inX7 hown hK hP 0 rfl rfl 12 (by decide) (hts _ wd_154) (fun _ h9 => h9) rfl dX7_find_72 ?_
                    refine lv_iload_n hx hb dX7_find_75 rfl (lv_at hl 0 rfl) ?_
                    refine va_iald hx hb hK hP 1 0 rfl rfl (ti_in rfl (by omega) (by omega)) dX7_find_76 ?_
                    refine lv_topi (fun x_5152 ex_5152 => ?_)
                    have hG := hG.trans (lt_eq ex_5152)
                    have kx_5152 : (fM_letters z_5136.toNatClampNeg).toInt = x_5152.toInt := by rw [ex_5152]
                    have cx_5152 := kx_5152
                    refine lv_icmp_ne (tgt := 84) hx hb dX7_find_77 (by decide) (fun c_5153 => ?_) (fun c_5153 => ?_)
                    · skip
                      have hG := hG.trans (if_neg c_5153)
                      have gc_5153 := ti_ne c_5153 rfl rfl
                      refine lv_iconst (v := 0) hx hb dX7_find_84 (by decide) ?_
                      refine lv_istore_n (lv' := [(2, .int 0), (3, .int z_5136), (1, .int z_5108), (0, .ref oM)]) hx hb dX7_find_85 rfl hl (by decide) rfl (fun ls hl => ?_)
                      obtain ⟨x_5154, ex_5154⟩ : ∃ z : Int32, z = z_5136 + Int32.ofInt 1 := ⟨_, rfl⟩
                      have hG := hG.trans (lt_eq ex_5154)
                      have vx_5154 : x_5154.toInt = z_5136.toInt + 1 := by have q := ti_add (y := 1) ex_5154 rfl kc_1 (by omega) (by omega); omega
                      refine lv_iinc (v := x_5154) (lv' := [(3, .int x_5154), (2, .int 0), (1, .int z_5108), (0, .ref oM)]) hx hb dX7_find_86 hl (k := 1) rfl ex_5154.symm (by decide) rfl (fun ls hl => ?_)
                      refine lv_goto (tgt := 44) hx hb dX7_find_89 (by decide) ?_
                      exact ih_n_5138 x_5154 0 _ _ _  (by first | omega | decide | assumption) (by first | omega | decide | assumption) (by have q0 := kc_0; have q1 := kc_1; have q2 := kc_2; have q3 := kc_3; omega) (by omega) hG (hP.sub [0, 1, 2, 3] rfl) (hD.sub [0, 1, 2, 3] (by decide) rfl) hS (lv_sub hl [0, 1, 2, 3] rfl)
                    · skip
                      have hG := hG.trans (if_pos c_5153)
                      have gc_5153 := ti_eq c_5153 rfl rfl
                      refine lv_iconst (v := 1) hx hb dX7_find_80 (by decide) ?_
                      refine lv_goto (tgt := 85) hx hb dX7_find_81 (by decide) ?_
                      refine lv_istore_n (lv' := [(2, .int 1), (3, .int z_5136), (1, .int z_5108), (0, .ref oM)]) hx hb dX7_find_85 rfl hl (by decide) rfl (fun ls hl => ?_)
                      obtain ⟨x_5155, ex_5155⟩ : ∃ z : Int32, z = z_5136 + Int32.ofInt 1 := ⟨_, rfl⟩
                      have hG := hG.trans (lt_eq ex_5155)
                      have vx_5155 : x_5155.toInt = z_5136.toInt + 1 := by have q := ti_add (y := 1) ex_5155 rfl kc_1 (by omega) (by omega); omega
                      refine lv_iinc (v := x_5155) (lv' := [(3, .int x_5155), (2, .int 1), (1, .int z_5108), (0, .ref oM)]) hx hb dX7_find_86 hl (k := 1) rfl ex_5155.symm (by decide) rfl (fun ls hl => ?_)
                      refine lv_goto (tgt := 44) hx hb dX7_find_89 (by decide) ?_
                      exact ih_n_5138 x_5155 1 _ _ _  (by first | omega | decide | assumption) (by first | omega | decide | assumption) (by have q0 := kc_0; have q1 := kc_1; have q2 := kc_2; have q3 := kc_3; omega) (by omega) hG (hP.sub [0, 1, 2, 3] rfl) (hD.sub [0, 1, 2, 3] (by decide) rfl) hS (lv_sub hl [0, 1, 2, 3] rfl)
            exact key_n_5138 (((iM_nameSize.toInt - (0 : Int32).toInt).toNat) + 1) 0 0 _ _ _  (by first | omega | decide | assumption | (have q0 := kc_0; have q1 := kc_1; omega)) (by first | omega | decide | assumption | (have q0 := kc_0; have q1 := kc_1; omega)) (by first | omega | decide | assumption | (have q0 := kc_0; have q1 := kc_1; omega)) (by omega) hG hP hD hS hl
          · skip
            have hG := hG.trans (if_pos c_5135)
            have gc_5135 := ti_eq c_5135 rfl rfl
            refine lv_iconst (v := 1) hx hb dX7_find_36 (by decide) ?_
            refine lv_goto (tgt := 41) hx hb dX7_find_37 (by decide) ?_
            refine lv_istore_n (lv' := [(2, .int 1), (1, .int z_5108), (0, .ref oM)]) hx hb dX7_find_41 rfl hl (by decide) rfl (fun ls hl => ?_)
            refine lv_iconst (v := 0) hx hb dX7_find_42 (by decide) ?_
            refine lv_istore_n (lv' := [(3, .int 0), (2, .int 1), (1, .int z_5108), (0, .ref oM)]) hx hb dX7_find_43 rfl hl (by decide) rfl (fun ls hl => ?_)
            have hl := lv_sub hl (l' := [(3, .int 0), (2, .int 1), (1, .int z_5108), (0, .ref oM)]) [0, 1, 2, 3] rfl
            have key_n_5158 : ∀ (n_5158 : Nat) (z_5156 : Int32) (z_5157 : Int32) (H : Heap) (locs : List Loc) (ls : Array Slot), (0 ≤ z_5156.toInt ∧ z_5156.toInt ≤ iM_nameSize.toInt) → (0 ≤ z_5157.toInt ∧ z_5157.toInt ≤ 1) → (1 ≤ z_5157.toInt → 1 ≤ (fM_fresh (125 + z_5108.toNatClampNeg)).toInt) → (iM_nameSize.toInt - z_5156.toInt).toNat < n_5158 → (PX7_find iM_nameSize fM_letters fM_fresh = HX7_find_1 iM_nameSize fM_letters fM_fresh z_5108 (fun (z_5108 : Int32) => HX7_find_0 iM_nameSize fM_letters fM_fresh n_5109 z_5108) n_5158 z_5156 z_5157) → va_P (dC, dI) vwCl [(oc7 oM iM_thrown rM_tape iM_taped iM_size iM_at iM_end iM_token iM_whole iM_nameSize iM_fault iM_place iM_trouble rM_letters iM_failed iM_hasCourt rM_r rM_fresh rM_told rM_read rM_st rM_undone rM_kept iM_undos iM_images rM_fresher iM_fresherSize iM_scale iM_night rM_heardRow rM_cutRow iM_breaths iM_cutMany iM_allBreaths rM_trial rM_words iM_fewestBreaths iM_orderMany iM_orderSum iM_leastOrder rM_often iM_setMany iM_someOf iM_allOf iM_allWeight iM_enoughWeight iM_worthSum iM_firstRest iM_leastDrawn), (arI rM_letters kM_letters 8 fM_letters), (arI rM_fresh kM_fresh 287 fM_fresh), (arI rM_read kM_read 90 fM_read)] H → va_D A [(oc7 oM iM_thrown rM_tape iM_taped iM_size iM_at iM_end iM_token iM_whole iM_nameSize iM_fault iM_place iM_trouble rM_letters iM_failed iM_hasCourt rM_r rM_fresh rM_told rM_read rM_st rM_undone rM_kept iM_undos iM_images rM_fresher iM_fresherSize iM_scale iM_night rM_heardRow rM_cutRow iM_breaths iM_cutMany iM_allBreaths rM_trial rM_words iM_fewestBreaths iM_orderMany iM_orderSum iM_leastOrder rM_often iM_setMany iM_someOf iM_allOf iM_allWeight iM_enoughWeight iM_worthSum iM_firstRest iM_leastDrawn), (arI rM_letters kM_letters 8 fM_letters), (arI rM_fresh kM_fresh 287 fM_fresh), (arI rM_read kM_read 90 fM_read)] → va_S A s.heap H locs → lv_has ls 4 [(3, .int z_5156), (2, .int z_5157), (1, .int z_5108), (0, .ref oM)] → W p l e (headSpec (Cond.code yX7_find cX7_find 4 (some .int) :: wG) ({ frames := 0, cells := 0, slots := 0, locals := 0 })).room s m ([.ref oM] : List Value).toArray below meth c H locs 0 0 (MQ below (va_Qi (fun (r : Int32) (_ : Nat) => (True ∧ (-1 ≤ r.toInt ∧ r.toInt < (fM_fresh 1).toInt ∧ r.toInt ≤ 17)) ∧ PX7_find iM_nameSize fM_letters fM_fresh = r) (fun (_ : Nat) (t : State) => Bw dC dI A [(oc7 oM iM_thrown rM_tape iM_taped iM_size iM_at iM_end iM_token iM_whole iM_nameSize iM_fault iM_place iM_trouble rM_letters iM_failed iM_hasCourt rM_r rM_fresh rM_told rM_read rM_st rM_undone rM_kept iM_undos iM_images rM_fresher iM_fresherSize iM_scale iM_night rM_heardRow rM_cutRow iM_breaths iM_cutMany iM_allBreaths rM_trial rM_words iM_fewestBreaths iM_orderMany iM_orderSum iM_leastOrder rM_often iM_setMany iM_someOf iM_allOf iM_allWeight iM_enoughWeight iM_worthSum iM_firstRest iM_leastDrawn), (arI rM_letters kM_letters 8 fM_letters), (arI rM_fresh kM_fresh 287 fM_fresh), (arI rM_read kM_read 90 fM_read)] [(kM_letters, .int), (kM_fresh, .int), (kM_read, .int)] t) A) ([.ref oM] : List Value).toArray s 0 0 A) (F0 m 44 ls []) := by
              intro n_5158
              induction n_5158 with
              | zero => intro z_5156 z_5157 H locs ls hi0_n_5158 hi1_n_5158 hi2_n_5158 hm; exact absurd hm (by omega)
              | succ n_5158 ih_n_5158 =>
                intro z_5156 z_5157 H locs ls hi0_n_5158 hi1_n_5158 hi2_n_5158 hm hG hP hD hS hl
                have hG := hG.trans (HX7_find_1_eq _ _ _ _ _ _ _ _)
                have nm_z_5108 : 1 ≤ (fM_fresh (125 + z_5108.toNatClampNeg)).toInt → z_5108.toInt < (fM_fresh 1).toInt := fun h9 => by have q1 := ti_cl (x := z_5108) rfl (by omega); have q2 := r_P.1.names z_5108.toNatClampNeg (by omega) (by omega); omega
                have h_5159 := nm_z_5108 (by omega)
                clear nm_z_5108
                refine lv_iload_n hx hb dX7_find_44 rfl (lv_at hl 0 rfl) ?_
                refine lv_aload_n hx hb dX7_find_45 rfl (lv_at hl 3 rfl) ?_
                refine va_get (D := (dC, dI)) (ci := 7) (v := .int iM_nameSize) (C := RX7) (T := TX7) (N := 48) hx hb hts inX7 hown hK hP 0 rfl rfl 8 (by decide) (hts _ wd_404) (fun _ h9 => h9) rfl dX7_find_46 ?_
                refine lv_icmp_ge (tgt := 92) hx hb dX7_find_49 (by decide) (fun c_5160 => ?_) (fun c_5160 => ?_)
                · skip
                  have hG := hG.trans (if_pos c_5160)
                  have gc_5160 := ti_le c_5160 rfl rfl
                  refine lv_iload_n hx hb dX7_find_92 rfl (lv_at hl 1 rfl) ?_
                  refine lv_if_eq (tgt := 98) hx hb dX7_find_93 (by decide) (fun c_5161 => ?_) (fun c_5161 => ?_)
                  · skip
                    have hG := hG.trans (if_pos c_5161)
                    have gc_5161 := ti_eq c_5161 rfl kc_0
                    clear hi2_n_5158
                    obtain ⟨x_5162, ex_5162⟩ : ∃ z : Int32, z = z_5108 + Int32.ofInt 1 := ⟨_, rfl⟩
                    have hG := hG.trans (lt_eq ex_5162)
                    have vx_5162 : x_5162.toInt = z_5108.toInt + 1 := by have q := ti_add (y := 1) ex_5162 rfl kc_1 (by omega) (by omega); omega
                    refine lv_iinc (v := x_5162) (lv' := [(1, .int x_5162), (3, .int z_5156), (2, .int z_5157), (0, .ref oM)]) hx hb dX7_find_98 hl (k := 2) rfl ex_5162.symm (by decide) rfl (fun ls hl => ?_)
                    refine lv_goto (tgt := 2) hx hb dX7_find_101 (by decide) ?_
                    exact ih_n_5109 x_5162 _ _ _  (by first | omega | decide | assumption) (by omega) hG (hP.sub [0, 1, 2, 3] rfl) (hD.sub [0, 1, 2, 3] (by decide) rfl) hS (lv_sub hl [0, 3] rfl)
                  · skip
                    have hG := hG.trans (if_neg c_5161)
                    have gc_5161 := ti_ne c_5161 rfl kc_0
                    replace gc_5161 : (-1) * z_5157.toInt + 1 ≤ 0 := by omega
                    have h_5163 := hi2_n_5158 (by omega)
                    clear hi2_n_5158
                    refine lv_iload_n hx hb dX7_find_96 rfl (lv_at hl 2 rfl) ?_
                    exact W.iret hx hb hr (fun t ht hW => ⟨⟨_, 0, rfl, ⟨⟨trivial, (by first | omega | assumption)⟩, hG⟩, Bw.to (hP.sub [0, 1, 2, 3] rfl) (hD.sub [0, 1, 2, 3] (by decide) rfl) (hK.sub [0, 1, 2] rfl) ht hW⟩, hS.F ht⟩) hS.2.2 dX7_find_97
                · skip
                  have hG := hG.trans (if_neg c_5160)
                  have gc_5160 := ti_nle c_5160 rfl rfl
                  refine lv_iload_n hx hb dX7_find_52 rfl (lv_at hl 1 rfl) ?_
                  refine lv_if_eq (tgt := 92) hx hb dX7_find_53 (by decide) (fun c_5164 => ?_) (fun c_5164 => ?_)
                  · skip
                    have hG := hG.trans (if_pos c_5164)
                    have gc_5164 := ti_eq c_5164 rfl kc_0
                    clear hi2_n_5158
                    refine lv_iload_n hx hb dX7_find_92 rfl (lv_at hl 1 rfl) ?_
                    refine lv_if_eq (tgt := 98) hx hb dX7_find_93 (by decide) (fun c_5165 => ?_) (fun c_5165 => ?_)
                    · skip
                      have hG := hG.trans (if_pos c_5165)
                      have gc_5165 := ti_eq c_5165 rfl kc_0
                      obtain ⟨x_5166, ex_5166⟩ : ∃ z : Int32, z = z_5108 + Int32.ofInt 1 := ⟨_, rfl⟩
                      have hG := hG.trans (lt_eq ex_5166)
                      have vx_5166 : x_5166.toInt = z_5108.toInt + 1 := by have q := ti_add (y := 1) ex_5166 rfl kc_1 (by omega) (by omega); omega
                      refine lv_iinc (v := x_5166) (lv' := [(1, .int x_5166), (3, .int z_5156), (2, .int z_5157), (0, .ref oM)]) hx hb dX7_find_98 hl (k := 2) rfl ex_5166.symm (by decide) rfl (fun ls hl => ?_)
                      refine lv_goto (tgt := 2) hx hb dX7_find_101 (by decide) ?_
                      exact ih_n_5109 x_5166 _ _ _  (by first | omega | decide | assumption) (by omega) hG (hP.sub [0, 1, 2, 3] rfl) (hD.sub [0, 1, 2, 3] (by decide) rfl) hS (lv_sub hl [0, 3] rfl)
                    · skip
                      have hG := hG.trans (if_neg c_5165)
                      have gc_5165 := ti_ne c_5165 rfl kc_0
                      replace gc_5165 : z_5157.toInt + 1 ≤ 0 := by omega
                      exfalso; clear hG; omega
                  · skip
                    have hG := hG.trans (if_neg c_5164)
                    have gc_5164 := ti_ne c_5164 rfl kc_0
                    replace gc_5164 : (-1) * z_5157.toInt + 1 ≤ 0 := by omega
                    have h_5167 := hi2_n_5158 (by omega)
                    clear hi2_n_5158
                    refine lv_aload_n hx hb dX7_find_56 rfl (lv_at hl 3 rfl) ?_
                    refine va_get (D := (dC, dI)) (ci := 7) (v := .ref rM_fresh) (C := RX7) (T := TX7) (N := 48) hx hb hts inX7 hown hK hP 0 rfl rfl 16 (by decide) (hts _ wd_156) (fun _ h9 => h9) rfl dX7_find_57 ?_
                    refine lv_sipush (v := 143) hx hb dX7_find_60 (by decide) ?_
                    refine lv_bipush (v := 8) hx hb dX7_find_63 (by decide) ?_
                    refine lv_iload_n hx hb dX7_find_65 rfl (lv_at hl 2 rfl) ?_
                    refine lv_imul hx hb dX7_find_66 ?_
                    refine lv_topi (fun x_5168 ex_5168 => ?_)
                    have hG := hG.trans (lt_eq ex_5168)
                    have vx_5168 : x_5168.toInt = 8 * z_5108.toInt := by have q := ti_mul ex_5168 kc_8 rfl (by omega) (by omega); omega
                    refine lv_iadd hx hb dX7_find_67 ?_
                    refine lv_topi (fun x_5169 ex_5169 => ?_)
                    have hG := hG.trans (lt_eq ex_5169)
                    have vx_5169 : x_5169.toInt = 8 * z_5108.toInt + 143 := by have q := ti_add ex_5169 kc_143 vx_5168 (by omega) (by omega); omega
                    refine lv_iload_n hx hb dX7_find_68 rfl (lv_at hl 0 rfl) ?_
                    refine lv_iadd hx hb dX7_find_69 ?_
                    refine lv_topi (fun x_5170 ex_5170 => ?_)
                    have hG := hG.trans (lt_eq ex_5170)
                    have vx_5170 : x_5170.toInt = 8 * z_5108.toInt + z_5156.toInt + 143 := by have q := ti_add ex_5170 vx_5169 rfl (by omega) (by omega); omega
                    refine va_iald hx hb hK hP 2 1 rfl rfl (ti_in vx_5170 (by omega) (by omega)) dX7_find_70 ?_
                    refine lv_topi (fun x_5171 ex_5171 => ?_)
                    have hG := hG.trans (lt_eq ex_5171)
                    have kx_5171 : (fM_fresh x_5170.toNatClampNeg).toInt = x_5171.toInt := by rw [ex_5171]
                    have cx_5171 : (fM_fresh (143 + 8 * z_5108.toNatClampNeg + z_5156.toNatClampNeg)).toInt = x_5171.toInt := by rw [show 143 + 8 * z_5108.toNatClampNeg + z_5156.toNatClampNeg = x_5170.toNatClampNeg from by have q9 := ti_cl (x := x_5170) vx_5170 (by omega); have q_z_5108 := ti_cl (x := z_5108) rfl (by omega); have q_z_5156 := ti_cl (x := z_5156) rfl (by omega); omega]; exact kx_5171
                    refine lv_aload_n hx hb dX7_find_71 rfl (lv_at hl 3 rfl) ?_
                    refine va_get (D := (dC, dI)) (ci := 7) (v := .ref rM_letters) (C := RX7) (T := TX7) (N := 48) hx hb hts inX7 hown hK hP 0 rfl rfl 12 (by decide) (hts _ wd_154) (fun _ h9 => h9) rfl dX7_find_72 ?_
                    refine lv_iload_n hx hb dX7_find_75 rfl (lv_at hl 0 rfl) ?_
                    refine va_iald hx hb hK hP 1 0 rfl rfl (ti_in rfl (by omega) (by omega)) dX7_find_76 ?_
                    refine lv_topi (fun x_5172 ex_5172 => ?_)
                    have hG := hG.trans (lt_eq ex_5172)
                    have kx_5172 : (fM_letters z_5156.toNatClampNeg).toInt = x_5172.toInt := by rw [ex_5172]
                    have cx_5172 := kx_5172
                    refine lv_icmp_ne (tgt := 84) hx hb dX7_find_77 (by decide) (fun c_5173 => ?_) (fun c_5173 => ?_)
                    · skip
                      have hG := hG.trans (if_neg c_5173)
                      have gc_5173 := ti_ne c_5173 rfl rfl
                      refine lv_iconst (v := 0) hx hb dX7_find_84 (by decide) ?_
                      refine lv_istore_n (lv' := [(2, .int 0), (3, .int z_5156), (1, .int z_5108), (0, .ref oM)]) hx hb dX7_find_85 rfl hl (by decide) rfl (fun ls hl => ?_)
                      obtain ⟨x_5174, ex_5174⟩ : ∃ z : Int32, z = z_5156 + Int32.ofInt 1 := ⟨_, rfl⟩
                      have hG := hG.trans (lt_eq ex_5174)
                      have vx_5174 : x_5174.toInt = z_5156.toInt + 1 := by have q := ti_add (y := 1) ex_5174 rfl kc_1 (by omega) (by omega); omega
                      refine lv_iinc (v := x_5174) (lv' := [(3, .int x_5174), (2, .int 0), (1, .int z_5108), (0, .ref oM)]) hx hb dX7_find_86 hl (k := 1) rfl ex_5174.symm (by decide) rfl (fun ls hl => ?_)
                      refine lv_goto (tgt := 44) hx hb dX7_find_89 (by decide) ?_
                      exact ih_n_5158 x_5174 0 _ _ _  (by first | omega | decide | assumption) (by first | omega | decide | assumption) (by have q0 := kc_0; have q1 := kc_1; have q2 := kc_2; have q3 := kc_3; omega) (by omega) hG (hP.sub [0, 1, 2, 3] rfl) (hD.sub [0, 1, 2, 3] (by decide) rfl) hS (lv_sub hl [0, 1, 2, 3] rfl)
                    · skip
                      have hG := hG.trans (if_pos c_5173)
                      have gc_5173 := ti_eq c_5173 rfl rfl
                      refine lv_iconst (v := 1) hx hb dX7_find_80 (by decide) ?_
                      refine lv_goto (tgt := 85) hx hb dX7_find_81 (by decide) ?_
                      refine lv_istore_n (lv' := [(2, .int 1), (3, .int z_5156), (1, .int z_5108), (0, .ref oM)]) hx hb dX7_find_85 rfl hl (by decide) rfl (fun ls hl => ?_)
                      obtain ⟨x_5175, ex_5175⟩ : ∃ z : Int32, z = z_5156 + Int32.ofInt 1 := ⟨_, rfl⟩
                      have hG := hG.trans (lt_eq ex_5175)
                      have vx_5175 : x_5175.toInt = z_5156.toInt + 1 := by have q := ti_add (y := 1) ex_5175 rfl kc_1 (by omega) (by omega); omega
                      refine lv_iinc (v := x_5175) (lv' := [(3, .int x_5175), (2, .int 1), (1, .int z_5108), (0, .ref oM)]) hx hb dX7_find_86 hl (k := 1) rfl ex_5175.symm (by decide) rfl (fun ls hl => ?_)
                      refine lv_goto (tgt := 44) hx hb dX7_find_89 (by decide) ?_
                      exact ih_n_5158 x_5175 1 _ _ _  (by first | omega | decide | assumption) (by first | omega | decide | assumption) (by have q0 := kc_0; have q1 := kc_1; have q2 := kc_2; have q3 := kc_3; omega) (by omega) hG (hP.sub [0, 1, 2, 3] rfl) (hD.sub [0, 1, 2, 3] (by decide) rfl) hS (lv_sub hl [0, 1, 2, 3] rfl)
            exact key_n_5158 (((iM_nameSize.toInt - (0 : Int32).toInt).toNat) + 1) 0 1 _ _ _  (by first | omega | decide | assumption | (have q0 := kc_0; have q1 := kc_1; omega)) (by first | omega | decide | assumption | (have q0 := kc_0; have q1 := kc_1; omega)) (by first | omega | decide | assumption | (have q0 := kc_0; have q1 := kc_1; omega)) (by omega) hG hP hD hS hl
  exact key_n_5109 (((18 - (0 : Int32).toInt).toNat) + 1) 0 _ _ _  (by first | omega | decide | assumption | (have q0 := kc_0; have q1 := kc_1; omega)) (by omega) hG hP hD hS hl
set_option maxHeartbeats 4000000 in
set_option maxRecDepth 100000 in
theorem tX7_newName (l : Launch) (dC : Nat → ClassId) (dI : Nat → Nat → Nat) (sz : Nat) (oM : Nat) (iM_thrown : Int32) (rM_tape : Nat) (fM_tape : Nat → Int32) (kM_tape : ClassId) (iM_taped : Int32) (iM_size : Int32) (iM_at : Int32) (iM_end : Int32) (iM_token : Int32) (iM_whole : Int32) (iM_nameSize : Int32) (iM_fault : Int32) (iM_place : Int32) (iM_trouble : Int32) (rM_letters : Nat) (fM_letters : Nat → Int32) (kM_letters : ClassId) (iM_failed : Int32) (iM_hasCourt : Int32) (rM_r : Nat) (rM_fresh : Nat) (fM_fresh : Nat → Int32) (kM_fresh : ClassId) (rM_told : Nat) (rM_read : Nat) (fM_read : Nat → Int32) (kM_read : ClassId) (rM_st : Nat) (rM_undone : Nat) (rM_kept : Nat) (iM_undos : Int32) (iM_images : Int32) (rM_fresher : Nat) (fM_fresher : Nat → Int32) (kM_fresher : ClassId) (iM_fresherSize : Int32) (iM_scale : Int32) (iM_night : Int32) (rM_heardRow : Nat) (rM_cutRow : Nat) (iM_breaths : Int32) (iM_cutMany : Int32) (iM_allBreaths : Int32) (rM_trial : Nat) (rM_words : Nat) (iM_fewestBreaths : Int32) (iM_orderMany : Int32) (iM_orderSum : Int32) (iM_leastOrder : Int32) (rM_often : Nat) (iM_setMany : Int32) (iM_someOf : Int32) (iM_allOf : Int32) (iM_allWeight : Int64) (iM_enoughWeight : Int64) (iM_worthSum : Int64) (iM_firstRest : Int32) (iM_leastDrawn : Int32) (b_iM_taped : 0 ≤ iM_taped.toInt ∧ iM_taped.toInt ≤ 900) (b_iM_size : 0 ≤ iM_size.toInt ∧ iM_size.toInt ≤ 900) (b_iM_end : 0 ≤ iM_end.toInt ∧ iM_end.toInt ≤ 900) (b_iM_nameSize : 0 ≤ iM_nameSize.toInt ∧ iM_nameSize.toInt ≤ 900) (b_iM_failed : 0 ≤ iM_failed.toInt ∧ iM_failed.toInt ≤ 1) (b_iM_hasCourt : 0 ≤ iM_hasCourt.toInt ∧ iM_hasCourt.toInt ≤ 1) (b_iM_undos : 0 ≤ iM_undos.toInt ∧ iM_undos.toInt ≤ 16) (b_iM_images : 0 ≤ iM_images.toInt ∧ iM_images.toInt ≤ 3) (b_iM_scale : 1 ≤ iM_scale.toInt ∧ iM_scale.toInt ≤ 1296) (b_iM_breaths : 0 ≤ iM_breaths.toInt ∧ iM_breaths.toInt ≤ 399) (b_iM_cutMany : 0 ≤ iM_cutMany.toInt ∧ iM_cutMany.toInt ≤ 399) (r_T : ImpP (iM_token.toInt = 2) (iM_nameSize.toInt ≤ 8)) (r_P : POk fM_fresh fM_read)  : Met l yX7_newName (Cond.code yX7_newName cX7_newName 1 none :: wG) ({ frames := 6, cells := 0, slots := 0, locals := 154 }) (va_Pc [.ref oM] (Pw dC dI sz [(oc7 oM iM_thrown rM_tape iM_taped iM_size iM_at iM_end iM_token iM_whole iM_nameSize iM_fault iM_place iM_trouble rM_letters iM_failed iM_hasCourt rM_r rM_fresh rM_told rM_read rM_st rM_undone rM_kept iM_undos iM_images rM_fresher iM_fresherSize iM_scale iM_night rM_heardRow rM_cutRow iM_breaths iM_cutMany iM_allBreaths rM_trial rM_words iM_fewestBreaths iM_orderMany iM_orderSum iM_leastOrder rM_often iM_setMany iM_someOf iM_allOf iM_allWeight iM_enoughWeight iM_worthSum iM_firstRest iM_leastDrawn), (arI rM_tape kM_tape 900 fM_tape), (arI rM_letters kM_letters 8 fM_letters), (arI rM_fresh kM_fresh 287 fM_fresh), (arI rM_read kM_read 90 fM_read), (arI rM_fresher kM_fresher 8 fM_fresher)] [(kM_tape, .int), (kM_letters, .int), (kM_fresh, .int), (kM_read, .int), (kM_fresher, .int)])) (va_Qv (fun (_ : Nat) => True) (fun (_ : Nat) (t : State) => ∃ (niM_at : Int32) (niM_end : Int32) (niM_token : Int32) (niM_whole : Int32) (niM_nameSize : Int32) (niM_fault : Int32) (niM_place : Int32) (niM_failed : Int32) (niM_fresherSize : Int32) (nfM_letters : Nat → Int32) (nfM_fresher : Nat → Int32), (0 ≤ niM_end.toInt ∧ niM_end.toInt ≤ 900) ∧ (0 ≤ niM_nameSize.toInt ∧ niM_nameSize.toInt ≤ 900) ∧ (0 ≤ niM_failed.toInt ∧ niM_failed.toInt ≤ 1) ∧ (iM_end.toInt ≤ niM_end.toInt) ∧ (ImpP (niM_token.toInt = 2) (niM_nameSize.toInt ≤ 8)) ∧ (iM_failed.toInt ≤ niM_failed.toInt) ∧ (ImpP (niM_failed.toInt ≤ 0 ∧ niM_token.toInt = 59 ) (iM_end.toInt + 1 ≤ niM_end.toInt)) ∧ (PX7_newName fM_tape iM_size iM_at iM_end iM_token iM_whole iM_nameSize iM_fault iM_place fM_letters iM_failed fM_fresh fM_fresher iM_fresherSize = (niM_at, niM_end, niM_token, niM_whole, niM_nameSize, niM_fault, niM_place, niM_failed, niM_fresherSize, nfM_letters, nfM_fresher)) ∧ Bw dC dI (va_A [(oc7 oM iM_thrown rM_tape iM_taped iM_size iM_at iM_end iM_token iM_whole iM_nameSize iM_fault iM_place iM_trouble rM_letters iM_failed iM_hasCourt rM_r rM_fresh rM_told rM_read rM_st rM_undone rM_kept iM_undos iM_images rM_fresher iM_fresherSize iM_scale iM_night rM_heardRow rM_cutRow iM_breaths iM_cutMany iM_allBreaths rM_trial rM_words iM_fewestBreaths iM_orderMany iM_orderSum iM_leastOrder rM_often iM_setMany iM_someOf iM_allOf iM_allWeight iM_enoughWeight iM_worthSum iM_firstRest iM_leastDrawn), (arI rM_tape kM_tape 900 fM_tape), (arI rM_letters kM_letters 8 fM_letters), (arI rM_fresh kM_fresh 287 fM_fresh), (arI rM_read kM_read 90 fM_read), (arI rM_fresher kM_fresher 8 fM_fresher)] sz) [(oc7 oM iM_thrown rM_tape iM_taped iM_size niM_at niM_end niM_token niM_whole niM_nameSize niM_fault niM_place iM_trouble rM_letters niM_failed iM_hasCourt rM_r rM_fresh rM_told rM_read rM_st rM_undone rM_kept iM_undos iM_images rM_fresher niM_fresherSize iM_scale iM_night rM_heardRow rM_cutRow iM_breaths iM_cutMany iM_allBreaths rM_trial rM_words iM_fewestBreaths iM_orderMany iM_orderSum iM_leastOrder rM_often iM_setMany iM_someOf iM_allOf iM_allWeight iM_enoughWeight iM_worthSum iM_firstRest iM_leastDrawn), (arI rM_tape kM_tape 900 fM_tape), (arI rM_letters kM_letters 8 nfM_letters), (arI rM_fresh kM_fresh 287 fM_fresh), (arI rM_read kM_read 90 fM_read), (arI rM_fresher kM_fresher 8 nfM_fresher)] [(kM_tape, .int), (kM_letters, .int), (kM_fresh, .int), (kM_read, .int), (kM_fresher, .int)] t) (va_A [(oc7 oM iM_thrown rM_tape iM_taped iM_size iM_at iM_end iM_token iM_whole iM_nameSize iM_fault iM_place iM_trouble rM_letters iM_failed iM_hasCourt rM_r rM_fresh rM_told rM_read rM_st rM_undone rM_kept iM_undos iM_images rM_fresher iM_fresherSize iM_scale iM_night rM_heardRow rM_cutRow iM_breaths iM_cutMany iM_allBreaths rM_trial rM_words iM_fewestBreaths iM_orderMany iM_orderSum iM_leastOrder rM_often iM_setMany iM_someOf iM_allOf iM_allWeight iM_enoughWeight iM_worthSum iM_firstRest iM_leastDrawn), (arI rM_tape kM_tape 900 fM_tape), (arI rM_letters kM_letters 8 fM_letters), (arI rM_fresh kM_fresh 287 fM_fresh), (arI rM_read kM_read 90 fM_read), (arI rM_fresher kM_fresher 8 fM_fresher)] sz)) 0 0 (va_A [(oc7 oM iM_thrown rM_tape iM_taped iM_size iM_at iM_end iM_token iM_whole iM_nameSize iM_fault iM_place iM_trouble rM_letters iM_failed iM_hasCourt rM_r rM_fresh rM_told rM_read rM_st rM_undone rM_kept iM_undos iM_images rM_fresher iM_fresherSize iM_scale iM_night rM_heardRow rM_cutRow iM_breaths iM_cutMany iM_allBreaths rM_trial rM_words iM_fewestBreaths iM_orderMany iM_orderSum iM_leastOrder rM_often iM_setMany iM_someOf iM_allOf iM_allWeight iM_enoughWeight iM_worthSum iM_firstRest iM_leastDrawn), (arI rM_tape kM_tape 900 fM_tape), (arI rM_letters kM_letters 8 fM_letters), (arI rM_fresh kM_fresh 287 fM_fresh), (arI rM_read kM_read 90 fM_read), (arI rM_fresher kM_fresher 8 fM_fresher)] sz) := by
  refine Met.ofW (cc := cX7_newName) (maxL := 1) (ret := none) (by decide) rfl ?_
  intro p e s m args below meth c s₁ B hml hv
  obtain ⟨rfl, hsz, hP, hK, hD0, hE⟩ := hv
  have hx := B.exec
  have hb := B.bytes
  have hr := B.returns
  have hts : ∀ w ∈ wG, w.before ([.ref oM] : List Value).toArray s = true := fun w h => atoms_spec (ws := Cond.code yX7_newName cX7_newName 1 none :: wG) B.pre w (List.mem_cons_of_mem _ h)
  have hown : s.vm.findClass RX7 = some m.cls := findClass_of_methodNamed B.named
  have hlocks := B.notSynchronized
  subst hsz
  have hD := hD0.self (sz := s.heap.size)
  generalize hAe : va_A [(oc7 oM iM_thrown rM_tape iM_taped iM_size iM_at iM_end iM_token iM_whole iM_nameSize iM_fault iM_place iM_trouble rM_letters iM_failed iM_hasCourt rM_r rM_fresh rM_told rM_read rM_st rM_undone rM_kept iM_undos iM_images rM_fresher iM_fresherSize iM_scale iM_night rM_heardRow rM_cutRow iM_breaths iM_cutMany iM_allBreaths rM_trial rM_words iM_fewestBreaths iM_orderMany iM_orderSum iM_leastOrder rM_often iM_setMany iM_someOf iM_allOf iM_allWeight iM_enoughWeight iM_worthSum iM_firstRest iM_leastDrawn), (arI rM_tape kM_tape 900 fM_tape), (arI rM_letters kM_letters 8 fM_letters), (arI rM_fresh kM_fresh 287 fM_fresh), (arI rM_read kM_read 90 fM_read), (arI rM_fresher kM_fresher 8 fM_fresher)] s.heap.size = A at hD hE ⊢
  have hA : ∀ q : Nat, s.heap.size ≤ q → A q := fun q h => by rw [← hAe]; exact Or.inr h
  have hS : va_S A s.heap s.heap [] := va_S.rf
  have hl := lv_entry ([.ref oM]) (n := 1) (Nat.le_of_ble_eq_true rfl)
  rw [lg_entry_eq]
  generalize (lg_sl ([.ref oM]) ++ List.replicate (1 - (lg_sl ([.ref oM])).length) Slot.unset).toArray = ls at hl ⊢
  have hl : lv_has ls 1 [(0, .ref oM)] := hl
  have hG := PX7_newName_eq fM_tape iM_size iM_at iM_end iM_token iM_whole iM_nameSize iM_fault iM_place fM_letters iM_failed fM_fresh fM_fresher iM_fresherSize
  have pl_fM_fresh := r_P.lins
  refine lv_aload_n hx hb dX7_newName_0 rfl (lv_at hl 0 rfl) ?_
  refine va_get (D := (dC, dI)) (ci := 7) (v := .int iM_failed) (C := RX7) (T := TX7) (N := 48) hx hb hts inX7 hown hK hP 0 rfl rfl 13 (by decide) (hts _ wd_380) (fun _ h9 => h9) rfl dX7_newName_1 ?_
  refine lv_if_eq (tgt := 8) hx hb dX7_newName_4 (by decide) (fun c_5198 => ?_) (fun c_5198 => ?_)
  · skip
    have hG := hG.trans (if_pos c_5198)
    have gc_5198 := ti_eq c_5198 rfl kc_0
    refine lv_aload_n hx hb dX7_newName_8 rfl (lv_at hl 0 rfl) ?_
    have hFc := va_free (wc := [(oc7 oM iM_thrown rM_tape iM_taped iM_size iM_at iM_end iM_token iM_whole iM_nameSize iM_fault iM_place iM_trouble rM_letters iM_failed iM_hasCourt rM_r rM_fresh rM_told rM_read rM_st rM_undone rM_kept iM_undos iM_images rM_fresher iM_fresherSize iM_scale iM_night rM_heardRow rM_cutRow iM_breaths iM_cutMany iM_allBreaths rM_trial rM_words iM_fewestBreaths iM_orderMany iM_orderSum iM_leastOrder rM_often iM_setMany iM_someOf iM_allOf iM_allWeight iM_enoughWeight iM_worthSum iM_firstRest iM_leastDrawn), (arI rM_letters kM_letters 8 fM_letters)]) hD hS hA [0, 2] rfl
    refine va_callv (va_runV (As := []) (rest := []) ⟨hx, hb, hml, hown, hts⟩ (tX7_mustName l dC dI _ oM iM_thrown rM_tape iM_taped iM_size iM_at iM_end iM_token iM_whole iM_nameSize iM_fault iM_place iM_trouble rM_letters fM_letters kM_letters iM_failed iM_hasCourt rM_r rM_fresh rM_told rM_read rM_st rM_undone rM_kept iM_undos iM_images rM_fresher iM_fresherSize iM_scale iM_night rM_heardRow rM_cutRow iM_breaths iM_cutMany iM_allBreaths rM_trial rM_words iM_fewestBreaths iM_orderMany iM_orderSum iM_leastOrder rM_often iM_setMany iM_someOf iM_allOf iM_allWeight iM_enoughWeight iM_worthSum iM_firstRest iM_leastDrawn (by first | omega | decide) (by first | omega | decide) (by first | omega | decide) (by first | omega | decide) (by first | omega | decide) (by first | omega | decide) (by first | omega | decide) (by first | omega | decide) (by first | omega | decide) (by first | omega | decide) (by first | omega | decide) (by first | assumption | exact (fun h9 => by have q0 := kc_0; have q1 := kc_1; omega))) (cwV 0 hts (wd_V wd_467 wd_468 wd_469 wd_5 (wd_c wd_470)) rfl rfl rfl (by decide +kernel) ⟨Nat.le_of_ble_eq_true rfl, Nat.le_of_ble_eq_true rfl⟩) ⟨Pw.fb, va_recv hK hP (ci := 7) (q0 := 0) rfl rfl, fun U hU hW => Pw.to (hP.sub [0, 2] rfl) (hD.sub [0, 2] (by decide) rfl) (hK.sub [1] rfl) hE hS hFc hU hW⟩ rfl rfl hl.1 rfl (lv_room (Nat.le_of_ble_eq_true rfl)) dX7_newName_9 ⟨Nat.le_of_ble_eq_true rfl, Nat.le_of_ble_eq_true rfl⟩) hS (fun q _ h => hFc q h) hFc (fun u t H locs ht hvm hw hB hz1 hk1 hS => ?_)
    obtain ⟨x_5199, x_5200, x_5201, b_x_5201, e_x_5199_0, e_x_5199_1, e_x_5199_2, hB⟩ := hB
    obtain ⟨hP, hD, hK⟩ := Bw.go (ws' := [(arI rM_tape kM_tape 900 fM_tape), (arI rM_fresh kM_fresh 287 fM_fresh), (arI rM_read kM_read 90 fM_read), (arI rM_fresher kM_fresher 8 fM_fresher), (oc7 oM iM_thrown rM_tape iM_taped iM_size iM_at iM_end iM_token iM_whole iM_nameSize x_5199 x_5200 iM_trouble rM_letters x_5201 iM_hasCourt rM_r rM_fresh rM_told rM_read rM_st rM_undone rM_kept iM_undos iM_images rM_fresher iM_fresherSize iM_scale iM_night rM_heardRow rM_cutRow iM_breaths iM_cutMany iM_allBreaths rM_trial rM_words iM_fewestBreaths iM_orderMany iM_orderSum iM_leastOrder rM_often iM_setMany iM_someOf iM_allOf iM_allWeight iM_enoughWeight iM_worthSum iM_firstRest iM_leastDrawn), (arI rM_letters kM_letters 8 fM_letters)]) (tys' := [(kM_tape, .int), (kM_fresh, .int), (kM_read, .int), (kM_fresher, .int), (kM_letters, .int)]) hB rfl ht hvm hP hD hK [0, 2] [1, 3, 4, 5] rfl (by decide) (by decide) [0, 2, 3, 4] hk1 hFc rfl rfl rfl
    clear hz1 hk1 hvm ht hB
    have hG := hG.trans (un3_eq e_x_5199_2)
    refine lv_aload_n hx hb dX7_newName_12 rfl (lv_at hl 0 rfl) ?_
    refine va_get (D := (dC, dI)) (ci := 7) (v := .int x_5201) (C := RX7) (T := TX7) (N := 48) hx hb hts inX7 hown hK hP 4 rfl rfl 13 (by decide) (hts _ wd_380) (fun _ h9 => h9) rfl dX7_newName_13 ?_
    refine lv_if_ne (tgt := 35) hx hb dX7_newName_16 (by decide) (fun c_5202 => ?_) (fun c_5202 => ?_)
    · skip
      have hG := hG.trans (if_neg c_5202)
      have gc_5202 := ti_ne c_5202 rfl kc_0
      replace gc_5202 : (-1) * x_5201.toInt + 1 ≤ 0 := by omega
      clear e_x_5199_1
      refine lv_aload_n hx hb dX7_newName_35 rfl (lv_at hl 0 rfl) ?_
      refine va_get (D := (dC, dI)) (ci := 7) (v := .int x_5201) (C := RX7) (T := TX7) (N := 48) hx hb hts inX7 hown hK hP 4 rfl rfl 13 (by decide) (hts _ wd_380) (fun _ h9 => h9) rfl dX7_newName_36 ?_
      refine lv_if_eq (tgt := 43) hx hb dX7_newName_39 (by decide) (fun c_5203 => ?_) (fun c_5203 => ?_)
      · skip
        have hG := hG.trans (if_pos c_5203)
        have gc_5203 := ti_eq c_5203 rfl kc_0
        exfalso; clear hG; omega
      · skip
        have hG := hG.trans (if_neg c_5203)
        have gc_5203 := ti_ne c_5203 rfl kc_0
        replace gc_5203 : (-1) * x_5201.toInt + 1 ≤ 0 := by omega
        exact W.vret hx hb hr (fun t ht hW => ⟨⟨0, rfl, trivial, ⟨iM_at, iM_end, iM_token, iM_whole, iM_nameSize, x_5199, x_5200, x_5201, iM_fresherSize, fM_letters, fM_fresher, (by omega), (by omega), b_x_5201, (by first | assumption | (have q0 := kc_0; have q1 := kc_1; omega)), r_T, (by first | assumption | (have q0 := kc_0; have q1 := kc_1; omega)), (fun h9 => by have q0 := kc_0; have q1 := kc_1; omega), hG, Bw.to (hP.sub [4, 0, 5, 1, 2, 3] rfl) (hD.sub [4, 0, 5, 1, 2, 3] (by decide) rfl) (hK.sub [0, 4, 1, 2, 3] rfl) ht hW⟩⟩, hS.F ht⟩) hS.2.2 dX7_newName_42
    · skip
      have hG := hG.trans (if_pos c_5202)
      have gc_5202 := ti_eq c_5202 rfl kc_0
      have h_5204 := e_x_5199_1 (by omega)
      clear e_x_5199_1
      have h_5205 := r_T (by omega)
      clear r_T
      refine lv_aload_n hx hb dX7_newName_19 rfl (lv_at hl 0 rfl) ?_
      have hFc := va_free (wc := [(oc7 oM iM_thrown rM_tape iM_taped iM_size iM_at iM_end iM_token iM_whole iM_nameSize x_5199 x_5200 iM_trouble rM_letters x_5201 iM_hasCourt rM_r rM_fresh rM_told rM_read rM_st rM_undone rM_kept iM_undos iM_images rM_fresher iM_fresherSize iM_scale iM_night rM_heardRow rM_cutRow iM_breaths iM_cutMany iM_allBreaths rM_trial rM_words iM_fewestBreaths iM_orderMany iM_orderSum iM_leastOrder rM_often iM_setMany iM_someOf iM_allOf iM_allWeight iM_enoughWeight iM_worthSum iM_firstRest iM_leastDrawn), (arI rM_letters kM_letters 8 fM_letters), (arI rM_fresh kM_fresh 287 fM_fresh), (arI rM_read kM_read 90 fM_read)]) hD hS hA [4, 5, 1, 2] rfl
      refine va_calli (va_runV (As := []) (rest := []) ⟨hx, hb, hml, hown, hts⟩ (tX7_find l dC dI _ oM iM_thrown rM_tape iM_taped iM_size iM_at iM_end iM_token iM_whole iM_nameSize x_5199 x_5200 iM_trouble rM_letters fM_letters kM_letters x_5201 iM_hasCourt rM_r rM_fresh fM_fresh kM_fresh rM_told rM_read fM_read kM_read rM_st rM_undone rM_kept iM_undos iM_images rM_fresher iM_fresherSize iM_scale iM_night rM_heardRow rM_cutRow iM_breaths iM_cutMany iM_allBreaths rM_trial rM_words iM_fewestBreaths iM_orderMany iM_orderSum iM_leastOrder rM_often iM_setMany iM_someOf iM_allOf iM_allWeight iM_enoughWeight iM_worthSum iM_firstRest iM_leastDrawn (by first | omega | decide) (by first | omega | decide) (by first | omega | decide) (by first | omega | decide) (by first | exact b_x_5201 | omega | decide) (by first | omega | decide) (by first | omega | decide) (by first | omega | decide) (by first | omega | decide) (by first | omega | decide) (by first | omega | decide) (by first | assumption | exact (fun h9 => by have q0 := kc_0; have q1 := kc_1; omega)) (by assumption) (by first | omega | decide | assumption | (have q0 := kc_0; have q1 := kc_1; omega) | (intro h; exact absurd h (by decide)))) (cwV 0 hts (wd_V wd_471 wd_472 wd_473 wd_5 (wd_c wd_474)) rfl rfl rfl (by decide +kernel) ⟨Nat.le_of_ble_eq_true rfl, Nat.le_of_ble_eq_true rfl⟩) ⟨Pw.fb, va_recv hK hP (ci := 7) (q0 := 4) rfl rfl, fun U hU hW => Pw.to (hP.sub [4, 5, 1, 2] rfl) (hD.sub [4, 5, 1, 2] (by decide) rfl) (hK.sub [4, 1, 2] rfl) hE hS hFc hU hW⟩ rfl rfl hl.1 rfl (lv_room (Nat.le_of_ble_eq_true rfl)) dX7_newName_20 ⟨Nat.le_of_ble_eq_true rfl, Nat.le_of_ble_eq_true rfl⟩) hS (fun q _ h => hFc q h) hFc (fun r u t H locs ht hvm hw hB hz1 hk1 hS => ?_)
      have hru9 := hw.2
      have hw := hw.1
      obtain ⟨hP, hD, hK⟩ := Bw.go (ws' := [(arI rM_tape kM_tape 900 fM_tape), (arI rM_fresher kM_fresher 8 fM_fresher), (oc7 oM iM_thrown rM_tape iM_taped iM_size iM_at iM_end iM_token iM_whole iM_nameSize x_5199 x_5200 iM_trouble rM_letters x_5201 iM_hasCourt rM_r rM_fresh rM_told rM_read rM_st rM_undone rM_kept iM_undos iM_images rM_fresher iM_fresherSize iM_scale iM_night rM_heardRow rM_cutRow iM_breaths iM_cutMany iM_allBreaths rM_trial rM_words iM_fewestBreaths iM_orderMany iM_orderSum iM_leastOrder rM_often iM_setMany iM_someOf iM_allOf iM_allWeight iM_enoughWeight iM_worthSum iM_firstRest iM_leastDrawn), (arI rM_letters kM_letters 8 fM_letters), (arI rM_fresh kM_fresh 287 fM_fresh), (arI rM_read kM_read 90 fM_read)]) (tys' := [(kM_tape, .int), (kM_fresher, .int), (kM_letters, .int), (kM_fresh, .int), (kM_read, .int)]) hB rfl ht hvm hP hD hK [4, 5, 1, 2] [0, 3] rfl (by decide) (by decide) [0, 3] hk1 hFc rfl rfl rfl
      clear hz1 hk1 hvm ht hB
      obtain ⟨x_5206, rfl⟩ : ∃ z, z = r := ⟨_, rfl⟩
      have hG := hG.trans (lt_eq hru9.symm)
      have lx_5206 := hw.2
      have ux_5206 := hw.2
      refine lv_if_lt (tgt := 35) hx hb dX7_newName_23 (by decide) (fun c_5207 => ?_) (fun c_5207 => ?_)
      · skip
        have hG := hG.trans (if_pos c_5207)
        have gc_5207 := ti_lt c_5207 rfl kc_0
        refine lv_aload_n hx hb dX7_newName_35 rfl (lv_at hl 0 rfl) ?_
        refine va_get (D := (dC, dI)) (ci := 7) (v := .int x_5201) (C := RX7) (T := TX7) (N := 48) hx hb hts inX7 hown hK hP 2 rfl rfl 13 (by decide) (hts _ wd_380) (fun _ h9 => h9) rfl dX7_newName_36 ?_
        refine lv_if_eq (tgt := 43) hx hb dX7_newName_39 (by decide) (fun c_5208 => ?_) (fun c_5208 => ?_)
        · skip
          have hG := hG.trans (if_pos c_5208)
          have gc_5208 := ti_eq c_5208 rfl kc_0
          refine lv_aload_n hx hb dX7_newName_43 rfl (lv_at hl 0 rfl) ?_
          refine va_get (D := (dC, dI)) (ci := 7) (v := .ref rM_letters) (C := RX7) (T := TX7) (N := 48) hx hb hts inX7 hown hK hP 2 rfl rfl 12 (by decide) (hts _ wd_154) (fun _ h9 => h9) rfl dX7_newName_44 ?_
          refine lv_iconst (v := 0) hx hb dX7_newName_47 (by decide) ?_
          refine lv_aload_n hx hb dX7_newName_48 rfl (lv_at hl 0 rfl) ?_
          refine va_get (D := (dC, dI)) (ci := 7) (v := .ref rM_fresher) (C := RX7) (T := TX7) (N := 48) hx hb hts inX7 hown hK hP 2 rfl rfl 24 (by decide) (hts _ wd_162) (fun _ h9 => h9) rfl dX7_newName_49 ?_
          refine lv_iconst (v := 0) hx hb dX7_newName_52 (by decide) ?_
          refine lv_bipush (v := 8) hx hb dX7_newName_53 (by decide) ?_
          have hFc := va_free (wc := [(arI rM_letters kM_letters 8 fM_letters), (arI rM_fresher kM_fresher 8 fM_fresher)]) hD hS hA [3, 1] rfl
          refine va_callv (va_runS (As := [.ref rM_letters, .int 0, .ref rM_fresher, .int 0, .int 8]) (rest := []) ⟨hx, hb, hml, hown, hts⟩ (tX7_copy_8_8 l dC dI _ rM_letters fM_letters kM_letters rM_fresher fM_fresher kM_fresher 0 0 8 (by first | omega | decide | assumption | (have q0 := kc_0; have q1 := kc_1; have q2 := kc_8; omega) | (intro h; exact absurd h (by decide))) (by first | omega | decide | assumption | (have q0 := kc_0; have q1 := kc_1; have q2 := kc_8; omega) | (intro h; exact absurd h (by decide))) (by first | omega | decide | assumption | (have q0 := kc_0; have q1 := kc_1; have q2 := kc_8; omega) | (intro h; exact absurd h (by decide)))) (va_cwS 5 hts (wd_S wd_475 wd_476 wd_5 (wd_c wd_477)) rfl rfl rfl (by decide +kernel) ⟨Nat.le_of_ble_eq_true rfl, Nat.le_of_ble_eq_true rfl⟩) ⟨Pw.fb, fun U hU hW => Pw.to (hP.sub [3, 1] rfl) (hD.sub [3, 1] (by decide) rfl) (hK.sub [2, 1] rfl) hE hS hFc hU hW⟩ rfl rfl hl.1 rfl (lv_room (Nat.le_of_ble_eq_true rfl)) dX7_newName_55 ⟨Nat.le_of_ble_eq_true rfl, Nat.le_of_ble_eq_true rfl⟩) hS (fun q _ h => hFc q h) hFc (fun u t H locs ht hvm hw hB hz1 hk1 hS => ?_)
          obtain ⟨f_5209, e_f_5209_0, hB⟩ := hB
          obtain ⟨hP, hD, hK⟩ := Bw.go (ws' := [(arI rM_tape kM_tape 900 fM_tape), (oc7 oM iM_thrown rM_tape iM_taped iM_size iM_at iM_end iM_token iM_whole iM_nameSize x_5199 x_5200 iM_trouble rM_letters x_5201 iM_hasCourt rM_r rM_fresh rM_told rM_read rM_st rM_undone rM_kept iM_undos iM_images rM_fresher iM_fresherSize iM_scale iM_night rM_heardRow rM_cutRow iM_breaths iM_cutMany iM_allBreaths rM_trial rM_words iM_fewestBreaths iM_orderMany iM_orderSum iM_leastOrder rM_often iM_setMany iM_someOf iM_allOf iM_allWeight iM_enoughWeight iM_worthSum iM_firstRest iM_leastDrawn), (arI rM_fresh kM_fresh 287 fM_fresh), (arI rM_read kM_read 90 fM_read), (arI rM_letters kM_letters 8 fM_letters), (arI rM_fresher kM_fresher 8 f_5209)]) (tys' := [(kM_tape, .int), (kM_fresh, .int), (kM_read, .int), (kM_letters, .int), (kM_fresher, .int)]) hB rfl ht hvm hP hD hK [3, 1] [0, 2, 4, 5] rfl (by decide) (by decide) [0, 3, 4] hk1 hFc rfl rfl rfl
          clear hz1 hk1 hvm ht hB
          have hG := hG.trans (lt_eq (CopyOk.fn e_f_5209_0).symm)
          refine lv_aload_n hx hb dX7_newName_58 rfl (lv_at hl 0 rfl) ?_
          refine lv_aload_n hx hb dX7_newName_59 rfl (lv_at hl 0 rfl) ?_
          refine va_get (D := (dC, dI)) (ci := 7) (v := .int iM_nameSize) (C := RX7) (T := TX7) (N := 48) hx hb hts inX7 hown hK hP 1 rfl rfl 8 (by decide) (hts _ wd_404) (fun _ h9 => h9) rfl dX7_newName_60 ?_
          refine va_put (D := (dC, dI)) (ci := 7) (v := .int iM_nameSize) (ty := .int) (C := RX7) (T := TX7) (N := 48) hx hb hts inX7 tyX7 tyX7_ok nmX7 hown hK hP hD hS 1 rfl rfl 25 (by decide) (hts _ wd_466) (fun _ h9 => h9) rfl (by decide +kernel) rfl rfl (Nat.le_of_ble_eq_true rfl) dX7_newName_63 (fun H locs hP hD hS => ?_)
          obtain ⟨hP, hD⟩ := wl2 (ws' := [(arI rM_tape kM_tape 900 fM_tape), (oc7 oM iM_thrown rM_tape iM_taped iM_size iM_at iM_end iM_token iM_whole iM_nameSize x_5199 x_5200 iM_trouble rM_letters x_5201 iM_hasCourt rM_r rM_fresh rM_told rM_read rM_st rM_undone rM_kept iM_undos iM_images rM_fresher iM_nameSize iM_scale iM_night rM_heardRow rM_cutRow iM_breaths iM_cutMany iM_allBreaths rM_trial rM_words iM_fewestBreaths iM_orderMany iM_orderSum iM_leastOrder rM_often iM_setMany iM_someOf iM_allOf iM_allWeight iM_enoughWeight iM_worthSum iM_firstRest iM_leastDrawn), (arI rM_fresh kM_fresh 287 fM_fresh), (arI rM_read kM_read 90 fM_read), (arI rM_letters kM_letters 8 fM_letters), (arI rM_fresher kM_fresher 8 f_5209)]) hP hD rfl
          refine lv_aload_n hx hb dX7_newName_66 rfl (lv_at hl 0 rfl) ?_
          have hFc := va_free (wc := [(oc7 oM iM_thrown rM_tape iM_taped iM_size iM_at iM_end iM_token iM_whole iM_nameSize x_5199 x_5200 iM_trouble rM_letters x_5201 iM_hasCourt rM_r rM_fresh rM_told rM_read rM_st rM_undone rM_kept iM_undos iM_images rM_fresher iM_nameSize iM_scale iM_night rM_heardRow rM_cutRow iM_breaths iM_cutMany iM_allBreaths rM_trial rM_words iM_fewestBreaths iM_orderMany iM_orderSum iM_leastOrder rM_often iM_setMany iM_someOf iM_allOf iM_allWeight iM_enoughWeight iM_worthSum iM_firstRest iM_leastDrawn), (arI rM_tape kM_tape 900 fM_tape), (arI rM_letters kM_letters 8 fM_letters)]) hD hS hA [1, 0, 4] rfl
          refine va_callv (va_runV (As := []) (rest := []) ⟨hx, hb, hml, hown, hts⟩ (tX7_next l dC dI _ oM iM_thrown rM_tape fM_tape kM_tape iM_taped iM_size iM_at iM_end iM_token iM_whole iM_nameSize x_5199 x_5200 iM_trouble rM_letters fM_letters kM_letters x_5201 iM_hasCourt rM_r rM_fresh rM_told rM_read rM_st rM_undone rM_kept iM_undos iM_images rM_fresher iM_nameSize iM_scale iM_night rM_heardRow rM_cutRow iM_breaths iM_cutMany iM_allBreaths rM_trial rM_words iM_fewestBreaths iM_orderMany iM_orderSum iM_leastOrder rM_often iM_setMany iM_someOf iM_allOf iM_allWeight iM_enoughWeight iM_worthSum iM_firstRest iM_leastDrawn (by first | omega | decide) (by first | omega | decide) (by first | omega | decide) (by first | omega | decide) (by first | exact b_x_5201 | omega | decide) (by first | omega | decide) (by first | omega | decide) (by first | omega | decide) (by first | omega | decide) (by first | omega | decide) (by first | omega | decide) (by first | assumption | exact (fun h9 => by have q0 := kc_0; have q1 := kc_1; omega))) (cwV 0 hts (wd_V wd_400 wd_401 wd_402 wd_5 (wd_c wd_403)) rfl rfl rfl (by decide +kernel) ⟨Nat.le_of_ble_eq_true rfl, Nat.le_of_ble_eq_true rfl⟩) ⟨Pw.fb, va_recv hK hP (ci := 7) (q0 := 1) rfl rfl, fun U hU hW => Pw.to (hP.sub [1, 0, 4] rfl) (hD.sub [1, 0, 4] (by decide) rfl) (hK.sub [0, 3] rfl) hE hS hFc hU hW⟩ rfl rfl hl.1 rfl (lv_room (Nat.le_of_ble_eq_true rfl)) dX7_newName_67 ⟨Nat.le_of_ble_eq_true rfl, Nat.le_of_ble_eq_true rfl⟩) hS (fun q _ h => hFc q h) hFc (fun u t H locs ht hvm hw hB hz1 hk1 hS => ?_)
          obtain ⟨x_5210, x_5211, x_5212, x_5213, x_5214, f_5215, b_x_5211, b_x_5214, e_x_5210_0, e_x_5210_1, e_x_5210_2, e_x_5210_3, hB⟩ := hB
          obtain ⟨hP, hD, hK⟩ := Bw.go (ws' := [(arI rM_fresh kM_fresh 287 fM_fresh), (arI rM_read kM_read 90 fM_read), (arI rM_fresher kM_fresher 8 f_5209), (oc7 oM iM_thrown rM_tape iM_taped iM_size x_5210 x_5211 x_5212 x_5213 x_5214 x_5199 x_5200 iM_trouble rM_letters x_5201 iM_hasCourt rM_r rM_fresh rM_told rM_read rM_st rM_undone rM_kept iM_undos iM_images rM_fresher iM_nameSize iM_scale iM_night rM_heardRow rM_cutRow iM_breaths iM_cutMany iM_allBreaths rM_trial rM_words iM_fewestBreaths iM_orderMany iM_orderSum iM_leastOrder rM_often iM_setMany iM_someOf iM_allOf iM_allWeight iM_enoughWeight iM_worthSum iM_firstRest iM_leastDrawn), (arI rM_tape kM_tape 900 fM_tape), (arI rM_letters kM_letters 8 f_5215)]) (tys' := [(kM_fresh, .int), (kM_read, .int), (kM_fresher, .int), (kM_tape, .int), (kM_letters, .int)]) hB rfl ht hvm hP hD hK [1, 0, 4] [2, 3, 5] rfl (by decide) (by decide) [1, 2, 4] hk1 hFc rfl rfl rfl
          clear hz1 hk1 hvm ht hB
          have hG := hG.trans (un6_eq e_x_5210_3)
          exact W.vret hx hb hr (fun t ht hW => ⟨⟨0, rfl, trivial, ⟨x_5210, x_5211, x_5212, x_5213, x_5214, x_5199, x_5200, x_5201, iM_nameSize, f_5215, f_5209, b_x_5211, b_x_5214, b_x_5201, (by first | assumption | (have q0 := kc_0; have q1 := kc_1; omega)), e_x_5210_1, (by first | assumption | (have q0 := kc_0; have q1 := kc_1; omega)), (fun h9 => by have q0 := kc_0; have q1 := kc_1; have q9 := e_x_5210_2 (by omega); omega), hG, Bw.to (hP.sub [3, 4, 5, 0, 1, 2] rfl) (hD.sub [3, 4, 5, 0, 1, 2] (by decide) rfl) (hK.sub [3, 4, 0, 1, 2] rfl) ht hW⟩⟩, hS.F ht⟩) hS.2.2 dX7_newName_70
        · skip
          have hG := hG.trans (if_neg c_5208)
          have gc_5208 := ti_ne c_5208 rfl kc_0
          replace gc_5208 : x_5201.toInt + 1 ≤ 0 := by omega
          exfalso; clear hG; omega
      · skip
        have hG := hG.trans (if_neg c_5207)
        have gc_5207 := ti_nlt c_5207 rfl kc_0
        refine lv_aload_n hx hb dX7_newName_26 rfl (lv_at hl 0 rfl) ?_
        refine lv_iconst (v := 3) hx hb dX7_newName_27 (by decide) ?_
        refine lv_aload_n hx hb dX7_newName_28 rfl (lv_at hl 0 rfl) ?_
        refine va_get (D := (dC, dI)) (ci := 7) (v := .int iM_at) (C := RX7) (T := TX7) (N := 48) hx hb hts inX7 hown hK hP 2 rfl rfl 4 (by decide) (hts _ wd_384) (fun _ h9 => h9) rfl dX7_newName_29 ?_
        have hFc := va_free (wc := [(oc7 oM iM_thrown rM_tape iM_taped iM_size iM_at iM_end iM_token iM_whole iM_nameSize x_5199 x_5200 iM_trouble rM_letters x_5201 iM_hasCourt rM_r rM_fresh rM_told rM_read rM_st rM_undone rM_kept iM_undos iM_images rM_fresher iM_fresherSize iM_scale iM_night rM_heardRow rM_cutRow iM_breaths iM_cutMany iM_allBreaths rM_trial rM_words iM_fewestBreaths iM_orderMany iM_orderSum iM_leastOrder rM_often iM_setMany iM_someOf iM_allOf iM_allWeight iM_enoughWeight iM_worthSum iM_firstRest iM_leastDrawn)]) hD hS hA [2] rfl
        refine va_callv (va_runV (As := [.int 3, .int iM_at]) (rest := []) ⟨hx, hb, hml, hown, hts⟩ (tX7_wrong l dC dI _ oM iM_thrown rM_tape iM_taped iM_size iM_at iM_end iM_token iM_whole iM_nameSize x_5199 x_5200 iM_trouble rM_letters x_5201 iM_hasCourt rM_r rM_fresh rM_told rM_read rM_st rM_undone rM_kept iM_undos iM_images rM_fresher iM_fresherSize iM_scale iM_night rM_heardRow rM_cutRow iM_breaths iM_cutMany iM_allBreaths rM_trial rM_words iM_fewestBreaths iM_orderMany iM_orderSum iM_leastOrder rM_often iM_setMany iM_someOf iM_allOf iM_allWeight iM_enoughWeight iM_worthSum iM_firstRest iM_leastDrawn 3 iM_at (by first | omega | decide) (by first | omega | decide) (by first | omega | decide) (by first | omega | decide) (by first | exact b_x_5201 | omega | decide) (by first | omega | decide) (by first | omega | decide) (by first | omega | decide) (by first | omega | decide) (by first | omega | decide) (by first | omega | decide) (by first | assumption | exact (fun h9 => by have q0 := kc_0; have q1 := kc_1; omega))) (cwV 2 hts (wd_V wd_430 wd_431 wd_432 wd_5 (wd_c wd_433)) rfl rfl rfl (by decide +kernel) ⟨Nat.le_of_ble_eq_true rfl, Nat.le_of_ble_eq_true rfl⟩) ⟨Pw.fb, va_recv hK hP (ci := 7) (q0 := 2) rfl rfl, fun U hU hW => Pw.to (hP.sub [2] rfl) (hD.sub [2] (by decide) rfl) (hK.sub [] rfl) hE hS hFc hU hW⟩ rfl rfl hl.1 rfl (lv_room (Nat.le_of_ble_eq_true rfl)) dX7_newName_32 ⟨Nat.le_of_ble_eq_true rfl, Nat.le_of_ble_eq_true rfl⟩) hS (fun q _ h => hFc q h) hFc (fun u t H locs ht hvm hw hB hz1 hk1 hS => ?_)
        obtain ⟨x_5216, x_5217, x_5218, b_x_5218, e_x_5216_0, e_x_5216_1, hB⟩ := hB
        obtain ⟨hP, hD, hK⟩ := Bw.go (ws' := [(arI rM_tape kM_tape 900 fM_tape), (arI rM_fresher kM_fresher 8 fM_fresher), (arI rM_letters kM_letters 8 fM_letters), (arI rM_fresh kM_fresh 287 fM_fresh), (arI rM_read kM_read 90 fM_read), (oc7 oM iM_thrown rM_tape iM_taped iM_size iM_at iM_end iM_token iM_whole iM_nameSize x_5216 x_5217 iM_trouble rM_letters x_5218 iM_hasCourt rM_r rM_fresh rM_told rM_read rM_st rM_undone rM_kept iM_undos iM_images rM_fresher iM_fresherSize iM_scale iM_night rM_heardRow rM_cutRow iM_breaths iM_cutMany iM_allBreaths rM_trial rM_words iM_fewestBreaths iM_orderMany iM_orderSum iM_leastOrder rM_often iM_setMany iM_someOf iM_allOf iM_allWeight iM_enoughWeight iM_worthSum iM_firstRest iM_leastDrawn)]) (tys' := [(kM_tape, .int), (kM_fresher, .int), (kM_letters, .int), (kM_fresh, .int), (kM_read, .int)]) hB rfl ht hvm hP hD hK [2] [0, 1, 3, 4, 5] rfl (by decide) (by decide) [0, 1, 2, 3, 4] hk1 hFc rfl rfl rfl
        clear hz1 hk1 hvm ht hB
        have hG := hG.trans (un3_eq e_x_5216_1)
        refine lv_aload_n hx hb dX7_newName_35 rfl (lv_at hl 0 rfl) ?_
        refine va_get (D := (dC, dI)) (ci := 7) (v := .int x_5218) (C := RX7) (T := TX7) (N := 48) hx hb hts inX7 hown hK hP 5 rfl rfl 13 (by decide) (hts _ wd_380) (fun _ h9 => h9) rfl dX7_newName_36 ?_
        refine lv_if_eq (tgt := 43) hx hb dX7_newName_39 (by decide) (fun c_5219 => ?_) (fun c_5219 => ?_)
        · skip
          have hG := hG.trans (if_pos c_5219)
          have gc_5219 := ti_eq c_5219 rfl kc_0
          exfalso; clear hG; omega
        · skip
          have hG := hG.trans (if_neg c_5219)
          have gc_5219 := ti_ne c_5219 rfl kc_0
          replace gc_5219 : (-1) * x_5218.toInt + 1 ≤ 0 := by omega
          exact W.vret hx hb hr (fun t ht hW => ⟨⟨0, rfl, trivial, ⟨iM_at, iM_end, iM_token, iM_whole, iM_nameSize, x_5216, x_5217, x_5218, iM_fresherSize, fM_letters, fM_fresher, (by omega), (by omega), b_x_5218, (by first | assumption | (have q0 := kc_0; have q1 := kc_1; omega)), (by first | assumption | exact (fun h9 => by have q0 := kc_0; have q1 := kc_1; omega)), (by first | assumption | (have q0 := kc_0; have q1 := kc_1; omega)), (fun h9 => by have q0 := kc_0; have q1 := kc_1; omega), hG, Bw.to (hP.sub [5, 0, 2, 3, 4, 1] rfl) (hD.sub [5, 0, 2, 3, 4, 1] (by decide) rfl) (hK.sub [0, 2, 3, 4, 1] rfl) ht hW⟩⟩, hS.F ht⟩) hS.2.2 dX7_newName_42
  · skip
    have hG := hG.trans (if_neg c_5198)
    have gc_5198 := ti_ne c_5198 rfl kc_0
    replace gc_5198 : (-1) * iM_failed.toInt + 1 ≤ 0 := by omega
    exact W.vret hx hb hr (fun t ht hW => ⟨⟨0, rfl, trivial, ⟨iM_at, iM_end, iM_token, iM_whole, iM_nameSize, iM_fault, iM_place, iM_failed, iM_fresherSize, fM_letters, fM_fresher, (by omega), (by omega), (by omega), (by first | assumption | (have q0 := kc_0; have q1 := kc_1; omega)), r_T, (by first | assumption | (have q0 := kc_0; have q1 := kc_1; omega)), (fun h9 => by have q0 := kc_0; have q1 := kc_1; omega), hG, Bw.to (hP.sub [0, 1, 2, 3, 4, 5] rfl) (hD.sub [0, 1, 2, 3, 4, 5] (by decide) rfl) (hK.sub [0, 1, 2, 3, 4] rfl) ht hW⟩⟩, hS.F ht⟩) hS.2.2 dX7_newName_7
set_option maxHeartbeats 4000000 in
set_option maxRecDepth 100000 in
theorem tX7_lay (l : Launch) (dC : Nat → ClassId) (dI : Nat → Nat → Nat) (sz : Nat) (oM : Nat) (iM_thrown : Int32) (rM_tape : Nat) (iM_taped : Int32) (iM_size : Int32) (iM_at : Int32) (iM_end : Int32) (iM_token : Int32) (iM_whole : Int32) (iM_nameSize : Int32) (iM_fault : Int32) (iM_place : Int32) (iM_trouble : Int32) (rM_letters : Nat) (iM_failed : Int32) (iM_hasCourt : Int32) (rM_r : Nat) (rM_fresh : Nat) (fM_fresh : Nat → Int32) (kM_fresh : ClassId) (rM_told : Nat) (rM_read : Nat) (rM_st : Nat) (rM_undone : Nat) (rM_kept : Nat) (iM_undos : Int32) (iM_images : Int32) (rM_fresher : Nat) (fM_fresher : Nat → Int32) (kM_fresher : ClassId) (iM_fresherSize : Int32) (iM_scale : Int32) (iM_night : Int32) (rM_heardRow : Nat) (rM_cutRow : Nat) (iM_breaths : Int32) (iM_cutMany : Int32) (iM_allBreaths : Int32) (rM_trial : Nat) (rM_words : Nat) (iM_fewestBreaths : Int32) (iM_orderMany : Int32) (iM_orderSum : Int32) (iM_leastOrder : Int32) (rM_often : Nat) (iM_setMany : Int32) (iM_someOf : Int32) (iM_allOf : Int32) (iM_allWeight : Int64) (iM_enoughWeight : Int64) (iM_worthSum : Int64) (iM_firstRest : Int32) (iM_leastDrawn : Int32) (p0 : Int32) (b_iM_taped : 0 ≤ iM_taped.toInt ∧ iM_taped.toInt ≤ 900) (b_iM_size : 0 ≤ iM_size.toInt ∧ iM_size.toInt ≤ 900) (b_iM_end : 0 ≤ iM_end.toInt ∧ iM_end.toInt ≤ 900) (b_iM_nameSize : 0 ≤ iM_nameSize.toInt ∧ iM_nameSize.toInt ≤ 900) (b_iM_failed : 0 ≤ iM_failed.toInt ∧ iM_failed.toInt ≤ 1) (b_iM_hasCourt : 0 ≤ iM_hasCourt.toInt ∧ iM_hasCourt.toInt ≤ 1) (b_iM_undos : 0 ≤ iM_undos.toInt ∧ iM_undos.toInt ≤ 16) (b_iM_images : 0 ≤ iM_images.toInt ∧ iM_images.toInt ≤ 3) (b_iM_scale : 1 ≤ iM_scale.toInt ∧ iM_scale.toInt ≤ 1296) (b_iM_breaths : 0 ≤ iM_breaths.toInt ∧ iM_breaths.toInt ≤ 399) (b_iM_cutMany : 0 ≤ iM_cutMany.toInt ∧ iM_cutMany.toInt ≤ 399) (r_T : ImpP (iM_token.toInt = 2) (iM_nameSize.toInt ≤ 8)) (hnf : iM_failed.toInt ≤ 0) (hf1 : 0 ≤ (fM_fresh 1).toInt ∧ (fM_fresh 1).toInt ≤ 17) : Met l yX7_lay (Cond.code yX7_lay cX7_lay 3 none :: wG) ({ frames := 1, cells := 0, slots := 0, locals := 25 }) (va_Pc [.ref oM, .int p0] (Pw dC dI sz [(oc7 oM iM_thrown rM_tape iM_taped iM_size iM_at iM_end iM_token iM_whole iM_nameSize iM_fault iM_place iM_trouble rM_letters iM_failed iM_hasCourt rM_r rM_fresh rM_told rM_read rM_st rM_undone rM_kept iM_undos iM_images rM_fresher iM_fresherSize iM_scale iM_night rM_heardRow rM_cutRow iM_breaths iM_cutMany iM_allBreaths rM_trial rM_words iM_fewestBreaths iM_orderMany iM_orderSum iM_leastOrder rM_often iM_setMany iM_someOf iM_allOf iM_allWeight iM_enoughWeight iM_worthSum iM_firstRest iM_leastDrawn), (arI rM_fresh kM_fresh 287 fM_fresh), (arI rM_fresher kM_fresher 8 fM_fresher)] [(kM_fresh, .int), (kM_fresher, .int)])) (va_Qv (fun (_ : Nat) => True) (fun (_ : Nat) (t : State) => ∃ (nfM_fresh : Nat → Int32), (LayI fM_fresh p0 nfM_fresh) ∧ (PX7_lay iM_failed fM_fresh fM_fresher iM_fresherSize p0 = nfM_fresh) ∧ Bw dC dI (va_A [(oc7 oM iM_thrown rM_tape iM_taped iM_size iM_at iM_end iM_token iM_whole iM_nameSize iM_fault iM_place iM_trouble rM_letters iM_failed iM_hasCourt rM_r rM_fresh rM_told rM_read rM_st rM_undone rM_kept iM_undos iM_images rM_fresher iM_fresherSize iM_scale iM_night rM_heardRow rM_cutRow iM_breaths iM_cutMany iM_allBreaths rM_trial rM_words iM_fewestBreaths iM_orderMany iM_orderSum iM_leastOrder rM_often iM_setMany iM_someOf iM_allOf iM_allWeight iM_enoughWeight iM_worthSum iM_firstRest iM_leastDrawn), (arI rM_fresh kM_fresh 287 fM_fresh), (arI rM_fresher kM_fresher 8 fM_fresher)] sz) [(oc7 oM iM_thrown rM_tape iM_taped iM_size iM_at iM_end iM_token iM_whole iM_nameSize iM_fault iM_place iM_trouble rM_letters iM_failed iM_hasCourt rM_r rM_fresh rM_told rM_read rM_st rM_undone rM_kept iM_undos iM_images rM_fresher iM_fresherSize iM_scale iM_night rM_heardRow rM_cutRow iM_breaths iM_cutMany iM_allBreaths rM_trial rM_words iM_fewestBreaths iM_orderMany iM_orderSum iM_leastOrder rM_often iM_setMany iM_someOf iM_allOf iM_allWeight iM_enoughWeight iM_worthSum iM_firstRest iM_leastDrawn), (arI rM_fresh kM_fresh 287 nfM_fresh), (arI rM_fresher kM_fresher 8 fM_fresher)] [(kM_fresh, .int), (kM_fresher, .int)] t) (va_A [(oc7 oM iM_thrown rM_tape iM_taped iM_size iM_at iM_end iM_token iM_whole iM_nameSize iM_fault iM_place iM_trouble rM_letters iM_failed iM_hasCourt rM_r rM_fresh rM_told rM_read rM_st rM_undone rM_kept iM_undos iM_images rM_fresher iM_fresherSize iM_scale iM_night rM_heardRow rM_cutRow iM_breaths iM_cutMany iM_allBreaths rM_trial rM_words iM_fewestBreaths iM_orderMany iM_orderSum iM_leastOrder rM_often iM_setMany iM_someOf iM_allOf iM_allWeight iM_enoughWeight iM_worthSum iM_firstRest iM_leastDrawn), (arI rM_fresh kM_fresh 287 fM_fresh), (arI rM_fresher kM_fresher 8 fM_fresher)] sz)) 0 0 (va_A [(oc7 oM iM_thrown rM_tape iM_taped iM_size iM_at iM_end iM_token iM_whole iM_nameSize iM_fault iM_place iM_trouble rM_letters iM_failed iM_hasCourt rM_r rM_fresh rM_told rM_read rM_st rM_undone rM_kept iM_undos iM_images rM_fresher iM_fresherSize iM_scale iM_night rM_heardRow rM_cutRow iM_breaths iM_cutMany iM_allBreaths rM_trial rM_words iM_fewestBreaths iM_orderMany iM_orderSum iM_leastOrder rM_often iM_setMany iM_someOf iM_allOf iM_allWeight iM_enoughWeight iM_worthSum iM_firstRest iM_leastDrawn), (arI rM_fresh kM_fresh 287 fM_fresh), (arI rM_fresher kM_fresher 8 fM_fresher)] sz) := by
  refine Met.ofW (cc := cX7_lay) (maxL := 3) (ret := none) (by decide) rfl ?_
  intro p e s m args below meth c s₁ B hml hv
  obtain ⟨rfl, hsz, hP, hK, hD0, hE⟩ := hv
  have hx := B.exec
  have hb := B.bytes
  have hr := B.returns
  have hts : ∀ w ∈ wG, w.before ([.ref oM, .int p0] : List Value).toArray s = true := fun w h => atoms_spec (ws := Cond.code yX7_lay cX7_lay 3 none :: wG) B.pre w (List.mem_cons_of_mem _ h)
  have hown : s.vm.findClass RX7 = some m.cls := findClass_of_methodNamed B.named
  have hlocks := B.notSynchronized
  subst hsz
  have hD := hD0.self (sz := s.heap.size)
  generalize hAe : va_A [(oc7 oM iM_thrown rM_tape iM_taped iM_size iM_at iM_end iM_token iM_whole iM_nameSize iM_fault iM_place iM_trouble rM_letters iM_failed iM_hasCourt rM_r rM_fresh rM_told rM_read rM_st rM_undone rM_kept iM_undos iM_images rM_fresher iM_fresherSize iM_scale iM_night rM_heardRow rM_cutRow iM_breaths iM_cutMany iM_allBreaths rM_trial rM_words iM_fewestBreaths iM_orderMany iM_orderSum iM_leastOrder rM_often iM_setMany iM_someOf iM_allOf iM_allWeight iM_enoughWeight iM_worthSum iM_firstRest iM_leastDrawn), (arI rM_fresh kM_fresh 287 fM_fresh), (arI rM_fresher kM_fresher 8 fM_fresher)] s.heap.size = A at hD hE ⊢
  have hA : ∀ q : Nat, s.heap.size ≤ q → A q := fun q h => by rw [← hAe]; exact Or.inr h
  have hS : va_S A s.heap s.heap [] := va_S.rf
  have hl := lv_entry ([.ref oM, .int p0]) (n := 3) (Nat.le_of_ble_eq_true rfl)
  rw [lg_entry_eq]
  generalize (lg_sl ([.ref oM, .int p0]) ++ List.replicate (3 - (lg_sl ([.ref oM, .int p0])).length) Slot.unset).toArray = ls at hl ⊢
  have hl : lv_has ls 3 [(0, .ref oM), (1, .int p0)] := hl
  have hG := PX7_lay_eq iM_failed fM_fresh fM_fresher iM_fresherSize p0
  refine lv_aload_n hx hb dX7_lay_0 rfl (lv_at hl 0 rfl) ?_
  refine va_get (D := (dC, dI)) (ci := 7) (v := .int iM_failed) (C := RX7) (T := TX7) (N := 48) hx hb hts inX7 hown hK hP 0 rfl rfl 13 (by decide) (hts _ wd_380) (fun _ h9 => h9) rfl dX7_lay_1 ?_
  refine lv_if_eq (tgt := 8) hx hb dX7_lay_4 (by decide) (fun c_5232 => ?_) (fun c_5232 => ?_)
  · skip
    have hG := hG.trans (if_pos c_5232)
    have gc_5232 := ti_eq c_5232 rfl kc_0
    refine lv_aload_n hx hb dX7_lay_8 rfl (lv_at hl 0 rfl) ?_
    refine va_get (D := (dC, dI)) (ci := 7) (v := .ref rM_fresh) (C := RX7) (T := TX7) (N := 48) hx hb hts inX7 hown hK hP 0 rfl rfl 16 (by decide) (hts _ wd_156) (fun _ h9 => h9) rfl dX7_lay_9 ?_
    refine lv_iconst (v := 1) hx hb dX7_lay_12 (by decide) ?_
    refine va_iald hx hb hK hP 1 0 rfl rfl (by unfold vp_in; decide) dX7_lay_13 ?_
    refine lv_topi (fun x_5233 ex_5233 => ?_)
    have hG := hG.trans (lt_eq ex_5233)
    have cx_5233 : (fM_fresh 1).toInt = x_5233.toInt := congrArg Int32.toInt (show fM_fresh 1 = x_5233 from ex_5233.symm)
    refine lv_istore_n (lv' := [(2, .int x_5233), (0, .ref oM), (1, .int p0)]) hx hb dX7_lay_14 rfl hl (by decide) rfl (fun ls hl => ?_)
    refine lv_aload_n hx hb dX7_lay_15 rfl (lv_at hl 1 rfl) ?_
    refine va_get (D := (dC, dI)) (ci := 7) (v := .ref rM_fresher) (C := RX7) (T := TX7) (N := 48) hx hb hts inX7 hown hK hP 0 rfl rfl 24 (by decide) (hts _ wd_162) (fun _ h9 => h9) rfl dX7_lay_16 ?_
    refine lv_iconst (v := 0) hx hb dX7_lay_19 (by decide) ?_
    refine lv_aload_n hx hb dX7_lay_20 rfl (lv_at hl 1 rfl) ?_
    refine va_get (D := (dC, dI)) (ci := 7) (v := .ref rM_fresh) (C := RX7) (T := TX7) (N := 48) hx hb hts inX7 hown hK hP 0 rfl rfl 16 (by decide) (hts _ wd_156) (fun _ h9 => h9) rfl dX7_lay_21 ?_
    refine lv_sipush (v := 143) hx hb dX7_lay_24 (by decide) ?_
    refine lv_bipush (v := 8) hx hb dX7_lay_27 (by decide) ?_
    refine lv_iload_n hx hb dX7_lay_29 rfl (lv_at hl 0 rfl) ?_
    refine lv_imul hx hb dX7_lay_30 ?_
    refine lv_topi (fun x_5234 ex_5234 => ?_)
    have hG := hG.trans (lt_eq ex_5234)
    have vx_5234 : x_5234.toInt = 8 * x_5233.toInt := by have q := ti_mul ex_5234 kc_8 rfl (by omega) (by omega); omega
    refine lv_iadd hx hb dX7_lay_31 ?_
    refine lv_topi (fun x_5235 ex_5235 => ?_)
    have hG := hG.trans (lt_eq ex_5235)
    have vx_5235 : x_5235.toInt = 8 * x_5233.toInt + 143 := by have q := ti_add ex_5235 kc_143 vx_5234 (by omega) (by omega); omega
    refine lv_bipush (v := 8) hx hb dX7_lay_32 (by decide) ?_
    have hFc := va_free (wc := [(arI rM_fresher kM_fresher 8 fM_fresher), (arI rM_fresh kM_fresh 287 fM_fresh)]) hD hS hA [2, 1] rfl
    refine va_callv (va_runS (As := [.ref rM_fresher, .int 0, .ref rM_fresh, .int x_5235, .int 8]) (rest := []) ⟨hx, hb, hml, hown, hts⟩ (tX7_copy_8_287 l dC dI _ rM_fresher fM_fresher kM_fresher rM_fresh fM_fresh kM_fresh 0 x_5235 8 (by first | omega | decide | assumption | (have q0 := kc_0; have q1 := kc_1; have q2 := kc_8; omega) | (intro h; exact absurd h (by decide))) (by first | omega | decide | assumption | (have q0 := kc_0; have q1 := kc_1; have q2 := kc_8; omega) | (intro h; exact absurd h (by decide))) (by first | omega | decide | assumption | (have q0 := kc_0; have q1 := kc_1; have q2 := kc_8; omega) | (intro h; exact absurd h (by decide)))) (va_cwS 5 hts (wd_S wd_475 wd_476 wd_5 (wd_c wd_477)) rfl rfl rfl (by decide +kernel) ⟨Nat.le_of_ble_eq_true rfl, Nat.le_of_ble_eq_true rfl⟩) ⟨Pw.fb, fun U hU hW => Pw.to (hP.sub [2, 1] rfl) (hD.sub [2, 1] (by decide) rfl) (hK.sub [1, 0] rfl) hE hS hFc hU hW⟩ rfl rfl hl.1 rfl (lv_room (Nat.le_of_ble_eq_true rfl)) dX7_lay_34 ⟨Nat.le_of_ble_eq_true rfl, Nat.le_of_ble_eq_true rfl⟩) hS (fun q _ h => hFc q h) hFc (fun u t H locs ht hvm hw hB hz1 hk1 hS => ?_)
    obtain ⟨f_5236, e_f_5236_0, hB⟩ := hB
    obtain ⟨hP, hD, hK⟩ := Bw.go (ws' := [(oc7 oM iM_thrown rM_tape iM_taped iM_size iM_at iM_end iM_token iM_whole iM_nameSize iM_fault iM_place iM_trouble rM_letters iM_failed iM_hasCourt rM_r rM_fresh rM_told rM_read rM_st rM_undone rM_kept iM_undos iM_images rM_fresher iM_fresherSize iM_scale iM_night rM_heardRow rM_cutRow iM_breaths iM_cutMany iM_allBreaths rM_trial rM_words iM_fewestBreaths iM_orderMany iM_orderSum iM_leastOrder rM_often iM_setMany iM_someOf iM_allOf iM_allWeight iM_enoughWeight iM_worthSum iM_firstRest iM_leastDrawn), (arI rM_fresher kM_fresher 8 fM_fresher), (arI rM_fresh kM_fresh 287 f_5236)]) (tys' := [(kM_fresher, .int), (kM_fresh, .int)]) hB rfl ht hvm hP hD hK [2, 1] [0] rfl (by decide) (by decide) [] hk1 hFc rfl rfl rfl
    clear hz1 hk1 hvm ht hB
    have o1_f_5236 : (f_5236 1).toInt = (fM_fresh 1).toInt := by rw [e_f_5236_0 1, if_neg (by have q := ti_cl (x := x_5235) vx_5235 (by omega); omega)]
    have hG := hG.trans (lt_eq (CopyOk.fn e_f_5236_0).symm)
    refine lv_aload_n hx hb dX7_lay_37 rfl (lv_at hl 1 rfl) ?_
    refine va_get (D := (dC, dI)) (ci := 7) (v := .ref rM_fresh) (C := RX7) (T := TX7) (N := 48) hx hb hts inX7 hown hK hP 0 rfl rfl 16 (by decide) (hts _ wd_156) (fun _ h9 => h9) rfl dX7_lay_38 ?_
    refine lv_bipush (v := 125) hx hb dX7_lay_41 (by decide) ?_
    refine lv_iload_n hx hb dX7_lay_43 rfl (lv_at hl 0 rfl) ?_
    refine lv_iadd hx hb dX7_lay_44 ?_
    refine lv_topi (fun x_5237 ex_5237 => ?_)
    have hG := hG.trans (lt_eq ex_5237)
    have vx_5237 : x_5237.toInt = x_5233.toInt + 125 := by have q := ti_add ex_5237 kc_125 rfl (by omega) (by omega); omega
    refine lv_aload_n hx hb dX7_lay_45 rfl (lv_at hl 1 rfl) ?_
    refine va_get (D := (dC, dI)) (ci := 7) (v := .int iM_fresherSize) (C := RX7) (T := TX7) (N := 48) hx hb hts inX7 hown hK hP 0 rfl rfl 25 (by decide) (hts _ wd_466) (fun _ h9 => h9) rfl dX7_lay_46 ?_
    refine va_iast hx hb hK hP hD hS 2 1 rfl rfl (ti_in vx_5237 (by omega) (by omega)) dX7_lay_49 (fun H locs hP hD hS => ?_)
    obtain ⟨f_5238, ef_5238⟩ : ∃ g : Nat → Int32, g = upd f_5236 x_5237.toNatClampNeg iM_fresherSize := ⟨_, rfl⟩
    rw [← ef_5238] at hP hD
    have hG := hG.trans (lt_eq ef_5238)
    obtain ⟨hP, hD⟩ := wl2 (ws' := [(oc7 oM iM_thrown rM_tape iM_taped iM_size iM_at iM_end iM_token iM_whole iM_nameSize iM_fault iM_place iM_trouble rM_letters iM_failed iM_hasCourt rM_r rM_fresh rM_told rM_read rM_st rM_undone rM_kept iM_undos iM_images rM_fresher iM_fresherSize iM_scale iM_night rM_heardRow rM_cutRow iM_breaths iM_cutMany iM_allBreaths rM_trial rM_words iM_fewestBreaths iM_orderMany iM_orderSum iM_leastOrder rM_often iM_setMany iM_someOf iM_allOf iM_allWeight iM_enoughWeight iM_worthSum iM_firstRest iM_leastDrawn), (arI rM_fresher kM_fresher 8 fM_fresher), (arI rM_fresh kM_fresh 287 f_5238)]) hP hD rfl
    have o1_f_5238 : (f_5238 1).toInt = (f_5236 1).toInt := put_at ef_5238 (by have q := ti_cl (x := x_5237) vx_5237 (by omega); omega)
    refine lv_aload_n hx hb dX7_lay_50 rfl (lv_at hl 1 rfl) ?_
    refine va_get (D := (dC, dI)) (ci := 7) (v := .ref rM_fresh) (C := RX7) (T := TX7) (N := 48) hx hb hts inX7 hown hK hP 0 rfl rfl 16 (by decide) (hts _ wd_156) (fun _ h9 => h9) rfl dX7_lay_51 ?_
    refine lv_bipush (v := 9) hx hb dX7_lay_54 (by decide) ?_
    refine lv_iload_n hx hb dX7_lay_56 rfl (lv_at hl 0 rfl) ?_
    refine lv_iadd hx hb dX7_lay_57 ?_
    refine lv_topi (fun x_5239 ex_5239 => ?_)
    have hG := hG.trans (lt_eq ex_5239)
    have vx_5239 : x_5239.toInt = x_5233.toInt + 9 := by have q := ti_add ex_5239 kc_9 rfl (by omega) (by omega); omega
    refine lv_iload_n hx hb dX7_lay_58 rfl (lv_at hl 2 rfl) ?_
    refine va_iast hx hb hK hP hD hS 2 1 rfl rfl (ti_in vx_5239 (by omega) (by omega)) dX7_lay_59 (fun H locs hP hD hS => ?_)
    obtain ⟨f_5240, ef_5240⟩ : ∃ g : Nat → Int32, g = upd f_5238 x_5239.toNatClampNeg p0 := ⟨_, rfl⟩
    rw [← ef_5240] at hP hD
    have hG := hG.trans (lt_eq ef_5240)
    obtain ⟨hP, hD⟩ := wl2 (ws' := [(oc7 oM iM_thrown rM_tape iM_taped iM_size iM_at iM_end iM_token iM_whole iM_nameSize iM_fault iM_place iM_trouble rM_letters iM_failed iM_hasCourt rM_r rM_fresh rM_told rM_read rM_st rM_undone rM_kept iM_undos iM_images rM_fresher iM_fresherSize iM_scale iM_night rM_heardRow rM_cutRow iM_breaths iM_cutMany iM_allBreaths rM_trial rM_words iM_fewestBreaths iM_orderMany iM_orderSum iM_leastOrder rM_often iM_setMany iM_someOf iM_allOf iM_allWeight iM_enoughWeight iM_worthSum iM_firstRest iM_leastDrawn), (arI rM_fresher kM_fresher 8 fM_fresher), (arI rM_fresh kM_fresh 287 f_5240)]) hP hD rfl
    have o1_f_5240 : (f_5240 1).toInt = (f_5238 1).toInt := put_at ef_5240 (by have q := ti_cl (x := x_5239) vx_5239 (by omega); omega)
    refine lv_aload_n hx hb dX7_lay_60 rfl (lv_at hl 1 rfl) ?_
    refine va_get (D := (dC, dI)) (ci := 7) (v := .ref rM_fresh) (C := RX7) (T := TX7) (N := 48) hx hb hts inX7 hown hK hP 0 rfl rfl 16 (by decide) (hts _ wd_156) (fun _ h9 => h9) rfl dX7_lay_61 ?_
    refine lv_iconst (v := 1) hx hb dX7_lay_64 (by decide) ?_
    refine lv_dup2_11 hx hb dX7_lay_65 rfl rfl ?_
    refine va_iald hx hb hK hP 2 1 rfl rfl (by unfold vp_in; decide) dX7_lay_66 ?_
    refine lv_topi (fun x_5241 ex_5241 => ?_)
    have hG := hG.trans (lt_eq ex_5241)
    have cx_5241 : (f_5240 1).toInt = x_5241.toInt := congrArg Int32.toInt (show f_5240 1 = x_5241 from ex_5241.symm)
    refine lv_iconst (v := 1) hx hb dX7_lay_67 (by decide) ?_
    refine lv_iadd hx hb dX7_lay_68 ?_
    refine lv_topi (fun x_5242 ex_5242 => ?_)
    have hG := hG.trans (lt_eq ex_5242)
    have vx_5242 : x_5242.toInt = x_5241.toInt + 1 := by have q := ti_add ex_5242 rfl kc_1 (by omega) (by omega); omega
    refine va_iast hx hb hK hP hD hS 2 1 rfl rfl (by unfold vp_in; decide) dX7_lay_69 (fun H locs hP hD hS => ?_)
    obtain ⟨f_5243, ef_5243⟩ : ∃ g : Nat → Int32, g = upd f_5240 (1 : Int32).toNatClampNeg x_5242 := ⟨_, rfl⟩
    rw [← ef_5243] at hP hD
    have hG := hG.trans (lt_eq ef_5243)
    obtain ⟨hP, hD⟩ := wl2 (ws' := [(oc7 oM iM_thrown rM_tape iM_taped iM_size iM_at iM_end iM_token iM_whole iM_nameSize iM_fault iM_place iM_trouble rM_letters iM_failed iM_hasCourt rM_r rM_fresh rM_told rM_read rM_st rM_undone rM_kept iM_undos iM_images rM_fresher iM_fresherSize iM_scale iM_night rM_heardRow rM_cutRow iM_breaths iM_cutMany iM_allBreaths rM_trial rM_words iM_fewestBreaths iM_orderMany iM_orderSum iM_leastOrder rM_often iM_setMany iM_someOf iM_allOf iM_allWeight iM_enoughWeight iM_worthSum iM_firstRest iM_leastDrawn), (arI rM_fresher kM_fresher 8 fM_fresher), (arI rM_fresh kM_fresh 287 f_5243)]) hP hD rfl
    have ly9 : LayI fM_fresh p0 f_5243 := lay_of (n := (fM_fresh 1).toNatClampNeg) rfl (by have q1 := ti_cl (x := x_5235) vx_5235 (by omega); have q2 := ti_cl (x := fM_fresh 1) rfl (by omega); omega) (by omega) e_f_5236_0 (by have q1 := ti_cl (x := x_5235) vx_5235 (by omega); have q2 := ti_cl (x := fM_fresh 1) rfl (by omega); omega) ef_5238 (by have q1 := ti_cl (x := x_5235) vx_5235 (by omega); have q2 := ti_cl (x := fM_fresh 1) rfl (by omega); have q3 := ti_cl (x := x_5237) vx_5237 (by omega); omega) ef_5240 (by have q1 := ti_cl (x := x_5235) vx_5235 (by omega); have q2 := ti_cl (x := fM_fresh 1) rfl (by omega); have q3 := ti_cl (x := x_5239) vx_5239 (by omega); omega) ef_5243 rfl (by have q4 := vx_5242; omega)
    exact W.vret hx hb hr (fun t ht hW => ⟨⟨0, rfl, trivial, ⟨f_5243, (by first | omega | decide | assumption), hG, Bw.to (hP.sub [0, 2, 1] rfl) (hD.sub [0, 2, 1] (by decide) rfl) (hK.sub [1, 0] rfl) ht hW⟩⟩, hS.F ht⟩) hS.2.2 dX7_lay_70
  · skip
    have hG := hG.trans (if_neg c_5232)
    have gc_5232 := ti_ne c_5232 rfl kc_0
    replace gc_5232 : iM_failed.toInt + 1 ≤ 0 := by omega
    exfalso; clear hG; omega
set_option maxHeartbeats 4000000 in
set_option maxRecDepth 100000 in
theorem tX7_nodeHere (l : Launch) (dC : Nat → ClassId) (dI : Nat → Nat → Nat) (sz : Nat) (oM : Nat) (iM_thrown : Int32) (rM_tape : Nat) (iM_taped : Int32) (iM_size : Int32) (iM_at : Int32) (iM_end : Int32) (iM_token : Int32) (iM_whole : Int32) (iM_nameSize : Int32) (iM_fault : Int32) (iM_place : Int32) (iM_trouble : Int32) (rM_letters : Nat) (fM_letters : Nat → Int32) (kM_letters : ClassId) (iM_failed : Int32) (iM_hasCourt : Int32) (rM_r : Nat) (rM_fresh : Nat) (fM_fresh : Nat → Int32) (kM_fresh : ClassId) (rM_told : Nat) (rM_read : Nat) (fM_read : Nat → Int32) (kM_read : ClassId) (rM_st : Nat) (rM_undone : Nat) (rM_kept : Nat) (iM_undos : Int32) (iM_images : Int32) (rM_fresher : Nat) (iM_fresherSize : Int32) (iM_scale : Int32) (iM_night : Int32) (rM_heardRow : Nat) (rM_cutRow : Nat) (iM_breaths : Int32) (iM_cutMany : Int32) (iM_allBreaths : Int32) (rM_trial : Nat) (rM_words : Nat) (iM_fewestBreaths : Int32) (iM_orderMany : Int32) (iM_orderSum : Int32) (iM_leastOrder : Int32) (rM_often : Nat) (iM_setMany : Int32) (iM_someOf : Int32) (iM_allOf : Int32) (iM_allWeight : Int64) (iM_enoughWeight : Int64) (iM_worthSum : Int64) (iM_firstRest : Int32) (iM_leastDrawn : Int32) (b_iM_taped : 0 ≤ iM_taped.toInt ∧ iM_taped.toInt ≤ 900) (b_iM_size : 0 ≤ iM_size.toInt ∧ iM_size.toInt ≤ 900) (b_iM_end : 0 ≤ iM_end.toInt ∧ iM_end.toInt ≤ 900) (b_iM_nameSize : 0 ≤ iM_nameSize.toInt ∧ iM_nameSize.toInt ≤ 900) (b_iM_failed : 0 ≤ iM_failed.toInt ∧ iM_failed.toInt ≤ 1) (b_iM_hasCourt : 0 ≤ iM_hasCourt.toInt ∧ iM_hasCourt.toInt ≤ 1) (b_iM_undos : 0 ≤ iM_undos.toInt ∧ iM_undos.toInt ≤ 16) (b_iM_images : 0 ≤ iM_images.toInt ∧ iM_images.toInt ≤ 3) (b_iM_scale : 1 ≤ iM_scale.toInt ∧ iM_scale.toInt ≤ 1296) (b_iM_breaths : 0 ≤ iM_breaths.toInt ∧ iM_breaths.toInt ≤ 399) (b_iM_cutMany : 0 ≤ iM_cutMany.toInt ∧ iM_cutMany.toInt ≤ 399) (r_T : ImpP (iM_token.toInt = 2) (iM_nameSize.toInt ≤ 8)) (r_P : POk fM_fresh fM_read)  : Met l yX7_nodeHere (Cond.code yX7_nodeHere cX7_nodeHere 2 (some .int) :: wG) ({ frames := 6, cells := 0, slots := 0, locals := 154 }) (va_Pc [.ref oM] (Pw dC dI sz [(oc7 oM iM_thrown rM_tape iM_taped iM_size iM_at iM_end iM_token iM_whole iM_nameSize iM_fault iM_place iM_trouble rM_letters iM_failed iM_hasCourt rM_r rM_fresh rM_told rM_read rM_st rM_undone rM_kept iM_undos iM_images rM_fresher iM_fresherSize iM_scale iM_night rM_heardRow rM_cutRow iM_breaths iM_cutMany iM_allBreaths rM_trial rM_words iM_fewestBreaths iM_orderMany iM_orderSum iM_leastOrder rM_often iM_setMany iM_someOf iM_allOf iM_allWeight iM_enoughWeight iM_worthSum iM_firstRest iM_leastDrawn), (arI rM_letters kM_letters 8 fM_letters), (arI rM_fresh kM_fresh 287 fM_fresh), (arI rM_read kM_read 90 fM_read)] [(kM_letters, .int), (kM_fresh, .int), (kM_read, .int)])) (va_Qi (fun (r : Int32) (u : Nat) => (True ∧ (0 ≤ r.toInt ∧ ImpP (1 ≤ (fM_fresh 1).toInt) (r.toInt < (fM_fresh 1).toInt) ∧ r.toInt ≤ 17)) ∧ r = Int32.ofNat u) (fun (u : Nat) (t : State) => ∃ (niM_fault : Int32) (niM_place : Int32) (niM_failed : Int32), (0 ≤ niM_failed.toInt ∧ niM_failed.toInt ≤ 1) ∧ (iM_failed.toInt ≤ niM_failed.toInt) ∧ (ImpP (niM_failed.toInt ≤ 0) (1 ≤ (fM_fresh 1).toInt)) ∧ (PX7_nodeHere iM_at iM_token iM_nameSize iM_fault iM_place fM_letters iM_failed fM_fresh = (Int32.ofNat u, niM_fault, niM_place, niM_failed)) ∧ Bw dC dI (va_A [(oc7 oM iM_thrown rM_tape iM_taped iM_size iM_at iM_end iM_token iM_whole iM_nameSize iM_fault iM_place iM_trouble rM_letters iM_failed iM_hasCourt rM_r rM_fresh rM_told rM_read rM_st rM_undone rM_kept iM_undos iM_images rM_fresher iM_fresherSize iM_scale iM_night rM_heardRow rM_cutRow iM_breaths iM_cutMany iM_allBreaths rM_trial rM_words iM_fewestBreaths iM_orderMany iM_orderSum iM_leastOrder rM_often iM_setMany iM_someOf iM_allOf iM_allWeight iM_enoughWeight iM_worthSum iM_firstRest iM_leastDrawn), (arI rM_letters kM_letters 8 fM_letters), (arI rM_fresh kM_fresh 287 fM_fresh), (arI rM_read kM_read 90 fM_read)] sz) [(oc7 oM iM_thrown rM_tape iM_taped iM_size iM_at iM_end iM_token iM_whole iM_nameSize niM_fault niM_place iM_trouble rM_letters niM_failed iM_hasCourt rM_r rM_fresh rM_told rM_read rM_st rM_undone rM_kept iM_undos iM_images rM_fresher iM_fresherSize iM_scale iM_night rM_heardRow rM_cutRow iM_breaths iM_cutMany iM_allBreaths rM_trial rM_words iM_fewestBreaths iM_orderMany iM_orderSum iM_leastOrder rM_often iM_setMany iM_someOf iM_allOf iM_allWeight iM_enoughWeight iM_worthSum iM_firstRest iM_leastDrawn), (arI rM_letters kM_letters 8 fM_letters), (arI rM_fresh kM_fresh 287 fM_fresh), (arI rM_read kM_read 90 fM_read)] [(kM_letters, .int), (kM_fresh, .int), (kM_read, .int)] t) (va_A [(oc7 oM iM_thrown rM_tape iM_taped iM_size iM_at iM_end iM_token iM_whole iM_nameSize iM_fault iM_place iM_trouble rM_letters iM_failed iM_hasCourt rM_r rM_fresh rM_told rM_read rM_st rM_undone rM_kept iM_undos iM_images rM_fresher iM_fresherSize iM_scale iM_night rM_heardRow rM_cutRow iM_breaths iM_cutMany iM_allBreaths rM_trial rM_words iM_fewestBreaths iM_orderMany iM_orderSum iM_leastOrder rM_often iM_setMany iM_someOf iM_allOf iM_allWeight iM_enoughWeight iM_worthSum iM_firstRest iM_leastDrawn), (arI rM_letters kM_letters 8 fM_letters), (arI rM_fresh kM_fresh 287 fM_fresh), (arI rM_read kM_read 90 fM_read)] sz)) 0 0 (va_A [(oc7 oM iM_thrown rM_tape iM_taped iM_size iM_at iM_end iM_token iM_whole iM_nameSize iM_fault iM_place iM_trouble rM_letters iM_failed iM_hasCourt rM_r rM_fresh rM_told rM_read rM_st rM_undone rM_kept iM_undos iM_images rM_fresher iM_fresherSize iM_scale iM_night rM_heardRow rM_cutRow iM_breaths iM_cutMany iM_allBreaths rM_trial rM_words iM_fewestBreaths iM_orderMany iM_orderSum iM_leastOrder rM_often iM_setMany iM_someOf iM_allOf iM_allWeight iM_enoughWeight iM_worthSum iM_firstRest iM_leastDrawn), (arI rM_letters kM_letters 8 fM_letters), (arI rM_fresh kM_fresh 287 fM_fresh), (arI rM_read kM_read 90 fM_read)] sz) := by
  refine Met.ofW (cc := cX7_nodeHere) (maxL := 2) (ret := (some .int)) (by decide) rfl ?_
  intro p e s m args below meth c s₁ B hml hv
  obtain ⟨rfl, hsz, hP, hK, hD0, hE⟩ := hv
  have hx := B.exec
  have hb := B.bytes
  have hr := B.returns
  have hts : ∀ w ∈ wG, w.before ([.ref oM] : List Value).toArray s = true := fun w h => atoms_spec (ws := Cond.code yX7_nodeHere cX7_nodeHere 2 (some .int) :: wG) B.pre w (List.mem_cons_of_mem _ h)
  have hown : s.vm.findClass RX7 = some m.cls := findClass_of_methodNamed B.named
  have hlocks := B.notSynchronized
  subst hsz
  have hD := hD0.self (sz := s.heap.size)
  generalize hAe : va_A [(oc7 oM iM_thrown rM_tape iM_taped iM_size iM_at iM_end iM_token iM_whole iM_nameSize iM_fault iM_place iM_trouble rM_letters iM_failed iM_hasCourt rM_r rM_fresh rM_told rM_read rM_st rM_undone rM_kept iM_undos iM_images rM_fresher iM_fresherSize iM_scale iM_night rM_heardRow rM_cutRow iM_breaths iM_cutMany iM_allBreaths rM_trial rM_words iM_fewestBreaths iM_orderMany iM_orderSum iM_leastOrder rM_often iM_setMany iM_someOf iM_allOf iM_allWeight iM_enoughWeight iM_worthSum iM_firstRest iM_leastDrawn), (arI rM_letters kM_letters 8 fM_letters), (arI rM_fresh kM_fresh 287 fM_fresh), (arI rM_read kM_read 90 fM_read)] s.heap.size = A at hD hE ⊢
  have hA : ∀ q : Nat, s.heap.size ≤ q → A q := fun q h => by rw [← hAe]; exact Or.inr h
  have hS : va_S A s.heap s.heap [] := va_S.rf
  have hl := lv_entry ([.ref oM]) (n := 2) (Nat.le_of_ble_eq_true rfl)
  rw [lg_entry_eq]
  generalize (lg_sl ([.ref oM]) ++ List.replicate (2 - (lg_sl ([.ref oM])).length) Slot.unset).toArray = ls at hl ⊢
  have hl : lv_has ls 2 [(0, .ref oM)] := hl
  have hG := PX7_nodeHere_eq iM_at iM_token iM_nameSize iM_fault iM_place fM_letters iM_failed fM_fresh
  have pl_fM_fresh := r_P.lins
  refine lv_aload_n hx hb dX7_nodeHere_0 rfl (lv_at hl 0 rfl) ?_
  refine va_get (D := (dC, dI)) (ci := 7) (v := .int iM_failed) (C := RX7) (T := TX7) (N := 48) hx hb hts inX7 hown hK hP 0 rfl rfl 13 (by decide) (hts _ wd_380) (fun _ h9 => h9) rfl dX7_nodeHere_1 ?_
  refine lv_if_eq (tgt := 9) hx hb dX7_nodeHere_4 (by decide) (fun c_5258 => ?_) (fun c_5258 => ?_)
  · skip
    have hG := hG.trans (if_pos c_5258)
    have gc_5258 := ti_eq c_5258 rfl kc_0
    refine lv_aload_n hx hb dX7_nodeHere_9 rfl (lv_at hl 0 rfl) ?_
    have hFc := va_free (wc := [(oc7 oM iM_thrown rM_tape iM_taped iM_size iM_at iM_end iM_token iM_whole iM_nameSize iM_fault iM_place iM_trouble rM_letters iM_failed iM_hasCourt rM_r rM_fresh rM_told rM_read rM_st rM_undone rM_kept iM_undos iM_images rM_fresher iM_fresherSize iM_scale iM_night rM_heardRow rM_cutRow iM_breaths iM_cutMany iM_allBreaths rM_trial rM_words iM_fewestBreaths iM_orderMany iM_orderSum iM_leastOrder rM_often iM_setMany iM_someOf iM_allOf iM_allWeight iM_enoughWeight iM_worthSum iM_firstRest iM_leastDrawn), (arI rM_letters kM_letters 8 fM_letters)]) hD hS hA [0, 1] rfl
    refine va_callv (va_runV (As := []) (rest := []) ⟨hx, hb, hml, hown, hts⟩ (tX7_mustName l dC dI _ oM iM_thrown rM_tape iM_taped iM_size iM_at iM_end iM_token iM_whole iM_nameSize iM_fault iM_place iM_trouble rM_letters fM_letters kM_letters iM_failed iM_hasCourt rM_r rM_fresh rM_told rM_read rM_st rM_undone rM_kept iM_undos iM_images rM_fresher iM_fresherSize iM_scale iM_night rM_heardRow rM_cutRow iM_breaths iM_cutMany iM_allBreaths rM_trial rM_words iM_fewestBreaths iM_orderMany iM_orderSum iM_leastOrder rM_often iM_setMany iM_someOf iM_allOf iM_allWeight iM_enoughWeight iM_worthSum iM_firstRest iM_leastDrawn (by first | omega | decide) (by first | omega | decide) (by first | omega | decide) (by first | omega | decide) (by first | omega | decide) (by first | omega | decide) (by first | omega | decide) (by first | omega | decide) (by first | omega | decide) (by first | omega | decide) (by first | omega | decide) (by first | assumption | exact (fun h9 => by have q0 := kc_0; have q1 := kc_1; omega))) (cwV 0 hts (wd_V wd_467 wd_468 wd_469 wd_5 (wd_c wd_470)) rfl rfl rfl (by decide +kernel) ⟨Nat.le_of_ble_eq_true rfl, Nat.le_of_ble_eq_true rfl⟩) ⟨Pw.fb, va_recv hK hP (ci := 7) (q0 := 0) rfl rfl, fun U hU hW => Pw.to (hP.sub [0, 1] rfl) (hD.sub [0, 1] (by decide) rfl) (hK.sub [0] rfl) hE hS hFc hU hW⟩ rfl rfl hl.1 rfl (lv_room (Nat.le_of_ble_eq_true rfl)) dX7_nodeHere_10 ⟨Nat.le_of_ble_eq_true rfl, Nat.le_of_ble_eq_true rfl⟩) hS (fun q _ h => hFc q h) hFc (fun u t H locs ht hvm hw hB hz1 hk1 hS => ?_)
    obtain ⟨x_5259, x_5260, x_5261, b_x_5261, e_x_5259_0, e_x_5259_1, e_x_5259_2, hB⟩ := hB
    obtain ⟨hP, hD, hK⟩ := Bw.go (ws' := [(arI rM_fresh kM_fresh 287 fM_fresh), (arI rM_read kM_read 90 fM_read), (oc7 oM iM_thrown rM_tape iM_taped iM_size iM_at iM_end iM_token iM_whole iM_nameSize x_5259 x_5260 iM_trouble rM_letters x_5261 iM_hasCourt rM_r rM_fresh rM_told rM_read rM_st rM_undone rM_kept iM_undos iM_images rM_fresher iM_fresherSize iM_scale iM_night rM_heardRow rM_cutRow iM_breaths iM_cutMany iM_allBreaths rM_trial rM_words iM_fewestBreaths iM_orderMany iM_orderSum iM_leastOrder rM_often iM_setMany iM_someOf iM_allOf iM_allWeight iM_enoughWeight iM_worthSum iM_firstRest iM_leastDrawn), (arI rM_letters kM_letters 8 fM_letters)]) (tys' := [(kM_fresh, .int), (kM_read, .int), (kM_letters, .int)]) hB rfl ht hvm hP hD hK [0, 1] [2, 3] rfl (by decide) (by decide) [1, 2] hk1 hFc rfl rfl rfl
    clear hz1 hk1 hvm ht hB
    have hG := hG.trans (un3_eq e_x_5259_2)
    refine lv_aload_n hx hb dX7_nodeHere_13 rfl (lv_at hl 0 rfl) ?_
    refine va_get (D := (dC, dI)) (ci := 7) (v := .int x_5261) (C := RX7) (T := TX7) (N := 48) hx hb hts inX7 hown hK hP 2 rfl rfl 13 (by decide) (hts _ wd_380) (fun _ h9 => h9) rfl dX7_nodeHere_14 ?_
    refine lv_if_eq (tgt := 22) hx hb dX7_nodeHere_17 (by decide) (fun c_5262 => ?_) (fun c_5262 => ?_)
    · skip
      have hG := hG.trans (if_pos c_5262)
      have gc_5262 := ti_eq c_5262 rfl kc_0
      have h_5263 := e_x_5259_1 (by omega)
      clear e_x_5259_1
      have h_5264 := r_T (by omega)
      clear r_T
      refine lv_aload_n hx hb dX7_nodeHere_22 rfl (lv_at hl 0 rfl) ?_
      have hFc := va_free (wc := [(oc7 oM iM_thrown rM_tape iM_taped iM_size iM_at iM_end iM_token iM_whole iM_nameSize x_5259 x_5260 iM_trouble rM_letters x_5261 iM_hasCourt rM_r rM_fresh rM_told rM_read rM_st rM_undone rM_kept iM_undos iM_images rM_fresher iM_fresherSize iM_scale iM_night rM_heardRow rM_cutRow iM_breaths iM_cutMany iM_allBreaths rM_trial rM_words iM_fewestBreaths iM_orderMany iM_orderSum iM_leastOrder rM_often iM_setMany iM_someOf iM_allOf iM_allWeight iM_enoughWeight iM_worthSum iM_firstRest iM_leastDrawn), (arI rM_letters kM_letters 8 fM_letters), (arI rM_fresh kM_fresh 287 fM_fresh), (arI rM_read kM_read 90 fM_read)]) hD hS hA [2, 3, 0, 1] rfl
      refine va_calli (va_runV (As := []) (rest := []) ⟨hx, hb, hml, hown, hts⟩ (tX7_find l dC dI _ oM iM_thrown rM_tape iM_taped iM_size iM_at iM_end iM_token iM_whole iM_nameSize x_5259 x_5260 iM_trouble rM_letters fM_letters kM_letters x_5261 iM_hasCourt rM_r rM_fresh fM_fresh kM_fresh rM_told rM_read fM_read kM_read rM_st rM_undone rM_kept iM_undos iM_images rM_fresher iM_fresherSize iM_scale iM_night rM_heardRow rM_cutRow iM_breaths iM_cutMany iM_allBreaths rM_trial rM_words iM_fewestBreaths iM_orderMany iM_orderSum iM_leastOrder rM_often iM_setMany iM_someOf iM_allOf iM_allWeight iM_enoughWeight iM_worthSum iM_firstRest iM_leastDrawn (by first | omega | decide) (by first | omega | decide) (by first | omega | decide) (by first | omega | decide) (by first | exact b_x_5261 | omega | decide) (by first | omega | decide) (by first | omega | decide) (by first | omega | decide) (by first | omega | decide) (by first | omega | decide) (by first | omega | decide) (by first | assumption | exact (fun h9 => by have q0 := kc_0; have q1 := kc_1; omega)) (by assumption) (by first | omega | decide | assumption | (have q0 := kc_0; have q1 := kc_1; omega) | (intro h; exact absurd h (by decide)))) (cwV 0 hts (wd_V wd_471 wd_472 wd_473 wd_5 (wd_c wd_474)) rfl rfl rfl (by decide +kernel) ⟨Nat.le_of_ble_eq_true rfl, Nat.le_of_ble_eq_true rfl⟩) ⟨Pw.fb, va_recv hK hP (ci := 7) (q0 := 2) rfl rfl, fun U hU hW => Pw.to (hP.sub [2, 3, 0, 1] rfl) (hD.sub [2, 3, 0, 1] (by decide) rfl) (hK.sub [2, 0, 1] rfl) hE hS hFc hU hW⟩ rfl rfl hl.1 rfl (lv_room (Nat.le_of_ble_eq_true rfl)) dX7_nodeHere_23 ⟨Nat.le_of_ble_eq_true rfl, Nat.le_of_ble_eq_true rfl⟩) hS (fun q _ h => hFc q h) hFc (fun r u t H locs ht hvm hw hB hz1 hk1 hS => ?_)
      have hru9 := hw.2
      have hw := hw.1
      obtain ⟨hP, hD, hK⟩ := Bw.go (ws' := [(oc7 oM iM_thrown rM_tape iM_taped iM_size iM_at iM_end iM_token iM_whole iM_nameSize x_5259 x_5260 iM_trouble rM_letters x_5261 iM_hasCourt rM_r rM_fresh rM_told rM_read rM_st rM_undone rM_kept iM_undos iM_images rM_fresher iM_fresherSize iM_scale iM_night rM_heardRow rM_cutRow iM_breaths iM_cutMany iM_allBreaths rM_trial rM_words iM_fewestBreaths iM_orderMany iM_orderSum iM_leastOrder rM_often iM_setMany iM_someOf iM_allOf iM_allWeight iM_enoughWeight iM_worthSum iM_firstRest iM_leastDrawn), (arI rM_letters kM_letters 8 fM_letters), (arI rM_fresh kM_fresh 287 fM_fresh), (arI rM_read kM_read 90 fM_read)]) (tys' := [(kM_letters, .int), (kM_fresh, .int), (kM_read, .int)]) hB rfl ht hvm hP hD hK [2, 3, 0, 1] [] rfl (by decide) (by decide) [] hk1 hFc rfl rfl rfl
      clear hz1 hk1 hvm ht hB
      obtain ⟨x_5265, rfl⟩ : ∃ z, z = r := ⟨_, rfl⟩
      have hG := hG.trans (lt_eq hru9.symm)
      have lx_5265 := hw.2
      have ux_5265 := hw.2
      refine lv_istore_n (lv' := [(1, .int x_5265), (0, .ref oM)]) hx hb dX7_nodeHere_26 rfl hl (by decide) rfl (fun ls hl => ?_)
      refine lv_iload_n hx hb dX7_nodeHere_27 rfl (lv_at hl 0 rfl) ?_
      refine lv_if_ge (tgt := 40) hx hb dX7_nodeHere_28 (by decide) (fun c_5266 => ?_) (fun c_5266 => ?_)
      · skip
        have hG := hG.trans (if_pos c_5266)
        have gc_5266 := ti_le c_5266 kc_0 rfl
        refine lv_aload_n hx hb dX7_nodeHere_40 rfl (lv_at hl 1 rfl) ?_
        refine va_get (D := (dC, dI)) (ci := 7) (v := .int x_5261) (C := RX7) (T := TX7) (N := 48) hx hb hts inX7 hown hK hP 0 rfl rfl 13 (by decide) (hts _ wd_380) (fun _ h9 => h9) rfl dX7_nodeHere_41 ?_
        refine lv_if_eq (tgt := 51) hx hb dX7_nodeHere_44 (by decide) (fun c_5267 => ?_) (fun c_5267 => ?_)
        · skip
          have hG := hG.trans (if_pos c_5267)
          have gc_5267 := ti_eq c_5267 rfl kc_0
          refine lv_iload_n hx hb dX7_nodeHere_51 rfl (lv_at hl 0 rfl) ?_
          exact W.iret hx hb hr (fun t ht hW => ⟨⟨_, (cI x_5265), rfl, ⟨⟨trivial, ⟨by have q0 := kc_0; omega, fun h9 => by have q0 := kc_0; omega, by have q0 := kc_0; omega⟩⟩, (cI_of x_5265)⟩, ⟨x_5259, x_5260, x_5261, b_x_5261, (by first | assumption | (have q0 := kc_0; have q1 := kc_1; omega)), (by first | assumption | exact (fun h9 => by have q0 := kc_0; have q1 := kc_1; omega)), (cI_tup hG), Bw.to (hP.sub [0, 1, 2, 3] rfl) (hD.sub [0, 1, 2, 3] (by decide) rfl) (hK.sub [0, 1, 2] rfl) ht hW⟩⟩, hS.F ht⟩) hS.2.2 dX7_nodeHere_52
        · skip
          have hG := hG.trans (if_neg c_5267)
          have gc_5267 := ti_ne c_5267 rfl kc_0
          replace gc_5267 : x_5261.toInt + 1 ≤ 0 := by omega
          exfalso; clear hG; omega
      · skip
        have hG := hG.trans (if_neg c_5266)
        have gc_5266 := ti_nle c_5266 kc_0 rfl
        refine lv_aload_n hx hb dX7_nodeHere_31 rfl (lv_at hl 1 rfl) ?_
        refine lv_iconst (v := 2) hx hb dX7_nodeHere_32 (by decide) ?_
        refine lv_aload_n hx hb dX7_nodeHere_33 rfl (lv_at hl 1 rfl) ?_
        refine va_get (D := (dC, dI)) (ci := 7) (v := .int iM_at) (C := RX7) (T := TX7) (N := 48) hx hb hts inX7 hown hK hP 0 rfl rfl 4 (by decide) (hts _ wd_384) (fun _ h9 => h9) rfl dX7_nodeHere_34 ?_
        have hFc := va_free (wc := [(oc7 oM iM_thrown rM_tape iM_taped iM_size iM_at iM_end iM_token iM_whole iM_nameSize x_5259 x_5260 iM_trouble rM_letters x_5261 iM_hasCourt rM_r rM_fresh rM_told rM_read rM_st rM_undone rM_kept iM_undos iM_images rM_fresher iM_fresherSize iM_scale iM_night rM_heardRow rM_cutRow iM_breaths iM_cutMany iM_allBreaths rM_trial rM_words iM_fewestBreaths iM_orderMany iM_orderSum iM_leastOrder rM_often iM_setMany iM_someOf iM_allOf iM_allWeight iM_enoughWeight iM_worthSum iM_firstRest iM_leastDrawn)]) hD hS hA [0] rfl
        refine va_callv (va_runV (As := [.int 2, .int iM_at]) (rest := []) ⟨hx, hb, hml, hown, hts⟩ (tX7_wrong l dC dI _ oM iM_thrown rM_tape iM_taped iM_size iM_at iM_end iM_token iM_whole iM_nameSize x_5259 x_5260 iM_trouble rM_letters x_5261 iM_hasCourt rM_r rM_fresh rM_told rM_read rM_st rM_undone rM_kept iM_undos iM_images rM_fresher iM_fresherSize iM_scale iM_night rM_heardRow rM_cutRow iM_breaths iM_cutMany iM_allBreaths rM_trial rM_words iM_fewestBreaths iM_orderMany iM_orderSum iM_leastOrder rM_often iM_setMany iM_someOf iM_allOf iM_allWeight iM_enoughWeight iM_worthSum iM_firstRest iM_leastDrawn 2 iM_at (by first | omega | decide) (by first | omega | decide) (by first | omega | decide) (by first | omega | decide) (by first | exact b_x_5261 | omega | decide) (by first | omega | decide) (by first | omega | decide) (by first | omega | decide) (by first | omega | decide) (by first | omega | decide) (by first | omega | decide) (by first | assumption | exact (fun h9 => by have q0 := kc_0; have q1 := kc_1; omega))) (cwV 2 hts (wd_V wd_430 wd_431 wd_432 wd_5 (wd_c wd_433)) rfl rfl rfl (by decide +kernel) ⟨Nat.le_of_ble_eq_true rfl, Nat.le_of_ble_eq_true rfl⟩) ⟨Pw.fb, va_recv hK hP (ci := 7) (q0 := 0) rfl rfl, fun U hU hW => Pw.to (hP.sub [0] rfl) (hD.sub [0] (by decide) rfl) (hK.sub [] rfl) hE hS hFc hU hW⟩ rfl rfl hl.1 rfl (lv_room (Nat.le_of_ble_eq_true rfl)) dX7_nodeHere_37 ⟨Nat.le_of_ble_eq_true rfl, Nat.le_of_ble_eq_true rfl⟩) hS (fun q _ h => hFc q h) hFc (fun u t H locs ht hvm hw hB hz1 hk1 hS => ?_)
        obtain ⟨x_5268, x_5269, x_5270, b_x_5270, e_x_5268_0, e_x_5268_1, hB⟩ := hB
        obtain ⟨hP, hD, hK⟩ := Bw.go (ws' := [(arI rM_letters kM_letters 8 fM_letters), (arI rM_fresh kM_fresh 287 fM_fresh), (arI rM_read kM_read 90 fM_read), (oc7 oM iM_thrown rM_tape iM_taped iM_size iM_at iM_end iM_token iM_whole iM_nameSize x_5268 x_5269 iM_trouble rM_letters x_5270 iM_hasCourt rM_r rM_fresh rM_told rM_read rM_st rM_undone rM_kept iM_undos iM_images rM_fresher iM_fresherSize iM_scale iM_night rM_heardRow rM_cutRow iM_breaths iM_cutMany iM_allBreaths rM_trial rM_words iM_fewestBreaths iM_orderMany iM_orderSum iM_leastOrder rM_often iM_setMany iM_someOf iM_allOf iM_allWeight iM_enoughWeight iM_worthSum iM_firstRest iM_leastDrawn)]) (tys' := [(kM_letters, .int), (kM_fresh, .int), (kM_read, .int)]) hB rfl ht hvm hP hD hK [0] [1, 2, 3] rfl (by decide) (by decide) [0, 1, 2] hk1 hFc rfl rfl rfl
        clear hz1 hk1 hvm ht hB
        have hG := hG.trans (un3_eq e_x_5268_1)
        refine lv_aload_n hx hb dX7_nodeHere_40 rfl (lv_at hl 1 rfl) ?_
        refine va_get (D := (dC, dI)) (ci := 7) (v := .int x_5270) (C := RX7) (T := TX7) (N := 48) hx hb hts inX7 hown hK hP 3 rfl rfl 13 (by decide) (hts _ wd_380) (fun _ h9 => h9) rfl dX7_nodeHere_41 ?_
        refine lv_if_eq (tgt := 51) hx hb dX7_nodeHere_44 (by decide) (fun c_5271 => ?_) (fun c_5271 => ?_)
        · skip
          have hG := hG.trans (if_pos c_5271)
          have gc_5271 := ti_eq c_5271 rfl kc_0
          exfalso; clear hG; omega
        · skip
          have hG := hG.trans (if_neg c_5271)
          have gc_5271 := ti_ne c_5271 rfl kc_0
          replace gc_5271 : (-1) * x_5270.toInt + 1 ≤ 0 := by omega
          refine lv_iconst (v := 0) hx hb dX7_nodeHere_47 (by decide) ?_
          refine lv_goto (tgt := 52) hx hb dX7_nodeHere_48 (by decide) ?_
          exact W.iret hx hb hr (fun t ht hW => ⟨⟨_, (cI 0), rfl, ⟨⟨trivial, ⟨by have q0 := kc_0; omega, fun h9 => by have q0 := kc_0; omega, by have q0 := kc_0; omega⟩⟩, (cI_of 0)⟩, ⟨x_5268, x_5269, x_5270, b_x_5270, (by first | assumption | (have q0 := kc_0; have q1 := kc_1; omega)), (by first | assumption | exact (fun h9 => by have q0 := kc_0; have q1 := kc_1; omega)), (cI_tup hG), Bw.to (hP.sub [3, 0, 1, 2] rfl) (hD.sub [3, 0, 1, 2] (by decide) rfl) (hK.sub [0, 1, 2] rfl) ht hW⟩⟩, hS.F ht⟩) hS.2.2 dX7_nodeHere_52
    · skip
      have hG := hG.trans (if_neg c_5262)
      have gc_5262 := ti_ne c_5262 rfl kc_0
      replace gc_5262 : (-1) * x_5261.toInt + 1 ≤ 0 := by omega
      clear e_x_5259_1
      refine lv_iconst (v := 0) hx hb dX7_nodeHere_20 (by decide) ?_
      exact W.iret hx hb hr (fun t ht hW => ⟨⟨_, (cI 0), rfl, ⟨⟨trivial, ⟨by have q0 := kc_0; omega, fun h9 => by have q0 := kc_0; omega, by have q0 := kc_0; omega⟩⟩, (cI_of 0)⟩, ⟨x_5259, x_5260, x_5261, b_x_5261, (by first | assumption | (have q0 := kc_0; have q1 := kc_1; omega)), (by first | assumption | exact (fun h9 => by have q0 := kc_0; have q1 := kc_1; omega)), (cI_tup hG), Bw.to (hP.sub [2, 3, 0, 1] rfl) (hD.sub [2, 3, 0, 1] (by decide) rfl) (hK.sub [2, 0, 1] rfl) ht hW⟩⟩, hS.F ht⟩) hS.2.2 dX7_nodeHere_21
  · skip
    have hG := hG.trans (if_neg c_5258)
    have gc_5258 := ti_ne c_5258 rfl kc_0
    replace gc_5258 : (-1) * iM_failed.toInt + 1 ≤ 0 := by omega
    refine lv_iconst (v := 0) hx hb dX7_nodeHere_7 (by decide) ?_
    exact W.iret hx hb hr (fun t ht hW => ⟨⟨_, (cI 0), rfl, ⟨⟨trivial, ⟨by have q0 := kc_0; omega, fun h9 => by have q0 := kc_0; omega, by have q0 := kc_0; omega⟩⟩, (cI_of 0)⟩, ⟨iM_fault, iM_place, iM_failed, (by omega), (by first | assumption | (have q0 := kc_0; have q1 := kc_1; omega)), (by first | assumption | exact (fun h9 => by have q0 := kc_0; have q1 := kc_1; omega)), (cI_tup hG), Bw.to (hP.sub [0, 1, 2, 3] rfl) (hD.sub [0, 1, 2, 3] (by decide) rfl) (hK.sub [0, 1, 2] rfl) ht hW⟩⟩, hS.F ht⟩) hS.2.2 dX7_nodeHere_8
set_option maxHeartbeats 4000000 in
set_option maxRecDepth 100000 in
theorem tX7_pass (l : Launch) (dC : Nat → ClassId) (dI : Nat → Nat → Nat) (sz : Nat) (oM : Nat) (iM_thrown : Int32) (rM_tape : Nat) (fM_tape : Nat → Int32) (kM_tape : ClassId) (iM_taped : Int32) (iM_size : Int32) (iM_at : Int32) (iM_end : Int32) (iM_token : Int32) (iM_whole : Int32) (iM_nameSize : Int32) (iM_fault : Int32) (iM_place : Int32) (iM_trouble : Int32) (rM_letters : Nat) (fM_letters : Nat → Int32) (kM_letters : ClassId) (iM_failed : Int32) (iM_hasCourt : Int32) (rM_r : Nat) (rM_fresh : Nat) (rM_told : Nat) (rM_read : Nat) (rM_st : Nat) (rM_undone : Nat) (rM_kept : Nat) (iM_undos : Int32) (iM_images : Int32) (rM_fresher : Nat) (iM_fresherSize : Int32) (iM_scale : Int32) (iM_night : Int32) (rM_heardRow : Nat) (rM_cutRow : Nat) (iM_breaths : Int32) (iM_cutMany : Int32) (iM_allBreaths : Int32) (rM_trial : Nat) (rM_words : Nat) (iM_fewestBreaths : Int32) (iM_orderMany : Int32) (iM_orderSum : Int32) (iM_leastOrder : Int32) (rM_often : Nat) (iM_setMany : Int32) (iM_someOf : Int32) (iM_allOf : Int32) (iM_allWeight : Int64) (iM_enoughWeight : Int64) (iM_worthSum : Int64) (iM_firstRest : Int32) (iM_leastDrawn : Int32) (b_iM_taped : 0 ≤ iM_taped.toInt ∧ iM_taped.toInt ≤ 900) (b_iM_size : 0 ≤ iM_size.toInt ∧ iM_size.toInt ≤ 900) (b_iM_end : 0 ≤ iM_end.toInt ∧ iM_end.toInt ≤ 900) (b_iM_nameSize : 0 ≤ iM_nameSize.toInt ∧ iM_nameSize.toInt ≤ 900) (b_iM_failed : 0 ≤ iM_failed.toInt ∧ iM_failed.toInt ≤ 1) (b_iM_hasCourt : 0 ≤ iM_hasCourt.toInt ∧ iM_hasCourt.toInt ≤ 1) (b_iM_undos : 0 ≤ iM_undos.toInt ∧ iM_undos.toInt ≤ 16) (b_iM_images : 0 ≤ iM_images.toInt ∧ iM_images.toInt ≤ 3) (b_iM_scale : 1 ≤ iM_scale.toInt ∧ iM_scale.toInt ≤ 1296) (b_iM_breaths : 0 ≤ iM_breaths.toInt ∧ iM_breaths.toInt ≤ 399) (b_iM_cutMany : 0 ≤ iM_cutMany.toInt ∧ iM_cutMany.toInt ≤ 399) (r_T : ImpP (iM_token.toInt = 2) (iM_nameSize.toInt ≤ 8))  : Met l yX7_pass (Cond.code yX7_pass cX7_pass 1 none :: wG) ({ frames := 2, cells := 0, slots := 0, locals := 44 }) (va_Pc [.ref oM] (Pw dC dI sz [(oc7 oM iM_thrown rM_tape iM_taped iM_size iM_at iM_end iM_token iM_whole iM_nameSize iM_fault iM_place iM_trouble rM_letters iM_failed iM_hasCourt rM_r rM_fresh rM_told rM_read rM_st rM_undone rM_kept iM_undos iM_images rM_fresher iM_fresherSize iM_scale iM_night rM_heardRow rM_cutRow iM_breaths iM_cutMany iM_allBreaths rM_trial rM_words iM_fewestBreaths iM_orderMany iM_orderSum iM_leastOrder rM_often iM_setMany iM_someOf iM_allOf iM_allWeight iM_enoughWeight iM_worthSum iM_firstRest iM_leastDrawn), (arI rM_tape kM_tape 900 fM_tape), (arI rM_letters kM_letters 8 fM_letters)] [(kM_tape, .int), (kM_letters, .int)])) (va_Qv (fun (_ : Nat) => True) (fun (_ : Nat) (t : State) => ∃ (niM_at : Int32) (niM_end : Int32) (niM_token : Int32) (niM_whole : Int32) (niM_nameSize : Int32) (nfM_letters : Nat → Int32), (0 ≤ niM_end.toInt ∧ niM_end.toInt ≤ 900) ∧ (0 ≤ niM_nameSize.toInt ∧ niM_nameSize.toInt ≤ 900) ∧ (iM_end.toInt ≤ niM_end.toInt) ∧ (ImpP (niM_token.toInt = 2) (niM_nameSize.toInt ≤ 8)) ∧ (ImpP (iM_failed.toInt ≤ 0 ∧ niM_token.toInt = 59 ) (iM_end.toInt + 1 ≤ niM_end.toInt)) ∧ (PX7_pass fM_tape iM_size iM_at iM_end iM_token iM_whole iM_nameSize fM_letters iM_failed = (niM_at, niM_end, niM_token, niM_whole, niM_nameSize, nfM_letters)) ∧ Bw dC dI (va_A [(oc7 oM iM_thrown rM_tape iM_taped iM_size iM_at iM_end iM_token iM_whole iM_nameSize iM_fault iM_place iM_trouble rM_letters iM_failed iM_hasCourt rM_r rM_fresh rM_told rM_read rM_st rM_undone rM_kept iM_undos iM_images rM_fresher iM_fresherSize iM_scale iM_night rM_heardRow rM_cutRow iM_breaths iM_cutMany iM_allBreaths rM_trial rM_words iM_fewestBreaths iM_orderMany iM_orderSum iM_leastOrder rM_often iM_setMany iM_someOf iM_allOf iM_allWeight iM_enoughWeight iM_worthSum iM_firstRest iM_leastDrawn), (arI rM_tape kM_tape 900 fM_tape), (arI rM_letters kM_letters 8 fM_letters)] sz) [(oc7 oM iM_thrown rM_tape iM_taped iM_size niM_at niM_end niM_token niM_whole niM_nameSize iM_fault iM_place iM_trouble rM_letters iM_failed iM_hasCourt rM_r rM_fresh rM_told rM_read rM_st rM_undone rM_kept iM_undos iM_images rM_fresher iM_fresherSize iM_scale iM_night rM_heardRow rM_cutRow iM_breaths iM_cutMany iM_allBreaths rM_trial rM_words iM_fewestBreaths iM_orderMany iM_orderSum iM_leastOrder rM_often iM_setMany iM_someOf iM_allOf iM_allWeight iM_enoughWeight iM_worthSum iM_firstRest iM_leastDrawn), (arI rM_tape kM_tape 900 fM_tape), (arI rM_letters kM_letters 8 nfM_letters)] [(kM_tape, .int), (kM_letters, .int)] t) (va_A [(oc7 oM iM_thrown rM_tape iM_taped iM_size iM_at iM_end iM_token iM_whole iM_nameSize iM_fault iM_place iM_trouble rM_letters iM_failed iM_hasCourt rM_r rM_fresh rM_told rM_read rM_st rM_undone rM_kept iM_undos iM_images rM_fresher iM_fresherSize iM_scale iM_night rM_heardRow rM_cutRow iM_breaths iM_cutMany iM_allBreaths rM_trial rM_words iM_fewestBreaths iM_orderMany iM_orderSum iM_leastOrder rM_often iM_setMany iM_someOf iM_allOf iM_allWeight iM_enoughWeight iM_worthSum iM_firstRest iM_leastDrawn), (arI rM_tape kM_tape 900 fM_tape), (arI rM_letters kM_letters 8 fM_letters)] sz)) 0 0 (va_A [(oc7 oM iM_thrown rM_tape iM_taped iM_size iM_at iM_end iM_token iM_whole iM_nameSize iM_fault iM_place iM_trouble rM_letters iM_failed iM_hasCourt rM_r rM_fresh rM_told rM_read rM_st rM_undone rM_kept iM_undos iM_images rM_fresher iM_fresherSize iM_scale iM_night rM_heardRow rM_cutRow iM_breaths iM_cutMany iM_allBreaths rM_trial rM_words iM_fewestBreaths iM_orderMany iM_orderSum iM_leastOrder rM_often iM_setMany iM_someOf iM_allOf iM_allWeight iM_enoughWeight iM_worthSum iM_firstRest iM_leastDrawn), (arI rM_tape kM_tape 900 fM_tape), (arI rM_letters kM_letters 8 fM_letters)] sz) := by
  refine Met.ofW (cc := cX7_pass) (maxL := 1) (ret := none) (by decide) rfl ?_
  intro p e s m args below meth c s₁ B hml hv
  obtain ⟨rfl, hsz, hP, hK, hD0, hE⟩ := hv
  have hx := B.exec
  have hb := B.bytes
  have hr := B.returns
  have hts : ∀ w ∈ wG, w.before ([.ref oM] : List Value).toArray s = true := fun w h => atoms_spec (ws := Cond.code yX7_pass cX7_pass 1 none :: wG) B.pre w (List.mem_cons_of_mem _ h)
  have hown : s.vm.findClass RX7 = some m.cls := findClass_of_methodNamed B.named
  have hlocks := B.notSynchronized
  subst hsz
  have hD := hD0.self (sz := s.heap.size)
  generalize hAe : va_A [(oc7 oM iM_thrown rM_tape iM_taped iM_size iM_at iM_end iM_token iM_whole iM_nameSize iM_fault iM_place iM_trouble rM_letters iM_failed iM_hasCourt rM_r rM_fresh rM_told rM_read rM_st rM_undone rM_kept iM_undos iM_images rM_fresher iM_fresherSize iM_scale iM_night rM_heardRow rM_cutRow iM_breaths iM_cutMany iM_allBreaths rM_trial rM_words iM_fewestBreaths iM_orderMany iM_orderSum iM_leastOrder rM_often iM_setMany iM_someOf iM_allOf iM_allWeight iM_enoughWeight iM_worthSum iM_firstRest iM_leastDrawn), (arI rM_tape kM_tape 900 fM_tape), (arI rM_letters kM_letters 8 fM_letters)] s.heap.size = A at hD hE ⊢
  have hA : ∀ q : Nat, s.heap.size ≤ q → A q := fun q h => by rw [← hAe]; exact Or.inr h
  have hS : va_S A s.heap s.heap [] := va_S.rf
  have hl := lv_entry ([.ref oM]) (n := 1) (Nat.le_of_ble_eq_true rfl)
  rw [lg_entry_eq]
  generalize (lg_sl ([.ref oM]) ++ List.replicate (1 - (lg_sl ([.ref oM])).length) Slot.unset).toArray = ls at hl ⊢
  have hl : lv_has ls 1 [(0, .ref oM)] := hl
  have hG := PX7_pass_eq fM_tape iM_size iM_at iM_end iM_token iM_whole iM_nameSize fM_letters iM_failed
  refine lv_aload_n hx hb dX7_pass_0 rfl (lv_at hl 0 rfl) ?_
  refine va_get (D := (dC, dI)) (ci := 7) (v := .int iM_failed) (C := RX7) (T := TX7) (N := 48) hx hb hts inX7 hown hK hP 0 rfl rfl 13 (by decide) (hts _ wd_380) (fun _ h9 => h9) rfl dX7_pass_1 ?_
  refine lv_if_ne (tgt := 11) hx hb dX7_pass_4 (by decide) (fun c_5279 => ?_) (fun c_5279 => ?_)
  · skip
    have hG := hG.trans (if_neg c_5279)
    have gc_5279 := ti_ne c_5279 rfl kc_0
    replace gc_5279 : (-1) * iM_failed.toInt + 1 ≤ 0 := by omega
    exact W.vret hx hb hr (fun t ht hW => ⟨⟨0, rfl, trivial, ⟨iM_at, iM_end, iM_token, iM_whole, iM_nameSize, fM_letters, (by omega), (by omega), (by first | assumption | (have q0 := kc_0; have q1 := kc_1; omega)), r_T, (fun h9 => by have q0 := kc_0; have q1 := kc_1; omega), hG, Bw.to (hP.sub [0, 1, 2] rfl) (hD.sub [0, 1, 2] (by decide) rfl) (hK.sub [0, 1] rfl) ht hW⟩⟩, hS.F ht⟩) hS.2.2 dX7_pass_11
  · skip
    have hG := hG.trans (if_pos c_5279)
    have gc_5279 := ti_eq c_5279 rfl kc_0
    refine lv_aload_n hx hb dX7_pass_7 rfl (lv_at hl 0 rfl) ?_
    have hFc := va_free (wc := [(oc7 oM iM_thrown rM_tape iM_taped iM_size iM_at iM_end iM_token iM_whole iM_nameSize iM_fault iM_place iM_trouble rM_letters iM_failed iM_hasCourt rM_r rM_fresh rM_told rM_read rM_st rM_undone rM_kept iM_undos iM_images rM_fresher iM_fresherSize iM_scale iM_night rM_heardRow rM_cutRow iM_breaths iM_cutMany iM_allBreaths rM_trial rM_words iM_fewestBreaths iM_orderMany iM_orderSum iM_leastOrder rM_often iM_setMany iM_someOf iM_allOf iM_allWeight iM_enoughWeight iM_worthSum iM_firstRest iM_leastDrawn), (arI rM_tape kM_tape 900 fM_tape), (arI rM_letters kM_letters 8 fM_letters)]) hD hS hA [0, 1, 2] rfl
    refine va_callv (va_runV (As := []) (rest := []) ⟨hx, hb, hml, hown, hts⟩ (tX7_next l dC dI _ oM iM_thrown rM_tape fM_tape kM_tape iM_taped iM_size iM_at iM_end iM_token iM_whole iM_nameSize iM_fault iM_place iM_trouble rM_letters fM_letters kM_letters iM_failed iM_hasCourt rM_r rM_fresh rM_told rM_read rM_st rM_undone rM_kept iM_undos iM_images rM_fresher iM_fresherSize iM_scale iM_night rM_heardRow rM_cutRow iM_breaths iM_cutMany iM_allBreaths rM_trial rM_words iM_fewestBreaths iM_orderMany iM_orderSum iM_leastOrder rM_often iM_setMany iM_someOf iM_allOf iM_allWeight iM_enoughWeight iM_worthSum iM_firstRest iM_leastDrawn (by first | omega | decide) (by first | omega | decide) (by first | omega | decide) (by first | omega | decide) (by first | omega | decide) (by first | omega | decide) (by first | omega | decide) (by first | omega | decide) (by first | omega | decide) (by first | omega | decide) (by first | omega | decide) (by first | assumption | exact (fun h9 => by have q0 := kc_0; have q1 := kc_1; omega))) (cwV 0 hts (wd_V wd_400 wd_401 wd_402 wd_5 (wd_c wd_403)) rfl rfl rfl (by decide +kernel) ⟨Nat.le_of_ble_eq_true rfl, Nat.le_of_ble_eq_true rfl⟩) ⟨Pw.fb, va_recv hK hP (ci := 7) (q0 := 0) rfl rfl, fun U hU hW => Pw.to (hP.sub [0, 1, 2] rfl) (hD.sub [0, 1, 2] (by decide) rfl) (hK.sub [0, 1] rfl) hE hS hFc hU hW⟩ rfl rfl hl.1 rfl (lv_room (Nat.le_of_ble_eq_true rfl)) dX7_pass_8 ⟨Nat.le_of_ble_eq_true rfl, Nat.le_of_ble_eq_true rfl⟩) hS (fun q _ h => hFc q h) hFc (fun u t H locs ht hvm hw hB hz1 hk1 hS => ?_)
    obtain ⟨x_5280, x_5281, x_5282, x_5283, x_5284, f_5285, b_x_5281, b_x_5284, e_x_5280_0, e_x_5280_1, e_x_5280_2, e_x_5280_3, hB⟩ := hB
    obtain ⟨hP, hD, hK⟩ := Bw.go (ws' := [(oc7 oM iM_thrown rM_tape iM_taped iM_size x_5280 x_5281 x_5282 x_5283 x_5284 iM_fault iM_place iM_trouble rM_letters iM_failed iM_hasCourt rM_r rM_fresh rM_told rM_read rM_st rM_undone rM_kept iM_undos iM_images rM_fresher iM_fresherSize iM_scale iM_night rM_heardRow rM_cutRow iM_breaths iM_cutMany iM_allBreaths rM_trial rM_words iM_fewestBreaths iM_orderMany iM_orderSum iM_leastOrder rM_often iM_setMany iM_someOf iM_allOf iM_allWeight iM_enoughWeight iM_worthSum iM_firstRest iM_leastDrawn), (arI rM_tape kM_tape 900 fM_tape), (arI rM_letters kM_letters 8 f_5285)]) (tys' := [(kM_tape, .int), (kM_letters, .int)]) hB rfl ht hvm hP hD hK [0, 1, 2] [] rfl (by decide) (by decide) [] hk1 hFc rfl rfl rfl
    clear hz1 hk1 hvm ht hB
    have hG := hG.trans (un6_eq e_x_5280_3)
    clear r_T
    exact W.vret hx hb hr (fun t ht hW => ⟨⟨0, rfl, trivial, ⟨x_5280, x_5281, x_5282, x_5283, x_5284, f_5285, b_x_5281, b_x_5284, (by first | assumption | (have q0 := kc_0; have q1 := kc_1; omega)), e_x_5280_1, (fun h9 => by have q0 := kc_0; have q1 := kc_1; have q9 := e_x_5280_2 (by omega); omega), hG, Bw.to (hP.sub [0, 1, 2] rfl) (hD.sub [0, 1, 2] (by decide) rfl) (hK.sub [0, 1] rfl) ht hW⟩⟩, hS.F ht⟩) hS.2.2 dX7_pass_11
set_option maxHeartbeats 4000000 in
set_option maxRecDepth 100000 in
theorem tX7_number (l : Launch) (dC : Nat → ClassId) (dI : Nat → Nat → Nat) (sz : Nat) (oM : Nat) (iM_thrown : Int32) (rM_tape : Nat) (fM_tape : Nat → Int32) (kM_tape : ClassId) (iM_taped : Int32) (iM_size : Int32) (iM_at : Int32) (iM_end : Int32) (iM_token : Int32) (iM_whole : Int32) (iM_nameSize : Int32) (iM_fault : Int32) (iM_place : Int32) (iM_trouble : Int32) (rM_letters : Nat) (fM_letters : Nat → Int32) (kM_letters : ClassId) (iM_failed : Int32) (iM_hasCourt : Int32) (rM_r : Nat) (rM_fresh : Nat) (rM_told : Nat) (rM_read : Nat) (rM_st : Nat) (rM_undone : Nat) (rM_kept : Nat) (iM_undos : Int32) (iM_images : Int32) (rM_fresher : Nat) (iM_fresherSize : Int32) (iM_scale : Int32) (iM_night : Int32) (rM_heardRow : Nat) (rM_cutRow : Nat) (iM_breaths : Int32) (iM_cutMany : Int32) (iM_allBreaths : Int32) (rM_trial : Nat) (rM_words : Nat) (iM_fewestBreaths : Int32) (iM_orderMany : Int32) (iM_orderSum : Int32) (iM_leastOrder : Int32) (rM_often : Nat) (iM_setMany : Int32) (iM_someOf : Int32) (iM_allOf : Int32) (iM_allWeight : Int64) (iM_enoughWeight : Int64) (iM_worthSum : Int64) (iM_firstRest : Int32) (iM_leastDrawn : Int32) (p0 : Int32) (p1 : Int32) (b_iM_taped : 0 ≤ iM_taped.toInt ∧ iM_taped.toInt ≤ 900) (b_iM_size : 0 ≤ iM_size.toInt ∧ iM_size.toInt ≤ 900) (b_iM_end : 0 ≤ iM_end.toInt ∧ iM_end.toInt ≤ 900) (b_iM_nameSize : 0 ≤ iM_nameSize.toInt ∧ iM_nameSize.toInt ≤ 900) (b_iM_failed : 0 ≤ iM_failed.toInt ∧ iM_failed.toInt ≤ 1) (b_iM_hasCourt : 0 ≤ iM_hasCourt.toInt ∧ iM_hasCourt.toInt ≤ 1) (b_iM_undos : 0 ≤ iM_undos.toInt ∧ iM_undos.toInt ≤ 16) (b_iM_images : 0 ≤ iM_images.toInt ∧ iM_images.toInt ≤ 3) (b_iM_scale : 1 ≤ iM_scale.toInt ∧ iM_scale.toInt ≤ 1296) (b_iM_breaths : 0 ≤ iM_breaths.toInt ∧ iM_breaths.toInt ≤ 399) (b_iM_cutMany : 0 ≤ iM_cutMany.toInt ∧ iM_cutMany.toInt ≤ 399) (r_T : ImpP (iM_token.toInt = 2) (iM_nameSize.toInt ≤ 8)) (hlh : p0.toInt ≤ p1.toInt) : Met l yX7_number (Cond.code yX7_number cX7_number 4 (some .int) :: wG) ({ frames := 2, cells := 0, slots := 0, locals := 44 }) (va_Pc [.ref oM, .int p0, .int p1] (Pw dC dI sz [(oc7 oM iM_thrown rM_tape iM_taped iM_size iM_at iM_end iM_token iM_whole iM_nameSize iM_fault iM_place iM_trouble rM_letters iM_failed iM_hasCourt rM_r rM_fresh rM_told rM_read rM_st rM_undone rM_kept iM_undos iM_images rM_fresher iM_fresherSize iM_scale iM_night rM_heardRow rM_cutRow iM_breaths iM_cutMany iM_allBreaths rM_trial rM_words iM_fewestBreaths iM_orderMany iM_orderSum iM_leastOrder rM_often iM_setMany iM_someOf iM_allOf iM_allWeight iM_enoughWeight iM_worthSum iM_firstRest iM_leastDrawn), (arI rM_tape kM_tape 900 fM_tape), (arI rM_letters kM_letters 8 fM_letters)] [(kM_tape, .int), (kM_letters, .int)])) (va_Qi (fun (r : Int32) (u : Nat) => (True ∧ (p0.toInt ≤ r.toInt ∧ r.toInt ≤ p1.toInt)) ∧ r = Int32.ofNat u) (fun (u : Nat) (t : State) => ∃ (niM_at : Int32) (niM_end : Int32) (niM_token : Int32) (niM_whole : Int32) (niM_nameSize : Int32) (niM_fault : Int32) (niM_place : Int32) (niM_failed : Int32) (nfM_letters : Nat → Int32), (0 ≤ niM_end.toInt ∧ niM_end.toInt ≤ 900) ∧ (0 ≤ niM_nameSize.toInt ∧ niM_nameSize.toInt ≤ 900) ∧ (0 ≤ niM_failed.toInt ∧ niM_failed.toInt ≤ 1) ∧ (iM_end.toInt ≤ niM_end.toInt) ∧ (ImpP (niM_token.toInt = 2) (niM_nameSize.toInt ≤ 8)) ∧ (iM_failed.toInt ≤ niM_failed.toInt) ∧ (ImpP (niM_failed.toInt ≤ 0 ∧ niM_token.toInt = 59 ) (iM_end.toInt + 1 ≤ niM_end.toInt)) ∧ (PX7_number fM_tape iM_size iM_at iM_end iM_token iM_whole iM_nameSize iM_fault iM_place fM_letters iM_failed p0 p1 = (Int32.ofNat u, niM_at, niM_end, niM_token, niM_whole, niM_nameSize, niM_fault, niM_place, niM_failed, nfM_letters)) ∧ Bw dC dI (va_A [(oc7 oM iM_thrown rM_tape iM_taped iM_size iM_at iM_end iM_token iM_whole iM_nameSize iM_fault iM_place iM_trouble rM_letters iM_failed iM_hasCourt rM_r rM_fresh rM_told rM_read rM_st rM_undone rM_kept iM_undos iM_images rM_fresher iM_fresherSize iM_scale iM_night rM_heardRow rM_cutRow iM_breaths iM_cutMany iM_allBreaths rM_trial rM_words iM_fewestBreaths iM_orderMany iM_orderSum iM_leastOrder rM_often iM_setMany iM_someOf iM_allOf iM_allWeight iM_enoughWeight iM_worthSum iM_firstRest iM_leastDrawn), (arI rM_tape kM_tape 900 fM_tape), (arI rM_letters kM_letters 8 fM_letters)] sz) [(oc7 oM iM_thrown rM_tape iM_taped iM_size niM_at niM_end niM_token niM_whole niM_nameSize niM_fault niM_place iM_trouble rM_letters niM_failed iM_hasCourt rM_r rM_fresh rM_told rM_read rM_st rM_undone rM_kept iM_undos iM_images rM_fresher iM_fresherSize iM_scale iM_night rM_heardRow rM_cutRow iM_breaths iM_cutMany iM_allBreaths rM_trial rM_words iM_fewestBreaths iM_orderMany iM_orderSum iM_leastOrder rM_often iM_setMany iM_someOf iM_allOf iM_allWeight iM_enoughWeight iM_worthSum iM_firstRest iM_leastDrawn), (arI rM_tape kM_tape 900 fM_tape), (arI rM_letters kM_letters 8 nfM_letters)] [(kM_tape, .int), (kM_letters, .int)] t) (va_A [(oc7 oM iM_thrown rM_tape iM_taped iM_size iM_at iM_end iM_token iM_whole iM_nameSize iM_fault iM_place iM_trouble rM_letters iM_failed iM_hasCourt rM_r rM_fresh rM_told rM_read rM_st rM_undone rM_kept iM_undos iM_images rM_fresher iM_fresherSize iM_scale iM_night rM_heardRow rM_cutRow iM_breaths iM_cutMany iM_allBreaths rM_trial rM_words iM_fewestBreaths iM_orderMany iM_orderSum iM_leastOrder rM_often iM_setMany iM_someOf iM_allOf iM_allWeight iM_enoughWeight iM_worthSum iM_firstRest iM_leastDrawn), (arI rM_tape kM_tape 900 fM_tape), (arI rM_letters kM_letters 8 fM_letters)] sz)) 0 0 (va_A [(oc7 oM iM_thrown rM_tape iM_taped iM_size iM_at iM_end iM_token iM_whole iM_nameSize iM_fault iM_place iM_trouble rM_letters iM_failed iM_hasCourt rM_r rM_fresh rM_told rM_read rM_st rM_undone rM_kept iM_undos iM_images rM_fresher iM_fresherSize iM_scale iM_night rM_heardRow rM_cutRow iM_breaths iM_cutMany iM_allBreaths rM_trial rM_words iM_fewestBreaths iM_orderMany iM_orderSum iM_leastOrder rM_often iM_setMany iM_someOf iM_allOf iM_allWeight iM_enoughWeight iM_worthSum iM_firstRest iM_leastDrawn), (arI rM_tape kM_tape 900 fM_tape), (arI rM_letters kM_letters 8 fM_letters)] sz) := by
  refine Met.ofW (cc := cX7_number) (maxL := 4) (ret := (some .int)) (by decide) rfl ?_
  intro p e s m args below meth c s₁ B hml hv
  obtain ⟨rfl, hsz, hP, hK, hD0, hE⟩ := hv
  have hx := B.exec
  have hb := B.bytes
  have hr := B.returns
  have hts : ∀ w ∈ wG, w.before ([.ref oM, .int p0, .int p1] : List Value).toArray s = true := fun w h => atoms_spec (ws := Cond.code yX7_number cX7_number 4 (some .int) :: wG) B.pre w (List.mem_cons_of_mem _ h)
  have hown : s.vm.findClass RX7 = some m.cls := findClass_of_methodNamed B.named
  have hlocks := B.notSynchronized
  subst hsz
  have hD := hD0.self (sz := s.heap.size)
  generalize hAe : va_A [(oc7 oM iM_thrown rM_tape iM_taped iM_size iM_at iM_end iM_token iM_whole iM_nameSize iM_fault iM_place iM_trouble rM_letters iM_failed iM_hasCourt rM_r rM_fresh rM_told rM_read rM_st rM_undone rM_kept iM_undos iM_images rM_fresher iM_fresherSize iM_scale iM_night rM_heardRow rM_cutRow iM_breaths iM_cutMany iM_allBreaths rM_trial rM_words iM_fewestBreaths iM_orderMany iM_orderSum iM_leastOrder rM_often iM_setMany iM_someOf iM_allOf iM_allWeight iM_enoughWeight iM_worthSum iM_firstRest iM_leastDrawn), (arI rM_tape kM_tape 900 fM_tape), (arI rM_letters kM_letters 8 fM_letters)] s.heap.size = A at hD hE ⊢
  have hA : ∀ q : Nat, s.heap.size ≤ q → A q := fun q h => by rw [← hAe]; exact Or.inr h
  have hS : va_S A s.heap s.heap [] := va_S.rf
  have hl := lv_entry ([.ref oM, .int p0, .int p1]) (n := 4) (Nat.le_of_ble_eq_true rfl)
  rw [lg_entry_eq]
  generalize (lg_sl ([.ref oM, .int p0, .int p1]) ++ List.replicate (4 - (lg_sl ([.ref oM, .int p0, .int p1])).length) Slot.unset).toArray = ls at hl ⊢
  have hl : lv_has ls 4 [(0, .ref oM), (1, .int p0), (2, .int p1)] := hl
  have hG := PX7_number_eq fM_tape iM_size iM_at iM_end iM_token iM_whole iM_nameSize iM_fault iM_place fM_letters iM_failed p0 p1
  refine lv_aload_n hx hb dX7_number_0 rfl (lv_at hl 0 rfl) ?_
  refine va_get (D := (dC, dI)) (ci := 7) (v := .int iM_failed) (C := RX7) (T := TX7) (N := 48) hx hb hts inX7 hown hK hP 0 rfl rfl 13 (by decide) (hts _ wd_380) (fun _ h9 => h9) rfl dX7_number_1 ?_
  refine lv_if_eq (tgt := 9) hx hb dX7_number_4 (by decide) (fun c_5306 => ?_) (fun c_5306 => ?_)
  · skip
    have hG := hG.trans (if_pos c_5306)
    have gc_5306 := ti_eq c_5306 rfl kc_0
    refine lv_aload_n hx hb dX7_number_9 rfl (lv_at hl 0 rfl) ?_
    refine va_get (D := (dC, dI)) (ci := 7) (v := .int iM_token) (C := RX7) (T := TX7) (N := 48) hx hb hts inX7 hown hK hP 0 rfl rfl 6 (by decide) (hts _ wd_383) (fun _ h9 => h9) rfl dX7_number_10 ?_
    refine lv_iconst (v := 3) hx hb dX7_number_13 (by decide) ?_
    refine lv_icmp_eq (tgt := 29) hx hb dX7_number_14 (by decide) (fun c_5307 => ?_) (fun c_5307 => ?_)
    · skip
      have hG := hG.trans (if_pos c_5307)
      have gc_5307 := ti_eq c_5307 rfl kc_3
      refine lv_aload_n hx hb dX7_number_29 rfl (lv_at hl 0 rfl) ?_
      refine va_get (D := (dC, dI)) (ci := 7) (v := .int iM_whole) (C := RX7) (T := TX7) (N := 48) hx hb hts inX7 hown hK hP 0 rfl rfl 7 (by decide) (hts _ wd_405) (fun _ h9 => h9) rfl dX7_number_30 ?_
      refine lv_iload_n hx hb dX7_number_33 rfl (lv_at hl 1 rfl) ?_
      refine lv_iload_n hx hb dX7_number_34 rfl (lv_at hl 2 rfl) ?_
      have hFc : ∀ q, va_A [] _ q → A q := fun q h => hA q (Nat.le_trans hS.1 (va_nilA h))
      refine va_calli (va_runS (As := [.int iM_whole, .int p0, .int p1]) (rest := []) ⟨hx, hb, hml, hown, hts⟩ (tX7_in l dC dI _ iM_whole p0 p1 ) (va_cwS 3 hts (wd_S wd_393 wd_394 wd_5 (wd_c wd_395)) rfl rfl rfl (by decide +kernel) ⟨Nat.le_of_ble_eq_true rfl, Nat.le_of_ble_eq_true rfl⟩) ⟨Pw.fb, fun U hU hW => Pn.to hK hE hS hA hU hW⟩ rfl rfl hl.1 rfl (lv_room (Nat.le_of_ble_eq_true rfl)) dX7_number_35 ⟨Nat.le_of_ble_eq_true rfl, Nat.le_of_ble_eq_true rfl⟩) hS (fun q _ h => hFc q h) hFc (fun r u t H locs ht hvm hw hB hz1 hk1 hS => ?_)
      obtain ⟨hP, hD, hK⟩ := Bw.same ht hvm hP hD hK hk1 hFc
      clear hz1 hk1 hvm ht hB
      have hq9 := hw.2
      have hw := hw.1
      obtain ⟨x_5308, rfl⟩ : ∃ z, z = r := ⟨_, rfl⟩
      have hq_x_5308 := hq9
      have hG := hG.trans (lt_eq hq_x_5308.symm)
      have bx_5308 := hw.1
      have dx_5308 := bz_ti bx_5308
      have px_5308 := hw.2
      rcases px_5308 with ⟨gx_5308, hx_5308⟩ | ⟨gx_5308, hx_5308⟩
      · skip
        refine lv_if_ne (tgt := 50) hx hb dX7_number_38 (by decide) (fun c_5309 => ?_) (fun c_5309 => ?_)
        · skip
          have hG := hG.trans (if_neg c_5309)
          have gc_5309 := ti_ne c_5309 rfl kc_0
          replace gc_5309 : (-1) * x_5308.toInt + 1 ≤ 0 := by omega
          refine lv_aload_n hx hb dX7_number_50 rfl (lv_at hl 0 rfl) ?_
          refine va_get (D := (dC, dI)) (ci := 7) (v := .int iM_failed) (C := RX7) (T := TX7) (N := 48) hx hb hts inX7 hown hK hP 0 rfl rfl 13 (by decide) (hts _ wd_380) (fun _ h9 => h9) rfl dX7_number_51 ?_
          refine lv_if_eq (tgt := 59) hx hb dX7_number_54 (by decide) (fun c_5310 => ?_) (fun c_5310 => ?_)
          · skip
            have hG := hG.trans (if_pos c_5310)
            have gc_5310 := ti_eq c_5310 rfl kc_0
            refine lv_aload_n hx hb dX7_number_59 rfl (lv_at hl 0 rfl) ?_
            refine va_get (D := (dC, dI)) (ci := 7) (v := .int iM_whole) (C := RX7) (T := TX7) (N := 48) hx hb hts inX7 hown hK hP 0 rfl rfl 7 (by decide) (hts _ wd_405) (fun _ h9 => h9) rfl dX7_number_60 ?_
            refine lv_istore_n (lv' := [(3, .int iM_whole), (0, .ref oM), (1, .int p0), (2, .int p1)]) hx hb dX7_number_63 rfl hl (by decide) rfl (fun ls hl => ?_)
            refine lv_aload_n hx hb dX7_number_64 rfl (lv_at hl 1 rfl) ?_
            have hFc := va_free (wc := [(oc7 oM iM_thrown rM_tape iM_taped iM_size iM_at iM_end iM_token iM_whole iM_nameSize iM_fault iM_place iM_trouble rM_letters iM_failed iM_hasCourt rM_r rM_fresh rM_told rM_read rM_st rM_undone rM_kept iM_undos iM_images rM_fresher iM_fresherSize iM_scale iM_night rM_heardRow rM_cutRow iM_breaths iM_cutMany iM_allBreaths rM_trial rM_words iM_fewestBreaths iM_orderMany iM_orderSum iM_leastOrder rM_often iM_setMany iM_someOf iM_allOf iM_allWeight iM_enoughWeight iM_worthSum iM_firstRest iM_leastDrawn), (arI rM_tape kM_tape 900 fM_tape), (arI rM_letters kM_letters 8 fM_letters)]) hD hS hA [0, 1, 2] rfl
            refine va_callv (va_runV (As := []) (rest := []) ⟨hx, hb, hml, hown, hts⟩ (tX7_next l dC dI _ oM iM_thrown rM_tape fM_tape kM_tape iM_taped iM_size iM_at iM_end iM_token iM_whole iM_nameSize iM_fault iM_place iM_trouble rM_letters fM_letters kM_letters iM_failed iM_hasCourt rM_r rM_fresh rM_told rM_read rM_st rM_undone rM_kept iM_undos iM_images rM_fresher iM_fresherSize iM_scale iM_night rM_heardRow rM_cutRow iM_breaths iM_cutMany iM_allBreaths rM_trial rM_words iM_fewestBreaths iM_orderMany iM_orderSum iM_leastOrder rM_often iM_setMany iM_someOf iM_allOf iM_allWeight iM_enoughWeight iM_worthSum iM_firstRest iM_leastDrawn (by first | omega | decide) (by first | omega | decide) (by first | omega | decide) (by first | omega | decide) (by first | omega | decide) (by first | omega | decide) (by first | omega | decide) (by first | omega | decide) (by first | omega | decide) (by first | omega | decide) (by first | omega | decide) (by first | assumption | exact (fun h9 => by have q0 := kc_0; have q1 := kc_1; omega))) (cwV 0 hts (wd_V wd_400 wd_401 wd_402 wd_5 (wd_c wd_403)) rfl rfl rfl (by decide +kernel) ⟨Nat.le_of_ble_eq_true rfl, Nat.le_of_ble_eq_true rfl⟩) ⟨Pw.fb, va_recv hK hP (ci := 7) (q0 := 0) rfl rfl, fun U hU hW => Pw.to (hP.sub [0, 1, 2] rfl) (hD.sub [0, 1, 2] (by decide) rfl) (hK.sub [0, 1] rfl) hE hS hFc hU hW⟩ rfl rfl hl.1 rfl (lv_room (Nat.le_of_ble_eq_true rfl)) dX7_number_65 ⟨Nat.le_of_ble_eq_true rfl, Nat.le_of_ble_eq_true rfl⟩) hS (fun q _ h => hFc q h) hFc (fun u t H locs ht hvm hw hB hz1 hk1 hS => ?_)
            obtain ⟨x_5311, x_5312, x_5313, x_5314, x_5315, f_5316, b_x_5312, b_x_5315, e_x_5311_0, e_x_5311_1, e_x_5311_2, e_x_5311_3, hB⟩ := hB
            obtain ⟨hP, hD, hK⟩ := Bw.go (ws' := [(oc7 oM iM_thrown rM_tape iM_taped iM_size x_5311 x_5312 x_5313 x_5314 x_5315 iM_fault iM_place iM_trouble rM_letters iM_failed iM_hasCourt rM_r rM_fresh rM_told rM_read rM_st rM_undone rM_kept iM_undos iM_images rM_fresher iM_fresherSize iM_scale iM_night rM_heardRow rM_cutRow iM_breaths iM_cutMany iM_allBreaths rM_trial rM_words iM_fewestBreaths iM_orderMany iM_orderSum iM_leastOrder rM_often iM_setMany iM_someOf iM_allOf iM_allWeight iM_enoughWeight iM_worthSum iM_firstRest iM_leastDrawn), (arI rM_tape kM_tape 900 fM_tape), (arI rM_letters kM_letters 8 f_5316)]) (tys' := [(kM_tape, .int), (kM_letters, .int)]) hB rfl ht hvm hP hD hK [0, 1, 2] [] rfl (by decide) (by decide) [] hk1 hFc rfl rfl rfl
            clear hz1 hk1 hvm ht hB
            have hG := hG.trans (un6_eq e_x_5311_3)
            clear r_T
            refine lv_iload_n hx hb dX7_number_68 rfl (lv_at hl 0 rfl) ?_
            exact W.iret hx hb hr (fun t ht hW => ⟨⟨_, (cI iM_whole), rfl, ⟨⟨trivial, (by first | omega | assumption)⟩, (cI_of iM_whole)⟩, ⟨x_5311, x_5312, x_5313, x_5314, x_5315, iM_fault, iM_place, iM_failed, f_5316, b_x_5312, b_x_5315, (by omega), (by first | assumption | (have q0 := kc_0; have q1 := kc_1; omega)), e_x_5311_1, (by first | assumption | (have q0 := kc_0; have q1 := kc_1; omega)), (fun h9 => by have q0 := kc_0; have q1 := kc_1; have q9 := e_x_5311_2 (by omega); omega), (cI_tup hG), Bw.to (hP.sub [0, 1, 2] rfl) (hD.sub [0, 1, 2] (by decide) rfl) (hK.sub [0, 1] rfl) ht hW⟩⟩, hS.F ht⟩) hS.2.2 dX7_number_69
          · skip
            have hG := hG.trans (if_neg c_5310)
            have gc_5310 := ti_ne c_5310 rfl kc_0
            replace gc_5310 : iM_failed.toInt + 1 ≤ 0 := by omega
            exfalso; clear hG; omega
        · skip
          have hG := hG.trans (if_pos c_5309)
          have gc_5309 := ti_eq c_5309 rfl kc_0
          exfalso; clear hG; omega
      · skip
        refine lv_if_ne (tgt := 50) hx hb dX7_number_38 (by decide) (fun c_5317 => ?_) (fun c_5317 => ?_)
        · skip
          have hG := hG.trans (if_neg c_5317)
          have gc_5317 := ti_ne c_5317 rfl kc_0
          replace gc_5317 : x_5308.toInt + 1 ≤ 0 := by omega
          exfalso; clear hG; omega
        · skip
          have hG := hG.trans (if_pos c_5317)
          have gc_5317 := ti_eq c_5317 rfl kc_0
          refine lv_aload_n hx hb dX7_number_41 rfl (lv_at hl 0 rfl) ?_
          refine lv_iconst (v := 4) hx hb dX7_number_42 (by decide) ?_
          refine lv_aload_n hx hb dX7_number_43 rfl (lv_at hl 0 rfl) ?_
          refine va_get (D := (dC, dI)) (ci := 7) (v := .int iM_at) (C := RX7) (T := TX7) (N := 48) hx hb hts inX7 hown hK hP 0 rfl rfl 4 (by decide) (hts _ wd_384) (fun _ h9 => h9) rfl dX7_number_44 ?_
          have hFc := va_free (wc := [(oc7 oM iM_thrown rM_tape iM_taped iM_size iM_at iM_end iM_token iM_whole iM_nameSize iM_fault iM_place iM_trouble rM_letters iM_failed iM_hasCourt rM_r rM_fresh rM_told rM_read rM_st rM_undone rM_kept iM_undos iM_images rM_fresher iM_fresherSize iM_scale iM_night rM_heardRow rM_cutRow iM_breaths iM_cutMany iM_allBreaths rM_trial rM_words iM_fewestBreaths iM_orderMany iM_orderSum iM_leastOrder rM_often iM_setMany iM_someOf iM_allOf iM_allWeight iM_enoughWeight iM_worthSum iM_firstRest iM_leastDrawn)]) hD hS hA [0] rfl
          refine va_callv (va_runV (As := [.int 4, .int iM_at]) (rest := []) ⟨hx, hb, hml, hown, hts⟩ (tX7_wrong l dC dI _ oM iM_thrown rM_tape iM_taped iM_size iM_at iM_end iM_token iM_whole iM_nameSize iM_fault iM_place iM_trouble rM_letters iM_failed iM_hasCourt rM_r rM_fresh rM_told rM_read rM_st rM_undone rM_kept iM_undos iM_images rM_fresher iM_fresherSize iM_scale iM_night rM_heardRow rM_cutRow iM_breaths iM_cutMany iM_allBreaths rM_trial rM_words iM_fewestBreaths iM_orderMany iM_orderSum iM_leastOrder rM_often iM_setMany iM_someOf iM_allOf iM_allWeight iM_enoughWeight iM_worthSum iM_firstRest iM_leastDrawn 4 iM_at (by first | omega | decide) (by first | omega | decide) (by first | omega | decide) (by first | omega | decide) (by first | omega | decide) (by first | omega | decide) (by first | omega | decide) (by first | omega | decide) (by first | omega | decide) (by first | omega | decide) (by first | omega | decide) (by first | assumption | exact (fun h9 => by have q0 := kc_0; have q1 := kc_1; omega))) (cwV 2 hts (wd_V wd_430 wd_431 wd_432 wd_5 (wd_c wd_433)) rfl rfl rfl (by decide +kernel) ⟨Nat.le_of_ble_eq_true rfl, Nat.le_of_ble_eq_true rfl⟩) ⟨Pw.fb, va_recv hK hP (ci := 7) (q0 := 0) rfl rfl, fun U hU hW => Pw.to (hP.sub [0] rfl) (hD.sub [0] (by decide) rfl) (hK.sub [] rfl) hE hS hFc hU hW⟩ rfl rfl hl.1 rfl (lv_room (Nat.le_of_ble_eq_true rfl)) dX7_number_47 ⟨Nat.le_of_ble_eq_true rfl, Nat.le_of_ble_eq_true rfl⟩) hS (fun q _ h => hFc q h) hFc (fun u t H locs ht hvm hw hB hz1 hk1 hS => ?_)
          obtain ⟨x_5318, x_5319, x_5320, b_x_5320, e_x_5318_0, e_x_5318_1, hB⟩ := hB
          obtain ⟨hP, hD, hK⟩ := Bw.go (ws' := [(arI rM_tape kM_tape 900 fM_tape), (arI rM_letters kM_letters 8 fM_letters), (oc7 oM iM_thrown rM_tape iM_taped iM_size iM_at iM_end iM_token iM_whole iM_nameSize x_5318 x_5319 iM_trouble rM_letters x_5320 iM_hasCourt rM_r rM_fresh rM_told rM_read rM_st rM_undone rM_kept iM_undos iM_images rM_fresher iM_fresherSize iM_scale iM_night rM_heardRow rM_cutRow iM_breaths iM_cutMany iM_allBreaths rM_trial rM_words iM_fewestBreaths iM_orderMany iM_orderSum iM_leastOrder rM_often iM_setMany iM_someOf iM_allOf iM_allWeight iM_enoughWeight iM_worthSum iM_firstRest iM_leastDrawn)]) (tys' := [(kM_tape, .int), (kM_letters, .int)]) hB rfl ht hvm hP hD hK [0] [1, 2] rfl (by decide) (by decide) [0, 1] hk1 hFc rfl rfl rfl
          clear hz1 hk1 hvm ht hB
          have hG := hG.trans (un3_eq e_x_5318_1)
          refine lv_aload_n hx hb dX7_number_50 rfl (lv_at hl 0 rfl) ?_
          refine va_get (D := (dC, dI)) (ci := 7) (v := .int x_5320) (C := RX7) (T := TX7) (N := 48) hx hb hts inX7 hown hK hP 2 rfl rfl 13 (by decide) (hts _ wd_380) (fun _ h9 => h9) rfl dX7_number_51 ?_
          refine lv_if_eq (tgt := 59) hx hb dX7_number_54 (by decide) (fun c_5321 => ?_) (fun c_5321 => ?_)
          · skip
            have hG := hG.trans (if_pos c_5321)
            have gc_5321 := ti_eq c_5321 rfl kc_0
            exfalso; clear hG; omega
          · skip
            have hG := hG.trans (if_neg c_5321)
            have gc_5321 := ti_ne c_5321 rfl kc_0
            replace gc_5321 : (-1) * x_5320.toInt + 1 ≤ 0 := by omega
            refine lv_iload_n hx hb dX7_number_57 rfl (lv_at hl 1 rfl) ?_
            exact W.iret hx hb hr (fun t ht hW => ⟨⟨_, (cI p0), rfl, ⟨⟨trivial, (by first | omega | assumption)⟩, (cI_of p0)⟩, ⟨iM_at, iM_end, iM_token, iM_whole, iM_nameSize, x_5318, x_5319, x_5320, fM_letters, (by omega), (by omega), b_x_5320, (by first | assumption | (have q0 := kc_0; have q1 := kc_1; omega)), r_T, (by first | assumption | (have q0 := kc_0; have q1 := kc_1; omega)), (fun h9 => by have q0 := kc_0; have q1 := kc_1; omega), (cI_tup hG), Bw.to (hP.sub [2, 0, 1] rfl) (hD.sub [2, 0, 1] (by decide) rfl) (hK.sub [0, 1] rfl) ht hW⟩⟩, hS.F ht⟩) hS.2.2 dX7_number_58
    · skip
      have hG := hG.trans (if_neg c_5307)
      have gc_5307 := ti_ne c_5307 rfl kc_3
      refine lv_aload_n hx hb dX7_number_17 rfl (lv_at hl 0 rfl) ?_
      refine lv_iconst (v := 1) hx hb dX7_number_18 (by decide) ?_
      refine lv_aload_n hx hb dX7_number_19 rfl (lv_at hl 0 rfl) ?_
      refine va_get (D := (dC, dI)) (ci := 7) (v := .int iM_at) (C := RX7) (T := TX7) (N := 48) hx hb hts inX7 hown hK hP 0 rfl rfl 4 (by decide) (hts _ wd_384) (fun _ h9 => h9) rfl dX7_number_20 ?_
      have hFc := va_free (wc := [(oc7 oM iM_thrown rM_tape iM_taped iM_size iM_at iM_end iM_token iM_whole iM_nameSize iM_fault iM_place iM_trouble rM_letters iM_failed iM_hasCourt rM_r rM_fresh rM_told rM_read rM_st rM_undone rM_kept iM_undos iM_images rM_fresher iM_fresherSize iM_scale iM_night rM_heardRow rM_cutRow iM_breaths iM_cutMany iM_allBreaths rM_trial rM_words iM_fewestBreaths iM_orderMany iM_orderSum iM_leastOrder rM_often iM_setMany iM_someOf iM_allOf iM_allWeight iM_enoughWeight iM_worthSum iM_firstRest iM_leastDrawn)]) hD hS hA [0] rfl
      refine va_callv (va_runV (As := [.int 1, .int iM_at]) (rest := []) ⟨hx, hb, hml, hown, hts⟩ (tX7_wrong l dC dI _ oM iM_thrown rM_tape iM_taped iM_size iM_at iM_end iM_token iM_whole iM_nameSize iM_fault iM_place iM_trouble rM_letters iM_failed iM_hasCourt rM_r rM_fresh rM_told rM_read rM_st rM_undone rM_kept iM_undos iM_images rM_fresher iM_fresherSize iM_scale iM_night rM_heardRow rM_cutRow iM_breaths iM_cutMany iM_allBreaths rM_trial rM_words iM_fewestBreaths iM_orderMany iM_orderSum iM_leastOrder rM_often iM_setMany iM_someOf iM_allOf iM_allWeight iM_enoughWeight iM_worthSum iM_firstRest iM_leastDrawn 1 iM_at (by first | omega | decide) (by first | omega | decide) (by first | omega | decide) (by first | omega | decide) (by first | omega | decide) (by first | omega | decide) (by first | omega | decide) (by first | omega | decide) (by first | omega | decide) (by first | omega | decide) (by first | omega | decide) (by first | assumption | exact (fun h9 => by have q0 := kc_0; have q1 := kc_1; omega))) (cwV 2 hts (wd_V wd_430 wd_431 wd_432 wd_5 (wd_c wd_433)) rfl rfl rfl (by decide +kernel) ⟨Nat.le_of_ble_eq_true rfl, Nat.le_of_ble_eq_true rfl⟩) ⟨Pw.fb, va_recv hK hP (ci := 7) (q0 := 0) rfl rfl, fun U hU hW => Pw.to (hP.sub [0] rfl) (hD.sub [0] (by decide) rfl) (hK.sub [] rfl) hE hS hFc hU hW⟩ rfl rfl hl.1 rfl (lv_room (Nat.le_of_ble_eq_true rfl)) dX7_number_23 ⟨Nat.le_of_ble_eq_true rfl, Nat.le_of_ble_eq_true rfl⟩) hS (fun q _ h => hFc q h) hFc (fun u t H locs ht hvm hw hB hz1 hk1 hS => ?_)
      obtain ⟨x_5322, x_5323, x_5324, b_x_5324, e_x_5322_0, e_x_5322_1, hB⟩ := hB
      obtain ⟨hP, hD, hK⟩ := Bw.go (ws' := [(arI rM_tape kM_tape 900 fM_tape), (arI rM_letters kM_letters 8 fM_letters), (oc7 oM iM_thrown rM_tape iM_taped iM_size iM_at iM_end iM_token iM_whole iM_nameSize x_5322 x_5323 iM_trouble rM_letters x_5324 iM_hasCourt rM_r rM_fresh rM_told rM_read rM_st rM_undone rM_kept iM_undos iM_images rM_fresher iM_fresherSize iM_scale iM_night rM_heardRow rM_cutRow iM_breaths iM_cutMany iM_allBreaths rM_trial rM_words iM_fewestBreaths iM_orderMany iM_orderSum iM_leastOrder rM_often iM_setMany iM_someOf iM_allOf iM_allWeight iM_enoughWeight iM_worthSum iM_firstRest iM_leastDrawn)]) (tys' := [(kM_tape, .int), (kM_letters, .int)]) hB rfl ht hvm hP hD hK [0] [1, 2] rfl (by decide) (by decide) [0, 1] hk1 hFc rfl rfl rfl
      clear hz1 hk1 hvm ht hB
      have hG := hG.trans (un3_eq e_x_5322_1)
      refine lv_goto (tgt := 50) hx hb dX7_number_26 (by decide) ?_
      refine lv_aload_n hx hb dX7_number_50 rfl (lv_at hl 0 rfl) ?_
      refine va_get (D := (dC, dI)) (ci := 7) (v := .int x_5324) (C := RX7) (T := TX7) (N := 48) hx hb hts inX7 hown hK hP 2 rfl rfl 13 (by decide) (hts _ wd_380) (fun _ h9 => h9) rfl dX7_number_51 ?_
      refine lv_if_eq (tgt := 59) hx hb dX7_number_54 (by decide) (fun c_5325 => ?_) (fun c_5325 => ?_)
      · skip
        have hG := hG.trans (if_pos c_5325)
        have gc_5325 := ti_eq c_5325 rfl kc_0
        exfalso; clear hG; omega
      · skip
        have hG := hG.trans (if_neg c_5325)
        have gc_5325 := ti_ne c_5325 rfl kc_0
        replace gc_5325 : (-1) * x_5324.toInt + 1 ≤ 0 := by omega
        refine lv_iload_n hx hb dX7_number_57 rfl (lv_at hl 1 rfl) ?_
        exact W.iret hx hb hr (fun t ht hW => ⟨⟨_, (cI p0), rfl, ⟨⟨trivial, (by first | omega | assumption)⟩, (cI_of p0)⟩, ⟨iM_at, iM_end, iM_token, iM_whole, iM_nameSize, x_5322, x_5323, x_5324, fM_letters, (by omega), (by omega), b_x_5324, (by first | assumption | (have q0 := kc_0; have q1 := kc_1; omega)), r_T, (by first | assumption | (have q0 := kc_0; have q1 := kc_1; omega)), (fun h9 => by have q0 := kc_0; have q1 := kc_1; omega), (cI_tup hG), Bw.to (hP.sub [2, 0, 1] rfl) (hD.sub [2, 0, 1] (by decide) rfl) (hK.sub [0, 1] rfl) ht hW⟩⟩, hS.F ht⟩) hS.2.2 dX7_number_58
  · skip
    have hG := hG.trans (if_neg c_5306)
    have gc_5306 := ti_ne c_5306 rfl kc_0
    replace gc_5306 : (-1) * iM_failed.toInt + 1 ≤ 0 := by omega
    refine lv_iload_n hx hb dX7_number_7 rfl (lv_at hl 1 rfl) ?_
    exact W.iret hx hb hr (fun t ht hW => ⟨⟨_, (cI p0), rfl, ⟨⟨trivial, (by first | omega | assumption)⟩, (cI_of p0)⟩, ⟨iM_at, iM_end, iM_token, iM_whole, iM_nameSize, iM_fault, iM_place, iM_failed, fM_letters, (by omega), (by omega), (by omega), (by first | assumption | (have q0 := kc_0; have q1 := kc_1; omega)), r_T, (by first | assumption | (have q0 := kc_0; have q1 := kc_1; omega)), (fun h9 => by have q0 := kc_0; have q1 := kc_1; omega), (cI_tup hG), Bw.to (hP.sub [0, 1, 2] rfl) (hD.sub [0, 1, 2] (by decide) rfl) (hK.sub [0, 1] rfl) ht hW⟩⟩, hS.F ht⟩) hS.2.2 dX7_number_8
set_option maxHeartbeats 4000000 in
set_option maxRecDepth 100000 in
theorem tX7_after (l : Launch) (dC : Nat → ClassId) (dI : Nat → Nat → Nat) (sz : Nat) (oM : Nat) (iM_thrown : Int32) (rM_tape : Nat) (fM_tape : Nat → Int32) (kM_tape : ClassId) (iM_taped : Int32) (iM_size : Int32) (iM_at : Int32) (iM_end : Int32) (iM_token : Int32) (iM_whole : Int32) (iM_nameSize : Int32) (iM_fault : Int32) (iM_place : Int32) (iM_trouble : Int32) (rM_letters : Nat) (fM_letters : Nat → Int32) (kM_letters : ClassId) (iM_failed : Int32) (iM_hasCourt : Int32) (rM_r : Nat) (rM_fresh : Nat) (rM_told : Nat) (rM_read : Nat) (rM_st : Nat) (rM_undone : Nat) (rM_kept : Nat) (iM_undos : Int32) (iM_images : Int32) (rM_fresher : Nat) (iM_fresherSize : Int32) (iM_scale : Int32) (iM_night : Int32) (rM_heardRow : Nat) (rM_cutRow : Nat) (iM_breaths : Int32) (iM_cutMany : Int32) (iM_allBreaths : Int32) (rM_trial : Nat) (rM_words : Nat) (iM_fewestBreaths : Int32) (iM_orderMany : Int32) (iM_orderSum : Int32) (iM_leastOrder : Int32) (rM_often : Nat) (iM_setMany : Int32) (iM_someOf : Int32) (iM_allOf : Int32) (iM_allWeight : Int64) (iM_enoughWeight : Int64) (iM_worthSum : Int64) (iM_firstRest : Int32) (iM_leastDrawn : Int32) (sA : Nat) (p0 : Int32) (p1 : Int32) (sV : Nat) (sN : Nat) (sF : Nat → Int32) (b_iM_taped : 0 ≤ iM_taped.toInt ∧ iM_taped.toInt ≤ 900) (b_iM_size : 0 ≤ iM_size.toInt ∧ iM_size.toInt ≤ 900) (b_iM_end : 0 ≤ iM_end.toInt ∧ iM_end.toInt ≤ 900) (b_iM_nameSize : 0 ≤ iM_nameSize.toInt ∧ iM_nameSize.toInt ≤ 900) (b_iM_failed : 0 ≤ iM_failed.toInt ∧ iM_failed.toInt ≤ 1) (b_iM_hasCourt : 0 ≤ iM_hasCourt.toInt ∧ iM_hasCourt.toInt ≤ 1) (b_iM_undos : 0 ≤ iM_undos.toInt ∧ iM_undos.toInt ≤ 16) (b_iM_images : 0 ≤ iM_images.toInt ∧ iM_images.toInt ≤ 3) (b_iM_scale : 1 ≤ iM_scale.toInt ∧ iM_scale.toInt ≤ 1296) (b_iM_breaths : 0 ≤ iM_breaths.toInt ∧ iM_breaths.toInt ≤ 399) (b_iM_cutMany : 0 ≤ iM_cutMany.toInt ∧ iM_cutMany.toInt ≤ 399) (r_T : ImpP (iM_token.toInt = 2) (iM_nameSize.toInt ≤ 8)) (hsn : sN ≤ 8) (hlh : p0.toInt ≤ p1.toInt) : Met l yX7_after (Cond.code yX7_after cX7_after 4 (some .int) :: wG) ({ frames := 7, cells := 0, slots := 0, locals := 176 }) (va_Pc [.ref oM, .ref sA, .int p0, .int p1] (Pq dC dI sz [(oc7 oM iM_thrown rM_tape iM_taped iM_size iM_at iM_end iM_token iM_whole iM_nameSize iM_fault iM_place iM_trouble rM_letters iM_failed iM_hasCourt rM_r rM_fresh rM_told rM_read rM_st rM_undone rM_kept iM_undos iM_images rM_fresher iM_fresherSize iM_scale iM_night rM_heardRow rM_cutRow iM_breaths iM_cutMany iM_allBreaths rM_trial rM_words iM_fewestBreaths iM_orderMany iM_orderSum iM_leastOrder rM_often iM_setMany iM_someOf iM_allOf iM_allWeight iM_enoughWeight iM_worthSum iM_firstRest iM_leastDrawn), (arI rM_tape kM_tape 900 fM_tape), (arI rM_letters kM_letters 8 fM_letters)] [(kM_tape, .int), (kM_letters, .int)] sA sV sN sF)) (va_Qi (fun (r : Int32) (u : Nat) => (True ∧ (p0.toInt ≤ r.toInt ∧ r.toInt ≤ p1.toInt)) ∧ r = Int32.ofNat u) (fun (u : Nat) (t : State) => ∃ (niM_at : Int32) (niM_end : Int32) (niM_token : Int32) (niM_whole : Int32) (niM_nameSize : Int32) (niM_fault : Int32) (niM_place : Int32) (niM_failed : Int32) (nfM_letters : Nat → Int32), (0 ≤ niM_end.toInt ∧ niM_end.toInt ≤ 900) ∧ (0 ≤ niM_nameSize.toInt ∧ niM_nameSize.toInt ≤ 900) ∧ (0 ≤ niM_failed.toInt ∧ niM_failed.toInt ≤ 1) ∧ (iM_end.toInt ≤ niM_end.toInt) ∧ (ImpP (niM_token.toInt = 2) (niM_nameSize.toInt ≤ 8)) ∧ (iM_failed.toInt ≤ niM_failed.toInt) ∧ (ImpP (niM_failed.toInt ≤ 0 ∧ niM_token.toInt = 59 ) (iM_end.toInt + 1 ≤ niM_end.toInt)) ∧ (PX7_after fM_tape iM_size iM_at iM_end iM_token iM_whole iM_nameSize iM_fault iM_place fM_letters iM_failed p0 p1 sN sF = (Int32.ofNat u, niM_at, niM_end, niM_token, niM_whole, niM_nameSize, niM_fault, niM_place, niM_failed, nfM_letters)) ∧ Bw dC dI (va_A [(oc7 oM iM_thrown rM_tape iM_taped iM_size iM_at iM_end iM_token iM_whole iM_nameSize iM_fault iM_place iM_trouble rM_letters iM_failed iM_hasCourt rM_r rM_fresh rM_told rM_read rM_st rM_undone rM_kept iM_undos iM_images rM_fresher iM_fresherSize iM_scale iM_night rM_heardRow rM_cutRow iM_breaths iM_cutMany iM_allBreaths rM_trial rM_words iM_fewestBreaths iM_orderMany iM_orderSum iM_leastOrder rM_often iM_setMany iM_someOf iM_allOf iM_allWeight iM_enoughWeight iM_worthSum iM_firstRest iM_leastDrawn), (arI rM_tape kM_tape 900 fM_tape), (arI rM_letters kM_letters 8 fM_letters)] sz) [(oc7 oM iM_thrown rM_tape iM_taped iM_size niM_at niM_end niM_token niM_whole niM_nameSize niM_fault niM_place iM_trouble rM_letters niM_failed iM_hasCourt rM_r rM_fresh rM_told rM_read rM_st rM_undone rM_kept iM_undos iM_images rM_fresher iM_fresherSize iM_scale iM_night rM_heardRow rM_cutRow iM_breaths iM_cutMany iM_allBreaths rM_trial rM_words iM_fewestBreaths iM_orderMany iM_orderSum iM_leastOrder rM_often iM_setMany iM_someOf iM_allOf iM_allWeight iM_enoughWeight iM_worthSum iM_firstRest iM_leastDrawn), (arI rM_tape kM_tape 900 fM_tape), (arI rM_letters kM_letters 8 nfM_letters)] [(kM_tape, .int), (kM_letters, .int)] t) (va_A [(oc7 oM iM_thrown rM_tape iM_taped iM_size iM_at iM_end iM_token iM_whole iM_nameSize iM_fault iM_place iM_trouble rM_letters iM_failed iM_hasCourt rM_r rM_fresh rM_told rM_read rM_st rM_undone rM_kept iM_undos iM_images rM_fresher iM_fresherSize iM_scale iM_night rM_heardRow rM_cutRow iM_breaths iM_cutMany iM_allBreaths rM_trial rM_words iM_fewestBreaths iM_orderMany iM_orderSum iM_leastOrder rM_often iM_setMany iM_someOf iM_allOf iM_allWeight iM_enoughWeight iM_worthSum iM_firstRest iM_leastDrawn), (arI rM_tape kM_tape 900 fM_tape), (arI rM_letters kM_letters 8 fM_letters)] sz)) 0 0 (va_A [(oc7 oM iM_thrown rM_tape iM_taped iM_size iM_at iM_end iM_token iM_whole iM_nameSize iM_fault iM_place iM_trouble rM_letters iM_failed iM_hasCourt rM_r rM_fresh rM_told rM_read rM_st rM_undone rM_kept iM_undos iM_images rM_fresher iM_fresherSize iM_scale iM_night rM_heardRow rM_cutRow iM_breaths iM_cutMany iM_allBreaths rM_trial rM_words iM_fewestBreaths iM_orderMany iM_orderSum iM_leastOrder rM_often iM_setMany iM_someOf iM_allOf iM_allWeight iM_enoughWeight iM_worthSum iM_firstRest iM_leastDrawn), (arI rM_tape kM_tape 900 fM_tape), (arI rM_letters kM_letters 8 fM_letters)] sz) := by
  refine Met.ofW (cc := cX7_after) (maxL := 4) (ret := (some .int)) (by decide) rfl ?_
  intro p e s m args below meth c s₁ B hml hv
  obtain ⟨rfl, ⟨hsz, hP, hK, hD0, hE⟩, hSw⟩ := hv
  have hx := B.exec
  have hb := B.bytes
  have hr := B.returns
  have hts : ∀ w ∈ wG, w.before ([.ref oM, .ref sA, .int p0, .int p1] : List Value).toArray s = true := fun w h => atoms_spec (ws := Cond.code yX7_after cX7_after 4 (some .int) :: wG) B.pre w (List.mem_cons_of_mem _ h)
  have hown : s.vm.findClass RX7 = some m.cls := findClass_of_methodNamed B.named
  have hlocks := B.notSynchronized
  subst hsz
  have hD := hD0.self (sz := s.heap.size)
  generalize hAe : va_A [(oc7 oM iM_thrown rM_tape iM_taped iM_size iM_at iM_end iM_token iM_whole iM_nameSize iM_fault iM_place iM_trouble rM_letters iM_failed iM_hasCourt rM_r rM_fresh rM_told rM_read rM_st rM_undone rM_kept iM_undos iM_images rM_fresher iM_fresherSize iM_scale iM_night rM_heardRow rM_cutRow iM_breaths iM_cutMany iM_allBreaths rM_trial rM_words iM_fewestBreaths iM_orderMany iM_orderSum iM_leastOrder rM_often iM_setMany iM_someOf iM_allOf iM_allWeight iM_enoughWeight iM_worthSum iM_firstRest iM_leastDrawn), (arI rM_tape kM_tape 900 fM_tape), (arI rM_letters kM_letters 8 fM_letters)] s.heap.size = A at hD hE hSw ⊢
  have hA : ∀ q : Nat, s.heap.size ≤ q → A q := fun q h => by rw [← hAe]; exact Or.inr h
  have hS : va_S A s.heap s.heap [] := va_S.rf
  have hl := lv_entry ([.ref oM, .ref sA, .int p0, .int p1]) (n := 4) (Nat.le_of_ble_eq_true rfl)
  rw [lg_entry_eq]
  generalize (lg_sl ([.ref oM, .ref sA, .int p0, .int p1]) ++ List.replicate (4 - (lg_sl ([.ref oM, .ref sA, .int p0, .int p1])).length) Slot.unset).toArray = ls at hl ⊢
  have hl : lv_has ls 4 [(0, .ref oM), (1, .ref sA), (2, .int p0), (3, .int p1)] := hl
  have hG := PX7_after_eq fM_tape iM_size iM_at iM_end iM_token iM_whole iM_nameSize iM_fault iM_place fM_letters iM_failed p0 p1 sN sF
  refine lv_aload_n hx hb dX7_after_0 rfl (lv_at hl 0 rfl) ?_
  refine lv_aload_n hx hb dX7_after_1 rfl (lv_at hl 1 rfl) ?_
  have hFc := va_free (wc := [(oc7 oM iM_thrown rM_tape iM_taped iM_size iM_at iM_end iM_token iM_whole iM_nameSize iM_fault iM_place iM_trouble rM_letters iM_failed iM_hasCourt rM_r rM_fresh rM_told rM_read rM_st rM_undone rM_kept iM_undos iM_images rM_fresher iM_fresherSize iM_scale iM_night rM_heardRow rM_cutRow iM_breaths iM_cutMany iM_allBreaths rM_trial rM_words iM_fewestBreaths iM_orderMany iM_orderSum iM_leastOrder rM_often iM_setMany iM_someOf iM_allOf iM_allWeight iM_enoughWeight iM_worthSum iM_firstRest iM_leastDrawn), (arI rM_tape kM_tape 900 fM_tape), (arI rM_letters kM_letters 8 fM_letters)]) hD hS hA [0, 1, 2] rfl
  refine va_callv (va_runV (As := [.ref sA]) (rest := []) ⟨hx, hb, hml, hown, hts⟩ (tX7_must l dC dI _ oM iM_thrown rM_tape fM_tape kM_tape iM_taped iM_size iM_at iM_end iM_token iM_whole iM_nameSize iM_fault iM_place iM_trouble rM_letters fM_letters kM_letters iM_failed iM_hasCourt rM_r rM_fresh rM_told rM_read rM_st rM_undone rM_kept iM_undos iM_images rM_fresher iM_fresherSize iM_scale iM_night rM_heardRow rM_cutRow iM_breaths iM_cutMany iM_allBreaths rM_trial rM_words iM_fewestBreaths iM_orderMany iM_orderSum iM_leastOrder rM_often iM_setMany iM_someOf iM_allOf iM_allWeight iM_enoughWeight iM_worthSum iM_firstRest iM_leastDrawn sA sV sN sF (by first | omega | decide) (by first | omega | decide) (by first | omega | decide) (by first | omega | decide) (by first | omega | decide) (by first | omega | decide) (by first | omega | decide) (by first | omega | decide) (by first | omega | decide) (by first | omega | decide) (by first | omega | decide) (by first | assumption | exact (fun h9 => by have q0 := kc_0; have q1 := kc_1; omega)) (by first | omega | decide | assumption | (have q0 := kc_0; have q1 := kc_1; omega) | (intro h; exact absurd h (by decide)))) (cwV 1 hts (wd_V wd_438 wd_439 wd_440 wd_5 (wd_c wd_441)) rfl rfl rfl (by decide +kernel) ⟨Nat.le_of_ble_eq_true rfl, Nat.le_of_ble_eq_true rfl⟩) ⟨Pq.fb, va_recv hK hP (ci := 7) (q0 := 0) rfl rfl, fun U hU hW => Pq.to (hP.sub [0, 1, 2] rfl) (hD.sub [0, 1, 2] (by decide) rfl) (hK.sub [0, 1] rfl) hSw hE hS hFc hU hW⟩ rfl rfl hl.1 rfl (lv_room (Nat.le_of_ble_eq_true rfl)) dX7_after_2 ⟨Nat.le_of_ble_eq_true rfl, Nat.le_of_ble_eq_true rfl⟩) hS (fun q _ h => hFc q h) hFc (fun u t H locs ht hvm hw hB hz1 hk1 hS => ?_)
  obtain ⟨x_5345, x_5346, x_5347, x_5348, x_5349, x_5350, x_5351, x_5352, f_5353, b_x_5346, b_x_5349, b_x_5352, e_x_5345_0, e_x_5345_1, e_x_5345_2, e_x_5345_3, e_x_5345_4, hB⟩ := hB
  obtain ⟨hP, hD, hK⟩ := Bw.go (ws' := [(oc7 oM iM_thrown rM_tape iM_taped iM_size x_5345 x_5346 x_5347 x_5348 x_5349 x_5350 x_5351 iM_trouble rM_letters x_5352 iM_hasCourt rM_r rM_fresh rM_told rM_read rM_st rM_undone rM_kept iM_undos iM_images rM_fresher iM_fresherSize iM_scale iM_night rM_heardRow rM_cutRow iM_breaths iM_cutMany iM_allBreaths rM_trial rM_words iM_fewestBreaths iM_orderMany iM_orderSum iM_leastOrder rM_often iM_setMany iM_someOf iM_allOf iM_allWeight iM_enoughWeight iM_worthSum iM_firstRest iM_leastDrawn), (arI rM_tape kM_tape 900 fM_tape), (arI rM_letters kM_letters 8 f_5353)]) (tys' := [(kM_tape, .int), (kM_letters, .int)]) hB rfl ht hvm hP hD hK [0, 1, 2] [] rfl (by decide) (by decide) [] hk1 hFc rfl rfl rfl
  clear hz1 hk1 hvm ht hB
  have hG := hG.trans (un9_eq e_x_5345_4)
  clear r_T
  refine lv_aload_n hx hb dX7_after_5 rfl (lv_at hl 0 rfl) ?_
  refine lv_iload_n hx hb dX7_after_6 rfl (lv_at hl 2 rfl) ?_
  refine lv_iload_n hx hb dX7_after_7 rfl (lv_at hl 3 rfl) ?_
  have hFc := va_free (wc := [(oc7 oM iM_thrown rM_tape iM_taped iM_size x_5345 x_5346 x_5347 x_5348 x_5349 x_5350 x_5351 iM_trouble rM_letters x_5352 iM_hasCourt rM_r rM_fresh rM_told rM_read rM_st rM_undone rM_kept iM_undos iM_images rM_fresher iM_fresherSize iM_scale iM_night rM_heardRow rM_cutRow iM_breaths iM_cutMany iM_allBreaths rM_trial rM_words iM_fewestBreaths iM_orderMany iM_orderSum iM_leastOrder rM_often iM_setMany iM_someOf iM_allOf iM_allWeight iM_enoughWeight iM_worthSum iM_firstRest iM_leastDrawn), (arI rM_tape kM_tape 900 fM_tape), (arI rM_letters kM_letters 8 f_5353)]) hD hS hA [0, 1, 2] rfl
  refine va_calli (va_runV (As := [.int p0, .int p1]) (rest := []) ⟨hx, hb, hml, hown, hts⟩ (tX7_number l dC dI _ oM iM_thrown rM_tape fM_tape kM_tape iM_taped iM_size x_5345 x_5346 x_5347 x_5348 x_5349 x_5350 x_5351 iM_trouble rM_letters f_5353 kM_letters x_5352 iM_hasCourt rM_r rM_fresh rM_told rM_read rM_st rM_undone rM_kept iM_undos iM_images rM_fresher iM_fresherSize iM_scale iM_night rM_heardRow rM_cutRow iM_breaths iM_cutMany iM_allBreaths rM_trial rM_words iM_fewestBreaths iM_orderMany iM_orderSum iM_leastOrder rM_often iM_setMany iM_someOf iM_allOf iM_allWeight iM_enoughWeight iM_worthSum iM_firstRest iM_leastDrawn p0 p1 (by first | omega | decide) (by first | omega | decide) (by first | exact b_x_5346 | omega | decide) (by first | exact b_x_5349 | omega | decide) (by first | exact b_x_5352 | omega | decide) (by first | omega | decide) (by first | omega | decide) (by first | omega | decide) (by first | omega | decide) (by first | omega | decide) (by first | omega | decide) (by first | assumption | exact (fun h9 => by have q0 := kc_0; have q1 := kc_1; omega)) (by first | omega | decide | assumption | (have q0 := kc_0; have q1 := kc_1; omega) | (intro h; exact absurd h (by decide)))) (cwV 2 hts (wd_V wd_446 wd_447 wd_448 wd_5 (wd_c wd_449)) rfl rfl rfl (by decide +kernel) ⟨Nat.le_of_ble_eq_true rfl, Nat.le_of_ble_eq_true rfl⟩) ⟨Pw.fb, va_recv hK hP (ci := 7) (q0 := 0) rfl rfl, fun U hU hW => Pw.to (hP.sub [0, 1, 2] rfl) (hD.sub [0, 1, 2] (by decide) rfl) (hK.sub [0, 1] rfl) hE hS hFc hU hW⟩ rfl rfl hl.1 rfl (lv_room (Nat.le_of_ble_eq_true rfl)) dX7_after_8 ⟨Nat.le_of_ble_eq_true rfl, Nat.le_of_ble_eq_true rfl⟩) hS (fun q _ h => hFc q h) hFc (fun r u t H locs ht hvm hw hB hz1 hk1 hS => ?_)
  have hru9 := hw.2
  have hw := hw.1
  obtain ⟨x_5354, x_5355, x_5356, x_5357, x_5358, x_5359, x_5360, x_5361, f_5362, b_x_5355, b_x_5358, b_x_5361, e_x_5354_0, e_x_5354_1, e_x_5354_2, e_x_5354_3, e_x_5354_4, hB⟩ := hB
  obtain ⟨hP, hD, hK⟩ := Bw.go (ws' := [(oc7 oM iM_thrown rM_tape iM_taped iM_size x_5354 x_5355 x_5356 x_5357 x_5358 x_5359 x_5360 iM_trouble rM_letters x_5361 iM_hasCourt rM_r rM_fresh rM_told rM_read rM_st rM_undone rM_kept iM_undos iM_images rM_fresher iM_fresherSize iM_scale iM_night rM_heardRow rM_cutRow iM_breaths iM_cutMany iM_allBreaths rM_trial rM_words iM_fewestBreaths iM_orderMany iM_orderSum iM_leastOrder rM_often iM_setMany iM_someOf iM_allOf iM_allWeight iM_enoughWeight iM_worthSum iM_firstRest iM_leastDrawn), (arI rM_tape kM_tape 900 fM_tape), (arI rM_letters kM_letters 8 f_5362)]) (tys' := [(kM_tape, .int), (kM_letters, .int)]) hB rfl ht hvm hP hD hK [0, 1, 2] [] rfl (by decide) (by decide) [] hk1 hFc rfl rfl rfl
  clear hz1 hk1 hvm ht hB
  rw [← hru9] at e_x_5354_4
  obtain ⟨x_5363, rfl⟩ : ∃ z, z = r := ⟨_, rfl⟩
  have hG := hG.trans (un10_eq e_x_5354_4)
  have lx_5363 := hw.2
  clear e_x_5345_1
  clear e_x_5345_3
  exact W.iret hx hb hr (fun t ht hW => ⟨⟨_, (cI x_5363), rfl, ⟨⟨trivial, (by first | omega | assumption)⟩, (cI_of x_5363)⟩, ⟨x_5354, x_5355, x_5356, x_5357, x_5358, x_5359, x_5360, x_5361, f_5362, b_x_5355, b_x_5358, b_x_5361, (by first | assumption | (have q0 := kc_0; have q1 := kc_1; omega)), e_x_5354_1, (by first | assumption | (have q0 := kc_0; have q1 := kc_1; omega)), (fun h9 => by have q0 := kc_0; have q1 := kc_1; have q9 := e_x_5354_3 (by omega); omega), (cI_tup hG), Bw.to (hP.sub [0, 1, 2] rfl) (hD.sub [0, 1, 2] (by decide) rfl) (hK.sub [0, 1] rfl) ht hW⟩⟩, hS.F ht⟩) hS.2.2 dX7_after_11
set_option maxHeartbeats 4000000 in
set_option maxRecDepth 100000 in
theorem tX7_begins (l : Launch) (dC : Nat → ClassId) (dI : Nat → Nat → Nat) (sz : Nat) (oM : Nat) (iM_thrown : Int32) (rM_tape : Nat) (fM_tape : Nat → Int32) (kM_tape : ClassId) (iM_taped : Int32) (iM_size : Int32) (iM_at : Int32) (iM_end : Int32) (iM_token : Int32) (iM_whole : Int32) (iM_nameSize : Int32) (iM_fault : Int32) (iM_place : Int32) (iM_trouble : Int32) (rM_letters : Nat) (fM_letters : Nat → Int32) (kM_letters : ClassId) (iM_failed : Int32) (iM_hasCourt : Int32) (rM_r : Nat) (rM_fresh : Nat) (fM_fresh : Nat → Int32) (kM_fresh : ClassId) (rM_told : Nat) (rM_read : Nat) (fM_read : Nat → Int32) (kM_read : ClassId) (rM_st : Nat) (rM_undone : Nat) (rM_kept : Nat) (iM_undos : Int32) (iM_images : Int32) (rM_fresher : Nat) (iM_fresherSize : Int32) (iM_scale : Int32) (iM_night : Int32) (rM_heardRow : Nat) (rM_cutRow : Nat) (iM_breaths : Int32) (iM_cutMany : Int32) (iM_allBreaths : Int32) (rM_trial : Nat) (rM_words : Nat) (iM_fewestBreaths : Int32) (iM_orderMany : Int32) (iM_orderSum : Int32) (iM_leastOrder : Int32) (rM_often : Nat) (iM_setMany : Int32) (iM_someOf : Int32) (iM_allOf : Int32) (iM_allWeight : Int64) (iM_enoughWeight : Int64) (iM_worthSum : Int64) (iM_firstRest : Int32) (iM_leastDrawn : Int32) (sA : Nat) (p0 : Int32) (sV : Nat) (sN : Nat) (sF : Nat → Int32) (b_iM_taped : 0 ≤ iM_taped.toInt ∧ iM_taped.toInt ≤ 900) (b_iM_size : 0 ≤ iM_size.toInt ∧ iM_size.toInt ≤ 900) (b_iM_end : 0 ≤ iM_end.toInt ∧ iM_end.toInt ≤ 900) (b_iM_nameSize : 0 ≤ iM_nameSize.toInt ∧ iM_nameSize.toInt ≤ 900) (b_iM_failed : 0 ≤ iM_failed.toInt ∧ iM_failed.toInt ≤ 1) (b_iM_hasCourt : 0 ≤ iM_hasCourt.toInt ∧ iM_hasCourt.toInt ≤ 1) (b_iM_undos : 0 ≤ iM_undos.toInt ∧ iM_undos.toInt ≤ 16) (b_iM_images : 0 ≤ iM_images.toInt ∧ iM_images.toInt ≤ 3) (b_iM_scale : 1 ≤ iM_scale.toInt ∧ iM_scale.toInt ≤ 1296) (b_iM_breaths : 0 ≤ iM_breaths.toInt ∧ iM_breaths.toInt ≤ 399) (b_iM_cutMany : 0 ≤ iM_cutMany.toInt ∧ iM_cutMany.toInt ≤ 399) (r_T : ImpP (iM_token.toInt = 2) (iM_nameSize.toInt ≤ 8)) (r_P : POk fM_fresh fM_read) (hsn : sN ≤ 8) (hp0 : 0 ≤ p0.toInt ∧ p0.toInt ≤ 1) : Met l yX7_begins (Cond.code yX7_begins cX7_begins 3 (some .boolean) :: wG) ({ frames := 5, cells := 0, slots := 0, locals := 134 }) (va_Pc [.ref oM, .ref sA, .int p0] (Pq dC dI sz [(oc7 oM iM_thrown rM_tape iM_taped iM_size iM_at iM_end iM_token iM_whole iM_nameSize iM_fault iM_place iM_trouble rM_letters iM_failed iM_hasCourt rM_r rM_fresh rM_told rM_read rM_st rM_undone rM_kept iM_undos iM_images rM_fresher iM_fresherSize iM_scale iM_night rM_heardRow rM_cutRow iM_breaths iM_cutMany iM_allBreaths rM_trial rM_words iM_fewestBreaths iM_orderMany iM_orderSum iM_leastOrder rM_often iM_setMany iM_someOf iM_allOf iM_allWeight iM_enoughWeight iM_worthSum iM_firstRest iM_leastDrawn), (arI rM_tape kM_tape 900 fM_tape), (arI rM_letters kM_letters 8 fM_letters), (arI rM_fresh kM_fresh 287 fM_fresh), (arI rM_read kM_read 90 fM_read)] [(kM_tape, .int), (kM_letters, .int), (kM_fresh, .int), (kM_read, .int)] sA sV sN sF)) (va_Qi (fun (r : Int32) (u : Nat) => ((r = 0 ∨ r = 1) ∧ (r.toInt = (u : Int))) ∧ r = Int32.ofNat u) (fun (u : Nat) (t : State) => ∃ (niM_at : Int32) (niM_end : Int32) (niM_token : Int32) (niM_whole : Int32) (niM_nameSize : Int32) (niM_fault : Int32) (niM_place : Int32) (niM_failed : Int32) (nfM_letters : Nat → Int32), (0 ≤ niM_end.toInt ∧ niM_end.toInt ≤ 900) ∧ (0 ≤ niM_nameSize.toInt ∧ niM_nameSize.toInt ≤ 900) ∧ (0 ≤ niM_failed.toInt ∧ niM_failed.toInt ≤ 1) ∧ (iM_end.toInt ≤ niM_end.toInt) ∧ (ImpP (niM_token.toInt = 2) (niM_nameSize.toInt ≤ 8)) ∧ (iM_failed.toInt ≤ niM_failed.toInt) ∧ (ImpP ((u : Int) = 1) (iM_token.toInt = 2 ∧ (1 ≤ p0.toInt ∨ 1 ≤ niM_failed.toInt))) ∧ (ImpP ((u : Int) = 1 ∧ niM_failed.toInt ≤ 0 ∧ niM_token.toInt = 59 ) (iM_end.toInt + 1 ≤ niM_end.toInt)) ∧ (PX7_begins fM_tape iM_size iM_at iM_end iM_token iM_whole iM_nameSize iM_fault iM_place fM_letters iM_failed fM_fresh p0 sN sF = (Int32.ofNat u, niM_at, niM_end, niM_token, niM_whole, niM_nameSize, niM_fault, niM_place, niM_failed, nfM_letters)) ∧ Bw dC dI (va_A [(oc7 oM iM_thrown rM_tape iM_taped iM_size iM_at iM_end iM_token iM_whole iM_nameSize iM_fault iM_place iM_trouble rM_letters iM_failed iM_hasCourt rM_r rM_fresh rM_told rM_read rM_st rM_undone rM_kept iM_undos iM_images rM_fresher iM_fresherSize iM_scale iM_night rM_heardRow rM_cutRow iM_breaths iM_cutMany iM_allBreaths rM_trial rM_words iM_fewestBreaths iM_orderMany iM_orderSum iM_leastOrder rM_often iM_setMany iM_someOf iM_allOf iM_allWeight iM_enoughWeight iM_worthSum iM_firstRest iM_leastDrawn), (arI rM_tape kM_tape 900 fM_tape), (arI rM_letters kM_letters 8 fM_letters), (arI rM_fresh kM_fresh 287 fM_fresh), (arI rM_read kM_read 90 fM_read)] sz) [(oc7 oM iM_thrown rM_tape iM_taped iM_size niM_at niM_end niM_token niM_whole niM_nameSize niM_fault niM_place iM_trouble rM_letters niM_failed iM_hasCourt rM_r rM_fresh rM_told rM_read rM_st rM_undone rM_kept iM_undos iM_images rM_fresher iM_fresherSize iM_scale iM_night rM_heardRow rM_cutRow iM_breaths iM_cutMany iM_allBreaths rM_trial rM_words iM_fewestBreaths iM_orderMany iM_orderSum iM_leastOrder rM_often iM_setMany iM_someOf iM_allOf iM_allWeight iM_enoughWeight iM_worthSum iM_firstRest iM_leastDrawn), (arI rM_tape kM_tape 900 fM_tape), (arI rM_letters kM_letters 8 nfM_letters), (arI rM_fresh kM_fresh 287 fM_fresh), (arI rM_read kM_read 90 fM_read)] [(kM_tape, .int), (kM_letters, .int), (kM_fresh, .int), (kM_read, .int)] t) (va_A [(oc7 oM iM_thrown rM_tape iM_taped iM_size iM_at iM_end iM_token iM_whole iM_nameSize iM_fault iM_place iM_trouble rM_letters iM_failed iM_hasCourt rM_r rM_fresh rM_told rM_read rM_st rM_undone rM_kept iM_undos iM_images rM_fresher iM_fresherSize iM_scale iM_night rM_heardRow rM_cutRow iM_breaths iM_cutMany iM_allBreaths rM_trial rM_words iM_fewestBreaths iM_orderMany iM_orderSum iM_leastOrder rM_often iM_setMany iM_someOf iM_allOf iM_allWeight iM_enoughWeight iM_worthSum iM_firstRest iM_leastDrawn), (arI rM_tape kM_tape 900 fM_tape), (arI rM_letters kM_letters 8 fM_letters), (arI rM_fresh kM_fresh 287 fM_fresh), (arI rM_read kM_read 90 fM_read)] sz)) 0 0 (va_A [(oc7 oM iM_thrown rM_tape iM_taped iM_size iM_at iM_end iM_token iM_whole iM_nameSize iM_fault iM_place iM_trouble rM_letters iM_failed iM_hasCourt rM_r rM_fresh rM_told rM_read rM_st rM_undone rM_kept iM_undos iM_images rM_fresher iM_fresherSize iM_scale iM_night rM_heardRow rM_cutRow iM_breaths iM_cutMany iM_allBreaths rM_trial rM_words iM_fewestBreaths iM_orderMany iM_orderSum iM_leastOrder rM_often iM_setMany iM_someOf iM_allOf iM_allWeight iM_enoughWeight iM_worthSum iM_firstRest iM_leastDrawn), (arI rM_tape kM_tape 900 fM_tape), (arI rM_letters kM_letters 8 fM_letters), (arI rM_fresh kM_fresh 287 fM_fresh), (arI rM_read kM_read 90 fM_read)] sz) := by
  refine Met.ofW (cc := cX7_begins) (maxL := 3) (ret := (some .boolean)) (by decide) rfl ?_
  intro p e s m args below meth c s₁ B hml hv
  obtain ⟨rfl, ⟨hsz, hP, hK, hD0, hE⟩, hSw⟩ := hv
  have hx := B.exec
  have hb := B.bytes
  have hr := B.returns
  have hts : ∀ w ∈ wG, w.before ([.ref oM, .ref sA, .int p0] : List Value).toArray s = true := fun w h => atoms_spec (ws := Cond.code yX7_begins cX7_begins 3 (some .boolean) :: wG) B.pre w (List.mem_cons_of_mem _ h)
  have hown : s.vm.findClass RX7 = some m.cls := findClass_of_methodNamed B.named
  have hlocks := B.notSynchronized
  subst hsz
  have hD := hD0.self (sz := s.heap.size)
  generalize hAe : va_A [(oc7 oM iM_thrown rM_tape iM_taped iM_size iM_at iM_end iM_token iM_whole iM_nameSize iM_fault iM_place iM_trouble rM_letters iM_failed iM_hasCourt rM_r rM_fresh rM_told rM_read rM_st rM_undone rM_kept iM_undos iM_images rM_fresher iM_fresherSize iM_scale iM_night rM_heardRow rM_cutRow iM_breaths iM_cutMany iM_allBreaths rM_trial rM_words iM_fewestBreaths iM_orderMany iM_orderSum iM_leastOrder rM_often iM_setMany iM_someOf iM_allOf iM_allWeight iM_enoughWeight iM_worthSum iM_firstRest iM_leastDrawn), (arI rM_tape kM_tape 900 fM_tape), (arI rM_letters kM_letters 8 fM_letters), (arI rM_fresh kM_fresh 287 fM_fresh), (arI rM_read kM_read 90 fM_read)] s.heap.size = A at hD hE hSw ⊢
  have hA : ∀ q : Nat, s.heap.size ≤ q → A q := fun q h => by rw [← hAe]; exact Or.inr h
  have hS : va_S A s.heap s.heap [] := va_S.rf
  have hl := lv_entry ([.ref oM, .ref sA, .int p0]) (n := 3) (Nat.le_of_ble_eq_true rfl)
  rw [lg_entry_eq]
  generalize (lg_sl ([.ref oM, .ref sA, .int p0]) ++ List.replicate (3 - (lg_sl ([.ref oM, .ref sA, .int p0])).length) Slot.unset).toArray = ls at hl ⊢
  have hl : lv_has ls 3 [(0, .ref oM), (1, .ref sA), (2, .int p0)] := hl
  have hG := PX7_begins_eq fM_tape iM_size iM_at iM_end iM_token iM_whole iM_nameSize iM_fault iM_place fM_letters iM_failed fM_fresh p0 sN sF
  have pl_fM_fresh := r_P.lins
  refine lv_aload_n hx hb dX7_begins_0 rfl (lv_at hl 0 rfl) ?_
  refine lv_aload_n hx hb dX7_begins_1 rfl (lv_at hl 1 rfl) ?_
  have hFc := va_free (wc := [(oc7 oM iM_thrown rM_tape iM_taped iM_size iM_at iM_end iM_token iM_whole iM_nameSize iM_fault iM_place iM_trouble rM_letters iM_failed iM_hasCourt rM_r rM_fresh rM_told rM_read rM_st rM_undone rM_kept iM_undos iM_images rM_fresher iM_fresherSize iM_scale iM_night rM_heardRow rM_cutRow iM_breaths iM_cutMany iM_allBreaths rM_trial rM_words iM_fewestBreaths iM_orderMany iM_orderSum iM_leastOrder rM_often iM_setMany iM_someOf iM_allOf iM_allWeight iM_enoughWeight iM_worthSum iM_firstRest iM_leastDrawn), (arI rM_letters kM_letters 8 fM_letters)]) hD hS hA [0, 2] rfl
  refine va_calli (va_runV (As := [.ref sA]) (rest := []) ⟨hx, hb, hml, hown, hts⟩ (tX7_isWord l dC dI _ oM iM_thrown rM_tape iM_taped iM_size iM_at iM_end iM_token iM_whole iM_nameSize iM_fault iM_place iM_trouble rM_letters fM_letters kM_letters iM_failed iM_hasCourt rM_r rM_fresh rM_told rM_read rM_st rM_undone rM_kept iM_undos iM_images rM_fresher iM_fresherSize iM_scale iM_night rM_heardRow rM_cutRow iM_breaths iM_cutMany iM_allBreaths rM_trial rM_words iM_fewestBreaths iM_orderMany iM_orderSum iM_leastOrder rM_often iM_setMany iM_someOf iM_allOf iM_allWeight iM_enoughWeight iM_worthSum iM_firstRest iM_leastDrawn sA sV sN sF (by first | omega | decide) (by first | omega | decide) (by first | omega | decide) (by first | omega | decide) (by first | omega | decide) (by first | omega | decide) (by first | omega | decide) (by first | omega | decide) (by first | omega | decide) (by first | omega | decide) (by first | omega | decide) (by first | assumption | exact (fun h9 => by have q0 := kc_0; have q1 := kc_1; omega)) (by first | omega | decide | assumption | (have q0 := kc_0; have q1 := kc_1; omega) | (intro h; exact absurd h (by decide)))) (cwV 1 hts (wd_V wd_420 wd_421 wd_422 wd_5 (wd_c wd_423)) rfl rfl rfl (by decide +kernel) ⟨Nat.le_of_ble_eq_true rfl, Nat.le_of_ble_eq_true rfl⟩) ⟨Pq.fb, va_recv hK hP (ci := 7) (q0 := 0) rfl rfl, fun U hU hW => Pq.to (hP.sub [0, 2] rfl) (hD.sub [0, 2] (by decide) rfl) (hK.sub [1] rfl) hSw hE hS hFc hU hW⟩ rfl rfl hl.1 rfl (lv_room (Nat.le_of_ble_eq_true rfl)) dX7_begins_2 ⟨Nat.le_of_ble_eq_true rfl, Nat.le_of_ble_eq_true rfl⟩) hS (fun q _ h => hFc q h) hFc (fun r u t H locs ht hvm hw hB hz1 hk1 hS => ?_)
  have hru9 := hw.2
  have hw := hw.1
  obtain ⟨hP, hD, hK⟩ := Bw.go (ws' := [(arI rM_tape kM_tape 900 fM_tape), (arI rM_fresh kM_fresh 287 fM_fresh), (arI rM_read kM_read 90 fM_read), (oc7 oM iM_thrown rM_tape iM_taped iM_size iM_at iM_end iM_token iM_whole iM_nameSize iM_fault iM_place iM_trouble rM_letters iM_failed iM_hasCourt rM_r rM_fresh rM_told rM_read rM_st rM_undone rM_kept iM_undos iM_images rM_fresher iM_fresherSize iM_scale iM_night rM_heardRow rM_cutRow iM_breaths iM_cutMany iM_allBreaths rM_trial rM_words iM_fewestBreaths iM_orderMany iM_orderSum iM_leastOrder rM_often iM_setMany iM_someOf iM_allOf iM_allWeight iM_enoughWeight iM_worthSum iM_firstRest iM_leastDrawn), (arI rM_letters kM_letters 8 fM_letters)]) (tys' := [(kM_tape, .int), (kM_fresh, .int), (kM_read, .int), (kM_letters, .int)]) hB rfl ht hvm hP hD hK [0, 2] [1, 3, 4] rfl (by decide) (by decide) [0, 2, 3] hk1 hFc rfl rfl rfl
  clear hz1 hk1 hvm ht hB
  obtain ⟨x_5406, rfl⟩ : ∃ z, z = r := ⟨_, rfl⟩
  have hG := hG.trans (lt_eq hru9.symm)
  have bx_5406 := hw.1
  have dx_5406 := bz_ti bx_5406
  have lx_5406 := hw.2
  refine lv_if_ne (tgt := 10) hx hb dX7_begins_5 (by decide) (fun c_5407 => ?_) (fun c_5407 => ?_)
  · skip
    have hG := hG.trans (if_neg c_5407)
    have gc_5407 := ti_ne c_5407 rfl kc_0
    replace gc_5407 : (-1) * x_5406.toInt + 1 ≤ 0 := by omega
    have h_5408 := lx_5406 (by omega)
    clear lx_5406
    have h_5409 := r_T (by omega)
    clear r_T
    refine lv_iload_n hx hb dX7_begins_10 rfl (lv_at hl 2 rfl) ?_
    refine lv_if_ne (tgt := 23) hx hb dX7_begins_11 (by decide) (fun c_5410 => ?_) (fun c_5410 => ?_)
    · skip
      have hG := hG.trans (if_neg c_5410)
      have gc_5410 := ti_ne c_5410 rfl kc_0
      replace gc_5410 : (-1) * p0.toInt + 1 ≤ 0 := by omega
      refine lv_aload_n hx hb dX7_begins_23 rfl (lv_at hl 0 rfl) ?_
      refine va_get (D := (dC, dI)) (ci := 7) (v := .ref rM_fresh) (C := RX7) (T := TX7) (N := 48) hx hb hts inX7 hown hK hP 3 rfl rfl 16 (by decide) (hts _ wd_156) (fun _ h9 => h9) rfl dX7_begins_24 ?_
      refine lv_iconst (v := 5) hx hb dX7_begins_27 (by decide) ?_
      refine va_iald hx hb hK hP 1 1 rfl rfl (by unfold vp_in; decide) dX7_begins_28 ?_
      refine lv_topi (fun x_5411 ex_5411 => ?_)
      have hG := hG.trans (lt_eq ex_5411)
      have cx_5411 : (fM_fresh 5).toInt = x_5411.toInt := congrArg Int32.toInt (show fM_fresh 5 = x_5411 from ex_5411.symm)
      refine lv_if_ne (tgt := 42) hx hb dX7_begins_29 (by decide) (fun c_5412 => ?_) (fun c_5412 => ?_)
      · skip
        have hG := hG.trans (if_neg c_5412)
        have gc_5412 := ti_ne c_5412 rfl kc_0
        refine lv_aload_n hx hb dX7_begins_42 rfl (lv_at hl 0 rfl) ?_
        have hFc := va_free (wc := [(oc7 oM iM_thrown rM_tape iM_taped iM_size iM_at iM_end iM_token iM_whole iM_nameSize iM_fault iM_place iM_trouble rM_letters iM_failed iM_hasCourt rM_r rM_fresh rM_told rM_read rM_st rM_undone rM_kept iM_undos iM_images rM_fresher iM_fresherSize iM_scale iM_night rM_heardRow rM_cutRow iM_breaths iM_cutMany iM_allBreaths rM_trial rM_words iM_fewestBreaths iM_orderMany iM_orderSum iM_leastOrder rM_often iM_setMany iM_someOf iM_allOf iM_allWeight iM_enoughWeight iM_worthSum iM_firstRest iM_leastDrawn), (arI rM_tape kM_tape 900 fM_tape), (arI rM_letters kM_letters 8 fM_letters)]) hD hS hA [3, 0, 4] rfl
        refine va_callv (va_runV (As := []) (rest := []) ⟨hx, hb, hml, hown, hts⟩ (tX7_pass l dC dI _ oM iM_thrown rM_tape fM_tape kM_tape iM_taped iM_size iM_at iM_end iM_token iM_whole iM_nameSize iM_fault iM_place iM_trouble rM_letters fM_letters kM_letters iM_failed iM_hasCourt rM_r rM_fresh rM_told rM_read rM_st rM_undone rM_kept iM_undos iM_images rM_fresher iM_fresherSize iM_scale iM_night rM_heardRow rM_cutRow iM_breaths iM_cutMany iM_allBreaths rM_trial rM_words iM_fewestBreaths iM_orderMany iM_orderSum iM_leastOrder rM_often iM_setMany iM_someOf iM_allOf iM_allWeight iM_enoughWeight iM_worthSum iM_firstRest iM_leastDrawn (by first | omega | decide) (by first | omega | decide) (by first | omega | decide) (by first | omega | decide) (by first | omega | decide) (by first | omega | decide) (by first | omega | decide) (by first | omega | decide) (by first | omega | decide) (by first | omega | decide) (by first | omega | decide) (by first | assumption | exact (fun h9 => by have q0 := kc_0; have q1 := kc_1; omega))) (cwV 0 hts (wd_V wd_454 wd_455 wd_456 wd_5 (wd_c wd_457)) rfl rfl rfl (by decide +kernel) ⟨Nat.le_of_ble_eq_true rfl, Nat.le_of_ble_eq_true rfl⟩) ⟨Pw.fb, va_recv hK hP (ci := 7) (q0 := 3) rfl rfl, fun U hU hW => Pw.to (hP.sub [3, 0, 4] rfl) (hD.sub [3, 0, 4] (by decide) rfl) (hK.sub [0, 3] rfl) hE hS hFc hU hW⟩ rfl rfl hl.1 rfl (lv_room (Nat.le_of_ble_eq_true rfl)) dX7_begins_43 ⟨Nat.le_of_ble_eq_true rfl, Nat.le_of_ble_eq_true rfl⟩) hS (fun q _ h => hFc q h) hFc (fun u t H locs ht hvm hw hB hz1 hk1 hS => ?_)
        obtain ⟨x_5413, x_5414, x_5415, x_5416, x_5417, f_5418, b_x_5414, b_x_5417, e_x_5413_0, e_x_5413_1, e_x_5413_2, e_x_5413_3, hB⟩ := hB
        obtain ⟨hP, hD, hK⟩ := Bw.go (ws' := [(arI rM_fresh kM_fresh 287 fM_fresh), (arI rM_read kM_read 90 fM_read), (oc7 oM iM_thrown rM_tape iM_taped iM_size x_5413 x_5414 x_5415 x_5416 x_5417 iM_fault iM_place iM_trouble rM_letters iM_failed iM_hasCourt rM_r rM_fresh rM_told rM_read rM_st rM_undone rM_kept iM_undos iM_images rM_fresher iM_fresherSize iM_scale iM_night rM_heardRow rM_cutRow iM_breaths iM_cutMany iM_allBreaths rM_trial rM_words iM_fewestBreaths iM_orderMany iM_orderSum iM_leastOrder rM_often iM_setMany iM_someOf iM_allOf iM_allWeight iM_enoughWeight iM_worthSum iM_firstRest iM_leastDrawn), (arI rM_tape kM_tape 900 fM_tape), (arI rM_letters kM_letters 8 f_5418)]) (tys' := [(kM_fresh, .int), (kM_read, .int), (kM_tape, .int), (kM_letters, .int)]) hB rfl ht hvm hP hD hK [3, 0, 4] [1, 2] rfl (by decide) (by decide) [1, 2] hk1 hFc rfl rfl rfl
        clear hz1 hk1 hvm ht hB
        have hG := hG.trans (un6_eq e_x_5413_3)
        refine lv_iconst (v := 1) hx hb dX7_begins_46 (by decide) ?_
        exact W.zret (v := 1) hx hb hr rfl (fun t ht hW => ⟨⟨_, 1, rfl, ⟨⟨Or.inr rfl, (by decide)⟩, (by decide)⟩, ⟨x_5413, x_5414, x_5415, x_5416, x_5417, iM_fault, iM_place, iM_failed, f_5418, b_x_5414, b_x_5417, (by omega), (by first | assumption | (have q0 := kc_0; have q1 := kc_1; omega)), e_x_5413_1, (by first | assumption | (have q0 := kc_0; have q1 := kc_1; omega)), (by first | assumption | exact (fun h9 => by have q0 := kc_0; have q1 := kc_1; omega)), (fun h9 => by have q0 := kc_0; have q1 := kc_1; have q9 := e_x_5413_2 (by omega); omega), hG, Bw.to (hP.sub [2, 3, 4, 0, 1] rfl) (hD.sub [2, 3, 4, 0, 1] (by decide) rfl) (hK.sub [2, 3, 0, 1] rfl) ht hW⟩⟩, hS.F ht⟩) hS.2.2 dX7_begins_47
      · skip
        have hG := hG.trans (if_pos c_5412)
        have gc_5412 := ti_eq c_5412 rfl kc_0
        refine lv_aload_n hx hb dX7_begins_32 rfl (lv_at hl 0 rfl) ?_
        refine lv_bipush (v := 6) hx hb dX7_begins_33 (by decide) ?_
        refine lv_aload_n hx hb dX7_begins_35 rfl (lv_at hl 0 rfl) ?_
        refine va_get (D := (dC, dI)) (ci := 7) (v := .int iM_at) (C := RX7) (T := TX7) (N := 48) hx hb hts inX7 hown hK hP 3 rfl rfl 4 (by decide) (hts _ wd_384) (fun _ h9 => h9) rfl dX7_begins_36 ?_
        have hFc := va_free (wc := [(oc7 oM iM_thrown rM_tape iM_taped iM_size iM_at iM_end iM_token iM_whole iM_nameSize iM_fault iM_place iM_trouble rM_letters iM_failed iM_hasCourt rM_r rM_fresh rM_told rM_read rM_st rM_undone rM_kept iM_undos iM_images rM_fresher iM_fresherSize iM_scale iM_night rM_heardRow rM_cutRow iM_breaths iM_cutMany iM_allBreaths rM_trial rM_words iM_fewestBreaths iM_orderMany iM_orderSum iM_leastOrder rM_often iM_setMany iM_someOf iM_allOf iM_allWeight iM_enoughWeight iM_worthSum iM_firstRest iM_leastDrawn)]) hD hS hA [3] rfl
        refine va_callv (va_runV (As := [.int 6, .int iM_at]) (rest := []) ⟨hx, hb, hml, hown, hts⟩ (tX7_wrong l dC dI _ oM iM_thrown rM_tape iM_taped iM_size iM_at iM_end iM_token iM_whole iM_nameSize iM_fault iM_place iM_trouble rM_letters iM_failed iM_hasCourt rM_r rM_fresh rM_told rM_read rM_st rM_undone rM_kept iM_undos iM_images rM_fresher iM_fresherSize iM_scale iM_night rM_heardRow rM_cutRow iM_breaths iM_cutMany iM_allBreaths rM_trial rM_words iM_fewestBreaths iM_orderMany iM_orderSum iM_leastOrder rM_often iM_setMany iM_someOf iM_allOf iM_allWeight iM_enoughWeight iM_worthSum iM_firstRest iM_leastDrawn 6 iM_at (by first | omega | decide) (by first | omega | decide) (by first | omega | decide) (by first | omega | decide) (by first | omega | decide) (by first | omega | decide) (by first | omega | decide) (by first | omega | decide) (by first | omega | decide) (by first | omega | decide) (by first | omega | decide) (by first | assumption | exact (fun h9 => by have q0 := kc_0; have q1 := kc_1; omega))) (cwV 2 hts (wd_V wd_430 wd_431 wd_432 wd_5 (wd_c wd_433)) rfl rfl rfl (by decide +kernel) ⟨Nat.le_of_ble_eq_true rfl, Nat.le_of_ble_eq_true rfl⟩) ⟨Pw.fb, va_recv hK hP (ci := 7) (q0 := 3) rfl rfl, fun U hU hW => Pw.to (hP.sub [3] rfl) (hD.sub [3] (by decide) rfl) (hK.sub [] rfl) hE hS hFc hU hW⟩ rfl rfl hl.1 rfl (lv_room (Nat.le_of_ble_eq_true rfl)) dX7_begins_39 ⟨Nat.le_of_ble_eq_true rfl, Nat.le_of_ble_eq_true rfl⟩) hS (fun q _ h => hFc q h) hFc (fun u t H locs ht hvm hw hB hz1 hk1 hS => ?_)
        obtain ⟨x_5419, x_5420, x_5421, b_x_5421, e_x_5419_0, e_x_5419_1, hB⟩ := hB
        obtain ⟨hP, hD, hK⟩ := Bw.go (ws' := [(arI rM_tape kM_tape 900 fM_tape), (arI rM_fresh kM_fresh 287 fM_fresh), (arI rM_read kM_read 90 fM_read), (arI rM_letters kM_letters 8 fM_letters), (oc7 oM iM_thrown rM_tape iM_taped iM_size iM_at iM_end iM_token iM_whole iM_nameSize x_5419 x_5420 iM_trouble rM_letters x_5421 iM_hasCourt rM_r rM_fresh rM_told rM_read rM_st rM_undone rM_kept iM_undos iM_images rM_fresher iM_fresherSize iM_scale iM_night rM_heardRow rM_cutRow iM_breaths iM_cutMany iM_allBreaths rM_trial rM_words iM_fewestBreaths iM_orderMany iM_orderSum iM_leastOrder rM_often iM_setMany iM_someOf iM_allOf iM_allWeight iM_enoughWeight iM_worthSum iM_firstRest iM_leastDrawn)]) (tys' := [(kM_tape, .int), (kM_fresh, .int), (kM_read, .int), (kM_letters, .int)]) hB rfl ht hvm hP hD hK [3] [0, 1, 2, 4] rfl (by decide) (by decide) [0, 1, 2, 3] hk1 hFc rfl rfl rfl
        clear hz1 hk1 hvm ht hB
        have hG := hG.trans (un3_eq e_x_5419_1)
        refine lv_aload_n hx hb dX7_begins_42 rfl (lv_at hl 0 rfl) ?_
        have hFc := va_free (wc := [(oc7 oM iM_thrown rM_tape iM_taped iM_size iM_at iM_end iM_token iM_whole iM_nameSize x_5419 x_5420 iM_trouble rM_letters x_5421 iM_hasCourt rM_r rM_fresh rM_told rM_read rM_st rM_undone rM_kept iM_undos iM_images rM_fresher iM_fresherSize iM_scale iM_night rM_heardRow rM_cutRow iM_breaths iM_cutMany iM_allBreaths rM_trial rM_words iM_fewestBreaths iM_orderMany iM_orderSum iM_leastOrder rM_often iM_setMany iM_someOf iM_allOf iM_allWeight iM_enoughWeight iM_worthSum iM_firstRest iM_leastDrawn), (arI rM_tape kM_tape 900 fM_tape), (arI rM_letters kM_letters 8 fM_letters)]) hD hS hA [4, 0, 3] rfl
        refine va_callv (va_runV (As := []) (rest := []) ⟨hx, hb, hml, hown, hts⟩ (tX7_pass l dC dI _ oM iM_thrown rM_tape fM_tape kM_tape iM_taped iM_size iM_at iM_end iM_token iM_whole iM_nameSize x_5419 x_5420 iM_trouble rM_letters fM_letters kM_letters x_5421 iM_hasCourt rM_r rM_fresh rM_told rM_read rM_st rM_undone rM_kept iM_undos iM_images rM_fresher iM_fresherSize iM_scale iM_night rM_heardRow rM_cutRow iM_breaths iM_cutMany iM_allBreaths rM_trial rM_words iM_fewestBreaths iM_orderMany iM_orderSum iM_leastOrder rM_often iM_setMany iM_someOf iM_allOf iM_allWeight iM_enoughWeight iM_worthSum iM_firstRest iM_leastDrawn (by first | omega | decide) (by first | omega | decide) (by first | omega | decide) (by first | omega | decide) (by first | exact b_x_5421 | omega | decide) (by first | omega | decide) (by first | omega | decide) (by first | omega | decide) (by first | omega | decide) (by first | omega | decide) (by first | omega | decide) (by first | assumption | exact (fun h9 => by have q0 := kc_0; have q1 := kc_1; omega))) (cwV 0 hts (wd_V wd_454 wd_455 wd_456 wd_5 (wd_c wd_457)) rfl rfl rfl (by decide +kernel) ⟨Nat.le_of_ble_eq_true rfl, Nat.le_of_ble_eq_true rfl⟩) ⟨Pw.fb, va_recv hK hP (ci := 7) (q0 := 4) rfl rfl, fun U hU hW => Pw.to (hP.sub [4, 0, 3] rfl) (hD.sub [4, 0, 3] (by decide) rfl) (hK.sub [0, 3] rfl) hE hS hFc hU hW⟩ rfl rfl hl.1 rfl (lv_room (Nat.le_of_ble_eq_true rfl)) dX7_begins_43 ⟨Nat.le_of_ble_eq_true rfl, Nat.le_of_ble_eq_true rfl⟩) hS (fun q _ h => hFc q h) hFc (fun u t H locs ht hvm hw hB hz1 hk1 hS => ?_)
        obtain ⟨x_5422, x_5423, x_5424, x_5425, x_5426, f_5427, b_x_5423, b_x_5426, e_x_5422_0, e_x_5422_1, e_x_5422_2, e_x_5422_3, hB⟩ := hB
        obtain ⟨hP, hD, hK⟩ := Bw.go (ws' := [(arI rM_fresh kM_fresh 287 fM_fresh), (arI rM_read kM_read 90 fM_read), (oc7 oM iM_thrown rM_tape iM_taped iM_size x_5422 x_5423 x_5424 x_5425 x_5426 x_5419 x_5420 iM_trouble rM_letters x_5421 iM_hasCourt rM_r rM_fresh rM_told rM_read rM_st rM_undone rM_kept iM_undos iM_images rM_fresher iM_fresherSize iM_scale iM_night rM_heardRow rM_cutRow iM_breaths iM_cutMany iM_allBreaths rM_trial rM_words iM_fewestBreaths iM_orderMany iM_orderSum iM_leastOrder rM_often iM_setMany iM_someOf iM_allOf iM_allWeight iM_enoughWeight iM_worthSum iM_firstRest iM_leastDrawn), (arI rM_tape kM_tape 900 fM_tape), (arI rM_letters kM_letters 8 f_5427)]) (tys' := [(kM_fresh, .int), (kM_read, .int), (kM_tape, .int), (kM_letters, .int)]) hB rfl ht hvm hP hD hK [4, 0, 3] [1, 2] rfl (by decide) (by decide) [1, 2] hk1 hFc rfl rfl rfl
        clear hz1 hk1 hvm ht hB
        have hG := hG.trans (un6_eq e_x_5422_3)
        refine lv_iconst (v := 1) hx hb dX7_begins_46 (by decide) ?_
        exact W.zret (v := 1) hx hb hr rfl (fun t ht hW => ⟨⟨_, 1, rfl, ⟨⟨Or.inr rfl, (by decide)⟩, (by decide)⟩, ⟨x_5422, x_5423, x_5424, x_5425, x_5426, x_5419, x_5420, x_5421, f_5427, b_x_5423, b_x_5426, b_x_5421, (by first | assumption | (have q0 := kc_0; have q1 := kc_1; omega)), e_x_5422_1, (by first | assumption | (have q0 := kc_0; have q1 := kc_1; omega)), (by first | assumption | exact (fun h9 => by have q0 := kc_0; have q1 := kc_1; omega)), (fun h9 => by have q0 := kc_0; have q1 := kc_1; omega), hG, Bw.to (hP.sub [2, 3, 4, 0, 1] rfl) (hD.sub [2, 3, 4, 0, 1] (by decide) rfl) (hK.sub [2, 3, 0, 1] rfl) ht hW⟩⟩, hS.F ht⟩) hS.2.2 dX7_begins_47
    · skip
      have hG := hG.trans (if_pos c_5410)
      have gc_5410 := ti_eq c_5410 rfl kc_0
      refine lv_aload_n hx hb dX7_begins_14 rfl (lv_at hl 0 rfl) ?_
      refine lv_iconst (v := 5) hx hb dX7_begins_15 (by decide) ?_
      refine lv_aload_n hx hb dX7_begins_16 rfl (lv_at hl 0 rfl) ?_
      refine va_get (D := (dC, dI)) (ci := 7) (v := .int iM_at) (C := RX7) (T := TX7) (N := 48) hx hb hts inX7 hown hK hP 3 rfl rfl 4 (by decide) (hts _ wd_384) (fun _ h9 => h9) rfl dX7_begins_17 ?_
      have hFc := va_free (wc := [(oc7 oM iM_thrown rM_tape iM_taped iM_size iM_at iM_end iM_token iM_whole iM_nameSize iM_fault iM_place iM_trouble rM_letters iM_failed iM_hasCourt rM_r rM_fresh rM_told rM_read rM_st rM_undone rM_kept iM_undos iM_images rM_fresher iM_fresherSize iM_scale iM_night rM_heardRow rM_cutRow iM_breaths iM_cutMany iM_allBreaths rM_trial rM_words iM_fewestBreaths iM_orderMany iM_orderSum iM_leastOrder rM_often iM_setMany iM_someOf iM_allOf iM_allWeight iM_enoughWeight iM_worthSum iM_firstRest iM_leastDrawn)]) hD hS hA [3] rfl
      refine va_callv (va_runV (As := [.int 5, .int iM_at]) (rest := []) ⟨hx, hb, hml, hown, hts⟩ (tX7_wrong l dC dI _ oM iM_thrown rM_tape iM_taped iM_size iM_at iM_end iM_token iM_whole iM_nameSize iM_fault iM_place iM_trouble rM_letters iM_failed iM_hasCourt rM_r rM_fresh rM_told rM_read rM_st rM_undone rM_kept iM_undos iM_images rM_fresher iM_fresherSize iM_scale iM_night rM_heardRow rM_cutRow iM_breaths iM_cutMany iM_allBreaths rM_trial rM_words iM_fewestBreaths iM_orderMany iM_orderSum iM_leastOrder rM_often iM_setMany iM_someOf iM_allOf iM_allWeight iM_enoughWeight iM_worthSum iM_firstRest iM_leastDrawn 5 iM_at (by first | omega | decide) (by first | omega | decide) (by first | omega | decide) (by first | omega | decide) (by first | omega | decide) (by first | omega | decide) (by first | omega | decide) (by first | omega | decide) (by first | omega | decide) (by first | omega | decide) (by first | omega | decide) (by first | assumption | exact (fun h9 => by have q0 := kc_0; have q1 := kc_1; omega))) (cwV 2 hts (wd_V wd_430 wd_431 wd_432 wd_5 (wd_c wd_433)) rfl rfl rfl (by decide +kernel) ⟨Nat.le_of_ble_eq_true rfl, Nat.le_of_ble_eq_true rfl⟩) ⟨Pw.fb, va_recv hK hP (ci := 7) (q0 := 3) rfl rfl, fun U hU hW => Pw.to (hP.sub [3] rfl) (hD.sub [3] (by decide) rfl) (hK.sub [] rfl) hE hS hFc hU hW⟩ rfl rfl hl.1 rfl (lv_room (Nat.le_of_ble_eq_true rfl)) dX7_begins_20 ⟨Nat.le_of_ble_eq_true rfl, Nat.le_of_ble_eq_true rfl⟩) hS (fun q _ h => hFc q h) hFc (fun u t H locs ht hvm hw hB hz1 hk1 hS => ?_)
      obtain ⟨x_5428, x_5429, x_5430, b_x_5430, e_x_5428_0, e_x_5428_1, hB⟩ := hB
      obtain ⟨hP, hD, hK⟩ := Bw.go (ws' := [(arI rM_tape kM_tape 900 fM_tape), (arI rM_fresh kM_fresh 287 fM_fresh), (arI rM_read kM_read 90 fM_read), (arI rM_letters kM_letters 8 fM_letters), (oc7 oM iM_thrown rM_tape iM_taped iM_size iM_at iM_end iM_token iM_whole iM_nameSize x_5428 x_5429 iM_trouble rM_letters x_5430 iM_hasCourt rM_r rM_fresh rM_told rM_read rM_st rM_undone rM_kept iM_undos iM_images rM_fresher iM_fresherSize iM_scale iM_night rM_heardRow rM_cutRow iM_breaths iM_cutMany iM_allBreaths rM_trial rM_words iM_fewestBreaths iM_orderMany iM_orderSum iM_leastOrder rM_often iM_setMany iM_someOf iM_allOf iM_allWeight iM_enoughWeight iM_worthSum iM_firstRest iM_leastDrawn)]) (tys' := [(kM_tape, .int), (kM_fresh, .int), (kM_read, .int), (kM_letters, .int)]) hB rfl ht hvm hP hD hK [3] [0, 1, 2, 4] rfl (by decide) (by decide) [0, 1, 2, 3] hk1 hFc rfl rfl rfl
      clear hz1 hk1 hvm ht hB
      have hG := hG.trans (un3_eq e_x_5428_1)
      refine lv_aload_n hx hb dX7_begins_23 rfl (lv_at hl 0 rfl) ?_
      refine va_get (D := (dC, dI)) (ci := 7) (v := .ref rM_fresh) (C := RX7) (T := TX7) (N := 48) hx hb hts inX7 hown hK hP 4 rfl rfl 16 (by decide) (hts _ wd_156) (fun _ h9 => h9) rfl dX7_begins_24 ?_
      refine lv_iconst (v := 5) hx hb dX7_begins_27 (by decide) ?_
      refine va_iald hx hb hK hP 1 1 rfl rfl (by unfold vp_in; decide) dX7_begins_28 ?_
      refine lv_topi (fun x_5431 ex_5431 => ?_)
      have hG := hG.trans (lt_eq ex_5431)
      have cx_5431 : (fM_fresh 5).toInt = x_5431.toInt := congrArg Int32.toInt (show fM_fresh 5 = x_5431 from ex_5431.symm)
      refine lv_if_ne (tgt := 42) hx hb dX7_begins_29 (by decide) (fun c_5432 => ?_) (fun c_5432 => ?_)
      · skip
        have hG := hG.trans (if_neg c_5432)
        have gc_5432 := ti_ne c_5432 rfl kc_0
        refine lv_aload_n hx hb dX7_begins_42 rfl (lv_at hl 0 rfl) ?_
        have hFc := va_free (wc := [(oc7 oM iM_thrown rM_tape iM_taped iM_size iM_at iM_end iM_token iM_whole iM_nameSize x_5428 x_5429 iM_trouble rM_letters x_5430 iM_hasCourt rM_r rM_fresh rM_told rM_read rM_st rM_undone rM_kept iM_undos iM_images rM_fresher iM_fresherSize iM_scale iM_night rM_heardRow rM_cutRow iM_breaths iM_cutMany iM_allBreaths rM_trial rM_words iM_fewestBreaths iM_orderMany iM_orderSum iM_leastOrder rM_often iM_setMany iM_someOf iM_allOf iM_allWeight iM_enoughWeight iM_worthSum iM_firstRest iM_leastDrawn), (arI rM_tape kM_tape 900 fM_tape), (arI rM_letters kM_letters 8 fM_letters)]) hD hS hA [4, 0, 3] rfl
        refine va_callv (va_runV (As := []) (rest := []) ⟨hx, hb, hml, hown, hts⟩ (tX7_pass l dC dI _ oM iM_thrown rM_tape fM_tape kM_tape iM_taped iM_size iM_at iM_end iM_token iM_whole iM_nameSize x_5428 x_5429 iM_trouble rM_letters fM_letters kM_letters x_5430 iM_hasCourt rM_r rM_fresh rM_told rM_read rM_st rM_undone rM_kept iM_undos iM_images rM_fresher iM_fresherSize iM_scale iM_night rM_heardRow rM_cutRow iM_breaths iM_cutMany iM_allBreaths rM_trial rM_words iM_fewestBreaths iM_orderMany iM_orderSum iM_leastOrder rM_often iM_setMany iM_someOf iM_allOf iM_allWeight iM_enoughWeight iM_worthSum iM_firstRest iM_leastDrawn (by first | omega | decide) (by first | omega | decide) (by first | omega | decide) (by first | omega | decide) (by first | exact b_x_5430 | omega | decide) (by first | omega | decide) (by first | omega | decide) (by first | omega | decide) (by first | omega | decide) (by first | omega | decide) (by first | omega | decide) (by first | assumption | exact (fun h9 => by have q0 := kc_0; have q1 := kc_1; omega))) (cwV 0 hts (wd_V wd_454 wd_455 wd_456 wd_5 (wd_c wd_457)) rfl rfl rfl (by decide +kernel) ⟨Nat.le_of_ble_eq_true rfl, Nat.le_of_ble_eq_true rfl⟩) ⟨Pw.fb, va_recv hK hP (ci := 7) (q0 := 4) rfl rfl, fun U hU hW => Pw.to (hP.sub [4, 0, 3] rfl) (hD.sub [4, 0, 3] (by decide) rfl) (hK.sub [0, 3] rfl) hE hS hFc hU hW⟩ rfl rfl hl.1 rfl (lv_room (Nat.le_of_ble_eq_true rfl)) dX7_begins_43 ⟨Nat.le_of_ble_eq_true rfl, Nat.le_of_ble_eq_true rfl⟩) hS (fun q _ h => hFc q h) hFc (fun u t H locs ht hvm hw hB hz1 hk1 hS => ?_)
        obtain ⟨x_5433, x_5434, x_5435, x_5436, x_5437, f_5438, b_x_5434, b_x_5437, e_x_5433_0, e_x_5433_1, e_x_5433_2, e_x_5433_3, hB⟩ := hB
        obtain ⟨hP, hD, hK⟩ := Bw.go (ws' := [(arI rM_fresh kM_fresh 287 fM_fresh), (arI rM_read kM_read 90 fM_read), (oc7 oM iM_thrown rM_tape iM_taped iM_size x_5433 x_5434 x_5435 x_5436 x_5437 x_5428 x_5429 iM_trouble rM_letters x_5430 iM_hasCourt rM_r rM_fresh rM_told rM_read rM_st rM_undone rM_kept iM_undos iM_images rM_fresher iM_fresherSize iM_scale iM_night rM_heardRow rM_cutRow iM_breaths iM_cutMany iM_allBreaths rM_trial rM_words iM_fewestBreaths iM_orderMany iM_orderSum iM_leastOrder rM_often iM_setMany iM_someOf iM_allOf iM_allWeight iM_enoughWeight iM_worthSum iM_firstRest iM_leastDrawn), (arI rM_tape kM_tape 900 fM_tape), (arI rM_letters kM_letters 8 f_5438)]) (tys' := [(kM_fresh, .int), (kM_read, .int), (kM_tape, .int), (kM_letters, .int)]) hB rfl ht hvm hP hD hK [4, 0, 3] [1, 2] rfl (by decide) (by decide) [1, 2] hk1 hFc rfl rfl rfl
        clear hz1 hk1 hvm ht hB
        have hG := hG.trans (un6_eq e_x_5433_3)
        refine lv_iconst (v := 1) hx hb dX7_begins_46 (by decide) ?_
        exact W.zret (v := 1) hx hb hr rfl (fun t ht hW => ⟨⟨_, 1, rfl, ⟨⟨Or.inr rfl, (by decide)⟩, (by decide)⟩, ⟨x_5433, x_5434, x_5435, x_5436, x_5437, x_5428, x_5429, x_5430, f_5438, b_x_5434, b_x_5437, b_x_5430, (by first | assumption | (have q0 := kc_0; have q1 := kc_1; omega)), e_x_5433_1, (by first | assumption | (have q0 := kc_0; have q1 := kc_1; omega)), (by first | assumption | exact (fun h9 => by have q0 := kc_0; have q1 := kc_1; omega)), (fun h9 => by have q0 := kc_0; have q1 := kc_1; omega), hG, Bw.to (hP.sub [2, 3, 4, 0, 1] rfl) (hD.sub [2, 3, 4, 0, 1] (by decide) rfl) (hK.sub [2, 3, 0, 1] rfl) ht hW⟩⟩, hS.F ht⟩) hS.2.2 dX7_begins_47
      · skip
        have hG := hG.trans (if_pos c_5432)
        have gc_5432 := ti_eq c_5432 rfl kc_0
        refine lv_aload_n hx hb dX7_begins_32 rfl (lv_at hl 0 rfl) ?_
        refine lv_bipush (v := 6) hx hb dX7_begins_33 (by decide) ?_
        refine lv_aload_n hx hb dX7_begins_35 rfl (lv_at hl 0 rfl) ?_
        refine va_get (D := (dC, dI)) (ci := 7) (v := .int iM_at) (C := RX7) (T := TX7) (N := 48) hx hb hts inX7 hown hK hP 4 rfl rfl 4 (by decide) (hts _ wd_384) (fun _ h9 => h9) rfl dX7_begins_36 ?_
        have hFc := va_free (wc := [(oc7 oM iM_thrown rM_tape iM_taped iM_size iM_at iM_end iM_token iM_whole iM_nameSize x_5428 x_5429 iM_trouble rM_letters x_5430 iM_hasCourt rM_r rM_fresh rM_told rM_read rM_st rM_undone rM_kept iM_undos iM_images rM_fresher iM_fresherSize iM_scale iM_night rM_heardRow rM_cutRow iM_breaths iM_cutMany iM_allBreaths rM_trial rM_words iM_fewestBreaths iM_orderMany iM_orderSum iM_leastOrder rM_often iM_setMany iM_someOf iM_allOf iM_allWeight iM_enoughWeight iM_worthSum iM_firstRest iM_leastDrawn)]) hD hS hA [4] rfl
        refine va_callv (va_runV (As := [.int 6, .int iM_at]) (rest := []) ⟨hx, hb, hml, hown, hts⟩ (tX7_wrong l dC dI _ oM iM_thrown rM_tape iM_taped iM_size iM_at iM_end iM_token iM_whole iM_nameSize x_5428 x_5429 iM_trouble rM_letters x_5430 iM_hasCourt rM_r rM_fresh rM_told rM_read rM_st rM_undone rM_kept iM_undos iM_images rM_fresher iM_fresherSize iM_scale iM_night rM_heardRow rM_cutRow iM_breaths iM_cutMany iM_allBreaths rM_trial rM_words iM_fewestBreaths iM_orderMany iM_orderSum iM_leastOrder rM_often iM_setMany iM_someOf iM_allOf iM_allWeight iM_enoughWeight iM_worthSum iM_firstRest iM_leastDrawn 6 iM_at (by first | omega | decide) (by first | omega | decide) (by first | omega | decide) (by first | omega | decide) (by first | exact b_x_5430 | omega | decide) (by first | omega | decide) (by first | omega | decide) (by first | omega | decide) (by first | omega | decide) (by first | omega | decide) (by first | omega | decide) (by first | assumption | exact (fun h9 => by have q0 := kc_0; have q1 := kc_1; omega))) (cwV 2 hts (wd_V wd_430 wd_431 wd_432 wd_5 (wd_c wd_433)) rfl rfl rfl (by decide +kernel) ⟨Nat.le_of_ble_eq_true rfl, Nat.le_of_ble_eq_true rfl⟩) ⟨Pw.fb, va_recv hK hP (ci := 7) (q0 := 4) rfl rfl, fun U hU hW => Pw.to (hP.sub [4] rfl) (hD.sub [4] (by decide) rfl) (hK.sub [] rfl) hE hS hFc hU hW⟩ rfl rfl hl.1 rfl (lv_room (Nat.le_of_ble_eq_true rfl)) dX7_begins_39 ⟨Nat.le_of_ble_eq_true rfl, Nat.le_of_ble_eq_true rfl⟩) hS (fun q _ h => hFc q h) hFc (fun u t H locs ht hvm hw hB hz1 hk1 hS => ?_)
        obtain ⟨x_5439, x_5440, x_5441, b_x_5441, e_x_5439_0, e_x_5439_1, hB⟩ := hB
        obtain ⟨hP, hD, hK⟩ := Bw.go (ws' := [(arI rM_tape kM_tape 900 fM_tape), (arI rM_fresh kM_fresh 287 fM_fresh), (arI rM_read kM_read 90 fM_read), (arI rM_letters kM_letters 8 fM_letters), (oc7 oM iM_thrown rM_tape iM_taped iM_size iM_at iM_end iM_token iM_whole iM_nameSize x_5439 x_5440 iM_trouble rM_letters x_5441 iM_hasCourt rM_r rM_fresh rM_told rM_read rM_st rM_undone rM_kept iM_undos iM_images rM_fresher iM_fresherSize iM_scale iM_night rM_heardRow rM_cutRow iM_breaths iM_cutMany iM_allBreaths rM_trial rM_words iM_fewestBreaths iM_orderMany iM_orderSum iM_leastOrder rM_often iM_setMany iM_someOf iM_allOf iM_allWeight iM_enoughWeight iM_worthSum iM_firstRest iM_leastDrawn)]) (tys' := [(kM_tape, .int), (kM_fresh, .int), (kM_read, .int), (kM_letters, .int)]) hB rfl ht hvm hP hD hK [4] [0, 1, 2, 3] rfl (by decide) (by decide) [0, 1, 2, 3] hk1 hFc rfl rfl rfl
        clear hz1 hk1 hvm ht hB
        have hG := hG.trans (un3_eq e_x_5439_1)
        refine lv_aload_n hx hb dX7_begins_42 rfl (lv_at hl 0 rfl) ?_
        have hFc := va_free (wc := [(oc7 oM iM_thrown rM_tape iM_taped iM_size iM_at iM_end iM_token iM_whole iM_nameSize x_5439 x_5440 iM_trouble rM_letters x_5441 iM_hasCourt rM_r rM_fresh rM_told rM_read rM_st rM_undone rM_kept iM_undos iM_images rM_fresher iM_fresherSize iM_scale iM_night rM_heardRow rM_cutRow iM_breaths iM_cutMany iM_allBreaths rM_trial rM_words iM_fewestBreaths iM_orderMany iM_orderSum iM_leastOrder rM_often iM_setMany iM_someOf iM_allOf iM_allWeight iM_enoughWeight iM_worthSum iM_firstRest iM_leastDrawn), (arI rM_tape kM_tape 900 fM_tape), (arI rM_letters kM_letters 8 fM_letters)]) hD hS hA [4, 0, 3] rfl
        refine va_callv (va_runV (As := []) (rest := []) ⟨hx, hb, hml, hown, hts⟩ (tX7_pass l dC dI _ oM iM_thrown rM_tape fM_tape kM_tape iM_taped iM_size iM_at iM_end iM_token iM_whole iM_nameSize x_5439 x_5440 iM_trouble rM_letters fM_letters kM_letters x_5441 iM_hasCourt rM_r rM_fresh rM_told rM_read rM_st rM_undone rM_kept iM_undos iM_images rM_fresher iM_fresherSize iM_scale iM_night rM_heardRow rM_cutRow iM_breaths iM_cutMany iM_allBreaths rM_trial rM_words iM_fewestBreaths iM_orderMany iM_orderSum iM_leastOrder rM_often iM_setMany iM_someOf iM_allOf iM_allWeight iM_enoughWeight iM_worthSum iM_firstRest iM_leastDrawn (by first | omega | decide) (by first | omega | decide) (by first | omega | decide) (by first | omega | decide) (by first | exact b_x_5441 | omega | decide) (by first | omega | decide) (by first | omega | decide) (by first | omega | decide) (by first | omega | decide) (by first | omega | decide) (by first | omega | decide) (by first | assumption | exact (fun h9 => by have q0 := kc_0; have q1 := kc_1; omega))) (cwV 0 hts (wd_V wd_454 wd_455 wd_456 wd_5 (wd_c wd_457)) rfl rfl rfl (by decide +kernel) ⟨Nat.le_of_ble_eq_true rfl, Nat.le_of_ble_eq_true rfl⟩) ⟨Pw.fb, va_recv hK hP (ci := 7) (q0 := 4) rfl rfl, fun U hU hW => Pw.to (hP.sub [4, 0, 3] rfl) (hD.sub [4, 0, 3] (by decide) rfl) (hK.sub [0, 3] rfl) hE hS hFc hU hW⟩ rfl rfl hl.1 rfl (lv_room (Nat.le_of_ble_eq_true rfl)) dX7_begins_43 ⟨Nat.le_of_ble_eq_true rfl, Nat.le_of_ble_eq_true rfl⟩) hS (fun q _ h => hFc q h) hFc (fun u t H locs ht hvm hw hB hz1 hk1 hS => ?_)
        obtain ⟨x_5442, x_5443, x_5444, x_5445, x_5446, f_5447, b_x_5443, b_x_5446, e_x_5442_0, e_x_5442_1, e_x_5442_2, e_x_5442_3, hB⟩ := hB
        obtain ⟨hP, hD, hK⟩ := Bw.go (ws' := [(arI rM_fresh kM_fresh 287 fM_fresh), (arI rM_read kM_read 90 fM_read), (oc7 oM iM_thrown rM_tape iM_taped iM_size x_5442 x_5443 x_5444 x_5445 x_5446 x_5439 x_5440 iM_trouble rM_letters x_5441 iM_hasCourt rM_r rM_fresh rM_told rM_read rM_st rM_undone rM_kept iM_undos iM_images rM_fresher iM_fresherSize iM_scale iM_night rM_heardRow rM_cutRow iM_breaths iM_cutMany iM_allBreaths rM_trial rM_words iM_fewestBreaths iM_orderMany iM_orderSum iM_leastOrder rM_often iM_setMany iM_someOf iM_allOf iM_allWeight iM_enoughWeight iM_worthSum iM_firstRest iM_leastDrawn), (arI rM_tape kM_tape 900 fM_tape), (arI rM_letters kM_letters 8 f_5447)]) (tys' := [(kM_fresh, .int), (kM_read, .int), (kM_tape, .int), (kM_letters, .int)]) hB rfl ht hvm hP hD hK [4, 0, 3] [1, 2] rfl (by decide) (by decide) [1, 2] hk1 hFc rfl rfl rfl
        clear hz1 hk1 hvm ht hB
        have hG := hG.trans (un6_eq e_x_5442_3)
        refine lv_iconst (v := 1) hx hb dX7_begins_46 (by decide) ?_
        exact W.zret (v := 1) hx hb hr rfl (fun t ht hW => ⟨⟨_, 1, rfl, ⟨⟨Or.inr rfl, (by decide)⟩, (by decide)⟩, ⟨x_5442, x_5443, x_5444, x_5445, x_5446, x_5439, x_5440, x_5441, f_5447, b_x_5443, b_x_5446, b_x_5441, (by first | assumption | (have q0 := kc_0; have q1 := kc_1; omega)), e_x_5442_1, (by first | assumption | (have q0 := kc_0; have q1 := kc_1; omega)), (by first | assumption | exact (fun h9 => by have q0 := kc_0; have q1 := kc_1; omega)), (fun h9 => by have q0 := kc_0; have q1 := kc_1; omega), hG, Bw.to (hP.sub [2, 3, 4, 0, 1] rfl) (hD.sub [2, 3, 4, 0, 1] (by decide) rfl) (hK.sub [2, 3, 0, 1] rfl) ht hW⟩⟩, hS.F ht⟩) hS.2.2 dX7_begins_47
  · skip
    have hG := hG.trans (if_pos c_5407)
    have gc_5407 := ti_eq c_5407 rfl kc_0
    clear lx_5406
    refine lv_iconst (v := 0) hx hb dX7_begins_8 (by decide) ?_
    exact W.zret (v := 0) hx hb hr rfl (fun t ht hW => ⟨⟨_, 0, rfl, ⟨⟨Or.inl rfl, (by decide)⟩, (by decide)⟩, ⟨iM_at, iM_end, iM_token, iM_whole, iM_nameSize, iM_fault, iM_place, iM_failed, fM_letters, (by omega), (by omega), (by omega), (by first | assumption | (have q0 := kc_0; have q1 := kc_1; omega)), r_T, (by first | assumption | (have q0 := kc_0; have q1 := kc_1; omega)), (by first | assumption | exact (fun h9 => by have q0 := kc_0; have q1 := kc_1; omega)), (fun h9 => by have q0 := kc_0; have q1 := kc_1; omega), hG, Bw.to (hP.sub [3, 0, 4, 1, 2] rfl) (hD.sub [3, 0, 4, 1, 2] (by decide) rfl) (hK.sub [0, 3, 1, 2] rfl) ht hW⟩⟩, hS.F ht⟩) hS.2.2 dX7_begins_9
