set_option maxHeartbeats 4000000 in
set_option maxRecDepth 100000 in
theorem tX7_isSmall_p (l : Launch) (dC : Nat → ClassId) (dI : Nat → Nat → Nat) (sz : Nat) (p0 : Int32)  : Met l yX7_isSmall (Cond.code yX7_isSmall cX7_isSmall 1 (some .boolean) :: wG) ({ frames := 0, cells := 0, slots := 0, locals := 0 }) (va_Pc [.int p0] (Pw dC dI sz [] [])) (va_Qi (fun (r : Int32) (_ : Nat) => ((r = 0 ∨ r = 1) ∧ (r.toInt = 1 → 97 ≤ p0.toInt ∧ p0.toInt ≤ 122)) ∧ PX7_isSmall p0 = r) (fun (_ : Nat) (_ : State) => True) (va_A [] sz)) 0 0 (va_A [] sz) := by
  refine Met.ofW (cc := cX7_isSmall) (maxL := 1) (ret := (some .boolean)) pnX7 rfl ?_
  intro p e s m args below meth c s₁ B hml hv
  obtain ⟨rfl, hsz, hP, hK, hD0, hE⟩ := hv
  have hx := B.exec
  have hb := B.bytes
  have hr := B.returns
  have hts : ∀ w ∈ wG, w.before ([.int p0] : List Value).toArray s = true := fun w h => atoms_spec (ws := Cond.code yX7_isSmall cX7_isSmall 1 (some .boolean) :: wG) B.pre w (List.mem_cons_of_mem _ h)
  have hown : s.vm.findClass RX7 = some m.cls := own_of B.named rfl
  have hlocks := B.notSynchronized
  subst hsz
  generalize hAe : va_A [] s.heap.size = A at hE ⊢
  have hA : ∀ q : Nat, s.heap.size ≤ q → A q := fun q h => by rw [← hAe]; exact Or.inr h
  have hS : va_S A s.heap s.heap [] := va_S.rf
  have hl := lv_entry ([.int p0]) (n := 1) (Nat.le_of_ble_eq_true rfl)
  rw [lg_entry_eq]
  generalize (lg_sl ([.int p0]) ++ List.replicate (1 - (lg_sl ([.int p0])).length) Slot.unset).toArray = ls at hl ⊢
  have hl : lv_has ls 1 [(0, .int p0)] := hl
  have hG := PX7_isSmall_eq p0
  refine lv_iload_n hx hb dX7_isSmall_0 rfl (lv_at hl 0 rfl) ?_
  refine lv_bipush (v := 97) hx hb dX7_isSmall_1 (by decide) ?_
  refine lv_icmp_lt (tgt := 16) hx hb dX7_isSmall_3 (by decide) (fun c_4716 => ?_) (fun c_4716 => ?_)
  · skip
    have hG := hG.trans (if_pos c_4716)
    have gc_4716 := ti_lt c_4716 rfl kc_97
    refine lv_iconst (v := 0) hx hb dX7_isSmall_16 (by decide) ?_
    exact wq_z (v := 0) hx hb hr rfl 0 ⟨⟨Or.inl rfl, (by have q0 := kc_0; have q1 := kc_1; omega)⟩, hG⟩ (fun t ht hW => trivial) hS dX7_isSmall_17 hlocks
  · skip
    have hG := hG.trans (if_neg c_4716)
    have gc_4716 := ti_nlt c_4716 rfl kc_97
    refine lv_iload_n hx hb dX7_isSmall_6 rfl (lv_at hl 0 rfl) ?_
    refine lv_bipush (v := 122) hx hb dX7_isSmall_7 (by decide) ?_
    refine lv_icmp_gt (tgt := 16) hx hb dX7_isSmall_9 (by decide) (fun c_4717 => ?_) (fun c_4717 => ?_)
    · skip
      have hG := hG.trans (if_pos c_4717)
      have gc_4717 := ti_lt c_4717 kc_122 rfl
      refine lv_iconst (v := 0) hx hb dX7_isSmall_16 (by decide) ?_
      exact wq_z (v := 0) hx hb hr rfl 0 ⟨⟨Or.inl rfl, (by have q0 := kc_0; have q1 := kc_1; omega)⟩, hG⟩ (fun t ht hW => trivial) hS dX7_isSmall_17 hlocks
    · skip
      have hG := hG.trans (if_neg c_4717)
      have gc_4717 := ti_nlt c_4717 kc_122 rfl
      refine lv_iconst (v := 1) hx hb dX7_isSmall_12 (by decide) ?_
      refine lv_goto (tgt := 17) hx hb dX7_isSmall_13 (by decide) ?_
      exact wq_z (v := 1) hx hb hr rfl 0 ⟨⟨Or.inr rfl, (by have q0 := kc_0; have q1 := kc_1; omega)⟩, hG⟩ (fun t ht hW => trivial) hS dX7_isSmall_17 hlocks
set_option maxHeartbeats 4000000 in
set_option maxRecDepth 100000 in
theorem tX7_isDigit_p (l : Launch) (dC : Nat → ClassId) (dI : Nat → Nat → Nat) (sz : Nat) (p0 : Int32)  : Met l yX7_isDigit (Cond.code yX7_isDigit cX7_isDigit 1 (some .boolean) :: wG) ({ frames := 0, cells := 0, slots := 0, locals := 0 }) (va_Pc [.int p0] (Pw dC dI sz [] [])) (va_Qi (fun (r : Int32) (_ : Nat) => ((r = 0 ∨ r = 1) ∧ (r.toInt = 1 → 48 ≤ p0.toInt ∧ p0.toInt ≤ 57)) ∧ PX7_isDigit p0 = r) (fun (_ : Nat) (_ : State) => True) (va_A [] sz)) 0 0 (va_A [] sz) := by
  refine Met.ofW (cc := cX7_isDigit) (maxL := 1) (ret := (some .boolean)) pnX7 rfl ?_
  intro p e s m args below meth c s₁ B hml hv
  obtain ⟨rfl, hsz, hP, hK, hD0, hE⟩ := hv
  have hx := B.exec
  have hb := B.bytes
  have hr := B.returns
  have hts : ∀ w ∈ wG, w.before ([.int p0] : List Value).toArray s = true := fun w h => atoms_spec (ws := Cond.code yX7_isDigit cX7_isDigit 1 (some .boolean) :: wG) B.pre w (List.mem_cons_of_mem _ h)
  have hown : s.vm.findClass RX7 = some m.cls := own_of B.named rfl
  have hlocks := B.notSynchronized
  subst hsz
  generalize hAe : va_A [] s.heap.size = A at hE ⊢
  have hA : ∀ q : Nat, s.heap.size ≤ q → A q := fun q h => by rw [← hAe]; exact Or.inr h
  have hS : va_S A s.heap s.heap [] := va_S.rf
  have hl := lv_entry ([.int p0]) (n := 1) (Nat.le_of_ble_eq_true rfl)
  rw [lg_entry_eq]
  generalize (lg_sl ([.int p0]) ++ List.replicate (1 - (lg_sl ([.int p0])).length) Slot.unset).toArray = ls at hl ⊢
  have hl : lv_has ls 1 [(0, .int p0)] := hl
  have hG := PX7_isDigit_eq p0
  refine lv_iload_n hx hb dX7_isDigit_0 rfl (lv_at hl 0 rfl) ?_
  refine lv_bipush (v := 48) hx hb dX7_isDigit_1 (by decide) ?_
  refine lv_icmp_lt (tgt := 16) hx hb dX7_isDigit_3 (by decide) (fun c_4718 => ?_) (fun c_4718 => ?_)
  · skip
    have hG := hG.trans (if_pos c_4718)
    have gc_4718 := ti_lt c_4718 rfl kc_48
    refine lv_iconst (v := 0) hx hb dX7_isDigit_16 (by decide) ?_
    exact wq_z (v := 0) hx hb hr rfl 0 ⟨⟨Or.inl rfl, (by have q0 := kc_0; have q1 := kc_1; omega)⟩, hG⟩ (fun t ht hW => trivial) hS dX7_isDigit_17 hlocks
  · skip
    have hG := hG.trans (if_neg c_4718)
    have gc_4718 := ti_nlt c_4718 rfl kc_48
    refine lv_iload_n hx hb dX7_isDigit_6 rfl (lv_at hl 0 rfl) ?_
    refine lv_bipush (v := 57) hx hb dX7_isDigit_7 (by decide) ?_
    refine lv_icmp_gt (tgt := 16) hx hb dX7_isDigit_9 (by decide) (fun c_4719 => ?_) (fun c_4719 => ?_)
    · skip
      have hG := hG.trans (if_pos c_4719)
      have gc_4719 := ti_lt c_4719 kc_57 rfl
      refine lv_iconst (v := 0) hx hb dX7_isDigit_16 (by decide) ?_
      exact wq_z (v := 0) hx hb hr rfl 0 ⟨⟨Or.inl rfl, (by have q0 := kc_0; have q1 := kc_1; omega)⟩, hG⟩ (fun t ht hW => trivial) hS dX7_isDigit_17 hlocks
    · skip
      have hG := hG.trans (if_neg c_4719)
      have gc_4719 := ti_nlt c_4719 kc_57 rfl
      refine lv_iconst (v := 1) hx hb dX7_isDigit_12 (by decide) ?_
      refine lv_goto (tgt := 17) hx hb dX7_isDigit_13 (by decide) ?_
      exact wq_z (v := 1) hx hb hr rfl 0 ⟨⟨Or.inr rfl, (by have q0 := kc_0; have q1 := kc_1; omega)⟩, hG⟩ (fun t ht hW => trivial) hS dX7_isDigit_17 hlocks
set_option maxHeartbeats 4000000 in
set_option maxRecDepth 100000 in
theorem tX7_see_p (l : Launch) (dC : Nat → ClassId) (dI : Nat → Nat → Nat) (sz : Nat) (oM : Nat) (iM_thrown : Int32) (rM_tape : Nat) (fM_tape : Nat → Int32) (kM_tape : ClassId) (iM_taped : Int32) (iM_size : Int32) (iM_at : Int32) (iM_end : Int32) (iM_token : Int32) (iM_whole : Int32) (iM_nameSize : Int32) (iM_fault : Int32) (iM_place : Int32) (iM_trouble : Int32) (rM_letters : Nat) (iM_failed : Int32) (iM_hasCourt : Int32) (rM_r : Nat) (rM_fresh : Nat) (rM_told : Nat) (rM_read : Nat) (rM_st : Nat) (rM_undone : Nat) (rM_kept : Nat) (iM_undos : Int32) (iM_images : Int32) (rM_fresher : Nat) (iM_fresherSize : Int32) (iM_scale : Int32) (iM_night : Int32) (rM_heardRow : Nat) (rM_cutRow : Nat) (iM_breaths : Int32) (iM_cutMany : Int32) (iM_allBreaths : Int32) (rM_trial : Nat) (rM_words : Nat) (iM_fewestBreaths : Int32) (iM_orderMany : Int32) (iM_orderSum : Int32) (iM_leastOrder : Int32) (rM_often : Nat) (iM_setMany : Int32) (iM_someOf : Int32) (iM_allOf : Int32) (iM_allWeight : Int64) (iM_enoughWeight : Int64) (iM_worthSum : Int64) (iM_firstRest : Int32) (iM_leastDrawn : Int32) (p0 : Int32) (b_iM_taped : 0 ≤ iM_taped.toInt ∧ iM_taped.toInt ≤ 900) (b_iM_size : 0 ≤ iM_size.toInt ∧ iM_size.toInt ≤ 900) (b_iM_end : 0 ≤ iM_end.toInt ∧ iM_end.toInt ≤ 900) (b_iM_nameSize : 0 ≤ iM_nameSize.toInt ∧ iM_nameSize.toInt ≤ 900) (b_iM_failed : 0 ≤ iM_failed.toInt ∧ iM_failed.toInt ≤ 1) (b_iM_hasCourt : 0 ≤ iM_hasCourt.toInt ∧ iM_hasCourt.toInt ≤ 1) (b_iM_undos : 0 ≤ iM_undos.toInt ∧ iM_undos.toInt ≤ 16) (b_iM_images : 0 ≤ iM_images.toInt ∧ iM_images.toInt ≤ 3) (b_iM_scale : 1 ≤ iM_scale.toInt ∧ iM_scale.toInt ≤ 1296) (b_iM_breaths : 0 ≤ iM_breaths.toInt ∧ iM_breaths.toInt ≤ 399) (b_iM_cutMany : 0 ≤ iM_cutMany.toInt ∧ iM_cutMany.toInt ≤ 399) (hs : 0 ≤ p0.toInt) : Met l yX7_see (Cond.code yX7_see cX7_see 2 (some .int) :: wG) ({ frames := 0, cells := 0, slots := 0, locals := 0 }) (va_Pc [.ref oM, .int p0] (Pw dC dI sz [(oc7 oM iM_thrown rM_tape iM_taped iM_size iM_at iM_end iM_token iM_whole iM_nameSize iM_fault iM_place iM_trouble rM_letters iM_failed iM_hasCourt rM_r rM_fresh rM_told rM_read rM_st rM_undone rM_kept iM_undos iM_images rM_fresher iM_fresherSize iM_scale iM_night rM_heardRow rM_cutRow iM_breaths iM_cutMany iM_allBreaths rM_trial rM_words iM_fewestBreaths iM_orderMany iM_orderSum iM_leastOrder rM_often iM_setMany iM_someOf iM_allOf iM_allWeight iM_enoughWeight iM_worthSum iM_firstRest iM_leastDrawn), (arI rM_tape kM_tape 900 fM_tape)] [(kM_tape, .int)])) (va_Qi (fun (r : Int32) (_ : Nat) => (True ∧ (r.toInt ≠ -1 → p0.toInt < iM_size.toInt)) ∧ PX7_see_p fM_tape iM_size p0 = r) (fun (_ : Nat) (t : State) => Bw dC dI (va_A [(oc7 oM iM_thrown rM_tape iM_taped iM_size iM_at iM_end iM_token iM_whole iM_nameSize iM_fault iM_place iM_trouble rM_letters iM_failed iM_hasCourt rM_r rM_fresh rM_told rM_read rM_st rM_undone rM_kept iM_undos iM_images rM_fresher iM_fresherSize iM_scale iM_night rM_heardRow rM_cutRow iM_breaths iM_cutMany iM_allBreaths rM_trial rM_words iM_fewestBreaths iM_orderMany iM_orderSum iM_leastOrder rM_often iM_setMany iM_someOf iM_allOf iM_allWeight iM_enoughWeight iM_worthSum iM_firstRest iM_leastDrawn), (arI rM_tape kM_tape 900 fM_tape)] sz) [(oc7 oM iM_thrown rM_tape iM_taped iM_size iM_at iM_end iM_token iM_whole iM_nameSize iM_fault iM_place iM_trouble rM_letters iM_failed iM_hasCourt rM_r rM_fresh rM_told rM_read rM_st rM_undone rM_kept iM_undos iM_images rM_fresher iM_fresherSize iM_scale iM_night rM_heardRow rM_cutRow iM_breaths iM_cutMany iM_allBreaths rM_trial rM_words iM_fewestBreaths iM_orderMany iM_orderSum iM_leastOrder rM_often iM_setMany iM_someOf iM_allOf iM_allWeight iM_enoughWeight iM_worthSum iM_firstRest iM_leastDrawn), (arI rM_tape kM_tape 900 fM_tape)] [(kM_tape, .int)] t) (va_A [(oc7 oM iM_thrown rM_tape iM_taped iM_size iM_at iM_end iM_token iM_whole iM_nameSize iM_fault iM_place iM_trouble rM_letters iM_failed iM_hasCourt rM_r rM_fresh rM_told rM_read rM_st rM_undone rM_kept iM_undos iM_images rM_fresher iM_fresherSize iM_scale iM_night rM_heardRow rM_cutRow iM_breaths iM_cutMany iM_allBreaths rM_trial rM_words iM_fewestBreaths iM_orderMany iM_orderSum iM_leastOrder rM_often iM_setMany iM_someOf iM_allOf iM_allWeight iM_enoughWeight iM_worthSum iM_firstRest iM_leastDrawn), (arI rM_tape kM_tape 900 fM_tape)] sz)) 0 0 (va_A [(oc7 oM iM_thrown rM_tape iM_taped iM_size iM_at iM_end iM_token iM_whole iM_nameSize iM_fault iM_place iM_trouble rM_letters iM_failed iM_hasCourt rM_r rM_fresh rM_told rM_read rM_st rM_undone rM_kept iM_undos iM_images rM_fresher iM_fresherSize iM_scale iM_night rM_heardRow rM_cutRow iM_breaths iM_cutMany iM_allBreaths rM_trial rM_words iM_fewestBreaths iM_orderMany iM_orderSum iM_leastOrder rM_often iM_setMany iM_someOf iM_allOf iM_allWeight iM_enoughWeight iM_worthSum iM_firstRest iM_leastDrawn), (arI rM_tape kM_tape 900 fM_tape)] sz) := by
  refine Met.ofW (cc := cX7_see) (maxL := 2) (ret := (some .int)) pnX7 rfl ?_
  intro p e s m args below meth c s₁ B hml hv
  obtain ⟨rfl, hsz, hP, hK, hD0, hE⟩ := hv
  have hx := B.exec
  have hb := B.bytes
  have hr := B.returns
  have hts : ∀ w ∈ wG, w.before ([.ref oM, .int p0] : List Value).toArray s = true := fun w h => atoms_spec (ws := Cond.code yX7_see cX7_see 2 (some .int) :: wG) B.pre w (List.mem_cons_of_mem _ h)
  have hown : s.vm.findClass RX7 = some m.cls := own_of B.named rfl
  have hlocks := B.notSynchronized
  subst hsz
  have hD := hD0.self (sz := s.heap.size)
  generalize hAe : va_A [(oc7 oM iM_thrown rM_tape iM_taped iM_size iM_at iM_end iM_token iM_whole iM_nameSize iM_fault iM_place iM_trouble rM_letters iM_failed iM_hasCourt rM_r rM_fresh rM_told rM_read rM_st rM_undone rM_kept iM_undos iM_images rM_fresher iM_fresherSize iM_scale iM_night rM_heardRow rM_cutRow iM_breaths iM_cutMany iM_allBreaths rM_trial rM_words iM_fewestBreaths iM_orderMany iM_orderSum iM_leastOrder rM_often iM_setMany iM_someOf iM_allOf iM_allWeight iM_enoughWeight iM_worthSum iM_firstRest iM_leastDrawn), (arI rM_tape kM_tape 900 fM_tape)] s.heap.size = A at hD hE ⊢
  have hA : ∀ q : Nat, s.heap.size ≤ q → A q := fun q h => by rw [← hAe]; exact Or.inr h
  have hS : va_S A s.heap s.heap [] := va_S.rf
  have hl := lv_entry ([.ref oM, .int p0]) (n := 2) (Nat.le_of_ble_eq_true rfl)
  rw [lg_entry_eq]
  generalize (lg_sl ([.ref oM, .int p0]) ++ List.replicate (2 - (lg_sl ([.ref oM, .int p0])).length) Slot.unset).toArray = ls at hl ⊢
  have hl : lv_has ls 2 [(0, .ref oM), (1, .int p0)] := hl
  have hG := PX7_see_p_eq fM_tape iM_size p0
  refine lv_iload_n hx hb dX7_see_0 rfl (lv_at hl 1 rfl) ?_
  refine lv_aload_n hx hb dX7_see_1 rfl (lv_at hl 0 rfl) ?_
  refine va_get (D := (dC, dI)) (ci := 7) (v := .int iM_size) (C := RX7) (T := TX7) (N := 48) hx hb hts inX7 hown hK hP 0 rfl rfl 3 (by decide) (hts _ wd_381) (fun _ h9 => h9) rfl dX7_see_2 ?_
  refine lv_icmp_ge (tgt := 17) hx hb dX7_see_5 (by decide) (fun c_4722 => ?_) (fun c_4722 => ?_)
  · skip
    have hG := hG.trans (if_pos c_4722)
    have gc_4722 := ti_le c_4722 rfl rfl
    refine lv_iconst (v := (-1)) hx hb dX7_see_17 (by decide) ?_
    exact wq_i hx hb hr 0 ⟨⟨trivial, (by have q := kc_m1; first | omega | assumption)⟩, hG⟩ (fun t ht hW => Bw.to hP hD hK ht hW) hS dX7_see_18 hlocks
  · skip
    have hG := hG.trans (if_neg c_4722)
    have gc_4722 := ti_nle c_4722 rfl rfl
    refine lv_aload_n hx hb dX7_see_8 rfl (lv_at hl 0 rfl) ?_
    refine va_get (D := (dC, dI)) (ci := 7) (v := .ref rM_tape) (C := RX7) (T := TX7) (N := 48) hx hb hts inX7 hown hK hP 0 rfl rfl 1 (by decide) (hts _ wd_152) (fun _ h9 => h9) rfl dX7_see_9 ?_
    refine lv_iload_n hx hb dX7_see_12 rfl (lv_at hl 1 rfl) ?_
    refine va_iald hx hb hK hP 1 0 rfl rfl (ti_in rfl hs (om_54de693e b_iM_size.2 gc_4722)) dX7_see_13 ?_
    refine lv_topi (fun x_4723 ex_4723 => ?_)
    have hG := hG.trans (lt_eq ex_4723)
    have kx_4723 : (fM_tape p0.toNatClampNeg).toInt = x_4723.toInt := by rw [ex_4723]
    have cx_4723 := kx_4723
    refine lv_goto (tgt := 18) hx hb dX7_see_14 (by decide) ?_
    exact wq_i hx hb hr 0 ⟨⟨trivial, (by first | omega | assumption)⟩, hG⟩ (fun t ht hW => Bw.to hP hD hK ht hW) hS dX7_see_18 hlocks
set_option maxHeartbeats 4000000 in
set_option maxRecDepth 100000 in
theorem tX7_next (l : Launch) (dC : Nat → ClassId) (dI : Nat → Nat → Nat) (sz : Nat) (oM : Nat) (iM_thrown : Int32) (rM_tape : Nat) (fM_tape : Nat → Int32) (kM_tape : ClassId) (iM_taped : Int32) (iM_size : Int32) (iM_at : Int32) (iM_end : Int32) (iM_token : Int32) (iM_whole : Int32) (iM_nameSize : Int32) (iM_fault : Int32) (iM_place : Int32) (iM_trouble : Int32) (rM_letters : Nat) (fM_letters : Nat → Int32) (kM_letters : ClassId) (iM_failed : Int32) (iM_hasCourt : Int32) (rM_r : Nat) (rM_fresh : Nat) (rM_told : Nat) (rM_read : Nat) (rM_st : Nat) (rM_undone : Nat) (rM_kept : Nat) (iM_undos : Int32) (iM_images : Int32) (rM_fresher : Nat) (iM_fresherSize : Int32) (iM_scale : Int32) (iM_night : Int32) (rM_heardRow : Nat) (rM_cutRow : Nat) (iM_breaths : Int32) (iM_cutMany : Int32) (iM_allBreaths : Int32) (rM_trial : Nat) (rM_words : Nat) (iM_fewestBreaths : Int32) (iM_orderMany : Int32) (iM_orderSum : Int32) (iM_leastOrder : Int32) (rM_often : Nat) (iM_setMany : Int32) (iM_someOf : Int32) (iM_allOf : Int32) (iM_allWeight : Int64) (iM_enoughWeight : Int64) (iM_worthSum : Int64) (iM_firstRest : Int32) (iM_leastDrawn : Int32) (b_iM_taped : 0 ≤ iM_taped.toInt ∧ iM_taped.toInt ≤ 900) (b_iM_size : 0 ≤ iM_size.toInt ∧ iM_size.toInt ≤ 900) (b_iM_end : 0 ≤ iM_end.toInt ∧ iM_end.toInt ≤ 900) (b_iM_nameSize : 0 ≤ iM_nameSize.toInt ∧ iM_nameSize.toInt ≤ 900) (b_iM_failed : 0 ≤ iM_failed.toInt ∧ iM_failed.toInt ≤ 1) (b_iM_hasCourt : 0 ≤ iM_hasCourt.toInt ∧ iM_hasCourt.toInt ≤ 1) (b_iM_undos : 0 ≤ iM_undos.toInt ∧ iM_undos.toInt ≤ 16) (b_iM_images : 0 ≤ iM_images.toInt ∧ iM_images.toInt ≤ 3) (b_iM_scale : 1 ≤ iM_scale.toInt ∧ iM_scale.toInt ≤ 1296) (b_iM_breaths : 0 ≤ iM_breaths.toInt ∧ iM_breaths.toInt ≤ 399) (b_iM_cutMany : 0 ≤ iM_cutMany.toInt ∧ iM_cutMany.toInt ≤ 399) (r_T : ImpP (iM_token.toInt = 2) (iM_nameSize.toInt ≤ 8))  : Met l yX7_next (Cond.code yX7_next cX7_next 4 none :: wG) ({ frames := 1, cells := 0, slots := 0, locals := 21 }) (va_Pc [.ref oM] (Pw dC dI sz [(oc7 oM iM_thrown rM_tape iM_taped iM_size iM_at iM_end iM_token iM_whole iM_nameSize iM_fault iM_place iM_trouble rM_letters iM_failed iM_hasCourt rM_r rM_fresh rM_told rM_read rM_st rM_undone rM_kept iM_undos iM_images rM_fresher iM_fresherSize iM_scale iM_night rM_heardRow rM_cutRow iM_breaths iM_cutMany iM_allBreaths rM_trial rM_words iM_fewestBreaths iM_orderMany iM_orderSum iM_leastOrder rM_often iM_setMany iM_someOf iM_allOf iM_allWeight iM_enoughWeight iM_worthSum iM_firstRest iM_leastDrawn), (arI rM_tape kM_tape 900 fM_tape), (arI rM_letters kM_letters 8 fM_letters)] [(kM_tape, .int), (kM_letters, .int)])) (va_Qv (fun (_ : Nat) => True) (fun (_ : Nat) (t : State) => ∃ (niM_at : Int32) (niM_end : Int32) (niM_token : Int32) (niM_whole : Int32) (niM_nameSize : Int32) (nfM_letters : Nat → Int32), (0 ≤ niM_end.toInt ∧ niM_end.toInt ≤ 900) ∧ (0 ≤ niM_nameSize.toInt ∧ niM_nameSize.toInt ≤ 900) ∧ (iM_end.toInt ≤ niM_end.toInt) ∧ (ImpP (niM_token.toInt = 2) (niM_nameSize.toInt ≤ 8)) ∧ (ImpP (niM_token.toInt = 59 ) (iM_end.toInt + 1 ≤ niM_end.toInt)) ∧ (PX7_next fM_tape iM_size iM_end fM_letters = (niM_at, niM_end, niM_token, niM_whole, niM_nameSize, nfM_letters)) ∧ Bw dC dI (va_A [(oc7 oM iM_thrown rM_tape iM_taped iM_size iM_at iM_end iM_token iM_whole iM_nameSize iM_fault iM_place iM_trouble rM_letters iM_failed iM_hasCourt rM_r rM_fresh rM_told rM_read rM_st rM_undone rM_kept iM_undos iM_images rM_fresher iM_fresherSize iM_scale iM_night rM_heardRow rM_cutRow iM_breaths iM_cutMany iM_allBreaths rM_trial rM_words iM_fewestBreaths iM_orderMany iM_orderSum iM_leastOrder rM_often iM_setMany iM_someOf iM_allOf iM_allWeight iM_enoughWeight iM_worthSum iM_firstRest iM_leastDrawn), (arI rM_tape kM_tape 900 fM_tape), (arI rM_letters kM_letters 8 fM_letters)] sz) [(oc7 oM iM_thrown rM_tape iM_taped iM_size niM_at niM_end niM_token niM_whole niM_nameSize iM_fault iM_place iM_trouble rM_letters iM_failed iM_hasCourt rM_r rM_fresh rM_told rM_read rM_st rM_undone rM_kept iM_undos iM_images rM_fresher iM_fresherSize iM_scale iM_night rM_heardRow rM_cutRow iM_breaths iM_cutMany iM_allBreaths rM_trial rM_words iM_fewestBreaths iM_orderMany iM_orderSum iM_leastOrder rM_often iM_setMany iM_someOf iM_allOf iM_allWeight iM_enoughWeight iM_worthSum iM_firstRest iM_leastDrawn), (arI rM_tape kM_tape 900 fM_tape), (arI rM_letters kM_letters 8 nfM_letters)] [(kM_tape, .int), (kM_letters, .int)] t) (va_A [(oc7 oM iM_thrown rM_tape iM_taped iM_size iM_at iM_end iM_token iM_whole iM_nameSize iM_fault iM_place iM_trouble rM_letters iM_failed iM_hasCourt rM_r rM_fresh rM_told rM_read rM_st rM_undone rM_kept iM_undos iM_images rM_fresher iM_fresherSize iM_scale iM_night rM_heardRow rM_cutRow iM_breaths iM_cutMany iM_allBreaths rM_trial rM_words iM_fewestBreaths iM_orderMany iM_orderSum iM_leastOrder rM_often iM_setMany iM_someOf iM_allOf iM_allWeight iM_enoughWeight iM_worthSum iM_firstRest iM_leastDrawn), (arI rM_tape kM_tape 900 fM_tape), (arI rM_letters kM_letters 8 fM_letters)] sz)) 0 0 (va_A [(oc7 oM iM_thrown rM_tape iM_taped iM_size iM_at iM_end iM_token iM_whole iM_nameSize iM_fault iM_place iM_trouble rM_letters iM_failed iM_hasCourt rM_r rM_fresh rM_told rM_read rM_st rM_undone rM_kept iM_undos iM_images rM_fresher iM_fresherSize iM_scale iM_night rM_heardRow rM_cutRow iM_breaths iM_cutMany iM_allBreaths rM_trial rM_words iM_fewestBreaths iM_orderMany iM_orderSum iM_leastOrder rM_often iM_setMany iM_someOf iM_allOf iM_allWeight iM_enoughWeight iM_worthSum iM_firstRest iM_leastDrawn), (arI rM_tape kM_tape 900 fM_tape), (arI rM_letters kM_letters 8 fM_letters)] sz) := by
  refine Met.ofW (cc := cX7_next) (maxL := 4) (ret := none) pnX7 rfl ?_
  intro p e s m args below meth c s₁ B hml hv
  obtain ⟨rfl, hsz, hP, hK, hD0, hE⟩ := hv
  have hx := B.exec
  have hb := B.bytes
  have hr := B.returns
  have hts : ∀ w ∈ wG, w.before ([.ref oM] : List Value).toArray s = true := fun w h => atoms_spec (ws := Cond.code yX7_next cX7_next 4 none :: wG) B.pre w (List.mem_cons_of_mem _ h)
  have hown : s.vm.findClass RX7 = some m.cls := own_of B.named rfl
  have hlocks := B.notSynchronized
  subst hsz
  have hD := hD0.self (sz := s.heap.size)
  generalize hAe : va_A [(oc7 oM iM_thrown rM_tape iM_taped iM_size iM_at iM_end iM_token iM_whole iM_nameSize iM_fault iM_place iM_trouble rM_letters iM_failed iM_hasCourt rM_r rM_fresh rM_told rM_read rM_st rM_undone rM_kept iM_undos iM_images rM_fresher iM_fresherSize iM_scale iM_night rM_heardRow rM_cutRow iM_breaths iM_cutMany iM_allBreaths rM_trial rM_words iM_fewestBreaths iM_orderMany iM_orderSum iM_leastOrder rM_often iM_setMany iM_someOf iM_allOf iM_allWeight iM_enoughWeight iM_worthSum iM_firstRest iM_leastDrawn), (arI rM_tape kM_tape 900 fM_tape), (arI rM_letters kM_letters 8 fM_letters)] s.heap.size = A at hD hE ⊢
  have hA : ∀ q : Nat, s.heap.size ≤ q → A q := fun q h => by rw [← hAe]; exact Or.inr h
  have hS : va_S A s.heap s.heap [] := va_S.rf
  have hl := lv_entry ([.ref oM]) (n := 4) (Nat.le_of_ble_eq_true rfl)
  rw [lg_entry_eq]
  generalize (lg_sl ([.ref oM]) ++ List.replicate (4 - (lg_sl ([.ref oM])).length) Slot.unset).toArray = ls at hl ⊢
  have hl : lv_has ls 4 [(0, .ref oM)] := hl
  have hG := PX7_next_eq fM_tape iM_size iM_end fM_letters
  refine lv_aload_n hx hb dX7_next_0 rfl (lv_at hl 0 rfl) ?_
  refine va_get (D := (dC, dI)) (ci := 7) (v := .int iM_end) (C := RX7) (T := TX7) (N := 48) hx hb hts inX7 hown hK hP 0 rfl rfl 5 (by decide) (hts _ wd_382) (fun _ h9 => h9) rfl dX7_next_1 ?_
  refine lv_istore_n (lv' := [(1, .int iM_end), (0, .ref oM)]) hx hb dX7_next_4 rfl hl (by decide) rfl (fun ls hl => ?_)
  have hl := lv_sub hl (l' := [(1, .int iM_end), (0, .ref oM)]) [0, 1] rfl
  have key_n_4779 : ∀ (n_4779 : Nat) (z_4778 : Int32) (H : Heap) (locs : List Loc) (ls : Array Slot), (iM_end.toInt ≤ z_4778.toInt ∧ z_4778.toInt ≤ 900) → (900 - z_4778.toInt).toNat < n_4779 → (PX7_next fM_tape iM_size iM_end fM_letters = HX7_next_0 fM_tape iM_size fM_letters n_4779 z_4778) → va_P (dC, dI) vwCl [(oc7 oM iM_thrown rM_tape iM_taped iM_size iM_at iM_end iM_token iM_whole iM_nameSize iM_fault iM_place iM_trouble rM_letters iM_failed iM_hasCourt rM_r rM_fresh rM_told rM_read rM_st rM_undone rM_kept iM_undos iM_images rM_fresher iM_fresherSize iM_scale iM_night rM_heardRow rM_cutRow iM_breaths iM_cutMany iM_allBreaths rM_trial rM_words iM_fewestBreaths iM_orderMany iM_orderSum iM_leastOrder rM_often iM_setMany iM_someOf iM_allOf iM_allWeight iM_enoughWeight iM_worthSum iM_firstRest iM_leastDrawn), (arI rM_tape kM_tape 900 fM_tape), (arI rM_letters kM_letters 8 fM_letters)] H → va_D A [(oc7 oM iM_thrown rM_tape iM_taped iM_size iM_at iM_end iM_token iM_whole iM_nameSize iM_fault iM_place iM_trouble rM_letters iM_failed iM_hasCourt rM_r rM_fresh rM_told rM_read rM_st rM_undone rM_kept iM_undos iM_images rM_fresher iM_fresherSize iM_scale iM_night rM_heardRow rM_cutRow iM_breaths iM_cutMany iM_allBreaths rM_trial rM_words iM_fewestBreaths iM_orderMany iM_orderSum iM_leastOrder rM_often iM_setMany iM_someOf iM_allOf iM_allWeight iM_enoughWeight iM_worthSum iM_firstRest iM_leastDrawn), (arI rM_tape kM_tape 900 fM_tape), (arI rM_letters kM_letters 8 fM_letters)] → va_S A s.heap H locs → lv_has ls 4 [(1, .int z_4778), (0, .ref oM)] → W p l e (headSpec (Cond.code yX7_next cX7_next 4 none :: wG) ({ frames := 1, cells := 0, slots := 0, locals := 21 })).room s m ([.ref oM] : List Value).toArray below meth c H locs 0 0 (MQ below (va_Qv (fun (_ : Nat) => True) (fun (_ : Nat) (t : State) => ∃ (niM_at : Int32) (niM_end : Int32) (niM_token : Int32) (niM_whole : Int32) (niM_nameSize : Int32) (nfM_letters : Nat → Int32), (0 ≤ niM_end.toInt ∧ niM_end.toInt ≤ 900) ∧ (0 ≤ niM_nameSize.toInt ∧ niM_nameSize.toInt ≤ 900) ∧ (iM_end.toInt ≤ niM_end.toInt) ∧ (ImpP (niM_token.toInt = 2) (niM_nameSize.toInt ≤ 8)) ∧ (ImpP (niM_token.toInt = 59 ) (iM_end.toInt + 1 ≤ niM_end.toInt)) ∧ (PX7_next fM_tape iM_size iM_end fM_letters = (niM_at, niM_end, niM_token, niM_whole, niM_nameSize, nfM_letters)) ∧ Bw dC dI A [(oc7 oM iM_thrown rM_tape iM_taped iM_size niM_at niM_end niM_token niM_whole niM_nameSize iM_fault iM_place iM_trouble rM_letters iM_failed iM_hasCourt rM_r rM_fresh rM_told rM_read rM_st rM_undone rM_kept iM_undos iM_images rM_fresher iM_fresherSize iM_scale iM_night rM_heardRow rM_cutRow iM_breaths iM_cutMany iM_allBreaths rM_trial rM_words iM_fewestBreaths iM_orderMany iM_orderSum iM_leastOrder rM_often iM_setMany iM_someOf iM_allOf iM_allWeight iM_enoughWeight iM_worthSum iM_firstRest iM_leastDrawn), (arI rM_tape kM_tape 900 fM_tape), (arI rM_letters kM_letters 8 nfM_letters)] [(kM_tape, .int), (kM_letters, .int)] t) A) ([.ref oM] : List Value).toArray s 0 0 A) (F0 m 5 ls []) := by
    intro n_4779
    induction n_4779 with
    | zero => intro z_4778 H locs ls hi0_n_4779 hm; exact absurd hm (Nat.not_lt_zero _)
    | succ n_4779 ih_n_4779 =>
      intro z_4778 H locs ls hi0_n_4779 hm_n_4779 hG hP hD hS hl
      have hG := hG.trans (HX7_next_0_eq _ _ _ _ _)
      refine lv_aload_n hx hb dX7_next_5 rfl (lv_at hl 1 rfl) ?_
      refine lv_iload_n hx hb dX7_next_6 rfl (lv_at hl 0 rfl) ?_
      have hMs := ml_of hD [true, true, false] (wc := [(oc7 oM iM_thrown rM_tape iM_taped iM_size iM_at iM_end iM_token iM_whole iM_nameSize iM_fault iM_place iM_trouble rM_letters iM_failed iM_hasCourt rM_r rM_fresh rM_told rM_read rM_st rM_undone rM_kept iM_undos iM_images rM_fresher iM_fresherSize iM_scale iM_night rM_heardRow rM_cutRow iM_breaths iM_cutMany iM_allBreaths rM_trial rM_words iM_fewestBreaths iM_orderMany iM_orderSum iM_leastOrder rM_often iM_setMany iM_someOf iM_allOf iM_allWeight iM_enoughWeight iM_worthSum iM_firstRest iM_leastDrawn), (arI rM_tape kM_tape 900 fM_tape)]) rfl
      have hFc := va_freeM hD hS hA _ hMs
      refine va_calli (va_runV (As := [.int z_4778]) (rest := []) ⟨hx, hb, hml, hown, hts⟩ (tX7_see_p l dC dI _ oM iM_thrown rM_tape fM_tape kM_tape iM_taped iM_size iM_at iM_end iM_token iM_whole iM_nameSize iM_fault iM_place iM_trouble rM_letters iM_failed iM_hasCourt rM_r rM_fresh rM_told rM_read rM_st rM_undone rM_kept iM_undos iM_images rM_fresher iM_fresherSize iM_scale iM_night rM_heardRow rM_cutRow iM_breaths iM_cutMany iM_allBreaths rM_trial rM_words iM_fewestBreaths iM_orderMany iM_orderSum iM_leastOrder rM_often iM_setMany iM_someOf iM_allOf iM_allWeight iM_enoughWeight iM_worthSum iM_firstRest iM_leastDrawn z_4778 b_iM_taped b_iM_size b_iM_end b_iM_nameSize b_iM_failed b_iM_hasCourt b_iM_undos b_iM_images b_iM_scale b_iM_breaths b_iM_cutMany (om_11cc87cb b_iM_end.1 hi0_n_4779.1)) (cwV 1 hts (wd_V wd_406 wd_407 wd_408 wd_5 (wd_c wd_409)) rfl rfl rfl dv_yX7_see_1 ⟨Nat.le_of_ble_eq_true rfl, Nat.le_of_ble_eq_true rfl⟩) ⟨Pw.fb, recvX7 hK hP (q0 := 0) rfl, fun U hU hW => Pw.to (hP.ms _ hMs) (hD.ms _ hMs) (hK.ms [true, false] rfl) hE hS hFc hU hW⟩ rfl rfl hl.1 rfl (lv_room (Nat.le_of_ble_eq_true rfl)) dX7_next_7 ⟨Nat.le_of_ble_eq_true rfl, Nat.le_of_ble_eq_true rfl⟩) hS (fun q _ h => hFc q h) hFc (fun r u t H locs ht hvm hw hB hz1 hk1 hS => ?_)
      have hru9 := hw.2
      have hw := hw.1
      obtain ⟨hP, hD⟩ := Bw.goN (ws' := [(oc7 oM iM_thrown rM_tape iM_taped iM_size iM_at iM_end iM_token iM_whole iM_nameSize iM_fault iM_place iM_trouble rM_letters iM_failed iM_hasCourt rM_r rM_fresh rM_told rM_read rM_st rM_undone rM_kept iM_undos iM_images rM_fresher iM_fresherSize iM_scale iM_night rM_heardRow rM_cutRow iM_breaths iM_cutMany iM_allBreaths rM_trial rM_words iM_fewestBreaths iM_orderMany iM_orderSum iM_leastOrder rM_often iM_setMany iM_someOf iM_allOf iM_allWeight iM_enoughWeight iM_worthSum iM_firstRest iM_leastDrawn), (arI rM_tape kM_tape 900 fM_tape), (arI rM_letters kM_letters 8 fM_letters)]) hB rfl ht hP hD _ hMs hk1 hFc rfl
      clear hz1 hk1 hvm ht hB hMs
      obtain ⟨x_4780, rfl⟩ : ∃ z, z = r := ⟨_, rfl⟩
      have hG := hG.trans (lt_eq hru9.symm)
      have lx_4780 := hw.2
      refine lv_bipush (v := 32) hx hb dX7_next_10 (by decide) ?_
      refine lv_icmp_ne (tgt := 21) hx hb dX7_next_12 (by decide) (fun c_4781 => ?_) (fun c_4781 => ?_)
      · skip
        have hG := hG.trans (if_neg c_4781)
        have gc_4781 := ti_ne c_4781 rfl kc_32
        refine lv_aload_n hx hb dX7_next_21 rfl (lv_at hl 1 rfl) ?_
        refine lv_iload_n hx hb dX7_next_22 rfl (lv_at hl 0 rfl) ?_
        refine va_put (D := (dC, dI)) (ci := 7) (v := .int z_4778) (ty := .int) (C := RX7) (T := TX7) (N := 48) hx hb hts inX7 tyX7 tyX7_ok nmX7 hown hK hP hD hS 0 rfl rfl 4 (by decide) (hts _ wd_384) (fun _ h9 => h9) rfl (by decide +kernel) rfl rfl (Nat.le_of_ble_eq_true rfl) dX7_next_23 (fun H locs hP hD hS => ?_)
        obtain ⟨hP, hD⟩ := wl2 (ws' := [(oc7 oM iM_thrown rM_tape iM_taped iM_size z_4778 iM_end iM_token iM_whole iM_nameSize iM_fault iM_place iM_trouble rM_letters iM_failed iM_hasCourt rM_r rM_fresh rM_told rM_read rM_st rM_undone rM_kept iM_undos iM_images rM_fresher iM_fresherSize iM_scale iM_night rM_heardRow rM_cutRow iM_breaths iM_cutMany iM_allBreaths rM_trial rM_words iM_fewestBreaths iM_orderMany iM_orderSum iM_leastOrder rM_often iM_setMany iM_someOf iM_allOf iM_allWeight iM_enoughWeight iM_worthSum iM_firstRest iM_leastDrawn), (arI rM_tape kM_tape 900 fM_tape), (arI rM_letters kM_letters 8 fM_letters)]) hP hD rfl
        refine lv_aload_n hx hb dX7_next_26 rfl (lv_at hl 1 rfl) ?_
        refine lv_iload_n hx hb dX7_next_27 rfl (lv_at hl 0 rfl) ?_
        have hMs := ml_of hD [true, true, false] (wc := [(oc7 oM iM_thrown rM_tape iM_taped iM_size z_4778 iM_end iM_token iM_whole iM_nameSize iM_fault iM_place iM_trouble rM_letters iM_failed iM_hasCourt rM_r rM_fresh rM_told rM_read rM_st rM_undone rM_kept iM_undos iM_images rM_fresher iM_fresherSize iM_scale iM_night rM_heardRow rM_cutRow iM_breaths iM_cutMany iM_allBreaths rM_trial rM_words iM_fewestBreaths iM_orderMany iM_orderSum iM_leastOrder rM_often iM_setMany iM_someOf iM_allOf iM_allWeight iM_enoughWeight iM_worthSum iM_firstRest iM_leastDrawn), (arI rM_tape kM_tape 900 fM_tape)]) rfl
        have hFc := va_freeM hD hS hA _ hMs
        refine va_calli (va_runV (As := [.int z_4778]) (rest := []) ⟨hx, hb, hml, hown, hts⟩ (tX7_see_p l dC dI _ oM iM_thrown rM_tape fM_tape kM_tape iM_taped iM_size z_4778 iM_end iM_token iM_whole iM_nameSize iM_fault iM_place iM_trouble rM_letters iM_failed iM_hasCourt rM_r rM_fresh rM_told rM_read rM_st rM_undone rM_kept iM_undos iM_images rM_fresher iM_fresherSize iM_scale iM_night rM_heardRow rM_cutRow iM_breaths iM_cutMany iM_allBreaths rM_trial rM_words iM_fewestBreaths iM_orderMany iM_orderSum iM_leastOrder rM_often iM_setMany iM_someOf iM_allOf iM_allWeight iM_enoughWeight iM_worthSum iM_firstRest iM_leastDrawn z_4778 b_iM_taped b_iM_size b_iM_end b_iM_nameSize b_iM_failed b_iM_hasCourt b_iM_undos b_iM_images b_iM_scale b_iM_breaths b_iM_cutMany (om_11cc87cb b_iM_end.1 hi0_n_4779.1)) (cwV 1 hts (wd_V wd_406 wd_407 wd_408 wd_5 (wd_c wd_409)) rfl rfl rfl dv_yX7_see_1 ⟨Nat.le_of_ble_eq_true rfl, Nat.le_of_ble_eq_true rfl⟩) ⟨Pw.fb, recvX7 hK hP (q0 := 0) rfl, fun U hU hW => Pw.to (hP.ms _ hMs) (hD.ms _ hMs) (hK.ms [true, false] rfl) hE hS hFc hU hW⟩ rfl rfl hl.1 rfl (lv_room (Nat.le_of_ble_eq_true rfl)) dX7_next_28 ⟨Nat.le_of_ble_eq_true rfl, Nat.le_of_ble_eq_true rfl⟩) hS (fun q _ h => hFc q h) hFc (fun r u t H locs ht hvm hw hB hz1 hk1 hS => ?_)
        have hru9 := hw.2
        have hw := hw.1
        obtain ⟨hP, hD⟩ := Bw.goN (ws' := [(oc7 oM iM_thrown rM_tape iM_taped iM_size z_4778 iM_end iM_token iM_whole iM_nameSize iM_fault iM_place iM_trouble rM_letters iM_failed iM_hasCourt rM_r rM_fresh rM_told rM_read rM_st rM_undone rM_kept iM_undos iM_images rM_fresher iM_fresherSize iM_scale iM_night rM_heardRow rM_cutRow iM_breaths iM_cutMany iM_allBreaths rM_trial rM_words iM_fewestBreaths iM_orderMany iM_orderSum iM_leastOrder rM_often iM_setMany iM_someOf iM_allOf iM_allWeight iM_enoughWeight iM_worthSum iM_firstRest iM_leastDrawn), (arI rM_tape kM_tape 900 fM_tape), (arI rM_letters kM_letters 8 fM_letters)]) hB rfl ht hP hD _ hMs hk1 hFc rfl
        clear hz1 hk1 hvm ht hB hMs
        obtain ⟨x_4782, rfl⟩ : ∃ z, z = r := ⟨_, rfl⟩
        have hG := hG.trans (lt_eq hru9.symm)
        have lx_4782 := hw.2
        refine lv_istore_n (lv' := [(2, .int x_4782), (1, .int z_4778), (0, .ref oM)]) hx hb dX7_next_31 rfl hl (by decide) rfl (fun ls hl => ?_)
        refine lv_aload_n hx hb dX7_next_32 rfl (lv_at hl 2 rfl) ?_
        refine lv_iconst (v := 0) hx hb dX7_next_33 (by decide) ?_
        refine va_put (D := (dC, dI)) (ci := 7) (v := .int 0) (ty := .int) (C := RX7) (T := TX7) (N := 48) hx hb hts inX7 tyX7 tyX7_ok nmX7 hown hK hP hD hS 0 rfl rfl 8 (by decide) (hts _ wd_404) (fun _ h9 => h9) rfl (by decide +kernel) rfl rfl (Nat.le_of_ble_eq_true rfl) dX7_next_34 (fun H locs hP hD hS => ?_)
        obtain ⟨hP, hD⟩ := wl2 (ws' := [(oc7 oM iM_thrown rM_tape iM_taped iM_size z_4778 iM_end iM_token iM_whole 0 iM_fault iM_place iM_trouble rM_letters iM_failed iM_hasCourt rM_r rM_fresh rM_told rM_read rM_st rM_undone rM_kept iM_undos iM_images rM_fresher iM_fresherSize iM_scale iM_night rM_heardRow rM_cutRow iM_breaths iM_cutMany iM_allBreaths rM_trial rM_words iM_fewestBreaths iM_orderMany iM_orderSum iM_leastOrder rM_often iM_setMany iM_someOf iM_allOf iM_allWeight iM_enoughWeight iM_worthSum iM_firstRest iM_leastDrawn), (arI rM_tape kM_tape 900 fM_tape), (arI rM_letters kM_letters 8 fM_letters)]) hP hD rfl
        refine lv_aload_n hx hb dX7_next_37 rfl (lv_at hl 2 rfl) ?_
        refine lv_iconst (v := 0) hx hb dX7_next_38 (by decide) ?_
        refine va_put (D := (dC, dI)) (ci := 7) (v := .int 0) (ty := .int) (C := RX7) (T := TX7) (N := 48) hx hb hts inX7 tyX7 tyX7_ok nmX7 hown hK hP hD hS 0 rfl rfl 7 (by decide) (hts _ wd_405) (fun _ h9 => h9) rfl (by decide +kernel) rfl rfl (Nat.le_of_ble_eq_true rfl) dX7_next_39 (fun H locs hP hD hS => ?_)
        obtain ⟨hP, hD⟩ := wl2 (ws' := [(oc7 oM iM_thrown rM_tape iM_taped iM_size z_4778 iM_end iM_token 0 0 iM_fault iM_place iM_trouble rM_letters iM_failed iM_hasCourt rM_r rM_fresh rM_told rM_read rM_st rM_undone rM_kept iM_undos iM_images rM_fresher iM_fresherSize iM_scale iM_night rM_heardRow rM_cutRow iM_breaths iM_cutMany iM_allBreaths rM_trial rM_words iM_fewestBreaths iM_orderMany iM_orderSum iM_leastOrder rM_often iM_setMany iM_someOf iM_allOf iM_allWeight iM_enoughWeight iM_worthSum iM_firstRest iM_leastDrawn), (arI rM_tape kM_tape 900 fM_tape), (arI rM_letters kM_letters 8 fM_letters)]) hP hD rfl
        refine lv_iload_n hx hb dX7_next_42 rfl (lv_at hl 0 rfl) ?_
        refine lv_iconst (v := (-1)) hx hb dX7_next_43 (by decide) ?_
        refine lv_icmp_ne (tgt := 60) hx hb dX7_next_44 (by decide) (fun c_4783 => ?_) (fun c_4783 => ?_)
        · skip
          have hG := hG.trans (if_neg c_4783)
          have gc_4783 := ti_ne c_4783 rfl kc_m1
          have h_4784 : z_4778.toInt < iM_size.toInt := lx_4782 (by omega)
          clear lx_4782
          refine lv_iload_n hx hb dX7_next_60 rfl (lv_at hl 0 rfl) ?_
          have hFc : ∀ q, va_A [] _ q → A q := fun q h => hA q (Nat.le_trans hS.1 (va_nilA h))
          refine va_calli (va_runS (As := [.int x_4782]) (rest := []) ⟨hx, hb, hml, hown, hts⟩ (tX7_isSmall_p l dC dI _ x_4782 ) (va_cwS 1 hts (wd_S wd_410 wd_411 wd_5 (wd_c wd_412)) rfl rfl rfl ds_yX7_isSmall_1 ⟨Nat.le_of_ble_eq_true rfl, Nat.le_of_ble_eq_true rfl⟩) ⟨Pw.fb, fun U hU hW => Pn.to hK hE hS hA hU hW⟩ rfl rfl hl.1 rfl (lv_room (Nat.le_of_ble_eq_true rfl)) dX7_next_61 ⟨Nat.le_of_ble_eq_true rfl, Nat.le_of_ble_eq_true rfl⟩) hS (fun q _ h => hFc q h) hFc (fun r u t H locs ht hvm hw hB hz1 hk1 hS => ?_)
          obtain ⟨hP, hD, hK⟩ := Bw.same ht hvm hP hD hK hk1 hFc
          clear hz1 hk1 hvm ht hB
          have hq9 := hw.2
          have hw := hw.1
          obtain ⟨x_4785, rfl⟩ : ∃ z, z = r := ⟨_, rfl⟩
          have hq_x_4785 := hq9
          have hG := hG.trans (lt_eq hq_x_4785.symm)
          have bx_4785 := hw.1
          have dx_4785 := bz_tb bx_4785
          have lx_4785 := hw.2
          refine lv_if_eq (tgt := 143) hx hb dX7_next_64 (by decide) (fun c_4786 => ?_) (fun c_4786 => ?_)
          · skip
            have hG := hG.trans (if_pos c_4786)
            have gc_4786 := ti_eq c_4786 rfl kc_0
            clear lx_4785
            refine lv_iload_n hx hb dX7_next_143 rfl (lv_at hl 0 rfl) ?_
            have hFc : ∀ q, va_A [] _ q → A q := fun q h => hA q (Nat.le_trans hS.1 (va_nilA h))
            refine va_calli (va_runS (As := [.int x_4782]) (rest := []) ⟨hx, hb, hml, hown, hts⟩ (tX7_isDigit_p l dC dI _ x_4782 ) (va_cwS 1 hts (wd_S wd_413 wd_414 wd_5 (wd_c wd_415)) rfl rfl rfl ds_yX7_isDigit_1 ⟨Nat.le_of_ble_eq_true rfl, Nat.le_of_ble_eq_true rfl⟩) ⟨Pw.fb, fun U hU hW => Pn.to hK hE hS hA hU hW⟩ rfl rfl hl.1 rfl (lv_room (Nat.le_of_ble_eq_true rfl)) dX7_next_144 ⟨Nat.le_of_ble_eq_true rfl, Nat.le_of_ble_eq_true rfl⟩) hS (fun q _ h => hFc q h) hFc (fun r u t H locs ht hvm hw hB hz1 hk1 hS => ?_)
            obtain ⟨hP, hD, hK⟩ := Bw.same ht hvm hP hD hK hk1 hFc
            clear hz1 hk1 hvm ht hB
            have hq9 := hw.2
            have hw := hw.1
            obtain ⟨x_4787, rfl⟩ : ∃ z, z = r := ⟨_, rfl⟩
            have hq_x_4787 := hq9
            have hG := hG.trans (lt_eq hq_x_4787.symm)
            have bx_4787 := hw.1
            have dx_4787 := bz_tb bx_4787
            have lx_4787 := hw.2
            refine lv_if_eq (tgt := 219) hx hb dX7_next_147 (by decide) (fun c_4788 => ?_) (fun c_4788 => ?_)
            · skip
              have hG := hG.trans (if_pos c_4788)
              have gc_4788 := ti_eq c_4788 rfl kc_0
              clear lx_4787
              refine lv_aload_n hx hb dX7_next_219 rfl (lv_at hl 2 rfl) ?_
              refine lv_iload_n hx hb dX7_next_220 rfl (lv_at hl 1 rfl) ?_
              refine lv_iconst (v := 1) hx hb dX7_next_221 (by decide) ?_
              refine lv_iadd hx hb dX7_next_222 ?_
              refine lv_topi (fun x_4789 ex_4789 => ?_)
              have hG := hG.trans (lt_eq ex_4789)
              have vx_4789 : x_4789.toInt = z_4778.toInt + 1 := ti_add ex_4789 rfl kc_1 (om_f24caf23 b_iM_end.1 hi0_n_4779.1) (om_a4907767 hi0_n_4779.2)
              refine va_put (D := (dC, dI)) (ci := 7) (v := .int x_4789) (ty := .int) (C := RX7) (T := TX7) (N := 48) hx hb hts inX7 tyX7 tyX7_ok nmX7 hown hK hP hD hS 0 rfl rfl 5 (by decide) (hts _ wd_382) (fun _ h9 => h9) rfl (by decide +kernel) rfl rfl (Nat.le_of_ble_eq_true rfl) dX7_next_223 (fun H locs hP hD hS => ?_)
              obtain ⟨hP, hD⟩ := wl2 (ws' := [(oc7 oM iM_thrown rM_tape iM_taped iM_size z_4778 x_4789 iM_token 0 0 iM_fault iM_place iM_trouble rM_letters iM_failed iM_hasCourt rM_r rM_fresh rM_told rM_read rM_st rM_undone rM_kept iM_undos iM_images rM_fresher iM_fresherSize iM_scale iM_night rM_heardRow rM_cutRow iM_breaths iM_cutMany iM_allBreaths rM_trial rM_words iM_fewestBreaths iM_orderMany iM_orderSum iM_leastOrder rM_often iM_setMany iM_someOf iM_allOf iM_allWeight iM_enoughWeight iM_worthSum iM_firstRest iM_leastDrawn), (arI rM_tape kM_tape 900 fM_tape), (arI rM_letters kM_letters 8 fM_letters)]) hP hD rfl
              refine lv_aload_n hx hb dX7_next_226 rfl (lv_at hl 2 rfl) ?_
              refine lv_iload_n hx hb dX7_next_227 rfl (lv_at hl 0 rfl) ?_
              refine lv_bipush (v := 59) hx hb dX7_next_228 (by decide) ?_
              refine lv_icmp_eq (tgt := 239) hx hb dX7_next_230 (by decide) (fun c_4790 => ?_) (fun c_4790 => ?_)
              · skip
                have hG := hG.trans (if_pos c_4790)
                have gc_4790 := ti_eq c_4790 rfl kc_59
                refine lv_iload_n hx hb dX7_next_239 rfl (lv_at hl 0 rfl) ?_
                refine lv_goto (tgt := 244) hx hb dX7_next_240 (by decide) ?_
                refine va_put (D := (dC, dI)) (ci := 7) (v := .int x_4782) (ty := .int) (C := RX7) (T := TX7) (N := 48) hx hb hts inX7 tyX7 tyX7_ok nmX7 hown hK hP hD hS 0 rfl rfl 6 (by decide) (hts _ wd_383) (fun _ h9 => h9) rfl (by decide +kernel) rfl rfl (Nat.le_of_ble_eq_true rfl) dX7_next_244 (fun H locs hP hD hS => ?_)
                obtain ⟨hP, hD⟩ := wl2 (ws' := [(oc7 oM iM_thrown rM_tape iM_taped iM_size z_4778 x_4789 x_4782 0 0 iM_fault iM_place iM_trouble rM_letters iM_failed iM_hasCourt rM_r rM_fresh rM_told rM_read rM_st rM_undone rM_kept iM_undos iM_images rM_fresher iM_fresherSize iM_scale iM_night rM_heardRow rM_cutRow iM_breaths iM_cutMany iM_allBreaths rM_trial rM_words iM_fewestBreaths iM_orderMany iM_orderSum iM_leastOrder rM_often iM_setMany iM_someOf iM_allOf iM_allWeight iM_enoughWeight iM_worthSum iM_firstRest iM_leastDrawn), (arI rM_tape kM_tape 900 fM_tape), (arI rM_letters kM_letters 8 fM_letters)]) hP hD rfl
                exact wq_v hx hb hr 0 trivial (fun t ht hW => ⟨z_4778, x_4789, x_4782, 0, 0, fM_letters, ⟨(om_38d8cad5 b_iM_end.1 hi0_n_4779.1 vx_4789), (om_56f574e0 b_iM_size.2 h_4784 vx_4789)⟩, (by decide), (om_dd50ccc5 hi0_n_4779.1 vx_4789), (fun h9 => (om_f04fb0e3 kc_0)), (fun h9 => (om_fc5b453a hi0_n_4779.1 vx_4789)), hG, Bw.to hP hD hK ht hW⟩) hS dX7_next_247 hlocks
              · skip
                have hG := hG.trans (if_neg c_4790)
                have gc_4790 := ti_ne c_4790 rfl kc_59
                refine lv_iload_n hx hb dX7_next_233 rfl (lv_at hl 0 rfl) ?_
                refine lv_bipush (v := 44) hx hb dX7_next_234 (by decide) ?_
                refine lv_icmp_ne (tgt := 243) hx hb dX7_next_236 (by decide) (fun c_4791 => ?_) (fun c_4791 => ?_)
                · skip
                  have hG := hG.trans (if_neg c_4791)
                  have gc_4791 := ti_ne c_4791 rfl kc_44
                  refine lv_iconst (v := 1) hx hb dX7_next_243 (by decide) ?_
                  refine va_put (D := (dC, dI)) (ci := 7) (v := .int 1) (ty := .int) (C := RX7) (T := TX7) (N := 48) hx hb hts inX7 tyX7 tyX7_ok nmX7 hown hK hP hD hS 0 rfl rfl 6 (by decide) (hts _ wd_383) (fun _ h9 => h9) rfl (by decide +kernel) rfl rfl (Nat.le_of_ble_eq_true rfl) dX7_next_244 (fun H locs hP hD hS => ?_)
                  obtain ⟨hP, hD⟩ := wl2 (ws' := [(oc7 oM iM_thrown rM_tape iM_taped iM_size z_4778 x_4789 1 0 0 iM_fault iM_place iM_trouble rM_letters iM_failed iM_hasCourt rM_r rM_fresh rM_told rM_read rM_st rM_undone rM_kept iM_undos iM_images rM_fresher iM_fresherSize iM_scale iM_night rM_heardRow rM_cutRow iM_breaths iM_cutMany iM_allBreaths rM_trial rM_words iM_fewestBreaths iM_orderMany iM_orderSum iM_leastOrder rM_often iM_setMany iM_someOf iM_allOf iM_allWeight iM_enoughWeight iM_worthSum iM_firstRest iM_leastDrawn), (arI rM_tape kM_tape 900 fM_tape), (arI rM_letters kM_letters 8 fM_letters)]) hP hD rfl
                  exact wq_v hx hb hr 0 trivial (fun t ht hW => ⟨z_4778, x_4789, 1, 0, 0, fM_letters, ⟨(om_38d8cad5 b_iM_end.1 hi0_n_4779.1 vx_4789), (om_56f574e0 b_iM_size.2 h_4784 vx_4789)⟩, (by decide), (om_dd50ccc5 hi0_n_4779.1 vx_4789), (fun h9 => (om_f04fb0e3 kc_0)), (fun h9 => (om_fc5b453a hi0_n_4779.1 vx_4789)), hG, Bw.to hP hD hK ht hW⟩) hS dX7_next_247 hlocks
                · skip
                  have hG := hG.trans (if_pos c_4791)
                  have gc_4791 := ti_eq c_4791 rfl kc_44
                  refine lv_iload_n hx hb dX7_next_239 rfl (lv_at hl 0 rfl) ?_
                  refine lv_goto (tgt := 244) hx hb dX7_next_240 (by decide) ?_
                  refine va_put (D := (dC, dI)) (ci := 7) (v := .int x_4782) (ty := .int) (C := RX7) (T := TX7) (N := 48) hx hb hts inX7 tyX7 tyX7_ok nmX7 hown hK hP hD hS 0 rfl rfl 6 (by decide) (hts _ wd_383) (fun _ h9 => h9) rfl (by decide +kernel) rfl rfl (Nat.le_of_ble_eq_true rfl) dX7_next_244 (fun H locs hP hD hS => ?_)
                  obtain ⟨hP, hD⟩ := wl2 (ws' := [(oc7 oM iM_thrown rM_tape iM_taped iM_size z_4778 x_4789 x_4782 0 0 iM_fault iM_place iM_trouble rM_letters iM_failed iM_hasCourt rM_r rM_fresh rM_told rM_read rM_st rM_undone rM_kept iM_undos iM_images rM_fresher iM_fresherSize iM_scale iM_night rM_heardRow rM_cutRow iM_breaths iM_cutMany iM_allBreaths rM_trial rM_words iM_fewestBreaths iM_orderMany iM_orderSum iM_leastOrder rM_often iM_setMany iM_someOf iM_allOf iM_allWeight iM_enoughWeight iM_worthSum iM_firstRest iM_leastDrawn), (arI rM_tape kM_tape 900 fM_tape), (arI rM_letters kM_letters 8 fM_letters)]) hP hD rfl
                  exact wq_v hx hb hr 0 trivial (fun t ht hW => ⟨z_4778, x_4789, x_4782, 0, 0, fM_letters, ⟨(om_38d8cad5 b_iM_end.1 hi0_n_4779.1 vx_4789), (om_56f574e0 b_iM_size.2 h_4784 vx_4789)⟩, (by decide), (om_dd50ccc5 hi0_n_4779.1 vx_4789), (fun h9 => (om_f04fb0e3 kc_0)), (fun h9 => (om_fc5b453a hi0_n_4779.1 vx_4789)), hG, Bw.to hP hD hK ht hW⟩) hS dX7_next_247 hlocks
            · skip
              have hG := hG.trans (if_neg c_4788)
              have gc_4788 := ti_ne c_4788 rfl kc_0
              replace gc_4788 : (-1) * x_4787.toInt + 1 ≤ 0 := om_e3003f79 gc_4788 dx_4787.1
              have h_4792 := lx_4787 (by omega)
              clear lx_4787
              refine lv_iconst (v := 0) hx hb dX7_next_150 (by decide) ?_
              refine lv_istore_n (lv' := [(3, .int 0), (2, .int x_4782), (1, .int z_4778), (0, .ref oM)]) hx hb dX7_next_151 rfl hl (by decide) rfl (fun ls hl => ?_)
              have hl := lv_sub hl (l' := [(3, .int 0), (2, .int x_4782), (1, .int z_4778), (0, .ref oM)]) [0, 1, 2, 3] rfl
              have key_n_4796 : ∀ (n_4796 : Nat) (z_4793 : Int32) (z_4794 : Int32) (z_4795 : Int32) (H : Heap) (locs : List Loc) (ls : Array Slot), (iM_end.toInt ≤ z_4793.toInt ∧ z_4793.toInt ≤ 900) → (0 ≤ z_4794.toInt ∧ z_4794.toInt ≤ z_4793.toInt) → (900 - z_4793.toInt).toNat < n_4796 → (PX7_next fM_tape iM_size iM_end fM_letters = HX7_next_1 fM_tape iM_size fM_letters z_4778 n_4796 z_4793 z_4794 z_4795) → va_P (dC, dI) vwCl [(oc7 oM iM_thrown rM_tape iM_taped iM_size z_4778 iM_end iM_token z_4795 0 iM_fault iM_place iM_trouble rM_letters iM_failed iM_hasCourt rM_r rM_fresh rM_told rM_read rM_st rM_undone rM_kept iM_undos iM_images rM_fresher iM_fresherSize iM_scale iM_night rM_heardRow rM_cutRow iM_breaths iM_cutMany iM_allBreaths rM_trial rM_words iM_fewestBreaths iM_orderMany iM_orderSum iM_leastOrder rM_often iM_setMany iM_someOf iM_allOf iM_allWeight iM_enoughWeight iM_worthSum iM_firstRest iM_leastDrawn), (arI rM_tape kM_tape 900 fM_tape), (arI rM_letters kM_letters 8 fM_letters)] H → va_D A [(oc7 oM iM_thrown rM_tape iM_taped iM_size z_4778 iM_end iM_token z_4795 0 iM_fault iM_place iM_trouble rM_letters iM_failed iM_hasCourt rM_r rM_fresh rM_told rM_read rM_st rM_undone rM_kept iM_undos iM_images rM_fresher iM_fresherSize iM_scale iM_night rM_heardRow rM_cutRow iM_breaths iM_cutMany iM_allBreaths rM_trial rM_words iM_fewestBreaths iM_orderMany iM_orderSum iM_leastOrder rM_often iM_setMany iM_someOf iM_allOf iM_allWeight iM_enoughWeight iM_worthSum iM_firstRest iM_leastDrawn), (arI rM_tape kM_tape 900 fM_tape), (arI rM_letters kM_letters 8 fM_letters)] → va_S A s.heap H locs → lv_has ls 4 [(3, .int z_4794), (2, .int x_4782), (1, .int z_4793), (0, .ref oM)] → W p l e (headSpec (Cond.code yX7_next cX7_next 4 none :: wG) ({ frames := 1, cells := 0, slots := 0, locals := 21 })).room s m ([.ref oM] : List Value).toArray below meth c H locs 0 0 (MQ below (va_Qv (fun (_ : Nat) => True) (fun (_ : Nat) (t : State) => ∃ (niM_at : Int32) (niM_end : Int32) (niM_token : Int32) (niM_whole : Int32) (niM_nameSize : Int32) (nfM_letters : Nat → Int32), (0 ≤ niM_end.toInt ∧ niM_end.toInt ≤ 900) ∧ (0 ≤ niM_nameSize.toInt ∧ niM_nameSize.toInt ≤ 900) ∧ (iM_end.toInt ≤ niM_end.toInt) ∧ (ImpP (niM_token.toInt = 2) (niM_nameSize.toInt ≤ 8)) ∧ (ImpP (niM_token.toInt = 59 ) (iM_end.toInt + 1 ≤ niM_end.toInt)) ∧ (PX7_next fM_tape iM_size iM_end fM_letters = (niM_at, niM_end, niM_token, niM_whole, niM_nameSize, nfM_letters)) ∧ Bw dC dI A [(oc7 oM iM_thrown rM_tape iM_taped iM_size niM_at niM_end niM_token niM_whole niM_nameSize iM_fault iM_place iM_trouble rM_letters iM_failed iM_hasCourt rM_r rM_fresh rM_told rM_read rM_st rM_undone rM_kept iM_undos iM_images rM_fresher iM_fresherSize iM_scale iM_night rM_heardRow rM_cutRow iM_breaths iM_cutMany iM_allBreaths rM_trial rM_words iM_fewestBreaths iM_orderMany iM_orderSum iM_leastOrder rM_often iM_setMany iM_someOf iM_allOf iM_allWeight iM_enoughWeight iM_worthSum iM_firstRest iM_leastDrawn), (arI rM_tape kM_tape 900 fM_tape), (arI rM_letters kM_letters 8 nfM_letters)] [(kM_tape, .int), (kM_letters, .int)] t) A) ([.ref oM] : List Value).toArray s 0 0 A) (F0 m 152 ls []) := by
                intro n_4796
                induction n_4796 with
                | zero => intro z_4793 z_4794 z_4795 H locs ls hi0_n_4796 hi1_n_4796 hm; exact absurd hm (Nat.not_lt_zero _)
                | succ n_4796 ih_n_4796 =>
                  intro z_4793 z_4794 z_4795 H locs ls hi0_n_4796 hi1_n_4796 hm_n_4796 hG hP hD hS hl
                  have hG := hG.trans (HX7_next_1_eq _ _ _ _ _ _ _ _)
                  refine lv_aload_n hx hb dX7_next_152 rfl (lv_at hl 3 rfl) ?_
                  refine lv_iload_n hx hb dX7_next_153 rfl (lv_at hl 2 rfl) ?_
                  have hMs := ml_of hD [true, true, false] (wc := [(oc7 oM iM_thrown rM_tape iM_taped iM_size z_4778 iM_end iM_token z_4795 0 iM_fault iM_place iM_trouble rM_letters iM_failed iM_hasCourt rM_r rM_fresh rM_told rM_read rM_st rM_undone rM_kept iM_undos iM_images rM_fresher iM_fresherSize iM_scale iM_night rM_heardRow rM_cutRow iM_breaths iM_cutMany iM_allBreaths rM_trial rM_words iM_fewestBreaths iM_orderMany iM_orderSum iM_leastOrder rM_often iM_setMany iM_someOf iM_allOf iM_allWeight iM_enoughWeight iM_worthSum iM_firstRest iM_leastDrawn), (arI rM_tape kM_tape 900 fM_tape)]) rfl
                  have hFc := va_freeM hD hS hA _ hMs
                  refine va_calli (va_runV (As := [.int z_4793]) (rest := []) ⟨hx, hb, hml, hown, hts⟩ (tX7_see_p l dC dI _ oM iM_thrown rM_tape fM_tape kM_tape iM_taped iM_size z_4778 iM_end iM_token z_4795 0 iM_fault iM_place iM_trouble rM_letters iM_failed iM_hasCourt rM_r rM_fresh rM_told rM_read rM_st rM_undone rM_kept iM_undos iM_images rM_fresher iM_fresherSize iM_scale iM_night rM_heardRow rM_cutRow iM_breaths iM_cutMany iM_allBreaths rM_trial rM_words iM_fewestBreaths iM_orderMany iM_orderSum iM_leastOrder rM_often iM_setMany iM_someOf iM_allOf iM_allWeight iM_enoughWeight iM_worthSum iM_firstRest iM_leastDrawn z_4793 b_iM_taped b_iM_size b_iM_end (by first | decide | omega) b_iM_failed b_iM_hasCourt b_iM_undos b_iM_images b_iM_scale b_iM_breaths b_iM_cutMany (om_11cc87cb b_iM_end.1 hi0_n_4796.1)) (cwV 1 hts (wd_V wd_406 wd_407 wd_408 wd_5 (wd_c wd_409)) rfl rfl rfl dv_yX7_see_1 ⟨Nat.le_of_ble_eq_true rfl, Nat.le_of_ble_eq_true rfl⟩) ⟨Pw.fb, recvX7 hK hP (q0 := 0) rfl, fun U hU hW => Pw.to (hP.ms _ hMs) (hD.ms _ hMs) (hK.ms [true, false] rfl) hE hS hFc hU hW⟩ rfl rfl hl.1 rfl (lv_room (Nat.le_of_ble_eq_true rfl)) dX7_next_154 ⟨Nat.le_of_ble_eq_true rfl, Nat.le_of_ble_eq_true rfl⟩) hS (fun q _ h => hFc q h) hFc (fun r u t H locs ht hvm hw hB hz1 hk1 hS => ?_)
                  have hru9 := hw.2
                  have hw := hw.1
                  obtain ⟨hP, hD⟩ := Bw.goN (ws' := [(oc7 oM iM_thrown rM_tape iM_taped iM_size z_4778 iM_end iM_token z_4795 0 iM_fault iM_place iM_trouble rM_letters iM_failed iM_hasCourt rM_r rM_fresh rM_told rM_read rM_st rM_undone rM_kept iM_undos iM_images rM_fresher iM_fresherSize iM_scale iM_night rM_heardRow rM_cutRow iM_breaths iM_cutMany iM_allBreaths rM_trial rM_words iM_fewestBreaths iM_orderMany iM_orderSum iM_leastOrder rM_often iM_setMany iM_someOf iM_allOf iM_allWeight iM_enoughWeight iM_worthSum iM_firstRest iM_leastDrawn), (arI rM_tape kM_tape 900 fM_tape), (arI rM_letters kM_letters 8 fM_letters)]) hB rfl ht hP hD _ hMs hk1 hFc rfl
                  clear hz1 hk1 hvm ht hB hMs
                  obtain ⟨x_4797, rfl⟩ : ∃ z, z = r := ⟨_, rfl⟩
                  have hG := hG.trans (lt_eq hru9.symm)
                  have lx_4797 := hw.2
                  have hFc : ∀ q, va_A [] _ q → A q := fun q h => hA q (Nat.le_trans hS.1 (va_nilA h))
                  refine va_calli (va_runS (As := [.int x_4797]) (rest := []) ⟨hx, hb, hml, hown, hts⟩ (tX7_isDigit_p l dC dI _ x_4797 ) (va_cwS 1 hts (wd_S wd_413 wd_414 wd_5 (wd_c wd_415)) rfl rfl rfl ds_yX7_isDigit_1 ⟨Nat.le_of_ble_eq_true rfl, Nat.le_of_ble_eq_true rfl⟩) ⟨Pw.fb, fun U hU hW => Pn.to hK hE hS hA hU hW⟩ rfl rfl hl.1 rfl (lv_room (Nat.le_of_ble_eq_true rfl)) dX7_next_157 ⟨Nat.le_of_ble_eq_true rfl, Nat.le_of_ble_eq_true rfl⟩) hS (fun q _ h => hFc q h) hFc (fun r u t H locs ht hvm hw hB hz1 hk1 hS => ?_)
                  obtain ⟨hP, hD, hK⟩ := Bw.same ht hvm hP hD hK hk1 hFc
                  clear hz1 hk1 hvm ht hB
                  have hq9 := hw.2
                  have hw := hw.1
                  obtain ⟨x_4798, rfl⟩ : ∃ z, z = r := ⟨_, rfl⟩
                  have hq_x_4798 := hq9
                  have hG := hG.trans (lt_eq hq_x_4798.symm)
                  have bx_4798 := hw.1
                  have dx_4798 := bz_tb bx_4798
                  have lx_4798 := hw.2
                  refine lv_if_eq (tgt := 197) hx hb dX7_next_160 (by decide) (fun c_4799 => ?_) (fun c_4799 => ?_)
                  · skip
                    have hG := hG.trans (if_pos c_4799)
                    have gc_4799 := ti_eq c_4799 rfl kc_0
                    clear lx_4798
                    refine lv_aload_n hx hb dX7_next_197 rfl (lv_at hl 3 rfl) ?_
                    refine lv_iload_n hx hb dX7_next_198 rfl (lv_at hl 2 rfl) ?_
                    refine va_put (D := (dC, dI)) (ci := 7) (v := .int z_4793) (ty := .int) (C := RX7) (T := TX7) (N := 48) hx hb hts inX7 tyX7 tyX7_ok nmX7 hown hK hP hD hS 0 rfl rfl 5 (by decide) (hts _ wd_382) (fun _ h9 => h9) rfl (by decide +kernel) rfl rfl (Nat.le_of_ble_eq_true rfl) dX7_next_199 (fun H locs hP hD hS => ?_)
                    obtain ⟨hP, hD⟩ := wl2 (ws' := [(oc7 oM iM_thrown rM_tape iM_taped iM_size z_4778 z_4793 iM_token z_4795 0 iM_fault iM_place iM_trouble rM_letters iM_failed iM_hasCourt rM_r rM_fresh rM_told rM_read rM_st rM_undone rM_kept iM_undos iM_images rM_fresher iM_fresherSize iM_scale iM_night rM_heardRow rM_cutRow iM_breaths iM_cutMany iM_allBreaths rM_trial rM_words iM_fewestBreaths iM_orderMany iM_orderSum iM_leastOrder rM_often iM_setMany iM_someOf iM_allOf iM_allWeight iM_enoughWeight iM_worthSum iM_firstRest iM_leastDrawn), (arI rM_tape kM_tape 900 fM_tape), (arI rM_letters kM_letters 8 fM_letters)]) hP hD rfl
                    refine lv_aload_n hx hb dX7_next_202 rfl (lv_at hl 3 rfl) ?_
                    refine lv_iload_n hx hb dX7_next_203 rfl (lv_at hl 0 rfl) ?_
                    refine lv_iconst (v := 3) hx hb dX7_next_204 (by decide) ?_
                    refine lv_icmp_le (tgt := 212) hx hb dX7_next_205 (by decide) (fun c_4800 => ?_) (fun c_4800 => ?_)
                    · skip
                      have hG := hG.trans (if_pos c_4800)
                      have gc_4800 := ti_le c_4800 rfl kc_3
                      refine lv_iconst (v := 3) hx hb dX7_next_212 (by decide) ?_
                      refine va_put (D := (dC, dI)) (ci := 7) (v := .int 3) (ty := .int) (C := RX7) (T := TX7) (N := 48) hx hb hts inX7 tyX7 tyX7_ok nmX7 hown hK hP hD hS 0 rfl rfl 6 (by decide) (hts _ wd_383) (fun _ h9 => h9) rfl (by decide +kernel) rfl rfl (Nat.le_of_ble_eq_true rfl) dX7_next_213 (fun H locs hP hD hS => ?_)
                      obtain ⟨hP, hD⟩ := wl2 (ws' := [(oc7 oM iM_thrown rM_tape iM_taped iM_size z_4778 z_4793 3 z_4795 0 iM_fault iM_place iM_trouble rM_letters iM_failed iM_hasCourt rM_r rM_fresh rM_told rM_read rM_st rM_undone rM_kept iM_undos iM_images rM_fresher iM_fresherSize iM_scale iM_night rM_heardRow rM_cutRow iM_breaths iM_cutMany iM_allBreaths rM_trial rM_words iM_fewestBreaths iM_orderMany iM_orderSum iM_leastOrder rM_often iM_setMany iM_someOf iM_allOf iM_allWeight iM_enoughWeight iM_worthSum iM_firstRest iM_leastDrawn), (arI rM_tape kM_tape 900 fM_tape), (arI rM_letters kM_letters 8 fM_letters)]) hP hD rfl
                      refine lv_goto (tgt := 247) hx hb dX7_next_216 (by decide) ?_
                      exact wq_v hx hb hr 0 trivial (fun t ht hW => ⟨z_4778, z_4793, 3, z_4795, 0, fM_letters, ⟨(om_11cc87cb b_iM_end.1 hi0_n_4796.1), hi0_n_4796.2⟩, (by decide), hi0_n_4796.1, (fun h9 => (om_f04fb0e3 kc_0)), (fun h9 => False.elim (om_cc317096 h9 kc_3)), hG, Bw.to hP hD hK ht hW⟩) hS dX7_next_247 hlocks
                    · skip
                      have hG := hG.trans (if_neg c_4800)
                      have gc_4800 := ti_nle c_4800 rfl kc_3
                      refine lv_iconst (v := 1) hx hb dX7_next_208 (by decide) ?_
                      refine lv_goto (tgt := 213) hx hb dX7_next_209 (by decide) ?_
                      refine va_put (D := (dC, dI)) (ci := 7) (v := .int 1) (ty := .int) (C := RX7) (T := TX7) (N := 48) hx hb hts inX7 tyX7 tyX7_ok nmX7 hown hK hP hD hS 0 rfl rfl 6 (by decide) (hts _ wd_383) (fun _ h9 => h9) rfl (by decide +kernel) rfl rfl (Nat.le_of_ble_eq_true rfl) dX7_next_213 (fun H locs hP hD hS => ?_)
                      obtain ⟨hP, hD⟩ := wl2 (ws' := [(oc7 oM iM_thrown rM_tape iM_taped iM_size z_4778 z_4793 1 z_4795 0 iM_fault iM_place iM_trouble rM_letters iM_failed iM_hasCourt rM_r rM_fresh rM_told rM_read rM_st rM_undone rM_kept iM_undos iM_images rM_fresher iM_fresherSize iM_scale iM_night rM_heardRow rM_cutRow iM_breaths iM_cutMany iM_allBreaths rM_trial rM_words iM_fewestBreaths iM_orderMany iM_orderSum iM_leastOrder rM_often iM_setMany iM_someOf iM_allOf iM_allWeight iM_enoughWeight iM_worthSum iM_firstRest iM_leastDrawn), (arI rM_tape kM_tape 900 fM_tape), (arI rM_letters kM_letters 8 fM_letters)]) hP hD rfl
                      refine lv_goto (tgt := 247) hx hb dX7_next_216 (by decide) ?_
                      exact wq_v hx hb hr 0 trivial (fun t ht hW => ⟨z_4778, z_4793, 1, z_4795, 0, fM_letters, ⟨(om_11cc87cb b_iM_end.1 hi0_n_4796.1), hi0_n_4796.2⟩, (by decide), hi0_n_4796.1, (fun h9 => (om_f04fb0e3 kc_0)), (fun h9 => False.elim (om_d38fce89 h9 kc_1)), hG, Bw.to hP hD hK ht hW⟩) hS dX7_next_247 hlocks
                  · skip
                    have hG := hG.trans (if_neg c_4799)
                    have gc_4799 := ti_ne c_4799 rfl kc_0
                    replace gc_4799 : (-1) * x_4798.toInt + 1 ≤ 0 := om_e3003f79 gc_4799 dx_4798.1
                    have h_4801 := lx_4798 (by omega)
                    clear lx_4798
                    have h_4802 : z_4793.toInt < iM_size.toInt := lx_4797 (by omega)
                    clear lx_4797
                    refine lv_iload_n hx hb dX7_next_163 rfl (lv_at hl 0 rfl) ?_
                    refine lv_iconst (v := 3) hx hb dX7_next_164 (by decide) ?_
                    refine lv_icmp_ge (tgt := 188) hx hb dX7_next_165 (by decide) (fun c_4803 => ?_) (fun c_4803 => ?_)
                    · skip
                      have hG := hG.trans (if_pos c_4803)
                      have gc_4803 := ti_le c_4803 kc_3 rfl
                      obtain ⟨x_4804, ex_4804⟩ : ∃ z : Int32, z = z_4794 + Int32.ofInt 1 := ⟨_, rfl⟩
                      have hG := hG.trans (lt_eq ex_4804)
                      have vx_4804 : x_4804.toInt = z_4794.toInt + 1 := ti_add (y := 1) ex_4804 rfl kc_1 (om_4e4fce7e hi1_n_4796.1) (om_c8677ab2 hi0_n_4796.2 hi1_n_4796.2)
                      refine lv_iinc (v := x_4804) (lv' := [(3, .int x_4804), (2, .int x_4782), (1, .int z_4793), (0, .ref oM)]) hx hb dX7_next_188 hl (k := 0) rfl ex_4804.symm (by decide) rfl (fun ls hl => ?_)
                      obtain ⟨x_4805, ex_4805⟩ : ∃ z : Int32, z = z_4793 + Int32.ofInt 1 := ⟨_, rfl⟩
                      have hG := hG.trans (lt_eq ex_4805)
                      have vx_4805 : x_4805.toInt = z_4793.toInt + 1 := ti_add (y := 1) ex_4805 rfl kc_1 (om_f24caf23 b_iM_end.1 hi0_n_4796.1) (om_a4907767 hi0_n_4796.2)
                      refine lv_iinc (v := x_4805) (lv' := [(1, .int x_4805), (3, .int x_4804), (2, .int x_4782), (0, .ref oM)]) hx hb dX7_next_191 hl (k := 2) rfl ex_4805.symm (by decide) rfl (fun ls hl => ?_)
                      refine lv_goto (tgt := 152) hx hb dX7_next_194 (by decide) ?_
                      exact ih_n_4796 x_4805 x_4804 z_4795 _ _ _  ⟨(om_dd50ccc5 hi0_n_4796.1 vx_4805), (om_56f574e0 b_iM_size.2 h_4802 vx_4805)⟩ ⟨(om_83b90de5 hi1_n_4796.1 vx_4804), (om_d1b4529d hi1_n_4796.2 vx_4804 vx_4805)⟩ (ms_lt hm_n_4796 (om_62d8943c vx_4805) (om_ad0d8b60 b_iM_size.2 h_4802)) hG hP hD hS (lv_sub hl [1, 2, 0, 3] rfl)
                    · skip
                      have hG := hG.trans (if_neg c_4803)
                      have gc_4803 := ti_nle c_4803 kc_3 rfl
                      refine lv_aload_n hx hb dX7_next_168 rfl (lv_at hl 3 rfl) ?_
                      refine lv_bipush (v := 10) hx hb dX7_next_169 (by decide) ?_
                      refine lv_aload_n hx hb dX7_next_171 rfl (lv_at hl 3 rfl) ?_
                      refine va_get (D := (dC, dI)) (ci := 7) (v := .int z_4795) (C := RX7) (T := TX7) (N := 48) hx hb hts inX7 hown hK hP 0 rfl rfl 7 (by decide) (hts _ wd_405) (fun _ h9 => h9) rfl dX7_next_172 ?_
                      refine lv_imul hx hb dX7_next_175 ?_
                      refine lv_topi (fun x_4806 ex_4806 => ?_)
                      have hG := hG.trans (lt_eq ex_4806)
                      refine lv_aload_n hx hb dX7_next_176 rfl (lv_at hl 3 rfl) ?_
                      refine lv_iload_n hx hb dX7_next_177 rfl (lv_at hl 2 rfl) ?_
                      have hMs := ml_of hD [true, true, false] (wc := [(oc7 oM iM_thrown rM_tape iM_taped iM_size z_4778 iM_end iM_token z_4795 0 iM_fault iM_place iM_trouble rM_letters iM_failed iM_hasCourt rM_r rM_fresh rM_told rM_read rM_st rM_undone rM_kept iM_undos iM_images rM_fresher iM_fresherSize iM_scale iM_night rM_heardRow rM_cutRow iM_breaths iM_cutMany iM_allBreaths rM_trial rM_words iM_fewestBreaths iM_orderMany iM_orderSum iM_leastOrder rM_often iM_setMany iM_someOf iM_allOf iM_allWeight iM_enoughWeight iM_worthSum iM_firstRest iM_leastDrawn), (arI rM_tape kM_tape 900 fM_tape)]) rfl
                      have hFc := va_freeM hD hS hA _ hMs
                      refine va_calli (va_runV (As := [.int z_4793]) (rest := [.int x_4806, .ref oM]) ⟨hx, hb, hml, hown, hts⟩ (tX7_see_p l dC dI _ oM iM_thrown rM_tape fM_tape kM_tape iM_taped iM_size z_4778 iM_end iM_token z_4795 0 iM_fault iM_place iM_trouble rM_letters iM_failed iM_hasCourt rM_r rM_fresh rM_told rM_read rM_st rM_undone rM_kept iM_undos iM_images rM_fresher iM_fresherSize iM_scale iM_night rM_heardRow rM_cutRow iM_breaths iM_cutMany iM_allBreaths rM_trial rM_words iM_fewestBreaths iM_orderMany iM_orderSum iM_leastOrder rM_often iM_setMany iM_someOf iM_allOf iM_allWeight iM_enoughWeight iM_worthSum iM_firstRest iM_leastDrawn z_4793 b_iM_taped b_iM_size b_iM_end (by first | decide | omega) b_iM_failed b_iM_hasCourt b_iM_undos b_iM_images b_iM_scale b_iM_breaths b_iM_cutMany (om_11cc87cb b_iM_end.1 hi0_n_4796.1)) (cwV 1 hts (wd_V wd_406 wd_407 wd_408 wd_5 (wd_c wd_409)) rfl rfl rfl dv_yX7_see_1 ⟨Nat.le_of_ble_eq_true rfl, Nat.le_of_ble_eq_true rfl⟩) ⟨Pw.fb, recvX7 hK hP (q0 := 0) rfl, fun U hU hW => Pw.to (hP.ms _ hMs) (hD.ms _ hMs) (hK.ms [true, false] rfl) hE hS hFc hU hW⟩ rfl rfl hl.1 rfl (lv_room (Nat.le_of_ble_eq_true rfl)) dX7_next_178 ⟨Nat.le_of_ble_eq_true rfl, Nat.le_of_ble_eq_true rfl⟩) hS (fun q _ h => hFc q h) hFc (fun r u t H locs ht hvm hw hB hz1 hk1 hS => ?_)
                      have hru9 := hw.2
                      have hw := hw.1
                      obtain ⟨hP, hD⟩ := Bw.goN (ws' := [(oc7 oM iM_thrown rM_tape iM_taped iM_size z_4778 iM_end iM_token z_4795 0 iM_fault iM_place iM_trouble rM_letters iM_failed iM_hasCourt rM_r rM_fresh rM_told rM_read rM_st rM_undone rM_kept iM_undos iM_images rM_fresher iM_fresherSize iM_scale iM_night rM_heardRow rM_cutRow iM_breaths iM_cutMany iM_allBreaths rM_trial rM_words iM_fewestBreaths iM_orderMany iM_orderSum iM_leastOrder rM_often iM_setMany iM_someOf iM_allOf iM_allWeight iM_enoughWeight iM_worthSum iM_firstRest iM_leastDrawn), (arI rM_tape kM_tape 900 fM_tape), (arI rM_letters kM_letters 8 fM_letters)]) hB rfl ht hP hD _ hMs hk1 hFc rfl
                      clear hz1 hk1 hvm ht hB hMs
                      obtain ⟨x_4807, rfl⟩ : ∃ z, z = r := ⟨_, rfl⟩
                      have hG := hG.trans (lt_eq hru9.symm)
                      have lx_4807 := hw.2
                      refine lv_iadd hx hb dX7_next_181 ?_
                      refine lv_topi (fun x_4808 ex_4808 => ?_)
                      have hG := hG.trans (lt_eq ex_4808)
                      refine lv_bipush (v := 48) hx hb dX7_next_182 (by decide) ?_
                      refine lv_isub hx hb dX7_next_184 ?_
                      refine lv_topi (fun x_4809 ex_4809 => ?_)
                      have hG := hG.trans (lt_eq ex_4809)
                      refine va_put (D := (dC, dI)) (ci := 7) (v := .int x_4809) (ty := .int) (C := RX7) (T := TX7) (N := 48) hx hb hts inX7 tyX7 tyX7_ok nmX7 hown hK hP hD hS 0 rfl rfl 7 (by decide) (hts _ wd_405) (fun _ h9 => h9) rfl (by decide +kernel) rfl rfl (Nat.le_of_ble_eq_true rfl) dX7_next_185 (fun H locs hP hD hS => ?_)
                      obtain ⟨hP, hD⟩ := wl2 (ws' := [(oc7 oM iM_thrown rM_tape iM_taped iM_size z_4778 iM_end iM_token x_4809 0 iM_fault iM_place iM_trouble rM_letters iM_failed iM_hasCourt rM_r rM_fresh rM_told rM_read rM_st rM_undone rM_kept iM_undos iM_images rM_fresher iM_fresherSize iM_scale iM_night rM_heardRow rM_cutRow iM_breaths iM_cutMany iM_allBreaths rM_trial rM_words iM_fewestBreaths iM_orderMany iM_orderSum iM_leastOrder rM_often iM_setMany iM_someOf iM_allOf iM_allWeight iM_enoughWeight iM_worthSum iM_firstRest iM_leastDrawn), (arI rM_tape kM_tape 900 fM_tape), (arI rM_letters kM_letters 8 fM_letters)]) hP hD rfl
                      obtain ⟨x_4810, ex_4810⟩ : ∃ z : Int32, z = z_4794 + Int32.ofInt 1 := ⟨_, rfl⟩
                      have hG := hG.trans (lt_eq ex_4810)
                      have vx_4810 : x_4810.toInt = z_4794.toInt + 1 := ti_add (y := 1) ex_4810 rfl kc_1 (om_4e4fce7e hi1_n_4796.1) (om_7cc0c500 gc_4803)
                      refine lv_iinc (v := x_4810) (lv' := [(3, .int x_4810), (2, .int x_4782), (1, .int z_4793), (0, .ref oM)]) hx hb dX7_next_188 hl (k := 0) rfl ex_4810.symm (by decide) rfl (fun ls hl => ?_)
                      obtain ⟨x_4811, ex_4811⟩ : ∃ z : Int32, z = z_4793 + Int32.ofInt 1 := ⟨_, rfl⟩
                      have hG := hG.trans (lt_eq ex_4811)
                      have vx_4811 : x_4811.toInt = z_4793.toInt + 1 := ti_add (y := 1) ex_4811 rfl kc_1 (om_f24caf23 b_iM_end.1 hi0_n_4796.1) (om_a4907767 hi0_n_4796.2)
                      refine lv_iinc (v := x_4811) (lv' := [(1, .int x_4811), (3, .int x_4810), (2, .int x_4782), (0, .ref oM)]) hx hb dX7_next_191 hl (k := 2) rfl ex_4811.symm (by decide) rfl (fun ls hl => ?_)
                      refine lv_goto (tgt := 152) hx hb dX7_next_194 (by decide) ?_
                      exact ih_n_4796 x_4811 x_4810 x_4809 _ _ _  ⟨(om_dd50ccc5 hi0_n_4796.1 vx_4811), (om_56f574e0 b_iM_size.2 h_4802 vx_4811)⟩ ⟨(om_83b90de5 hi1_n_4796.1 vx_4810), (om_d1b4529d hi1_n_4796.2 vx_4810 vx_4811)⟩ (ms_lt hm_n_4796 (om_62d8943c vx_4811) (om_ad0d8b60 b_iM_size.2 h_4802)) hG hP hD hS (lv_sub hl [1, 2, 0, 3] rfl)
              exact key_n_4796 (((900 - z_4778.toInt).toNat) + 1) z_4778 0 0 _ _ _  ⟨hi0_n_4779.1, hi0_n_4779.2⟩ ⟨(om_b1de7dbe kc_0), (om_bf01e563 b_iM_end.1 hi0_n_4779.1 kc_0)⟩ (Nat.lt_add_one _) hG hP hD hS hl
          · skip
            have hG := hG.trans (if_neg c_4786)
            have gc_4786 := ti_ne c_4786 rfl kc_0
            replace gc_4786 : (-1) * x_4785.toInt + 1 ≤ 0 := om_e3003f79 gc_4786 dx_4785.1
            have h_4812 := lx_4785 (by omega)
            clear lx_4785
            have hl := lv_sub hl (l' := [(2, .int x_4782), (1, .int z_4778), (0, .ref oM)]) [0, 1, 2] rfl
            have key_n_4816 : ∀ (n_4816 : Nat) (z_4813 : Int32) (z_4814 : Int32) (f_4815 : Nat → Int32) (H : Heap) (locs : List Loc) (ls : Array Slot), (0 ≤ z_4814.toInt ∧ z_4814.toInt ≤ 900) → (iM_end.toInt ≤ z_4813.toInt ∧ z_4813.toInt ≤ 900) → (0 ≤ z_4814.toInt ∧ z_4814.toInt ≤ z_4813.toInt) → (900 - z_4813.toInt).toNat < n_4816 → (PX7_next fM_tape iM_size iM_end fM_letters = HX7_next_2 fM_tape iM_size z_4778 n_4816 z_4813 z_4814 f_4815) → va_P (dC, dI) vwCl [(oc7 oM iM_thrown rM_tape iM_taped iM_size z_4778 iM_end iM_token 0 z_4814 iM_fault iM_place iM_trouble rM_letters iM_failed iM_hasCourt rM_r rM_fresh rM_told rM_read rM_st rM_undone rM_kept iM_undos iM_images rM_fresher iM_fresherSize iM_scale iM_night rM_heardRow rM_cutRow iM_breaths iM_cutMany iM_allBreaths rM_trial rM_words iM_fewestBreaths iM_orderMany iM_orderSum iM_leastOrder rM_often iM_setMany iM_someOf iM_allOf iM_allWeight iM_enoughWeight iM_worthSum iM_firstRest iM_leastDrawn), (arI rM_tape kM_tape 900 fM_tape), (arI rM_letters kM_letters 8 f_4815)] H → va_D A [(oc7 oM iM_thrown rM_tape iM_taped iM_size z_4778 iM_end iM_token 0 z_4814 iM_fault iM_place iM_trouble rM_letters iM_failed iM_hasCourt rM_r rM_fresh rM_told rM_read rM_st rM_undone rM_kept iM_undos iM_images rM_fresher iM_fresherSize iM_scale iM_night rM_heardRow rM_cutRow iM_breaths iM_cutMany iM_allBreaths rM_trial rM_words iM_fewestBreaths iM_orderMany iM_orderSum iM_leastOrder rM_often iM_setMany iM_someOf iM_allOf iM_allWeight iM_enoughWeight iM_worthSum iM_firstRest iM_leastDrawn), (arI rM_tape kM_tape 900 fM_tape), (arI rM_letters kM_letters 8 f_4815)] → va_S A s.heap H locs → lv_has ls 4 [(2, .int x_4782), (1, .int z_4813), (0, .ref oM)] → W p l e (headSpec (Cond.code yX7_next cX7_next 4 none :: wG) ({ frames := 1, cells := 0, slots := 0, locals := 21 })).room s m ([.ref oM] : List Value).toArray below meth c H locs 0 0 (MQ below (va_Qv (fun (_ : Nat) => True) (fun (_ : Nat) (t : State) => ∃ (niM_at : Int32) (niM_end : Int32) (niM_token : Int32) (niM_whole : Int32) (niM_nameSize : Int32) (nfM_letters : Nat → Int32), (0 ≤ niM_end.toInt ∧ niM_end.toInt ≤ 900) ∧ (0 ≤ niM_nameSize.toInt ∧ niM_nameSize.toInt ≤ 900) ∧ (iM_end.toInt ≤ niM_end.toInt) ∧ (ImpP (niM_token.toInt = 2) (niM_nameSize.toInt ≤ 8)) ∧ (ImpP (niM_token.toInt = 59 ) (iM_end.toInt + 1 ≤ niM_end.toInt)) ∧ (PX7_next fM_tape iM_size iM_end fM_letters = (niM_at, niM_end, niM_token, niM_whole, niM_nameSize, nfM_letters)) ∧ Bw dC dI A [(oc7 oM iM_thrown rM_tape iM_taped iM_size niM_at niM_end niM_token niM_whole niM_nameSize iM_fault iM_place iM_trouble rM_letters iM_failed iM_hasCourt rM_r rM_fresh rM_told rM_read rM_st rM_undone rM_kept iM_undos iM_images rM_fresher iM_fresherSize iM_scale iM_night rM_heardRow rM_cutRow iM_breaths iM_cutMany iM_allBreaths rM_trial rM_words iM_fewestBreaths iM_orderMany iM_orderSum iM_leastOrder rM_often iM_setMany iM_someOf iM_allOf iM_allWeight iM_enoughWeight iM_worthSum iM_firstRest iM_leastDrawn), (arI rM_tape kM_tape 900 fM_tape), (arI rM_letters kM_letters 8 nfM_letters)] [(kM_tape, .int), (kM_letters, .int)] t) A) ([.ref oM] : List Value).toArray s 0 0 A) (F0 m 67 ls []) := by
              intro n_4816
              induction n_4816 with
              | zero => intro z_4813 z_4814 f_4815 H locs ls b_z_4814 hi0_n_4816 hi1_n_4816 hm; exact absurd hm (Nat.not_lt_zero _)
              | succ n_4816 ih_n_4816 =>
                intro z_4813 z_4814 f_4815 H locs ls b_z_4814 hi0_n_4816 hi1_n_4816 hm_n_4816 hG hP hD hS hl
                have hG := hG.trans (HX7_next_2_eq _ _ _ _ _ _ _)
                refine lv_aload_n hx hb dX7_next_67 rfl (lv_at hl 2 rfl) ?_
                refine lv_iload_n hx hb dX7_next_68 rfl (lv_at hl 1 rfl) ?_
                have hMs := ml_of hD [true, true, false] (wc := [(oc7 oM iM_thrown rM_tape iM_taped iM_size z_4778 iM_end iM_token 0 z_4814 iM_fault iM_place iM_trouble rM_letters iM_failed iM_hasCourt rM_r rM_fresh rM_told rM_read rM_st rM_undone rM_kept iM_undos iM_images rM_fresher iM_fresherSize iM_scale iM_night rM_heardRow rM_cutRow iM_breaths iM_cutMany iM_allBreaths rM_trial rM_words iM_fewestBreaths iM_orderMany iM_orderSum iM_leastOrder rM_often iM_setMany iM_someOf iM_allOf iM_allWeight iM_enoughWeight iM_worthSum iM_firstRest iM_leastDrawn), (arI rM_tape kM_tape 900 fM_tape)]) rfl
                have hFc := va_freeM hD hS hA _ hMs
                refine va_calli (va_runV (As := [.int z_4813]) (rest := []) ⟨hx, hb, hml, hown, hts⟩ (tX7_see_p l dC dI _ oM iM_thrown rM_tape fM_tape kM_tape iM_taped iM_size z_4778 iM_end iM_token 0 z_4814 iM_fault iM_place iM_trouble rM_letters iM_failed iM_hasCourt rM_r rM_fresh rM_told rM_read rM_st rM_undone rM_kept iM_undos iM_images rM_fresher iM_fresherSize iM_scale iM_night rM_heardRow rM_cutRow iM_breaths iM_cutMany iM_allBreaths rM_trial rM_words iM_fewestBreaths iM_orderMany iM_orderSum iM_leastOrder rM_often iM_setMany iM_someOf iM_allOf iM_allWeight iM_enoughWeight iM_worthSum iM_firstRest iM_leastDrawn z_4813 b_iM_taped b_iM_size b_iM_end b_z_4814 b_iM_failed b_iM_hasCourt b_iM_undos b_iM_images b_iM_scale b_iM_breaths b_iM_cutMany (om_11cc87cb b_iM_end.1 hi0_n_4816.1)) (cwV 1 hts (wd_V wd_406 wd_407 wd_408 wd_5 (wd_c wd_409)) rfl rfl rfl dv_yX7_see_1 ⟨Nat.le_of_ble_eq_true rfl, Nat.le_of_ble_eq_true rfl⟩) ⟨Pw.fb, recvX7 hK hP (q0 := 0) rfl, fun U hU hW => Pw.to (hP.ms _ hMs) (hD.ms _ hMs) (hK.ms [true, false] rfl) hE hS hFc hU hW⟩ rfl rfl hl.1 rfl (lv_room (Nat.le_of_ble_eq_true rfl)) dX7_next_69 ⟨Nat.le_of_ble_eq_true rfl, Nat.le_of_ble_eq_true rfl⟩) hS (fun q _ h => hFc q h) hFc (fun r u t H locs ht hvm hw hB hz1 hk1 hS => ?_)
                have hru9 := hw.2
                have hw := hw.1
                obtain ⟨hP, hD⟩ := Bw.goN (ws' := [(oc7 oM iM_thrown rM_tape iM_taped iM_size z_4778 iM_end iM_token 0 z_4814 iM_fault iM_place iM_trouble rM_letters iM_failed iM_hasCourt rM_r rM_fresh rM_told rM_read rM_st rM_undone rM_kept iM_undos iM_images rM_fresher iM_fresherSize iM_scale iM_night rM_heardRow rM_cutRow iM_breaths iM_cutMany iM_allBreaths rM_trial rM_words iM_fewestBreaths iM_orderMany iM_orderSum iM_leastOrder rM_often iM_setMany iM_someOf iM_allOf iM_allWeight iM_enoughWeight iM_worthSum iM_firstRest iM_leastDrawn), (arI rM_tape kM_tape 900 fM_tape), (arI rM_letters kM_letters 8 f_4815)]) hB rfl ht hP hD _ hMs hk1 hFc rfl
                clear hz1 hk1 hvm ht hB hMs
                obtain ⟨x_4817, rfl⟩ : ∃ z, z = r := ⟨_, rfl⟩
                have hG := hG.trans (lt_eq hru9.symm)
                have lx_4817 := hw.2
                have hFc : ∀ q, va_A [] _ q → A q := fun q h => hA q (Nat.le_trans hS.1 (va_nilA h))
                refine va_calli (va_runS (As := [.int x_4817]) (rest := []) ⟨hx, hb, hml, hown, hts⟩ (tX7_isSmall_p l dC dI _ x_4817 ) (va_cwS 1 hts (wd_S wd_410 wd_411 wd_5 (wd_c wd_412)) rfl rfl rfl ds_yX7_isSmall_1 ⟨Nat.le_of_ble_eq_true rfl, Nat.le_of_ble_eq_true rfl⟩) ⟨Pw.fb, fun U hU hW => Pn.to hK hE hS hA hU hW⟩ rfl rfl hl.1 rfl (lv_room (Nat.le_of_ble_eq_true rfl)) dX7_next_72 ⟨Nat.le_of_ble_eq_true rfl, Nat.le_of_ble_eq_true rfl⟩) hS (fun q _ h => hFc q h) hFc (fun r u t H locs ht hvm hw hB hz1 hk1 hS => ?_)
                obtain ⟨hP, hD, hK⟩ := Bw.same ht hvm hP hD hK hk1 hFc
                clear hz1 hk1 hvm ht hB
                have hq9 := hw.2
                have hw := hw.1
                obtain ⟨x_4818, rfl⟩ : ∃ z, z = r := ⟨_, rfl⟩
                have hq_x_4818 := hq9
                have hG := hG.trans (lt_eq hq_x_4818.symm)
                have bx_4818 := hw.1
                have dx_4818 := bz_tb bx_4818
                have lx_4818 := hw.2
                refine lv_if_eq (tgt := 117) hx hb dX7_next_75 (by decide) (fun c_4819 => ?_) (fun c_4819 => ?_)
                · skip
                  have hG := hG.trans (if_pos c_4819)
                  have gc_4819 := ti_eq c_4819 rfl kc_0
                  clear lx_4818
                  refine lv_aload_n hx hb dX7_next_117 rfl (lv_at hl 2 rfl) ?_
                  refine lv_iload_n hx hb dX7_next_118 rfl (lv_at hl 1 rfl) ?_
                  refine va_put (D := (dC, dI)) (ci := 7) (v := .int z_4813) (ty := .int) (C := RX7) (T := TX7) (N := 48) hx hb hts inX7 tyX7 tyX7_ok nmX7 hown hK hP hD hS 0 rfl rfl 5 (by decide) (hts _ wd_382) (fun _ h9 => h9) rfl (by decide +kernel) rfl rfl (Nat.le_of_ble_eq_true rfl) dX7_next_119 (fun H locs hP hD hS => ?_)
                  obtain ⟨hP, hD⟩ := wl2 (ws' := [(oc7 oM iM_thrown rM_tape iM_taped iM_size z_4778 z_4813 iM_token 0 z_4814 iM_fault iM_place iM_trouble rM_letters iM_failed iM_hasCourt rM_r rM_fresh rM_told rM_read rM_st rM_undone rM_kept iM_undos iM_images rM_fresher iM_fresherSize iM_scale iM_night rM_heardRow rM_cutRow iM_breaths iM_cutMany iM_allBreaths rM_trial rM_words iM_fewestBreaths iM_orderMany iM_orderSum iM_leastOrder rM_often iM_setMany iM_someOf iM_allOf iM_allWeight iM_enoughWeight iM_worthSum iM_firstRest iM_leastDrawn), (arI rM_tape kM_tape 900 fM_tape), (arI rM_letters kM_letters 8 f_4815)]) hP hD rfl
                  refine lv_aload_n hx hb dX7_next_122 rfl (lv_at hl 2 rfl) ?_
                  refine lv_aload_n hx hb dX7_next_123 rfl (lv_at hl 2 rfl) ?_
                  refine va_get (D := (dC, dI)) (ci := 7) (v := .int z_4814) (C := RX7) (T := TX7) (N := 48) hx hb hts inX7 hown hK hP 0 rfl rfl 8 (by decide) (hts _ wd_404) (fun _ h9 => h9) rfl dX7_next_124 ?_
                  refine lv_bipush (v := 8) hx hb dX7_next_127 (by decide) ?_
                  refine lv_icmp_le (tgt := 136) hx hb dX7_next_129 (by decide) (fun c_4820 => ?_) (fun c_4820 => ?_)
                  · skip
                    have hG := hG.trans (if_pos c_4820)
                    have gc_4820 := ti_le c_4820 rfl kc_8
                    refine lv_iconst (v := 2) hx hb dX7_next_136 (by decide) ?_
                    refine va_put (D := (dC, dI)) (ci := 7) (v := .int 2) (ty := .int) (C := RX7) (T := TX7) (N := 48) hx hb hts inX7 tyX7 tyX7_ok nmX7 hown hK hP hD hS 0 rfl rfl 6 (by decide) (hts _ wd_383) (fun _ h9 => h9) rfl (by decide +kernel) rfl rfl (Nat.le_of_ble_eq_true rfl) dX7_next_137 (fun H locs hP hD hS => ?_)
                    obtain ⟨hP, hD⟩ := wl2 (ws' := [(oc7 oM iM_thrown rM_tape iM_taped iM_size z_4778 z_4813 2 0 z_4814 iM_fault iM_place iM_trouble rM_letters iM_failed iM_hasCourt rM_r rM_fresh rM_told rM_read rM_st rM_undone rM_kept iM_undos iM_images rM_fresher iM_fresherSize iM_scale iM_night rM_heardRow rM_cutRow iM_breaths iM_cutMany iM_allBreaths rM_trial rM_words iM_fewestBreaths iM_orderMany iM_orderSum iM_leastOrder rM_often iM_setMany iM_someOf iM_allOf iM_allWeight iM_enoughWeight iM_worthSum iM_firstRest iM_leastDrawn), (arI rM_tape kM_tape 900 fM_tape), (arI rM_letters kM_letters 8 f_4815)]) hP hD rfl
                    refine lv_goto (tgt := 247) hx hb dX7_next_140 (by decide) ?_
                    exact wq_v hx hb hr 0 trivial (fun t ht hW => ⟨z_4778, z_4813, 2, 0, z_4814, f_4815, ⟨(om_11cc87cb b_iM_end.1 hi0_n_4816.1), hi0_n_4816.2⟩, b_z_4814, hi0_n_4816.1, (fun h9 => gc_4820), (fun h9 => False.elim (om_58f3ac6d h9 kc_2)), hG, Bw.to hP hD hK ht hW⟩) hS dX7_next_247 hlocks
                  · skip
                    have hG := hG.trans (if_neg c_4820)
                    have gc_4820 := ti_nle c_4820 rfl kc_8
                    refine lv_iconst (v := 1) hx hb dX7_next_132 (by decide) ?_
                    refine lv_goto (tgt := 137) hx hb dX7_next_133 (by decide) ?_
                    refine va_put (D := (dC, dI)) (ci := 7) (v := .int 1) (ty := .int) (C := RX7) (T := TX7) (N := 48) hx hb hts inX7 tyX7 tyX7_ok nmX7 hown hK hP hD hS 0 rfl rfl 6 (by decide) (hts _ wd_383) (fun _ h9 => h9) rfl (by decide +kernel) rfl rfl (Nat.le_of_ble_eq_true rfl) dX7_next_137 (fun H locs hP hD hS => ?_)
                    obtain ⟨hP, hD⟩ := wl2 (ws' := [(oc7 oM iM_thrown rM_tape iM_taped iM_size z_4778 z_4813 1 0 z_4814 iM_fault iM_place iM_trouble rM_letters iM_failed iM_hasCourt rM_r rM_fresh rM_told rM_read rM_st rM_undone rM_kept iM_undos iM_images rM_fresher iM_fresherSize iM_scale iM_night rM_heardRow rM_cutRow iM_breaths iM_cutMany iM_allBreaths rM_trial rM_words iM_fewestBreaths iM_orderMany iM_orderSum iM_leastOrder rM_often iM_setMany iM_someOf iM_allOf iM_allWeight iM_enoughWeight iM_worthSum iM_firstRest iM_leastDrawn), (arI rM_tape kM_tape 900 fM_tape), (arI rM_letters kM_letters 8 f_4815)]) hP hD rfl
                    refine lv_goto (tgt := 247) hx hb dX7_next_140 (by decide) ?_
                    exact wq_v hx hb hr 0 trivial (fun t ht hW => ⟨z_4778, z_4813, 1, 0, z_4814, f_4815, ⟨(om_11cc87cb b_iM_end.1 hi0_n_4816.1), hi0_n_4816.2⟩, b_z_4814, hi0_n_4816.1, (fun h9 => False.elim (om_e3b39179 h9 kc_1)), (fun h9 => False.elim (om_d38fce89 h9 kc_1)), hG, Bw.to hP hD hK ht hW⟩) hS dX7_next_247 hlocks
                · skip
                  have hG := hG.trans (if_neg c_4819)
                  have gc_4819 := ti_ne c_4819 rfl kc_0
                  replace gc_4819 : (-1) * x_4818.toInt + 1 ≤ 0 := om_e3003f79 gc_4819 dx_4818.1
                  have h_4821 := lx_4818 (by omega)
                  clear lx_4818
                  have h_4822 : z_4813.toInt < iM_size.toInt := lx_4817 (by omega)
                  clear lx_4817
                  refine lv_aload_n hx hb dX7_next_78 rfl (lv_at hl 2 rfl) ?_
                  refine va_get (D := (dC, dI)) (ci := 7) (v := .int z_4814) (C := RX7) (T := TX7) (N := 48) hx hb hts inX7 hown hK hP 0 rfl rfl 8 (by decide) (hts _ wd_404) (fun _ h9 => h9) rfl dX7_next_79 ?_
                  refine lv_bipush (v := 8) hx hb dX7_next_82 (by decide) ?_
                  refine lv_icmp_ge (tgt := 101) hx hb dX7_next_84 (by decide) (fun c_4823 => ?_) (fun c_4823 => ?_)
                  · skip
                    have hG := hG.trans (if_pos c_4823)
                    have gc_4823 := ti_le c_4823 kc_8 rfl
                    refine lv_aload_n hx hb dX7_next_101 rfl (lv_at hl 2 rfl) ?_
                    refine lv_dup hx hb dX7_next_102 rfl ?_
                    refine va_get (D := (dC, dI)) (ci := 7) (v := .int z_4814) (C := RX7) (T := TX7) (N := 48) hx hb hts inX7 hown hK hP 0 rfl rfl 8 (by decide) (hts _ wd_404) (fun _ h9 => h9) rfl dX7_next_103 ?_
                    refine lv_iconst (v := 1) hx hb dX7_next_106 (by decide) ?_
                    refine lv_iadd hx hb dX7_next_107 ?_
                    refine lv_topi (fun x_4824 ex_4824 => ?_)
                    have hG := hG.trans (lt_eq ex_4824)
                    have vx_4824 : x_4824.toInt = z_4814.toInt + 1 := ti_add ex_4824 rfl kc_1 (om_4e4fce7e b_z_4814.1) (om_a4907767 b_z_4814.2)
                    refine va_put (D := (dC, dI)) (ci := 7) (v := .int x_4824) (ty := .int) (C := RX7) (T := TX7) (N := 48) hx hb hts inX7 tyX7 tyX7_ok nmX7 hown hK hP hD hS 0 rfl rfl 8 (by decide) (hts _ wd_404) (fun _ h9 => h9) rfl (by decide +kernel) rfl rfl (Nat.le_of_ble_eq_true rfl) dX7_next_108 (fun H locs hP hD hS => ?_)
                    obtain ⟨hP, hD⟩ := wl2 (ws' := [(oc7 oM iM_thrown rM_tape iM_taped iM_size z_4778 iM_end iM_token 0 x_4824 iM_fault iM_place iM_trouble rM_letters iM_failed iM_hasCourt rM_r rM_fresh rM_told rM_read rM_st rM_undone rM_kept iM_undos iM_images rM_fresher iM_fresherSize iM_scale iM_night rM_heardRow rM_cutRow iM_breaths iM_cutMany iM_allBreaths rM_trial rM_words iM_fewestBreaths iM_orderMany iM_orderSum iM_leastOrder rM_often iM_setMany iM_someOf iM_allOf iM_allWeight iM_enoughWeight iM_worthSum iM_firstRest iM_leastDrawn), (arI rM_tape kM_tape 900 fM_tape), (arI rM_letters kM_letters 8 f_4815)]) hP hD rfl
                    obtain ⟨x_4825, ex_4825⟩ : ∃ z : Int32, z = z_4813 + Int32.ofInt 1 := ⟨_, rfl⟩
                    have hG := hG.trans (lt_eq ex_4825)
                    have vx_4825 : x_4825.toInt = z_4813.toInt + 1 := ti_add (y := 1) ex_4825 rfl kc_1 (om_f24caf23 b_iM_end.1 hi0_n_4816.1) (om_a4907767 hi0_n_4816.2)
                    refine lv_iinc (v := x_4825) (lv' := [(1, .int x_4825), (2, .int x_4782), (0, .ref oM)]) hx hb dX7_next_111 hl (k := 1) rfl ex_4825.symm (by decide) rfl (fun ls hl => ?_)
                    refine lv_goto (tgt := 67) hx hb dX7_next_114 (by decide) ?_
                    exact ih_n_4816 x_4825 x_4824 f_4815 _ _ _ ⟨(om_83b90de5 b_z_4814.1 vx_4824), (om_2f1aff57 b_iM_size.2 hi1_n_4816.2 h_4822 vx_4824)⟩ ⟨(om_dd50ccc5 hi0_n_4816.1 vx_4825), (om_56f574e0 b_iM_size.2 h_4822 vx_4825)⟩ ⟨(om_83b90de5 b_z_4814.1 vx_4824), (om_d1b4529d hi1_n_4816.2 vx_4824 vx_4825)⟩ (ms_lt hm_n_4816 (om_62d8943c vx_4825) (om_ad0d8b60 b_iM_size.2 h_4822)) hG hP hD hS (lv_sub hl [1, 0, 2] rfl)
                  · skip
                    have hG := hG.trans (if_neg c_4823)
                    have gc_4823 := ti_nle c_4823 kc_8 rfl
                    refine lv_aload_n hx hb dX7_next_87 rfl (lv_at hl 2 rfl) ?_
                    refine va_get (D := (dC, dI)) (ci := 7) (v := .ref rM_letters) (C := RX7) (T := TX7) (N := 48) hx hb hts inX7 hown hK hP 0 rfl rfl 12 (by decide) (hts _ wd_154) (fun _ h9 => h9) rfl dX7_next_88 ?_
                    refine lv_aload_n hx hb dX7_next_91 rfl (lv_at hl 2 rfl) ?_
                    refine va_get (D := (dC, dI)) (ci := 7) (v := .int z_4814) (C := RX7) (T := TX7) (N := 48) hx hb hts inX7 hown hK hP 0 rfl rfl 8 (by decide) (hts _ wd_404) (fun _ h9 => h9) rfl dX7_next_92 ?_
                    refine lv_aload_n hx hb dX7_next_95 rfl (lv_at hl 2 rfl) ?_
                    refine lv_iload_n hx hb dX7_next_96 rfl (lv_at hl 1 rfl) ?_
                    have hMs := ml_of hD [true, true, false] (wc := [(oc7 oM iM_thrown rM_tape iM_taped iM_size z_4778 iM_end iM_token 0 z_4814 iM_fault iM_place iM_trouble rM_letters iM_failed iM_hasCourt rM_r rM_fresh rM_told rM_read rM_st rM_undone rM_kept iM_undos iM_images rM_fresher iM_fresherSize iM_scale iM_night rM_heardRow rM_cutRow iM_breaths iM_cutMany iM_allBreaths rM_trial rM_words iM_fewestBreaths iM_orderMany iM_orderSum iM_leastOrder rM_often iM_setMany iM_someOf iM_allOf iM_allWeight iM_enoughWeight iM_worthSum iM_firstRest iM_leastDrawn), (arI rM_tape kM_tape 900 fM_tape)]) rfl
                    have hFc := va_freeM hD hS hA _ hMs
                    refine va_calli (va_runV (As := [.int z_4813]) (rest := [.int z_4814, .ref rM_letters]) ⟨hx, hb, hml, hown, hts⟩ (tX7_see_p l dC dI _ oM iM_thrown rM_tape fM_tape kM_tape iM_taped iM_size z_4778 iM_end iM_token 0 z_4814 iM_fault iM_place iM_trouble rM_letters iM_failed iM_hasCourt rM_r rM_fresh rM_told rM_read rM_st rM_undone rM_kept iM_undos iM_images rM_fresher iM_fresherSize iM_scale iM_night rM_heardRow rM_cutRow iM_breaths iM_cutMany iM_allBreaths rM_trial rM_words iM_fewestBreaths iM_orderMany iM_orderSum iM_leastOrder rM_often iM_setMany iM_someOf iM_allOf iM_allWeight iM_enoughWeight iM_worthSum iM_firstRest iM_leastDrawn z_4813 b_iM_taped b_iM_size b_iM_end b_z_4814 b_iM_failed b_iM_hasCourt b_iM_undos b_iM_images b_iM_scale b_iM_breaths b_iM_cutMany (om_11cc87cb b_iM_end.1 hi0_n_4816.1)) (cwV 1 hts (wd_V wd_406 wd_407 wd_408 wd_5 (wd_c wd_409)) rfl rfl rfl dv_yX7_see_1 ⟨Nat.le_of_ble_eq_true rfl, Nat.le_of_ble_eq_true rfl⟩) ⟨Pw.fb, recvX7 hK hP (q0 := 0) rfl, fun U hU hW => Pw.to (hP.ms _ hMs) (hD.ms _ hMs) (hK.ms [true, false] rfl) hE hS hFc hU hW⟩ rfl rfl hl.1 rfl (lv_room (Nat.le_of_ble_eq_true rfl)) dX7_next_97 ⟨Nat.le_of_ble_eq_true rfl, Nat.le_of_ble_eq_true rfl⟩) hS (fun q _ h => hFc q h) hFc (fun r u t H locs ht hvm hw hB hz1 hk1 hS => ?_)
                    have hru9 := hw.2
                    have hw := hw.1
                    obtain ⟨hP, hD⟩ := Bw.goN (ws' := [(oc7 oM iM_thrown rM_tape iM_taped iM_size z_4778 iM_end iM_token 0 z_4814 iM_fault iM_place iM_trouble rM_letters iM_failed iM_hasCourt rM_r rM_fresh rM_told rM_read rM_st rM_undone rM_kept iM_undos iM_images rM_fresher iM_fresherSize iM_scale iM_night rM_heardRow rM_cutRow iM_breaths iM_cutMany iM_allBreaths rM_trial rM_words iM_fewestBreaths iM_orderMany iM_orderSum iM_leastOrder rM_often iM_setMany iM_someOf iM_allOf iM_allWeight iM_enoughWeight iM_worthSum iM_firstRest iM_leastDrawn), (arI rM_tape kM_tape 900 fM_tape), (arI rM_letters kM_letters 8 f_4815)]) hB rfl ht hP hD _ hMs hk1 hFc rfl
                    clear hz1 hk1 hvm ht hB hMs
                    obtain ⟨x_4826, rfl⟩ : ∃ z, z = r := ⟨_, rfl⟩
                    have hG := hG.trans (lt_eq hru9.symm)
                    have lx_4826 := hw.2
                    refine va_iast hx hb hK hP hD hS 2 1 rfl rfl (ti_in rfl b_z_4814.1 (om_e159f70e gc_4823)) dX7_next_100 (fun H locs hP hD hS => ?_)
                    obtain ⟨f_4828, ef_4828⟩ : ∃ g : Nat → Int32, g = upd f_4815 z_4814.toNatClampNeg x_4826 := ⟨_, rfl⟩
                    rw [← ef_4828] at hP hD
                    have hG := hG.trans (lt_eq ef_4828)
                    obtain ⟨hP, hD⟩ := wl2 (ws' := [(oc7 oM iM_thrown rM_tape iM_taped iM_size z_4778 iM_end iM_token 0 z_4814 iM_fault iM_place iM_trouble rM_letters iM_failed iM_hasCourt rM_r rM_fresh rM_told rM_read rM_st rM_undone rM_kept iM_undos iM_images rM_fresher iM_fresherSize iM_scale iM_night rM_heardRow rM_cutRow iM_breaths iM_cutMany iM_allBreaths rM_trial rM_words iM_fewestBreaths iM_orderMany iM_orderSum iM_leastOrder rM_often iM_setMany iM_someOf iM_allOf iM_allWeight iM_enoughWeight iM_worthSum iM_firstRest iM_leastDrawn), (arI rM_tape kM_tape 900 fM_tape), (arI rM_letters kM_letters 8 f_4828)]) hP hD rfl
                    refine lv_aload_n hx hb dX7_next_101 rfl (lv_at hl 2 rfl) ?_
                    refine lv_dup hx hb dX7_next_102 rfl ?_
                    refine va_get (D := (dC, dI)) (ci := 7) (v := .int z_4814) (C := RX7) (T := TX7) (N := 48) hx hb hts inX7 hown hK hP 0 rfl rfl 8 (by decide) (hts _ wd_404) (fun _ h9 => h9) rfl dX7_next_103 ?_
                    refine lv_iconst (v := 1) hx hb dX7_next_106 (by decide) ?_
                    refine lv_iadd hx hb dX7_next_107 ?_
                    refine lv_topi (fun x_4829 ex_4829 => ?_)
                    have hG := hG.trans (lt_eq ex_4829)
                    have vx_4829 : x_4829.toInt = z_4814.toInt + 1 := ti_add ex_4829 rfl kc_1 (om_4e4fce7e b_z_4814.1) (om_a4907767 b_z_4814.2)
                    refine va_put (D := (dC, dI)) (ci := 7) (v := .int x_4829) (ty := .int) (C := RX7) (T := TX7) (N := 48) hx hb hts inX7 tyX7 tyX7_ok nmX7 hown hK hP hD hS 0 rfl rfl 8 (by decide) (hts _ wd_404) (fun _ h9 => h9) rfl (by decide +kernel) rfl rfl (Nat.le_of_ble_eq_true rfl) dX7_next_108 (fun H locs hP hD hS => ?_)
                    obtain ⟨hP, hD⟩ := wl2 (ws' := [(oc7 oM iM_thrown rM_tape iM_taped iM_size z_4778 iM_end iM_token 0 x_4829 iM_fault iM_place iM_trouble rM_letters iM_failed iM_hasCourt rM_r rM_fresh rM_told rM_read rM_st rM_undone rM_kept iM_undos iM_images rM_fresher iM_fresherSize iM_scale iM_night rM_heardRow rM_cutRow iM_breaths iM_cutMany iM_allBreaths rM_trial rM_words iM_fewestBreaths iM_orderMany iM_orderSum iM_leastOrder rM_often iM_setMany iM_someOf iM_allOf iM_allWeight iM_enoughWeight iM_worthSum iM_firstRest iM_leastDrawn), (arI rM_tape kM_tape 900 fM_tape), (arI rM_letters kM_letters 8 f_4828)]) hP hD rfl
                    obtain ⟨x_4830, ex_4830⟩ : ∃ z : Int32, z = z_4813 + Int32.ofInt 1 := ⟨_, rfl⟩
                    have hG := hG.trans (lt_eq ex_4830)
                    have vx_4830 : x_4830.toInt = z_4813.toInt + 1 := ti_add (y := 1) ex_4830 rfl kc_1 (om_f24caf23 b_iM_end.1 hi0_n_4816.1) (om_a4907767 hi0_n_4816.2)
                    refine lv_iinc (v := x_4830) (lv' := [(1, .int x_4830), (2, .int x_4782), (0, .ref oM)]) hx hb dX7_next_111 hl (k := 1) rfl ex_4830.symm (by decide) rfl (fun ls hl => ?_)
                    refine lv_goto (tgt := 67) hx hb dX7_next_114 (by decide) ?_
                    exact ih_n_4816 x_4830 x_4829 f_4828 _ _ _ ⟨(om_83b90de5 b_z_4814.1 vx_4829), (om_96ed692b gc_4823 vx_4829)⟩ ⟨(om_dd50ccc5 hi0_n_4816.1 vx_4830), (om_56f574e0 b_iM_size.2 h_4822 vx_4830)⟩ ⟨(om_83b90de5 b_z_4814.1 vx_4829), (om_d1b4529d hi1_n_4816.2 vx_4829 vx_4830)⟩ (ms_lt hm_n_4816 (om_62d8943c vx_4830) (om_ad0d8b60 b_iM_size.2 h_4822)) hG hP hD hS (lv_sub hl [1, 0, 2] rfl)
            exact key_n_4816 (((900 - z_4778.toInt).toNat) + 1) z_4778 0 fM_letters _ _ _ (by decide) ⟨hi0_n_4779.1, hi0_n_4779.2⟩ ⟨(om_b1de7dbe kc_0), (om_bf01e563 b_iM_end.1 hi0_n_4779.1 kc_0)⟩ (Nat.lt_add_one _) hG hP hD hS hl
        · skip
          have hG := hG.trans (if_pos c_4783)
          have gc_4783 := ti_eq c_4783 rfl kc_m1
          refine lv_aload_n hx hb dX7_next_47 rfl (lv_at hl 2 rfl) ?_
          refine lv_iconst (v := 0) hx hb dX7_next_48 (by decide) ?_
          refine va_put (D := (dC, dI)) (ci := 7) (v := .int 0) (ty := .int) (C := RX7) (T := TX7) (N := 48) hx hb hts inX7 tyX7 tyX7_ok nmX7 hown hK hP hD hS 0 rfl rfl 6 (by decide) (hts _ wd_383) (fun _ h9 => h9) rfl (by decide +kernel) rfl rfl (Nat.le_of_ble_eq_true rfl) dX7_next_49 (fun H locs hP hD hS => ?_)
          obtain ⟨hP, hD⟩ := wl2 (ws' := [(oc7 oM iM_thrown rM_tape iM_taped iM_size z_4778 iM_end 0 0 0 iM_fault iM_place iM_trouble rM_letters iM_failed iM_hasCourt rM_r rM_fresh rM_told rM_read rM_st rM_undone rM_kept iM_undos iM_images rM_fresher iM_fresherSize iM_scale iM_night rM_heardRow rM_cutRow iM_breaths iM_cutMany iM_allBreaths rM_trial rM_words iM_fewestBreaths iM_orderMany iM_orderSum iM_leastOrder rM_often iM_setMany iM_someOf iM_allOf iM_allWeight iM_enoughWeight iM_worthSum iM_firstRest iM_leastDrawn), (arI rM_tape kM_tape 900 fM_tape), (arI rM_letters kM_letters 8 fM_letters)]) hP hD rfl
          refine lv_aload_n hx hb dX7_next_52 rfl (lv_at hl 2 rfl) ?_
          refine lv_iload_n hx hb dX7_next_53 rfl (lv_at hl 1 rfl) ?_
          refine va_put (D := (dC, dI)) (ci := 7) (v := .int z_4778) (ty := .int) (C := RX7) (T := TX7) (N := 48) hx hb hts inX7 tyX7 tyX7_ok nmX7 hown hK hP hD hS 0 rfl rfl 5 (by decide) (hts _ wd_382) (fun _ h9 => h9) rfl (by decide +kernel) rfl rfl (Nat.le_of_ble_eq_true rfl) dX7_next_54 (fun H locs hP hD hS => ?_)
          obtain ⟨hP, hD⟩ := wl2 (ws' := [(oc7 oM iM_thrown rM_tape iM_taped iM_size z_4778 z_4778 0 0 0 iM_fault iM_place iM_trouble rM_letters iM_failed iM_hasCourt rM_r rM_fresh rM_told rM_read rM_st rM_undone rM_kept iM_undos iM_images rM_fresher iM_fresherSize iM_scale iM_night rM_heardRow rM_cutRow iM_breaths iM_cutMany iM_allBreaths rM_trial rM_words iM_fewestBreaths iM_orderMany iM_orderSum iM_leastOrder rM_often iM_setMany iM_someOf iM_allOf iM_allWeight iM_enoughWeight iM_worthSum iM_firstRest iM_leastDrawn), (arI rM_tape kM_tape 900 fM_tape), (arI rM_letters kM_letters 8 fM_letters)]) hP hD rfl
          refine lv_goto (tgt := 247) hx hb dX7_next_57 (by decide) ?_
          exact wq_v hx hb hr 0 trivial (fun t ht hW => ⟨z_4778, z_4778, 0, 0, 0, fM_letters, ⟨(om_11cc87cb b_iM_end.1 hi0_n_4779.1), hi0_n_4779.2⟩, (by decide), hi0_n_4779.1, (fun h9 => (om_3fede16e h9)), (fun h9 => False.elim (om_48156c84 h9 kc_0)), hG, Bw.to hP hD hK ht hW⟩) hS dX7_next_247 hlocks
      · skip
        have hG := hG.trans (if_pos c_4781)
        have gc_4781 := ti_eq c_4781 rfl kc_32
        have h_4831 : z_4778.toInt < iM_size.toInt := lx_4780 (by omega)
        clear lx_4780
        obtain ⟨x_4832, ex_4832⟩ : ∃ z : Int32, z = z_4778 + Int32.ofInt 1 := ⟨_, rfl⟩
        have hG := hG.trans (lt_eq ex_4832)
        have vx_4832 : x_4832.toInt = z_4778.toInt + 1 := ti_add (y := 1) ex_4832 rfl kc_1 (om_f24caf23 b_iM_end.1 hi0_n_4779.1) (om_a4907767 hi0_n_4779.2)
        refine lv_iinc (v := x_4832) (lv' := [(1, .int x_4832), (0, .ref oM)]) hx hb dX7_next_15 hl (k := 0) rfl ex_4832.symm (by decide) rfl (fun ls hl => ?_)
        refine lv_goto (tgt := 5) hx hb dX7_next_18 (by decide) ?_
        exact ih_n_4779 x_4832 _ _ _  ⟨(om_dd50ccc5 hi0_n_4779.1 vx_4832), (om_56f574e0 b_iM_size.2 h_4831 vx_4832)⟩ (ms_lt hm_n_4779 (om_62d8943c vx_4832) (om_ad0d8b60 b_iM_size.2 h_4831)) hG hP hD hS (lv_sub hl [0, 1] rfl)
  exact key_n_4779 (((900 - iM_end.toInt).toNat) + 1) iM_end _ _ _  ⟨om_1cb5f934, b_iM_end.2⟩ (Nat.lt_add_one _) hG hP hD hS hl
set_option maxHeartbeats 4000000 in
set_option maxRecDepth 100000 in
theorem tX7_wrong (l : Launch) (dC : Nat → ClassId) (dI : Nat → Nat → Nat) (sz : Nat) (oM : Nat) (iM_thrown : Int32) (rM_tape : Nat) (iM_taped : Int32) (iM_size : Int32) (iM_at : Int32) (iM_end : Int32) (iM_token : Int32) (iM_whole : Int32) (iM_nameSize : Int32) (iM_fault : Int32) (iM_place : Int32) (iM_trouble : Int32) (rM_letters : Nat) (iM_failed : Int32) (iM_hasCourt : Int32) (rM_r : Nat) (rM_fresh : Nat) (rM_told : Nat) (rM_read : Nat) (rM_st : Nat) (rM_undone : Nat) (rM_kept : Nat) (iM_undos : Int32) (iM_images : Int32) (rM_fresher : Nat) (iM_fresherSize : Int32) (iM_scale : Int32) (iM_night : Int32) (rM_heardRow : Nat) (rM_cutRow : Nat) (iM_breaths : Int32) (iM_cutMany : Int32) (iM_allBreaths : Int32) (rM_trial : Nat) (rM_words : Nat) (iM_fewestBreaths : Int32) (iM_orderMany : Int32) (iM_orderSum : Int32) (iM_leastOrder : Int32) (rM_often : Nat) (iM_setMany : Int32) (iM_someOf : Int32) (iM_allOf : Int32) (iM_allWeight : Int64) (iM_enoughWeight : Int64) (iM_worthSum : Int64) (iM_firstRest : Int32) (iM_leastDrawn : Int32) (p0 : Int32) (p1 : Int32) (b_iM_taped : 0 ≤ iM_taped.toInt ∧ iM_taped.toInt ≤ 900) (b_iM_size : 0 ≤ iM_size.toInt ∧ iM_size.toInt ≤ 900) (b_iM_end : 0 ≤ iM_end.toInt ∧ iM_end.toInt ≤ 900) (b_iM_nameSize : 0 ≤ iM_nameSize.toInt ∧ iM_nameSize.toInt ≤ 900) (b_iM_failed : 0 ≤ iM_failed.toInt ∧ iM_failed.toInt ≤ 1) (b_iM_hasCourt : 0 ≤ iM_hasCourt.toInt ∧ iM_hasCourt.toInt ≤ 1) (b_iM_undos : 0 ≤ iM_undos.toInt ∧ iM_undos.toInt ≤ 16) (b_iM_images : 0 ≤ iM_images.toInt ∧ iM_images.toInt ≤ 3) (b_iM_scale : 1 ≤ iM_scale.toInt ∧ iM_scale.toInt ≤ 1296) (b_iM_breaths : 0 ≤ iM_breaths.toInt ∧ iM_breaths.toInt ≤ 399) (b_iM_cutMany : 0 ≤ iM_cutMany.toInt ∧ iM_cutMany.toInt ≤ 399) (r_T : ImpP (iM_token.toInt = 2) (iM_nameSize.toInt ≤ 8))  : Met l yX7_wrong (Cond.code yX7_wrong cX7_wrong 3 none :: wG) ({ frames := 0, cells := 0, slots := 0, locals := 0 }) (va_Pc [.ref oM, .int p0, .int p1] (Pw dC dI sz [(oc7 oM iM_thrown rM_tape iM_taped iM_size iM_at iM_end iM_token iM_whole iM_nameSize iM_fault iM_place iM_trouble rM_letters iM_failed iM_hasCourt rM_r rM_fresh rM_told rM_read rM_st rM_undone rM_kept iM_undos iM_images rM_fresher iM_fresherSize iM_scale iM_night rM_heardRow rM_cutRow iM_breaths iM_cutMany iM_allBreaths rM_trial rM_words iM_fewestBreaths iM_orderMany iM_orderSum iM_leastOrder rM_often iM_setMany iM_someOf iM_allOf iM_allWeight iM_enoughWeight iM_worthSum iM_firstRest iM_leastDrawn)] [])) (va_Qv (fun (_ : Nat) => True) (fun (_ : Nat) (t : State) => ∃ (niM_fault : Int32) (niM_place : Int32) (niM_failed : Int32), (0 ≤ niM_failed.toInt ∧ niM_failed.toInt ≤ 1) ∧ (niM_failed.toInt = 1) ∧ (PX7_wrong iM_fault iM_place iM_failed p0 p1 = (niM_fault, niM_place, niM_failed)) ∧ Bw dC dI (va_A [(oc7 oM iM_thrown rM_tape iM_taped iM_size iM_at iM_end iM_token iM_whole iM_nameSize iM_fault iM_place iM_trouble rM_letters iM_failed iM_hasCourt rM_r rM_fresh rM_told rM_read rM_st rM_undone rM_kept iM_undos iM_images rM_fresher iM_fresherSize iM_scale iM_night rM_heardRow rM_cutRow iM_breaths iM_cutMany iM_allBreaths rM_trial rM_words iM_fewestBreaths iM_orderMany iM_orderSum iM_leastOrder rM_often iM_setMany iM_someOf iM_allOf iM_allWeight iM_enoughWeight iM_worthSum iM_firstRest iM_leastDrawn)] sz) [(oc7 oM iM_thrown rM_tape iM_taped iM_size iM_at iM_end iM_token iM_whole iM_nameSize niM_fault niM_place iM_trouble rM_letters niM_failed iM_hasCourt rM_r rM_fresh rM_told rM_read rM_st rM_undone rM_kept iM_undos iM_images rM_fresher iM_fresherSize iM_scale iM_night rM_heardRow rM_cutRow iM_breaths iM_cutMany iM_allBreaths rM_trial rM_words iM_fewestBreaths iM_orderMany iM_orderSum iM_leastOrder rM_often iM_setMany iM_someOf iM_allOf iM_allWeight iM_enoughWeight iM_worthSum iM_firstRest iM_leastDrawn)] [] t) (va_A [(oc7 oM iM_thrown rM_tape iM_taped iM_size iM_at iM_end iM_token iM_whole iM_nameSize iM_fault iM_place iM_trouble rM_letters iM_failed iM_hasCourt rM_r rM_fresh rM_told rM_read rM_st rM_undone rM_kept iM_undos iM_images rM_fresher iM_fresherSize iM_scale iM_night rM_heardRow rM_cutRow iM_breaths iM_cutMany iM_allBreaths rM_trial rM_words iM_fewestBreaths iM_orderMany iM_orderSum iM_leastOrder rM_often iM_setMany iM_someOf iM_allOf iM_allWeight iM_enoughWeight iM_worthSum iM_firstRest iM_leastDrawn)] sz)) 0 0 (va_A [(oc7 oM iM_thrown rM_tape iM_taped iM_size iM_at iM_end iM_token iM_whole iM_nameSize iM_fault iM_place iM_trouble rM_letters iM_failed iM_hasCourt rM_r rM_fresh rM_told rM_read rM_st rM_undone rM_kept iM_undos iM_images rM_fresher iM_fresherSize iM_scale iM_night rM_heardRow rM_cutRow iM_breaths iM_cutMany iM_allBreaths rM_trial rM_words iM_fewestBreaths iM_orderMany iM_orderSum iM_leastOrder rM_often iM_setMany iM_someOf iM_allOf iM_allWeight iM_enoughWeight iM_worthSum iM_firstRest iM_leastDrawn)] sz) := by
  refine Met.ofW (cc := cX7_wrong) (maxL := 3) (ret := none) pnX7 rfl ?_
  intro p e s m args below meth c s₁ B hml hv
  obtain ⟨rfl, hsz, hP, hK, hD0, hE⟩ := hv
  have hx := B.exec
  have hb := B.bytes
  have hr := B.returns
  have hts : ∀ w ∈ wG, w.before ([.ref oM, .int p0, .int p1] : List Value).toArray s = true := fun w h => atoms_spec (ws := Cond.code yX7_wrong cX7_wrong 3 none :: wG) B.pre w (List.mem_cons_of_mem _ h)
  have hown : s.vm.findClass RX7 = some m.cls := own_of B.named rfl
  have hlocks := B.notSynchronized
  subst hsz
  have hD := hD0.self (sz := s.heap.size)
  generalize hAe : va_A [(oc7 oM iM_thrown rM_tape iM_taped iM_size iM_at iM_end iM_token iM_whole iM_nameSize iM_fault iM_place iM_trouble rM_letters iM_failed iM_hasCourt rM_r rM_fresh rM_told rM_read rM_st rM_undone rM_kept iM_undos iM_images rM_fresher iM_fresherSize iM_scale iM_night rM_heardRow rM_cutRow iM_breaths iM_cutMany iM_allBreaths rM_trial rM_words iM_fewestBreaths iM_orderMany iM_orderSum iM_leastOrder rM_often iM_setMany iM_someOf iM_allOf iM_allWeight iM_enoughWeight iM_worthSum iM_firstRest iM_leastDrawn)] s.heap.size = A at hD hE ⊢
  have hA : ∀ q : Nat, s.heap.size ≤ q → A q := fun q h => by rw [← hAe]; exact Or.inr h
  have hS : va_S A s.heap s.heap [] := va_S.rf
  have hl := lv_entry ([.ref oM, .int p0, .int p1]) (n := 3) (Nat.le_of_ble_eq_true rfl)
  rw [lg_entry_eq]
  generalize (lg_sl ([.ref oM, .int p0, .int p1]) ++ List.replicate (3 - (lg_sl ([.ref oM, .int p0, .int p1])).length) Slot.unset).toArray = ls at hl ⊢
  have hl : lv_has ls 3 [(0, .ref oM), (1, .int p0), (2, .int p1)] := hl
  have hG := PX7_wrong_eq iM_fault iM_place iM_failed p0 p1
  refine lv_aload_n hx hb dX7_wrong_0 rfl (lv_at hl 0 rfl) ?_
  refine va_get (D := (dC, dI)) (ci := 7) (v := .int iM_failed) (C := RX7) (T := TX7) (N := 48) hx hb hts inX7 hown hK hP 0 rfl rfl 13 (by decide) (hts _ wd_380) (fun _ h9 => h9) rfl dX7_wrong_1 ?_
  refine lv_if_eq (tgt := 8) hx hb dX7_wrong_4 (by decide) (fun c_4834 => ?_) (fun c_4834 => ?_)
  · skip
    have hG := hG.trans (if_pos c_4834)
    have gc_4834 := ti_eq c_4834 rfl kc_0
    refine lv_aload_n hx hb dX7_wrong_8 rfl (lv_at hl 0 rfl) ?_
    refine lv_iconst (v := 1) hx hb dX7_wrong_9 (by decide) ?_
    refine va_put (D := (dC, dI)) (ci := 7) (v := .int 1) (ty := .boolean) (C := RX7) (T := TX7) (N := 48) hx hb hts inX7 tyX7 tyX7_ok nmX7 hown hK hP hD hS 0 rfl rfl 13 (by decide) (hts _ wd_380) (fun _ h9 => h9) rfl (by decide +kernel) rfl rfl (Nat.le_of_ble_eq_true rfl) dX7_wrong_10 (fun H locs hP hD hS => ?_)
    obtain ⟨hP, hD⟩ := wl2 (ws' := [(oc7 oM iM_thrown rM_tape iM_taped iM_size iM_at iM_end iM_token iM_whole iM_nameSize iM_fault iM_place iM_trouble rM_letters 1 iM_hasCourt rM_r rM_fresh rM_told rM_read rM_st rM_undone rM_kept iM_undos iM_images rM_fresher iM_fresherSize iM_scale iM_night rM_heardRow rM_cutRow iM_breaths iM_cutMany iM_allBreaths rM_trial rM_words iM_fewestBreaths iM_orderMany iM_orderSum iM_leastOrder rM_often iM_setMany iM_someOf iM_allOf iM_allWeight iM_enoughWeight iM_worthSum iM_firstRest iM_leastDrawn)]) hP hD rfl
    refine lv_aload_n hx hb dX7_wrong_13 rfl (lv_at hl 0 rfl) ?_
    refine lv_iload_n hx hb dX7_wrong_14 rfl (lv_at hl 1 rfl) ?_
    refine va_put (D := (dC, dI)) (ci := 7) (v := .int p0) (ty := .int) (C := RX7) (T := TX7) (N := 48) hx hb hts inX7 tyX7 tyX7_ok nmX7 hown hK hP hD hS 0 rfl rfl 9 (by decide) (hts _ wd_379) (fun _ h9 => h9) rfl (by decide +kernel) rfl rfl (Nat.le_of_ble_eq_true rfl) dX7_wrong_15 (fun H locs hP hD hS => ?_)
    obtain ⟨hP, hD⟩ := wl2 (ws' := [(oc7 oM iM_thrown rM_tape iM_taped iM_size iM_at iM_end iM_token iM_whole iM_nameSize p0 iM_place iM_trouble rM_letters 1 iM_hasCourt rM_r rM_fresh rM_told rM_read rM_st rM_undone rM_kept iM_undos iM_images rM_fresher iM_fresherSize iM_scale iM_night rM_heardRow rM_cutRow iM_breaths iM_cutMany iM_allBreaths rM_trial rM_words iM_fewestBreaths iM_orderMany iM_orderSum iM_leastOrder rM_often iM_setMany iM_someOf iM_allOf iM_allWeight iM_enoughWeight iM_worthSum iM_firstRest iM_leastDrawn)]) hP hD rfl
    refine lv_aload_n hx hb dX7_wrong_18 rfl (lv_at hl 0 rfl) ?_
    refine lv_iload_n hx hb dX7_wrong_19 rfl (lv_at hl 2 rfl) ?_
    refine va_put (D := (dC, dI)) (ci := 7) (v := .int p1) (ty := .int) (C := RX7) (T := TX7) (N := 48) hx hb hts inX7 tyX7 tyX7_ok nmX7 hown hK hP hD hS 0 rfl rfl 10 (by decide) (hts _ wd_153) (fun _ h9 => h9) rfl (by decide +kernel) rfl rfl (Nat.le_of_ble_eq_true rfl) dX7_wrong_20 (fun H locs hP hD hS => ?_)
    obtain ⟨hP, hD⟩ := wl2 (ws' := [(oc7 oM iM_thrown rM_tape iM_taped iM_size iM_at iM_end iM_token iM_whole iM_nameSize p0 p1 iM_trouble rM_letters 1 iM_hasCourt rM_r rM_fresh rM_told rM_read rM_st rM_undone rM_kept iM_undos iM_images rM_fresher iM_fresherSize iM_scale iM_night rM_heardRow rM_cutRow iM_breaths iM_cutMany iM_allBreaths rM_trial rM_words iM_fewestBreaths iM_orderMany iM_orderSum iM_leastOrder rM_often iM_setMany iM_someOf iM_allOf iM_allWeight iM_enoughWeight iM_worthSum iM_firstRest iM_leastDrawn)]) hP hD rfl
    exact wq_v hx hb hr 0 trivial (fun t ht hW => ⟨p0, p1, 1, (by decide), kc_1, hG, Bw.to hP hD hK ht hW⟩) hS dX7_wrong_23 hlocks
  · skip
    have hG := hG.trans (if_neg c_4834)
    have gc_4834 := ti_ne c_4834 rfl kc_0
    replace gc_4834 : (-1) * iM_failed.toInt + 1 ≤ 0 := om_e3003f79 gc_4834 b_iM_failed.1
    exact wq_v hx hb hr 0 trivial (fun t ht hW => ⟨iM_fault, iM_place, iM_failed, ⟨b_iM_failed.1, b_iM_failed.2⟩, (om_7907a7c1 b_iM_failed.2 gc_4834), hG, Bw.to hP hD hK ht hW⟩) hS dX7_wrong_7 hlocks
set_option maxHeartbeats 4000000 in
set_option maxRecDepth 100000 in
theorem tX7_isWord (l : Launch) (dC : Nat → ClassId) (dI : Nat → Nat → Nat) (sz : Nat) (oM : Nat) (iM_thrown : Int32) (rM_tape : Nat) (iM_taped : Int32) (iM_size : Int32) (iM_at : Int32) (iM_end : Int32) (iM_token : Int32) (iM_whole : Int32) (iM_nameSize : Int32) (iM_fault : Int32) (iM_place : Int32) (iM_trouble : Int32) (rM_letters : Nat) (fM_letters : Nat → Int32) (kM_letters : ClassId) (iM_failed : Int32) (iM_hasCourt : Int32) (rM_r : Nat) (rM_fresh : Nat) (rM_told : Nat) (rM_read : Nat) (rM_st : Nat) (rM_undone : Nat) (rM_kept : Nat) (iM_undos : Int32) (iM_images : Int32) (rM_fresher : Nat) (iM_fresherSize : Int32) (iM_scale : Int32) (iM_night : Int32) (rM_heardRow : Nat) (rM_cutRow : Nat) (iM_breaths : Int32) (iM_cutMany : Int32) (iM_allBreaths : Int32) (rM_trial : Nat) (rM_words : Nat) (iM_fewestBreaths : Int32) (iM_orderMany : Int32) (iM_orderSum : Int32) (iM_leastOrder : Int32) (rM_often : Nat) (iM_setMany : Int32) (iM_someOf : Int32) (iM_allOf : Int32) (iM_allWeight : Int64) (iM_enoughWeight : Int64) (iM_worthSum : Int64) (iM_firstRest : Int32) (iM_leastDrawn : Int32) (sA : Nat) (sV : Nat) (sN : Nat) (sF : Nat → Int32) (b_iM_taped : 0 ≤ iM_taped.toInt ∧ iM_taped.toInt ≤ 900) (b_iM_size : 0 ≤ iM_size.toInt ∧ iM_size.toInt ≤ 900) (b_iM_end : 0 ≤ iM_end.toInt ∧ iM_end.toInt ≤ 900) (b_iM_nameSize : 0 ≤ iM_nameSize.toInt ∧ iM_nameSize.toInt ≤ 900) (b_iM_failed : 0 ≤ iM_failed.toInt ∧ iM_failed.toInt ≤ 1) (b_iM_hasCourt : 0 ≤ iM_hasCourt.toInt ∧ iM_hasCourt.toInt ≤ 1) (b_iM_undos : 0 ≤ iM_undos.toInt ∧ iM_undos.toInt ≤ 16) (b_iM_images : 0 ≤ iM_images.toInt ∧ iM_images.toInt ≤ 3) (b_iM_scale : 1 ≤ iM_scale.toInt ∧ iM_scale.toInt ≤ 1296) (b_iM_breaths : 0 ≤ iM_breaths.toInt ∧ iM_breaths.toInt ≤ 399) (b_iM_cutMany : 0 ≤ iM_cutMany.toInt ∧ iM_cutMany.toInt ≤ 399) (r_T : ImpP (iM_token.toInt = 2) (iM_nameSize.toInt ≤ 8)) (hsn : sN ≤ 8) : Met l yX7_isWord (Cond.code yX7_isWord cX7_isWord 4 (some .boolean) :: wG) ({ frames := 4, cells := 0, slots := 0, locals := 111 }) (va_Pc [.ref oM, .ref sA] (Pq dC dI sz [(oc7 oM iM_thrown rM_tape iM_taped iM_size iM_at iM_end iM_token iM_whole iM_nameSize iM_fault iM_place iM_trouble rM_letters iM_failed iM_hasCourt rM_r rM_fresh rM_told rM_read rM_st rM_undone rM_kept iM_undos iM_images rM_fresher iM_fresherSize iM_scale iM_night rM_heardRow rM_cutRow iM_breaths iM_cutMany iM_allBreaths rM_trial rM_words iM_fewestBreaths iM_orderMany iM_orderSum iM_leastOrder rM_often iM_setMany iM_someOf iM_allOf iM_allWeight iM_enoughWeight iM_worthSum iM_firstRest iM_leastDrawn), (arI rM_letters kM_letters 8 fM_letters)] [(kM_letters, .int)] sA sV sN sF)) (va_Qi (fun (r : Int32) (_ : Nat) => ((r = 0 ∨ r = 1) ∧ (r.toInt = 1 → iM_token.toInt = 2)) ∧ PX7_isWord iM_token iM_nameSize fM_letters iM_failed sN sF = r) (fun (_ : Nat) (t : State) => Bw dC dI (va_A [(oc7 oM iM_thrown rM_tape iM_taped iM_size iM_at iM_end iM_token iM_whole iM_nameSize iM_fault iM_place iM_trouble rM_letters iM_failed iM_hasCourt rM_r rM_fresh rM_told rM_read rM_st rM_undone rM_kept iM_undos iM_images rM_fresher iM_fresherSize iM_scale iM_night rM_heardRow rM_cutRow iM_breaths iM_cutMany iM_allBreaths rM_trial rM_words iM_fewestBreaths iM_orderMany iM_orderSum iM_leastOrder rM_often iM_setMany iM_someOf iM_allOf iM_allWeight iM_enoughWeight iM_worthSum iM_firstRest iM_leastDrawn), (arI rM_letters kM_letters 8 fM_letters)] sz) [(oc7 oM iM_thrown rM_tape iM_taped iM_size iM_at iM_end iM_token iM_whole iM_nameSize iM_fault iM_place iM_trouble rM_letters iM_failed iM_hasCourt rM_r rM_fresh rM_told rM_read rM_st rM_undone rM_kept iM_undos iM_images rM_fresher iM_fresherSize iM_scale iM_night rM_heardRow rM_cutRow iM_breaths iM_cutMany iM_allBreaths rM_trial rM_words iM_fewestBreaths iM_orderMany iM_orderSum iM_leastOrder rM_often iM_setMany iM_someOf iM_allOf iM_allWeight iM_enoughWeight iM_worthSum iM_firstRest iM_leastDrawn), (arI rM_letters kM_letters 8 fM_letters)] [(kM_letters, .int)] t) (va_A [(oc7 oM iM_thrown rM_tape iM_taped iM_size iM_at iM_end iM_token iM_whole iM_nameSize iM_fault iM_place iM_trouble rM_letters iM_failed iM_hasCourt rM_r rM_fresh rM_told rM_read rM_st rM_undone rM_kept iM_undos iM_images rM_fresher iM_fresherSize iM_scale iM_night rM_heardRow rM_cutRow iM_breaths iM_cutMany iM_allBreaths rM_trial rM_words iM_fewestBreaths iM_orderMany iM_orderSum iM_leastOrder rM_often iM_setMany iM_someOf iM_allOf iM_allWeight iM_enoughWeight iM_worthSum iM_firstRest iM_leastDrawn), (arI rM_letters kM_letters 8 fM_letters)] sz)) 0 0 (va_A [(oc7 oM iM_thrown rM_tape iM_taped iM_size iM_at iM_end iM_token iM_whole iM_nameSize iM_fault iM_place iM_trouble rM_letters iM_failed iM_hasCourt rM_r rM_fresh rM_told rM_read rM_st rM_undone rM_kept iM_undos iM_images rM_fresher iM_fresherSize iM_scale iM_night rM_heardRow rM_cutRow iM_breaths iM_cutMany iM_allBreaths rM_trial rM_words iM_fewestBreaths iM_orderMany iM_orderSum iM_leastOrder rM_often iM_setMany iM_someOf iM_allOf iM_allWeight iM_enoughWeight iM_worthSum iM_firstRest iM_leastDrawn), (arI rM_letters kM_letters 8 fM_letters)] sz) := by
  refine Met.ofW (cc := cX7_isWord) (maxL := 4) (ret := (some .boolean)) pnX7 rfl ?_
  intro p e s m args below meth c s₁ B hml hv
  obtain ⟨rfl, ⟨hsz, hP, hK, hD0, hE⟩, hSw⟩ := hv
  have hx := B.exec
  have hb := B.bytes
  have hr := B.returns
  have hts : ∀ w ∈ wG, w.before ([.ref oM, .ref sA] : List Value).toArray s = true := fun w h => atoms_spec (ws := Cond.code yX7_isWord cX7_isWord 4 (some .boolean) :: wG) B.pre w (List.mem_cons_of_mem _ h)
  have hown : s.vm.findClass RX7 = some m.cls := own_of B.named rfl
  have hlocks := B.notSynchronized
  subst hsz
  have hD := hD0.self (sz := s.heap.size)
  generalize hAe : va_A [(oc7 oM iM_thrown rM_tape iM_taped iM_size iM_at iM_end iM_token iM_whole iM_nameSize iM_fault iM_place iM_trouble rM_letters iM_failed iM_hasCourt rM_r rM_fresh rM_told rM_read rM_st rM_undone rM_kept iM_undos iM_images rM_fresher iM_fresherSize iM_scale iM_night rM_heardRow rM_cutRow iM_breaths iM_cutMany iM_allBreaths rM_trial rM_words iM_fewestBreaths iM_orderMany iM_orderSum iM_leastOrder rM_often iM_setMany iM_someOf iM_allOf iM_allWeight iM_enoughWeight iM_worthSum iM_firstRest iM_leastDrawn), (arI rM_letters kM_letters 8 fM_letters)] s.heap.size = A at hD hE hSw ⊢
  have hA : ∀ q : Nat, s.heap.size ≤ q → A q := fun q h => by rw [← hAe]; exact Or.inr h
  have hS : va_S A s.heap s.heap [] := va_S.rf
  have hl := lv_entry ([.ref oM, .ref sA]) (n := 4) (Nat.le_of_ble_eq_true rfl)
  rw [lg_entry_eq]
  generalize (lg_sl ([.ref oM, .ref sA]) ++ List.replicate (4 - (lg_sl ([.ref oM, .ref sA])).length) Slot.unset).toArray = ls at hl ⊢
  have hl : lv_has ls 4 [(0, .ref oM), (1, .ref sA)] := hl
  have hG := PX7_isWord_eq iM_token iM_nameSize fM_letters iM_failed sN sF
  have hsN9 : (sN : Int) ≤ 8 := Int.ofNat_le.mpr hsn
  have hsN0 : 0 ≤ (sN : Int) := Int.natCast_nonneg _
  refine lv_aload_n hx hb dX7_isWord_0 rfl (lv_at hl 0 rfl) ?_
  refine va_get (D := (dC, dI)) (ci := 7) (v := .int iM_failed) (C := RX7) (T := TX7) (N := 48) hx hb hts inX7 hown hK hP 0 rfl rfl 13 (by decide) (hts _ wd_380) (fun _ h9 => h9) rfl dX7_isWord_1 ?_
  refine lv_if_ne (tgt := 26) hx hb dX7_isWord_4 (by decide) (fun c_4851 => ?_) (fun c_4851 => ?_)
  · skip
    have hG := hG.trans (if_neg c_4851)
    have gc_4851 := ti_ne c_4851 rfl kc_0
    replace gc_4851 : (-1) * iM_failed.toInt + 1 ≤ 0 := om_e3003f79 gc_4851 b_iM_failed.1
    refine lv_iconst (v := 0) hx hb dX7_isWord_26 (by decide) ?_
    exact wq_z (v := 0) hx hb hr rfl 0 ⟨⟨Or.inl rfl, (by have q := kc_0; first | omega | assumption)⟩, hG⟩ (fun t ht hW => Bw.to hP hD hK ht hW) hS dX7_isWord_27 hlocks
  · skip
    have hG := hG.trans (if_pos c_4851)
    have gc_4851 := ti_eq c_4851 rfl kc_0
    refine lv_aload_n hx hb dX7_isWord_7 rfl (lv_at hl 0 rfl) ?_
    refine va_get (D := (dC, dI)) (ci := 7) (v := .int iM_token) (C := RX7) (T := TX7) (N := 48) hx hb hts inX7 hown hK hP 0 rfl rfl 6 (by decide) (hts _ wd_383) (fun _ h9 => h9) rfl dX7_isWord_8 ?_
    refine lv_iconst (v := 2) hx hb dX7_isWord_11 (by decide) ?_
    refine lv_icmp_ne (tgt := 26) hx hb dX7_isWord_12 (by decide) (fun c_4852 => ?_) (fun c_4852 => ?_)
    · skip
      have hG := hG.trans (if_neg c_4852)
      have gc_4852 := ti_ne c_4852 rfl kc_2
      refine lv_iconst (v := 0) hx hb dX7_isWord_26 (by decide) ?_
      exact wq_z (v := 0) hx hb hr rfl 0 ⟨⟨Or.inl rfl, (by have q := kc_0; first | omega | assumption)⟩, hG⟩ (fun t ht hW => Bw.to hP hD hK ht hW) hS dX7_isWord_27 hlocks
    · skip
      have hG := hG.trans (if_pos c_4852)
      have gc_4852 := ti_eq c_4852 rfl kc_2
      have h_4853 : iM_nameSize.toInt ≤ 8 := r_T gc_4852
      clear r_T
      refine lv_aload_n hx hb dX7_isWord_15 rfl (lv_at hl 0 rfl) ?_
      refine va_get (D := (dC, dI)) (ci := 7) (v := .int iM_nameSize) (C := RX7) (T := TX7) (N := 48) hx hb hts inX7 hown hK hP 0 rfl rfl 8 (by decide) (hts _ wd_404) (fun _ h9 => h9) rfl dX7_isWord_16 ?_
      refine lv_aload_n hx hb dX7_isWord_19 rfl (lv_at hl 1 rfl) ?_
      have hFc : ∀ q, va_A [] _ q → A q := fun q h => hA q (Nat.le_trans hS.1 (va_nilA h))
      refine va_calli (va_runV (As := []) (rest := [.int iM_nameSize]) ⟨hx, hb, hml, hown, hts⟩ (c_length l dC dI _ sA sV sN sF) (cwV 0 hts (wd_V wd_424 wd_72 wd_73 wd_74 (wd_c wd_75)) rfl rfl rfl (by decide +kernel) ⟨Nat.le_of_ble_eq_true rfl, Nat.le_of_ble_eq_true rfl⟩) ⟨Ps.fb, va_Orecv hSw.1 hS, fun U hU hW => Ps.to hK hSw hE hS hA hU hW⟩ rfl rfl hl.1 rfl (lv_room (Nat.le_of_ble_eq_true rfl)) dX7_isWord_20 ⟨Nat.le_of_ble_eq_true rfl, Nat.le_of_ble_eq_true rfl⟩) hS (fun q _ h => hFc q h) hFc (fun r u t H locs ht hvm hw hB hz1 hk1 hS => ?_)
      obtain ⟨hP, hD, hK⟩ := Bw.same ht hvm hP hD hK hk1 hFc
      clear hz1 hk1 hvm ht hB
      obtain ⟨x_4854, rfl⟩ : ∃ z, z = r := ⟨_, rfl⟩
      have hG := hG.trans (lt_eq hw)
      have vx_4854 : x_4854.toInt = (sN : Int) := by rw [hw]; exact nI_toInt (by omega)
      refine lv_icmp_eq (tgt := 28) hx hb dX7_isWord_23 (by decide) (fun c_4855 => ?_) (fun c_4855 => ?_)
      · skip
        have hG := hG.trans (if_pos c_4855)
        have gc_4855 := ti_eq c_4855 rfl vx_4854
        refine lv_iconst (v := 1) hx hb dX7_isWord_28 (by decide) ?_
        refine lv_istore_n (lv' := [(2, .int 1), (0, .ref oM), (1, .ref sA)]) hx hb dX7_isWord_29 rfl hl (by decide) rfl (fun ls hl => ?_)
        refine lv_iconst (v := 0) hx hb dX7_isWord_30 (by decide) ?_
        refine lv_istore_n (lv' := [(3, .int 0), (2, .int 1), (0, .ref oM), (1, .ref sA)]) hx hb dX7_isWord_31 rfl hl (by decide) rfl (fun ls hl => ?_)
        have hl := lv_sub hl (l' := [(3, .int 0), (2, .int 1), (0, .ref oM), (1, .ref sA)]) [0, 1, 2, 3] rfl
        have key_n_4858 : ∀ (n_4858 : Nat) (z_4856 : Int32) (z_4857 : Int32) (H : Heap) (locs : List Loc) (ls : Array Slot), (0 ≤ z_4856.toInt ∧ z_4856.toInt ≤ iM_nameSize.toInt) → (0 ≤ z_4857.toInt ∧ z_4857.toInt ≤ 1) → (iM_nameSize.toInt - z_4856.toInt).toNat < n_4858 → (PX7_isWord iM_token iM_nameSize fM_letters iM_failed sN sF = HX7_isWord_0 iM_nameSize fM_letters sF n_4858 z_4856 z_4857) → va_P (dC, dI) vwCl [(oc7 oM iM_thrown rM_tape iM_taped iM_size iM_at iM_end iM_token iM_whole iM_nameSize iM_fault iM_place iM_trouble rM_letters iM_failed iM_hasCourt rM_r rM_fresh rM_told rM_read rM_st rM_undone rM_kept iM_undos iM_images rM_fresher iM_fresherSize iM_scale iM_night rM_heardRow rM_cutRow iM_breaths iM_cutMany iM_allBreaths rM_trial rM_words iM_fewestBreaths iM_orderMany iM_orderSum iM_leastOrder rM_often iM_setMany iM_someOf iM_allOf iM_allWeight iM_enoughWeight iM_worthSum iM_firstRest iM_leastDrawn), (arI rM_letters kM_letters 8 fM_letters)] H → va_D A [(oc7 oM iM_thrown rM_tape iM_taped iM_size iM_at iM_end iM_token iM_whole iM_nameSize iM_fault iM_place iM_trouble rM_letters iM_failed iM_hasCourt rM_r rM_fresh rM_told rM_read rM_st rM_undone rM_kept iM_undos iM_images rM_fresher iM_fresherSize iM_scale iM_night rM_heardRow rM_cutRow iM_breaths iM_cutMany iM_allBreaths rM_trial rM_words iM_fewestBreaths iM_orderMany iM_orderSum iM_leastOrder rM_often iM_setMany iM_someOf iM_allOf iM_allWeight iM_enoughWeight iM_worthSum iM_firstRest iM_leastDrawn), (arI rM_letters kM_letters 8 fM_letters)] → va_S A s.heap H locs → lv_has ls 4 [(3, .int z_4856), (2, .int z_4857), (0, .ref oM), (1, .ref sA)] → W p l e (headSpec (Cond.code yX7_isWord cX7_isWord 4 (some .boolean) :: wG) ({ frames := 4, cells := 0, slots := 0, locals := 111 })).room s m ([.ref oM, .ref sA] : List Value).toArray below meth c H locs 0 0 (MQ below (va_Qi (fun (r : Int32) (_ : Nat) => ((r = 0 ∨ r = 1) ∧ (r.toInt = 1 → iM_token.toInt = 2)) ∧ PX7_isWord iM_token iM_nameSize fM_letters iM_failed sN sF = r) (fun (_ : Nat) (t : State) => Bw dC dI A [(oc7 oM iM_thrown rM_tape iM_taped iM_size iM_at iM_end iM_token iM_whole iM_nameSize iM_fault iM_place iM_trouble rM_letters iM_failed iM_hasCourt rM_r rM_fresh rM_told rM_read rM_st rM_undone rM_kept iM_undos iM_images rM_fresher iM_fresherSize iM_scale iM_night rM_heardRow rM_cutRow iM_breaths iM_cutMany iM_allBreaths rM_trial rM_words iM_fewestBreaths iM_orderMany iM_orderSum iM_leastOrder rM_often iM_setMany iM_someOf iM_allOf iM_allWeight iM_enoughWeight iM_worthSum iM_firstRest iM_leastDrawn), (arI rM_letters kM_letters 8 fM_letters)] [(kM_letters, .int)] t) A) ([.ref oM, .ref sA] : List Value).toArray s 0 0 A) (F0 m 32 ls []) := by
          intro n_4858
          induction n_4858 with
          | zero => intro z_4856 z_4857 H locs ls hi0_n_4858 hi1_n_4858 hm; exact absurd hm (Nat.not_lt_zero _)
          | succ n_4858 ih_n_4858 =>
            intro z_4856 z_4857 H locs ls hi0_n_4858 hi1_n_4858 hm_n_4858 hG hP hD hS hl
            have hG := hG.trans (HX7_isWord_0_eq _ _ _ _ _ _)
            refine lv_iload_n hx hb dX7_isWord_32 rfl (lv_at hl 0 rfl) ?_
            refine lv_aload_n hx hb dX7_isWord_33 rfl (lv_at hl 2 rfl) ?_
            refine va_get (D := (dC, dI)) (ci := 7) (v := .int iM_nameSize) (C := RX7) (T := TX7) (N := 48) hx hb hts inX7 hown hK hP 0 rfl rfl 8 (by decide) (hts _ wd_404) (fun _ h9 => h9) rfl dX7_isWord_34 ?_
            refine lv_icmp_ge (tgt := 70) hx hb dX7_isWord_37 (by decide) (fun c_4859 => ?_) (fun c_4859 => ?_)
            · skip
              have hG := hG.trans (if_pos c_4859)
              have gc_4859 := ti_le c_4859 rfl rfl
              refine lv_iload_n hx hb dX7_isWord_70 rfl (lv_at hl 1 rfl) ?_
              exact wq_z (v := z_4857) hx hb hr (bz_nar (bz_of (by omega))) 0 ⟨⟨(bz_of (by omega)), (by first | omega | assumption)⟩, hG⟩ (fun t ht hW => Bw.to hP hD hK ht hW) hS dX7_isWord_71 hlocks
            · skip
              have hG := hG.trans (if_neg c_4859)
              have gc_4859 := ti_nle c_4859 rfl rfl
              refine lv_iload_n hx hb dX7_isWord_40 rfl (lv_at hl 1 rfl) ?_
              refine lv_if_eq (tgt := 62) hx hb dX7_isWord_41 (by decide) (fun c_4860 => ?_) (fun c_4860 => ?_)
              · skip
                have hG := hG.trans (if_pos c_4860)
                have gc_4860 := ti_eq c_4860 rfl kc_0
                refine lv_iconst (v := 0) hx hb dX7_isWord_62 (by decide) ?_
                refine lv_istore_n (lv' := [(2, .int 0), (3, .int z_4856), (0, .ref oM), (1, .ref sA)]) hx hb dX7_isWord_63 rfl hl (by decide) rfl (fun ls hl => ?_)
                obtain ⟨x_4861, ex_4861⟩ : ∃ z : Int32, z = z_4856 + Int32.ofInt 1 := ⟨_, rfl⟩
                have hG := hG.trans (lt_eq ex_4861)
                have vx_4861 : x_4861.toInt = z_4856.toInt + 1 := ti_add (y := 1) ex_4861 rfl kc_1 (om_4e4fce7e hi0_n_4858.1) (om_c8677ab2 b_iM_nameSize.2 hi0_n_4858.2)
                refine lv_iinc (v := x_4861) (lv' := [(3, .int x_4861), (2, .int 0), (0, .ref oM), (1, .ref sA)]) hx hb dX7_isWord_64 hl (k := 1) rfl ex_4861.symm (by decide) rfl (fun ls hl => ?_)
                refine lv_goto (tgt := 32) hx hb dX7_isWord_67 (by decide) ?_
                exact ih_n_4858 x_4861 0 _ _ _  ⟨(om_83b90de5 hi0_n_4858.1 vx_4861), (om_afcf07ef gc_4859 vx_4861)⟩ ⟨(om_b1de7dbe kc_0), (om_270f4ea0 kc_0)⟩ (ms_lt hm_n_4858 (om_dd4ae0bc vx_4861) (om_d5382009 gc_4859)) hG hP hD hS (lv_sub hl [0, 1, 2, 3] rfl)
              · skip
                have hG := hG.trans (if_neg c_4860)
                have gc_4860 := ti_ne c_4860 rfl kc_0
                replace gc_4860 : (-1) * z_4857.toInt + 1 ≤ 0 := om_e3003f79 gc_4860 hi1_n_4858.1
                refine lv_aload_n hx hb dX7_isWord_44 rfl (lv_at hl 2 rfl) ?_
                refine va_get (D := (dC, dI)) (ci := 7) (v := .ref rM_letters) (C := RX7) (T := TX7) (N := 48) hx hb hts inX7 hown hK hP 0 rfl rfl 12 (by decide) (hts _ wd_154) (fun _ h9 => h9) rfl dX7_isWord_45 ?_
                refine lv_iload_n hx hb dX7_isWord_48 rfl (lv_at hl 0 rfl) ?_
                refine va_iald hx hb hK hP 1 0 rfl rfl (ti_in rfl hi0_n_4858.1 (om_9badf829 h_4853 gc_4859)) dX7_isWord_49 ?_
                refine lv_topi (fun x_4862 ex_4862 => ?_)
                have hG := hG.trans (lt_eq ex_4862)
                have kx_4862 : (fM_letters z_4856.toNatClampNeg).toInt = x_4862.toInt := by rw [ex_4862]
                have cx_4862 := kx_4862
                refine lv_aload_n hx hb dX7_isWord_50 rfl (lv_at hl 3 rfl) ?_
                refine lv_iload_n hx hb dX7_isWord_51 rfl (lv_at hl 0 rfl) ?_
                have hFc : ∀ q, va_A [] _ q → A q := fun q h => hA q (Nat.le_trans hS.1 (va_nilA h))
                refine va_calli (va_runV (As := [.int z_4856]) (rest := [.int x_4862]) ⟨hx, hb, hml, hown, hts⟩ (c_charAt32 l dC dI _ sA sV sN sF z_4856 hi0_n_4858.1 (om_9a0d23dc gc_4855 gc_4859) hsn) (cwV 1 hts (wd_V wd_425 wd_84 wd_85 wd_74 (wd_c wd_86)) rfl rfl rfl (by decide +kernel) ⟨Nat.le_of_ble_eq_true rfl, Nat.le_of_ble_eq_true rfl⟩) ⟨Ps.fb, va_Orecv hSw.1 hS, fun U hU hW => Ps.to hK hSw hE hS hA hU hW⟩ rfl rfl hl.1 rfl (lv_room (Nat.le_of_ble_eq_true rfl)) dX7_isWord_52 ⟨Nat.le_of_ble_eq_true rfl, Nat.le_of_ble_eq_true rfl⟩) hS (fun q _ h => hFc q h) hFc (fun r u t H locs ht hvm hw hB hz1 hk1 hS => ?_)
                obtain ⟨hP, hD, hK⟩ := Bw.same ht hvm hP hD hK hk1 hFc
                clear hz1 hk1 hvm ht hB
                obtain ⟨x_4863, rfl⟩ : ∃ z, z = r := ⟨_, rfl⟩
                have hG := hG.trans (lt_eq hw.2)
                refine lv_icmp_ne (tgt := 62) hx hb dX7_isWord_55 (by decide) (fun c_4864 => ?_) (fun c_4864 => ?_)
                · skip
                  have hG := hG.trans (if_neg c_4864)
                  have gc_4864 := ti_ne c_4864 rfl rfl
                  refine lv_iconst (v := 0) hx hb dX7_isWord_62 (by decide) ?_
                  refine lv_istore_n (lv' := [(2, .int 0), (3, .int z_4856), (0, .ref oM), (1, .ref sA)]) hx hb dX7_isWord_63 rfl hl (by decide) rfl (fun ls hl => ?_)
                  obtain ⟨x_4865, ex_4865⟩ : ∃ z : Int32, z = z_4856 + Int32.ofInt 1 := ⟨_, rfl⟩
                  have hG := hG.trans (lt_eq ex_4865)
                  have vx_4865 : x_4865.toInt = z_4856.toInt + 1 := ti_add (y := 1) ex_4865 rfl kc_1 (om_4e4fce7e hi0_n_4858.1) (om_c8677ab2 b_iM_nameSize.2 hi0_n_4858.2)
                  refine lv_iinc (v := x_4865) (lv' := [(3, .int x_4865), (2, .int 0), (0, .ref oM), (1, .ref sA)]) hx hb dX7_isWord_64 hl (k := 1) rfl ex_4865.symm (by decide) rfl (fun ls hl => ?_)
                  refine lv_goto (tgt := 32) hx hb dX7_isWord_67 (by decide) ?_
                  exact ih_n_4858 x_4865 0 _ _ _  ⟨(om_83b90de5 hi0_n_4858.1 vx_4865), (om_afcf07ef gc_4859 vx_4865)⟩ ⟨(om_b1de7dbe kc_0), (om_270f4ea0 kc_0)⟩ (ms_lt hm_n_4858 (om_dd4ae0bc vx_4865) (om_d5382009 gc_4859)) hG hP hD hS (lv_sub hl [0, 1, 2, 3] rfl)
                · skip
                  have hG := hG.trans (if_pos c_4864)
                  have gc_4864 := ti_eq c_4864 rfl rfl
                  refine lv_iconst (v := 1) hx hb dX7_isWord_58 (by decide) ?_
                  refine lv_goto (tgt := 63) hx hb dX7_isWord_59 (by decide) ?_
                  refine lv_istore_n (lv' := [(2, .int 1), (3, .int z_4856), (0, .ref oM), (1, .ref sA)]) hx hb dX7_isWord_63 rfl hl (by decide) rfl (fun ls hl => ?_)
                  obtain ⟨x_4866, ex_4866⟩ : ∃ z : Int32, z = z_4856 + Int32.ofInt 1 := ⟨_, rfl⟩
                  have hG := hG.trans (lt_eq ex_4866)
                  have vx_4866 : x_4866.toInt = z_4856.toInt + 1 := ti_add (y := 1) ex_4866 rfl kc_1 (om_4e4fce7e hi0_n_4858.1) (om_c8677ab2 b_iM_nameSize.2 hi0_n_4858.2)
                  refine lv_iinc (v := x_4866) (lv' := [(3, .int x_4866), (2, .int 1), (0, .ref oM), (1, .ref sA)]) hx hb dX7_isWord_64 hl (k := 1) rfl ex_4866.symm (by decide) rfl (fun ls hl => ?_)
                  refine lv_goto (tgt := 32) hx hb dX7_isWord_67 (by decide) ?_
                  exact ih_n_4858 x_4866 1 _ _ _  ⟨(om_83b90de5 hi0_n_4858.1 vx_4866), (om_afcf07ef gc_4859 vx_4866)⟩ ⟨(om_1b364b1c kc_1), (om_02032f93 kc_1)⟩ (ms_lt hm_n_4858 (om_dd4ae0bc vx_4866) (om_d5382009 gc_4859)) hG hP hD hS (lv_sub hl [0, 1, 2, 3] rfl)
        exact key_n_4858 (((iM_nameSize.toInt - (0 : Int32).toInt).toNat) + 1) 0 1 _ _ _  ⟨(om_b1de7dbe kc_0), (om_2dfe280d b_iM_nameSize.1 kc_0)⟩ ⟨(om_1b364b1c kc_1), (om_02032f93 kc_1)⟩ (Nat.lt_add_one _) hG hP hD hS hl
      · skip
        have hG := hG.trans (if_neg c_4855)
        have gc_4855 := ti_ne c_4855 rfl vx_4854
        refine lv_iconst (v := 0) hx hb dX7_isWord_26 (by decide) ?_
        exact wq_z (v := 0) hx hb hr rfl 0 ⟨⟨Or.inl rfl, (by have q := kc_0; first | omega | assumption)⟩, hG⟩ (fun t ht hW => Bw.to hP hD hK ht hW) hS dX7_isWord_27 hlocks
set_option maxHeartbeats 4000000 in
set_option maxRecDepth 100000 in
theorem tX7_takesWord (l : Launch) (dC : Nat → ClassId) (dI : Nat → Nat → Nat) (sz : Nat) (oM : Nat) (iM_thrown : Int32) (rM_tape : Nat) (fM_tape : Nat → Int32) (kM_tape : ClassId) (iM_taped : Int32) (iM_size : Int32) (iM_at : Int32) (iM_end : Int32) (iM_token : Int32) (iM_whole : Int32) (iM_nameSize : Int32) (iM_fault : Int32) (iM_place : Int32) (iM_trouble : Int32) (rM_letters : Nat) (fM_letters : Nat → Int32) (kM_letters : ClassId) (iM_failed : Int32) (iM_hasCourt : Int32) (rM_r : Nat) (rM_fresh : Nat) (rM_told : Nat) (rM_read : Nat) (rM_st : Nat) (rM_undone : Nat) (rM_kept : Nat) (iM_undos : Int32) (iM_images : Int32) (rM_fresher : Nat) (iM_fresherSize : Int32) (iM_scale : Int32) (iM_night : Int32) (rM_heardRow : Nat) (rM_cutRow : Nat) (iM_breaths : Int32) (iM_cutMany : Int32) (iM_allBreaths : Int32) (rM_trial : Nat) (rM_words : Nat) (iM_fewestBreaths : Int32) (iM_orderMany : Int32) (iM_orderSum : Int32) (iM_leastOrder : Int32) (rM_often : Nat) (iM_setMany : Int32) (iM_someOf : Int32) (iM_allOf : Int32) (iM_allWeight : Int64) (iM_enoughWeight : Int64) (iM_worthSum : Int64) (iM_firstRest : Int32) (iM_leastDrawn : Int32) (sA : Nat) (sV : Nat) (sN : Nat) (sF : Nat → Int32) (b_iM_taped : 0 ≤ iM_taped.toInt ∧ iM_taped.toInt ≤ 900) (b_iM_size : 0 ≤ iM_size.toInt ∧ iM_size.toInt ≤ 900) (b_iM_end : 0 ≤ iM_end.toInt ∧ iM_end.toInt ≤ 900) (b_iM_nameSize : 0 ≤ iM_nameSize.toInt ∧ iM_nameSize.toInt ≤ 900) (b_iM_failed : 0 ≤ iM_failed.toInt ∧ iM_failed.toInt ≤ 1) (b_iM_hasCourt : 0 ≤ iM_hasCourt.toInt ∧ iM_hasCourt.toInt ≤ 1) (b_iM_undos : 0 ≤ iM_undos.toInt ∧ iM_undos.toInt ≤ 16) (b_iM_images : 0 ≤ iM_images.toInt ∧ iM_images.toInt ≤ 3) (b_iM_scale : 1 ≤ iM_scale.toInt ∧ iM_scale.toInt ≤ 1296) (b_iM_breaths : 0 ≤ iM_breaths.toInt ∧ iM_breaths.toInt ≤ 399) (b_iM_cutMany : 0 ≤ iM_cutMany.toInt ∧ iM_cutMany.toInt ≤ 399) (r_T : ImpP (iM_token.toInt = 2) (iM_nameSize.toInt ≤ 8)) (hsn : sN ≤ 8) : Met l yX7_takesWord (Cond.code yX7_takesWord cX7_takesWord 2 (some .boolean) :: wG) ({ frames := 5, cells := 0, slots := 0, locals := 134 }) (va_Pc [.ref oM, .ref sA] (Pq dC dI sz [(oc7 oM iM_thrown rM_tape iM_taped iM_size iM_at iM_end iM_token iM_whole iM_nameSize iM_fault iM_place iM_trouble rM_letters iM_failed iM_hasCourt rM_r rM_fresh rM_told rM_read rM_st rM_undone rM_kept iM_undos iM_images rM_fresher iM_fresherSize iM_scale iM_night rM_heardRow rM_cutRow iM_breaths iM_cutMany iM_allBreaths rM_trial rM_words iM_fewestBreaths iM_orderMany iM_orderSum iM_leastOrder rM_often iM_setMany iM_someOf iM_allOf iM_allWeight iM_enoughWeight iM_worthSum iM_firstRest iM_leastDrawn), (arI rM_tape kM_tape 900 fM_tape), (arI rM_letters kM_letters 8 fM_letters)] [(kM_tape, .int), (kM_letters, .int)] sA sV sN sF)) (va_Qi (fun (r : Int32) (u : Nat) => ((r = 0 ∨ r = 1) ∧ (r.toInt = (u : Int))) ∧ r = Int32.ofNat u) (fun (u : Nat) (t : State) => ∃ (niM_at : Int32) (niM_end : Int32) (niM_token : Int32) (niM_whole : Int32) (niM_nameSize : Int32) (nfM_letters : Nat → Int32), (0 ≤ niM_end.toInt ∧ niM_end.toInt ≤ 900) ∧ (0 ≤ niM_nameSize.toInt ∧ niM_nameSize.toInt ≤ 900) ∧ (iM_end.toInt ≤ niM_end.toInt) ∧ (ImpP (niM_token.toInt = 2) (niM_nameSize.toInt ≤ 8)) ∧ (ImpP ((u : Int) = 1 ∧ niM_token.toInt = 59 ) (iM_end.toInt + 1 ≤ niM_end.toInt)) ∧ (PX7_takesWord fM_tape iM_size iM_at iM_end iM_token iM_whole iM_nameSize fM_letters iM_failed sN sF = (Int32.ofNat u, niM_at, niM_end, niM_token, niM_whole, niM_nameSize, nfM_letters)) ∧ Bw dC dI (va_A [(oc7 oM iM_thrown rM_tape iM_taped iM_size iM_at iM_end iM_token iM_whole iM_nameSize iM_fault iM_place iM_trouble rM_letters iM_failed iM_hasCourt rM_r rM_fresh rM_told rM_read rM_st rM_undone rM_kept iM_undos iM_images rM_fresher iM_fresherSize iM_scale iM_night rM_heardRow rM_cutRow iM_breaths iM_cutMany iM_allBreaths rM_trial rM_words iM_fewestBreaths iM_orderMany iM_orderSum iM_leastOrder rM_often iM_setMany iM_someOf iM_allOf iM_allWeight iM_enoughWeight iM_worthSum iM_firstRest iM_leastDrawn), (arI rM_tape kM_tape 900 fM_tape), (arI rM_letters kM_letters 8 fM_letters)] sz) [(oc7 oM iM_thrown rM_tape iM_taped iM_size niM_at niM_end niM_token niM_whole niM_nameSize iM_fault iM_place iM_trouble rM_letters iM_failed iM_hasCourt rM_r rM_fresh rM_told rM_read rM_st rM_undone rM_kept iM_undos iM_images rM_fresher iM_fresherSize iM_scale iM_night rM_heardRow rM_cutRow iM_breaths iM_cutMany iM_allBreaths rM_trial rM_words iM_fewestBreaths iM_orderMany iM_orderSum iM_leastOrder rM_often iM_setMany iM_someOf iM_allOf iM_allWeight iM_enoughWeight iM_worthSum iM_firstRest iM_leastDrawn), (arI rM_tape kM_tape 900 fM_tape), (arI rM_letters kM_letters 8 nfM_letters)] [(kM_tape, .int), (kM_letters, .int)] t) (va_A [(oc7 oM iM_thrown rM_tape iM_taped iM_size iM_at iM_end iM_token iM_whole iM_nameSize iM_fault iM_place iM_trouble rM_letters iM_failed iM_hasCourt rM_r rM_fresh rM_told rM_read rM_st rM_undone rM_kept iM_undos iM_images rM_fresher iM_fresherSize iM_scale iM_night rM_heardRow rM_cutRow iM_breaths iM_cutMany iM_allBreaths rM_trial rM_words iM_fewestBreaths iM_orderMany iM_orderSum iM_leastOrder rM_often iM_setMany iM_someOf iM_allOf iM_allWeight iM_enoughWeight iM_worthSum iM_firstRest iM_leastDrawn), (arI rM_tape kM_tape 900 fM_tape), (arI rM_letters kM_letters 8 fM_letters)] sz)) 0 0 (va_A [(oc7 oM iM_thrown rM_tape iM_taped iM_size iM_at iM_end iM_token iM_whole iM_nameSize iM_fault iM_place iM_trouble rM_letters iM_failed iM_hasCourt rM_r rM_fresh rM_told rM_read rM_st rM_undone rM_kept iM_undos iM_images rM_fresher iM_fresherSize iM_scale iM_night rM_heardRow rM_cutRow iM_breaths iM_cutMany iM_allBreaths rM_trial rM_words iM_fewestBreaths iM_orderMany iM_orderSum iM_leastOrder rM_often iM_setMany iM_someOf iM_allOf iM_allWeight iM_enoughWeight iM_worthSum iM_firstRest iM_leastDrawn), (arI rM_tape kM_tape 900 fM_tape), (arI rM_letters kM_letters 8 fM_letters)] sz) := by
  refine Met.ofW (cc := cX7_takesWord) (maxL := 2) (ret := (some .boolean)) pnX7 rfl ?_
  intro p e s m args below meth c s₁ B hml hv
  obtain ⟨rfl, ⟨hsz, hP, hK, hD0, hE⟩, hSw⟩ := hv
  have hx := B.exec
  have hb := B.bytes
  have hr := B.returns
  have hts : ∀ w ∈ wG, w.before ([.ref oM, .ref sA] : List Value).toArray s = true := fun w h => atoms_spec (ws := Cond.code yX7_takesWord cX7_takesWord 2 (some .boolean) :: wG) B.pre w (List.mem_cons_of_mem _ h)
  have hown : s.vm.findClass RX7 = some m.cls := own_of B.named rfl
  have hlocks := B.notSynchronized
  subst hsz
  have hD := hD0.self (sz := s.heap.size)
  generalize hAe : va_A [(oc7 oM iM_thrown rM_tape iM_taped iM_size iM_at iM_end iM_token iM_whole iM_nameSize iM_fault iM_place iM_trouble rM_letters iM_failed iM_hasCourt rM_r rM_fresh rM_told rM_read rM_st rM_undone rM_kept iM_undos iM_images rM_fresher iM_fresherSize iM_scale iM_night rM_heardRow rM_cutRow iM_breaths iM_cutMany iM_allBreaths rM_trial rM_words iM_fewestBreaths iM_orderMany iM_orderSum iM_leastOrder rM_often iM_setMany iM_someOf iM_allOf iM_allWeight iM_enoughWeight iM_worthSum iM_firstRest iM_leastDrawn), (arI rM_tape kM_tape 900 fM_tape), (arI rM_letters kM_letters 8 fM_letters)] s.heap.size = A at hD hE hSw ⊢
  have hA : ∀ q : Nat, s.heap.size ≤ q → A q := fun q h => by rw [← hAe]; exact Or.inr h
  have hS : va_S A s.heap s.heap [] := va_S.rf
  have hl := lv_entry ([.ref oM, .ref sA]) (n := 2) (Nat.le_of_ble_eq_true rfl)
  rw [lg_entry_eq]
  generalize (lg_sl ([.ref oM, .ref sA]) ++ List.replicate (2 - (lg_sl ([.ref oM, .ref sA])).length) Slot.unset).toArray = ls at hl ⊢
  have hl : lv_has ls 2 [(0, .ref oM), (1, .ref sA)] := hl
  have hG := PX7_takesWord_eq fM_tape iM_size iM_at iM_end iM_token iM_whole iM_nameSize fM_letters iM_failed sN sF
  have hsN9 : (sN : Int) ≤ 8 := Int.ofNat_le.mpr hsn
  have hsN0 : 0 ≤ (sN : Int) := Int.natCast_nonneg _
  refine lv_aload_n hx hb dX7_takesWord_0 rfl (lv_at hl 0 rfl) ?_
  refine lv_aload_n hx hb dX7_takesWord_1 rfl (lv_at hl 1 rfl) ?_
  have hMs := ml_of hD [true, false, true] (wc := [(oc7 oM iM_thrown rM_tape iM_taped iM_size iM_at iM_end iM_token iM_whole iM_nameSize iM_fault iM_place iM_trouble rM_letters iM_failed iM_hasCourt rM_r rM_fresh rM_told rM_read rM_st rM_undone rM_kept iM_undos iM_images rM_fresher iM_fresherSize iM_scale iM_night rM_heardRow rM_cutRow iM_breaths iM_cutMany iM_allBreaths rM_trial rM_words iM_fewestBreaths iM_orderMany iM_orderSum iM_leastOrder rM_often iM_setMany iM_someOf iM_allOf iM_allWeight iM_enoughWeight iM_worthSum iM_firstRest iM_leastDrawn), (arI rM_letters kM_letters 8 fM_letters)]) rfl
  have hFc := va_freeM hD hS hA _ hMs
  refine va_calli (va_runV (As := [.ref sA]) (rest := []) ⟨hx, hb, hml, hown, hts⟩ (tX7_isWord l dC dI _ oM iM_thrown rM_tape iM_taped iM_size iM_at iM_end iM_token iM_whole iM_nameSize iM_fault iM_place iM_trouble rM_letters fM_letters kM_letters iM_failed iM_hasCourt rM_r rM_fresh rM_told rM_read rM_st rM_undone rM_kept iM_undos iM_images rM_fresher iM_fresherSize iM_scale iM_night rM_heardRow rM_cutRow iM_breaths iM_cutMany iM_allBreaths rM_trial rM_words iM_fewestBreaths iM_orderMany iM_orderSum iM_leastOrder rM_often iM_setMany iM_someOf iM_allOf iM_allWeight iM_enoughWeight iM_worthSum iM_firstRest iM_leastDrawn sA sV sN sF b_iM_taped b_iM_size b_iM_end b_iM_nameSize b_iM_failed b_iM_hasCourt b_iM_undos b_iM_images b_iM_scale b_iM_breaths b_iM_cutMany r_T hsn) (cwV 1 hts (wd_V wd_420 wd_421 wd_422 wd_5 (wd_c wd_423)) rfl rfl rfl dv_yX7_isWord_1 ⟨Nat.le_of_ble_eq_true rfl, Nat.le_of_ble_eq_true rfl⟩) ⟨Pq.fb, recvX7 hK hP (q0 := 0) rfl, fun U hU hW => Pq.to (hP.ms _ hMs) (hD.ms _ hMs) (hK.ms [false, true] rfl) hSw hE hS hFc hU hW⟩ rfl rfl hl.1 rfl (lv_room (Nat.le_of_ble_eq_true rfl)) dX7_takesWord_2 ⟨Nat.le_of_ble_eq_true rfl, Nat.le_of_ble_eq_true rfl⟩) hS (fun q _ h => hFc q h) hFc (fun r u t H locs ht hvm hw hB hz1 hk1 hS => ?_)
  have hru9 := hw.2
  have hw := hw.1
  obtain ⟨hP, hD⟩ := Bw.goN (ws' := [(oc7 oM iM_thrown rM_tape iM_taped iM_size iM_at iM_end iM_token iM_whole iM_nameSize iM_fault iM_place iM_trouble rM_letters iM_failed iM_hasCourt rM_r rM_fresh rM_told rM_read rM_st rM_undone rM_kept iM_undos iM_images rM_fresher iM_fresherSize iM_scale iM_night rM_heardRow rM_cutRow iM_breaths iM_cutMany iM_allBreaths rM_trial rM_words iM_fewestBreaths iM_orderMany iM_orderSum iM_leastOrder rM_often iM_setMany iM_someOf iM_allOf iM_allWeight iM_enoughWeight iM_worthSum iM_firstRest iM_leastDrawn), (arI rM_tape kM_tape 900 fM_tape), (arI rM_letters kM_letters 8 fM_letters)]) hB rfl ht hP hD _ hMs hk1 hFc rfl
  clear hz1 hk1 hvm ht hB hMs
  obtain ⟨x_4877, rfl⟩ : ∃ z, z = r := ⟨_, rfl⟩
  have hG := hG.trans (lt_eq hru9.symm)
  have bx_4877 := hw.1
  have dx_4877 := bz_tb bx_4877
  have lx_4877 := hw.2
  refine lv_if_ne (tgt := 10) hx hb dX7_takesWord_5 (by decide) (fun c_4878 => ?_) (fun c_4878 => ?_)
  · skip
    have hG := hG.trans (if_neg c_4878)
    have gc_4878 := ti_ne c_4878 rfl kc_0
    replace gc_4878 : (-1) * x_4877.toInt + 1 ≤ 0 := om_e3003f79 gc_4878 dx_4877.1
    have h_4879 : iM_token.toInt = 2 := lx_4877 (om_7907a7c1 dx_4877.2 gc_4878)
    clear lx_4877
    have h_4880 : iM_nameSize.toInt ≤ 8 := r_T h_4879
    clear r_T
    refine lv_aload_n hx hb dX7_takesWord_10 rfl (lv_at hl 0 rfl) ?_
    have hFc := va_freeI hD hS hA
    refine va_callv (va_runV (As := []) (rest := []) ⟨hx, hb, hml, hown, hts⟩ (tX7_next l dC dI _ oM iM_thrown rM_tape fM_tape kM_tape iM_taped iM_size iM_at iM_end iM_token iM_whole iM_nameSize iM_fault iM_place iM_trouble rM_letters fM_letters kM_letters iM_failed iM_hasCourt rM_r rM_fresh rM_told rM_read rM_st rM_undone rM_kept iM_undos iM_images rM_fresher iM_fresherSize iM_scale iM_night rM_heardRow rM_cutRow iM_breaths iM_cutMany iM_allBreaths rM_trial rM_words iM_fewestBreaths iM_orderMany iM_orderSum iM_leastOrder rM_often iM_setMany iM_someOf iM_allOf iM_allWeight iM_enoughWeight iM_worthSum iM_firstRest iM_leastDrawn b_iM_taped b_iM_size b_iM_end b_iM_nameSize b_iM_failed b_iM_hasCourt b_iM_undos b_iM_images b_iM_scale b_iM_breaths b_iM_cutMany (fun h9 => h_4880)) (cwV 0 hts (wd_V wd_400 wd_401 wd_402 wd_5 (wd_c wd_403)) rfl rfl rfl dv_yX7_next_0 ⟨Nat.le_of_ble_eq_true rfl, Nat.le_of_ble_eq_true rfl⟩) ⟨Pw.fb, recvX7 hK hP (q0 := 0) rfl, fun U hU hW => Pw.to hP hD hK hE hS hFc hU hW⟩ rfl rfl hl.1 rfl (lv_room (Nat.le_of_ble_eq_true rfl)) dX7_takesWord_11 ⟨Nat.le_of_ble_eq_true rfl, Nat.le_of_ble_eq_true rfl⟩) hS (fun q _ h => hFc q h) hFc (fun u t H locs ht hvm hw hB hz1 hk1 hS => ?_)
    refine ex_6_6 hB (fun x_4881 x_4882 x_4883 x_4884 x_4885 f_4886 b_x_4882 b_x_4885 e_x_4881_0 e_x_4881_1 e_x_4881_2 e_x_4881_3 hB => ?_)
    obtain ⟨hP, hD⟩ := Bw.goA (ws' := [(oc7 oM iM_thrown rM_tape iM_taped iM_size x_4881 x_4882 x_4883 x_4884 x_4885 iM_fault iM_place iM_trouble rM_letters iM_failed iM_hasCourt rM_r rM_fresh rM_told rM_read rM_st rM_undone rM_kept iM_undos iM_images rM_fresher iM_fresherSize iM_scale iM_night rM_heardRow rM_cutRow iM_breaths iM_cutMany iM_allBreaths rM_trial rM_words iM_fewestBreaths iM_orderMany iM_orderSum iM_leastOrder rM_often iM_setMany iM_someOf iM_allOf iM_allWeight iM_enoughWeight iM_worthSum iM_firstRest iM_leastDrawn), (arI rM_tape kM_tape 900 fM_tape), (arI rM_letters kM_letters 8 f_4886)]) hB rfl ht hFc rfl
    clear hz1 hk1 hvm ht hB
    have hG := hG.trans (un6_eq e_x_4881_3)
    refine lv_iconst (v := 1) hx hb dX7_takesWord_14 (by decide) ?_
    exact wq_z (v := 1) hx hb hr rfl 1 ⟨⟨Or.inr rfl, (by decide)⟩, (by decide)⟩ (fun t ht hW => ⟨x_4881, x_4882, x_4883, x_4884, x_4885, f_4886, b_x_4882, b_x_4885, e_x_4881_0, e_x_4881_1, (fun h9 => by have q0 := kc_0; have q1 := kc_1; have q9 := e_x_4881_2 (by omega); omega), hG, Bw.to hP hD hK ht hW⟩) hS dX7_takesWord_15 hlocks
  · skip
    have hG := hG.trans (if_pos c_4878)
    have gc_4878 := ti_eq c_4878 rfl kc_0
    clear lx_4877
    refine lv_iconst (v := 0) hx hb dX7_takesWord_8 (by decide) ?_
    exact wq_z (v := 0) hx hb hr rfl 0 ⟨⟨Or.inl rfl, (by decide)⟩, (by decide)⟩ (fun t ht hW => ⟨iM_at, iM_end, iM_token, iM_whole, iM_nameSize, fM_letters, ⟨b_iM_end.1, b_iM_end.2⟩, ⟨b_iM_nameSize.1, b_iM_nameSize.2⟩, om_1cb5f934, r_T, (fun h9 => by have q0 := kc_0; have q1 := kc_1; omega), hG, Bw.to hP hD hK ht hW⟩) hS dX7_takesWord_9 hlocks
set_option maxHeartbeats 4000000 in
set_option maxRecDepth 100000 in
theorem tX7_must (l : Launch) (dC : Nat → ClassId) (dI : Nat → Nat → Nat) (sz : Nat) (oM : Nat) (iM_thrown : Int32) (rM_tape : Nat) (fM_tape : Nat → Int32) (kM_tape : ClassId) (iM_taped : Int32) (iM_size : Int32) (iM_at : Int32) (iM_end : Int32) (iM_token : Int32) (iM_whole : Int32) (iM_nameSize : Int32) (iM_fault : Int32) (iM_place : Int32) (iM_trouble : Int32) (rM_letters : Nat) (fM_letters : Nat → Int32) (kM_letters : ClassId) (iM_failed : Int32) (iM_hasCourt : Int32) (rM_r : Nat) (rM_fresh : Nat) (rM_told : Nat) (rM_read : Nat) (rM_st : Nat) (rM_undone : Nat) (rM_kept : Nat) (iM_undos : Int32) (iM_images : Int32) (rM_fresher : Nat) (iM_fresherSize : Int32) (iM_scale : Int32) (iM_night : Int32) (rM_heardRow : Nat) (rM_cutRow : Nat) (iM_breaths : Int32) (iM_cutMany : Int32) (iM_allBreaths : Int32) (rM_trial : Nat) (rM_words : Nat) (iM_fewestBreaths : Int32) (iM_orderMany : Int32) (iM_orderSum : Int32) (iM_leastOrder : Int32) (rM_often : Nat) (iM_setMany : Int32) (iM_someOf : Int32) (iM_allOf : Int32) (iM_allWeight : Int64) (iM_enoughWeight : Int64) (iM_worthSum : Int64) (iM_firstRest : Int32) (iM_leastDrawn : Int32) (sA : Nat) (sV : Nat) (sN : Nat) (sF : Nat → Int32) (b_iM_taped : 0 ≤ iM_taped.toInt ∧ iM_taped.toInt ≤ 900) (b_iM_size : 0 ≤ iM_size.toInt ∧ iM_size.toInt ≤ 900) (b_iM_end : 0 ≤ iM_end.toInt ∧ iM_end.toInt ≤ 900) (b_iM_nameSize : 0 ≤ iM_nameSize.toInt ∧ iM_nameSize.toInt ≤ 900) (b_iM_failed : 0 ≤ iM_failed.toInt ∧ iM_failed.toInt ≤ 1) (b_iM_hasCourt : 0 ≤ iM_hasCourt.toInt ∧ iM_hasCourt.toInt ≤ 1) (b_iM_undos : 0 ≤ iM_undos.toInt ∧ iM_undos.toInt ≤ 16) (b_iM_images : 0 ≤ iM_images.toInt ∧ iM_images.toInt ≤ 3) (b_iM_scale : 1 ≤ iM_scale.toInt ∧ iM_scale.toInt ≤ 1296) (b_iM_breaths : 0 ≤ iM_breaths.toInt ∧ iM_breaths.toInt ≤ 399) (b_iM_cutMany : 0 ≤ iM_cutMany.toInt ∧ iM_cutMany.toInt ≤ 399) (r_T : ImpP (iM_token.toInt = 2) (iM_nameSize.toInt ≤ 8)) (hsn : sN ≤ 8) : Met l yX7_must (Cond.code yX7_must cX7_must 2 none :: wG) ({ frames := 6, cells := 0, slots := 0, locals := 155 }) (va_Pc [.ref oM, .ref sA] (Pq dC dI sz [(oc7 oM iM_thrown rM_tape iM_taped iM_size iM_at iM_end iM_token iM_whole iM_nameSize iM_fault iM_place iM_trouble rM_letters iM_failed iM_hasCourt rM_r rM_fresh rM_told rM_read rM_st rM_undone rM_kept iM_undos iM_images rM_fresher iM_fresherSize iM_scale iM_night rM_heardRow rM_cutRow iM_breaths iM_cutMany iM_allBreaths rM_trial rM_words iM_fewestBreaths iM_orderMany iM_orderSum iM_leastOrder rM_often iM_setMany iM_someOf iM_allOf iM_allWeight iM_enoughWeight iM_worthSum iM_firstRest iM_leastDrawn), (arI rM_tape kM_tape 900 fM_tape), (arI rM_letters kM_letters 8 fM_letters)] [(kM_tape, .int), (kM_letters, .int)] sA sV sN sF)) (va_Qv (fun (_ : Nat) => True) (fun (_ : Nat) (t : State) => ∃ (niM_at : Int32) (niM_end : Int32) (niM_token : Int32) (niM_whole : Int32) (niM_nameSize : Int32) (niM_fault : Int32) (niM_place : Int32) (niM_failed : Int32) (nfM_letters : Nat → Int32), (0 ≤ niM_end.toInt ∧ niM_end.toInt ≤ 900) ∧ (0 ≤ niM_nameSize.toInt ∧ niM_nameSize.toInt ≤ 900) ∧ (0 ≤ niM_failed.toInt ∧ niM_failed.toInt ≤ 1) ∧ (iM_end.toInt ≤ niM_end.toInt) ∧ (ImpP (niM_token.toInt = 2) (niM_nameSize.toInt ≤ 8)) ∧ (iM_failed.toInt ≤ niM_failed.toInt) ∧ (ImpP (niM_failed.toInt ≤ 0 ∧ niM_token.toInt = 59 ) (iM_end.toInt + 1 ≤ niM_end.toInt)) ∧ (PX7_must fM_tape iM_size iM_at iM_end iM_token iM_whole iM_nameSize iM_fault iM_place fM_letters iM_failed sN sF = (niM_at, niM_end, niM_token, niM_whole, niM_nameSize, niM_fault, niM_place, niM_failed, nfM_letters)) ∧ Bw dC dI (va_A [(oc7 oM iM_thrown rM_tape iM_taped iM_size iM_at iM_end iM_token iM_whole iM_nameSize iM_fault iM_place iM_trouble rM_letters iM_failed iM_hasCourt rM_r rM_fresh rM_told rM_read rM_st rM_undone rM_kept iM_undos iM_images rM_fresher iM_fresherSize iM_scale iM_night rM_heardRow rM_cutRow iM_breaths iM_cutMany iM_allBreaths rM_trial rM_words iM_fewestBreaths iM_orderMany iM_orderSum iM_leastOrder rM_often iM_setMany iM_someOf iM_allOf iM_allWeight iM_enoughWeight iM_worthSum iM_firstRest iM_leastDrawn), (arI rM_tape kM_tape 900 fM_tape), (arI rM_letters kM_letters 8 fM_letters)] sz) [(oc7 oM iM_thrown rM_tape iM_taped iM_size niM_at niM_end niM_token niM_whole niM_nameSize niM_fault niM_place iM_trouble rM_letters niM_failed iM_hasCourt rM_r rM_fresh rM_told rM_read rM_st rM_undone rM_kept iM_undos iM_images rM_fresher iM_fresherSize iM_scale iM_night rM_heardRow rM_cutRow iM_breaths iM_cutMany iM_allBreaths rM_trial rM_words iM_fewestBreaths iM_orderMany iM_orderSum iM_leastOrder rM_often iM_setMany iM_someOf iM_allOf iM_allWeight iM_enoughWeight iM_worthSum iM_firstRest iM_leastDrawn), (arI rM_tape kM_tape 900 fM_tape), (arI rM_letters kM_letters 8 nfM_letters)] [(kM_tape, .int), (kM_letters, .int)] t) (va_A [(oc7 oM iM_thrown rM_tape iM_taped iM_size iM_at iM_end iM_token iM_whole iM_nameSize iM_fault iM_place iM_trouble rM_letters iM_failed iM_hasCourt rM_r rM_fresh rM_told rM_read rM_st rM_undone rM_kept iM_undos iM_images rM_fresher iM_fresherSize iM_scale iM_night rM_heardRow rM_cutRow iM_breaths iM_cutMany iM_allBreaths rM_trial rM_words iM_fewestBreaths iM_orderMany iM_orderSum iM_leastOrder rM_often iM_setMany iM_someOf iM_allOf iM_allWeight iM_enoughWeight iM_worthSum iM_firstRest iM_leastDrawn), (arI rM_tape kM_tape 900 fM_tape), (arI rM_letters kM_letters 8 fM_letters)] sz)) 0 0 (va_A [(oc7 oM iM_thrown rM_tape iM_taped iM_size iM_at iM_end iM_token iM_whole iM_nameSize iM_fault iM_place iM_trouble rM_letters iM_failed iM_hasCourt rM_r rM_fresh rM_told rM_read rM_st rM_undone rM_kept iM_undos iM_images rM_fresher iM_fresherSize iM_scale iM_night rM_heardRow rM_cutRow iM_breaths iM_cutMany iM_allBreaths rM_trial rM_words iM_fewestBreaths iM_orderMany iM_orderSum iM_leastOrder rM_often iM_setMany iM_someOf iM_allOf iM_allWeight iM_enoughWeight iM_worthSum iM_firstRest iM_leastDrawn), (arI rM_tape kM_tape 900 fM_tape), (arI rM_letters kM_letters 8 fM_letters)] sz) := by
  refine Met.ofW (cc := cX7_must) (maxL := 2) (ret := none) pnX7 rfl ?_
  intro p e s m args below meth c s₁ B hml hv
  obtain ⟨rfl, ⟨hsz, hP, hK, hD0, hE⟩, hSw⟩ := hv
  have hx := B.exec
  have hb := B.bytes
  have hr := B.returns
  have hts : ∀ w ∈ wG, w.before ([.ref oM, .ref sA] : List Value).toArray s = true := fun w h => atoms_spec (ws := Cond.code yX7_must cX7_must 2 none :: wG) B.pre w (List.mem_cons_of_mem _ h)
  have hown : s.vm.findClass RX7 = some m.cls := own_of B.named rfl
  have hlocks := B.notSynchronized
  subst hsz
  have hD := hD0.self (sz := s.heap.size)
  generalize hAe : va_A [(oc7 oM iM_thrown rM_tape iM_taped iM_size iM_at iM_end iM_token iM_whole iM_nameSize iM_fault iM_place iM_trouble rM_letters iM_failed iM_hasCourt rM_r rM_fresh rM_told rM_read rM_st rM_undone rM_kept iM_undos iM_images rM_fresher iM_fresherSize iM_scale iM_night rM_heardRow rM_cutRow iM_breaths iM_cutMany iM_allBreaths rM_trial rM_words iM_fewestBreaths iM_orderMany iM_orderSum iM_leastOrder rM_often iM_setMany iM_someOf iM_allOf iM_allWeight iM_enoughWeight iM_worthSum iM_firstRest iM_leastDrawn), (arI rM_tape kM_tape 900 fM_tape), (arI rM_letters kM_letters 8 fM_letters)] s.heap.size = A at hD hE hSw ⊢
  have hA : ∀ q : Nat, s.heap.size ≤ q → A q := fun q h => by rw [← hAe]; exact Or.inr h
  have hS : va_S A s.heap s.heap [] := va_S.rf
  have hl := lv_entry ([.ref oM, .ref sA]) (n := 2) (Nat.le_of_ble_eq_true rfl)
  rw [lg_entry_eq]
  generalize (lg_sl ([.ref oM, .ref sA]) ++ List.replicate (2 - (lg_sl ([.ref oM, .ref sA])).length) Slot.unset).toArray = ls at hl ⊢
  have hl : lv_has ls 2 [(0, .ref oM), (1, .ref sA)] := hl
  have hG := PX7_must_eq fM_tape iM_size iM_at iM_end iM_token iM_whole iM_nameSize iM_fault iM_place fM_letters iM_failed sN sF
  have hsN9 : (sN : Int) ≤ 8 := Int.ofNat_le.mpr hsn
  have hsN0 : 0 ≤ (sN : Int) := Int.natCast_nonneg _
  refine lv_aload_n hx hb dX7_must_0 rfl (lv_at hl 0 rfl) ?_
  refine va_get (D := (dC, dI)) (ci := 7) (v := .int iM_failed) (C := RX7) (T := TX7) (N := 48) hx hb hts inX7 hown hK hP 0 rfl rfl 13 (by decide) (hts _ wd_380) (fun _ h9 => h9) rfl dX7_must_1 ?_
  refine lv_if_ne (tgt := 24) hx hb dX7_must_4 (by decide) (fun c_4899 => ?_) (fun c_4899 => ?_)
  · skip
    have hG := hG.trans (if_neg c_4899)
    have gc_4899 := ti_ne c_4899 rfl kc_0
    replace gc_4899 : (-1) * iM_failed.toInt + 1 ≤ 0 := om_e3003f79 gc_4899 b_iM_failed.1
    exact wq_v hx hb hr 0 trivial (fun t ht hW => ⟨iM_at, iM_end, iM_token, iM_whole, iM_nameSize, iM_fault, iM_place, iM_failed, fM_letters, ⟨b_iM_end.1, b_iM_end.2⟩, ⟨b_iM_nameSize.1, b_iM_nameSize.2⟩, ⟨b_iM_failed.1, b_iM_failed.2⟩, om_1cb5f934, r_T, om_1cb5f934, (fun h9 => False.elim (om_a5fe015d gc_4899 h9.1)), hG, Bw.to hP hD hK ht hW⟩) hS dX7_must_24 hlocks
  · skip
    have hG := hG.trans (if_pos c_4899)
    have gc_4899 := ti_eq c_4899 rfl kc_0
    refine lv_aload_n hx hb dX7_must_7 rfl (lv_at hl 0 rfl) ?_
    refine lv_aload_n hx hb dX7_must_8 rfl (lv_at hl 1 rfl) ?_
    have hFc := va_freeI hD hS hA
    refine va_calli (va_runV (As := [.ref sA]) (rest := []) ⟨hx, hb, hml, hown, hts⟩ (tX7_takesWord l dC dI _ oM iM_thrown rM_tape fM_tape kM_tape iM_taped iM_size iM_at iM_end iM_token iM_whole iM_nameSize iM_fault iM_place iM_trouble rM_letters fM_letters kM_letters iM_failed iM_hasCourt rM_r rM_fresh rM_told rM_read rM_st rM_undone rM_kept iM_undos iM_images rM_fresher iM_fresherSize iM_scale iM_night rM_heardRow rM_cutRow iM_breaths iM_cutMany iM_allBreaths rM_trial rM_words iM_fewestBreaths iM_orderMany iM_orderSum iM_leastOrder rM_often iM_setMany iM_someOf iM_allOf iM_allWeight iM_enoughWeight iM_worthSum iM_firstRest iM_leastDrawn sA sV sN sF b_iM_taped b_iM_size b_iM_end b_iM_nameSize b_iM_failed b_iM_hasCourt b_iM_undos b_iM_images b_iM_scale b_iM_breaths b_iM_cutMany r_T hsn) (cwV 1 hts (wd_V wd_442 wd_443 wd_444 wd_5 (wd_c wd_445)) rfl rfl rfl dv_yX7_takesWord_1 ⟨Nat.le_of_ble_eq_true rfl, Nat.le_of_ble_eq_true rfl⟩) ⟨Pq.fb, recvX7 hK hP (q0 := 0) rfl, fun U hU hW => Pq.to hP hD hK hSw hE hS hFc hU hW⟩ rfl rfl hl.1 rfl (lv_room (Nat.le_of_ble_eq_true rfl)) dX7_must_9 ⟨Nat.le_of_ble_eq_true rfl, Nat.le_of_ble_eq_true rfl⟩) hS (fun q _ h => hFc q h) hFc (fun r u t H locs ht hvm hw hB hz1 hk1 hS => ?_)
    have hru9 := hw.2
    have hw := hw.1
    refine ex_6_6 hB (fun x_4900 x_4901 x_4902 x_4903 x_4904 f_4905 b_x_4901 b_x_4904 e_x_4900_0 e_x_4900_1 e_x_4900_2 e_x_4900_3 hB => ?_)
    obtain ⟨hP, hD⟩ := Bw.goA (ws' := [(oc7 oM iM_thrown rM_tape iM_taped iM_size x_4900 x_4901 x_4902 x_4903 x_4904 iM_fault iM_place iM_trouble rM_letters iM_failed iM_hasCourt rM_r rM_fresh rM_told rM_read rM_st rM_undone rM_kept iM_undos iM_images rM_fresher iM_fresherSize iM_scale iM_night rM_heardRow rM_cutRow iM_breaths iM_cutMany iM_allBreaths rM_trial rM_words iM_fewestBreaths iM_orderMany iM_orderSum iM_leastOrder rM_often iM_setMany iM_someOf iM_allOf iM_allWeight iM_enoughWeight iM_worthSum iM_firstRest iM_leastDrawn), (arI rM_tape kM_tape 900 fM_tape), (arI rM_letters kM_letters 8 f_4905)]) hB rfl ht hFc rfl
    clear hz1 hk1 hvm ht hB
    rw [← hru9] at e_x_4900_3
    obtain ⟨x_4906, rfl⟩ : ∃ z, z = r := ⟨_, rfl⟩
    have hG := hG.trans (un7_eq e_x_4900_3)
    have bx_4906 := hw.1
    have dx_4906 := bz_tb bx_4906
    have lx_4906 := hw.2
    clear r_T
    refine lv_if_ne (tgt := 24) hx hb dX7_must_12 (by decide) (fun c_4907 => ?_) (fun c_4907 => ?_)
    · skip
      have hG := hG.trans (if_neg c_4907)
      have gc_4907 := ti_ne c_4907 rfl kc_0
      replace gc_4907 : (-1) * x_4906.toInt + 1 ≤ 0 := om_e3003f79 gc_4907 dx_4906.1
      exact wq_v hx hb hr 0 trivial (fun t ht hW => ⟨x_4900, x_4901, x_4902, x_4903, x_4904, iM_fault, iM_place, iM_failed, f_4905, b_x_4901, b_x_4904, ⟨b_iM_failed.1, b_iM_failed.2⟩, e_x_4900_0, e_x_4900_1, om_1cb5f934, (fun h9 => by have q0 := kc_0; have q1 := kc_1; have q9 := e_x_4900_2 (by omega); omega), hG, Bw.to hP hD hK ht hW⟩) hS dX7_must_24 hlocks
    · skip
      have hG := hG.trans (if_pos c_4907)
      have gc_4907 := ti_eq c_4907 rfl kc_0
      refine lv_aload_n hx hb dX7_must_15 rfl (lv_at hl 0 rfl) ?_
      refine lv_iconst (v := 1) hx hb dX7_must_16 (by decide) ?_
      refine lv_aload_n hx hb dX7_must_17 rfl (lv_at hl 0 rfl) ?_
      refine va_get (D := (dC, dI)) (ci := 7) (v := .int x_4900) (C := RX7) (T := TX7) (N := 48) hx hb hts inX7 hown hK hP 0 rfl rfl 4 (by decide) (hts _ wd_384) (fun _ h9 => h9) rfl dX7_must_18 ?_
      have hMs := ml_of hD [true, false, false] (wc := [(oc7 oM iM_thrown rM_tape iM_taped iM_size x_4900 x_4901 x_4902 x_4903 x_4904 iM_fault iM_place iM_trouble rM_letters iM_failed iM_hasCourt rM_r rM_fresh rM_told rM_read rM_st rM_undone rM_kept iM_undos iM_images rM_fresher iM_fresherSize iM_scale iM_night rM_heardRow rM_cutRow iM_breaths iM_cutMany iM_allBreaths rM_trial rM_words iM_fewestBreaths iM_orderMany iM_orderSum iM_leastOrder rM_often iM_setMany iM_someOf iM_allOf iM_allWeight iM_enoughWeight iM_worthSum iM_firstRest iM_leastDrawn)]) rfl
      have hFc := va_freeM hD hS hA _ hMs
      refine va_callv (va_runV (As := [.int 1, .int x_4900]) (rest := []) ⟨hx, hb, hml, hown, hts⟩ (tX7_wrong l dC dI _ oM iM_thrown rM_tape iM_taped iM_size x_4900 x_4901 x_4902 x_4903 x_4904 iM_fault iM_place iM_trouble rM_letters iM_failed iM_hasCourt rM_r rM_fresh rM_told rM_read rM_st rM_undone rM_kept iM_undos iM_images rM_fresher iM_fresherSize iM_scale iM_night rM_heardRow rM_cutRow iM_breaths iM_cutMany iM_allBreaths rM_trial rM_words iM_fewestBreaths iM_orderMany iM_orderSum iM_leastOrder rM_often iM_setMany iM_someOf iM_allOf iM_allWeight iM_enoughWeight iM_worthSum iM_firstRest iM_leastDrawn 1 x_4900 b_iM_taped b_iM_size b_x_4901 b_x_4904 b_iM_failed b_iM_hasCourt b_iM_undos b_iM_images b_iM_scale b_iM_breaths b_iM_cutMany e_x_4900_1) (cwV 2 hts (wd_V wd_430 wd_431 wd_432 wd_5 (wd_c wd_433)) rfl rfl rfl dv_yX7_wrong_2 ⟨Nat.le_of_ble_eq_true rfl, Nat.le_of_ble_eq_true rfl⟩) ⟨Pw.fb, recvX7 hK hP (q0 := 0) rfl, fun U hU hW => Pw.to (hP.ms _ hMs) (hD.ms _ hMs) (hK.ms [false, false] rfl) hE hS hFc hU hW⟩ rfl rfl hl.1 rfl (lv_room (Nat.le_of_ble_eq_true rfl)) dX7_must_21 ⟨Nat.le_of_ble_eq_true rfl, Nat.le_of_ble_eq_true rfl⟩) hS (fun q _ h => hFc q h) hFc (fun u t H locs ht hvm hw hB hz1 hk1 hS => ?_)
      refine ex_3_3 hB (fun x_4908 x_4909 x_4910 b_x_4910 e_x_4908_0 e_x_4908_1 hB => ?_)
      obtain ⟨hP, hD⟩ := Bw.goN (ws' := [(oc7 oM iM_thrown rM_tape iM_taped iM_size x_4900 x_4901 x_4902 x_4903 x_4904 x_4908 x_4909 iM_trouble rM_letters x_4910 iM_hasCourt rM_r rM_fresh rM_told rM_read rM_st rM_undone rM_kept iM_undos iM_images rM_fresher iM_fresherSize iM_scale iM_night rM_heardRow rM_cutRow iM_breaths iM_cutMany iM_allBreaths rM_trial rM_words iM_fewestBreaths iM_orderMany iM_orderSum iM_leastOrder rM_often iM_setMany iM_someOf iM_allOf iM_allWeight iM_enoughWeight iM_worthSum iM_firstRest iM_leastDrawn), (arI rM_tape kM_tape 900 fM_tape), (arI rM_letters kM_letters 8 f_4905)]) hB rfl ht hP hD _ hMs hk1 hFc rfl
      clear hz1 hk1 hvm ht hB hMs
      have hG := hG.trans (un3_eq e_x_4908_1)
      exact wq_v hx hb hr 0 trivial (fun t ht hW => ⟨x_4900, x_4901, x_4902, x_4903, x_4904, x_4908, x_4909, x_4910, f_4905, b_x_4901, b_x_4904, b_x_4910, e_x_4900_0, e_x_4900_1, (om_1fc3dec6 gc_4899 b_x_4910.1), (fun h9 => False.elim (om_92495247 e_x_4908_0 h9.1)), hG, Bw.to hP hD hK ht hW⟩) hS dX7_must_24 hlocks
set_option maxHeartbeats 4000000 in
set_option maxRecDepth 100000 in
theorem tX7_mustName (l : Launch) (dC : Nat → ClassId) (dI : Nat → Nat → Nat) (sz : Nat) (oM : Nat) (iM_thrown : Int32) (rM_tape : Nat) (iM_taped : Int32) (iM_size : Int32) (iM_at : Int32) (iM_end : Int32) (iM_token : Int32) (iM_whole : Int32) (iM_nameSize : Int32) (iM_fault : Int32) (iM_place : Int32) (iM_trouble : Int32) (rM_letters : Nat) (fM_letters : Nat → Int32) (kM_letters : ClassId) (iM_failed : Int32) (iM_hasCourt : Int32) (rM_r : Nat) (rM_fresh : Nat) (rM_told : Nat) (rM_read : Nat) (rM_st : Nat) (rM_undone : Nat) (rM_kept : Nat) (iM_undos : Int32) (iM_images : Int32) (rM_fresher : Nat) (iM_fresherSize : Int32) (iM_scale : Int32) (iM_night : Int32) (rM_heardRow : Nat) (rM_cutRow : Nat) (iM_breaths : Int32) (iM_cutMany : Int32) (iM_allBreaths : Int32) (rM_trial : Nat) (rM_words : Nat) (iM_fewestBreaths : Int32) (iM_orderMany : Int32) (iM_orderSum : Int32) (iM_leastOrder : Int32) (rM_often : Nat) (iM_setMany : Int32) (iM_someOf : Int32) (iM_allOf : Int32) (iM_allWeight : Int64) (iM_enoughWeight : Int64) (iM_worthSum : Int64) (iM_firstRest : Int32) (iM_leastDrawn : Int32) (b_iM_taped : 0 ≤ iM_taped.toInt ∧ iM_taped.toInt ≤ 900) (b_iM_size : 0 ≤ iM_size.toInt ∧ iM_size.toInt ≤ 900) (b_iM_end : 0 ≤ iM_end.toInt ∧ iM_end.toInt ≤ 900) (b_iM_nameSize : 0 ≤ iM_nameSize.toInt ∧ iM_nameSize.toInt ≤ 900) (b_iM_failed : 0 ≤ iM_failed.toInt ∧ iM_failed.toInt ≤ 1) (b_iM_hasCourt : 0 ≤ iM_hasCourt.toInt ∧ iM_hasCourt.toInt ≤ 1) (b_iM_undos : 0 ≤ iM_undos.toInt ∧ iM_undos.toInt ≤ 16) (b_iM_images : 0 ≤ iM_images.toInt ∧ iM_images.toInt ≤ 3) (b_iM_scale : 1 ≤ iM_scale.toInt ∧ iM_scale.toInt ≤ 1296) (b_iM_breaths : 0 ≤ iM_breaths.toInt ∧ iM_breaths.toInt ≤ 399) (b_iM_cutMany : 0 ≤ iM_cutMany.toInt ∧ iM_cutMany.toInt ≤ 399) (r_T : ImpP (iM_token.toInt = 2) (iM_nameSize.toInt ≤ 8))  : Met l yX7_mustName (Cond.code yX7_mustName cX7_mustName 1 none :: wG) ({ frames := 5, cells := 0, slots := 0, locals := 134 }) (va_Pc [.ref oM] (Pw dC dI sz [(oc7 oM iM_thrown rM_tape iM_taped iM_size iM_at iM_end iM_token iM_whole iM_nameSize iM_fault iM_place iM_trouble rM_letters iM_failed iM_hasCourt rM_r rM_fresh rM_told rM_read rM_st rM_undone rM_kept iM_undos iM_images rM_fresher iM_fresherSize iM_scale iM_night rM_heardRow rM_cutRow iM_breaths iM_cutMany iM_allBreaths rM_trial rM_words iM_fewestBreaths iM_orderMany iM_orderSum iM_leastOrder rM_often iM_setMany iM_someOf iM_allOf iM_allWeight iM_enoughWeight iM_worthSum iM_firstRest iM_leastDrawn), (arI rM_letters kM_letters 8 fM_letters)] [(kM_letters, .int)])) (va_Qv (fun (_ : Nat) => True) (fun (_ : Nat) (t : State) => ∃ (niM_fault : Int32) (niM_place : Int32) (niM_failed : Int32), (0 ≤ niM_failed.toInt ∧ niM_failed.toInt ≤ 1) ∧ (iM_failed.toInt ≤ niM_failed.toInt) ∧ (ImpP (niM_failed.toInt ≤ 0) (iM_token.toInt = 2)) ∧ (PX7_mustName iM_at iM_token iM_nameSize iM_fault iM_place fM_letters iM_failed = (niM_fault, niM_place, niM_failed)) ∧ Bw dC dI (va_A [(oc7 oM iM_thrown rM_tape iM_taped iM_size iM_at iM_end iM_token iM_whole iM_nameSize iM_fault iM_place iM_trouble rM_letters iM_failed iM_hasCourt rM_r rM_fresh rM_told rM_read rM_st rM_undone rM_kept iM_undos iM_images rM_fresher iM_fresherSize iM_scale iM_night rM_heardRow rM_cutRow iM_breaths iM_cutMany iM_allBreaths rM_trial rM_words iM_fewestBreaths iM_orderMany iM_orderSum iM_leastOrder rM_often iM_setMany iM_someOf iM_allOf iM_allWeight iM_enoughWeight iM_worthSum iM_firstRest iM_leastDrawn), (arI rM_letters kM_letters 8 fM_letters)] sz) [(oc7 oM iM_thrown rM_tape iM_taped iM_size iM_at iM_end iM_token iM_whole iM_nameSize niM_fault niM_place iM_trouble rM_letters niM_failed iM_hasCourt rM_r rM_fresh rM_told rM_read rM_st rM_undone rM_kept iM_undos iM_images rM_fresher iM_fresherSize iM_scale iM_night rM_heardRow rM_cutRow iM_breaths iM_cutMany iM_allBreaths rM_trial rM_words iM_fewestBreaths iM_orderMany iM_orderSum iM_leastOrder rM_often iM_setMany iM_someOf iM_allOf iM_allWeight iM_enoughWeight iM_worthSum iM_firstRest iM_leastDrawn), (arI rM_letters kM_letters 8 fM_letters)] [(kM_letters, .int)] t) (va_A [(oc7 oM iM_thrown rM_tape iM_taped iM_size iM_at iM_end iM_token iM_whole iM_nameSize iM_fault iM_place iM_trouble rM_letters iM_failed iM_hasCourt rM_r rM_fresh rM_told rM_read rM_st rM_undone rM_kept iM_undos iM_images rM_fresher iM_fresherSize iM_scale iM_night rM_heardRow rM_cutRow iM_breaths iM_cutMany iM_allBreaths rM_trial rM_words iM_fewestBreaths iM_orderMany iM_orderSum iM_leastOrder rM_often iM_setMany iM_someOf iM_allOf iM_allWeight iM_enoughWeight iM_worthSum iM_firstRest iM_leastDrawn), (arI rM_letters kM_letters 8 fM_letters)] sz)) 0 0 (va_A [(oc7 oM iM_thrown rM_tape iM_taped iM_size iM_at iM_end iM_token iM_whole iM_nameSize iM_fault iM_place iM_trouble rM_letters iM_failed iM_hasCourt rM_r rM_fresh rM_told rM_read rM_st rM_undone rM_kept iM_undos iM_images rM_fresher iM_fresherSize iM_scale iM_night rM_heardRow rM_cutRow iM_breaths iM_cutMany iM_allBreaths rM_trial rM_words iM_fewestBreaths iM_orderMany iM_orderSum iM_leastOrder rM_often iM_setMany iM_someOf iM_allOf iM_allWeight iM_enoughWeight iM_worthSum iM_firstRest iM_leastDrawn), (arI rM_letters kM_letters 8 fM_letters)] sz) := by
  refine Met.ofW (cc := cX7_mustName) (maxL := 1) (ret := none) pnX7 rfl ?_
  intro p e s m args below meth c s₁ B hml hv
  obtain ⟨rfl, hsz, hP, hK, hD0, hE⟩ := hv
  have hx := B.exec
  have hb := B.bytes
  have hr := B.returns
  have hts : ∀ w ∈ wG, w.before ([.ref oM] : List Value).toArray s = true := fun w h => atoms_spec (ws := Cond.code yX7_mustName cX7_mustName 1 none :: wG) B.pre w (List.mem_cons_of_mem _ h)
  have hown : s.vm.findClass RX7 = some m.cls := own_of B.named rfl
  have hlocks := B.notSynchronized
  subst hsz
  have hD := hD0.self (sz := s.heap.size)
  generalize hAe : va_A [(oc7 oM iM_thrown rM_tape iM_taped iM_size iM_at iM_end iM_token iM_whole iM_nameSize iM_fault iM_place iM_trouble rM_letters iM_failed iM_hasCourt rM_r rM_fresh rM_told rM_read rM_st rM_undone rM_kept iM_undos iM_images rM_fresher iM_fresherSize iM_scale iM_night rM_heardRow rM_cutRow iM_breaths iM_cutMany iM_allBreaths rM_trial rM_words iM_fewestBreaths iM_orderMany iM_orderSum iM_leastOrder rM_often iM_setMany iM_someOf iM_allOf iM_allWeight iM_enoughWeight iM_worthSum iM_firstRest iM_leastDrawn), (arI rM_letters kM_letters 8 fM_letters)] s.heap.size = A at hD hE ⊢
  have hA : ∀ q : Nat, s.heap.size ≤ q → A q := fun q h => by rw [← hAe]; exact Or.inr h
  have hS : va_S A s.heap s.heap [] := va_S.rf
  have hl := lv_entry ([.ref oM]) (n := 1) (Nat.le_of_ble_eq_true rfl)
  rw [lg_entry_eq]
  generalize (lg_sl ([.ref oM]) ++ List.replicate (1 - (lg_sl ([.ref oM])).length) Slot.unset).toArray = ls at hl ⊢
  have hl : lv_has ls 1 [(0, .ref oM)] := hl
  have hG := PX7_mustName_eq iM_at iM_token iM_nameSize iM_fault iM_place fM_letters iM_failed
  refine lv_aload_n hx hb dX7_mustName_0 rfl (lv_at hl 0 rfl) ?_
  refine va_get (D := (dC, dI)) (ci := 7) (v := .int iM_token) (C := RX7) (T := TX7) (N := 48) hx hb hts inX7 hown hK hP 0 rfl rfl 6 (by decide) (hts _ wd_383) (fun _ h9 => h9) rfl dX7_mustName_1 ?_
  refine lv_iconst (v := 2) hx hb dX7_mustName_4 (by decide) ?_
  refine lv_icmp_ne (tgt := 80) hx hb dX7_mustName_5 (by decide) (fun c_4972 => ?_) (fun c_4972 => ?_)
  · skip
    have hG := hG.trans (if_neg c_4972)
    have gc_4972 := ti_ne c_4972 rfl kc_2
    refine lv_aload_n hx hb dX7_mustName_80 rfl (lv_at hl 0 rfl) ?_
    refine lv_iconst (v := 1) hx hb dX7_mustName_81 (by decide) ?_
    refine lv_aload_n hx hb dX7_mustName_82 rfl (lv_at hl 0 rfl) ?_
    refine va_get (D := (dC, dI)) (ci := 7) (v := .int iM_at) (C := RX7) (T := TX7) (N := 48) hx hb hts inX7 hown hK hP 0 rfl rfl 4 (by decide) (hts _ wd_384) (fun _ h9 => h9) rfl dX7_mustName_83 ?_
    have hMs := ml_of hD [true, false] (wc := [(oc7 oM iM_thrown rM_tape iM_taped iM_size iM_at iM_end iM_token iM_whole iM_nameSize iM_fault iM_place iM_trouble rM_letters iM_failed iM_hasCourt rM_r rM_fresh rM_told rM_read rM_st rM_undone rM_kept iM_undos iM_images rM_fresher iM_fresherSize iM_scale iM_night rM_heardRow rM_cutRow iM_breaths iM_cutMany iM_allBreaths rM_trial rM_words iM_fewestBreaths iM_orderMany iM_orderSum iM_leastOrder rM_often iM_setMany iM_someOf iM_allOf iM_allWeight iM_enoughWeight iM_worthSum iM_firstRest iM_leastDrawn)]) rfl
    have hFc := va_freeM hD hS hA _ hMs
    refine va_callv (va_runV (As := [.int 1, .int iM_at]) (rest := []) ⟨hx, hb, hml, hown, hts⟩ (tX7_wrong l dC dI _ oM iM_thrown rM_tape iM_taped iM_size iM_at iM_end iM_token iM_whole iM_nameSize iM_fault iM_place iM_trouble rM_letters iM_failed iM_hasCourt rM_r rM_fresh rM_told rM_read rM_st rM_undone rM_kept iM_undos iM_images rM_fresher iM_fresherSize iM_scale iM_night rM_heardRow rM_cutRow iM_breaths iM_cutMany iM_allBreaths rM_trial rM_words iM_fewestBreaths iM_orderMany iM_orderSum iM_leastOrder rM_often iM_setMany iM_someOf iM_allOf iM_allWeight iM_enoughWeight iM_worthSum iM_firstRest iM_leastDrawn 1 iM_at b_iM_taped b_iM_size b_iM_end b_iM_nameSize b_iM_failed b_iM_hasCourt b_iM_undos b_iM_images b_iM_scale b_iM_breaths b_iM_cutMany r_T) (cwV 2 hts (wd_V wd_430 wd_431 wd_432 wd_5 (wd_c wd_433)) rfl rfl rfl dv_yX7_wrong_2 ⟨Nat.le_of_ble_eq_true rfl, Nat.le_of_ble_eq_true rfl⟩) ⟨Pw.fb, recvX7 hK hP (q0 := 0) rfl, fun U hU hW => Pw.to (hP.ms _ hMs) (hD.ms _ hMs) (hK.ms [false] rfl) hE hS hFc hU hW⟩ rfl rfl hl.1 rfl (lv_room (Nat.le_of_ble_eq_true rfl)) dX7_mustName_86 ⟨Nat.le_of_ble_eq_true rfl, Nat.le_of_ble_eq_true rfl⟩) hS (fun q _ h => hFc q h) hFc (fun u t H locs ht hvm hw hB hz1 hk1 hS => ?_)
    refine ex_3_3 hB (fun x_4973 x_4974 x_4975 b_x_4975 e_x_4973_0 e_x_4973_1 hB => ?_)
    obtain ⟨hP, hD⟩ := Bw.goN (ws' := [(oc7 oM iM_thrown rM_tape iM_taped iM_size iM_at iM_end iM_token iM_whole iM_nameSize x_4973 x_4974 iM_trouble rM_letters x_4975 iM_hasCourt rM_r rM_fresh rM_told rM_read rM_st rM_undone rM_kept iM_undos iM_images rM_fresher iM_fresherSize iM_scale iM_night rM_heardRow rM_cutRow iM_breaths iM_cutMany iM_allBreaths rM_trial rM_words iM_fewestBreaths iM_orderMany iM_orderSum iM_leastOrder rM_often iM_setMany iM_someOf iM_allOf iM_allWeight iM_enoughWeight iM_worthSum iM_firstRest iM_leastDrawn), (arI rM_letters kM_letters 8 fM_letters)]) hB rfl ht hP hD _ hMs hk1 hFc rfl
    clear hz1 hk1 hvm ht hB hMs
    have hG := hG.trans (un3_eq e_x_4973_1)
    exact wq_v hx hb hr 0 trivial (fun t ht hW => ⟨x_4973, x_4974, x_4975, b_x_4975, (om_00f1c5dd b_iM_failed.2 e_x_4973_0), (fun h9 => False.elim (om_92495247 e_x_4973_0 h9)), hG, Bw.to hP hD hK ht hW⟩) hS dX7_mustName_89 hlocks
  · skip
    have hG := hG.trans (if_pos c_4972)
    have gc_4972 := ti_eq c_4972 rfl kc_2
    have h_4976 : iM_nameSize.toInt ≤ 8 := r_T gc_4972
    clear r_T
    refine lv_aload_n hx hb dX7_mustName_8 rfl (lv_at hl 0 rfl) ?_
    obtain ⟨sa_4977, vsa_4977, nsa_4977, fsa_4977, hnsa_4977, hnesa_4977, hfesa_4977, hRsa_4977, hSsa_4977⟩ := hE.2.2.1 (134, "court", [99, 111, 117, 114, 116]) (by decide)
    have hG := hG.trans (lt_eq hnesa_4977)
    have hG := hG.trans (lt_eq hfesa_4977)
    refine va_ldcS hx hb hown hRsa_4977 dX7_mustName_9 ?_
    have hFc := va_freeI hD hS hA
    refine va_calli (va_runV (As := [.ref sa_4977]) (rest := []) ⟨hx, hb, hml, hown, hts⟩ (tX7_isWord l dC dI _ oM iM_thrown rM_tape iM_taped iM_size iM_at iM_end iM_token iM_whole iM_nameSize iM_fault iM_place iM_trouble rM_letters fM_letters kM_letters iM_failed iM_hasCourt rM_r rM_fresh rM_told rM_read rM_st rM_undone rM_kept iM_undos iM_images rM_fresher iM_fresherSize iM_scale iM_night rM_heardRow rM_cutRow iM_breaths iM_cutMany iM_allBreaths rM_trial rM_words iM_fewestBreaths iM_orderMany iM_orderSum iM_leastOrder rM_often iM_setMany iM_someOf iM_allOf iM_allWeight iM_enoughWeight iM_worthSum iM_firstRest iM_leastDrawn sa_4977 vsa_4977 nsa_4977 fsa_4977 b_iM_taped b_iM_size b_iM_end b_iM_nameSize b_iM_failed b_iM_hasCourt b_iM_undos b_iM_images b_iM_scale b_iM_breaths b_iM_cutMany (fun h9 => h_4976) (Nat.le_trans (Nat.le_of_eq hnesa_4977) (by decide))) (cwV 1 hts (wd_V wd_420 wd_421 wd_422 wd_5 (wd_c wd_423)) rfl rfl rfl dv_yX7_isWord_1 ⟨Nat.le_of_ble_eq_true rfl, Nat.le_of_ble_eq_true rfl⟩) ⟨Pq.fb, recvX7 hK hP (q0 := 0) rfl, fun U hU hW => Pq.to hP hD hK hSsa_4977 hE hS hFc hU hW⟩ rfl rfl hl.1 rfl (lv_room (Nat.le_of_ble_eq_true rfl)) dX7_mustName_11 ⟨Nat.le_of_ble_eq_true rfl, Nat.le_of_ble_eq_true rfl⟩) hS (fun q _ h => hFc q h) hFc (fun r u t H locs ht hvm hw hB hz1 hk1 hS => ?_)
    have hru9 := hw.2
    have hw := hw.1
    obtain ⟨hP, hD⟩ := Bw.goA (ws' := [(oc7 oM iM_thrown rM_tape iM_taped iM_size iM_at iM_end iM_token iM_whole iM_nameSize iM_fault iM_place iM_trouble rM_letters iM_failed iM_hasCourt rM_r rM_fresh rM_told rM_read rM_st rM_undone rM_kept iM_undos iM_images rM_fresher iM_fresherSize iM_scale iM_night rM_heardRow rM_cutRow iM_breaths iM_cutMany iM_allBreaths rM_trial rM_words iM_fewestBreaths iM_orderMany iM_orderSum iM_leastOrder rM_often iM_setMany iM_someOf iM_allOf iM_allWeight iM_enoughWeight iM_worthSum iM_firstRest iM_leastDrawn), (arI rM_letters kM_letters 8 fM_letters)]) hB rfl ht hFc rfl
    clear hz1 hk1 hvm ht hB
    obtain ⟨x_4978, rfl⟩ : ∃ z, z = r := ⟨_, rfl⟩
    have hG := hG.trans (lt_eq hru9.symm)
    have bx_4978 := hw.1
    have dx_4978 := bz_tb bx_4978
    have lx_4978 := hw.2
    refine lv_if_ne (tgt := 80) hx hb dX7_mustName_14 (by decide) (fun c_4979 => ?_) (fun c_4979 => ?_)
    · skip
      have hG := hG.trans (if_neg c_4979)
      have gc_4979 := ti_ne c_4979 rfl kc_0
      replace gc_4979 : (-1) * x_4978.toInt + 1 ≤ 0 := om_e3003f79 gc_4979 dx_4978.1
      have h_4980 : iM_token.toInt = 2 := lx_4978 (om_7907a7c1 dx_4978.2 gc_4979)
      clear lx_4978
      refine lv_aload_n hx hb dX7_mustName_80 rfl (lv_at hl 0 rfl) ?_
      refine lv_iconst (v := 1) hx hb dX7_mustName_81 (by decide) ?_
      refine lv_aload_n hx hb dX7_mustName_82 rfl (lv_at hl 0 rfl) ?_
      refine va_get (D := (dC, dI)) (ci := 7) (v := .int iM_at) (C := RX7) (T := TX7) (N := 48) hx hb hts inX7 hown hK hP 0 rfl rfl 4 (by decide) (hts _ wd_384) (fun _ h9 => h9) rfl dX7_mustName_83 ?_
      have hMs := ml_of hD [true, false] (wc := [(oc7 oM iM_thrown rM_tape iM_taped iM_size iM_at iM_end iM_token iM_whole iM_nameSize iM_fault iM_place iM_trouble rM_letters iM_failed iM_hasCourt rM_r rM_fresh rM_told rM_read rM_st rM_undone rM_kept iM_undos iM_images rM_fresher iM_fresherSize iM_scale iM_night rM_heardRow rM_cutRow iM_breaths iM_cutMany iM_allBreaths rM_trial rM_words iM_fewestBreaths iM_orderMany iM_orderSum iM_leastOrder rM_often iM_setMany iM_someOf iM_allOf iM_allWeight iM_enoughWeight iM_worthSum iM_firstRest iM_leastDrawn)]) rfl
      have hFc := va_freeM hD hS hA _ hMs
      refine va_callv (va_runV (As := [.int 1, .int iM_at]) (rest := []) ⟨hx, hb, hml, hown, hts⟩ (tX7_wrong l dC dI _ oM iM_thrown rM_tape iM_taped iM_size iM_at iM_end iM_token iM_whole iM_nameSize iM_fault iM_place iM_trouble rM_letters iM_failed iM_hasCourt rM_r rM_fresh rM_told rM_read rM_st rM_undone rM_kept iM_undos iM_images rM_fresher iM_fresherSize iM_scale iM_night rM_heardRow rM_cutRow iM_breaths iM_cutMany iM_allBreaths rM_trial rM_words iM_fewestBreaths iM_orderMany iM_orderSum iM_leastOrder rM_often iM_setMany iM_someOf iM_allOf iM_allWeight iM_enoughWeight iM_worthSum iM_firstRest iM_leastDrawn 1 iM_at b_iM_taped b_iM_size b_iM_end b_iM_nameSize b_iM_failed b_iM_hasCourt b_iM_undos b_iM_images b_iM_scale b_iM_breaths b_iM_cutMany (fun h9 => h_4976)) (cwV 2 hts (wd_V wd_430 wd_431 wd_432 wd_5 (wd_c wd_433)) rfl rfl rfl dv_yX7_wrong_2 ⟨Nat.le_of_ble_eq_true rfl, Nat.le_of_ble_eq_true rfl⟩) ⟨Pw.fb, recvX7 hK hP (q0 := 0) rfl, fun U hU hW => Pw.to (hP.ms _ hMs) (hD.ms _ hMs) (hK.ms [false] rfl) hE hS hFc hU hW⟩ rfl rfl hl.1 rfl (lv_room (Nat.le_of_ble_eq_true rfl)) dX7_mustName_86 ⟨Nat.le_of_ble_eq_true rfl, Nat.le_of_ble_eq_true rfl⟩) hS (fun q _ h => hFc q h) hFc (fun u t H locs ht hvm hw hB hz1 hk1 hS => ?_)
      refine ex_3_3 hB (fun x_4981 x_4982 x_4983 b_x_4983 e_x_4981_0 e_x_4981_1 hB => ?_)
      obtain ⟨hP, hD⟩ := Bw.goN (ws' := [(oc7 oM iM_thrown rM_tape iM_taped iM_size iM_at iM_end iM_token iM_whole iM_nameSize x_4981 x_4982 iM_trouble rM_letters x_4983 iM_hasCourt rM_r rM_fresh rM_told rM_read rM_st rM_undone rM_kept iM_undos iM_images rM_fresher iM_fresherSize iM_scale iM_night rM_heardRow rM_cutRow iM_breaths iM_cutMany iM_allBreaths rM_trial rM_words iM_fewestBreaths iM_orderMany iM_orderSum iM_leastOrder rM_often iM_setMany iM_someOf iM_allOf iM_allWeight iM_enoughWeight iM_worthSum iM_firstRest iM_leastDrawn), (arI rM_letters kM_letters 8 fM_letters)]) hB rfl ht hP hD _ hMs hk1 hFc rfl
      clear hz1 hk1 hvm ht hB hMs
      have hG := hG.trans (un3_eq e_x_4981_1)
      exact wq_v hx hb hr 0 trivial (fun t ht hW => ⟨x_4981, x_4982, x_4983, b_x_4983, (om_00f1c5dd b_iM_failed.2 e_x_4981_0), (fun h9 => gc_4972), hG, Bw.to hP hD hK ht hW⟩) hS dX7_mustName_89 hlocks
    · skip
      have hG := hG.trans (if_pos c_4979)
      have gc_4979 := ti_eq c_4979 rfl kc_0
      clear lx_4978
      refine lv_aload_n hx hb dX7_mustName_17 rfl (lv_at hl 0 rfl) ?_
      obtain ⟨sa_4984, vsa_4984, nsa_4984, fsa_4984, hnsa_4984, hnesa_4984, hfesa_4984, hRsa_4984, hSsa_4984⟩ := hE.2.2.1 (136, "word", [119, 111, 114, 100]) (by decide)
      have hG := hG.trans (lt_eq hnesa_4984)
      have hG := hG.trans (lt_eq hfesa_4984)
      refine va_ldcS hx hb hown hRsa_4984 dX7_mustName_18 ?_
      have hFc := va_freeI hD hS hA
      refine va_calli (va_runV (As := [.ref sa_4984]) (rest := []) ⟨hx, hb, hml, hown, hts⟩ (tX7_isWord l dC dI _ oM iM_thrown rM_tape iM_taped iM_size iM_at iM_end iM_token iM_whole iM_nameSize iM_fault iM_place iM_trouble rM_letters fM_letters kM_letters iM_failed iM_hasCourt rM_r rM_fresh rM_told rM_read rM_st rM_undone rM_kept iM_undos iM_images rM_fresher iM_fresherSize iM_scale iM_night rM_heardRow rM_cutRow iM_breaths iM_cutMany iM_allBreaths rM_trial rM_words iM_fewestBreaths iM_orderMany iM_orderSum iM_leastOrder rM_often iM_setMany iM_someOf iM_allOf iM_allWeight iM_enoughWeight iM_worthSum iM_firstRest iM_leastDrawn sa_4984 vsa_4984 nsa_4984 fsa_4984 b_iM_taped b_iM_size b_iM_end b_iM_nameSize b_iM_failed b_iM_hasCourt b_iM_undos b_iM_images b_iM_scale b_iM_breaths b_iM_cutMany (fun h9 => h_4976) (Nat.le_trans (Nat.le_of_eq hnesa_4984) (by decide))) (cwV 1 hts (wd_V wd_420 wd_421 wd_422 wd_5 (wd_c wd_423)) rfl rfl rfl dv_yX7_isWord_1 ⟨Nat.le_of_ble_eq_true rfl, Nat.le_of_ble_eq_true rfl⟩) ⟨Pq.fb, recvX7 hK hP (q0 := 0) rfl, fun U hU hW => Pq.to hP hD hK hSsa_4984 hE hS hFc hU hW⟩ rfl rfl hl.1 rfl (lv_room (Nat.le_of_ble_eq_true rfl)) dX7_mustName_20 ⟨Nat.le_of_ble_eq_true rfl, Nat.le_of_ble_eq_true rfl⟩) hS (fun q _ h => hFc q h) hFc (fun r u t H locs ht hvm hw hB hz1 hk1 hS => ?_)
      have hru9 := hw.2
      have hw := hw.1
      obtain ⟨hP, hD⟩ := Bw.goA (ws' := [(oc7 oM iM_thrown rM_tape iM_taped iM_size iM_at iM_end iM_token iM_whole iM_nameSize iM_fault iM_place iM_trouble rM_letters iM_failed iM_hasCourt rM_r rM_fresh rM_told rM_read rM_st rM_undone rM_kept iM_undos iM_images rM_fresher iM_fresherSize iM_scale iM_night rM_heardRow rM_cutRow iM_breaths iM_cutMany iM_allBreaths rM_trial rM_words iM_fewestBreaths iM_orderMany iM_orderSum iM_leastOrder rM_often iM_setMany iM_someOf iM_allOf iM_allWeight iM_enoughWeight iM_worthSum iM_firstRest iM_leastDrawn), (arI rM_letters kM_letters 8 fM_letters)]) hB rfl ht hFc rfl
      clear hz1 hk1 hvm ht hB
      obtain ⟨x_4985, rfl⟩ : ∃ z, z = r := ⟨_, rfl⟩
      have hG := hG.trans (lt_eq hru9.symm)
      have bx_4985 := hw.1
      have dx_4985 := bz_tb bx_4985
      have lx_4985 := hw.2
      refine lv_if_ne (tgt := 80) hx hb dX7_mustName_23 (by decide) (fun c_4986 => ?_) (fun c_4986 => ?_)
      · skip
        have hG := hG.trans (if_neg c_4986)
        have gc_4986 := ti_ne c_4986 rfl kc_0
        replace gc_4986 : (-1) * x_4985.toInt + 1 ≤ 0 := om_e3003f79 gc_4986 dx_4985.1
        have h_4987 : iM_token.toInt = 2 := lx_4985 (om_7907a7c1 dx_4985.2 gc_4986)
        clear lx_4985
        refine lv_aload_n hx hb dX7_mustName_80 rfl (lv_at hl 0 rfl) ?_
        refine lv_iconst (v := 1) hx hb dX7_mustName_81 (by decide) ?_
        refine lv_aload_n hx hb dX7_mustName_82 rfl (lv_at hl 0 rfl) ?_
        refine va_get (D := (dC, dI)) (ci := 7) (v := .int iM_at) (C := RX7) (T := TX7) (N := 48) hx hb hts inX7 hown hK hP 0 rfl rfl 4 (by decide) (hts _ wd_384) (fun _ h9 => h9) rfl dX7_mustName_83 ?_
        have hMs := ml_of hD [true, false] (wc := [(oc7 oM iM_thrown rM_tape iM_taped iM_size iM_at iM_end iM_token iM_whole iM_nameSize iM_fault iM_place iM_trouble rM_letters iM_failed iM_hasCourt rM_r rM_fresh rM_told rM_read rM_st rM_undone rM_kept iM_undos iM_images rM_fresher iM_fresherSize iM_scale iM_night rM_heardRow rM_cutRow iM_breaths iM_cutMany iM_allBreaths rM_trial rM_words iM_fewestBreaths iM_orderMany iM_orderSum iM_leastOrder rM_often iM_setMany iM_someOf iM_allOf iM_allWeight iM_enoughWeight iM_worthSum iM_firstRest iM_leastDrawn)]) rfl
        have hFc := va_freeM hD hS hA _ hMs
        refine va_callv (va_runV (As := [.int 1, .int iM_at]) (rest := []) ⟨hx, hb, hml, hown, hts⟩ (tX7_wrong l dC dI _ oM iM_thrown rM_tape iM_taped iM_size iM_at iM_end iM_token iM_whole iM_nameSize iM_fault iM_place iM_trouble rM_letters iM_failed iM_hasCourt rM_r rM_fresh rM_told rM_read rM_st rM_undone rM_kept iM_undos iM_images rM_fresher iM_fresherSize iM_scale iM_night rM_heardRow rM_cutRow iM_breaths iM_cutMany iM_allBreaths rM_trial rM_words iM_fewestBreaths iM_orderMany iM_orderSum iM_leastOrder rM_often iM_setMany iM_someOf iM_allOf iM_allWeight iM_enoughWeight iM_worthSum iM_firstRest iM_leastDrawn 1 iM_at b_iM_taped b_iM_size b_iM_end b_iM_nameSize b_iM_failed b_iM_hasCourt b_iM_undos b_iM_images b_iM_scale b_iM_breaths b_iM_cutMany (fun h9 => h_4976)) (cwV 2 hts (wd_V wd_430 wd_431 wd_432 wd_5 (wd_c wd_433)) rfl rfl rfl dv_yX7_wrong_2 ⟨Nat.le_of_ble_eq_true rfl, Nat.le_of_ble_eq_true rfl⟩) ⟨Pw.fb, recvX7 hK hP (q0 := 0) rfl, fun U hU hW => Pw.to (hP.ms _ hMs) (hD.ms _ hMs) (hK.ms [false] rfl) hE hS hFc hU hW⟩ rfl rfl hl.1 rfl (lv_room (Nat.le_of_ble_eq_true rfl)) dX7_mustName_86 ⟨Nat.le_of_ble_eq_true rfl, Nat.le_of_ble_eq_true rfl⟩) hS (fun q _ h => hFc q h) hFc (fun u t H locs ht hvm hw hB hz1 hk1 hS => ?_)
        refine ex_3_3 hB (fun x_4988 x_4989 x_4990 b_x_4990 e_x_4988_0 e_x_4988_1 hB => ?_)
        obtain ⟨hP, hD⟩ := Bw.goN (ws' := [(oc7 oM iM_thrown rM_tape iM_taped iM_size iM_at iM_end iM_token iM_whole iM_nameSize x_4988 x_4989 iM_trouble rM_letters x_4990 iM_hasCourt rM_r rM_fresh rM_told rM_read rM_st rM_undone rM_kept iM_undos iM_images rM_fresher iM_fresherSize iM_scale iM_night rM_heardRow rM_cutRow iM_breaths iM_cutMany iM_allBreaths rM_trial rM_words iM_fewestBreaths iM_orderMany iM_orderSum iM_leastOrder rM_often iM_setMany iM_someOf iM_allOf iM_allWeight iM_enoughWeight iM_worthSum iM_firstRest iM_leastDrawn), (arI rM_letters kM_letters 8 fM_letters)]) hB rfl ht hP hD _ hMs hk1 hFc rfl
        clear hz1 hk1 hvm ht hB hMs
        have hG := hG.trans (un3_eq e_x_4988_1)
        exact wq_v hx hb hr 0 trivial (fun t ht hW => ⟨x_4988, x_4989, x_4990, b_x_4990, (om_00f1c5dd b_iM_failed.2 e_x_4988_0), (fun h9 => gc_4972), hG, Bw.to hP hD hK ht hW⟩) hS dX7_mustName_89 hlocks
      · skip
        have hG := hG.trans (if_pos c_4986)
        have gc_4986 := ti_eq c_4986 rfl kc_0
        clear lx_4985
        refine lv_aload_n hx hb dX7_mustName_26 rfl (lv_at hl 0 rfl) ?_
        obtain ⟨sa_4991, vsa_4991, nsa_4991, fsa_4991, hnsa_4991, hnesa_4991, hfesa_4991, hRsa_4991, hSsa_4991⟩ := hE.2.2.1 (138, "king", [107, 105, 110, 103]) (by decide)
        have hG := hG.trans (lt_eq hnesa_4991)
        have hG := hG.trans (lt_eq hfesa_4991)
        refine va_ldcS hx hb hown hRsa_4991 dX7_mustName_27 ?_
        have hFc := va_freeI hD hS hA
        refine va_calli (va_runV (As := [.ref sa_4991]) (rest := []) ⟨hx, hb, hml, hown, hts⟩ (tX7_isWord l dC dI _ oM iM_thrown rM_tape iM_taped iM_size iM_at iM_end iM_token iM_whole iM_nameSize iM_fault iM_place iM_trouble rM_letters fM_letters kM_letters iM_failed iM_hasCourt rM_r rM_fresh rM_told rM_read rM_st rM_undone rM_kept iM_undos iM_images rM_fresher iM_fresherSize iM_scale iM_night rM_heardRow rM_cutRow iM_breaths iM_cutMany iM_allBreaths rM_trial rM_words iM_fewestBreaths iM_orderMany iM_orderSum iM_leastOrder rM_often iM_setMany iM_someOf iM_allOf iM_allWeight iM_enoughWeight iM_worthSum iM_firstRest iM_leastDrawn sa_4991 vsa_4991 nsa_4991 fsa_4991 b_iM_taped b_iM_size b_iM_end b_iM_nameSize b_iM_failed b_iM_hasCourt b_iM_undos b_iM_images b_iM_scale b_iM_breaths b_iM_cutMany (fun h9 => h_4976) (Nat.le_trans (Nat.le_of_eq hnesa_4991) (by decide))) (cwV 1 hts (wd_V wd_420 wd_421 wd_422 wd_5 (wd_c wd_423)) rfl rfl rfl dv_yX7_isWord_1 ⟨Nat.le_of_ble_eq_true rfl, Nat.le_of_ble_eq_true rfl⟩) ⟨Pq.fb, recvX7 hK hP (q0 := 0) rfl, fun U hU hW => Pq.to hP hD hK hSsa_4991 hE hS hFc hU hW⟩ rfl rfl hl.1 rfl (lv_room (Nat.le_of_ble_eq_true rfl)) dX7_mustName_29 ⟨Nat.le_of_ble_eq_true rfl, Nat.le_of_ble_eq_true rfl⟩) hS (fun q _ h => hFc q h) hFc (fun r u t H locs ht hvm hw hB hz1 hk1 hS => ?_)
        have hru9 := hw.2
        have hw := hw.1
        obtain ⟨hP, hD⟩ := Bw.goA (ws' := [(oc7 oM iM_thrown rM_tape iM_taped iM_size iM_at iM_end iM_token iM_whole iM_nameSize iM_fault iM_place iM_trouble rM_letters iM_failed iM_hasCourt rM_r rM_fresh rM_told rM_read rM_st rM_undone rM_kept iM_undos iM_images rM_fresher iM_fresherSize iM_scale iM_night rM_heardRow rM_cutRow iM_breaths iM_cutMany iM_allBreaths rM_trial rM_words iM_fewestBreaths iM_orderMany iM_orderSum iM_leastOrder rM_often iM_setMany iM_someOf iM_allOf iM_allWeight iM_enoughWeight iM_worthSum iM_firstRest iM_leastDrawn), (arI rM_letters kM_letters 8 fM_letters)]) hB rfl ht hFc rfl
        clear hz1 hk1 hvm ht hB
        obtain ⟨x_4992, rfl⟩ : ∃ z, z = r := ⟨_, rfl⟩
        have hG := hG.trans (lt_eq hru9.symm)
        have bx_4992 := hw.1
        have dx_4992 := bz_tb bx_4992
        have lx_4992 := hw.2
        refine lv_if_ne (tgt := 80) hx hb dX7_mustName_32 (by decide) (fun c_4993 => ?_) (fun c_4993 => ?_)
        · skip
          have hG := hG.trans (if_neg c_4993)
          have gc_4993 := ti_ne c_4993 rfl kc_0
          replace gc_4993 : (-1) * x_4992.toInt + 1 ≤ 0 := om_e3003f79 gc_4993 dx_4992.1
          have h_4994 : iM_token.toInt = 2 := lx_4992 (om_7907a7c1 dx_4992.2 gc_4993)
          clear lx_4992
          refine lv_aload_n hx hb dX7_mustName_80 rfl (lv_at hl 0 rfl) ?_
          refine lv_iconst (v := 1) hx hb dX7_mustName_81 (by decide) ?_
          refine lv_aload_n hx hb dX7_mustName_82 rfl (lv_at hl 0 rfl) ?_
          refine va_get (D := (dC, dI)) (ci := 7) (v := .int iM_at) (C := RX7) (T := TX7) (N := 48) hx hb hts inX7 hown hK hP 0 rfl rfl 4 (by decide) (hts _ wd_384) (fun _ h9 => h9) rfl dX7_mustName_83 ?_
          have hMs := ml_of hD [true, false] (wc := [(oc7 oM iM_thrown rM_tape iM_taped iM_size iM_at iM_end iM_token iM_whole iM_nameSize iM_fault iM_place iM_trouble rM_letters iM_failed iM_hasCourt rM_r rM_fresh rM_told rM_read rM_st rM_undone rM_kept iM_undos iM_images rM_fresher iM_fresherSize iM_scale iM_night rM_heardRow rM_cutRow iM_breaths iM_cutMany iM_allBreaths rM_trial rM_words iM_fewestBreaths iM_orderMany iM_orderSum iM_leastOrder rM_often iM_setMany iM_someOf iM_allOf iM_allWeight iM_enoughWeight iM_worthSum iM_firstRest iM_leastDrawn)]) rfl
          have hFc := va_freeM hD hS hA _ hMs
          refine va_callv (va_runV (As := [.int 1, .int iM_at]) (rest := []) ⟨hx, hb, hml, hown, hts⟩ (tX7_wrong l dC dI _ oM iM_thrown rM_tape iM_taped iM_size iM_at iM_end iM_token iM_whole iM_nameSize iM_fault iM_place iM_trouble rM_letters iM_failed iM_hasCourt rM_r rM_fresh rM_told rM_read rM_st rM_undone rM_kept iM_undos iM_images rM_fresher iM_fresherSize iM_scale iM_night rM_heardRow rM_cutRow iM_breaths iM_cutMany iM_allBreaths rM_trial rM_words iM_fewestBreaths iM_orderMany iM_orderSum iM_leastOrder rM_often iM_setMany iM_someOf iM_allOf iM_allWeight iM_enoughWeight iM_worthSum iM_firstRest iM_leastDrawn 1 iM_at b_iM_taped b_iM_size b_iM_end b_iM_nameSize b_iM_failed b_iM_hasCourt b_iM_undos b_iM_images b_iM_scale b_iM_breaths b_iM_cutMany (fun h9 => h_4976)) (cwV 2 hts (wd_V wd_430 wd_431 wd_432 wd_5 (wd_c wd_433)) rfl rfl rfl dv_yX7_wrong_2 ⟨Nat.le_of_ble_eq_true rfl, Nat.le_of_ble_eq_true rfl⟩) ⟨Pw.fb, recvX7 hK hP (q0 := 0) rfl, fun U hU hW => Pw.to (hP.ms _ hMs) (hD.ms _ hMs) (hK.ms [false] rfl) hE hS hFc hU hW⟩ rfl rfl hl.1 rfl (lv_room (Nat.le_of_ble_eq_true rfl)) dX7_mustName_86 ⟨Nat.le_of_ble_eq_true rfl, Nat.le_of_ble_eq_true rfl⟩) hS (fun q _ h => hFc q h) hFc (fun u t H locs ht hvm hw hB hz1 hk1 hS => ?_)
          refine ex_3_3 hB (fun x_4995 x_4996 x_4997 b_x_4997 e_x_4995_0 e_x_4995_1 hB => ?_)
          obtain ⟨hP, hD⟩ := Bw.goN (ws' := [(oc7 oM iM_thrown rM_tape iM_taped iM_size iM_at iM_end iM_token iM_whole iM_nameSize x_4995 x_4996 iM_trouble rM_letters x_4997 iM_hasCourt rM_r rM_fresh rM_told rM_read rM_st rM_undone rM_kept iM_undos iM_images rM_fresher iM_fresherSize iM_scale iM_night rM_heardRow rM_cutRow iM_breaths iM_cutMany iM_allBreaths rM_trial rM_words iM_fewestBreaths iM_orderMany iM_orderSum iM_leastOrder rM_often iM_setMany iM_someOf iM_allOf iM_allWeight iM_enoughWeight iM_worthSum iM_firstRest iM_leastDrawn), (arI rM_letters kM_letters 8 fM_letters)]) hB rfl ht hP hD _ hMs hk1 hFc rfl
          clear hz1 hk1 hvm ht hB hMs
          have hG := hG.trans (un3_eq e_x_4995_1)
          exact wq_v hx hb hr 0 trivial (fun t ht hW => ⟨x_4995, x_4996, x_4997, b_x_4997, (om_00f1c5dd b_iM_failed.2 e_x_4995_0), (fun h9 => gc_4972), hG, Bw.to hP hD hK ht hW⟩) hS dX7_mustName_89 hlocks
        · skip
          have hG := hG.trans (if_pos c_4993)
          have gc_4993 := ti_eq c_4993 rfl kc_0
          clear lx_4992
          refine lv_aload_n hx hb dX7_mustName_35 rfl (lv_at hl 0 rfl) ?_
          obtain ⟨sa_4998, vsa_4998, nsa_4998, fsa_4998, hnsa_4998, hnesa_4998, hfesa_4998, hRsa_4998, hSsa_4998⟩ := hE.2.2.1 (140, "queen", [113, 117, 101, 101, 110]) (by decide)
          have hG := hG.trans (lt_eq hnesa_4998)
          have hG := hG.trans (lt_eq hfesa_4998)
          refine va_ldcS hx hb hown hRsa_4998 dX7_mustName_36 ?_
          have hFc := va_freeI hD hS hA
          refine va_calli (va_runV (As := [.ref sa_4998]) (rest := []) ⟨hx, hb, hml, hown, hts⟩ (tX7_isWord l dC dI _ oM iM_thrown rM_tape iM_taped iM_size iM_at iM_end iM_token iM_whole iM_nameSize iM_fault iM_place iM_trouble rM_letters fM_letters kM_letters iM_failed iM_hasCourt rM_r rM_fresh rM_told rM_read rM_st rM_undone rM_kept iM_undos iM_images rM_fresher iM_fresherSize iM_scale iM_night rM_heardRow rM_cutRow iM_breaths iM_cutMany iM_allBreaths rM_trial rM_words iM_fewestBreaths iM_orderMany iM_orderSum iM_leastOrder rM_often iM_setMany iM_someOf iM_allOf iM_allWeight iM_enoughWeight iM_worthSum iM_firstRest iM_leastDrawn sa_4998 vsa_4998 nsa_4998 fsa_4998 b_iM_taped b_iM_size b_iM_end b_iM_nameSize b_iM_failed b_iM_hasCourt b_iM_undos b_iM_images b_iM_scale b_iM_breaths b_iM_cutMany (fun h9 => h_4976) (Nat.le_trans (Nat.le_of_eq hnesa_4998) (by decide))) (cwV 1 hts (wd_V wd_420 wd_421 wd_422 wd_5 (wd_c wd_423)) rfl rfl rfl dv_yX7_isWord_1 ⟨Nat.le_of_ble_eq_true rfl, Nat.le_of_ble_eq_true rfl⟩) ⟨Pq.fb, recvX7 hK hP (q0 := 0) rfl, fun U hU hW => Pq.to hP hD hK hSsa_4998 hE hS hFc hU hW⟩ rfl rfl hl.1 rfl (lv_room (Nat.le_of_ble_eq_true rfl)) dX7_mustName_38 ⟨Nat.le_of_ble_eq_true rfl, Nat.le_of_ble_eq_true rfl⟩) hS (fun q _ h => hFc q h) hFc (fun r u t H locs ht hvm hw hB hz1 hk1 hS => ?_)
          have hru9 := hw.2
          have hw := hw.1
          obtain ⟨hP, hD⟩ := Bw.goA (ws' := [(oc7 oM iM_thrown rM_tape iM_taped iM_size iM_at iM_end iM_token iM_whole iM_nameSize iM_fault iM_place iM_trouble rM_letters iM_failed iM_hasCourt rM_r rM_fresh rM_told rM_read rM_st rM_undone rM_kept iM_undos iM_images rM_fresher iM_fresherSize iM_scale iM_night rM_heardRow rM_cutRow iM_breaths iM_cutMany iM_allBreaths rM_trial rM_words iM_fewestBreaths iM_orderMany iM_orderSum iM_leastOrder rM_often iM_setMany iM_someOf iM_allOf iM_allWeight iM_enoughWeight iM_worthSum iM_firstRest iM_leastDrawn), (arI rM_letters kM_letters 8 fM_letters)]) hB rfl ht hFc rfl
          clear hz1 hk1 hvm ht hB
          obtain ⟨x_4999, rfl⟩ : ∃ z, z = r := ⟨_, rfl⟩
          have hG := hG.trans (lt_eq hru9.symm)
          have bx_4999 := hw.1
          have dx_4999 := bz_tb bx_4999
          have lx_4999 := hw.2
          refine lv_if_ne (tgt := 80) hx hb dX7_mustName_41 (by decide) (fun c_5000 => ?_) (fun c_5000 => ?_)
          · skip
            have hG := hG.trans (if_neg c_5000)
            have gc_5000 := ti_ne c_5000 rfl kc_0
            replace gc_5000 : (-1) * x_4999.toInt + 1 ≤ 0 := om_e3003f79 gc_5000 dx_4999.1
            have h_5001 : iM_token.toInt = 2 := lx_4999 (om_7907a7c1 dx_4999.2 gc_5000)
            clear lx_4999
            refine lv_aload_n hx hb dX7_mustName_80 rfl (lv_at hl 0 rfl) ?_
            refine lv_iconst (v := 1) hx hb dX7_mustName_81 (by decide) ?_
            refine lv_aload_n hx hb dX7_mustName_82 rfl (lv_at hl 0 rfl) ?_
            refine va_get (D := (dC, dI)) (ci := 7) (v := .int iM_at) (C := RX7) (T := TX7) (N := 48) hx hb hts inX7 hown hK hP 0 rfl rfl 4 (by decide) (hts _ wd_384) (fun _ h9 => h9) rfl dX7_mustName_83 ?_
            have hMs := ml_of hD [true, false] (wc := [(oc7 oM iM_thrown rM_tape iM_taped iM_size iM_at iM_end iM_token iM_whole iM_nameSize iM_fault iM_place iM_trouble rM_letters iM_failed iM_hasCourt rM_r rM_fresh rM_told rM_read rM_st rM_undone rM_kept iM_undos iM_images rM_fresher iM_fresherSize iM_scale iM_night rM_heardRow rM_cutRow iM_breaths iM_cutMany iM_allBreaths rM_trial rM_words iM_fewestBreaths iM_orderMany iM_orderSum iM_leastOrder rM_often iM_setMany iM_someOf iM_allOf iM_allWeight iM_enoughWeight iM_worthSum iM_firstRest iM_leastDrawn)]) rfl
            have hFc := va_freeM hD hS hA _ hMs
            refine va_callv (va_runV (As := [.int 1, .int iM_at]) (rest := []) ⟨hx, hb, hml, hown, hts⟩ (tX7_wrong l dC dI _ oM iM_thrown rM_tape iM_taped iM_size iM_at iM_end iM_token iM_whole iM_nameSize iM_fault iM_place iM_trouble rM_letters iM_failed iM_hasCourt rM_r rM_fresh rM_told rM_read rM_st rM_undone rM_kept iM_undos iM_images rM_fresher iM_fresherSize iM_scale iM_night rM_heardRow rM_cutRow iM_breaths iM_cutMany iM_allBreaths rM_trial rM_words iM_fewestBreaths iM_orderMany iM_orderSum iM_leastOrder rM_often iM_setMany iM_someOf iM_allOf iM_allWeight iM_enoughWeight iM_worthSum iM_firstRest iM_leastDrawn 1 iM_at b_iM_taped b_iM_size b_iM_end b_iM_nameSize b_iM_failed b_iM_hasCourt b_iM_undos b_iM_images b_iM_scale b_iM_breaths b_iM_cutMany (fun h9 => h_4976)) (cwV 2 hts (wd_V wd_430 wd_431 wd_432 wd_5 (wd_c wd_433)) rfl rfl rfl dv_yX7_wrong_2 ⟨Nat.le_of_ble_eq_true rfl, Nat.le_of_ble_eq_true rfl⟩) ⟨Pw.fb, recvX7 hK hP (q0 := 0) rfl, fun U hU hW => Pw.to (hP.ms _ hMs) (hD.ms _ hMs) (hK.ms [false] rfl) hE hS hFc hU hW⟩ rfl rfl hl.1 rfl (lv_room (Nat.le_of_ble_eq_true rfl)) dX7_mustName_86 ⟨Nat.le_of_ble_eq_true rfl, Nat.le_of_ble_eq_true rfl⟩) hS (fun q _ h => hFc q h) hFc (fun u t H locs ht hvm hw hB hz1 hk1 hS => ?_)
            refine ex_3_3 hB (fun x_5002 x_5003 x_5004 b_x_5004 e_x_5002_0 e_x_5002_1 hB => ?_)
            obtain ⟨hP, hD⟩ := Bw.goN (ws' := [(oc7 oM iM_thrown rM_tape iM_taped iM_size iM_at iM_end iM_token iM_whole iM_nameSize x_5002 x_5003 iM_trouble rM_letters x_5004 iM_hasCourt rM_r rM_fresh rM_told rM_read rM_st rM_undone rM_kept iM_undos iM_images rM_fresher iM_fresherSize iM_scale iM_night rM_heardRow rM_cutRow iM_breaths iM_cutMany iM_allBreaths rM_trial rM_words iM_fewestBreaths iM_orderMany iM_orderSum iM_leastOrder rM_often iM_setMany iM_someOf iM_allOf iM_allWeight iM_enoughWeight iM_worthSum iM_firstRest iM_leastDrawn), (arI rM_letters kM_letters 8 fM_letters)]) hB rfl ht hP hD _ hMs hk1 hFc rfl
            clear hz1 hk1 hvm ht hB hMs
            have hG := hG.trans (un3_eq e_x_5002_1)
            exact wq_v hx hb hr 0 trivial (fun t ht hW => ⟨x_5002, x_5003, x_5004, b_x_5004, (om_00f1c5dd b_iM_failed.2 e_x_5002_0), (fun h9 => gc_4972), hG, Bw.to hP hD hK ht hW⟩) hS dX7_mustName_89 hlocks
          · skip
            have hG := hG.trans (if_pos c_5000)
            have gc_5000 := ti_eq c_5000 rfl kc_0
            clear lx_4999
            refine lv_aload_n hx hb dX7_mustName_44 rfl (lv_at hl 0 rfl) ?_
            obtain ⟨sa_5005, vsa_5005, nsa_5005, fsa_5005, hnsa_5005, hnesa_5005, hfesa_5005, hRsa_5005, hSsa_5005⟩ := hE.2.2.1 (142, "chance", [99, 104, 97, 110, 99, 101]) (by decide)
            have hG := hG.trans (lt_eq hnesa_5005)
            have hG := hG.trans (lt_eq hfesa_5005)
            refine va_ldcS hx hb hown hRsa_5005 dX7_mustName_45 ?_
            have hFc := va_freeI hD hS hA
            refine va_calli (va_runV (As := [.ref sa_5005]) (rest := []) ⟨hx, hb, hml, hown, hts⟩ (tX7_isWord l dC dI _ oM iM_thrown rM_tape iM_taped iM_size iM_at iM_end iM_token iM_whole iM_nameSize iM_fault iM_place iM_trouble rM_letters fM_letters kM_letters iM_failed iM_hasCourt rM_r rM_fresh rM_told rM_read rM_st rM_undone rM_kept iM_undos iM_images rM_fresher iM_fresherSize iM_scale iM_night rM_heardRow rM_cutRow iM_breaths iM_cutMany iM_allBreaths rM_trial rM_words iM_fewestBreaths iM_orderMany iM_orderSum iM_leastOrder rM_often iM_setMany iM_someOf iM_allOf iM_allWeight iM_enoughWeight iM_worthSum iM_firstRest iM_leastDrawn sa_5005 vsa_5005 nsa_5005 fsa_5005 b_iM_taped b_iM_size b_iM_end b_iM_nameSize b_iM_failed b_iM_hasCourt b_iM_undos b_iM_images b_iM_scale b_iM_breaths b_iM_cutMany (fun h9 => h_4976) (Nat.le_trans (Nat.le_of_eq hnesa_5005) (by decide))) (cwV 1 hts (wd_V wd_420 wd_421 wd_422 wd_5 (wd_c wd_423)) rfl rfl rfl dv_yX7_isWord_1 ⟨Nat.le_of_ble_eq_true rfl, Nat.le_of_ble_eq_true rfl⟩) ⟨Pq.fb, recvX7 hK hP (q0 := 0) rfl, fun U hU hW => Pq.to hP hD hK hSsa_5005 hE hS hFc hU hW⟩ rfl rfl hl.1 rfl (lv_room (Nat.le_of_ble_eq_true rfl)) dX7_mustName_47 ⟨Nat.le_of_ble_eq_true rfl, Nat.le_of_ble_eq_true rfl⟩) hS (fun q _ h => hFc q h) hFc (fun r u t H locs ht hvm hw hB hz1 hk1 hS => ?_)
            have hru9 := hw.2
            have hw := hw.1
            obtain ⟨hP, hD⟩ := Bw.goA (ws' := [(oc7 oM iM_thrown rM_tape iM_taped iM_size iM_at iM_end iM_token iM_whole iM_nameSize iM_fault iM_place iM_trouble rM_letters iM_failed iM_hasCourt rM_r rM_fresh rM_told rM_read rM_st rM_undone rM_kept iM_undos iM_images rM_fresher iM_fresherSize iM_scale iM_night rM_heardRow rM_cutRow iM_breaths iM_cutMany iM_allBreaths rM_trial rM_words iM_fewestBreaths iM_orderMany iM_orderSum iM_leastOrder rM_often iM_setMany iM_someOf iM_allOf iM_allWeight iM_enoughWeight iM_worthSum iM_firstRest iM_leastDrawn), (arI rM_letters kM_letters 8 fM_letters)]) hB rfl ht hFc rfl
            clear hz1 hk1 hvm ht hB
            obtain ⟨x_5006, rfl⟩ : ∃ z, z = r := ⟨_, rfl⟩
            have hG := hG.trans (lt_eq hru9.symm)
            have bx_5006 := hw.1
            have dx_5006 := bz_tb bx_5006
            have lx_5006 := hw.2
            refine lv_if_ne (tgt := 80) hx hb dX7_mustName_50 (by decide) (fun c_5007 => ?_) (fun c_5007 => ?_)
            · skip
              have hG := hG.trans (if_neg c_5007)
              have gc_5007 := ti_ne c_5007 rfl kc_0
              replace gc_5007 : (-1) * x_5006.toInt + 1 ≤ 0 := om_e3003f79 gc_5007 dx_5006.1
              have h_5008 : iM_token.toInt = 2 := lx_5006 (om_7907a7c1 dx_5006.2 gc_5007)
              clear lx_5006
              refine lv_aload_n hx hb dX7_mustName_80 rfl (lv_at hl 0 rfl) ?_
              refine lv_iconst (v := 1) hx hb dX7_mustName_81 (by decide) ?_
              refine lv_aload_n hx hb dX7_mustName_82 rfl (lv_at hl 0 rfl) ?_
              refine va_get (D := (dC, dI)) (ci := 7) (v := .int iM_at) (C := RX7) (T := TX7) (N := 48) hx hb hts inX7 hown hK hP 0 rfl rfl 4 (by decide) (hts _ wd_384) (fun _ h9 => h9) rfl dX7_mustName_83 ?_
              have hMs := ml_of hD [true, false] (wc := [(oc7 oM iM_thrown rM_tape iM_taped iM_size iM_at iM_end iM_token iM_whole iM_nameSize iM_fault iM_place iM_trouble rM_letters iM_failed iM_hasCourt rM_r rM_fresh rM_told rM_read rM_st rM_undone rM_kept iM_undos iM_images rM_fresher iM_fresherSize iM_scale iM_night rM_heardRow rM_cutRow iM_breaths iM_cutMany iM_allBreaths rM_trial rM_words iM_fewestBreaths iM_orderMany iM_orderSum iM_leastOrder rM_often iM_setMany iM_someOf iM_allOf iM_allWeight iM_enoughWeight iM_worthSum iM_firstRest iM_leastDrawn)]) rfl
              have hFc := va_freeM hD hS hA _ hMs
              refine va_callv (va_runV (As := [.int 1, .int iM_at]) (rest := []) ⟨hx, hb, hml, hown, hts⟩ (tX7_wrong l dC dI _ oM iM_thrown rM_tape iM_taped iM_size iM_at iM_end iM_token iM_whole iM_nameSize iM_fault iM_place iM_trouble rM_letters iM_failed iM_hasCourt rM_r rM_fresh rM_told rM_read rM_st rM_undone rM_kept iM_undos iM_images rM_fresher iM_fresherSize iM_scale iM_night rM_heardRow rM_cutRow iM_breaths iM_cutMany iM_allBreaths rM_trial rM_words iM_fewestBreaths iM_orderMany iM_orderSum iM_leastOrder rM_often iM_setMany iM_someOf iM_allOf iM_allWeight iM_enoughWeight iM_worthSum iM_firstRest iM_leastDrawn 1 iM_at b_iM_taped b_iM_size b_iM_end b_iM_nameSize b_iM_failed b_iM_hasCourt b_iM_undos b_iM_images b_iM_scale b_iM_breaths b_iM_cutMany (fun h9 => h_4976)) (cwV 2 hts (wd_V wd_430 wd_431 wd_432 wd_5 (wd_c wd_433)) rfl rfl rfl dv_yX7_wrong_2 ⟨Nat.le_of_ble_eq_true rfl, Nat.le_of_ble_eq_true rfl⟩) ⟨Pw.fb, recvX7 hK hP (q0 := 0) rfl, fun U hU hW => Pw.to (hP.ms _ hMs) (hD.ms _ hMs) (hK.ms [false] rfl) hE hS hFc hU hW⟩ rfl rfl hl.1 rfl (lv_room (Nat.le_of_ble_eq_true rfl)) dX7_mustName_86 ⟨Nat.le_of_ble_eq_true rfl, Nat.le_of_ble_eq_true rfl⟩) hS (fun q _ h => hFc q h) hFc (fun u t H locs ht hvm hw hB hz1 hk1 hS => ?_)
              refine ex_3_3 hB (fun x_5009 x_5010 x_5011 b_x_5011 e_x_5009_0 e_x_5009_1 hB => ?_)
              obtain ⟨hP, hD⟩ := Bw.goN (ws' := [(oc7 oM iM_thrown rM_tape iM_taped iM_size iM_at iM_end iM_token iM_whole iM_nameSize x_5009 x_5010 iM_trouble rM_letters x_5011 iM_hasCourt rM_r rM_fresh rM_told rM_read rM_st rM_undone rM_kept iM_undos iM_images rM_fresher iM_fresherSize iM_scale iM_night rM_heardRow rM_cutRow iM_breaths iM_cutMany iM_allBreaths rM_trial rM_words iM_fewestBreaths iM_orderMany iM_orderSum iM_leastOrder rM_often iM_setMany iM_someOf iM_allOf iM_allWeight iM_enoughWeight iM_worthSum iM_firstRest iM_leastDrawn), (arI rM_letters kM_letters 8 fM_letters)]) hB rfl ht hP hD _ hMs hk1 hFc rfl
              clear hz1 hk1 hvm ht hB hMs
              have hG := hG.trans (un3_eq e_x_5009_1)
              exact wq_v hx hb hr 0 trivial (fun t ht hW => ⟨x_5009, x_5010, x_5011, b_x_5011, (om_00f1c5dd b_iM_failed.2 e_x_5009_0), (fun h9 => gc_4972), hG, Bw.to hP hD hK ht hW⟩) hS dX7_mustName_89 hlocks
            · skip
              have hG := hG.trans (if_pos c_5007)
              have gc_5007 := ti_eq c_5007 rfl kc_0
              clear lx_5006
              refine lv_aload_n hx hb dX7_mustName_53 rfl (lv_at hl 0 rfl) ?_
              obtain ⟨sa_5012, vsa_5012, nsa_5012, fsa_5012, hnsa_5012, hnesa_5012, hfesa_5012, hRsa_5012, hSsa_5012⟩ := hE.2.2.1 (144, "throne", [116, 104, 114, 111, 110, 101]) (by decide)
              have hG := hG.trans (lt_eq hnesa_5012)
              have hG := hG.trans (lt_eq hfesa_5012)
              refine va_ldcS hx hb hown hRsa_5012 dX7_mustName_54 ?_
              have hFc := va_freeI hD hS hA
              refine va_calli (va_runV (As := [.ref sa_5012]) (rest := []) ⟨hx, hb, hml, hown, hts⟩ (tX7_isWord l dC dI _ oM iM_thrown rM_tape iM_taped iM_size iM_at iM_end iM_token iM_whole iM_nameSize iM_fault iM_place iM_trouble rM_letters fM_letters kM_letters iM_failed iM_hasCourt rM_r rM_fresh rM_told rM_read rM_st rM_undone rM_kept iM_undos iM_images rM_fresher iM_fresherSize iM_scale iM_night rM_heardRow rM_cutRow iM_breaths iM_cutMany iM_allBreaths rM_trial rM_words iM_fewestBreaths iM_orderMany iM_orderSum iM_leastOrder rM_often iM_setMany iM_someOf iM_allOf iM_allWeight iM_enoughWeight iM_worthSum iM_firstRest iM_leastDrawn sa_5012 vsa_5012 nsa_5012 fsa_5012 b_iM_taped b_iM_size b_iM_end b_iM_nameSize b_iM_failed b_iM_hasCourt b_iM_undos b_iM_images b_iM_scale b_iM_breaths b_iM_cutMany (fun h9 => h_4976) (Nat.le_trans (Nat.le_of_eq hnesa_5012) (by decide))) (cwV 1 hts (wd_V wd_420 wd_421 wd_422 wd_5 (wd_c wd_423)) rfl rfl rfl dv_yX7_isWord_1 ⟨Nat.le_of_ble_eq_true rfl, Nat.le_of_ble_eq_true rfl⟩) ⟨Pq.fb, recvX7 hK hP (q0 := 0) rfl, fun U hU hW => Pq.to hP hD hK hSsa_5012 hE hS hFc hU hW⟩ rfl rfl hl.1 rfl (lv_room (Nat.le_of_ble_eq_true rfl)) dX7_mustName_56 ⟨Nat.le_of_ble_eq_true rfl, Nat.le_of_ble_eq_true rfl⟩) hS (fun q _ h => hFc q h) hFc (fun r u t H locs ht hvm hw hB hz1 hk1 hS => ?_)
              have hru9 := hw.2
              have hw := hw.1
              obtain ⟨hP, hD⟩ := Bw.goA (ws' := [(oc7 oM iM_thrown rM_tape iM_taped iM_size iM_at iM_end iM_token iM_whole iM_nameSize iM_fault iM_place iM_trouble rM_letters iM_failed iM_hasCourt rM_r rM_fresh rM_told rM_read rM_st rM_undone rM_kept iM_undos iM_images rM_fresher iM_fresherSize iM_scale iM_night rM_heardRow rM_cutRow iM_breaths iM_cutMany iM_allBreaths rM_trial rM_words iM_fewestBreaths iM_orderMany iM_orderSum iM_leastOrder rM_often iM_setMany iM_someOf iM_allOf iM_allWeight iM_enoughWeight iM_worthSum iM_firstRest iM_leastDrawn), (arI rM_letters kM_letters 8 fM_letters)]) hB rfl ht hFc rfl
              clear hz1 hk1 hvm ht hB
              obtain ⟨x_5013, rfl⟩ : ∃ z, z = r := ⟨_, rfl⟩
              have hG := hG.trans (lt_eq hru9.symm)
              have bx_5013 := hw.1
              have dx_5013 := bz_tb bx_5013
              have lx_5013 := hw.2
              refine lv_if_ne (tgt := 80) hx hb dX7_mustName_59 (by decide) (fun c_5014 => ?_) (fun c_5014 => ?_)
              · skip
                have hG := hG.trans (if_neg c_5014)
                have gc_5014 := ti_ne c_5014 rfl kc_0
                replace gc_5014 : (-1) * x_5013.toInt + 1 ≤ 0 := om_e3003f79 gc_5014 dx_5013.1
                have h_5015 : iM_token.toInt = 2 := lx_5013 (om_7907a7c1 dx_5013.2 gc_5014)
                clear lx_5013
                refine lv_aload_n hx hb dX7_mustName_80 rfl (lv_at hl 0 rfl) ?_
                refine lv_iconst (v := 1) hx hb dX7_mustName_81 (by decide) ?_
                refine lv_aload_n hx hb dX7_mustName_82 rfl (lv_at hl 0 rfl) ?_
                refine va_get (D := (dC, dI)) (ci := 7) (v := .int iM_at) (C := RX7) (T := TX7) (N := 48) hx hb hts inX7 hown hK hP 0 rfl rfl 4 (by decide) (hts _ wd_384) (fun _ h9 => h9) rfl dX7_mustName_83 ?_
                have hMs := ml_of hD [true, false] (wc := [(oc7 oM iM_thrown rM_tape iM_taped iM_size iM_at iM_end iM_token iM_whole iM_nameSize iM_fault iM_place iM_trouble rM_letters iM_failed iM_hasCourt rM_r rM_fresh rM_told rM_read rM_st rM_undone rM_kept iM_undos iM_images rM_fresher iM_fresherSize iM_scale iM_night rM_heardRow rM_cutRow iM_breaths iM_cutMany iM_allBreaths rM_trial rM_words iM_fewestBreaths iM_orderMany iM_orderSum iM_leastOrder rM_often iM_setMany iM_someOf iM_allOf iM_allWeight iM_enoughWeight iM_worthSum iM_firstRest iM_leastDrawn)]) rfl
                have hFc := va_freeM hD hS hA _ hMs
                refine va_callv (va_runV (As := [.int 1, .int iM_at]) (rest := []) ⟨hx, hb, hml, hown, hts⟩ (tX7_wrong l dC dI _ oM iM_thrown rM_tape iM_taped iM_size iM_at iM_end iM_token iM_whole iM_nameSize iM_fault iM_place iM_trouble rM_letters iM_failed iM_hasCourt rM_r rM_fresh rM_told rM_read rM_st rM_undone rM_kept iM_undos iM_images rM_fresher iM_fresherSize iM_scale iM_night rM_heardRow rM_cutRow iM_breaths iM_cutMany iM_allBreaths rM_trial rM_words iM_fewestBreaths iM_orderMany iM_orderSum iM_leastOrder rM_often iM_setMany iM_someOf iM_allOf iM_allWeight iM_enoughWeight iM_worthSum iM_firstRest iM_leastDrawn 1 iM_at b_iM_taped b_iM_size b_iM_end b_iM_nameSize b_iM_failed b_iM_hasCourt b_iM_undos b_iM_images b_iM_scale b_iM_breaths b_iM_cutMany (fun h9 => h_4976)) (cwV 2 hts (wd_V wd_430 wd_431 wd_432 wd_5 (wd_c wd_433)) rfl rfl rfl dv_yX7_wrong_2 ⟨Nat.le_of_ble_eq_true rfl, Nat.le_of_ble_eq_true rfl⟩) ⟨Pw.fb, recvX7 hK hP (q0 := 0) rfl, fun U hU hW => Pw.to (hP.ms _ hMs) (hD.ms _ hMs) (hK.ms [false] rfl) hE hS hFc hU hW⟩ rfl rfl hl.1 rfl (lv_room (Nat.le_of_ble_eq_true rfl)) dX7_mustName_86 ⟨Nat.le_of_ble_eq_true rfl, Nat.le_of_ble_eq_true rfl⟩) hS (fun q _ h => hFc q h) hFc (fun u t H locs ht hvm hw hB hz1 hk1 hS => ?_)
                refine ex_3_3 hB (fun x_5016 x_5017 x_5018 b_x_5018 e_x_5016_0 e_x_5016_1 hB => ?_)
                obtain ⟨hP, hD⟩ := Bw.goN (ws' := [(oc7 oM iM_thrown rM_tape iM_taped iM_size iM_at iM_end iM_token iM_whole iM_nameSize x_5016 x_5017 iM_trouble rM_letters x_5018 iM_hasCourt rM_r rM_fresh rM_told rM_read rM_st rM_undone rM_kept iM_undos iM_images rM_fresher iM_fresherSize iM_scale iM_night rM_heardRow rM_cutRow iM_breaths iM_cutMany iM_allBreaths rM_trial rM_words iM_fewestBreaths iM_orderMany iM_orderSum iM_leastOrder rM_often iM_setMany iM_someOf iM_allOf iM_allWeight iM_enoughWeight iM_worthSum iM_firstRest iM_leastDrawn), (arI rM_letters kM_letters 8 fM_letters)]) hB rfl ht hP hD _ hMs hk1 hFc rfl
                clear hz1 hk1 hvm ht hB hMs
                have hG := hG.trans (un3_eq e_x_5016_1)
                exact wq_v hx hb hr 0 trivial (fun t ht hW => ⟨x_5016, x_5017, x_5018, b_x_5018, (om_00f1c5dd b_iM_failed.2 e_x_5016_0), (fun h9 => gc_4972), hG, Bw.to hP hD hK ht hW⟩) hS dX7_mustName_89 hlocks
              · skip
                have hG := hG.trans (if_pos c_5014)
                have gc_5014 := ti_eq c_5014 rfl kc_0
                clear lx_5013
                refine lv_aload_n hx hb dX7_mustName_62 rfl (lv_at hl 0 rfl) ?_
                obtain ⟨sa_5019, vsa_5019, nsa_5019, fsa_5019, hnsa_5019, hnesa_5019, hfesa_5019, hRsa_5019, hSsa_5019⟩ := hE.2.2.1 (146, "unsure", [117, 110, 115, 117, 114, 101]) (by decide)
                have hG := hG.trans (lt_eq hnesa_5019)
                have hG := hG.trans (lt_eq hfesa_5019)
                refine va_ldcS hx hb hown hRsa_5019 dX7_mustName_63 ?_
                have hFc := va_freeI hD hS hA
                refine va_calli (va_runV (As := [.ref sa_5019]) (rest := []) ⟨hx, hb, hml, hown, hts⟩ (tX7_isWord l dC dI _ oM iM_thrown rM_tape iM_taped iM_size iM_at iM_end iM_token iM_whole iM_nameSize iM_fault iM_place iM_trouble rM_letters fM_letters kM_letters iM_failed iM_hasCourt rM_r rM_fresh rM_told rM_read rM_st rM_undone rM_kept iM_undos iM_images rM_fresher iM_fresherSize iM_scale iM_night rM_heardRow rM_cutRow iM_breaths iM_cutMany iM_allBreaths rM_trial rM_words iM_fewestBreaths iM_orderMany iM_orderSum iM_leastOrder rM_often iM_setMany iM_someOf iM_allOf iM_allWeight iM_enoughWeight iM_worthSum iM_firstRest iM_leastDrawn sa_5019 vsa_5019 nsa_5019 fsa_5019 b_iM_taped b_iM_size b_iM_end b_iM_nameSize b_iM_failed b_iM_hasCourt b_iM_undos b_iM_images b_iM_scale b_iM_breaths b_iM_cutMany (fun h9 => h_4976) (Nat.le_trans (Nat.le_of_eq hnesa_5019) (by decide))) (cwV 1 hts (wd_V wd_420 wd_421 wd_422 wd_5 (wd_c wd_423)) rfl rfl rfl dv_yX7_isWord_1 ⟨Nat.le_of_ble_eq_true rfl, Nat.le_of_ble_eq_true rfl⟩) ⟨Pq.fb, recvX7 hK hP (q0 := 0) rfl, fun U hU hW => Pq.to hP hD hK hSsa_5019 hE hS hFc hU hW⟩ rfl rfl hl.1 rfl (lv_room (Nat.le_of_ble_eq_true rfl)) dX7_mustName_65 ⟨Nat.le_of_ble_eq_true rfl, Nat.le_of_ble_eq_true rfl⟩) hS (fun q _ h => hFc q h) hFc (fun r u t H locs ht hvm hw hB hz1 hk1 hS => ?_)
                have hru9 := hw.2
                have hw := hw.1
                obtain ⟨hP, hD⟩ := Bw.goA (ws' := [(oc7 oM iM_thrown rM_tape iM_taped iM_size iM_at iM_end iM_token iM_whole iM_nameSize iM_fault iM_place iM_trouble rM_letters iM_failed iM_hasCourt rM_r rM_fresh rM_told rM_read rM_st rM_undone rM_kept iM_undos iM_images rM_fresher iM_fresherSize iM_scale iM_night rM_heardRow rM_cutRow iM_breaths iM_cutMany iM_allBreaths rM_trial rM_words iM_fewestBreaths iM_orderMany iM_orderSum iM_leastOrder rM_often iM_setMany iM_someOf iM_allOf iM_allWeight iM_enoughWeight iM_worthSum iM_firstRest iM_leastDrawn), (arI rM_letters kM_letters 8 fM_letters)]) hB rfl ht hFc rfl
                clear hz1 hk1 hvm ht hB
                obtain ⟨x_5020, rfl⟩ : ∃ z, z = r := ⟨_, rfl⟩
                have hG := hG.trans (lt_eq hru9.symm)
                have bx_5020 := hw.1
                have dx_5020 := bz_tb bx_5020
                have lx_5020 := hw.2
                refine lv_if_ne (tgt := 80) hx hb dX7_mustName_68 (by decide) (fun c_5021 => ?_) (fun c_5021 => ?_)
                · skip
                  have hG := hG.trans (if_neg c_5021)
                  have gc_5021 := ti_ne c_5021 rfl kc_0
                  replace gc_5021 : (-1) * x_5020.toInt + 1 ≤ 0 := om_e3003f79 gc_5021 dx_5020.1
                  have h_5022 : iM_token.toInt = 2 := lx_5020 (om_7907a7c1 dx_5020.2 gc_5021)
                  clear lx_5020
                  refine lv_aload_n hx hb dX7_mustName_80 rfl (lv_at hl 0 rfl) ?_
                  refine lv_iconst (v := 1) hx hb dX7_mustName_81 (by decide) ?_
                  refine lv_aload_n hx hb dX7_mustName_82 rfl (lv_at hl 0 rfl) ?_
                  refine va_get (D := (dC, dI)) (ci := 7) (v := .int iM_at) (C := RX7) (T := TX7) (N := 48) hx hb hts inX7 hown hK hP 0 rfl rfl 4 (by decide) (hts _ wd_384) (fun _ h9 => h9) rfl dX7_mustName_83 ?_
                  have hMs := ml_of hD [true, false] (wc := [(oc7 oM iM_thrown rM_tape iM_taped iM_size iM_at iM_end iM_token iM_whole iM_nameSize iM_fault iM_place iM_trouble rM_letters iM_failed iM_hasCourt rM_r rM_fresh rM_told rM_read rM_st rM_undone rM_kept iM_undos iM_images rM_fresher iM_fresherSize iM_scale iM_night rM_heardRow rM_cutRow iM_breaths iM_cutMany iM_allBreaths rM_trial rM_words iM_fewestBreaths iM_orderMany iM_orderSum iM_leastOrder rM_often iM_setMany iM_someOf iM_allOf iM_allWeight iM_enoughWeight iM_worthSum iM_firstRest iM_leastDrawn)]) rfl
                  have hFc := va_freeM hD hS hA _ hMs
                  refine va_callv (va_runV (As := [.int 1, .int iM_at]) (rest := []) ⟨hx, hb, hml, hown, hts⟩ (tX7_wrong l dC dI _ oM iM_thrown rM_tape iM_taped iM_size iM_at iM_end iM_token iM_whole iM_nameSize iM_fault iM_place iM_trouble rM_letters iM_failed iM_hasCourt rM_r rM_fresh rM_told rM_read rM_st rM_undone rM_kept iM_undos iM_images rM_fresher iM_fresherSize iM_scale iM_night rM_heardRow rM_cutRow iM_breaths iM_cutMany iM_allBreaths rM_trial rM_words iM_fewestBreaths iM_orderMany iM_orderSum iM_leastOrder rM_often iM_setMany iM_someOf iM_allOf iM_allWeight iM_enoughWeight iM_worthSum iM_firstRest iM_leastDrawn 1 iM_at b_iM_taped b_iM_size b_iM_end b_iM_nameSize b_iM_failed b_iM_hasCourt b_iM_undos b_iM_images b_iM_scale b_iM_breaths b_iM_cutMany (fun h9 => h_4976)) (cwV 2 hts (wd_V wd_430 wd_431 wd_432 wd_5 (wd_c wd_433)) rfl rfl rfl dv_yX7_wrong_2 ⟨Nat.le_of_ble_eq_true rfl, Nat.le_of_ble_eq_true rfl⟩) ⟨Pw.fb, recvX7 hK hP (q0 := 0) rfl, fun U hU hW => Pw.to (hP.ms _ hMs) (hD.ms _ hMs) (hK.ms [false] rfl) hE hS hFc hU hW⟩ rfl rfl hl.1 rfl (lv_room (Nat.le_of_ble_eq_true rfl)) dX7_mustName_86 ⟨Nat.le_of_ble_eq_true rfl, Nat.le_of_ble_eq_true rfl⟩) hS (fun q _ h => hFc q h) hFc (fun u t H locs ht hvm hw hB hz1 hk1 hS => ?_)
                  refine ex_3_3 hB (fun x_5023 x_5024 x_5025 b_x_5025 e_x_5023_0 e_x_5023_1 hB => ?_)
                  obtain ⟨hP, hD⟩ := Bw.goN (ws' := [(oc7 oM iM_thrown rM_tape iM_taped iM_size iM_at iM_end iM_token iM_whole iM_nameSize x_5023 x_5024 iM_trouble rM_letters x_5025 iM_hasCourt rM_r rM_fresh rM_told rM_read rM_st rM_undone rM_kept iM_undos iM_images rM_fresher iM_fresherSize iM_scale iM_night rM_heardRow rM_cutRow iM_breaths iM_cutMany iM_allBreaths rM_trial rM_words iM_fewestBreaths iM_orderMany iM_orderSum iM_leastOrder rM_often iM_setMany iM_someOf iM_allOf iM_allWeight iM_enoughWeight iM_worthSum iM_firstRest iM_leastDrawn), (arI rM_letters kM_letters 8 fM_letters)]) hB rfl ht hP hD _ hMs hk1 hFc rfl
                  clear hz1 hk1 hvm ht hB hMs
                  have hG := hG.trans (un3_eq e_x_5023_1)
                  exact wq_v hx hb hr 0 trivial (fun t ht hW => ⟨x_5023, x_5024, x_5025, b_x_5025, (om_00f1c5dd b_iM_failed.2 e_x_5023_0), (fun h9 => gc_4972), hG, Bw.to hP hD hK ht hW⟩) hS dX7_mustName_89 hlocks
                · skip
                  have hG := hG.trans (if_pos c_5021)
                  have gc_5021 := ti_eq c_5021 rfl kc_0
                  clear lx_5020
                  refine lv_aload_n hx hb dX7_mustName_71 rfl (lv_at hl 0 rfl) ?_
                  obtain ⟨sa_5026, vsa_5026, nsa_5026, fsa_5026, hnsa_5026, hnesa_5026, hfesa_5026, hRsa_5026, hSsa_5026⟩ := hE.2.2.1 (148, "said", [115, 97, 105, 100]) (by decide)
                  have hG := hG.trans (lt_eq hnesa_5026)
                  have hG := hG.trans (lt_eq hfesa_5026)
                  refine va_ldcS hx hb hown hRsa_5026 dX7_mustName_72 ?_
                  have hFc := va_freeI hD hS hA
                  refine va_calli (va_runV (As := [.ref sa_5026]) (rest := []) ⟨hx, hb, hml, hown, hts⟩ (tX7_isWord l dC dI _ oM iM_thrown rM_tape iM_taped iM_size iM_at iM_end iM_token iM_whole iM_nameSize iM_fault iM_place iM_trouble rM_letters fM_letters kM_letters iM_failed iM_hasCourt rM_r rM_fresh rM_told rM_read rM_st rM_undone rM_kept iM_undos iM_images rM_fresher iM_fresherSize iM_scale iM_night rM_heardRow rM_cutRow iM_breaths iM_cutMany iM_allBreaths rM_trial rM_words iM_fewestBreaths iM_orderMany iM_orderSum iM_leastOrder rM_often iM_setMany iM_someOf iM_allOf iM_allWeight iM_enoughWeight iM_worthSum iM_firstRest iM_leastDrawn sa_5026 vsa_5026 nsa_5026 fsa_5026 b_iM_taped b_iM_size b_iM_end b_iM_nameSize b_iM_failed b_iM_hasCourt b_iM_undos b_iM_images b_iM_scale b_iM_breaths b_iM_cutMany (fun h9 => h_4976) (Nat.le_trans (Nat.le_of_eq hnesa_5026) (by decide))) (cwV 1 hts (wd_V wd_420 wd_421 wd_422 wd_5 (wd_c wd_423)) rfl rfl rfl dv_yX7_isWord_1 ⟨Nat.le_of_ble_eq_true rfl, Nat.le_of_ble_eq_true rfl⟩) ⟨Pq.fb, recvX7 hK hP (q0 := 0) rfl, fun U hU hW => Pq.to hP hD hK hSsa_5026 hE hS hFc hU hW⟩ rfl rfl hl.1 rfl (lv_room (Nat.le_of_ble_eq_true rfl)) dX7_mustName_74 ⟨Nat.le_of_ble_eq_true rfl, Nat.le_of_ble_eq_true rfl⟩) hS (fun q _ h => hFc q h) hFc (fun r u t H locs ht hvm hw hB hz1 hk1 hS => ?_)
                  have hru9 := hw.2
                  have hw := hw.1
                  obtain ⟨hP, hD⟩ := Bw.goA (ws' := [(oc7 oM iM_thrown rM_tape iM_taped iM_size iM_at iM_end iM_token iM_whole iM_nameSize iM_fault iM_place iM_trouble rM_letters iM_failed iM_hasCourt rM_r rM_fresh rM_told rM_read rM_st rM_undone rM_kept iM_undos iM_images rM_fresher iM_fresherSize iM_scale iM_night rM_heardRow rM_cutRow iM_breaths iM_cutMany iM_allBreaths rM_trial rM_words iM_fewestBreaths iM_orderMany iM_orderSum iM_leastOrder rM_often iM_setMany iM_someOf iM_allOf iM_allWeight iM_enoughWeight iM_worthSum iM_firstRest iM_leastDrawn), (arI rM_letters kM_letters 8 fM_letters)]) hB rfl ht hFc rfl
                  clear hz1 hk1 hvm ht hB
                  obtain ⟨x_5027, rfl⟩ : ∃ z, z = r := ⟨_, rfl⟩
                  have hG := hG.trans (lt_eq hru9.symm)
                  have bx_5027 := hw.1
                  have dx_5027 := bz_tb bx_5027
                  have lx_5027 := hw.2
                  refine lv_if_eq (tgt := 89) hx hb dX7_mustName_77 (by decide) (fun c_5028 => ?_) (fun c_5028 => ?_)
                  · skip
                    have hG := hG.trans (if_pos c_5028)
                    have gc_5028 := ti_eq c_5028 rfl kc_0
                    clear lx_5027
                    exact wq_v hx hb hr 0 trivial (fun t ht hW => ⟨iM_fault, iM_place, iM_failed, ⟨b_iM_failed.1, b_iM_failed.2⟩, om_1cb5f934, (fun h9 => gc_4972), hG, Bw.to hP hD hK ht hW⟩) hS dX7_mustName_89 hlocks
                  · skip
                    have hG := hG.trans (if_neg c_5028)
                    have gc_5028 := ti_ne c_5028 rfl kc_0
                    replace gc_5028 : (-1) * x_5027.toInt + 1 ≤ 0 := om_e3003f79 gc_5028 dx_5027.1
                    have h_5029 : iM_token.toInt = 2 := lx_5027 (om_7907a7c1 dx_5027.2 gc_5028)
                    clear lx_5027
                    refine lv_aload_n hx hb dX7_mustName_80 rfl (lv_at hl 0 rfl) ?_
                    refine lv_iconst (v := 1) hx hb dX7_mustName_81 (by decide) ?_
                    refine lv_aload_n hx hb dX7_mustName_82 rfl (lv_at hl 0 rfl) ?_
                    refine va_get (D := (dC, dI)) (ci := 7) (v := .int iM_at) (C := RX7) (T := TX7) (N := 48) hx hb hts inX7 hown hK hP 0 rfl rfl 4 (by decide) (hts _ wd_384) (fun _ h9 => h9) rfl dX7_mustName_83 ?_
                    have hMs := ml_of hD [true, false] (wc := [(oc7 oM iM_thrown rM_tape iM_taped iM_size iM_at iM_end iM_token iM_whole iM_nameSize iM_fault iM_place iM_trouble rM_letters iM_failed iM_hasCourt rM_r rM_fresh rM_told rM_read rM_st rM_undone rM_kept iM_undos iM_images rM_fresher iM_fresherSize iM_scale iM_night rM_heardRow rM_cutRow iM_breaths iM_cutMany iM_allBreaths rM_trial rM_words iM_fewestBreaths iM_orderMany iM_orderSum iM_leastOrder rM_often iM_setMany iM_someOf iM_allOf iM_allWeight iM_enoughWeight iM_worthSum iM_firstRest iM_leastDrawn)]) rfl
                    have hFc := va_freeM hD hS hA _ hMs
                    refine va_callv (va_runV (As := [.int 1, .int iM_at]) (rest := []) ⟨hx, hb, hml, hown, hts⟩ (tX7_wrong l dC dI _ oM iM_thrown rM_tape iM_taped iM_size iM_at iM_end iM_token iM_whole iM_nameSize iM_fault iM_place iM_trouble rM_letters iM_failed iM_hasCourt rM_r rM_fresh rM_told rM_read rM_st rM_undone rM_kept iM_undos iM_images rM_fresher iM_fresherSize iM_scale iM_night rM_heardRow rM_cutRow iM_breaths iM_cutMany iM_allBreaths rM_trial rM_words iM_fewestBreaths iM_orderMany iM_orderSum iM_leastOrder rM_often iM_setMany iM_someOf iM_allOf iM_allWeight iM_enoughWeight iM_worthSum iM_firstRest iM_leastDrawn 1 iM_at b_iM_taped b_iM_size b_iM_end b_iM_nameSize b_iM_failed b_iM_hasCourt b_iM_undos b_iM_images b_iM_scale b_iM_breaths b_iM_cutMany (fun h9 => h_4976)) (cwV 2 hts (wd_V wd_430 wd_431 wd_432 wd_5 (wd_c wd_433)) rfl rfl rfl dv_yX7_wrong_2 ⟨Nat.le_of_ble_eq_true rfl, Nat.le_of_ble_eq_true rfl⟩) ⟨Pw.fb, recvX7 hK hP (q0 := 0) rfl, fun U hU hW => Pw.to (hP.ms _ hMs) (hD.ms _ hMs) (hK.ms [false] rfl) hE hS hFc hU hW⟩ rfl rfl hl.1 rfl (lv_room (Nat.le_of_ble_eq_true rfl)) dX7_mustName_86 ⟨Nat.le_of_ble_eq_true rfl, Nat.le_of_ble_eq_true rfl⟩) hS (fun q _ h => hFc q h) hFc (fun u t H locs ht hvm hw hB hz1 hk1 hS => ?_)
                    refine ex_3_3 hB (fun x_5030 x_5031 x_5032 b_x_5032 e_x_5030_0 e_x_5030_1 hB => ?_)
                    obtain ⟨hP, hD⟩ := Bw.goN (ws' := [(oc7 oM iM_thrown rM_tape iM_taped iM_size iM_at iM_end iM_token iM_whole iM_nameSize x_5030 x_5031 iM_trouble rM_letters x_5032 iM_hasCourt rM_r rM_fresh rM_told rM_read rM_st rM_undone rM_kept iM_undos iM_images rM_fresher iM_fresherSize iM_scale iM_night rM_heardRow rM_cutRow iM_breaths iM_cutMany iM_allBreaths rM_trial rM_words iM_fewestBreaths iM_orderMany iM_orderSum iM_leastOrder rM_often iM_setMany iM_someOf iM_allOf iM_allWeight iM_enoughWeight iM_worthSum iM_firstRest iM_leastDrawn), (arI rM_letters kM_letters 8 fM_letters)]) hB rfl ht hP hD _ hMs hk1 hFc rfl
                    clear hz1 hk1 hvm ht hB hMs
                    have hG := hG.trans (un3_eq e_x_5030_1)
                    exact wq_v hx hb hr 0 trivial (fun t ht hW => ⟨x_5030, x_5031, x_5032, b_x_5032, (om_00f1c5dd b_iM_failed.2 e_x_5030_0), (fun h9 => gc_4972), hG, Bw.to hP hD hK ht hW⟩) hS dX7_mustName_89 hlocks
set_option maxHeartbeats 4000000 in
set_option maxRecDepth 100000 in
theorem tX7_find (l : Launch) (dC : Nat → ClassId) (dI : Nat → Nat → Nat) (sz : Nat) (oM : Nat) (iM_thrown : Int32) (rM_tape : Nat) (iM_taped : Int32) (iM_size : Int32) (iM_at : Int32) (iM_end : Int32) (iM_token : Int32) (iM_whole : Int32) (iM_nameSize : Int32) (iM_fault : Int32) (iM_place : Int32) (iM_trouble : Int32) (rM_letters : Nat) (fM_letters : Nat → Int32) (kM_letters : ClassId) (iM_failed : Int32) (iM_hasCourt : Int32) (rM_r : Nat) (rM_fresh : Nat) (fM_fresh : Nat → Int32) (kM_fresh : ClassId) (rM_told : Nat) (rM_read : Nat) (fM_read : Nat → Int32) (kM_read : ClassId) (rM_st : Nat) (rM_undone : Nat) (rM_kept : Nat) (iM_undos : Int32) (iM_images : Int32) (rM_fresher : Nat) (iM_fresherSize : Int32) (iM_scale : Int32) (iM_night : Int32) (rM_heardRow : Nat) (rM_cutRow : Nat) (iM_breaths : Int32) (iM_cutMany : Int32) (iM_allBreaths : Int32) (rM_trial : Nat) (rM_words : Nat) (iM_fewestBreaths : Int32) (iM_orderMany : Int32) (iM_orderSum : Int32) (iM_leastOrder : Int32) (rM_often : Nat) (iM_setMany : Int32) (iM_someOf : Int32) (iM_allOf : Int32) (iM_allWeight : Int64) (iM_enoughWeight : Int64) (iM_worthSum : Int64) (iM_firstRest : Int32) (iM_leastDrawn : Int32) (b_iM_taped : 0 ≤ iM_taped.toInt ∧ iM_taped.toInt ≤ 900) (b_iM_size : 0 ≤ iM_size.toInt ∧ iM_size.toInt ≤ 900) (b_iM_end : 0 ≤ iM_end.toInt ∧ iM_end.toInt ≤ 900) (b_iM_nameSize : 0 ≤ iM_nameSize.toInt ∧ iM_nameSize.toInt ≤ 900) (b_iM_failed : 0 ≤ iM_failed.toInt ∧ iM_failed.toInt ≤ 1) (b_iM_hasCourt : 0 ≤ iM_hasCourt.toInt ∧ iM_hasCourt.toInt ≤ 1) (b_iM_undos : 0 ≤ iM_undos.toInt ∧ iM_undos.toInt ≤ 16) (b_iM_images : 0 ≤ iM_images.toInt ∧ iM_images.toInt ≤ 3) (b_iM_scale : 1 ≤ iM_scale.toInt ∧ iM_scale.toInt ≤ 1296) (b_iM_breaths : 0 ≤ iM_breaths.toInt ∧ iM_breaths.toInt ≤ 399) (b_iM_cutMany : 0 ≤ iM_cutMany.toInt ∧ iM_cutMany.toInt ≤ 399) (r_T : ImpP (iM_token.toInt = 2) (iM_nameSize.toInt ≤ 8)) (r_P : POk fM_fresh fM_read) (hns : iM_nameSize.toInt ≤ 8) : Met l yX7_find (Cond.code yX7_find cX7_find 4 (some .int) :: wG) ({ frames := 0, cells := 0, slots := 0, locals := 0 }) (va_Pc [.ref oM] (Pw dC dI sz [(oc7 oM iM_thrown rM_tape iM_taped iM_size iM_at iM_end iM_token iM_whole iM_nameSize iM_fault iM_place iM_trouble rM_letters iM_failed iM_hasCourt rM_r rM_fresh rM_told rM_read rM_st rM_undone rM_kept iM_undos iM_images rM_fresher iM_fresherSize iM_scale iM_night rM_heardRow rM_cutRow iM_breaths iM_cutMany iM_allBreaths rM_trial rM_words iM_fewestBreaths iM_orderMany iM_orderSum iM_leastOrder rM_often iM_setMany iM_someOf iM_allOf iM_allWeight iM_enoughWeight iM_worthSum iM_firstRest iM_leastDrawn), (arI rM_letters kM_letters 8 fM_letters), (arI rM_fresh kM_fresh 287 fM_fresh), (arI rM_read kM_read 90 fM_read)] [(kM_letters, .int), (kM_fresh, .int), (kM_read, .int)])) (va_Qi (fun (r : Int32) (_ : Nat) => (True ∧ (-1 ≤ r.toInt ∧ r.toInt < (fM_fresh 1).toInt ∧ r.toInt ≤ 17)) ∧ PX7_find iM_nameSize fM_letters fM_fresh = r) (fun (_ : Nat) (t : State) => Bw dC dI (va_A [(oc7 oM iM_thrown rM_tape iM_taped iM_size iM_at iM_end iM_token iM_whole iM_nameSize iM_fault iM_place iM_trouble rM_letters iM_failed iM_hasCourt rM_r rM_fresh rM_told rM_read rM_st rM_undone rM_kept iM_undos iM_images rM_fresher iM_fresherSize iM_scale iM_night rM_heardRow rM_cutRow iM_breaths iM_cutMany iM_allBreaths rM_trial rM_words iM_fewestBreaths iM_orderMany iM_orderSum iM_leastOrder rM_often iM_setMany iM_someOf iM_allOf iM_allWeight iM_enoughWeight iM_worthSum iM_firstRest iM_leastDrawn), (arI rM_letters kM_letters 8 fM_letters), (arI rM_fresh kM_fresh 287 fM_fresh), (arI rM_read kM_read 90 fM_read)] sz) [(oc7 oM iM_thrown rM_tape iM_taped iM_size iM_at iM_end iM_token iM_whole iM_nameSize iM_fault iM_place iM_trouble rM_letters iM_failed iM_hasCourt rM_r rM_fresh rM_told rM_read rM_st rM_undone rM_kept iM_undos iM_images rM_fresher iM_fresherSize iM_scale iM_night rM_heardRow rM_cutRow iM_breaths iM_cutMany iM_allBreaths rM_trial rM_words iM_fewestBreaths iM_orderMany iM_orderSum iM_leastOrder rM_often iM_setMany iM_someOf iM_allOf iM_allWeight iM_enoughWeight iM_worthSum iM_firstRest iM_leastDrawn), (arI rM_letters kM_letters 8 fM_letters), (arI rM_fresh kM_fresh 287 fM_fresh), (arI rM_read kM_read 90 fM_read)] [(kM_letters, .int), (kM_fresh, .int), (kM_read, .int)] t) (va_A [(oc7 oM iM_thrown rM_tape iM_taped iM_size iM_at iM_end iM_token iM_whole iM_nameSize iM_fault iM_place iM_trouble rM_letters iM_failed iM_hasCourt rM_r rM_fresh rM_told rM_read rM_st rM_undone rM_kept iM_undos iM_images rM_fresher iM_fresherSize iM_scale iM_night rM_heardRow rM_cutRow iM_breaths iM_cutMany iM_allBreaths rM_trial rM_words iM_fewestBreaths iM_orderMany iM_orderSum iM_leastOrder rM_often iM_setMany iM_someOf iM_allOf iM_allWeight iM_enoughWeight iM_worthSum iM_firstRest iM_leastDrawn), (arI rM_letters kM_letters 8 fM_letters), (arI rM_fresh kM_fresh 287 fM_fresh), (arI rM_read kM_read 90 fM_read)] sz)) 0 0 (va_A [(oc7 oM iM_thrown rM_tape iM_taped iM_size iM_at iM_end iM_token iM_whole iM_nameSize iM_fault iM_place iM_trouble rM_letters iM_failed iM_hasCourt rM_r rM_fresh rM_told rM_read rM_st rM_undone rM_kept iM_undos iM_images rM_fresher iM_fresherSize iM_scale iM_night rM_heardRow rM_cutRow iM_breaths iM_cutMany iM_allBreaths rM_trial rM_words iM_fewestBreaths iM_orderMany iM_orderSum iM_leastOrder rM_often iM_setMany iM_someOf iM_allOf iM_allWeight iM_enoughWeight iM_worthSum iM_firstRest iM_leastDrawn), (arI rM_letters kM_letters 8 fM_letters), (arI rM_fresh kM_fresh 287 fM_fresh), (arI rM_read kM_read 90 fM_read)] sz) := by
  refine Met.ofW (cc := cX7_find) (maxL := 4) (ret := (some .int)) pnX7 rfl ?_
  intro p e s m args below meth c s₁ B hml hv
  obtain ⟨rfl, hsz, hP, hK, hD0, hE⟩ := hv
  have hx := B.exec
  have hb := B.bytes
  have hr := B.returns
  have hts : ∀ w ∈ wG, w.before ([.ref oM] : List Value).toArray s = true := fun w h => atoms_spec (ws := Cond.code yX7_find cX7_find 4 (some .int) :: wG) B.pre w (List.mem_cons_of_mem _ h)
  have hown : s.vm.findClass RX7 = some m.cls := own_of B.named rfl
  have hlocks := B.notSynchronized
  subst hsz
  have hD := hD0.self (sz := s.heap.size)
  generalize hAe : va_A [(oc7 oM iM_thrown rM_tape iM_taped iM_size iM_at iM_end iM_token iM_whole iM_nameSize iM_fault iM_place iM_trouble rM_letters iM_failed iM_hasCourt rM_r rM_fresh rM_told rM_read rM_st rM_undone rM_kept iM_undos iM_images rM_fresher iM_fresherSize iM_scale iM_night rM_heardRow rM_cutRow iM_breaths iM_cutMany iM_allBreaths rM_trial rM_words iM_fewestBreaths iM_orderMany iM_orderSum iM_leastOrder rM_often iM_setMany iM_someOf iM_allOf iM_allWeight iM_enoughWeight iM_worthSum iM_firstRest iM_leastDrawn), (arI rM_letters kM_letters 8 fM_letters), (arI rM_fresh kM_fresh 287 fM_fresh), (arI rM_read kM_read 90 fM_read)] s.heap.size = A at hD hE ⊢
  have hA : ∀ q : Nat, s.heap.size ≤ q → A q := fun q h => by rw [← hAe]; exact Or.inr h
  have hS : va_S A s.heap s.heap [] := va_S.rf
  have hl := lv_entry ([.ref oM]) (n := 4) (Nat.le_of_ble_eq_true rfl)
  rw [lg_entry_eq]
  generalize (lg_sl ([.ref oM]) ++ List.replicate (4 - (lg_sl ([.ref oM])).length) Slot.unset).toArray = ls at hl ⊢
  have hl : lv_has ls 4 [(0, .ref oM)] := hl
  have hG := PX7_find_eq iM_nameSize fM_letters fM_fresh
  have pl_fM_fresh := r_P.lins
  refine lv_iconst (v := 0) hx hb dX7_find_0 (by decide) ?_
  refine lv_istore_n (lv' := [(1, .int 0), (0, .ref oM)]) hx hb dX7_find_1 rfl hl (by decide) rfl (fun ls hl => ?_)
  have hl := lv_sub hl (l' := [(1, .int 0), (0, .ref oM)]) [0, 1] rfl
  have key_n_5102 : ∀ (n_5102 : Nat) (z_5101 : Int32) (H : Heap) (locs : List Loc) (ls : Array Slot), (0 ≤ z_5101.toInt ∧ z_5101.toInt ≤ 18) → (18 - z_5101.toInt).toNat < n_5102 → (PX7_find iM_nameSize fM_letters fM_fresh = HX7_find_0 iM_nameSize fM_letters fM_fresh n_5102 z_5101) → va_P (dC, dI) vwCl [(oc7 oM iM_thrown rM_tape iM_taped iM_size iM_at iM_end iM_token iM_whole iM_nameSize iM_fault iM_place iM_trouble rM_letters iM_failed iM_hasCourt rM_r rM_fresh rM_told rM_read rM_st rM_undone rM_kept iM_undos iM_images rM_fresher iM_fresherSize iM_scale iM_night rM_heardRow rM_cutRow iM_breaths iM_cutMany iM_allBreaths rM_trial rM_words iM_fewestBreaths iM_orderMany iM_orderSum iM_leastOrder rM_often iM_setMany iM_someOf iM_allOf iM_allWeight iM_enoughWeight iM_worthSum iM_firstRest iM_leastDrawn), (arI rM_letters kM_letters 8 fM_letters), (arI rM_fresh kM_fresh 287 fM_fresh), (arI rM_read kM_read 90 fM_read)] H → va_D A [(oc7 oM iM_thrown rM_tape iM_taped iM_size iM_at iM_end iM_token iM_whole iM_nameSize iM_fault iM_place iM_trouble rM_letters iM_failed iM_hasCourt rM_r rM_fresh rM_told rM_read rM_st rM_undone rM_kept iM_undos iM_images rM_fresher iM_fresherSize iM_scale iM_night rM_heardRow rM_cutRow iM_breaths iM_cutMany iM_allBreaths rM_trial rM_words iM_fewestBreaths iM_orderMany iM_orderSum iM_leastOrder rM_often iM_setMany iM_someOf iM_allOf iM_allWeight iM_enoughWeight iM_worthSum iM_firstRest iM_leastDrawn), (arI rM_letters kM_letters 8 fM_letters), (arI rM_fresh kM_fresh 287 fM_fresh), (arI rM_read kM_read 90 fM_read)] → va_S A s.heap H locs → lv_has ls 4 [(1, .int z_5101), (0, .ref oM)] → W p l e (headSpec (Cond.code yX7_find cX7_find 4 (some .int) :: wG) ({ frames := 0, cells := 0, slots := 0, locals := 0 })).room s m ([.ref oM] : List Value).toArray below meth c H locs 0 0 (MQ below (va_Qi (fun (r : Int32) (_ : Nat) => (True ∧ (-1 ≤ r.toInt ∧ r.toInt < (fM_fresh 1).toInt ∧ r.toInt ≤ 17)) ∧ PX7_find iM_nameSize fM_letters fM_fresh = r) (fun (_ : Nat) (t : State) => Bw dC dI A [(oc7 oM iM_thrown rM_tape iM_taped iM_size iM_at iM_end iM_token iM_whole iM_nameSize iM_fault iM_place iM_trouble rM_letters iM_failed iM_hasCourt rM_r rM_fresh rM_told rM_read rM_st rM_undone rM_kept iM_undos iM_images rM_fresher iM_fresherSize iM_scale iM_night rM_heardRow rM_cutRow iM_breaths iM_cutMany iM_allBreaths rM_trial rM_words iM_fewestBreaths iM_orderMany iM_orderSum iM_leastOrder rM_often iM_setMany iM_someOf iM_allOf iM_allWeight iM_enoughWeight iM_worthSum iM_firstRest iM_leastDrawn), (arI rM_letters kM_letters 8 fM_letters), (arI rM_fresh kM_fresh 287 fM_fresh), (arI rM_read kM_read 90 fM_read)] [(kM_letters, .int), (kM_fresh, .int), (kM_read, .int)] t) A) ([.ref oM] : List Value).toArray s 0 0 A) (F0 m 2 ls []) := by
    intro n_5102
    induction n_5102 with
    | zero => intro z_5101 H locs ls hi0_n_5102 hm; exact absurd hm (Nat.not_lt_zero _)
    | succ n_5102 ih_n_5102 =>
      intro z_5101 H locs ls hi0_n_5102 hm_n_5102 hG hP hD hS hl
      have hG := hG.trans (HX7_find_0_eq _ _ _ _ _)
      refine lv_iload_n hx hb dX7_find_2 rfl (lv_at hl 0 rfl) ?_
      refine lv_bipush (v := 18) hx hb dX7_find_3 (by decide) ?_
      refine lv_icmp_ge (tgt := 104) hx hb dX7_find_5 (by decide) (fun c_5103 => ?_) (fun c_5103 => ?_)
      · skip
        have hG := hG.trans (if_pos c_5103)
        have gc_5103 := ti_le c_5103 kc_18 rfl
        refine lv_iconst (v := (-1)) hx hb dX7_find_104 (by decide) ?_
        exact wq_i hx hb hr 0 ⟨⟨trivial, (by have q := kc_m1; first | omega | assumption)⟩, hG⟩ (fun t ht hW => Bw.to hP hD hK ht hW) hS dX7_find_105 hlocks
      · skip
        have hG := hG.trans (if_neg c_5103)
        have gc_5103 := ti_nle c_5103 kc_18 rfl
        refine lv_aload_n hx hb dX7_find_8 rfl (lv_at hl 1 rfl) ?_
        refine va_get (D := (dC, dI)) (ci := 7) (v := .ref rM_fresh) (C := RX7) (T := TX7) (N := 48) hx hb hts inX7 hown hK hP 0 rfl rfl 16 (by decide) (hts _ wd_156) (fun _ h9 => h9) rfl dX7_find_9 ?_
        refine lv_bipush (v := 125) hx hb dX7_find_12 (by decide) ?_
        refine lv_iload_n hx hb dX7_find_14 rfl (lv_at hl 0 rfl) ?_
        refine lv_iadd hx hb dX7_find_15 ?_
        refine lv_topi (fun x_5104 ex_5104 => ?_)
        have hG := hG.trans (lt_eq ex_5104)
        have vx_5104 : x_5104.toInt = z_5101.toInt + 125 := om_82a8c57f (ti_add ex_5104 kc_125 rfl (om_aca3d3b7 hi0_n_5102.1) (om_ed5dcb39 hi0_n_5102.2))
        refine va_iald hx hb hK hP 2 1 rfl rfl (ti_in vx_5104 (om_b2464657 hi0_n_5102.1) (om_8b08a55a hi0_n_5102.2)) dX7_find_16 ?_
        refine lv_topi (fun x_5105 ex_5105 => ?_)
        have hG := hG.trans (lt_eq ex_5105)
        have kx_5105 : (fM_fresh x_5104.toNatClampNeg).toInt = x_5105.toInt := by rw [ex_5105]
        have cx_5105 : (fM_fresh (125 + z_5101.toNatClampNeg)).toInt = x_5105.toInt := by rw [show 125 + z_5101.toNatClampNeg = x_5104.toNatClampNeg from (om_f728cf40 (ti_cl (x := z_5101) rfl hi0_n_5102.1) (ti_cl (x := x_5104) vx_5104 (om_b2464657 hi0_n_5102.1)))]; exact kx_5105
        refine lv_if_le (tgt := 40) hx hb dX7_find_17 (by decide) (fun c_5106 => ?_) (fun c_5106 => ?_)
        · skip
          have hG := hG.trans (if_pos c_5106)
          have gc_5106 := ti_le c_5106 rfl kc_0
          refine lv_iconst (v := 0) hx hb dX7_find_40 (by decide) ?_
          refine lv_istore_n (lv' := [(2, .int 0), (1, .int z_5101), (0, .ref oM)]) hx hb dX7_find_41 rfl hl (by decide) rfl (fun ls hl => ?_)
          refine lv_iconst (v := 0) hx hb dX7_find_42 (by decide) ?_
          refine lv_istore_n (lv' := [(3, .int 0), (2, .int 0), (1, .int z_5101), (0, .ref oM)]) hx hb dX7_find_43 rfl hl (by decide) rfl (fun ls hl => ?_)
          have hl := lv_sub hl (l' := [(3, .int 0), (2, .int 0), (1, .int z_5101), (0, .ref oM)]) [0, 1, 2, 3] rfl
          have key_n_5109 : ∀ (n_5109 : Nat) (z_5107 : Int32) (z_5108 : Int32) (H : Heap) (locs : List Loc) (ls : Array Slot), (0 ≤ z_5107.toInt ∧ z_5107.toInt ≤ iM_nameSize.toInt) → (0 ≤ z_5108.toInt ∧ z_5108.toInt ≤ 1) → (1 ≤ z_5108.toInt → 1 ≤ (fM_fresh (125 + z_5101.toNatClampNeg)).toInt) → (iM_nameSize.toInt - z_5107.toInt).toNat < n_5109 → (PX7_find iM_nameSize fM_letters fM_fresh = HX7_find_1 iM_nameSize fM_letters fM_fresh z_5101 (fun (z_5101 : Int32) => HX7_find_0 iM_nameSize fM_letters fM_fresh n_5102 z_5101) n_5109 z_5107 z_5108) → va_P (dC, dI) vwCl [(oc7 oM iM_thrown rM_tape iM_taped iM_size iM_at iM_end iM_token iM_whole iM_nameSize iM_fault iM_place iM_trouble rM_letters iM_failed iM_hasCourt rM_r rM_fresh rM_told rM_read rM_st rM_undone rM_kept iM_undos iM_images rM_fresher iM_fresherSize iM_scale iM_night rM_heardRow rM_cutRow iM_breaths iM_cutMany iM_allBreaths rM_trial rM_words iM_fewestBreaths iM_orderMany iM_orderSum iM_leastOrder rM_often iM_setMany iM_someOf iM_allOf iM_allWeight iM_enoughWeight iM_worthSum iM_firstRest iM_leastDrawn), (arI rM_letters kM_letters 8 fM_letters), (arI rM_fresh kM_fresh 287 fM_fresh), (arI rM_read kM_read 90 fM_read)] H → va_D A [(oc7 oM iM_thrown rM_tape iM_taped iM_size iM_at iM_end iM_token iM_whole iM_nameSize iM_fault iM_place iM_trouble rM_letters iM_failed iM_hasCourt rM_r rM_fresh rM_told rM_read rM_st rM_undone rM_kept iM_undos iM_images rM_fresher iM_fresherSize iM_scale iM_night rM_heardRow rM_cutRow iM_breaths iM_cutMany iM_allBreaths rM_trial rM_words iM_fewestBreaths iM_orderMany iM_orderSum iM_leastOrder rM_often iM_setMany iM_someOf iM_allOf iM_allWeight iM_enoughWeight iM_worthSum iM_firstRest iM_leastDrawn), (arI rM_letters kM_letters 8 fM_letters), (arI rM_fresh kM_fresh 287 fM_fresh), (arI rM_read kM_read 90 fM_read)] → va_S A s.heap H locs → lv_has ls 4 [(3, .int z_5107), (2, .int z_5108), (1, .int z_5101), (0, .ref oM)] → W p l e (headSpec (Cond.code yX7_find cX7_find 4 (some .int) :: wG) ({ frames := 0, cells := 0, slots := 0, locals := 0 })).room s m ([.ref oM] : List Value).toArray below meth c H locs 0 0 (MQ below (va_Qi (fun (r : Int32) (_ : Nat) => (True ∧ (-1 ≤ r.toInt ∧ r.toInt < (fM_fresh 1).toInt ∧ r.toInt ≤ 17)) ∧ PX7_find iM_nameSize fM_letters fM_fresh = r) (fun (_ : Nat) (t : State) => Bw dC dI A [(oc7 oM iM_thrown rM_tape iM_taped iM_size iM_at iM_end iM_token iM_whole iM_nameSize iM_fault iM_place iM_trouble rM_letters iM_failed iM_hasCourt rM_r rM_fresh rM_told rM_read rM_st rM_undone rM_kept iM_undos iM_images rM_fresher iM_fresherSize iM_scale iM_night rM_heardRow rM_cutRow iM_breaths iM_cutMany iM_allBreaths rM_trial rM_words iM_fewestBreaths iM_orderMany iM_orderSum iM_leastOrder rM_often iM_setMany iM_someOf iM_allOf iM_allWeight iM_enoughWeight iM_worthSum iM_firstRest iM_leastDrawn), (arI rM_letters kM_letters 8 fM_letters), (arI rM_fresh kM_fresh 287 fM_fresh), (arI rM_read kM_read 90 fM_read)] [(kM_letters, .int), (kM_fresh, .int), (kM_read, .int)] t) A) ([.ref oM] : List Value).toArray s 0 0 A) (F0 m 44 ls []) := by
            intro n_5109
            induction n_5109 with
            | zero => intro z_5107 z_5108 H locs ls hi0_n_5109 hi1_n_5109 hi2_n_5109 hm; exact absurd hm (Nat.not_lt_zero _)
            | succ n_5109 ih_n_5109 =>
              intro z_5107 z_5108 H locs ls hi0_n_5109 hi1_n_5109 hi2_n_5109 hm_n_5109 hG hP hD hS hl
              have hG := hG.trans (HX7_find_1_eq _ _ _ _ _ _ _ _)
              have nm_z_5101 : 1 ≤ (fM_fresh (125 + z_5101.toNatClampNeg)).toInt → z_5101.toInt < (fM_fresh 1).toInt := fun h9 => by have q1 := ti_cl (x := z_5101) rfl hi0_n_5102.1; have q2 := r_P.1.names z_5101.toNatClampNeg (by omega) (by omega); omega
              clear nm_z_5101
              refine lv_iload_n hx hb dX7_find_44 rfl (lv_at hl 0 rfl) ?_
              refine lv_aload_n hx hb dX7_find_45 rfl (lv_at hl 3 rfl) ?_
              refine va_get (D := (dC, dI)) (ci := 7) (v := .int iM_nameSize) (C := RX7) (T := TX7) (N := 48) hx hb hts inX7 hown hK hP 0 rfl rfl 8 (by decide) (hts _ wd_404) (fun _ h9 => h9) rfl dX7_find_46 ?_
              refine lv_icmp_ge (tgt := 92) hx hb dX7_find_49 (by decide) (fun c_5110 => ?_) (fun c_5110 => ?_)
              · skip
                have hG := hG.trans (if_pos c_5110)
                have gc_5110 := ti_le c_5110 rfl rfl
                refine lv_iload_n hx hb dX7_find_92 rfl (lv_at hl 1 rfl) ?_
                refine lv_if_eq (tgt := 98) hx hb dX7_find_93 (by decide) (fun c_5111 => ?_) (fun c_5111 => ?_)
                · skip
                  have hG := hG.trans (if_pos c_5111)
                  have gc_5111 := ti_eq c_5111 rfl kc_0
                  clear hi2_n_5109
                  obtain ⟨x_5112, ex_5112⟩ : ∃ z : Int32, z = z_5101 + Int32.ofInt 1 := ⟨_, rfl⟩
                  have hG := hG.trans (lt_eq ex_5112)
                  have vx_5112 : x_5112.toInt = z_5101.toInt + 1 := ti_add (y := 1) ex_5112 rfl kc_1 (om_4e4fce7e hi0_n_5102.1) (om_9d611bdb hi0_n_5102.2)
                  refine lv_iinc (v := x_5112) (lv' := [(1, .int x_5112), (3, .int z_5107), (2, .int z_5108), (0, .ref oM)]) hx hb dX7_find_98 hl (k := 2) rfl ex_5112.symm (by decide) rfl (fun ls hl => ?_)
                  refine lv_goto (tgt := 2) hx hb dX7_find_101 (by decide) ?_
                  exact ih_n_5102 x_5112 _ _ _  ⟨(om_83b90de5 hi0_n_5102.1 vx_5112), (om_497b4f92 gc_5103 vx_5112)⟩ (ms_lt hm_n_5102 (om_0886d075 vx_5112) (om_e7bc4510 gc_5103)) hG hP hD hS (lv_sub hl [0, 3] rfl)
                · skip
                  have hG := hG.trans (if_neg c_5111)
                  have gc_5111 := ti_ne c_5111 rfl kc_0
                  replace gc_5111 : (-1) * z_5108.toInt + 1 ≤ 0 := om_e3003f79 gc_5111 hi1_n_5109.1
                  have h_5113 := hi2_n_5109 (by omega)
                  clear hi2_n_5109
                  refine lv_iload_n hx hb dX7_find_96 rfl (lv_at hl 2 rfl) ?_
                  exact wq_i hx hb hr 0 ⟨⟨trivial, (by first | omega | assumption)⟩, hG⟩ (fun t ht hW => Bw.to hP hD hK ht hW) hS dX7_find_97 hlocks
              · skip
                have hG := hG.trans (if_neg c_5110)
                have gc_5110 := ti_nle c_5110 rfl rfl
                refine lv_iload_n hx hb dX7_find_52 rfl (lv_at hl 1 rfl) ?_
                refine lv_if_eq (tgt := 92) hx hb dX7_find_53 (by decide) (fun c_5114 => ?_) (fun c_5114 => ?_)
                · skip
                  have hG := hG.trans (if_pos c_5114)
                  have gc_5114 := ti_eq c_5114 rfl kc_0
                  clear hi2_n_5109
                  refine lv_iload_n hx hb dX7_find_92 rfl (lv_at hl 1 rfl) ?_
                  refine lv_if_eq (tgt := 98) hx hb dX7_find_93 (by decide) (fun c_5115 => ?_) (fun c_5115 => ?_)
                  · skip
                    have hG := hG.trans (if_pos c_5115)
                    have gc_5115 := ti_eq c_5115 rfl kc_0
                    obtain ⟨x_5116, ex_5116⟩ : ∃ z : Int32, z = z_5101 + Int32.ofInt 1 := ⟨_, rfl⟩
                    have hG := hG.trans (lt_eq ex_5116)
                    have vx_5116 : x_5116.toInt = z_5101.toInt + 1 := ti_add (y := 1) ex_5116 rfl kc_1 (om_4e4fce7e hi0_n_5102.1) (om_9d611bdb hi0_n_5102.2)
                    refine lv_iinc (v := x_5116) (lv' := [(1, .int x_5116), (3, .int z_5107), (2, .int z_5108), (0, .ref oM)]) hx hb dX7_find_98 hl (k := 2) rfl ex_5116.symm (by decide) rfl (fun ls hl => ?_)
                    refine lv_goto (tgt := 2) hx hb dX7_find_101 (by decide) ?_
                    exact ih_n_5102 x_5116 _ _ _  ⟨(om_83b90de5 hi0_n_5102.1 vx_5116), (om_497b4f92 gc_5103 vx_5116)⟩ (ms_lt hm_n_5102 (om_0886d075 vx_5116) (om_e7bc4510 gc_5103)) hG hP hD hS (lv_sub hl [0, 3] rfl)
                  · skip
                    have hG := hG.trans (if_neg c_5115)
                    have gc_5115 := ti_ne c_5115 rfl kc_0
                    replace gc_5115 : z_5108.toInt + 1 ≤ 0 := om_f992525b gc_5115 gc_5114
                    exact ((om_5185113d hi1_n_5109.1 gc_5115)).elim
                · skip
                  have hG := hG.trans (if_neg c_5114)
                  have gc_5114 := ti_ne c_5114 rfl kc_0
                  replace gc_5114 : (-1) * z_5108.toInt + 1 ≤ 0 := om_e3003f79 gc_5114 hi1_n_5109.1
                  have h_5117 := hi2_n_5109 (by omega)
                  clear hi2_n_5109
                  refine lv_aload_n hx hb dX7_find_56 rfl (lv_at hl 3 rfl) ?_
                  refine va_get (D := (dC, dI)) (ci := 7) (v := .ref rM_fresh) (C := RX7) (T := TX7) (N := 48) hx hb hts inX7 hown hK hP 0 rfl rfl 16 (by decide) (hts _ wd_156) (fun _ h9 => h9) rfl dX7_find_57 ?_
                  refine lv_sipush (v := 143) hx hb dX7_find_60 (by decide) ?_
                  refine lv_bipush (v := 8) hx hb dX7_find_63 (by decide) ?_
                  refine lv_iload_n hx hb dX7_find_65 rfl (lv_at hl 2 rfl) ?_
                  refine lv_imul hx hb dX7_find_66 ?_
                  refine lv_topi (fun x_5118 ex_5118 => ?_)
                  have hG := hG.trans (lt_eq ex_5118)
                  have vx_5118 : x_5118.toInt = 8 * z_5101.toInt := ti_mul ex_5118 kc_8 rfl (om_894b99c2 hi0_n_5102.1) (om_3615877d hi0_n_5102.2)
                  refine lv_iadd hx hb dX7_find_67 ?_
                  refine lv_topi (fun x_5119 ex_5119 => ?_)
                  have hG := hG.trans (lt_eq ex_5119)
                  have vx_5119 : x_5119.toInt = 8 * z_5101.toInt + 143 := om_91565d1d (ti_add ex_5119 kc_143 vx_5118 (om_a8db8aec hi0_n_5102.1) (om_8871eb58 hi0_n_5102.2))
                  refine lv_iload_n hx hb dX7_find_68 rfl (lv_at hl 0 rfl) ?_
                  refine lv_iadd hx hb dX7_find_69 ?_
                  refine lv_topi (fun x_5120 ex_5120 => ?_)
                  have hG := hG.trans (lt_eq ex_5120)
                  have vx_5120 : x_5120.toInt = 8 * z_5101.toInt + z_5107.toInt + 143 := om_8d4a621a (ti_add ex_5120 vx_5119 rfl (om_467ad9f8 hi0_n_5102.1 hi0_n_5109.1) (om_29fa77d8 hns hi0_n_5102.2 hi0_n_5109.2))
                  refine va_iald hx hb hK hP 2 1 rfl rfl (ti_in vx_5120 (om_fdd59aa4 hi0_n_5102.1 hi0_n_5109.1) (om_4f58e249 hns gc_5103 gc_5110)) dX7_find_70 ?_
                  refine lv_topi (fun x_5121 ex_5121 => ?_)
                  have hG := hG.trans (lt_eq ex_5121)
                  have kx_5121 : (fM_fresh x_5120.toNatClampNeg).toInt = x_5121.toInt := by rw [ex_5121]
                  have cx_5121 : (fM_fresh (143 + 8 * z_5101.toNatClampNeg + z_5107.toNatClampNeg)).toInt = x_5121.toInt := by rw [show 143 + 8 * z_5101.toNatClampNeg + z_5107.toNatClampNeg = x_5120.toNatClampNeg from (om_ff716d49 (ti_cl (x := z_5101) rfl hi0_n_5102.1) (ti_cl (x := z_5107) rfl hi0_n_5109.1) (ti_cl (x := x_5120) vx_5120 (om_fdd59aa4 hi0_n_5102.1 hi0_n_5109.1)))]; exact kx_5121
                  refine lv_aload_n hx hb dX7_find_71 rfl (lv_at hl 3 rfl) ?_
                  refine va_get (D := (dC, dI)) (ci := 7) (v := .ref rM_letters) (C := RX7) (T := TX7) (N := 48) hx hb hts inX7 hown hK hP 0 rfl rfl 12 (by decide) (hts _ wd_154) (fun _ h9 => h9) rfl dX7_find_72 ?_
                  refine lv_iload_n hx hb dX7_find_75 rfl (lv_at hl 0 rfl) ?_
                  refine va_iald hx hb hK hP 1 0 rfl rfl (ti_in rfl hi0_n_5109.1 (om_9badf829 hns gc_5110)) dX7_find_76 ?_
                  refine lv_topi (fun x_5122 ex_5122 => ?_)
                  have hG := hG.trans (lt_eq ex_5122)
                  have kx_5122 : (fM_letters z_5107.toNatClampNeg).toInt = x_5122.toInt := by rw [ex_5122]
                  have cx_5122 := kx_5122
                  refine lv_icmp_ne (tgt := 84) hx hb dX7_find_77 (by decide) (fun c_5123 => ?_) (fun c_5123 => ?_)
                  · skip
                    have hG := hG.trans (if_neg c_5123)
                    have gc_5123 := ti_ne c_5123 rfl rfl
                    refine lv_iconst (v := 0) hx hb dX7_find_84 (by decide) ?_
                    refine lv_istore_n (lv' := [(2, .int 0), (3, .int z_5107), (1, .int z_5101), (0, .ref oM)]) hx hb dX7_find_85 rfl hl (by decide) rfl (fun ls hl => ?_)
                    obtain ⟨x_5124, ex_5124⟩ : ∃ z : Int32, z = z_5107 + Int32.ofInt 1 := ⟨_, rfl⟩
                    have hG := hG.trans (lt_eq ex_5124)
                    have vx_5124 : x_5124.toInt = z_5107.toInt + 1 := ti_add (y := 1) ex_5124 rfl kc_1 (om_4e4fce7e hi0_n_5109.1) (om_89e8ce70 hns hi0_n_5109.2)
                    refine lv_iinc (v := x_5124) (lv' := [(3, .int x_5124), (2, .int 0), (1, .int z_5101), (0, .ref oM)]) hx hb dX7_find_86 hl (k := 1) rfl ex_5124.symm (by decide) rfl (fun ls hl => ?_)
                    refine lv_goto (tgt := 44) hx hb dX7_find_89 (by decide) ?_
                    exact ih_n_5109 x_5124 0 _ _ _  ⟨(om_83b90de5 hi0_n_5109.1 vx_5124), (om_afcf07ef gc_5110 vx_5124)⟩ ⟨(om_b1de7dbe kc_0), (om_270f4ea0 kc_0)⟩ (by have q0 := kc_0; have q1 := kc_1; have q2 := kc_2; have q3 := kc_3; omega) (ms_lt hm_n_5109 (om_dd4ae0bc vx_5124) (om_d5382009 gc_5110)) hG hP hD hS (lv_sub hl [0, 1, 2, 3] rfl)
                  · skip
                    have hG := hG.trans (if_pos c_5123)
                    have gc_5123 := ti_eq c_5123 rfl rfl
                    refine lv_iconst (v := 1) hx hb dX7_find_80 (by decide) ?_
                    refine lv_goto (tgt := 85) hx hb dX7_find_81 (by decide) ?_
                    refine lv_istore_n (lv' := [(2, .int 1), (3, .int z_5107), (1, .int z_5101), (0, .ref oM)]) hx hb dX7_find_85 rfl hl (by decide) rfl (fun ls hl => ?_)
                    obtain ⟨x_5125, ex_5125⟩ : ∃ z : Int32, z = z_5107 + Int32.ofInt 1 := ⟨_, rfl⟩
                    have hG := hG.trans (lt_eq ex_5125)
                    have vx_5125 : x_5125.toInt = z_5107.toInt + 1 := ti_add (y := 1) ex_5125 rfl kc_1 (om_4e4fce7e hi0_n_5109.1) (om_89e8ce70 hns hi0_n_5109.2)
                    refine lv_iinc (v := x_5125) (lv' := [(3, .int x_5125), (2, .int 1), (1, .int z_5101), (0, .ref oM)]) hx hb dX7_find_86 hl (k := 1) rfl ex_5125.symm (by decide) rfl (fun ls hl => ?_)
                    refine lv_goto (tgt := 44) hx hb dX7_find_89 (by decide) ?_
                    exact ih_n_5109 x_5125 1 _ _ _  ⟨(om_83b90de5 hi0_n_5109.1 vx_5125), (om_afcf07ef gc_5110 vx_5125)⟩ ⟨(om_1b364b1c kc_1), (om_02032f93 kc_1)⟩ (by have q0 := kc_0; have q1 := kc_1; have q2 := kc_2; have q3 := kc_3; omega) (ms_lt hm_n_5109 (om_dd4ae0bc vx_5125) (om_d5382009 gc_5110)) hG hP hD hS (lv_sub hl [0, 1, 2, 3] rfl)
          exact key_n_5109 (((iM_nameSize.toInt - (0 : Int32).toInt).toNat) + 1) 0 0 _ _ _  ⟨(om_b1de7dbe kc_0), (om_2dfe280d b_iM_nameSize.1 kc_0)⟩ ⟨(om_b1de7dbe kc_0), (om_270f4ea0 kc_0)⟩ (by first | (have q0 := kc_0; have q1 := kc_1; omega) | decide | assumption) (Nat.lt_add_one _) hG hP hD hS hl
        · skip
          have hG := hG.trans (if_neg c_5106)
          have gc_5106 := ti_nle c_5106 rfl kc_0
          refine lv_aload_n hx hb dX7_find_20 rfl (lv_at hl 1 rfl) ?_
          refine va_get (D := (dC, dI)) (ci := 7) (v := .ref rM_fresh) (C := RX7) (T := TX7) (N := 48) hx hb hts inX7 hown hK hP 0 rfl rfl 16 (by decide) (hts _ wd_156) (fun _ h9 => h9) rfl dX7_find_21 ?_
          refine lv_bipush (v := 125) hx hb dX7_find_24 (by decide) ?_
          refine lv_iload_n hx hb dX7_find_26 rfl (lv_at hl 0 rfl) ?_
          refine lv_iadd hx hb dX7_find_27 ?_
          refine lv_topi (fun x_5126 ex_5126 => ?_)
          have hG := hG.trans (lt_eq ex_5126)
          have vx_5126 : x_5126.toInt = z_5101.toInt + 125 := om_82a8c57f (ti_add ex_5126 kc_125 rfl (om_aca3d3b7 hi0_n_5102.1) (om_ed5dcb39 hi0_n_5102.2))
          refine va_iald hx hb hK hP 2 1 rfl rfl (ti_in vx_5126 (om_b2464657 hi0_n_5102.1) (om_8b08a55a hi0_n_5102.2)) dX7_find_28 ?_
          refine lv_topi (fun x_5127 ex_5127 => ?_)
          have hG := hG.trans (lt_eq ex_5127)
          have kx_5127 : (fM_fresh x_5126.toNatClampNeg).toInt = x_5127.toInt := by rw [ex_5127]
          have cx_5127 : (fM_fresh (125 + z_5101.toNatClampNeg)).toInt = x_5127.toInt := by rw [show 125 + z_5101.toNatClampNeg = x_5126.toNatClampNeg from (om_f728cf40 (ti_cl (x := z_5101) rfl hi0_n_5102.1) (ti_cl (x := x_5126) vx_5126 (om_b2464657 hi0_n_5102.1)))]; exact kx_5127
          refine lv_aload_n hx hb dX7_find_29 rfl (lv_at hl 1 rfl) ?_
          refine va_get (D := (dC, dI)) (ci := 7) (v := .int iM_nameSize) (C := RX7) (T := TX7) (N := 48) hx hb hts inX7 hown hK hP 0 rfl rfl 8 (by decide) (hts _ wd_404) (fun _ h9 => h9) rfl dX7_find_30 ?_
          refine lv_icmp_ne (tgt := 40) hx hb dX7_find_33 (by decide) (fun c_5128 => ?_) (fun c_5128 => ?_)
          · skip
            have hG := hG.trans (if_neg c_5128)
            have gc_5128 := ti_ne c_5128 rfl rfl
            refine lv_iconst (v := 0) hx hb dX7_find_40 (by decide) ?_
            refine lv_istore_n (lv' := [(2, .int 0), (1, .int z_5101), (0, .ref oM)]) hx hb dX7_find_41 rfl hl (by decide) rfl (fun ls hl => ?_)
            refine lv_iconst (v := 0) hx hb dX7_find_42 (by decide) ?_
            refine lv_istore_n (lv' := [(3, .int 0), (2, .int 0), (1, .int z_5101), (0, .ref oM)]) hx hb dX7_find_43 rfl hl (by decide) rfl (fun ls hl => ?_)
            have hl := lv_sub hl (l' := [(3, .int 0), (2, .int 0), (1, .int z_5101), (0, .ref oM)]) [0, 1, 2, 3] rfl
            have key_n_5131 : ∀ (n_5131 : Nat) (z_5129 : Int32) (z_5130 : Int32) (H : Heap) (locs : List Loc) (ls : Array Slot), (0 ≤ z_5129.toInt ∧ z_5129.toInt ≤ iM_nameSize.toInt) → (0 ≤ z_5130.toInt ∧ z_5130.toInt ≤ 1) → (1 ≤ z_5130.toInt → 1 ≤ (fM_fresh (125 + z_5101.toNatClampNeg)).toInt) → (iM_nameSize.toInt - z_5129.toInt).toNat < n_5131 → (PX7_find iM_nameSize fM_letters fM_fresh = HX7_find_1 iM_nameSize fM_letters fM_fresh z_5101 (fun (z_5101 : Int32) => HX7_find_0 iM_nameSize fM_letters fM_fresh n_5102 z_5101) n_5131 z_5129 z_5130) → va_P (dC, dI) vwCl [(oc7 oM iM_thrown rM_tape iM_taped iM_size iM_at iM_end iM_token iM_whole iM_nameSize iM_fault iM_place iM_trouble rM_letters iM_failed iM_hasCourt rM_r rM_fresh rM_told rM_read rM_st rM_undone rM_kept iM_undos iM_images rM_fresher iM_fresherSize iM_scale iM_night rM_heardRow rM_cutRow iM_breaths iM_cutMany iM_allBreaths rM_trial rM_words iM_fewestBreaths iM_orderMany iM_orderSum iM_leastOrder rM_often iM_setMany iM_someOf iM_allOf iM_allWeight iM_enoughWeight iM_worthSum iM_firstRest iM_leastDrawn), (arI rM_letters kM_letters 8 fM_letters), (arI rM_fresh kM_fresh 287 fM_fresh), (arI rM_read kM_read 90 fM_read)] H → va_D A [(oc7 oM iM_thrown rM_tape iM_taped iM_size iM_at iM_end iM_token iM_whole iM_nameSize iM_fault iM_place iM_trouble rM_letters iM_failed iM_hasCourt rM_r rM_fresh rM_told rM_read rM_st rM_undone rM_kept iM_undos iM_images rM_fresher iM_fresherSize iM_scale iM_night rM_heardRow rM_cutRow iM_breaths iM_cutMany iM_allBreaths rM_trial rM_words iM_fewestBreaths iM_orderMany iM_orderSum iM_leastOrder rM_often iM_setMany iM_someOf iM_allOf iM_allWeight iM_enoughWeight iM_worthSum iM_firstRest iM_leastDrawn), (arI rM_letters kM_letters 8 fM_letters), (arI rM_fresh kM_fresh 287 fM_fresh), (arI rM_read kM_read 90 fM_read)] → va_S A s.heap H locs → lv_has ls 4 [(3, .int z_5129), (2, .int z_5130), (1, .int z_5101), (0, .ref oM)] → W p l e (headSpec (Cond.code yX7_find cX7_find 4 (some .int) :: wG) ({ frames := 0, cells := 0, slots := 0, locals := 0 })).room s m ([.ref oM] : List Value).toArray below meth c H locs 0 0 (MQ below (va_Qi (fun (r : Int32) (_ : Nat) => (True ∧ (-1 ≤ r.toInt ∧ r.toInt < (fM_fresh 1).toInt ∧ r.toInt ≤ 17)) ∧ PX7_find iM_nameSize fM_letters fM_fresh = r) (fun (_ : Nat) (t : State) => Bw dC dI A [(oc7 oM iM_thrown rM_tape iM_taped iM_size iM_at iM_end iM_token iM_whole iM_nameSize iM_fault iM_place iM_trouble rM_letters iM_failed iM_hasCourt rM_r rM_fresh rM_told rM_read rM_st rM_undone rM_kept iM_undos iM_images rM_fresher iM_fresherSize iM_scale iM_night rM_heardRow rM_cutRow iM_breaths iM_cutMany iM_allBreaths rM_trial rM_words iM_fewestBreaths iM_orderMany iM_orderSum iM_leastOrder rM_often iM_setMany iM_someOf iM_allOf iM_allWeight iM_enoughWeight iM_worthSum iM_firstRest iM_leastDrawn), (arI rM_letters kM_letters 8 fM_letters), (arI rM_fresh kM_fresh 287 fM_fresh), (arI rM_read kM_read 90 fM_read)] [(kM_letters, .int), (kM_fresh, .int), (kM_read, .int)] t) A) ([.ref oM] : List Value).toArray s 0 0 A) (F0 m 44 ls []) := by
              intro n_5131
              induction n_5131 with
              | zero => intro z_5129 z_5130 H locs ls hi0_n_5131 hi1_n_5131 hi2_n_5131 hm; exact absurd hm (Nat.not_lt_zero _)
              | succ n_5131 ih_n_5131 =>
                intro z_5129 z_5130 H locs ls hi0_n_5131 hi1_n_5131 hi2_n_5131 hm_n_5131 hG hP hD hS hl
                have hG := hG.trans (HX7_find_1_eq _ _ _ _ _ _ _ _)
                have nm_z_5101 : 1 ≤ (fM_fresh (125 + z_5101.toNatClampNeg)).toInt → z_5101.toInt < (fM_fresh 1).toInt := fun h9 => by have q1 := ti_cl (x := z_5101) rfl hi0_n_5102.1; have q2 := r_P.1.names z_5101.toNatClampNeg (by omega) (by omega); omega
                have h_5132 := nm_z_5101 (by omega)
                clear nm_z_5101
                refine lv_iload_n hx hb dX7_find_44 rfl (lv_at hl 0 rfl) ?_
                refine lv_aload_n hx hb dX7_find_45 rfl (lv_at hl 3 rfl) ?_
                refine va_get (D := (dC, dI)) (ci := 7) (v := .int iM_nameSize) (C := RX7) (T := TX7) (N := 48) hx hb hts inX7 hown hK hP 0 rfl rfl 8 (by decide) (hts _ wd_404) (fun _ h9 => h9) rfl dX7_find_46 ?_
                refine lv_icmp_ge (tgt := 92) hx hb dX7_find_49 (by decide) (fun c_5133 => ?_) (fun c_5133 => ?_)
                · skip
                  have hG := hG.trans (if_pos c_5133)
                  have gc_5133 := ti_le c_5133 rfl rfl
                  refine lv_iload_n hx hb dX7_find_92 rfl (lv_at hl 1 rfl) ?_
                  refine lv_if_eq (tgt := 98) hx hb dX7_find_93 (by decide) (fun c_5134 => ?_) (fun c_5134 => ?_)
                  · skip
                    have hG := hG.trans (if_pos c_5134)
                    have gc_5134 := ti_eq c_5134 rfl kc_0
                    clear hi2_n_5131
                    obtain ⟨x_5135, ex_5135⟩ : ∃ z : Int32, z = z_5101 + Int32.ofInt 1 := ⟨_, rfl⟩
                    have hG := hG.trans (lt_eq ex_5135)
                    have vx_5135 : x_5135.toInt = z_5101.toInt + 1 := ti_add (y := 1) ex_5135 rfl kc_1 (om_4e4fce7e hi0_n_5102.1) (om_9d611bdb hi0_n_5102.2)
                    refine lv_iinc (v := x_5135) (lv' := [(1, .int x_5135), (3, .int z_5129), (2, .int z_5130), (0, .ref oM)]) hx hb dX7_find_98 hl (k := 2) rfl ex_5135.symm (by decide) rfl (fun ls hl => ?_)
                    refine lv_goto (tgt := 2) hx hb dX7_find_101 (by decide) ?_
                    exact ih_n_5102 x_5135 _ _ _  ⟨(om_83b90de5 hi0_n_5102.1 vx_5135), (om_497b4f92 gc_5103 vx_5135)⟩ (ms_lt hm_n_5102 (om_0886d075 vx_5135) (om_e7bc4510 gc_5103)) hG hP hD hS (lv_sub hl [0, 3] rfl)
                  · skip
                    have hG := hG.trans (if_neg c_5134)
                    have gc_5134 := ti_ne c_5134 rfl kc_0
                    replace gc_5134 : (-1) * z_5130.toInt + 1 ≤ 0 := om_e3003f79 gc_5134 hi1_n_5131.1
                    have h_5136 := hi2_n_5131 (by omega)
                    clear hi2_n_5131
                    refine lv_iload_n hx hb dX7_find_96 rfl (lv_at hl 2 rfl) ?_
                    exact wq_i hx hb hr 0 ⟨⟨trivial, (by first | omega | assumption)⟩, hG⟩ (fun t ht hW => Bw.to hP hD hK ht hW) hS dX7_find_97 hlocks
                · skip
                  have hG := hG.trans (if_neg c_5133)
                  have gc_5133 := ti_nle c_5133 rfl rfl
                  refine lv_iload_n hx hb dX7_find_52 rfl (lv_at hl 1 rfl) ?_
                  refine lv_if_eq (tgt := 92) hx hb dX7_find_53 (by decide) (fun c_5137 => ?_) (fun c_5137 => ?_)
                  · skip
                    have hG := hG.trans (if_pos c_5137)
                    have gc_5137 := ti_eq c_5137 rfl kc_0
                    clear hi2_n_5131
                    refine lv_iload_n hx hb dX7_find_92 rfl (lv_at hl 1 rfl) ?_
                    refine lv_if_eq (tgt := 98) hx hb dX7_find_93 (by decide) (fun c_5138 => ?_) (fun c_5138 => ?_)
                    · skip
                      have hG := hG.trans (if_pos c_5138)
                      have gc_5138 := ti_eq c_5138 rfl kc_0
                      obtain ⟨x_5139, ex_5139⟩ : ∃ z : Int32, z = z_5101 + Int32.ofInt 1 := ⟨_, rfl⟩
                      have hG := hG.trans (lt_eq ex_5139)
                      have vx_5139 : x_5139.toInt = z_5101.toInt + 1 := ti_add (y := 1) ex_5139 rfl kc_1 (om_4e4fce7e hi0_n_5102.1) (om_9d611bdb hi0_n_5102.2)
                      refine lv_iinc (v := x_5139) (lv' := [(1, .int x_5139), (3, .int z_5129), (2, .int z_5130), (0, .ref oM)]) hx hb dX7_find_98 hl (k := 2) rfl ex_5139.symm (by decide) rfl (fun ls hl => ?_)
                      refine lv_goto (tgt := 2) hx hb dX7_find_101 (by decide) ?_
                      exact ih_n_5102 x_5139 _ _ _  ⟨(om_83b90de5 hi0_n_5102.1 vx_5139), (om_497b4f92 gc_5103 vx_5139)⟩ (ms_lt hm_n_5102 (om_0886d075 vx_5139) (om_e7bc4510 gc_5103)) hG hP hD hS (lv_sub hl [0, 3] rfl)
                    · skip
                      have hG := hG.trans (if_neg c_5138)
                      have gc_5138 := ti_ne c_5138 rfl kc_0
                      replace gc_5138 : z_5130.toInt + 1 ≤ 0 := om_f992525b gc_5138 gc_5137
                      exact ((om_5185113d hi1_n_5131.1 gc_5138)).elim
                  · skip
                    have hG := hG.trans (if_neg c_5137)
                    have gc_5137 := ti_ne c_5137 rfl kc_0
                    replace gc_5137 : (-1) * z_5130.toInt + 1 ≤ 0 := om_e3003f79 gc_5137 hi1_n_5131.1
                    have h_5140 := hi2_n_5131 (by omega)
                    clear hi2_n_5131
                    refine lv_aload_n hx hb dX7_find_56 rfl (lv_at hl 3 rfl) ?_
                    refine va_get (D := (dC, dI)) (ci := 7) (v := .ref rM_fresh) (C := RX7) (T := TX7) (N := 48) hx hb hts inX7 hown hK hP 0 rfl rfl 16 (by decide) (hts _ wd_156) (fun _ h9 => h9) rfl dX7_find_57 ?_
                    refine lv_sipush (v := 143) hx hb dX7_find_60 (by decide) ?_
                    refine lv_bipush (v := 8) hx hb dX7_find_63 (by decide) ?_
                    refine lv_iload_n hx hb dX7_find_65 rfl (lv_at hl 2 rfl) ?_
                    refine lv_imul hx hb dX7_find_66 ?_
                    refine lv_topi (fun x_5141 ex_5141 => ?_)
                    have hG := hG.trans (lt_eq ex_5141)
                    have vx_5141 : x_5141.toInt = 8 * z_5101.toInt := ti_mul ex_5141 kc_8 rfl (om_894b99c2 hi0_n_5102.1) (om_3615877d hi0_n_5102.2)
                    refine lv_iadd hx hb dX7_find_67 ?_
                    refine lv_topi (fun x_5142 ex_5142 => ?_)
                    have hG := hG.trans (lt_eq ex_5142)
                    have vx_5142 : x_5142.toInt = 8 * z_5101.toInt + 143 := om_91565d1d (ti_add ex_5142 kc_143 vx_5141 (om_a8db8aec hi0_n_5102.1) (om_8871eb58 hi0_n_5102.2))
                    refine lv_iload_n hx hb dX7_find_68 rfl (lv_at hl 0 rfl) ?_
                    refine lv_iadd hx hb dX7_find_69 ?_
                    refine lv_topi (fun x_5143 ex_5143 => ?_)
                    have hG := hG.trans (lt_eq ex_5143)
                    have vx_5143 : x_5143.toInt = 8 * z_5101.toInt + z_5129.toInt + 143 := om_8d4a621a (ti_add ex_5143 vx_5142 rfl (om_467ad9f8 hi0_n_5102.1 hi0_n_5131.1) (om_29fa77d8 hns hi0_n_5102.2 hi0_n_5131.2))
                    refine va_iald hx hb hK hP 2 1 rfl rfl (ti_in vx_5143 (om_fdd59aa4 hi0_n_5102.1 hi0_n_5131.1) (om_4f58e249 hns gc_5103 gc_5133)) dX7_find_70 ?_
                    refine lv_topi (fun x_5144 ex_5144 => ?_)
                    have hG := hG.trans (lt_eq ex_5144)
                    have kx_5144 : (fM_fresh x_5143.toNatClampNeg).toInt = x_5144.toInt := by rw [ex_5144]
                    have cx_5144 : (fM_fresh (143 + 8 * z_5101.toNatClampNeg + z_5129.toNatClampNeg)).toInt = x_5144.toInt := by rw [show 143 + 8 * z_5101.toNatClampNeg + z_5129.toNatClampNeg = x_5143.toNatClampNeg from (om_ff716d49 (ti_cl (x := z_5101) rfl hi0_n_5102.1) (ti_cl (x := z_5129) rfl hi0_n_5131.1) (ti_cl (x := x_5143) vx_5143 (om_fdd59aa4 hi0_n_5102.1 hi0_n_5131.1)))]; exact kx_5144
                    refine lv_aload_n hx hb dX7_find_71 rfl (lv_at hl 3 rfl) ?_
                    refine va_get (D := (dC, dI)) (ci := 7) (v := .ref rM_letters) (C := RX7) (T := TX7) (N := 48) hx hb hts inX7 hown hK hP 0 rfl rfl 12 (by decide) (hts _ wd_154) (fun _ h9 => h9) rfl dX7_find_72 ?_
                    refine lv_iload_n hx hb dX7_find_75 rfl (lv_at hl 0 rfl) ?_
                    refine va_iald hx hb hK hP 1 0 rfl rfl (ti_in rfl hi0_n_5131.1 (om_9badf829 hns gc_5133)) dX7_find_76 ?_
                    refine lv_topi (fun x_5145 ex_5145 => ?_)
                    have hG := hG.trans (lt_eq ex_5145)
                    have kx_5145 : (fM_letters z_5129.toNatClampNeg).toInt = x_5145.toInt := by rw [ex_5145]
                    have cx_5145 := kx_5145
                    refine lv_icmp_ne (tgt := 84) hx hb dX7_find_77 (by decide) (fun c_5146 => ?_) (fun c_5146 => ?_)
                    · skip
                      have hG := hG.trans (if_neg c_5146)
                      have gc_5146 := ti_ne c_5146 rfl rfl
                      refine lv_iconst (v := 0) hx hb dX7_find_84 (by decide) ?_
                      refine lv_istore_n (lv' := [(2, .int 0), (3, .int z_5129), (1, .int z_5101), (0, .ref oM)]) hx hb dX7_find_85 rfl hl (by decide) rfl (fun ls hl => ?_)
                      obtain ⟨x_5147, ex_5147⟩ : ∃ z : Int32, z = z_5129 + Int32.ofInt 1 := ⟨_, rfl⟩
                      have hG := hG.trans (lt_eq ex_5147)
                      have vx_5147 : x_5147.toInt = z_5129.toInt + 1 := ti_add (y := 1) ex_5147 rfl kc_1 (om_4e4fce7e hi0_n_5131.1) (om_89e8ce70 hns hi0_n_5131.2)
                      refine lv_iinc (v := x_5147) (lv' := [(3, .int x_5147), (2, .int 0), (1, .int z_5101), (0, .ref oM)]) hx hb dX7_find_86 hl (k := 1) rfl ex_5147.symm (by decide) rfl (fun ls hl => ?_)
                      refine lv_goto (tgt := 44) hx hb dX7_find_89 (by decide) ?_
                      exact ih_n_5131 x_5147 0 _ _ _  ⟨(om_83b90de5 hi0_n_5131.1 vx_5147), (om_afcf07ef gc_5133 vx_5147)⟩ ⟨(om_b1de7dbe kc_0), (om_270f4ea0 kc_0)⟩ (by have q0 := kc_0; have q1 := kc_1; have q2 := kc_2; have q3 := kc_3; omega) (ms_lt hm_n_5131 (om_dd4ae0bc vx_5147) (om_d5382009 gc_5133)) hG hP hD hS (lv_sub hl [0, 1, 2, 3] rfl)
                    · skip
                      have hG := hG.trans (if_pos c_5146)
                      have gc_5146 := ti_eq c_5146 rfl rfl
                      refine lv_iconst (v := 1) hx hb dX7_find_80 (by decide) ?_
                      refine lv_goto (tgt := 85) hx hb dX7_find_81 (by decide) ?_
                      refine lv_istore_n (lv' := [(2, .int 1), (3, .int z_5129), (1, .int z_5101), (0, .ref oM)]) hx hb dX7_find_85 rfl hl (by decide) rfl (fun ls hl => ?_)
                      obtain ⟨x_5148, ex_5148⟩ : ∃ z : Int32, z = z_5129 + Int32.ofInt 1 := ⟨_, rfl⟩
                      have hG := hG.trans (lt_eq ex_5148)
                      have vx_5148 : x_5148.toInt = z_5129.toInt + 1 := ti_add (y := 1) ex_5148 rfl kc_1 (om_4e4fce7e hi0_n_5131.1) (om_89e8ce70 hns hi0_n_5131.2)
                      refine lv_iinc (v := x_5148) (lv' := [(3, .int x_5148), (2, .int 1), (1, .int z_5101), (0, .ref oM)]) hx hb dX7_find_86 hl (k := 1) rfl ex_5148.symm (by decide) rfl (fun ls hl => ?_)
                      refine lv_goto (tgt := 44) hx hb dX7_find_89 (by decide) ?_
                      exact ih_n_5131 x_5148 1 _ _ _  ⟨(om_83b90de5 hi0_n_5131.1 vx_5148), (om_afcf07ef gc_5133 vx_5148)⟩ ⟨(om_1b364b1c kc_1), (om_02032f93 kc_1)⟩ (by have q0 := kc_0; have q1 := kc_1; have q2 := kc_2; have q3 := kc_3; omega) (ms_lt hm_n_5131 (om_dd4ae0bc vx_5148) (om_d5382009 gc_5133)) hG hP hD hS (lv_sub hl [0, 1, 2, 3] rfl)
            exact key_n_5131 (((iM_nameSize.toInt - (0 : Int32).toInt).toNat) + 1) 0 0 _ _ _  ⟨(om_b1de7dbe kc_0), (om_2dfe280d b_iM_nameSize.1 kc_0)⟩ ⟨(om_b1de7dbe kc_0), (om_270f4ea0 kc_0)⟩ (by first | (have q0 := kc_0; have q1 := kc_1; omega) | decide | assumption) (Nat.lt_add_one _) hG hP hD hS hl
          · skip
            have hG := hG.trans (if_pos c_5128)
            have gc_5128 := ti_eq c_5128 rfl rfl
            refine lv_iconst (v := 1) hx hb dX7_find_36 (by decide) ?_
            refine lv_goto (tgt := 41) hx hb dX7_find_37 (by decide) ?_
            refine lv_istore_n (lv' := [(2, .int 1), (1, .int z_5101), (0, .ref oM)]) hx hb dX7_find_41 rfl hl (by decide) rfl (fun ls hl => ?_)
            refine lv_iconst (v := 0) hx hb dX7_find_42 (by decide) ?_
            refine lv_istore_n (lv' := [(3, .int 0), (2, .int 1), (1, .int z_5101), (0, .ref oM)]) hx hb dX7_find_43 rfl hl (by decide) rfl (fun ls hl => ?_)
            have hl := lv_sub hl (l' := [(3, .int 0), (2, .int 1), (1, .int z_5101), (0, .ref oM)]) [0, 1, 2, 3] rfl
            have key_n_5151 : ∀ (n_5151 : Nat) (z_5149 : Int32) (z_5150 : Int32) (H : Heap) (locs : List Loc) (ls : Array Slot), (0 ≤ z_5149.toInt ∧ z_5149.toInt ≤ iM_nameSize.toInt) → (0 ≤ z_5150.toInt ∧ z_5150.toInt ≤ 1) → (1 ≤ z_5150.toInt → 1 ≤ (fM_fresh (125 + z_5101.toNatClampNeg)).toInt) → (iM_nameSize.toInt - z_5149.toInt).toNat < n_5151 → (PX7_find iM_nameSize fM_letters fM_fresh = HX7_find_1 iM_nameSize fM_letters fM_fresh z_5101 (fun (z_5101 : Int32) => HX7_find_0 iM_nameSize fM_letters fM_fresh n_5102 z_5101) n_5151 z_5149 z_5150) → va_P (dC, dI) vwCl [(oc7 oM iM_thrown rM_tape iM_taped iM_size iM_at iM_end iM_token iM_whole iM_nameSize iM_fault iM_place iM_trouble rM_letters iM_failed iM_hasCourt rM_r rM_fresh rM_told rM_read rM_st rM_undone rM_kept iM_undos iM_images rM_fresher iM_fresherSize iM_scale iM_night rM_heardRow rM_cutRow iM_breaths iM_cutMany iM_allBreaths rM_trial rM_words iM_fewestBreaths iM_orderMany iM_orderSum iM_leastOrder rM_often iM_setMany iM_someOf iM_allOf iM_allWeight iM_enoughWeight iM_worthSum iM_firstRest iM_leastDrawn), (arI rM_letters kM_letters 8 fM_letters), (arI rM_fresh kM_fresh 287 fM_fresh), (arI rM_read kM_read 90 fM_read)] H → va_D A [(oc7 oM iM_thrown rM_tape iM_taped iM_size iM_at iM_end iM_token iM_whole iM_nameSize iM_fault iM_place iM_trouble rM_letters iM_failed iM_hasCourt rM_r rM_fresh rM_told rM_read rM_st rM_undone rM_kept iM_undos iM_images rM_fresher iM_fresherSize iM_scale iM_night rM_heardRow rM_cutRow iM_breaths iM_cutMany iM_allBreaths rM_trial rM_words iM_fewestBreaths iM_orderMany iM_orderSum iM_leastOrder rM_often iM_setMany iM_someOf iM_allOf iM_allWeight iM_enoughWeight iM_worthSum iM_firstRest iM_leastDrawn), (arI rM_letters kM_letters 8 fM_letters), (arI rM_fresh kM_fresh 287 fM_fresh), (arI rM_read kM_read 90 fM_read)] → va_S A s.heap H locs → lv_has ls 4 [(3, .int z_5149), (2, .int z_5150), (1, .int z_5101), (0, .ref oM)] → W p l e (headSpec (Cond.code yX7_find cX7_find 4 (some .int) :: wG) ({ frames := 0, cells := 0, slots := 0, locals := 0 })).room s m ([.ref oM] : List Value).toArray below meth c H locs 0 0 (MQ below (va_Qi (fun (r : Int32) (_ : Nat) => (True ∧ (-1 ≤ r.toInt ∧ r.toInt < (fM_fresh 1).toInt ∧ r.toInt ≤ 17)) ∧ PX7_find iM_nameSize fM_letters fM_fresh = r) (fun (_ : Nat) (t : State) => Bw dC dI A [(oc7 oM iM_thrown rM_tape iM_taped iM_size iM_at iM_end iM_token iM_whole iM_nameSize iM_fault iM_place iM_trouble rM_letters iM_failed iM_hasCourt rM_r rM_fresh rM_told rM_read rM_st rM_undone rM_kept iM_undos iM_images rM_fresher iM_fresherSize iM_scale iM_night rM_heardRow rM_cutRow iM_breaths iM_cutMany iM_allBreaths rM_trial rM_words iM_fewestBreaths iM_orderMany iM_orderSum iM_leastOrder rM_often iM_setMany iM_someOf iM_allOf iM_allWeight iM_enoughWeight iM_worthSum iM_firstRest iM_leastDrawn), (arI rM_letters kM_letters 8 fM_letters), (arI rM_fresh kM_fresh 287 fM_fresh), (arI rM_read kM_read 90 fM_read)] [(kM_letters, .int), (kM_fresh, .int), (kM_read, .int)] t) A) ([.ref oM] : List Value).toArray s 0 0 A) (F0 m 44 ls []) := by
              intro n_5151
              induction n_5151 with
              | zero => intro z_5149 z_5150 H locs ls hi0_n_5151 hi1_n_5151 hi2_n_5151 hm; exact absurd hm (Nat.not_lt_zero _)
              | succ n_5151 ih_n_5151 =>
                intro z_5149 z_5150 H locs ls hi0_n_5151 hi1_n_5151 hi2_n_5151 hm_n_5151 hG hP hD hS hl
                have hG := hG.trans (HX7_find_1_eq _ _ _ _ _ _ _ _)
                have nm_z_5101 : 1 ≤ (fM_fresh (125 + z_5101.toNatClampNeg)).toInt → z_5101.toInt < (fM_fresh 1).toInt := fun h9 => by have q1 := ti_cl (x := z_5101) rfl hi0_n_5102.1; have q2 := r_P.1.names z_5101.toNatClampNeg (by omega) (by omega); omega
                have h_5152 := nm_z_5101 (by omega)
                clear nm_z_5101
                refine lv_iload_n hx hb dX7_find_44 rfl (lv_at hl 0 rfl) ?_
                refine lv_aload_n hx hb dX7_find_45 rfl (lv_at hl 3 rfl) ?_
                refine va_get (D := (dC, dI)) (ci := 7) (v := .int iM_nameSize) (C := RX7) (T := TX7) (N := 48) hx hb hts inX7 hown hK hP 0 rfl rfl 8 (by decide) (hts _ wd_404) (fun _ h9 => h9) rfl dX7_find_46 ?_
                refine lv_icmp_ge (tgt := 92) hx hb dX7_find_49 (by decide) (fun c_5153 => ?_) (fun c_5153 => ?_)
                · skip
                  have hG := hG.trans (if_pos c_5153)
                  have gc_5153 := ti_le c_5153 rfl rfl
                  refine lv_iload_n hx hb dX7_find_92 rfl (lv_at hl 1 rfl) ?_
                  refine lv_if_eq (tgt := 98) hx hb dX7_find_93 (by decide) (fun c_5154 => ?_) (fun c_5154 => ?_)
                  · skip
                    have hG := hG.trans (if_pos c_5154)
                    have gc_5154 := ti_eq c_5154 rfl kc_0
                    clear hi2_n_5151
                    obtain ⟨x_5155, ex_5155⟩ : ∃ z : Int32, z = z_5101 + Int32.ofInt 1 := ⟨_, rfl⟩
                    have hG := hG.trans (lt_eq ex_5155)
                    have vx_5155 : x_5155.toInt = z_5101.toInt + 1 := ti_add (y := 1) ex_5155 rfl kc_1 (om_4e4fce7e hi0_n_5102.1) (om_9d611bdb hi0_n_5102.2)
                    refine lv_iinc (v := x_5155) (lv' := [(1, .int x_5155), (3, .int z_5149), (2, .int z_5150), (0, .ref oM)]) hx hb dX7_find_98 hl (k := 2) rfl ex_5155.symm (by decide) rfl (fun ls hl => ?_)
                    refine lv_goto (tgt := 2) hx hb dX7_find_101 (by decide) ?_
                    exact ih_n_5102 x_5155 _ _ _  ⟨(om_83b90de5 hi0_n_5102.1 vx_5155), (om_497b4f92 gc_5103 vx_5155)⟩ (ms_lt hm_n_5102 (om_0886d075 vx_5155) (om_e7bc4510 gc_5103)) hG hP hD hS (lv_sub hl [0, 3] rfl)
                  · skip
                    have hG := hG.trans (if_neg c_5154)
                    have gc_5154 := ti_ne c_5154 rfl kc_0
                    replace gc_5154 : (-1) * z_5150.toInt + 1 ≤ 0 := om_e3003f79 gc_5154 hi1_n_5151.1
                    have h_5156 := hi2_n_5151 (by omega)
                    clear hi2_n_5151
                    refine lv_iload_n hx hb dX7_find_96 rfl (lv_at hl 2 rfl) ?_
                    exact wq_i hx hb hr 0 ⟨⟨trivial, (by first | omega | assumption)⟩, hG⟩ (fun t ht hW => Bw.to hP hD hK ht hW) hS dX7_find_97 hlocks
                · skip
                  have hG := hG.trans (if_neg c_5153)
                  have gc_5153 := ti_nle c_5153 rfl rfl
                  refine lv_iload_n hx hb dX7_find_52 rfl (lv_at hl 1 rfl) ?_
                  refine lv_if_eq (tgt := 92) hx hb dX7_find_53 (by decide) (fun c_5157 => ?_) (fun c_5157 => ?_)
                  · skip
                    have hG := hG.trans (if_pos c_5157)
                    have gc_5157 := ti_eq c_5157 rfl kc_0
                    clear hi2_n_5151
                    refine lv_iload_n hx hb dX7_find_92 rfl (lv_at hl 1 rfl) ?_
                    refine lv_if_eq (tgt := 98) hx hb dX7_find_93 (by decide) (fun c_5158 => ?_) (fun c_5158 => ?_)
                    · skip
                      have hG := hG.trans (if_pos c_5158)
                      have gc_5158 := ti_eq c_5158 rfl kc_0
                      obtain ⟨x_5159, ex_5159⟩ : ∃ z : Int32, z = z_5101 + Int32.ofInt 1 := ⟨_, rfl⟩
                      have hG := hG.trans (lt_eq ex_5159)
                      have vx_5159 : x_5159.toInt = z_5101.toInt + 1 := ti_add (y := 1) ex_5159 rfl kc_1 (om_4e4fce7e hi0_n_5102.1) (om_9d611bdb hi0_n_5102.2)
                      refine lv_iinc (v := x_5159) (lv' := [(1, .int x_5159), (3, .int z_5149), (2, .int z_5150), (0, .ref oM)]) hx hb dX7_find_98 hl (k := 2) rfl ex_5159.symm (by decide) rfl (fun ls hl => ?_)
                      refine lv_goto (tgt := 2) hx hb dX7_find_101 (by decide) ?_
                      exact ih_n_5102 x_5159 _ _ _  ⟨(om_83b90de5 hi0_n_5102.1 vx_5159), (om_497b4f92 gc_5103 vx_5159)⟩ (ms_lt hm_n_5102 (om_0886d075 vx_5159) (om_e7bc4510 gc_5103)) hG hP hD hS (lv_sub hl [0, 3] rfl)
                    · skip
                      have hG := hG.trans (if_neg c_5158)
                      have gc_5158 := ti_ne c_5158 rfl kc_0
                      replace gc_5158 : z_5150.toInt + 1 ≤ 0 := om_f992525b gc_5158 gc_5157
                      exact ((om_5185113d hi1_n_5151.1 gc_5158)).elim
                  · skip
                    have hG := hG.trans (if_neg c_5157)
                    have gc_5157 := ti_ne c_5157 rfl kc_0
                    replace gc_5157 : (-1) * z_5150.toInt + 1 ≤ 0 := om_e3003f79 gc_5157 hi1_n_5151.1
                    have h_5160 := hi2_n_5151 (by omega)
                    clear hi2_n_5151
                    refine lv_aload_n hx hb dX7_find_56 rfl (lv_at hl 3 rfl) ?_
                    refine va_get (D := (dC, dI)) (ci := 7) (v := .ref rM_fresh) (C := RX7) (T := TX7) (N := 48) hx hb hts inX7 hown hK hP 0 rfl rfl 16 (by decide) (hts _ wd_156) (fun _ h9 => h9) rfl dX7_find_57 ?_
                    refine lv_sipush (v := 143) hx hb dX7_find_60 (by decide) ?_
                    refine lv_bipush (v := 8) hx hb dX7_find_63 (by decide) ?_
                    refine lv_iload_n hx hb dX7_find_65 rfl (lv_at hl 2 rfl) ?_
                    refine lv_imul hx hb dX7_find_66 ?_
                    refine lv_topi (fun x_5161 ex_5161 => ?_)
                    have hG := hG.trans (lt_eq ex_5161)
                    have vx_5161 : x_5161.toInt = 8 * z_5101.toInt := ti_mul ex_5161 kc_8 rfl (om_894b99c2 hi0_n_5102.1) (om_3615877d hi0_n_5102.2)
                    refine lv_iadd hx hb dX7_find_67 ?_
                    refine lv_topi (fun x_5162 ex_5162 => ?_)
                    have hG := hG.trans (lt_eq ex_5162)
                    have vx_5162 : x_5162.toInt = 8 * z_5101.toInt + 143 := om_91565d1d (ti_add ex_5162 kc_143 vx_5161 (om_a8db8aec hi0_n_5102.1) (om_8871eb58 hi0_n_5102.2))
                    refine lv_iload_n hx hb dX7_find_68 rfl (lv_at hl 0 rfl) ?_
                    refine lv_iadd hx hb dX7_find_69 ?_
                    refine lv_topi (fun x_5163 ex_5163 => ?_)
                    have hG := hG.trans (lt_eq ex_5163)
                    have vx_5163 : x_5163.toInt = 8 * z_5101.toInt + z_5149.toInt + 143 := om_8d4a621a (ti_add ex_5163 vx_5162 rfl (om_467ad9f8 hi0_n_5102.1 hi0_n_5151.1) (om_29fa77d8 hns hi0_n_5102.2 hi0_n_5151.2))
                    refine va_iald hx hb hK hP 2 1 rfl rfl (ti_in vx_5163 (om_fdd59aa4 hi0_n_5102.1 hi0_n_5151.1) (om_4f58e249 hns gc_5103 gc_5153)) dX7_find_70 ?_
                    refine lv_topi (fun x_5164 ex_5164 => ?_)
                    have hG := hG.trans (lt_eq ex_5164)
                    have kx_5164 : (fM_fresh x_5163.toNatClampNeg).toInt = x_5164.toInt := by rw [ex_5164]
                    have cx_5164 : (fM_fresh (143 + 8 * z_5101.toNatClampNeg + z_5149.toNatClampNeg)).toInt = x_5164.toInt := by rw [show 143 + 8 * z_5101.toNatClampNeg + z_5149.toNatClampNeg = x_5163.toNatClampNeg from (om_ff716d49 (ti_cl (x := z_5101) rfl hi0_n_5102.1) (ti_cl (x := z_5149) rfl hi0_n_5151.1) (ti_cl (x := x_5163) vx_5163 (om_fdd59aa4 hi0_n_5102.1 hi0_n_5151.1)))]; exact kx_5164
                    refine lv_aload_n hx hb dX7_find_71 rfl (lv_at hl 3 rfl) ?_
                    refine va_get (D := (dC, dI)) (ci := 7) (v := .ref rM_letters) (C := RX7) (T := TX7) (N := 48) hx hb hts inX7 hown hK hP 0 rfl rfl 12 (by decide) (hts _ wd_154) (fun _ h9 => h9) rfl dX7_find_72 ?_
                    refine lv_iload_n hx hb dX7_find_75 rfl (lv_at hl 0 rfl) ?_
                    refine va_iald hx hb hK hP 1 0 rfl rfl (ti_in rfl hi0_n_5151.1 (om_9badf829 hns gc_5153)) dX7_find_76 ?_
                    refine lv_topi (fun x_5165 ex_5165 => ?_)
                    have hG := hG.trans (lt_eq ex_5165)
                    have kx_5165 : (fM_letters z_5149.toNatClampNeg).toInt = x_5165.toInt := by rw [ex_5165]
                    have cx_5165 := kx_5165
                    refine lv_icmp_ne (tgt := 84) hx hb dX7_find_77 (by decide) (fun c_5166 => ?_) (fun c_5166 => ?_)
                    · skip
                      have hG := hG.trans (if_neg c_5166)
                      have gc_5166 := ti_ne c_5166 rfl rfl
                      refine lv_iconst (v := 0) hx hb dX7_find_84 (by decide) ?_
                      refine lv_istore_n (lv' := [(2, .int 0), (3, .int z_5149), (1, .int z_5101), (0, .ref oM)]) hx hb dX7_find_85 rfl hl (by decide) rfl (fun ls hl => ?_)
                      obtain ⟨x_5167, ex_5167⟩ : ∃ z : Int32, z = z_5149 + Int32.ofInt 1 := ⟨_, rfl⟩
                      have hG := hG.trans (lt_eq ex_5167)
                      have vx_5167 : x_5167.toInt = z_5149.toInt + 1 := ti_add (y := 1) ex_5167 rfl kc_1 (om_4e4fce7e hi0_n_5151.1) (om_89e8ce70 hns hi0_n_5151.2)
                      refine lv_iinc (v := x_5167) (lv' := [(3, .int x_5167), (2, .int 0), (1, .int z_5101), (0, .ref oM)]) hx hb dX7_find_86 hl (k := 1) rfl ex_5167.symm (by decide) rfl (fun ls hl => ?_)
                      refine lv_goto (tgt := 44) hx hb dX7_find_89 (by decide) ?_
                      exact ih_n_5151 x_5167 0 _ _ _  ⟨(om_83b90de5 hi0_n_5151.1 vx_5167), (om_afcf07ef gc_5153 vx_5167)⟩ ⟨(om_b1de7dbe kc_0), (om_270f4ea0 kc_0)⟩ (by have q0 := kc_0; have q1 := kc_1; have q2 := kc_2; have q3 := kc_3; omega) (ms_lt hm_n_5151 (om_dd4ae0bc vx_5167) (om_d5382009 gc_5153)) hG hP hD hS (lv_sub hl [0, 1, 2, 3] rfl)
                    · skip
                      have hG := hG.trans (if_pos c_5166)
                      have gc_5166 := ti_eq c_5166 rfl rfl
                      refine lv_iconst (v := 1) hx hb dX7_find_80 (by decide) ?_
                      refine lv_goto (tgt := 85) hx hb dX7_find_81 (by decide) ?_
                      refine lv_istore_n (lv' := [(2, .int 1), (3, .int z_5149), (1, .int z_5101), (0, .ref oM)]) hx hb dX7_find_85 rfl hl (by decide) rfl (fun ls hl => ?_)
                      obtain ⟨x_5168, ex_5168⟩ : ∃ z : Int32, z = z_5149 + Int32.ofInt 1 := ⟨_, rfl⟩
                      have hG := hG.trans (lt_eq ex_5168)
                      have vx_5168 : x_5168.toInt = z_5149.toInt + 1 := ti_add (y := 1) ex_5168 rfl kc_1 (om_4e4fce7e hi0_n_5151.1) (om_89e8ce70 hns hi0_n_5151.2)
                      refine lv_iinc (v := x_5168) (lv' := [(3, .int x_5168), (2, .int 1), (1, .int z_5101), (0, .ref oM)]) hx hb dX7_find_86 hl (k := 1) rfl ex_5168.symm (by decide) rfl (fun ls hl => ?_)
                      refine lv_goto (tgt := 44) hx hb dX7_find_89 (by decide) ?_
                      exact ih_n_5151 x_5168 1 _ _ _  ⟨(om_83b90de5 hi0_n_5151.1 vx_5168), (om_afcf07ef gc_5153 vx_5168)⟩ ⟨(om_1b364b1c kc_1), (om_02032f93 kc_1)⟩ (by have q0 := kc_0; have q1 := kc_1; have q2 := kc_2; have q3 := kc_3; omega) (ms_lt hm_n_5151 (om_dd4ae0bc vx_5168) (om_d5382009 gc_5153)) hG hP hD hS (lv_sub hl [0, 1, 2, 3] rfl)
            exact key_n_5151 (((iM_nameSize.toInt - (0 : Int32).toInt).toNat) + 1) 0 1 _ _ _  ⟨(om_b1de7dbe kc_0), (om_2dfe280d b_iM_nameSize.1 kc_0)⟩ ⟨(om_1b364b1c kc_1), (om_02032f93 kc_1)⟩ (by first | (have q0 := kc_0; have q1 := kc_1; omega) | decide | assumption) (Nat.lt_add_one _) hG hP hD hS hl
  exact key_n_5102 (((18 - (0 : Int32).toInt).toNat) + 1) 0 _ _ _  ⟨(om_b1de7dbe kc_0), (om_8ad0707b kc_0)⟩ (Nat.lt_add_one _) hG hP hD hS hl
set_option maxHeartbeats 4000000 in
set_option maxRecDepth 100000 in
theorem tX7_newName (l : Launch) (dC : Nat → ClassId) (dI : Nat → Nat → Nat) (sz : Nat) (oM : Nat) (iM_thrown : Int32) (rM_tape : Nat) (fM_tape : Nat → Int32) (kM_tape : ClassId) (iM_taped : Int32) (iM_size : Int32) (iM_at : Int32) (iM_end : Int32) (iM_token : Int32) (iM_whole : Int32) (iM_nameSize : Int32) (iM_fault : Int32) (iM_place : Int32) (iM_trouble : Int32) (rM_letters : Nat) (fM_letters : Nat → Int32) (kM_letters : ClassId) (iM_failed : Int32) (iM_hasCourt : Int32) (rM_r : Nat) (rM_fresh : Nat) (fM_fresh : Nat → Int32) (kM_fresh : ClassId) (rM_told : Nat) (rM_read : Nat) (fM_read : Nat → Int32) (kM_read : ClassId) (rM_st : Nat) (rM_undone : Nat) (rM_kept : Nat) (iM_undos : Int32) (iM_images : Int32) (rM_fresher : Nat) (fM_fresher : Nat → Int32) (kM_fresher : ClassId) (iM_fresherSize : Int32) (iM_scale : Int32) (iM_night : Int32) (rM_heardRow : Nat) (rM_cutRow : Nat) (iM_breaths : Int32) (iM_cutMany : Int32) (iM_allBreaths : Int32) (rM_trial : Nat) (rM_words : Nat) (iM_fewestBreaths : Int32) (iM_orderMany : Int32) (iM_orderSum : Int32) (iM_leastOrder : Int32) (rM_often : Nat) (iM_setMany : Int32) (iM_someOf : Int32) (iM_allOf : Int32) (iM_allWeight : Int64) (iM_enoughWeight : Int64) (iM_worthSum : Int64) (iM_firstRest : Int32) (iM_leastDrawn : Int32) (b_iM_taped : 0 ≤ iM_taped.toInt ∧ iM_taped.toInt ≤ 900) (b_iM_size : 0 ≤ iM_size.toInt ∧ iM_size.toInt ≤ 900) (b_iM_end : 0 ≤ iM_end.toInt ∧ iM_end.toInt ≤ 900) (b_iM_nameSize : 0 ≤ iM_nameSize.toInt ∧ iM_nameSize.toInt ≤ 900) (b_iM_failed : 0 ≤ iM_failed.toInt ∧ iM_failed.toInt ≤ 1) (b_iM_hasCourt : 0 ≤ iM_hasCourt.toInt ∧ iM_hasCourt.toInt ≤ 1) (b_iM_undos : 0 ≤ iM_undos.toInt ∧ iM_undos.toInt ≤ 16) (b_iM_images : 0 ≤ iM_images.toInt ∧ iM_images.toInt ≤ 3) (b_iM_scale : 1 ≤ iM_scale.toInt ∧ iM_scale.toInt ≤ 1296) (b_iM_breaths : 0 ≤ iM_breaths.toInt ∧ iM_breaths.toInt ≤ 399) (b_iM_cutMany : 0 ≤ iM_cutMany.toInt ∧ iM_cutMany.toInt ≤ 399) (r_T : ImpP (iM_token.toInt = 2) (iM_nameSize.toInt ≤ 8)) (r_P : POk fM_fresh fM_read)  : Met l yX7_newName (Cond.code yX7_newName cX7_newName 1 none :: wG) ({ frames := 6, cells := 0, slots := 0, locals := 154 }) (va_Pc [.ref oM] (Pw dC dI sz [(oc7 oM iM_thrown rM_tape iM_taped iM_size iM_at iM_end iM_token iM_whole iM_nameSize iM_fault iM_place iM_trouble rM_letters iM_failed iM_hasCourt rM_r rM_fresh rM_told rM_read rM_st rM_undone rM_kept iM_undos iM_images rM_fresher iM_fresherSize iM_scale iM_night rM_heardRow rM_cutRow iM_breaths iM_cutMany iM_allBreaths rM_trial rM_words iM_fewestBreaths iM_orderMany iM_orderSum iM_leastOrder rM_often iM_setMany iM_someOf iM_allOf iM_allWeight iM_enoughWeight iM_worthSum iM_firstRest iM_leastDrawn), (arI rM_tape kM_tape 900 fM_tape), (arI rM_letters kM_letters 8 fM_letters), (arI rM_fresh kM_fresh 287 fM_fresh), (arI rM_read kM_read 90 fM_read), (arI rM_fresher kM_fresher 8 fM_fresher)] [(kM_tape, .int), (kM_letters, .int), (kM_fresh, .int), (kM_read, .int), (kM_fresher, .int)])) (va_Qv (fun (_ : Nat) => True) (fun (_ : Nat) (t : State) => ∃ (niM_at : Int32) (niM_end : Int32) (niM_token : Int32) (niM_whole : Int32) (niM_nameSize : Int32) (niM_fault : Int32) (niM_place : Int32) (niM_failed : Int32) (niM_fresherSize : Int32) (nfM_letters : Nat → Int32) (nfM_fresher : Nat → Int32), (0 ≤ niM_end.toInt ∧ niM_end.toInt ≤ 900) ∧ (0 ≤ niM_nameSize.toInt ∧ niM_nameSize.toInt ≤ 900) ∧ (0 ≤ niM_failed.toInt ∧ niM_failed.toInt ≤ 1) ∧ (iM_end.toInt ≤ niM_end.toInt) ∧ (ImpP (niM_token.toInt = 2) (niM_nameSize.toInt ≤ 8)) ∧ (iM_failed.toInt ≤ niM_failed.toInt) ∧ (ImpP (niM_failed.toInt ≤ 0 ∧ niM_token.toInt = 59 ) (iM_end.toInt + 1 ≤ niM_end.toInt)) ∧ (PX7_newName fM_tape iM_size iM_at iM_end iM_token iM_whole iM_nameSize iM_fault iM_place fM_letters iM_failed fM_fresh fM_fresher iM_fresherSize = (niM_at, niM_end, niM_token, niM_whole, niM_nameSize, niM_fault, niM_place, niM_failed, niM_fresherSize, nfM_letters, nfM_fresher)) ∧ Bw dC dI (va_A [(oc7 oM iM_thrown rM_tape iM_taped iM_size iM_at iM_end iM_token iM_whole iM_nameSize iM_fault iM_place iM_trouble rM_letters iM_failed iM_hasCourt rM_r rM_fresh rM_told rM_read rM_st rM_undone rM_kept iM_undos iM_images rM_fresher iM_fresherSize iM_scale iM_night rM_heardRow rM_cutRow iM_breaths iM_cutMany iM_allBreaths rM_trial rM_words iM_fewestBreaths iM_orderMany iM_orderSum iM_leastOrder rM_often iM_setMany iM_someOf iM_allOf iM_allWeight iM_enoughWeight iM_worthSum iM_firstRest iM_leastDrawn), (arI rM_tape kM_tape 900 fM_tape), (arI rM_letters kM_letters 8 fM_letters), (arI rM_fresh kM_fresh 287 fM_fresh), (arI rM_read kM_read 90 fM_read), (arI rM_fresher kM_fresher 8 fM_fresher)] sz) [(oc7 oM iM_thrown rM_tape iM_taped iM_size niM_at niM_end niM_token niM_whole niM_nameSize niM_fault niM_place iM_trouble rM_letters niM_failed iM_hasCourt rM_r rM_fresh rM_told rM_read rM_st rM_undone rM_kept iM_undos iM_images rM_fresher niM_fresherSize iM_scale iM_night rM_heardRow rM_cutRow iM_breaths iM_cutMany iM_allBreaths rM_trial rM_words iM_fewestBreaths iM_orderMany iM_orderSum iM_leastOrder rM_often iM_setMany iM_someOf iM_allOf iM_allWeight iM_enoughWeight iM_worthSum iM_firstRest iM_leastDrawn), (arI rM_tape kM_tape 900 fM_tape), (arI rM_letters kM_letters 8 nfM_letters), (arI rM_fresh kM_fresh 287 fM_fresh), (arI rM_read kM_read 90 fM_read), (arI rM_fresher kM_fresher 8 nfM_fresher)] [(kM_tape, .int), (kM_letters, .int), (kM_fresh, .int), (kM_read, .int), (kM_fresher, .int)] t) (va_A [(oc7 oM iM_thrown rM_tape iM_taped iM_size iM_at iM_end iM_token iM_whole iM_nameSize iM_fault iM_place iM_trouble rM_letters iM_failed iM_hasCourt rM_r rM_fresh rM_told rM_read rM_st rM_undone rM_kept iM_undos iM_images rM_fresher iM_fresherSize iM_scale iM_night rM_heardRow rM_cutRow iM_breaths iM_cutMany iM_allBreaths rM_trial rM_words iM_fewestBreaths iM_orderMany iM_orderSum iM_leastOrder rM_often iM_setMany iM_someOf iM_allOf iM_allWeight iM_enoughWeight iM_worthSum iM_firstRest iM_leastDrawn), (arI rM_tape kM_tape 900 fM_tape), (arI rM_letters kM_letters 8 fM_letters), (arI rM_fresh kM_fresh 287 fM_fresh), (arI rM_read kM_read 90 fM_read), (arI rM_fresher kM_fresher 8 fM_fresher)] sz)) 0 0 (va_A [(oc7 oM iM_thrown rM_tape iM_taped iM_size iM_at iM_end iM_token iM_whole iM_nameSize iM_fault iM_place iM_trouble rM_letters iM_failed iM_hasCourt rM_r rM_fresh rM_told rM_read rM_st rM_undone rM_kept iM_undos iM_images rM_fresher iM_fresherSize iM_scale iM_night rM_heardRow rM_cutRow iM_breaths iM_cutMany iM_allBreaths rM_trial rM_words iM_fewestBreaths iM_orderMany iM_orderSum iM_leastOrder rM_often iM_setMany iM_someOf iM_allOf iM_allWeight iM_enoughWeight iM_worthSum iM_firstRest iM_leastDrawn), (arI rM_tape kM_tape 900 fM_tape), (arI rM_letters kM_letters 8 fM_letters), (arI rM_fresh kM_fresh 287 fM_fresh), (arI rM_read kM_read 90 fM_read), (arI rM_fresher kM_fresher 8 fM_fresher)] sz) := by
  refine Met.ofW (cc := cX7_newName) (maxL := 1) (ret := none) pnX7 rfl ?_
  intro p e s m args below meth c s₁ B hml hv
  obtain ⟨rfl, hsz, hP, hK, hD0, hE⟩ := hv
  have hx := B.exec
  have hb := B.bytes
  have hr := B.returns
  have hts : ∀ w ∈ wG, w.before ([.ref oM] : List Value).toArray s = true := fun w h => atoms_spec (ws := Cond.code yX7_newName cX7_newName 1 none :: wG) B.pre w (List.mem_cons_of_mem _ h)
  have hown : s.vm.findClass RX7 = some m.cls := own_of B.named rfl
  have hlocks := B.notSynchronized
  subst hsz
  have hD := hD0.self (sz := s.heap.size)
  generalize hAe : va_A [(oc7 oM iM_thrown rM_tape iM_taped iM_size iM_at iM_end iM_token iM_whole iM_nameSize iM_fault iM_place iM_trouble rM_letters iM_failed iM_hasCourt rM_r rM_fresh rM_told rM_read rM_st rM_undone rM_kept iM_undos iM_images rM_fresher iM_fresherSize iM_scale iM_night rM_heardRow rM_cutRow iM_breaths iM_cutMany iM_allBreaths rM_trial rM_words iM_fewestBreaths iM_orderMany iM_orderSum iM_leastOrder rM_often iM_setMany iM_someOf iM_allOf iM_allWeight iM_enoughWeight iM_worthSum iM_firstRest iM_leastDrawn), (arI rM_tape kM_tape 900 fM_tape), (arI rM_letters kM_letters 8 fM_letters), (arI rM_fresh kM_fresh 287 fM_fresh), (arI rM_read kM_read 90 fM_read), (arI rM_fresher kM_fresher 8 fM_fresher)] s.heap.size = A at hD hE ⊢
  have hA : ∀ q : Nat, s.heap.size ≤ q → A q := fun q h => by rw [← hAe]; exact Or.inr h
  have hS : va_S A s.heap s.heap [] := va_S.rf
  have hl := lv_entry ([.ref oM]) (n := 1) (Nat.le_of_ble_eq_true rfl)
  rw [lg_entry_eq]
  generalize (lg_sl ([.ref oM]) ++ List.replicate (1 - (lg_sl ([.ref oM])).length) Slot.unset).toArray = ls at hl ⊢
  have hl : lv_has ls 1 [(0, .ref oM)] := hl
  have hG := PX7_newName_eq fM_tape iM_size iM_at iM_end iM_token iM_whole iM_nameSize iM_fault iM_place fM_letters iM_failed fM_fresh fM_fresher iM_fresherSize
  have pl_fM_fresh := r_P.lins
  refine lv_aload_n hx hb dX7_newName_0 rfl (lv_at hl 0 rfl) ?_
  refine va_get (D := (dC, dI)) (ci := 7) (v := .int iM_failed) (C := RX7) (T := TX7) (N := 48) hx hb hts inX7 hown hK hP 0 rfl rfl 13 (by decide) (hts _ wd_380) (fun _ h9 => h9) rfl dX7_newName_1 ?_
  refine lv_if_eq (tgt := 8) hx hb dX7_newName_4 (by decide) (fun c_5191 => ?_) (fun c_5191 => ?_)
  · skip
    have hG := hG.trans (if_pos c_5191)
    have gc_5191 := ti_eq c_5191 rfl kc_0
    refine lv_aload_n hx hb dX7_newName_8 rfl (lv_at hl 0 rfl) ?_
    have hMs := ml_of hD [true, false, true, false, false, false] (wc := [(oc7 oM iM_thrown rM_tape iM_taped iM_size iM_at iM_end iM_token iM_whole iM_nameSize iM_fault iM_place iM_trouble rM_letters iM_failed iM_hasCourt rM_r rM_fresh rM_told rM_read rM_st rM_undone rM_kept iM_undos iM_images rM_fresher iM_fresherSize iM_scale iM_night rM_heardRow rM_cutRow iM_breaths iM_cutMany iM_allBreaths rM_trial rM_words iM_fewestBreaths iM_orderMany iM_orderSum iM_leastOrder rM_often iM_setMany iM_someOf iM_allOf iM_allWeight iM_enoughWeight iM_worthSum iM_firstRest iM_leastDrawn), (arI rM_letters kM_letters 8 fM_letters)]) rfl
    have hFc := va_freeM hD hS hA _ hMs
    refine va_callv (va_runV (As := []) (rest := []) ⟨hx, hb, hml, hown, hts⟩ (tX7_mustName l dC dI _ oM iM_thrown rM_tape iM_taped iM_size iM_at iM_end iM_token iM_whole iM_nameSize iM_fault iM_place iM_trouble rM_letters fM_letters kM_letters iM_failed iM_hasCourt rM_r rM_fresh rM_told rM_read rM_st rM_undone rM_kept iM_undos iM_images rM_fresher iM_fresherSize iM_scale iM_night rM_heardRow rM_cutRow iM_breaths iM_cutMany iM_allBreaths rM_trial rM_words iM_fewestBreaths iM_orderMany iM_orderSum iM_leastOrder rM_often iM_setMany iM_someOf iM_allOf iM_allWeight iM_enoughWeight iM_worthSum iM_firstRest iM_leastDrawn b_iM_taped b_iM_size b_iM_end b_iM_nameSize b_iM_failed b_iM_hasCourt b_iM_undos b_iM_images b_iM_scale b_iM_breaths b_iM_cutMany r_T) (cwV 0 hts (wd_V wd_467 wd_468 wd_469 wd_5 (wd_c wd_470)) rfl rfl rfl dv_yX7_mustName_0 ⟨Nat.le_of_ble_eq_true rfl, Nat.le_of_ble_eq_true rfl⟩) ⟨Pw.fb, recvX7 hK hP (q0 := 0) rfl, fun U hU hW => Pw.to (hP.ms _ hMs) (hD.ms _ hMs) (hK.ms [false, true, false, false, false] rfl) hE hS hFc hU hW⟩ rfl rfl hl.1 rfl (lv_room (Nat.le_of_ble_eq_true rfl)) dX7_newName_9 ⟨Nat.le_of_ble_eq_true rfl, Nat.le_of_ble_eq_true rfl⟩) hS (fun q _ h => hFc q h) hFc (fun u t H locs ht hvm hw hB hz1 hk1 hS => ?_)
    refine ex_3_4 hB (fun x_5192 x_5193 x_5194 b_x_5194 e_x_5192_0 e_x_5192_1 e_x_5192_2 hB => ?_)
    obtain ⟨hP, hD⟩ := Bw.goN (ws' := [(oc7 oM iM_thrown rM_tape iM_taped iM_size iM_at iM_end iM_token iM_whole iM_nameSize x_5192 x_5193 iM_trouble rM_letters x_5194 iM_hasCourt rM_r rM_fresh rM_told rM_read rM_st rM_undone rM_kept iM_undos iM_images rM_fresher iM_fresherSize iM_scale iM_night rM_heardRow rM_cutRow iM_breaths iM_cutMany iM_allBreaths rM_trial rM_words iM_fewestBreaths iM_orderMany iM_orderSum iM_leastOrder rM_often iM_setMany iM_someOf iM_allOf iM_allWeight iM_enoughWeight iM_worthSum iM_firstRest iM_leastDrawn), (arI rM_tape kM_tape 900 fM_tape), (arI rM_letters kM_letters 8 fM_letters), (arI rM_fresh kM_fresh 287 fM_fresh), (arI rM_read kM_read 90 fM_read), (arI rM_fresher kM_fresher 8 fM_fresher)]) hB rfl ht hP hD _ hMs hk1 hFc rfl
    clear hz1 hk1 hvm ht hB hMs
    have hG := hG.trans (un3_eq e_x_5192_2)
    refine lv_aload_n hx hb dX7_newName_12 rfl (lv_at hl 0 rfl) ?_
    refine va_get (D := (dC, dI)) (ci := 7) (v := .int x_5194) (C := RX7) (T := TX7) (N := 48) hx hb hts inX7 hown hK hP 0 rfl rfl 13 (by decide) (hts _ wd_380) (fun _ h9 => h9) rfl dX7_newName_13 ?_
    refine lv_if_ne (tgt := 35) hx hb dX7_newName_16 (by decide) (fun c_5195 => ?_) (fun c_5195 => ?_)
    · skip
      have hG := hG.trans (if_neg c_5195)
      have gc_5195 := ti_ne c_5195 rfl kc_0
      replace gc_5195 : (-1) * x_5194.toInt + 1 ≤ 0 := om_e3003f79 gc_5195 b_x_5194.1
      clear e_x_5192_1
      refine lv_aload_n hx hb dX7_newName_35 rfl (lv_at hl 0 rfl) ?_
      refine va_get (D := (dC, dI)) (ci := 7) (v := .int x_5194) (C := RX7) (T := TX7) (N := 48) hx hb hts inX7 hown hK hP 0 rfl rfl 13 (by decide) (hts _ wd_380) (fun _ h9 => h9) rfl dX7_newName_36 ?_
      refine lv_if_eq (tgt := 43) hx hb dX7_newName_39 (by decide) (fun c_5196 => ?_) (fun c_5196 => ?_)
      · skip
        have hG := hG.trans (if_pos c_5196)
        have gc_5196 := ti_eq c_5196 rfl kc_0
        exact ((om_77e4ddb5 gc_5195 gc_5196)).elim
      · skip
        have hG := hG.trans (if_neg c_5196)
        have gc_5196 := ti_ne c_5196 rfl kc_0
        replace gc_5196 : (-1) * x_5194.toInt + 1 ≤ 0 := om_e3003f79 gc_5196 b_x_5194.1
        exact wq_v hx hb hr 0 trivial (fun t ht hW => ⟨iM_at, iM_end, iM_token, iM_whole, iM_nameSize, x_5192, x_5193, x_5194, iM_fresherSize, fM_letters, fM_fresher, ⟨b_iM_end.1, b_iM_end.2⟩, ⟨b_iM_nameSize.1, b_iM_nameSize.2⟩, b_x_5194, om_1cb5f934, r_T, (om_1fc3dec6 gc_5191 b_x_5194.1), (fun h9 => False.elim (om_a5fe015d gc_5195 h9.1)), hG, Bw.to hP hD hK ht hW⟩) hS dX7_newName_42 hlocks
    · skip
      have hG := hG.trans (if_pos c_5195)
      have gc_5195 := ti_eq c_5195 rfl kc_0
      have h_5197 : iM_token.toInt = 2 := e_x_5192_1 (om_02e9bb08 gc_5195)
      clear e_x_5192_1
      have h_5198 : iM_nameSize.toInt ≤ 8 := r_T h_5197
      clear r_T
      refine lv_aload_n hx hb dX7_newName_19 rfl (lv_at hl 0 rfl) ?_
      have hMs := ml_of hD [true, false, true, true, true, false] (wc := [(oc7 oM iM_thrown rM_tape iM_taped iM_size iM_at iM_end iM_token iM_whole iM_nameSize x_5192 x_5193 iM_trouble rM_letters x_5194 iM_hasCourt rM_r rM_fresh rM_told rM_read rM_st rM_undone rM_kept iM_undos iM_images rM_fresher iM_fresherSize iM_scale iM_night rM_heardRow rM_cutRow iM_breaths iM_cutMany iM_allBreaths rM_trial rM_words iM_fewestBreaths iM_orderMany iM_orderSum iM_leastOrder rM_often iM_setMany iM_someOf iM_allOf iM_allWeight iM_enoughWeight iM_worthSum iM_firstRest iM_leastDrawn), (arI rM_letters kM_letters 8 fM_letters), (arI rM_fresh kM_fresh 287 fM_fresh), (arI rM_read kM_read 90 fM_read)]) rfl
      have hFc := va_freeM hD hS hA _ hMs
      refine va_calli (va_runV (As := []) (rest := []) ⟨hx, hb, hml, hown, hts⟩ (tX7_find l dC dI _ oM iM_thrown rM_tape iM_taped iM_size iM_at iM_end iM_token iM_whole iM_nameSize x_5192 x_5193 iM_trouble rM_letters fM_letters kM_letters x_5194 iM_hasCourt rM_r rM_fresh fM_fresh kM_fresh rM_told rM_read fM_read kM_read rM_st rM_undone rM_kept iM_undos iM_images rM_fresher iM_fresherSize iM_scale iM_night rM_heardRow rM_cutRow iM_breaths iM_cutMany iM_allBreaths rM_trial rM_words iM_fewestBreaths iM_orderMany iM_orderSum iM_leastOrder rM_often iM_setMany iM_someOf iM_allOf iM_allWeight iM_enoughWeight iM_worthSum iM_firstRest iM_leastDrawn b_iM_taped b_iM_size b_iM_end b_iM_nameSize b_x_5194 b_iM_hasCourt b_iM_undos b_iM_images b_iM_scale b_iM_breaths b_iM_cutMany (fun h9 => h_5198) r_P h_5198) (cwV 0 hts (wd_V wd_471 wd_472 wd_473 wd_5 (wd_c wd_474)) rfl rfl rfl dv_yX7_find_0 ⟨Nat.le_of_ble_eq_true rfl, Nat.le_of_ble_eq_true rfl⟩) ⟨Pw.fb, recvX7 hK hP (q0 := 0) rfl, fun U hU hW => Pw.to (hP.ms _ hMs) (hD.ms _ hMs) (hK.ms [false, true, true, true, false] rfl) hE hS hFc hU hW⟩ rfl rfl hl.1 rfl (lv_room (Nat.le_of_ble_eq_true rfl)) dX7_newName_20 ⟨Nat.le_of_ble_eq_true rfl, Nat.le_of_ble_eq_true rfl⟩) hS (fun q _ h => hFc q h) hFc (fun r u t H locs ht hvm hw hB hz1 hk1 hS => ?_)
      have hru9 := hw.2
      have hw := hw.1
      obtain ⟨hP, hD⟩ := Bw.goN (ws' := [(oc7 oM iM_thrown rM_tape iM_taped iM_size iM_at iM_end iM_token iM_whole iM_nameSize x_5192 x_5193 iM_trouble rM_letters x_5194 iM_hasCourt rM_r rM_fresh rM_told rM_read rM_st rM_undone rM_kept iM_undos iM_images rM_fresher iM_fresherSize iM_scale iM_night rM_heardRow rM_cutRow iM_breaths iM_cutMany iM_allBreaths rM_trial rM_words iM_fewestBreaths iM_orderMany iM_orderSum iM_leastOrder rM_often iM_setMany iM_someOf iM_allOf iM_allWeight iM_enoughWeight iM_worthSum iM_firstRest iM_leastDrawn), (arI rM_tape kM_tape 900 fM_tape), (arI rM_letters kM_letters 8 fM_letters), (arI rM_fresh kM_fresh 287 fM_fresh), (arI rM_read kM_read 90 fM_read), (arI rM_fresher kM_fresher 8 fM_fresher)]) hB rfl ht hP hD _ hMs hk1 hFc rfl
      clear hz1 hk1 hvm ht hB hMs
      obtain ⟨x_5199, rfl⟩ : ∃ z, z = r := ⟨_, rfl⟩
      have hG := hG.trans (lt_eq hru9.symm)
      have lx_5199 := hw.2
      have ux_5199 := hw.2
      refine lv_if_lt (tgt := 35) hx hb dX7_newName_23 (by decide) (fun c_5200 => ?_) (fun c_5200 => ?_)
      · skip
        have hG := hG.trans (if_pos c_5200)
        have gc_5200 := ti_lt c_5200 rfl kc_0
        refine lv_aload_n hx hb dX7_newName_35 rfl (lv_at hl 0 rfl) ?_
        refine va_get (D := (dC, dI)) (ci := 7) (v := .int x_5194) (C := RX7) (T := TX7) (N := 48) hx hb hts inX7 hown hK hP 0 rfl rfl 13 (by decide) (hts _ wd_380) (fun _ h9 => h9) rfl dX7_newName_36 ?_
        refine lv_if_eq (tgt := 43) hx hb dX7_newName_39 (by decide) (fun c_5201 => ?_) (fun c_5201 => ?_)
        · skip
          have hG := hG.trans (if_pos c_5201)
          have gc_5201 := ti_eq c_5201 rfl kc_0
          refine lv_aload_n hx hb dX7_newName_43 rfl (lv_at hl 0 rfl) ?_
          refine va_get (D := (dC, dI)) (ci := 7) (v := .ref rM_letters) (C := RX7) (T := TX7) (N := 48) hx hb hts inX7 hown hK hP 0 rfl rfl 12 (by decide) (hts _ wd_154) (fun _ h9 => h9) rfl dX7_newName_44 ?_
          refine lv_iconst (v := 0) hx hb dX7_newName_47 (by decide) ?_
          refine lv_aload_n hx hb dX7_newName_48 rfl (lv_at hl 0 rfl) ?_
          refine va_get (D := (dC, dI)) (ci := 7) (v := .ref rM_fresher) (C := RX7) (T := TX7) (N := 48) hx hb hts inX7 hown hK hP 0 rfl rfl 24 (by decide) (hts _ wd_162) (fun _ h9 => h9) rfl dX7_newName_49 ?_
          refine lv_iconst (v := 0) hx hb dX7_newName_52 (by decide) ?_
          refine lv_bipush (v := 8) hx hb dX7_newName_53 (by decide) ?_
          have hMs := ml_of hD [false, false, true, false, false, true] (wc := [(arI rM_letters kM_letters 8 fM_letters), (arI rM_fresher kM_fresher 8 fM_fresher)]) rfl
          have hFc := va_freeM hD hS hA _ hMs
          refine va_callv (va_runS (As := [.ref rM_letters, .int 0, .ref rM_fresher, .int 0, .int 8]) (rest := []) ⟨hx, hb, hml, hown, hts⟩ (tX7_copy_8_8 l dC dI _ rM_letters fM_letters kM_letters rM_fresher fM_fresher kM_fresher 0 0 8 ⟨(om_b1de7dbe kc_0), (om_b1de7dbe kc_0), (om_fee42a6d kc_8)⟩ (om_0844da4c kc_0 kc_8) (om_0844da4c kc_0 kc_8)) (va_cwS 5 hts (wd_S wd_475 wd_476 wd_5 (wd_c wd_477)) rfl rfl rfl ds_yX7_copy_5 ⟨Nat.le_of_ble_eq_true rfl, Nat.le_of_ble_eq_true rfl⟩) ⟨Pw.fb, fun U hU hW => Pw.to (hP.ms _ hMs) (hD.ms _ hMs) (hK.ms [false, true, false, false, true] rfl) hE hS hFc hU hW⟩ rfl rfl hl.1 rfl (lv_room (Nat.le_of_ble_eq_true rfl)) dX7_newName_55 ⟨Nat.le_of_ble_eq_true rfl, Nat.le_of_ble_eq_true rfl⟩) hS (fun q _ h => hFc q h) hFc (fun u t H locs ht hvm hw hB hz1 hk1 hS => ?_)
          refine ex_1_1 hB (fun f_5202 e_f_5202_0 hB => ?_)
          obtain ⟨hP, hD⟩ := Bw.goN (ws' := [(oc7 oM iM_thrown rM_tape iM_taped iM_size iM_at iM_end iM_token iM_whole iM_nameSize x_5192 x_5193 iM_trouble rM_letters x_5194 iM_hasCourt rM_r rM_fresh rM_told rM_read rM_st rM_undone rM_kept iM_undos iM_images rM_fresher iM_fresherSize iM_scale iM_night rM_heardRow rM_cutRow iM_breaths iM_cutMany iM_allBreaths rM_trial rM_words iM_fewestBreaths iM_orderMany iM_orderSum iM_leastOrder rM_often iM_setMany iM_someOf iM_allOf iM_allWeight iM_enoughWeight iM_worthSum iM_firstRest iM_leastDrawn), (arI rM_tape kM_tape 900 fM_tape), (arI rM_letters kM_letters 8 fM_letters), (arI rM_fresh kM_fresh 287 fM_fresh), (arI rM_read kM_read 90 fM_read), (arI rM_fresher kM_fresher 8 f_5202)]) hB rfl ht hP hD _ hMs hk1 hFc rfl
          clear hz1 hk1 hvm ht hB hMs
          have hG := hG.trans (lt_eq (CopyOk.fn e_f_5202_0).symm)
          refine lv_aload_n hx hb dX7_newName_58 rfl (lv_at hl 0 rfl) ?_
          refine lv_aload_n hx hb dX7_newName_59 rfl (lv_at hl 0 rfl) ?_
          refine va_get (D := (dC, dI)) (ci := 7) (v := .int iM_nameSize) (C := RX7) (T := TX7) (N := 48) hx hb hts inX7 hown hK hP 0 rfl rfl 8 (by decide) (hts _ wd_404) (fun _ h9 => h9) rfl dX7_newName_60 ?_
          refine va_put (D := (dC, dI)) (ci := 7) (v := .int iM_nameSize) (ty := .int) (C := RX7) (T := TX7) (N := 48) hx hb hts inX7 tyX7 tyX7_ok nmX7 hown hK hP hD hS 0 rfl rfl 25 (by decide) (hts _ wd_466) (fun _ h9 => h9) rfl (by decide +kernel) rfl rfl (Nat.le_of_ble_eq_true rfl) dX7_newName_63 (fun H locs hP hD hS => ?_)
          obtain ⟨hP, hD⟩ := wl2 (ws' := [(oc7 oM iM_thrown rM_tape iM_taped iM_size iM_at iM_end iM_token iM_whole iM_nameSize x_5192 x_5193 iM_trouble rM_letters x_5194 iM_hasCourt rM_r rM_fresh rM_told rM_read rM_st rM_undone rM_kept iM_undos iM_images rM_fresher iM_nameSize iM_scale iM_night rM_heardRow rM_cutRow iM_breaths iM_cutMany iM_allBreaths rM_trial rM_words iM_fewestBreaths iM_orderMany iM_orderSum iM_leastOrder rM_often iM_setMany iM_someOf iM_allOf iM_allWeight iM_enoughWeight iM_worthSum iM_firstRest iM_leastDrawn), (arI rM_tape kM_tape 900 fM_tape), (arI rM_letters kM_letters 8 fM_letters), (arI rM_fresh kM_fresh 287 fM_fresh), (arI rM_read kM_read 90 fM_read), (arI rM_fresher kM_fresher 8 f_5202)]) hP hD rfl
          refine lv_aload_n hx hb dX7_newName_66 rfl (lv_at hl 0 rfl) ?_
          have hMs := ml_of hD [true, true, true, false, false, false] (wc := [(oc7 oM iM_thrown rM_tape iM_taped iM_size iM_at iM_end iM_token iM_whole iM_nameSize x_5192 x_5193 iM_trouble rM_letters x_5194 iM_hasCourt rM_r rM_fresh rM_told rM_read rM_st rM_undone rM_kept iM_undos iM_images rM_fresher iM_nameSize iM_scale iM_night rM_heardRow rM_cutRow iM_breaths iM_cutMany iM_allBreaths rM_trial rM_words iM_fewestBreaths iM_orderMany iM_orderSum iM_leastOrder rM_often iM_setMany iM_someOf iM_allOf iM_allWeight iM_enoughWeight iM_worthSum iM_firstRest iM_leastDrawn), (arI rM_tape kM_tape 900 fM_tape), (arI rM_letters kM_letters 8 fM_letters)]) rfl
          have hFc := va_freeM hD hS hA _ hMs
          refine va_callv (va_runV (As := []) (rest := []) ⟨hx, hb, hml, hown, hts⟩ (tX7_next l dC dI _ oM iM_thrown rM_tape fM_tape kM_tape iM_taped iM_size iM_at iM_end iM_token iM_whole iM_nameSize x_5192 x_5193 iM_trouble rM_letters fM_letters kM_letters x_5194 iM_hasCourt rM_r rM_fresh rM_told rM_read rM_st rM_undone rM_kept iM_undos iM_images rM_fresher iM_nameSize iM_scale iM_night rM_heardRow rM_cutRow iM_breaths iM_cutMany iM_allBreaths rM_trial rM_words iM_fewestBreaths iM_orderMany iM_orderSum iM_leastOrder rM_often iM_setMany iM_someOf iM_allOf iM_allWeight iM_enoughWeight iM_worthSum iM_firstRest iM_leastDrawn b_iM_taped b_iM_size b_iM_end b_iM_nameSize b_x_5194 b_iM_hasCourt b_iM_undos b_iM_images b_iM_scale b_iM_breaths b_iM_cutMany (fun h9 => h_5198)) (cwV 0 hts (wd_V wd_400 wd_401 wd_402 wd_5 (wd_c wd_403)) rfl rfl rfl dv_yX7_next_0 ⟨Nat.le_of_ble_eq_true rfl, Nat.le_of_ble_eq_true rfl⟩) ⟨Pw.fb, recvX7 hK hP (q0 := 0) rfl, fun U hU hW => Pw.to (hP.ms _ hMs) (hD.ms _ hMs) (hK.ms [true, true, false, false, false] rfl) hE hS hFc hU hW⟩ rfl rfl hl.1 rfl (lv_room (Nat.le_of_ble_eq_true rfl)) dX7_newName_67 ⟨Nat.le_of_ble_eq_true rfl, Nat.le_of_ble_eq_true rfl⟩) hS (fun q _ h => hFc q h) hFc (fun u t H locs ht hvm hw hB hz1 hk1 hS => ?_)
          refine ex_6_6 hB (fun x_5203 x_5204 x_5205 x_5206 x_5207 f_5208 b_x_5204 b_x_5207 e_x_5203_0 e_x_5203_1 e_x_5203_2 e_x_5203_3 hB => ?_)
          obtain ⟨hP, hD⟩ := Bw.goN (ws' := [(oc7 oM iM_thrown rM_tape iM_taped iM_size x_5203 x_5204 x_5205 x_5206 x_5207 x_5192 x_5193 iM_trouble rM_letters x_5194 iM_hasCourt rM_r rM_fresh rM_told rM_read rM_st rM_undone rM_kept iM_undos iM_images rM_fresher iM_nameSize iM_scale iM_night rM_heardRow rM_cutRow iM_breaths iM_cutMany iM_allBreaths rM_trial rM_words iM_fewestBreaths iM_orderMany iM_orderSum iM_leastOrder rM_often iM_setMany iM_someOf iM_allOf iM_allWeight iM_enoughWeight iM_worthSum iM_firstRest iM_leastDrawn), (arI rM_tape kM_tape 900 fM_tape), (arI rM_letters kM_letters 8 f_5208), (arI rM_fresh kM_fresh 287 fM_fresh), (arI rM_read kM_read 90 fM_read), (arI rM_fresher kM_fresher 8 f_5202)]) hB rfl ht hP hD _ hMs hk1 hFc rfl
          clear hz1 hk1 hvm ht hB hMs
          have hG := hG.trans (un6_eq e_x_5203_3)
          exact wq_v hx hb hr 0 trivial (fun t ht hW => ⟨x_5203, x_5204, x_5205, x_5206, x_5207, x_5192, x_5193, x_5194, iM_nameSize, f_5208, f_5202, b_x_5204, b_x_5207, b_x_5194, e_x_5203_0, e_x_5203_1, (om_1fc3dec6 gc_5191 b_x_5194.1), (fun h9 => (e_x_5203_2 h9.2)), hG, Bw.to hP hD hK ht hW⟩) hS dX7_newName_70 hlocks
        · skip
          have hG := hG.trans (if_neg c_5201)
          have gc_5201 := ti_ne c_5201 rfl kc_0
          replace gc_5201 : x_5194.toInt + 1 ≤ 0 := om_f992525b gc_5201 gc_5195
          exact ((om_5185113d b_x_5194.1 gc_5201)).elim
      · skip
        have hG := hG.trans (if_neg c_5200)
        have gc_5200 := ti_nlt c_5200 rfl kc_0
        refine lv_aload_n hx hb dX7_newName_26 rfl (lv_at hl 0 rfl) ?_
        refine lv_iconst (v := 3) hx hb dX7_newName_27 (by decide) ?_
        refine lv_aload_n hx hb dX7_newName_28 rfl (lv_at hl 0 rfl) ?_
        refine va_get (D := (dC, dI)) (ci := 7) (v := .int iM_at) (C := RX7) (T := TX7) (N := 48) hx hb hts inX7 hown hK hP 0 rfl rfl 4 (by decide) (hts _ wd_384) (fun _ h9 => h9) rfl dX7_newName_29 ?_
        have hMs := ml_of hD [true, false, false, false, false, false] (wc := [(oc7 oM iM_thrown rM_tape iM_taped iM_size iM_at iM_end iM_token iM_whole iM_nameSize x_5192 x_5193 iM_trouble rM_letters x_5194 iM_hasCourt rM_r rM_fresh rM_told rM_read rM_st rM_undone rM_kept iM_undos iM_images rM_fresher iM_fresherSize iM_scale iM_night rM_heardRow rM_cutRow iM_breaths iM_cutMany iM_allBreaths rM_trial rM_words iM_fewestBreaths iM_orderMany iM_orderSum iM_leastOrder rM_often iM_setMany iM_someOf iM_allOf iM_allWeight iM_enoughWeight iM_worthSum iM_firstRest iM_leastDrawn)]) rfl
        have hFc := va_freeM hD hS hA _ hMs
        refine va_callv (va_runV (As := [.int 3, .int iM_at]) (rest := []) ⟨hx, hb, hml, hown, hts⟩ (tX7_wrong l dC dI _ oM iM_thrown rM_tape iM_taped iM_size iM_at iM_end iM_token iM_whole iM_nameSize x_5192 x_5193 iM_trouble rM_letters x_5194 iM_hasCourt rM_r rM_fresh rM_told rM_read rM_st rM_undone rM_kept iM_undos iM_images rM_fresher iM_fresherSize iM_scale iM_night rM_heardRow rM_cutRow iM_breaths iM_cutMany iM_allBreaths rM_trial rM_words iM_fewestBreaths iM_orderMany iM_orderSum iM_leastOrder rM_often iM_setMany iM_someOf iM_allOf iM_allWeight iM_enoughWeight iM_worthSum iM_firstRest iM_leastDrawn 3 iM_at b_iM_taped b_iM_size b_iM_end b_iM_nameSize b_x_5194 b_iM_hasCourt b_iM_undos b_iM_images b_iM_scale b_iM_breaths b_iM_cutMany (fun h9 => h_5198)) (cwV 2 hts (wd_V wd_430 wd_431 wd_432 wd_5 (wd_c wd_433)) rfl rfl rfl dv_yX7_wrong_2 ⟨Nat.le_of_ble_eq_true rfl, Nat.le_of_ble_eq_true rfl⟩) ⟨Pw.fb, recvX7 hK hP (q0 := 0) rfl, fun U hU hW => Pw.to (hP.ms _ hMs) (hD.ms _ hMs) (hK.ms [false, false, false, false, false] rfl) hE hS hFc hU hW⟩ rfl rfl hl.1 rfl (lv_room (Nat.le_of_ble_eq_true rfl)) dX7_newName_32 ⟨Nat.le_of_ble_eq_true rfl, Nat.le_of_ble_eq_true rfl⟩) hS (fun q _ h => hFc q h) hFc (fun u t H locs ht hvm hw hB hz1 hk1 hS => ?_)
        refine ex_3_3 hB (fun x_5209 x_5210 x_5211 b_x_5211 e_x_5209_0 e_x_5209_1 hB => ?_)
        obtain ⟨hP, hD⟩ := Bw.goN (ws' := [(oc7 oM iM_thrown rM_tape iM_taped iM_size iM_at iM_end iM_token iM_whole iM_nameSize x_5209 x_5210 iM_trouble rM_letters x_5211 iM_hasCourt rM_r rM_fresh rM_told rM_read rM_st rM_undone rM_kept iM_undos iM_images rM_fresher iM_fresherSize iM_scale iM_night rM_heardRow rM_cutRow iM_breaths iM_cutMany iM_allBreaths rM_trial rM_words iM_fewestBreaths iM_orderMany iM_orderSum iM_leastOrder rM_often iM_setMany iM_someOf iM_allOf iM_allWeight iM_enoughWeight iM_worthSum iM_firstRest iM_leastDrawn), (arI rM_tape kM_tape 900 fM_tape), (arI rM_letters kM_letters 8 fM_letters), (arI rM_fresh kM_fresh 287 fM_fresh), (arI rM_read kM_read 90 fM_read), (arI rM_fresher kM_fresher 8 fM_fresher)]) hB rfl ht hP hD _ hMs hk1 hFc rfl
        clear hz1 hk1 hvm ht hB hMs
        have hG := hG.trans (un3_eq e_x_5209_1)
        refine lv_aload_n hx hb dX7_newName_35 rfl (lv_at hl 0 rfl) ?_
        refine va_get (D := (dC, dI)) (ci := 7) (v := .int x_5211) (C := RX7) (T := TX7) (N := 48) hx hb hts inX7 hown hK hP 0 rfl rfl 13 (by decide) (hts _ wd_380) (fun _ h9 => h9) rfl dX7_newName_36 ?_
        refine lv_if_eq (tgt := 43) hx hb dX7_newName_39 (by decide) (fun c_5212 => ?_) (fun c_5212 => ?_)
        · skip
          have hG := hG.trans (if_pos c_5212)
          have gc_5212 := ti_eq c_5212 rfl kc_0
          exact ((om_b1155cdc e_x_5209_0 gc_5212)).elim
        · skip
          have hG := hG.trans (if_neg c_5212)
          have gc_5212 := ti_ne c_5212 rfl kc_0
          replace gc_5212 : (-1) * x_5211.toInt + 1 ≤ 0 := om_e3003f79 gc_5212 b_x_5211.1
          exact wq_v hx hb hr 0 trivial (fun t ht hW => ⟨iM_at, iM_end, iM_token, iM_whole, iM_nameSize, x_5209, x_5210, x_5211, iM_fresherSize, fM_letters, fM_fresher, ⟨b_iM_end.1, b_iM_end.2⟩, ⟨b_iM_nameSize.1, b_iM_nameSize.2⟩, b_x_5211, om_1cb5f934, (fun h9 => h_5198), (om_1fc3dec6 gc_5191 b_x_5211.1), (fun h9 => False.elim (om_92495247 e_x_5209_0 h9.1)), hG, Bw.to hP hD hK ht hW⟩) hS dX7_newName_42 hlocks
  · skip
    have hG := hG.trans (if_neg c_5191)
    have gc_5191 := ti_ne c_5191 rfl kc_0
    replace gc_5191 : (-1) * iM_failed.toInt + 1 ≤ 0 := om_e3003f79 gc_5191 b_iM_failed.1
    exact wq_v hx hb hr 0 trivial (fun t ht hW => ⟨iM_at, iM_end, iM_token, iM_whole, iM_nameSize, iM_fault, iM_place, iM_failed, iM_fresherSize, fM_letters, fM_fresher, ⟨b_iM_end.1, b_iM_end.2⟩, ⟨b_iM_nameSize.1, b_iM_nameSize.2⟩, ⟨b_iM_failed.1, b_iM_failed.2⟩, om_1cb5f934, r_T, om_1cb5f934, (fun h9 => False.elim (om_a5fe015d gc_5191 h9.1)), hG, Bw.to hP hD hK ht hW⟩) hS dX7_newName_7 hlocks
set_option maxHeartbeats 4000000 in
set_option maxRecDepth 100000 in
theorem tX7_lay (l : Launch) (dC : Nat → ClassId) (dI : Nat → Nat → Nat) (sz : Nat) (oM : Nat) (iM_thrown : Int32) (rM_tape : Nat) (iM_taped : Int32) (iM_size : Int32) (iM_at : Int32) (iM_end : Int32) (iM_token : Int32) (iM_whole : Int32) (iM_nameSize : Int32) (iM_fault : Int32) (iM_place : Int32) (iM_trouble : Int32) (rM_letters : Nat) (iM_failed : Int32) (iM_hasCourt : Int32) (rM_r : Nat) (rM_fresh : Nat) (fM_fresh : Nat → Int32) (kM_fresh : ClassId) (rM_told : Nat) (rM_read : Nat) (rM_st : Nat) (rM_undone : Nat) (rM_kept : Nat) (iM_undos : Int32) (iM_images : Int32) (rM_fresher : Nat) (fM_fresher : Nat → Int32) (kM_fresher : ClassId) (iM_fresherSize : Int32) (iM_scale : Int32) (iM_night : Int32) (rM_heardRow : Nat) (rM_cutRow : Nat) (iM_breaths : Int32) (iM_cutMany : Int32) (iM_allBreaths : Int32) (rM_trial : Nat) (rM_words : Nat) (iM_fewestBreaths : Int32) (iM_orderMany : Int32) (iM_orderSum : Int32) (iM_leastOrder : Int32) (rM_often : Nat) (iM_setMany : Int32) (iM_someOf : Int32) (iM_allOf : Int32) (iM_allWeight : Int64) (iM_enoughWeight : Int64) (iM_worthSum : Int64) (iM_firstRest : Int32) (iM_leastDrawn : Int32) (p0 : Int32) (b_iM_taped : 0 ≤ iM_taped.toInt ∧ iM_taped.toInt ≤ 900) (b_iM_size : 0 ≤ iM_size.toInt ∧ iM_size.toInt ≤ 900) (b_iM_end : 0 ≤ iM_end.toInt ∧ iM_end.toInt ≤ 900) (b_iM_nameSize : 0 ≤ iM_nameSize.toInt ∧ iM_nameSize.toInt ≤ 900) (b_iM_failed : 0 ≤ iM_failed.toInt ∧ iM_failed.toInt ≤ 1) (b_iM_hasCourt : 0 ≤ iM_hasCourt.toInt ∧ iM_hasCourt.toInt ≤ 1) (b_iM_undos : 0 ≤ iM_undos.toInt ∧ iM_undos.toInt ≤ 16) (b_iM_images : 0 ≤ iM_images.toInt ∧ iM_images.toInt ≤ 3) (b_iM_scale : 1 ≤ iM_scale.toInt ∧ iM_scale.toInt ≤ 1296) (b_iM_breaths : 0 ≤ iM_breaths.toInt ∧ iM_breaths.toInt ≤ 399) (b_iM_cutMany : 0 ≤ iM_cutMany.toInt ∧ iM_cutMany.toInt ≤ 399) (r_T : ImpP (iM_token.toInt = 2) (iM_nameSize.toInt ≤ 8)) (hnf : iM_failed.toInt ≤ 0) (hf1 : 0 ≤ (fM_fresh 1).toInt ∧ (fM_fresh 1).toInt ≤ 17) : Met l yX7_lay (Cond.code yX7_lay cX7_lay 3 none :: wG) ({ frames := 1, cells := 0, slots := 0, locals := 25 }) (va_Pc [.ref oM, .int p0] (Pw dC dI sz [(oc7 oM iM_thrown rM_tape iM_taped iM_size iM_at iM_end iM_token iM_whole iM_nameSize iM_fault iM_place iM_trouble rM_letters iM_failed iM_hasCourt rM_r rM_fresh rM_told rM_read rM_st rM_undone rM_kept iM_undos iM_images rM_fresher iM_fresherSize iM_scale iM_night rM_heardRow rM_cutRow iM_breaths iM_cutMany iM_allBreaths rM_trial rM_words iM_fewestBreaths iM_orderMany iM_orderSum iM_leastOrder rM_often iM_setMany iM_someOf iM_allOf iM_allWeight iM_enoughWeight iM_worthSum iM_firstRest iM_leastDrawn), (arI rM_fresh kM_fresh 287 fM_fresh), (arI rM_fresher kM_fresher 8 fM_fresher)] [(kM_fresh, .int), (kM_fresher, .int)])) (va_Qv (fun (_ : Nat) => True) (fun (_ : Nat) (t : State) => ∃ (nfM_fresh : Nat → Int32), (LayI fM_fresh p0 nfM_fresh) ∧ (PX7_lay iM_failed fM_fresh fM_fresher iM_fresherSize p0 = nfM_fresh) ∧ Bw dC dI (va_A [(oc7 oM iM_thrown rM_tape iM_taped iM_size iM_at iM_end iM_token iM_whole iM_nameSize iM_fault iM_place iM_trouble rM_letters iM_failed iM_hasCourt rM_r rM_fresh rM_told rM_read rM_st rM_undone rM_kept iM_undos iM_images rM_fresher iM_fresherSize iM_scale iM_night rM_heardRow rM_cutRow iM_breaths iM_cutMany iM_allBreaths rM_trial rM_words iM_fewestBreaths iM_orderMany iM_orderSum iM_leastOrder rM_often iM_setMany iM_someOf iM_allOf iM_allWeight iM_enoughWeight iM_worthSum iM_firstRest iM_leastDrawn), (arI rM_fresh kM_fresh 287 fM_fresh), (arI rM_fresher kM_fresher 8 fM_fresher)] sz) [(oc7 oM iM_thrown rM_tape iM_taped iM_size iM_at iM_end iM_token iM_whole iM_nameSize iM_fault iM_place iM_trouble rM_letters iM_failed iM_hasCourt rM_r rM_fresh rM_told rM_read rM_st rM_undone rM_kept iM_undos iM_images rM_fresher iM_fresherSize iM_scale iM_night rM_heardRow rM_cutRow iM_breaths iM_cutMany iM_allBreaths rM_trial rM_words iM_fewestBreaths iM_orderMany iM_orderSum iM_leastOrder rM_often iM_setMany iM_someOf iM_allOf iM_allWeight iM_enoughWeight iM_worthSum iM_firstRest iM_leastDrawn), (arI rM_fresh kM_fresh 287 nfM_fresh), (arI rM_fresher kM_fresher 8 fM_fresher)] [(kM_fresh, .int), (kM_fresher, .int)] t) (va_A [(oc7 oM iM_thrown rM_tape iM_taped iM_size iM_at iM_end iM_token iM_whole iM_nameSize iM_fault iM_place iM_trouble rM_letters iM_failed iM_hasCourt rM_r rM_fresh rM_told rM_read rM_st rM_undone rM_kept iM_undos iM_images rM_fresher iM_fresherSize iM_scale iM_night rM_heardRow rM_cutRow iM_breaths iM_cutMany iM_allBreaths rM_trial rM_words iM_fewestBreaths iM_orderMany iM_orderSum iM_leastOrder rM_often iM_setMany iM_someOf iM_allOf iM_allWeight iM_enoughWeight iM_worthSum iM_firstRest iM_leastDrawn), (arI rM_fresh kM_fresh 287 fM_fresh), (arI rM_fresher kM_fresher 8 fM_fresher)] sz)) 0 0 (va_A [(oc7 oM iM_thrown rM_tape iM_taped iM_size iM_at iM_end iM_token iM_whole iM_nameSize iM_fault iM_place iM_trouble rM_letters iM_failed iM_hasCourt rM_r rM_fresh rM_told rM_read rM_st rM_undone rM_kept iM_undos iM_images rM_fresher iM_fresherSize iM_scale iM_night rM_heardRow rM_cutRow iM_breaths iM_cutMany iM_allBreaths rM_trial rM_words iM_fewestBreaths iM_orderMany iM_orderSum iM_leastOrder rM_often iM_setMany iM_someOf iM_allOf iM_allWeight iM_enoughWeight iM_worthSum iM_firstRest iM_leastDrawn), (arI rM_fresh kM_fresh 287 fM_fresh), (arI rM_fresher kM_fresher 8 fM_fresher)] sz) := by
  refine Met.ofW (cc := cX7_lay) (maxL := 3) (ret := none) pnX7 rfl ?_
  intro p e s m args below meth c s₁ B hml hv
  obtain ⟨rfl, hsz, hP, hK, hD0, hE⟩ := hv
  have hx := B.exec
  have hb := B.bytes
  have hr := B.returns
  have hts : ∀ w ∈ wG, w.before ([.ref oM, .int p0] : List Value).toArray s = true := fun w h => atoms_spec (ws := Cond.code yX7_lay cX7_lay 3 none :: wG) B.pre w (List.mem_cons_of_mem _ h)
  have hown : s.vm.findClass RX7 = some m.cls := own_of B.named rfl
  have hlocks := B.notSynchronized
  subst hsz
  have hD := hD0.self (sz := s.heap.size)
  generalize hAe : va_A [(oc7 oM iM_thrown rM_tape iM_taped iM_size iM_at iM_end iM_token iM_whole iM_nameSize iM_fault iM_place iM_trouble rM_letters iM_failed iM_hasCourt rM_r rM_fresh rM_told rM_read rM_st rM_undone rM_kept iM_undos iM_images rM_fresher iM_fresherSize iM_scale iM_night rM_heardRow rM_cutRow iM_breaths iM_cutMany iM_allBreaths rM_trial rM_words iM_fewestBreaths iM_orderMany iM_orderSum iM_leastOrder rM_often iM_setMany iM_someOf iM_allOf iM_allWeight iM_enoughWeight iM_worthSum iM_firstRest iM_leastDrawn), (arI rM_fresh kM_fresh 287 fM_fresh), (arI rM_fresher kM_fresher 8 fM_fresher)] s.heap.size = A at hD hE ⊢
  have hA : ∀ q : Nat, s.heap.size ≤ q → A q := fun q h => by rw [← hAe]; exact Or.inr h
  have hS : va_S A s.heap s.heap [] := va_S.rf
  have hl := lv_entry ([.ref oM, .int p0]) (n := 3) (Nat.le_of_ble_eq_true rfl)
  rw [lg_entry_eq]
  generalize (lg_sl ([.ref oM, .int p0]) ++ List.replicate (3 - (lg_sl ([.ref oM, .int p0])).length) Slot.unset).toArray = ls at hl ⊢
  have hl : lv_has ls 3 [(0, .ref oM), (1, .int p0)] := hl
  have hG := PX7_lay_eq iM_failed fM_fresh fM_fresher iM_fresherSize p0
  refine lv_aload_n hx hb dX7_lay_0 rfl (lv_at hl 0 rfl) ?_
  refine va_get (D := (dC, dI)) (ci := 7) (v := .int iM_failed) (C := RX7) (T := TX7) (N := 48) hx hb hts inX7 hown hK hP 0 rfl rfl 13 (by decide) (hts _ wd_380) (fun _ h9 => h9) rfl dX7_lay_1 ?_
  refine lv_if_eq (tgt := 8) hx hb dX7_lay_4 (by decide) (fun c_5225 => ?_) (fun c_5225 => ?_)
  · skip
    have hG := hG.trans (if_pos c_5225)
    have gc_5225 := ti_eq c_5225 rfl kc_0
    refine lv_aload_n hx hb dX7_lay_8 rfl (lv_at hl 0 rfl) ?_
    refine va_get (D := (dC, dI)) (ci := 7) (v := .ref rM_fresh) (C := RX7) (T := TX7) (N := 48) hx hb hts inX7 hown hK hP 0 rfl rfl 16 (by decide) (hts _ wd_156) (fun _ h9 => h9) rfl dX7_lay_9 ?_
    refine lv_iconst (v := 1) hx hb dX7_lay_12 (by decide) ?_
    refine va_iald hx hb hK hP 1 0 rfl rfl (by unfold vp_in; decide) dX7_lay_13 ?_
    refine lv_topi (fun x_5226 ex_5226 => ?_)
    have hG := hG.trans (lt_eq ex_5226)
    have cx_5226 : (fM_fresh 1).toInt = x_5226.toInt := congrArg Int32.toInt (show fM_fresh 1 = x_5226 from ex_5226.symm)
    refine lv_istore_n (lv' := [(2, .int x_5226), (0, .ref oM), (1, .int p0)]) hx hb dX7_lay_14 rfl hl (by decide) rfl (fun ls hl => ?_)
    refine lv_aload_n hx hb dX7_lay_15 rfl (lv_at hl 1 rfl) ?_
    refine va_get (D := (dC, dI)) (ci := 7) (v := .ref rM_fresher) (C := RX7) (T := TX7) (N := 48) hx hb hts inX7 hown hK hP 0 rfl rfl 24 (by decide) (hts _ wd_162) (fun _ h9 => h9) rfl dX7_lay_16 ?_
    refine lv_iconst (v := 0) hx hb dX7_lay_19 (by decide) ?_
    refine lv_aload_n hx hb dX7_lay_20 rfl (lv_at hl 1 rfl) ?_
    refine va_get (D := (dC, dI)) (ci := 7) (v := .ref rM_fresh) (C := RX7) (T := TX7) (N := 48) hx hb hts inX7 hown hK hP 0 rfl rfl 16 (by decide) (hts _ wd_156) (fun _ h9 => h9) rfl dX7_lay_21 ?_
    refine lv_sipush (v := 143) hx hb dX7_lay_24 (by decide) ?_
    refine lv_bipush (v := 8) hx hb dX7_lay_27 (by decide) ?_
    refine lv_iload_n hx hb dX7_lay_29 rfl (lv_at hl 0 rfl) ?_
    refine lv_imul hx hb dX7_lay_30 ?_
    refine lv_topi (fun x_5227 ex_5227 => ?_)
    have hG := hG.trans (lt_eq ex_5227)
    have vx_5227 : x_5227.toInt = 8 * x_5226.toInt := ti_mul ex_5227 kc_8 rfl (om_e434855a hf1.1 cx_5226) (om_c304561b hf1.2 cx_5226)
    refine lv_iadd hx hb dX7_lay_31 ?_
    refine lv_topi (fun x_5228 ex_5228 => ?_)
    have hG := hG.trans (lt_eq ex_5228)
    have vx_5228 : x_5228.toInt = 8 * x_5226.toInt + 143 := om_91565d1d (ti_add ex_5228 kc_143 vx_5227 (om_4edf14e7 hf1.1 cx_5226) (om_cb0b194f hf1.2 cx_5226))
    refine lv_bipush (v := 8) hx hb dX7_lay_32 (by decide) ?_
    have hFc := va_free (wc := [(arI rM_fresher kM_fresher 8 fM_fresher), (arI rM_fresh kM_fresh 287 fM_fresh)]) hD hS hA [2, 1] rfl
    refine va_callv (va_runS (As := [.ref rM_fresher, .int 0, .ref rM_fresh, .int x_5228, .int 8]) (rest := []) ⟨hx, hb, hml, hown, hts⟩ (tX7_copy_8_287 l dC dI _ rM_fresher fM_fresher kM_fresher rM_fresh fM_fresh kM_fresh 0 x_5228 8 ⟨(om_b1de7dbe kc_0), (om_18991521 hf1.1 cx_5226 vx_5228), (om_fee42a6d kc_8)⟩ (om_0844da4c kc_0 kc_8) (om_9bbffcd5 hf1.2 cx_5226 vx_5228 kc_8)) (va_cwS 5 hts (wd_S wd_475 wd_476 wd_5 (wd_c wd_477)) rfl rfl rfl ds_yX7_copy_5 ⟨Nat.le_of_ble_eq_true rfl, Nat.le_of_ble_eq_true rfl⟩) ⟨Pw.fb, fun U hU hW => Pw.to (hP.sub [2, 1] rfl) (hD.sub [2, 1] (by decide) rfl) (hK.sub [1, 0] rfl) hE hS hFc hU hW⟩ rfl rfl hl.1 rfl (lv_room (Nat.le_of_ble_eq_true rfl)) dX7_lay_34 ⟨Nat.le_of_ble_eq_true rfl, Nat.le_of_ble_eq_true rfl⟩) hS (fun q _ h => hFc q h) hFc (fun u t H locs ht hvm hw hB hz1 hk1 hS => ?_)
    refine ex_1_1 hB (fun f_5229 e_f_5229_0 hB => ?_)
    obtain ⟨hP, hD, hK⟩ := Bw.go (ws' := [(oc7 oM iM_thrown rM_tape iM_taped iM_size iM_at iM_end iM_token iM_whole iM_nameSize iM_fault iM_place iM_trouble rM_letters iM_failed iM_hasCourt rM_r rM_fresh rM_told rM_read rM_st rM_undone rM_kept iM_undos iM_images rM_fresher iM_fresherSize iM_scale iM_night rM_heardRow rM_cutRow iM_breaths iM_cutMany iM_allBreaths rM_trial rM_words iM_fewestBreaths iM_orderMany iM_orderSum iM_leastOrder rM_often iM_setMany iM_someOf iM_allOf iM_allWeight iM_enoughWeight iM_worthSum iM_firstRest iM_leastDrawn), (arI rM_fresher kM_fresher 8 fM_fresher), (arI rM_fresh kM_fresh 287 f_5229)]) (tys' := [(kM_fresher, .int), (kM_fresh, .int)]) hB rfl ht hvm hP hD hK [2, 1] [0] rfl (by decide) (by decide) [] hk1 hFc rfl rfl rfl
    clear hz1 hk1 hvm ht hB
    have o1_f_5229 : (f_5229 1).toInt = (fM_fresh 1).toInt := by rw [e_f_5229_0 1, if_neg (by have q := ti_cl (x := x_5228) vx_5228 (om_494effe0 hf1.1 cx_5226); omega)]
    have hG := hG.trans (lt_eq (CopyOk.fn e_f_5229_0).symm)
    refine lv_aload_n hx hb dX7_lay_37 rfl (lv_at hl 1 rfl) ?_
    refine va_get (D := (dC, dI)) (ci := 7) (v := .ref rM_fresh) (C := RX7) (T := TX7) (N := 48) hx hb hts inX7 hown hK hP 0 rfl rfl 16 (by decide) (hts _ wd_156) (fun _ h9 => h9) rfl dX7_lay_38 ?_
    refine lv_bipush (v := 125) hx hb dX7_lay_41 (by decide) ?_
    refine lv_iload_n hx hb dX7_lay_43 rfl (lv_at hl 0 rfl) ?_
    refine lv_iadd hx hb dX7_lay_44 ?_
    refine lv_topi (fun x_5230 ex_5230 => ?_)
    have hG := hG.trans (lt_eq ex_5230)
    have vx_5230 : x_5230.toInt = x_5226.toInt + 125 := om_82a8c57f (ti_add ex_5230 kc_125 rfl (om_d44262f2 hf1.1 cx_5226) (om_65af5c9c hf1.2 cx_5226))
    refine lv_aload_n hx hb dX7_lay_45 rfl (lv_at hl 1 rfl) ?_
    refine va_get (D := (dC, dI)) (ci := 7) (v := .int iM_fresherSize) (C := RX7) (T := TX7) (N := 48) hx hb hts inX7 hown hK hP 0 rfl rfl 25 (by decide) (hts _ wd_466) (fun _ h9 => h9) rfl dX7_lay_46 ?_
    refine va_iast hx hb hK hP hD hS 2 1 rfl rfl (ti_in vx_5230 (om_86a7574c hf1.1 cx_5226) (om_4cab8d2e hf1.2 cx_5226)) dX7_lay_49 (fun H locs hP hD hS => ?_)
    obtain ⟨f_5231, ef_5231⟩ : ∃ g : Nat → Int32, g = upd f_5229 x_5230.toNatClampNeg iM_fresherSize := ⟨_, rfl⟩
    rw [← ef_5231] at hP hD
    have hG := hG.trans (lt_eq ef_5231)
    obtain ⟨hP, hD⟩ := wl2 (ws' := [(oc7 oM iM_thrown rM_tape iM_taped iM_size iM_at iM_end iM_token iM_whole iM_nameSize iM_fault iM_place iM_trouble rM_letters iM_failed iM_hasCourt rM_r rM_fresh rM_told rM_read rM_st rM_undone rM_kept iM_undos iM_images rM_fresher iM_fresherSize iM_scale iM_night rM_heardRow rM_cutRow iM_breaths iM_cutMany iM_allBreaths rM_trial rM_words iM_fewestBreaths iM_orderMany iM_orderSum iM_leastOrder rM_often iM_setMany iM_someOf iM_allOf iM_allWeight iM_enoughWeight iM_worthSum iM_firstRest iM_leastDrawn), (arI rM_fresher kM_fresher 8 fM_fresher), (arI rM_fresh kM_fresh 287 f_5231)]) hP hD rfl
    have o1_f_5231 : (f_5231 1).toInt = (f_5229 1).toInt := put_at ef_5231 (by have q := ti_cl (x := x_5230) vx_5230 (om_86a7574c hf1.1 cx_5226); omega)
    refine lv_aload_n hx hb dX7_lay_50 rfl (lv_at hl 1 rfl) ?_
    refine va_get (D := (dC, dI)) (ci := 7) (v := .ref rM_fresh) (C := RX7) (T := TX7) (N := 48) hx hb hts inX7 hown hK hP 0 rfl rfl 16 (by decide) (hts _ wd_156) (fun _ h9 => h9) rfl dX7_lay_51 ?_
    refine lv_bipush (v := 9) hx hb dX7_lay_54 (by decide) ?_
    refine lv_iload_n hx hb dX7_lay_56 rfl (lv_at hl 0 rfl) ?_
    refine lv_iadd hx hb dX7_lay_57 ?_
    refine lv_topi (fun x_5232 ex_5232 => ?_)
    have hG := hG.trans (lt_eq ex_5232)
    have vx_5232 : x_5232.toInt = x_5226.toInt + 9 := om_296ce4dd (ti_add ex_5232 kc_9 rfl (om_b88df98f hf1.1 cx_5226) (om_3d753531 hf1.2 cx_5226))
    refine lv_iload_n hx hb dX7_lay_58 rfl (lv_at hl 2 rfl) ?_
    refine va_iast hx hb hK hP hD hS 2 1 rfl rfl (ti_in vx_5232 (om_a6f68295 hf1.1 cx_5226) (om_dffc3195 hf1.2 cx_5226)) dX7_lay_59 (fun H locs hP hD hS => ?_)
    obtain ⟨f_5233, ef_5233⟩ : ∃ g : Nat → Int32, g = upd f_5231 x_5232.toNatClampNeg p0 := ⟨_, rfl⟩
    rw [← ef_5233] at hP hD
    have hG := hG.trans (lt_eq ef_5233)
    obtain ⟨hP, hD⟩ := wl2 (ws' := [(oc7 oM iM_thrown rM_tape iM_taped iM_size iM_at iM_end iM_token iM_whole iM_nameSize iM_fault iM_place iM_trouble rM_letters iM_failed iM_hasCourt rM_r rM_fresh rM_told rM_read rM_st rM_undone rM_kept iM_undos iM_images rM_fresher iM_fresherSize iM_scale iM_night rM_heardRow rM_cutRow iM_breaths iM_cutMany iM_allBreaths rM_trial rM_words iM_fewestBreaths iM_orderMany iM_orderSum iM_leastOrder rM_often iM_setMany iM_someOf iM_allOf iM_allWeight iM_enoughWeight iM_worthSum iM_firstRest iM_leastDrawn), (arI rM_fresher kM_fresher 8 fM_fresher), (arI rM_fresh kM_fresh 287 f_5233)]) hP hD rfl
    have o1_f_5233 : (f_5233 1).toInt = (f_5231 1).toInt := put_at ef_5233 (by have q := ti_cl (x := x_5232) vx_5232 (om_a6f68295 hf1.1 cx_5226); omega)
    refine lv_aload_n hx hb dX7_lay_60 rfl (lv_at hl 1 rfl) ?_
    refine va_get (D := (dC, dI)) (ci := 7) (v := .ref rM_fresh) (C := RX7) (T := TX7) (N := 48) hx hb hts inX7 hown hK hP 0 rfl rfl 16 (by decide) (hts _ wd_156) (fun _ h9 => h9) rfl dX7_lay_61 ?_
    refine lv_iconst (v := 1) hx hb dX7_lay_64 (by decide) ?_
    refine lv_dup2_11 hx hb dX7_lay_65 rfl rfl ?_
    refine va_iald hx hb hK hP 2 1 rfl rfl (by unfold vp_in; decide) dX7_lay_66 ?_
    refine lv_topi (fun x_5234 ex_5234 => ?_)
    have hG := hG.trans (lt_eq ex_5234)
    have cx_5234 : (f_5233 1).toInt = x_5234.toInt := congrArg Int32.toInt (show f_5233 1 = x_5234 from ex_5234.symm)
    refine lv_iconst (v := 1) hx hb dX7_lay_67 (by decide) ?_
    refine lv_iadd hx hb dX7_lay_68 ?_
    refine lv_topi (fun x_5235 ex_5235 => ?_)
    have hG := hG.trans (lt_eq ex_5235)
    have vx_5235 : x_5235.toInt = x_5234.toInt + 1 := ti_add ex_5235 rfl kc_1 (om_d0c17b76 hf1.1 o1_f_5229 o1_f_5231 o1_f_5233 cx_5234) (om_fbbe21e8 hf1.2 o1_f_5229 o1_f_5231 o1_f_5233 cx_5234)
    refine va_iast hx hb hK hP hD hS 2 1 rfl rfl (by unfold vp_in; decide) dX7_lay_69 (fun H locs hP hD hS => ?_)
    obtain ⟨f_5236, ef_5236⟩ : ∃ g : Nat → Int32, g = upd f_5233 (1 : Int32).toNatClampNeg x_5235 := ⟨_, rfl⟩
    rw [← ef_5236] at hP hD
    have hG := hG.trans (lt_eq ef_5236)
    obtain ⟨hP, hD⟩ := wl2 (ws' := [(oc7 oM iM_thrown rM_tape iM_taped iM_size iM_at iM_end iM_token iM_whole iM_nameSize iM_fault iM_place iM_trouble rM_letters iM_failed iM_hasCourt rM_r rM_fresh rM_told rM_read rM_st rM_undone rM_kept iM_undos iM_images rM_fresher iM_fresherSize iM_scale iM_night rM_heardRow rM_cutRow iM_breaths iM_cutMany iM_allBreaths rM_trial rM_words iM_fewestBreaths iM_orderMany iM_orderSum iM_leastOrder rM_often iM_setMany iM_someOf iM_allOf iM_allWeight iM_enoughWeight iM_worthSum iM_firstRest iM_leastDrawn), (arI rM_fresher kM_fresher 8 fM_fresher), (arI rM_fresh kM_fresh 287 f_5236)]) hP hD rfl
    have ly9 : LayI fM_fresh p0 f_5236 := lay_of (n := (fM_fresh 1).toNatClampNeg) rfl (by have q1 := ti_cl (x := x_5228) vx_5228 (om_494effe0 hf1.1 cx_5226); have q2 := ti_cl (x := fM_fresh 1) rfl (by omega); omega) (by omega) e_f_5229_0 (by have q1 := ti_cl (x := x_5228) vx_5228 (om_494effe0 hf1.1 cx_5226); have q2 := ti_cl (x := fM_fresh 1) rfl (by omega); omega) ef_5231 (by have q1 := ti_cl (x := x_5228) vx_5228 (om_494effe0 hf1.1 cx_5226); have q2 := ti_cl (x := fM_fresh 1) rfl (by omega); have q3 := ti_cl (x := x_5230) vx_5230 (om_86a7574c hf1.1 cx_5226); omega) ef_5233 (by have q1 := ti_cl (x := x_5228) vx_5228 (om_494effe0 hf1.1 cx_5226); have q2 := ti_cl (x := fM_fresh 1) rfl (by omega); have q3 := ti_cl (x := x_5232) vx_5232 (om_a6f68295 hf1.1 cx_5226); omega) ef_5236 rfl (by have q4 := vx_5235; omega)
    exact wq_v hx hb hr 0 trivial (fun t ht hW => ⟨f_5236, (by first | assumption | omega | decide), hG, Bw.to (hP.sub [0, 2, 1] rfl) (hD.sub [0, 2, 1] (by decide) rfl) (hK.sub [1, 0] rfl) ht hW⟩) hS dX7_lay_70 hlocks
  · skip
    have hG := hG.trans (if_neg c_5225)
    have gc_5225 := ti_ne c_5225 rfl kc_0
    replace gc_5225 : iM_failed.toInt + 1 ≤ 0 := om_c7c1b1e9 gc_5225 hnf
    exact ((om_5185113d b_iM_failed.1 gc_5225)).elim
set_option maxHeartbeats 4000000 in
set_option maxRecDepth 100000 in
theorem tX7_nodeHere (l : Launch) (dC : Nat → ClassId) (dI : Nat → Nat → Nat) (sz : Nat) (oM : Nat) (iM_thrown : Int32) (rM_tape : Nat) (iM_taped : Int32) (iM_size : Int32) (iM_at : Int32) (iM_end : Int32) (iM_token : Int32) (iM_whole : Int32) (iM_nameSize : Int32) (iM_fault : Int32) (iM_place : Int32) (iM_trouble : Int32) (rM_letters : Nat) (fM_letters : Nat → Int32) (kM_letters : ClassId) (iM_failed : Int32) (iM_hasCourt : Int32) (rM_r : Nat) (rM_fresh : Nat) (fM_fresh : Nat → Int32) (kM_fresh : ClassId) (rM_told : Nat) (rM_read : Nat) (fM_read : Nat → Int32) (kM_read : ClassId) (rM_st : Nat) (rM_undone : Nat) (rM_kept : Nat) (iM_undos : Int32) (iM_images : Int32) (rM_fresher : Nat) (iM_fresherSize : Int32) (iM_scale : Int32) (iM_night : Int32) (rM_heardRow : Nat) (rM_cutRow : Nat) (iM_breaths : Int32) (iM_cutMany : Int32) (iM_allBreaths : Int32) (rM_trial : Nat) (rM_words : Nat) (iM_fewestBreaths : Int32) (iM_orderMany : Int32) (iM_orderSum : Int32) (iM_leastOrder : Int32) (rM_often : Nat) (iM_setMany : Int32) (iM_someOf : Int32) (iM_allOf : Int32) (iM_allWeight : Int64) (iM_enoughWeight : Int64) (iM_worthSum : Int64) (iM_firstRest : Int32) (iM_leastDrawn : Int32) (b_iM_taped : 0 ≤ iM_taped.toInt ∧ iM_taped.toInt ≤ 900) (b_iM_size : 0 ≤ iM_size.toInt ∧ iM_size.toInt ≤ 900) (b_iM_end : 0 ≤ iM_end.toInt ∧ iM_end.toInt ≤ 900) (b_iM_nameSize : 0 ≤ iM_nameSize.toInt ∧ iM_nameSize.toInt ≤ 900) (b_iM_failed : 0 ≤ iM_failed.toInt ∧ iM_failed.toInt ≤ 1) (b_iM_hasCourt : 0 ≤ iM_hasCourt.toInt ∧ iM_hasCourt.toInt ≤ 1) (b_iM_undos : 0 ≤ iM_undos.toInt ∧ iM_undos.toInt ≤ 16) (b_iM_images : 0 ≤ iM_images.toInt ∧ iM_images.toInt ≤ 3) (b_iM_scale : 1 ≤ iM_scale.toInt ∧ iM_scale.toInt ≤ 1296) (b_iM_breaths : 0 ≤ iM_breaths.toInt ∧ iM_breaths.toInt ≤ 399) (b_iM_cutMany : 0 ≤ iM_cutMany.toInt ∧ iM_cutMany.toInt ≤ 399) (r_T : ImpP (iM_token.toInt = 2) (iM_nameSize.toInt ≤ 8)) (r_P : POk fM_fresh fM_read)  : Met l yX7_nodeHere (Cond.code yX7_nodeHere cX7_nodeHere 2 (some .int) :: wG) ({ frames := 6, cells := 0, slots := 0, locals := 154 }) (va_Pc [.ref oM] (Pw dC dI sz [(oc7 oM iM_thrown rM_tape iM_taped iM_size iM_at iM_end iM_token iM_whole iM_nameSize iM_fault iM_place iM_trouble rM_letters iM_failed iM_hasCourt rM_r rM_fresh rM_told rM_read rM_st rM_undone rM_kept iM_undos iM_images rM_fresher iM_fresherSize iM_scale iM_night rM_heardRow rM_cutRow iM_breaths iM_cutMany iM_allBreaths rM_trial rM_words iM_fewestBreaths iM_orderMany iM_orderSum iM_leastOrder rM_often iM_setMany iM_someOf iM_allOf iM_allWeight iM_enoughWeight iM_worthSum iM_firstRest iM_leastDrawn), (arI rM_letters kM_letters 8 fM_letters), (arI rM_fresh kM_fresh 287 fM_fresh), (arI rM_read kM_read 90 fM_read)] [(kM_letters, .int), (kM_fresh, .int), (kM_read, .int)])) (va_Qi (fun (r : Int32) (u : Nat) => (True ∧ (0 ≤ r.toInt ∧ ImpP (1 ≤ (fM_fresh 1).toInt) (r.toInt < (fM_fresh 1).toInt) ∧ r.toInt ≤ 17)) ∧ r = Int32.ofNat u) (fun (u : Nat) (t : State) => ∃ (niM_fault : Int32) (niM_place : Int32) (niM_failed : Int32), (0 ≤ niM_failed.toInt ∧ niM_failed.toInt ≤ 1) ∧ (iM_failed.toInt ≤ niM_failed.toInt) ∧ (ImpP (niM_failed.toInt ≤ 0) (1 ≤ (fM_fresh 1).toInt)) ∧ (PX7_nodeHere iM_at iM_token iM_nameSize iM_fault iM_place fM_letters iM_failed fM_fresh = (Int32.ofNat u, niM_fault, niM_place, niM_failed)) ∧ Bw dC dI (va_A [(oc7 oM iM_thrown rM_tape iM_taped iM_size iM_at iM_end iM_token iM_whole iM_nameSize iM_fault iM_place iM_trouble rM_letters iM_failed iM_hasCourt rM_r rM_fresh rM_told rM_read rM_st rM_undone rM_kept iM_undos iM_images rM_fresher iM_fresherSize iM_scale iM_night rM_heardRow rM_cutRow iM_breaths iM_cutMany iM_allBreaths rM_trial rM_words iM_fewestBreaths iM_orderMany iM_orderSum iM_leastOrder rM_often iM_setMany iM_someOf iM_allOf iM_allWeight iM_enoughWeight iM_worthSum iM_firstRest iM_leastDrawn), (arI rM_letters kM_letters 8 fM_letters), (arI rM_fresh kM_fresh 287 fM_fresh), (arI rM_read kM_read 90 fM_read)] sz) [(oc7 oM iM_thrown rM_tape iM_taped iM_size iM_at iM_end iM_token iM_whole iM_nameSize niM_fault niM_place iM_trouble rM_letters niM_failed iM_hasCourt rM_r rM_fresh rM_told rM_read rM_st rM_undone rM_kept iM_undos iM_images rM_fresher iM_fresherSize iM_scale iM_night rM_heardRow rM_cutRow iM_breaths iM_cutMany iM_allBreaths rM_trial rM_words iM_fewestBreaths iM_orderMany iM_orderSum iM_leastOrder rM_often iM_setMany iM_someOf iM_allOf iM_allWeight iM_enoughWeight iM_worthSum iM_firstRest iM_leastDrawn), (arI rM_letters kM_letters 8 fM_letters), (arI rM_fresh kM_fresh 287 fM_fresh), (arI rM_read kM_read 90 fM_read)] [(kM_letters, .int), (kM_fresh, .int), (kM_read, .int)] t) (va_A [(oc7 oM iM_thrown rM_tape iM_taped iM_size iM_at iM_end iM_token iM_whole iM_nameSize iM_fault iM_place iM_trouble rM_letters iM_failed iM_hasCourt rM_r rM_fresh rM_told rM_read rM_st rM_undone rM_kept iM_undos iM_images rM_fresher iM_fresherSize iM_scale iM_night rM_heardRow rM_cutRow iM_breaths iM_cutMany iM_allBreaths rM_trial rM_words iM_fewestBreaths iM_orderMany iM_orderSum iM_leastOrder rM_often iM_setMany iM_someOf iM_allOf iM_allWeight iM_enoughWeight iM_worthSum iM_firstRest iM_leastDrawn), (arI rM_letters kM_letters 8 fM_letters), (arI rM_fresh kM_fresh 287 fM_fresh), (arI rM_read kM_read 90 fM_read)] sz)) 0 0 (va_A [(oc7 oM iM_thrown rM_tape iM_taped iM_size iM_at iM_end iM_token iM_whole iM_nameSize iM_fault iM_place iM_trouble rM_letters iM_failed iM_hasCourt rM_r rM_fresh rM_told rM_read rM_st rM_undone rM_kept iM_undos iM_images rM_fresher iM_fresherSize iM_scale iM_night rM_heardRow rM_cutRow iM_breaths iM_cutMany iM_allBreaths rM_trial rM_words iM_fewestBreaths iM_orderMany iM_orderSum iM_leastOrder rM_often iM_setMany iM_someOf iM_allOf iM_allWeight iM_enoughWeight iM_worthSum iM_firstRest iM_leastDrawn), (arI rM_letters kM_letters 8 fM_letters), (arI rM_fresh kM_fresh 287 fM_fresh), (arI rM_read kM_read 90 fM_read)] sz) := by
  refine Met.ofW (cc := cX7_nodeHere) (maxL := 2) (ret := (some .int)) pnX7 rfl ?_
  intro p e s m args below meth c s₁ B hml hv
  obtain ⟨rfl, hsz, hP, hK, hD0, hE⟩ := hv
  have hx := B.exec
  have hb := B.bytes
  have hr := B.returns
  have hts : ∀ w ∈ wG, w.before ([.ref oM] : List Value).toArray s = true := fun w h => atoms_spec (ws := Cond.code yX7_nodeHere cX7_nodeHere 2 (some .int) :: wG) B.pre w (List.mem_cons_of_mem _ h)
  have hown : s.vm.findClass RX7 = some m.cls := own_of B.named rfl
  have hlocks := B.notSynchronized
  subst hsz
  have hD := hD0.self (sz := s.heap.size)
  generalize hAe : va_A [(oc7 oM iM_thrown rM_tape iM_taped iM_size iM_at iM_end iM_token iM_whole iM_nameSize iM_fault iM_place iM_trouble rM_letters iM_failed iM_hasCourt rM_r rM_fresh rM_told rM_read rM_st rM_undone rM_kept iM_undos iM_images rM_fresher iM_fresherSize iM_scale iM_night rM_heardRow rM_cutRow iM_breaths iM_cutMany iM_allBreaths rM_trial rM_words iM_fewestBreaths iM_orderMany iM_orderSum iM_leastOrder rM_often iM_setMany iM_someOf iM_allOf iM_allWeight iM_enoughWeight iM_worthSum iM_firstRest iM_leastDrawn), (arI rM_letters kM_letters 8 fM_letters), (arI rM_fresh kM_fresh 287 fM_fresh), (arI rM_read kM_read 90 fM_read)] s.heap.size = A at hD hE ⊢
  have hA : ∀ q : Nat, s.heap.size ≤ q → A q := fun q h => by rw [← hAe]; exact Or.inr h
  have hS : va_S A s.heap s.heap [] := va_S.rf
  have hl := lv_entry ([.ref oM]) (n := 2) (Nat.le_of_ble_eq_true rfl)
  rw [lg_entry_eq]
  generalize (lg_sl ([.ref oM]) ++ List.replicate (2 - (lg_sl ([.ref oM])).length) Slot.unset).toArray = ls at hl ⊢
  have hl : lv_has ls 2 [(0, .ref oM)] := hl
  have hG := PX7_nodeHere_eq iM_at iM_token iM_nameSize iM_fault iM_place fM_letters iM_failed fM_fresh
  have pl_fM_fresh := r_P.lins
  refine lv_aload_n hx hb dX7_nodeHere_0 rfl (lv_at hl 0 rfl) ?_
  refine va_get (D := (dC, dI)) (ci := 7) (v := .int iM_failed) (C := RX7) (T := TX7) (N := 48) hx hb hts inX7 hown hK hP 0 rfl rfl 13 (by decide) (hts _ wd_380) (fun _ h9 => h9) rfl dX7_nodeHere_1 ?_
  refine lv_if_eq (tgt := 9) hx hb dX7_nodeHere_4 (by decide) (fun c_5251 => ?_) (fun c_5251 => ?_)
  · skip
    have hG := hG.trans (if_pos c_5251)
    have gc_5251 := ti_eq c_5251 rfl kc_0
    refine lv_aload_n hx hb dX7_nodeHere_9 rfl (lv_at hl 0 rfl) ?_
    have hMs := ml_of hD [true, true, false, false] (wc := [(oc7 oM iM_thrown rM_tape iM_taped iM_size iM_at iM_end iM_token iM_whole iM_nameSize iM_fault iM_place iM_trouble rM_letters iM_failed iM_hasCourt rM_r rM_fresh rM_told rM_read rM_st rM_undone rM_kept iM_undos iM_images rM_fresher iM_fresherSize iM_scale iM_night rM_heardRow rM_cutRow iM_breaths iM_cutMany iM_allBreaths rM_trial rM_words iM_fewestBreaths iM_orderMany iM_orderSum iM_leastOrder rM_often iM_setMany iM_someOf iM_allOf iM_allWeight iM_enoughWeight iM_worthSum iM_firstRest iM_leastDrawn), (arI rM_letters kM_letters 8 fM_letters)]) rfl
    have hFc := va_freeM hD hS hA _ hMs
    refine va_callv (va_runV (As := []) (rest := []) ⟨hx, hb, hml, hown, hts⟩ (tX7_mustName l dC dI _ oM iM_thrown rM_tape iM_taped iM_size iM_at iM_end iM_token iM_whole iM_nameSize iM_fault iM_place iM_trouble rM_letters fM_letters kM_letters iM_failed iM_hasCourt rM_r rM_fresh rM_told rM_read rM_st rM_undone rM_kept iM_undos iM_images rM_fresher iM_fresherSize iM_scale iM_night rM_heardRow rM_cutRow iM_breaths iM_cutMany iM_allBreaths rM_trial rM_words iM_fewestBreaths iM_orderMany iM_orderSum iM_leastOrder rM_often iM_setMany iM_someOf iM_allOf iM_allWeight iM_enoughWeight iM_worthSum iM_firstRest iM_leastDrawn b_iM_taped b_iM_size b_iM_end b_iM_nameSize b_iM_failed b_iM_hasCourt b_iM_undos b_iM_images b_iM_scale b_iM_breaths b_iM_cutMany r_T) (cwV 0 hts (wd_V wd_467 wd_468 wd_469 wd_5 (wd_c wd_470)) rfl rfl rfl dv_yX7_mustName_0 ⟨Nat.le_of_ble_eq_true rfl, Nat.le_of_ble_eq_true rfl⟩) ⟨Pw.fb, recvX7 hK hP (q0 := 0) rfl, fun U hU hW => Pw.to (hP.ms _ hMs) (hD.ms _ hMs) (hK.ms [true, false, false] rfl) hE hS hFc hU hW⟩ rfl rfl hl.1 rfl (lv_room (Nat.le_of_ble_eq_true rfl)) dX7_nodeHere_10 ⟨Nat.le_of_ble_eq_true rfl, Nat.le_of_ble_eq_true rfl⟩) hS (fun q _ h => hFc q h) hFc (fun u t H locs ht hvm hw hB hz1 hk1 hS => ?_)
    refine ex_3_4 hB (fun x_5252 x_5253 x_5254 b_x_5254 e_x_5252_0 e_x_5252_1 e_x_5252_2 hB => ?_)
    obtain ⟨hP, hD⟩ := Bw.goN (ws' := [(oc7 oM iM_thrown rM_tape iM_taped iM_size iM_at iM_end iM_token iM_whole iM_nameSize x_5252 x_5253 iM_trouble rM_letters x_5254 iM_hasCourt rM_r rM_fresh rM_told rM_read rM_st rM_undone rM_kept iM_undos iM_images rM_fresher iM_fresherSize iM_scale iM_night rM_heardRow rM_cutRow iM_breaths iM_cutMany iM_allBreaths rM_trial rM_words iM_fewestBreaths iM_orderMany iM_orderSum iM_leastOrder rM_often iM_setMany iM_someOf iM_allOf iM_allWeight iM_enoughWeight iM_worthSum iM_firstRest iM_leastDrawn), (arI rM_letters kM_letters 8 fM_letters), (arI rM_fresh kM_fresh 287 fM_fresh), (arI rM_read kM_read 90 fM_read)]) hB rfl ht hP hD _ hMs hk1 hFc rfl
    clear hz1 hk1 hvm ht hB hMs
    have hG := hG.trans (un3_eq e_x_5252_2)
    refine lv_aload_n hx hb dX7_nodeHere_13 rfl (lv_at hl 0 rfl) ?_
    refine va_get (D := (dC, dI)) (ci := 7) (v := .int x_5254) (C := RX7) (T := TX7) (N := 48) hx hb hts inX7 hown hK hP 0 rfl rfl 13 (by decide) (hts _ wd_380) (fun _ h9 => h9) rfl dX7_nodeHere_14 ?_
    refine lv_if_eq (tgt := 22) hx hb dX7_nodeHere_17 (by decide) (fun c_5255 => ?_) (fun c_5255 => ?_)
    · skip
      have hG := hG.trans (if_pos c_5255)
      have gc_5255 := ti_eq c_5255 rfl kc_0
      have h_5256 : iM_token.toInt = 2 := e_x_5252_1 (om_02e9bb08 gc_5255)
      clear e_x_5252_1
      have h_5257 : iM_nameSize.toInt ≤ 8 := r_T h_5256
      clear r_T
      refine lv_aload_n hx hb dX7_nodeHere_22 rfl (lv_at hl 0 rfl) ?_
      have hFc := va_freeI hD hS hA
      refine va_calli (va_runV (As := []) (rest := []) ⟨hx, hb, hml, hown, hts⟩ (tX7_find l dC dI _ oM iM_thrown rM_tape iM_taped iM_size iM_at iM_end iM_token iM_whole iM_nameSize x_5252 x_5253 iM_trouble rM_letters fM_letters kM_letters x_5254 iM_hasCourt rM_r rM_fresh fM_fresh kM_fresh rM_told rM_read fM_read kM_read rM_st rM_undone rM_kept iM_undos iM_images rM_fresher iM_fresherSize iM_scale iM_night rM_heardRow rM_cutRow iM_breaths iM_cutMany iM_allBreaths rM_trial rM_words iM_fewestBreaths iM_orderMany iM_orderSum iM_leastOrder rM_often iM_setMany iM_someOf iM_allOf iM_allWeight iM_enoughWeight iM_worthSum iM_firstRest iM_leastDrawn b_iM_taped b_iM_size b_iM_end b_iM_nameSize b_x_5254 b_iM_hasCourt b_iM_undos b_iM_images b_iM_scale b_iM_breaths b_iM_cutMany (fun h9 => h_5257) r_P h_5257) (cwV 0 hts (wd_V wd_471 wd_472 wd_473 wd_5 (wd_c wd_474)) rfl rfl rfl dv_yX7_find_0 ⟨Nat.le_of_ble_eq_true rfl, Nat.le_of_ble_eq_true rfl⟩) ⟨Pw.fb, recvX7 hK hP (q0 := 0) rfl, fun U hU hW => Pw.to hP hD hK hE hS hFc hU hW⟩ rfl rfl hl.1 rfl (lv_room (Nat.le_of_ble_eq_true rfl)) dX7_nodeHere_23 ⟨Nat.le_of_ble_eq_true rfl, Nat.le_of_ble_eq_true rfl⟩) hS (fun q _ h => hFc q h) hFc (fun r u t H locs ht hvm hw hB hz1 hk1 hS => ?_)
      have hru9 := hw.2
      have hw := hw.1
      obtain ⟨hP, hD⟩ := Bw.goA (ws' := [(oc7 oM iM_thrown rM_tape iM_taped iM_size iM_at iM_end iM_token iM_whole iM_nameSize x_5252 x_5253 iM_trouble rM_letters x_5254 iM_hasCourt rM_r rM_fresh rM_told rM_read rM_st rM_undone rM_kept iM_undos iM_images rM_fresher iM_fresherSize iM_scale iM_night rM_heardRow rM_cutRow iM_breaths iM_cutMany iM_allBreaths rM_trial rM_words iM_fewestBreaths iM_orderMany iM_orderSum iM_leastOrder rM_often iM_setMany iM_someOf iM_allOf iM_allWeight iM_enoughWeight iM_worthSum iM_firstRest iM_leastDrawn), (arI rM_letters kM_letters 8 fM_letters), (arI rM_fresh kM_fresh 287 fM_fresh), (arI rM_read kM_read 90 fM_read)]) hB rfl ht hFc rfl
      clear hz1 hk1 hvm ht hB
      obtain ⟨x_5258, rfl⟩ : ∃ z, z = r := ⟨_, rfl⟩
      have hG := hG.trans (lt_eq hru9.symm)
      have lx_5258 := hw.2
      have ux_5258 := hw.2
      refine lv_istore_n (lv' := [(1, .int x_5258), (0, .ref oM)]) hx hb dX7_nodeHere_26 rfl hl (by decide) rfl (fun ls hl => ?_)
      refine lv_iload_n hx hb dX7_nodeHere_27 rfl (lv_at hl 0 rfl) ?_
      refine lv_if_ge (tgt := 40) hx hb dX7_nodeHere_28 (by decide) (fun c_5259 => ?_) (fun c_5259 => ?_)
      · skip
        have hG := hG.trans (if_pos c_5259)
        have gc_5259 := ti_le c_5259 kc_0 rfl
        refine lv_aload_n hx hb dX7_nodeHere_40 rfl (lv_at hl 1 rfl) ?_
        refine va_get (D := (dC, dI)) (ci := 7) (v := .int x_5254) (C := RX7) (T := TX7) (N := 48) hx hb hts inX7 hown hK hP 0 rfl rfl 13 (by decide) (hts _ wd_380) (fun _ h9 => h9) rfl dX7_nodeHere_41 ?_
        refine lv_if_eq (tgt := 51) hx hb dX7_nodeHere_44 (by decide) (fun c_5260 => ?_) (fun c_5260 => ?_)
        · skip
          have hG := hG.trans (if_pos c_5260)
          have gc_5260 := ti_eq c_5260 rfl kc_0
          refine lv_iload_n hx hb dX7_nodeHere_51 rfl (lv_at hl 0 rfl) ?_
          exact wq_i hx hb hr (cI x_5258) ⟨⟨trivial, ⟨by have q0 := kc_0; omega, fun h9 => by have q0 := kc_0; omega, by have q0 := kc_0; omega⟩⟩, (cI_of x_5258)⟩ (fun t ht hW => ⟨x_5252, x_5253, x_5254, b_x_5254, (om_1fc3dec6 gc_5251 b_x_5254.1), (fun h9 => (om_02dc0f5c lx_5258.2.1 gc_5259)), (cI_tup hG), Bw.to hP hD hK ht hW⟩) hS dX7_nodeHere_52 hlocks
        · skip
          have hG := hG.trans (if_neg c_5260)
          have gc_5260 := ti_ne c_5260 rfl kc_0
          replace gc_5260 : x_5254.toInt + 1 ≤ 0 := om_f992525b gc_5260 gc_5255
          exact ((om_5185113d b_x_5254.1 gc_5260)).elim
      · skip
        have hG := hG.trans (if_neg c_5259)
        have gc_5259 := ti_nle c_5259 kc_0 rfl
        refine lv_aload_n hx hb dX7_nodeHere_31 rfl (lv_at hl 1 rfl) ?_
        refine lv_iconst (v := 2) hx hb dX7_nodeHere_32 (by decide) ?_
        refine lv_aload_n hx hb dX7_nodeHere_33 rfl (lv_at hl 1 rfl) ?_
        refine va_get (D := (dC, dI)) (ci := 7) (v := .int iM_at) (C := RX7) (T := TX7) (N := 48) hx hb hts inX7 hown hK hP 0 rfl rfl 4 (by decide) (hts _ wd_384) (fun _ h9 => h9) rfl dX7_nodeHere_34 ?_
        have hMs := ml_of hD [true, false, false, false] (wc := [(oc7 oM iM_thrown rM_tape iM_taped iM_size iM_at iM_end iM_token iM_whole iM_nameSize x_5252 x_5253 iM_trouble rM_letters x_5254 iM_hasCourt rM_r rM_fresh rM_told rM_read rM_st rM_undone rM_kept iM_undos iM_images rM_fresher iM_fresherSize iM_scale iM_night rM_heardRow rM_cutRow iM_breaths iM_cutMany iM_allBreaths rM_trial rM_words iM_fewestBreaths iM_orderMany iM_orderSum iM_leastOrder rM_often iM_setMany iM_someOf iM_allOf iM_allWeight iM_enoughWeight iM_worthSum iM_firstRest iM_leastDrawn)]) rfl
        have hFc := va_freeM hD hS hA _ hMs
        refine va_callv (va_runV (As := [.int 2, .int iM_at]) (rest := []) ⟨hx, hb, hml, hown, hts⟩ (tX7_wrong l dC dI _ oM iM_thrown rM_tape iM_taped iM_size iM_at iM_end iM_token iM_whole iM_nameSize x_5252 x_5253 iM_trouble rM_letters x_5254 iM_hasCourt rM_r rM_fresh rM_told rM_read rM_st rM_undone rM_kept iM_undos iM_images rM_fresher iM_fresherSize iM_scale iM_night rM_heardRow rM_cutRow iM_breaths iM_cutMany iM_allBreaths rM_trial rM_words iM_fewestBreaths iM_orderMany iM_orderSum iM_leastOrder rM_often iM_setMany iM_someOf iM_allOf iM_allWeight iM_enoughWeight iM_worthSum iM_firstRest iM_leastDrawn 2 iM_at b_iM_taped b_iM_size b_iM_end b_iM_nameSize b_x_5254 b_iM_hasCourt b_iM_undos b_iM_images b_iM_scale b_iM_breaths b_iM_cutMany (fun h9 => h_5257)) (cwV 2 hts (wd_V wd_430 wd_431 wd_432 wd_5 (wd_c wd_433)) rfl rfl rfl dv_yX7_wrong_2 ⟨Nat.le_of_ble_eq_true rfl, Nat.le_of_ble_eq_true rfl⟩) ⟨Pw.fb, recvX7 hK hP (q0 := 0) rfl, fun U hU hW => Pw.to (hP.ms _ hMs) (hD.ms _ hMs) (hK.ms [false, false, false] rfl) hE hS hFc hU hW⟩ rfl rfl hl.1 rfl (lv_room (Nat.le_of_ble_eq_true rfl)) dX7_nodeHere_37 ⟨Nat.le_of_ble_eq_true rfl, Nat.le_of_ble_eq_true rfl⟩) hS (fun q _ h => hFc q h) hFc (fun u t H locs ht hvm hw hB hz1 hk1 hS => ?_)
        refine ex_3_3 hB (fun x_5261 x_5262 x_5263 b_x_5263 e_x_5261_0 e_x_5261_1 hB => ?_)
        obtain ⟨hP, hD⟩ := Bw.goN (ws' := [(oc7 oM iM_thrown rM_tape iM_taped iM_size iM_at iM_end iM_token iM_whole iM_nameSize x_5261 x_5262 iM_trouble rM_letters x_5263 iM_hasCourt rM_r rM_fresh rM_told rM_read rM_st rM_undone rM_kept iM_undos iM_images rM_fresher iM_fresherSize iM_scale iM_night rM_heardRow rM_cutRow iM_breaths iM_cutMany iM_allBreaths rM_trial rM_words iM_fewestBreaths iM_orderMany iM_orderSum iM_leastOrder rM_often iM_setMany iM_someOf iM_allOf iM_allWeight iM_enoughWeight iM_worthSum iM_firstRest iM_leastDrawn), (arI rM_letters kM_letters 8 fM_letters), (arI rM_fresh kM_fresh 287 fM_fresh), (arI rM_read kM_read 90 fM_read)]) hB rfl ht hP hD _ hMs hk1 hFc rfl
        clear hz1 hk1 hvm ht hB hMs
        have hG := hG.trans (un3_eq e_x_5261_1)
        refine lv_aload_n hx hb dX7_nodeHere_40 rfl (lv_at hl 1 rfl) ?_
        refine va_get (D := (dC, dI)) (ci := 7) (v := .int x_5263) (C := RX7) (T := TX7) (N := 48) hx hb hts inX7 hown hK hP 0 rfl rfl 13 (by decide) (hts _ wd_380) (fun _ h9 => h9) rfl dX7_nodeHere_41 ?_
        refine lv_if_eq (tgt := 51) hx hb dX7_nodeHere_44 (by decide) (fun c_5264 => ?_) (fun c_5264 => ?_)
        · skip
          have hG := hG.trans (if_pos c_5264)
          have gc_5264 := ti_eq c_5264 rfl kc_0
          exact ((om_b1155cdc e_x_5261_0 gc_5264)).elim
        · skip
          have hG := hG.trans (if_neg c_5264)
          have gc_5264 := ti_ne c_5264 rfl kc_0
          replace gc_5264 : (-1) * x_5263.toInt + 1 ≤ 0 := om_e3003f79 gc_5264 b_x_5263.1
          refine lv_iconst (v := 0) hx hb dX7_nodeHere_47 (by decide) ?_
          refine lv_goto (tgt := 52) hx hb dX7_nodeHere_48 (by decide) ?_
          exact wq_i hx hb hr (cI 0) ⟨⟨trivial, ⟨by have q0 := kc_0; omega, fun h9 => by have q0 := kc_0; omega, by have q0 := kc_0; omega⟩⟩, (cI_of 0)⟩ (fun t ht hW => ⟨x_5261, x_5262, x_5263, b_x_5263, (om_1fc3dec6 gc_5251 b_x_5263.1), (fun h9 => False.elim (om_92495247 e_x_5261_0 h9)), (cI_tup hG), Bw.to hP hD hK ht hW⟩) hS dX7_nodeHere_52 hlocks
    · skip
      have hG := hG.trans (if_neg c_5255)
      have gc_5255 := ti_ne c_5255 rfl kc_0
      replace gc_5255 : (-1) * x_5254.toInt + 1 ≤ 0 := om_e3003f79 gc_5255 b_x_5254.1
      clear e_x_5252_1
      refine lv_iconst (v := 0) hx hb dX7_nodeHere_20 (by decide) ?_
      exact wq_i hx hb hr (cI 0) ⟨⟨trivial, ⟨by have q0 := kc_0; omega, fun h9 => by have q0 := kc_0; omega, by have q0 := kc_0; omega⟩⟩, (cI_of 0)⟩ (fun t ht hW => ⟨x_5252, x_5253, x_5254, b_x_5254, (om_1fc3dec6 gc_5251 b_x_5254.1), (fun h9 => False.elim (om_a5fe015d gc_5255 h9)), (cI_tup hG), Bw.to hP hD hK ht hW⟩) hS dX7_nodeHere_21 hlocks
  · skip
    have hG := hG.trans (if_neg c_5251)
    have gc_5251 := ti_ne c_5251 rfl kc_0
    replace gc_5251 : (-1) * iM_failed.toInt + 1 ≤ 0 := om_e3003f79 gc_5251 b_iM_failed.1
    refine lv_iconst (v := 0) hx hb dX7_nodeHere_7 (by decide) ?_
    exact wq_i hx hb hr (cI 0) ⟨⟨trivial, ⟨by have q0 := kc_0; omega, fun h9 => by have q0 := kc_0; omega, by have q0 := kc_0; omega⟩⟩, (cI_of 0)⟩ (fun t ht hW => ⟨iM_fault, iM_place, iM_failed, ⟨b_iM_failed.1, b_iM_failed.2⟩, om_1cb5f934, (fun h9 => False.elim (om_a5fe015d gc_5251 h9)), (cI_tup hG), Bw.to hP hD hK ht hW⟩) hS dX7_nodeHere_8 hlocks
set_option maxHeartbeats 4000000 in
set_option maxRecDepth 100000 in
theorem tX7_pass (l : Launch) (dC : Nat → ClassId) (dI : Nat → Nat → Nat) (sz : Nat) (oM : Nat) (iM_thrown : Int32) (rM_tape : Nat) (fM_tape : Nat → Int32) (kM_tape : ClassId) (iM_taped : Int32) (iM_size : Int32) (iM_at : Int32) (iM_end : Int32) (iM_token : Int32) (iM_whole : Int32) (iM_nameSize : Int32) (iM_fault : Int32) (iM_place : Int32) (iM_trouble : Int32) (rM_letters : Nat) (fM_letters : Nat → Int32) (kM_letters : ClassId) (iM_failed : Int32) (iM_hasCourt : Int32) (rM_r : Nat) (rM_fresh : Nat) (rM_told : Nat) (rM_read : Nat) (rM_st : Nat) (rM_undone : Nat) (rM_kept : Nat) (iM_undos : Int32) (iM_images : Int32) (rM_fresher : Nat) (iM_fresherSize : Int32) (iM_scale : Int32) (iM_night : Int32) (rM_heardRow : Nat) (rM_cutRow : Nat) (iM_breaths : Int32) (iM_cutMany : Int32) (iM_allBreaths : Int32) (rM_trial : Nat) (rM_words : Nat) (iM_fewestBreaths : Int32) (iM_orderMany : Int32) (iM_orderSum : Int32) (iM_leastOrder : Int32) (rM_often : Nat) (iM_setMany : Int32) (iM_someOf : Int32) (iM_allOf : Int32) (iM_allWeight : Int64) (iM_enoughWeight : Int64) (iM_worthSum : Int64) (iM_firstRest : Int32) (iM_leastDrawn : Int32) (b_iM_taped : 0 ≤ iM_taped.toInt ∧ iM_taped.toInt ≤ 900) (b_iM_size : 0 ≤ iM_size.toInt ∧ iM_size.toInt ≤ 900) (b_iM_end : 0 ≤ iM_end.toInt ∧ iM_end.toInt ≤ 900) (b_iM_nameSize : 0 ≤ iM_nameSize.toInt ∧ iM_nameSize.toInt ≤ 900) (b_iM_failed : 0 ≤ iM_failed.toInt ∧ iM_failed.toInt ≤ 1) (b_iM_hasCourt : 0 ≤ iM_hasCourt.toInt ∧ iM_hasCourt.toInt ≤ 1) (b_iM_undos : 0 ≤ iM_undos.toInt ∧ iM_undos.toInt ≤ 16) (b_iM_images : 0 ≤ iM_images.toInt ∧ iM_images.toInt ≤ 3) (b_iM_scale : 1 ≤ iM_scale.toInt ∧ iM_scale.toInt ≤ 1296) (b_iM_breaths : 0 ≤ iM_breaths.toInt ∧ iM_breaths.toInt ≤ 399) (b_iM_cutMany : 0 ≤ iM_cutMany.toInt ∧ iM_cutMany.toInt ≤ 399) (r_T : ImpP (iM_token.toInt = 2) (iM_nameSize.toInt ≤ 8))  : Met l yX7_pass (Cond.code yX7_pass cX7_pass 1 none :: wG) ({ frames := 2, cells := 0, slots := 0, locals := 44 }) (va_Pc [.ref oM] (Pw dC dI sz [(oc7 oM iM_thrown rM_tape iM_taped iM_size iM_at iM_end iM_token iM_whole iM_nameSize iM_fault iM_place iM_trouble rM_letters iM_failed iM_hasCourt rM_r rM_fresh rM_told rM_read rM_st rM_undone rM_kept iM_undos iM_images rM_fresher iM_fresherSize iM_scale iM_night rM_heardRow rM_cutRow iM_breaths iM_cutMany iM_allBreaths rM_trial rM_words iM_fewestBreaths iM_orderMany iM_orderSum iM_leastOrder rM_often iM_setMany iM_someOf iM_allOf iM_allWeight iM_enoughWeight iM_worthSum iM_firstRest iM_leastDrawn), (arI rM_tape kM_tape 900 fM_tape), (arI rM_letters kM_letters 8 fM_letters)] [(kM_tape, .int), (kM_letters, .int)])) (va_Qv (fun (_ : Nat) => True) (fun (_ : Nat) (t : State) => ∃ (niM_at : Int32) (niM_end : Int32) (niM_token : Int32) (niM_whole : Int32) (niM_nameSize : Int32) (nfM_letters : Nat → Int32), (0 ≤ niM_end.toInt ∧ niM_end.toInt ≤ 900) ∧ (0 ≤ niM_nameSize.toInt ∧ niM_nameSize.toInt ≤ 900) ∧ (iM_end.toInt ≤ niM_end.toInt) ∧ (ImpP (niM_token.toInt = 2) (niM_nameSize.toInt ≤ 8)) ∧ (ImpP (iM_failed.toInt ≤ 0 ∧ niM_token.toInt = 59 ) (iM_end.toInt + 1 ≤ niM_end.toInt)) ∧ (PX7_pass fM_tape iM_size iM_at iM_end iM_token iM_whole iM_nameSize fM_letters iM_failed = (niM_at, niM_end, niM_token, niM_whole, niM_nameSize, nfM_letters)) ∧ Bw dC dI (va_A [(oc7 oM iM_thrown rM_tape iM_taped iM_size iM_at iM_end iM_token iM_whole iM_nameSize iM_fault iM_place iM_trouble rM_letters iM_failed iM_hasCourt rM_r rM_fresh rM_told rM_read rM_st rM_undone rM_kept iM_undos iM_images rM_fresher iM_fresherSize iM_scale iM_night rM_heardRow rM_cutRow iM_breaths iM_cutMany iM_allBreaths rM_trial rM_words iM_fewestBreaths iM_orderMany iM_orderSum iM_leastOrder rM_often iM_setMany iM_someOf iM_allOf iM_allWeight iM_enoughWeight iM_worthSum iM_firstRest iM_leastDrawn), (arI rM_tape kM_tape 900 fM_tape), (arI rM_letters kM_letters 8 fM_letters)] sz) [(oc7 oM iM_thrown rM_tape iM_taped iM_size niM_at niM_end niM_token niM_whole niM_nameSize iM_fault iM_place iM_trouble rM_letters iM_failed iM_hasCourt rM_r rM_fresh rM_told rM_read rM_st rM_undone rM_kept iM_undos iM_images rM_fresher iM_fresherSize iM_scale iM_night rM_heardRow rM_cutRow iM_breaths iM_cutMany iM_allBreaths rM_trial rM_words iM_fewestBreaths iM_orderMany iM_orderSum iM_leastOrder rM_often iM_setMany iM_someOf iM_allOf iM_allWeight iM_enoughWeight iM_worthSum iM_firstRest iM_leastDrawn), (arI rM_tape kM_tape 900 fM_tape), (arI rM_letters kM_letters 8 nfM_letters)] [(kM_tape, .int), (kM_letters, .int)] t) (va_A [(oc7 oM iM_thrown rM_tape iM_taped iM_size iM_at iM_end iM_token iM_whole iM_nameSize iM_fault iM_place iM_trouble rM_letters iM_failed iM_hasCourt rM_r rM_fresh rM_told rM_read rM_st rM_undone rM_kept iM_undos iM_images rM_fresher iM_fresherSize iM_scale iM_night rM_heardRow rM_cutRow iM_breaths iM_cutMany iM_allBreaths rM_trial rM_words iM_fewestBreaths iM_orderMany iM_orderSum iM_leastOrder rM_often iM_setMany iM_someOf iM_allOf iM_allWeight iM_enoughWeight iM_worthSum iM_firstRest iM_leastDrawn), (arI rM_tape kM_tape 900 fM_tape), (arI rM_letters kM_letters 8 fM_letters)] sz)) 0 0 (va_A [(oc7 oM iM_thrown rM_tape iM_taped iM_size iM_at iM_end iM_token iM_whole iM_nameSize iM_fault iM_place iM_trouble rM_letters iM_failed iM_hasCourt rM_r rM_fresh rM_told rM_read rM_st rM_undone rM_kept iM_undos iM_images rM_fresher iM_fresherSize iM_scale iM_night rM_heardRow rM_cutRow iM_breaths iM_cutMany iM_allBreaths rM_trial rM_words iM_fewestBreaths iM_orderMany iM_orderSum iM_leastOrder rM_often iM_setMany iM_someOf iM_allOf iM_allWeight iM_enoughWeight iM_worthSum iM_firstRest iM_leastDrawn), (arI rM_tape kM_tape 900 fM_tape), (arI rM_letters kM_letters 8 fM_letters)] sz) := by
  refine Met.ofW (cc := cX7_pass) (maxL := 1) (ret := none) pnX7 rfl ?_
  intro p e s m args below meth c s₁ B hml hv
  obtain ⟨rfl, hsz, hP, hK, hD0, hE⟩ := hv
  have hx := B.exec
  have hb := B.bytes
  have hr := B.returns
  have hts : ∀ w ∈ wG, w.before ([.ref oM] : List Value).toArray s = true := fun w h => atoms_spec (ws := Cond.code yX7_pass cX7_pass 1 none :: wG) B.pre w (List.mem_cons_of_mem _ h)
  have hown : s.vm.findClass RX7 = some m.cls := own_of B.named rfl
  have hlocks := B.notSynchronized
  subst hsz
  have hD := hD0.self (sz := s.heap.size)
  generalize hAe : va_A [(oc7 oM iM_thrown rM_tape iM_taped iM_size iM_at iM_end iM_token iM_whole iM_nameSize iM_fault iM_place iM_trouble rM_letters iM_failed iM_hasCourt rM_r rM_fresh rM_told rM_read rM_st rM_undone rM_kept iM_undos iM_images rM_fresher iM_fresherSize iM_scale iM_night rM_heardRow rM_cutRow iM_breaths iM_cutMany iM_allBreaths rM_trial rM_words iM_fewestBreaths iM_orderMany iM_orderSum iM_leastOrder rM_often iM_setMany iM_someOf iM_allOf iM_allWeight iM_enoughWeight iM_worthSum iM_firstRest iM_leastDrawn), (arI rM_tape kM_tape 900 fM_tape), (arI rM_letters kM_letters 8 fM_letters)] s.heap.size = A at hD hE ⊢
  have hA : ∀ q : Nat, s.heap.size ≤ q → A q := fun q h => by rw [← hAe]; exact Or.inr h
  have hS : va_S A s.heap s.heap [] := va_S.rf
  have hl := lv_entry ([.ref oM]) (n := 1) (Nat.le_of_ble_eq_true rfl)
  rw [lg_entry_eq]
  generalize (lg_sl ([.ref oM]) ++ List.replicate (1 - (lg_sl ([.ref oM])).length) Slot.unset).toArray = ls at hl ⊢
  have hl : lv_has ls 1 [(0, .ref oM)] := hl
  have hG := PX7_pass_eq fM_tape iM_size iM_at iM_end iM_token iM_whole iM_nameSize fM_letters iM_failed
  refine lv_aload_n hx hb dX7_pass_0 rfl (lv_at hl 0 rfl) ?_
  refine va_get (D := (dC, dI)) (ci := 7) (v := .int iM_failed) (C := RX7) (T := TX7) (N := 48) hx hb hts inX7 hown hK hP 0 rfl rfl 13 (by decide) (hts _ wd_380) (fun _ h9 => h9) rfl dX7_pass_1 ?_
  refine lv_if_ne (tgt := 11) hx hb dX7_pass_4 (by decide) (fun c_5272 => ?_) (fun c_5272 => ?_)
  · skip
    have hG := hG.trans (if_neg c_5272)
    have gc_5272 := ti_ne c_5272 rfl kc_0
    replace gc_5272 : (-1) * iM_failed.toInt + 1 ≤ 0 := om_e3003f79 gc_5272 b_iM_failed.1
    exact wq_v hx hb hr 0 trivial (fun t ht hW => ⟨iM_at, iM_end, iM_token, iM_whole, iM_nameSize, fM_letters, ⟨b_iM_end.1, b_iM_end.2⟩, ⟨b_iM_nameSize.1, b_iM_nameSize.2⟩, om_1cb5f934, r_T, (fun h9 => False.elim (om_a5fe015d gc_5272 h9.1)), hG, Bw.to hP hD hK ht hW⟩) hS dX7_pass_11 hlocks
  · skip
    have hG := hG.trans (if_pos c_5272)
    have gc_5272 := ti_eq c_5272 rfl kc_0
    refine lv_aload_n hx hb dX7_pass_7 rfl (lv_at hl 0 rfl) ?_
    have hFc := va_freeI hD hS hA
    refine va_callv (va_runV (As := []) (rest := []) ⟨hx, hb, hml, hown, hts⟩ (tX7_next l dC dI _ oM iM_thrown rM_tape fM_tape kM_tape iM_taped iM_size iM_at iM_end iM_token iM_whole iM_nameSize iM_fault iM_place iM_trouble rM_letters fM_letters kM_letters iM_failed iM_hasCourt rM_r rM_fresh rM_told rM_read rM_st rM_undone rM_kept iM_undos iM_images rM_fresher iM_fresherSize iM_scale iM_night rM_heardRow rM_cutRow iM_breaths iM_cutMany iM_allBreaths rM_trial rM_words iM_fewestBreaths iM_orderMany iM_orderSum iM_leastOrder rM_often iM_setMany iM_someOf iM_allOf iM_allWeight iM_enoughWeight iM_worthSum iM_firstRest iM_leastDrawn b_iM_taped b_iM_size b_iM_end b_iM_nameSize b_iM_failed b_iM_hasCourt b_iM_undos b_iM_images b_iM_scale b_iM_breaths b_iM_cutMany r_T) (cwV 0 hts (wd_V wd_400 wd_401 wd_402 wd_5 (wd_c wd_403)) rfl rfl rfl dv_yX7_next_0 ⟨Nat.le_of_ble_eq_true rfl, Nat.le_of_ble_eq_true rfl⟩) ⟨Pw.fb, recvX7 hK hP (q0 := 0) rfl, fun U hU hW => Pw.to hP hD hK hE hS hFc hU hW⟩ rfl rfl hl.1 rfl (lv_room (Nat.le_of_ble_eq_true rfl)) dX7_pass_8 ⟨Nat.le_of_ble_eq_true rfl, Nat.le_of_ble_eq_true rfl⟩) hS (fun q _ h => hFc q h) hFc (fun u t H locs ht hvm hw hB hz1 hk1 hS => ?_)
    refine ex_6_6 hB (fun x_5273 x_5274 x_5275 x_5276 x_5277 f_5278 b_x_5274 b_x_5277 e_x_5273_0 e_x_5273_1 e_x_5273_2 e_x_5273_3 hB => ?_)
    obtain ⟨hP, hD⟩ := Bw.goA (ws' := [(oc7 oM iM_thrown rM_tape iM_taped iM_size x_5273 x_5274 x_5275 x_5276 x_5277 iM_fault iM_place iM_trouble rM_letters iM_failed iM_hasCourt rM_r rM_fresh rM_told rM_read rM_st rM_undone rM_kept iM_undos iM_images rM_fresher iM_fresherSize iM_scale iM_night rM_heardRow rM_cutRow iM_breaths iM_cutMany iM_allBreaths rM_trial rM_words iM_fewestBreaths iM_orderMany iM_orderSum iM_leastOrder rM_often iM_setMany iM_someOf iM_allOf iM_allWeight iM_enoughWeight iM_worthSum iM_firstRest iM_leastDrawn), (arI rM_tape kM_tape 900 fM_tape), (arI rM_letters kM_letters 8 f_5278)]) hB rfl ht hFc rfl
    clear hz1 hk1 hvm ht hB
    have hG := hG.trans (un6_eq e_x_5273_3)
    clear r_T
    exact wq_v hx hb hr 0 trivial (fun t ht hW => ⟨x_5273, x_5274, x_5275, x_5276, x_5277, f_5278, b_x_5274, b_x_5277, e_x_5273_0, e_x_5273_1, (fun h9 => (e_x_5273_2 h9.2)), hG, Bw.to hP hD hK ht hW⟩) hS dX7_pass_11 hlocks
set_option maxHeartbeats 4000000 in
set_option maxRecDepth 100000 in
theorem tX7_number (l : Launch) (dC : Nat → ClassId) (dI : Nat → Nat → Nat) (sz : Nat) (oM : Nat) (iM_thrown : Int32) (rM_tape : Nat) (fM_tape : Nat → Int32) (kM_tape : ClassId) (iM_taped : Int32) (iM_size : Int32) (iM_at : Int32) (iM_end : Int32) (iM_token : Int32) (iM_whole : Int32) (iM_nameSize : Int32) (iM_fault : Int32) (iM_place : Int32) (iM_trouble : Int32) (rM_letters : Nat) (fM_letters : Nat → Int32) (kM_letters : ClassId) (iM_failed : Int32) (iM_hasCourt : Int32) (rM_r : Nat) (rM_fresh : Nat) (rM_told : Nat) (rM_read : Nat) (rM_st : Nat) (rM_undone : Nat) (rM_kept : Nat) (iM_undos : Int32) (iM_images : Int32) (rM_fresher : Nat) (iM_fresherSize : Int32) (iM_scale : Int32) (iM_night : Int32) (rM_heardRow : Nat) (rM_cutRow : Nat) (iM_breaths : Int32) (iM_cutMany : Int32) (iM_allBreaths : Int32) (rM_trial : Nat) (rM_words : Nat) (iM_fewestBreaths : Int32) (iM_orderMany : Int32) (iM_orderSum : Int32) (iM_leastOrder : Int32) (rM_often : Nat) (iM_setMany : Int32) (iM_someOf : Int32) (iM_allOf : Int32) (iM_allWeight : Int64) (iM_enoughWeight : Int64) (iM_worthSum : Int64) (iM_firstRest : Int32) (iM_leastDrawn : Int32) (p0 : Int32) (p1 : Int32) (b_iM_taped : 0 ≤ iM_taped.toInt ∧ iM_taped.toInt ≤ 900) (b_iM_size : 0 ≤ iM_size.toInt ∧ iM_size.toInt ≤ 900) (b_iM_end : 0 ≤ iM_end.toInt ∧ iM_end.toInt ≤ 900) (b_iM_nameSize : 0 ≤ iM_nameSize.toInt ∧ iM_nameSize.toInt ≤ 900) (b_iM_failed : 0 ≤ iM_failed.toInt ∧ iM_failed.toInt ≤ 1) (b_iM_hasCourt : 0 ≤ iM_hasCourt.toInt ∧ iM_hasCourt.toInt ≤ 1) (b_iM_undos : 0 ≤ iM_undos.toInt ∧ iM_undos.toInt ≤ 16) (b_iM_images : 0 ≤ iM_images.toInt ∧ iM_images.toInt ≤ 3) (b_iM_scale : 1 ≤ iM_scale.toInt ∧ iM_scale.toInt ≤ 1296) (b_iM_breaths : 0 ≤ iM_breaths.toInt ∧ iM_breaths.toInt ≤ 399) (b_iM_cutMany : 0 ≤ iM_cutMany.toInt ∧ iM_cutMany.toInt ≤ 399) (r_T : ImpP (iM_token.toInt = 2) (iM_nameSize.toInt ≤ 8)) (hlh : p0.toInt ≤ p1.toInt) : Met l yX7_number (Cond.code yX7_number cX7_number 4 (some .int) :: wG) ({ frames := 2, cells := 0, slots := 0, locals := 44 }) (va_Pc [.ref oM, .int p0, .int p1] (Pw dC dI sz [(oc7 oM iM_thrown rM_tape iM_taped iM_size iM_at iM_end iM_token iM_whole iM_nameSize iM_fault iM_place iM_trouble rM_letters iM_failed iM_hasCourt rM_r rM_fresh rM_told rM_read rM_st rM_undone rM_kept iM_undos iM_images rM_fresher iM_fresherSize iM_scale iM_night rM_heardRow rM_cutRow iM_breaths iM_cutMany iM_allBreaths rM_trial rM_words iM_fewestBreaths iM_orderMany iM_orderSum iM_leastOrder rM_often iM_setMany iM_someOf iM_allOf iM_allWeight iM_enoughWeight iM_worthSum iM_firstRest iM_leastDrawn), (arI rM_tape kM_tape 900 fM_tape), (arI rM_letters kM_letters 8 fM_letters)] [(kM_tape, .int), (kM_letters, .int)])) (va_Qi (fun (r : Int32) (u : Nat) => (True ∧ (p0.toInt ≤ r.toInt ∧ r.toInt ≤ p1.toInt)) ∧ r = Int32.ofNat u) (fun (u : Nat) (t : State) => ∃ (niM_at : Int32) (niM_end : Int32) (niM_token : Int32) (niM_whole : Int32) (niM_nameSize : Int32) (niM_fault : Int32) (niM_place : Int32) (niM_failed : Int32) (nfM_letters : Nat → Int32), (0 ≤ niM_end.toInt ∧ niM_end.toInt ≤ 900) ∧ (0 ≤ niM_nameSize.toInt ∧ niM_nameSize.toInt ≤ 900) ∧ (0 ≤ niM_failed.toInt ∧ niM_failed.toInt ≤ 1) ∧ (iM_end.toInt ≤ niM_end.toInt) ∧ (ImpP (niM_token.toInt = 2) (niM_nameSize.toInt ≤ 8)) ∧ (iM_failed.toInt ≤ niM_failed.toInt) ∧ (ImpP (niM_failed.toInt ≤ 0 ∧ niM_token.toInt = 59 ) (iM_end.toInt + 1 ≤ niM_end.toInt)) ∧ (PX7_number fM_tape iM_size iM_at iM_end iM_token iM_whole iM_nameSize iM_fault iM_place fM_letters iM_failed p0 p1 = (Int32.ofNat u, niM_at, niM_end, niM_token, niM_whole, niM_nameSize, niM_fault, niM_place, niM_failed, nfM_letters)) ∧ Bw dC dI (va_A [(oc7 oM iM_thrown rM_tape iM_taped iM_size iM_at iM_end iM_token iM_whole iM_nameSize iM_fault iM_place iM_trouble rM_letters iM_failed iM_hasCourt rM_r rM_fresh rM_told rM_read rM_st rM_undone rM_kept iM_undos iM_images rM_fresher iM_fresherSize iM_scale iM_night rM_heardRow rM_cutRow iM_breaths iM_cutMany iM_allBreaths rM_trial rM_words iM_fewestBreaths iM_orderMany iM_orderSum iM_leastOrder rM_often iM_setMany iM_someOf iM_allOf iM_allWeight iM_enoughWeight iM_worthSum iM_firstRest iM_leastDrawn), (arI rM_tape kM_tape 900 fM_tape), (arI rM_letters kM_letters 8 fM_letters)] sz) [(oc7 oM iM_thrown rM_tape iM_taped iM_size niM_at niM_end niM_token niM_whole niM_nameSize niM_fault niM_place iM_trouble rM_letters niM_failed iM_hasCourt rM_r rM_fresh rM_told rM_read rM_st rM_undone rM_kept iM_undos iM_images rM_fresher iM_fresherSize iM_scale iM_night rM_heardRow rM_cutRow iM_breaths iM_cutMany iM_allBreaths rM_trial rM_words iM_fewestBreaths iM_orderMany iM_orderSum iM_leastOrder rM_often iM_setMany iM_someOf iM_allOf iM_allWeight iM_enoughWeight iM_worthSum iM_firstRest iM_leastDrawn), (arI rM_tape kM_tape 900 fM_tape), (arI rM_letters kM_letters 8 nfM_letters)] [(kM_tape, .int), (kM_letters, .int)] t) (va_A [(oc7 oM iM_thrown rM_tape iM_taped iM_size iM_at iM_end iM_token iM_whole iM_nameSize iM_fault iM_place iM_trouble rM_letters iM_failed iM_hasCourt rM_r rM_fresh rM_told rM_read rM_st rM_undone rM_kept iM_undos iM_images rM_fresher iM_fresherSize iM_scale iM_night rM_heardRow rM_cutRow iM_breaths iM_cutMany iM_allBreaths rM_trial rM_words iM_fewestBreaths iM_orderMany iM_orderSum iM_leastOrder rM_often iM_setMany iM_someOf iM_allOf iM_allWeight iM_enoughWeight iM_worthSum iM_firstRest iM_leastDrawn), (arI rM_tape kM_tape 900 fM_tape), (arI rM_letters kM_letters 8 fM_letters)] sz)) 0 0 (va_A [(oc7 oM iM_thrown rM_tape iM_taped iM_size iM_at iM_end iM_token iM_whole iM_nameSize iM_fault iM_place iM_trouble rM_letters iM_failed iM_hasCourt rM_r rM_fresh rM_told rM_read rM_st rM_undone rM_kept iM_undos iM_images rM_fresher iM_fresherSize iM_scale iM_night rM_heardRow rM_cutRow iM_breaths iM_cutMany iM_allBreaths rM_trial rM_words iM_fewestBreaths iM_orderMany iM_orderSum iM_leastOrder rM_often iM_setMany iM_someOf iM_allOf iM_allWeight iM_enoughWeight iM_worthSum iM_firstRest iM_leastDrawn), (arI rM_tape kM_tape 900 fM_tape), (arI rM_letters kM_letters 8 fM_letters)] sz) := by
  refine Met.ofW (cc := cX7_number) (maxL := 4) (ret := (some .int)) pnX7 rfl ?_
  intro p e s m args below meth c s₁ B hml hv
  obtain ⟨rfl, hsz, hP, hK, hD0, hE⟩ := hv
  have hx := B.exec
  have hb := B.bytes
  have hr := B.returns
  have hts : ∀ w ∈ wG, w.before ([.ref oM, .int p0, .int p1] : List Value).toArray s = true := fun w h => atoms_spec (ws := Cond.code yX7_number cX7_number 4 (some .int) :: wG) B.pre w (List.mem_cons_of_mem _ h)
  have hown : s.vm.findClass RX7 = some m.cls := own_of B.named rfl
  have hlocks := B.notSynchronized
  subst hsz
  have hD := hD0.self (sz := s.heap.size)
  generalize hAe : va_A [(oc7 oM iM_thrown rM_tape iM_taped iM_size iM_at iM_end iM_token iM_whole iM_nameSize iM_fault iM_place iM_trouble rM_letters iM_failed iM_hasCourt rM_r rM_fresh rM_told rM_read rM_st rM_undone rM_kept iM_undos iM_images rM_fresher iM_fresherSize iM_scale iM_night rM_heardRow rM_cutRow iM_breaths iM_cutMany iM_allBreaths rM_trial rM_words iM_fewestBreaths iM_orderMany iM_orderSum iM_leastOrder rM_often iM_setMany iM_someOf iM_allOf iM_allWeight iM_enoughWeight iM_worthSum iM_firstRest iM_leastDrawn), (arI rM_tape kM_tape 900 fM_tape), (arI rM_letters kM_letters 8 fM_letters)] s.heap.size = A at hD hE ⊢
  have hA : ∀ q : Nat, s.heap.size ≤ q → A q := fun q h => by rw [← hAe]; exact Or.inr h
  have hS : va_S A s.heap s.heap [] := va_S.rf
  have hl := lv_entry ([.ref oM, .int p0, .int p1]) (n := 4) (Nat.le_of_ble_eq_true rfl)
  rw [lg_entry_eq]
  generalize (lg_sl ([.ref oM, .int p0, .int p1]) ++ List.replicate (4 - (lg_sl ([.ref oM, .int p0, .int p1])).length) Slot.unset).toArray = ls at hl ⊢
  have hl : lv_has ls 4 [(0, .ref oM), (1, .int p0), (2, .int p1)] := hl
  have hG := PX7_number_eq fM_tape iM_size iM_at iM_end iM_token iM_whole iM_nameSize iM_fault iM_place fM_letters iM_failed p0 p1
  refine lv_aload_n hx hb dX7_number_0 rfl (lv_at hl 0 rfl) ?_
  refine va_get (D := (dC, dI)) (ci := 7) (v := .int iM_failed) (C := RX7) (T := TX7) (N := 48) hx hb hts inX7 hown hK hP 0 rfl rfl 13 (by decide) (hts _ wd_380) (fun _ h9 => h9) rfl dX7_number_1 ?_
  refine lv_if_eq (tgt := 9) hx hb dX7_number_4 (by decide) (fun c_5299 => ?_) (fun c_5299 => ?_)
  · skip
    have hG := hG.trans (if_pos c_5299)
    have gc_5299 := ti_eq c_5299 rfl kc_0
    refine lv_aload_n hx hb dX7_number_9 rfl (lv_at hl 0 rfl) ?_
    refine va_get (D := (dC, dI)) (ci := 7) (v := .int iM_token) (C := RX7) (T := TX7) (N := 48) hx hb hts inX7 hown hK hP 0 rfl rfl 6 (by decide) (hts _ wd_383) (fun _ h9 => h9) rfl dX7_number_10 ?_
    refine lv_iconst (v := 3) hx hb dX7_number_13 (by decide) ?_
    refine lv_icmp_eq (tgt := 29) hx hb dX7_number_14 (by decide) (fun c_5300 => ?_) (fun c_5300 => ?_)
    · skip
      have hG := hG.trans (if_pos c_5300)
      have gc_5300 := ti_eq c_5300 rfl kc_3
      refine lv_aload_n hx hb dX7_number_29 rfl (lv_at hl 0 rfl) ?_
      refine va_get (D := (dC, dI)) (ci := 7) (v := .int iM_whole) (C := RX7) (T := TX7) (N := 48) hx hb hts inX7 hown hK hP 0 rfl rfl 7 (by decide) (hts _ wd_405) (fun _ h9 => h9) rfl dX7_number_30 ?_
      refine lv_iload_n hx hb dX7_number_33 rfl (lv_at hl 1 rfl) ?_
      refine lv_iload_n hx hb dX7_number_34 rfl (lv_at hl 2 rfl) ?_
      have hFc : ∀ q, va_A [] _ q → A q := fun q h => hA q (Nat.le_trans hS.1 (va_nilA h))
      refine va_calli (va_runS (As := [.int iM_whole, .int p0, .int p1]) (rest := []) ⟨hx, hb, hml, hown, hts⟩ (tX7_in l dC dI _ iM_whole p0 p1 ) (va_cwS 3 hts (wd_S wd_393 wd_394 wd_5 (wd_c wd_395)) rfl rfl rfl ds_yX7_in_3 ⟨Nat.le_of_ble_eq_true rfl, Nat.le_of_ble_eq_true rfl⟩) ⟨Pw.fb, fun U hU hW => Pn.to hK hE hS hA hU hW⟩ rfl rfl hl.1 rfl (lv_room (Nat.le_of_ble_eq_true rfl)) dX7_number_35 ⟨Nat.le_of_ble_eq_true rfl, Nat.le_of_ble_eq_true rfl⟩) hS (fun q _ h => hFc q h) hFc (fun r u t H locs ht hvm hw hB hz1 hk1 hS => ?_)
      obtain ⟨hP, hD, hK⟩ := Bw.same ht hvm hP hD hK hk1 hFc
      clear hz1 hk1 hvm ht hB
      have hq9 := hw.2
      have hw := hw.1
      obtain ⟨x_5301, rfl⟩ : ∃ z, z = r := ⟨_, rfl⟩
      have hq_x_5301 := hq9
      have hG := hG.trans (lt_eq hq_x_5301.symm)
      have bx_5301 := hw.1
      have dx_5301 := bz_tb bx_5301
      have px_5301 := hw.2
      rcases px_5301 with ⟨gx_5301, hx_5301⟩ | ⟨gx_5301, hx_5301⟩
      · skip
        refine lv_if_ne (tgt := 50) hx hb dX7_number_38 (by decide) (fun c_5302 => ?_) (fun c_5302 => ?_)
        · skip
          have hG := hG.trans (if_neg c_5302)
          have gc_5302 := ti_ne c_5302 rfl kc_0
          replace gc_5302 : (-1) * x_5301.toInt + 1 ≤ 0 := om_e3003f79 gc_5302 dx_5301.1
          refine lv_aload_n hx hb dX7_number_50 rfl (lv_at hl 0 rfl) ?_
          refine va_get (D := (dC, dI)) (ci := 7) (v := .int iM_failed) (C := RX7) (T := TX7) (N := 48) hx hb hts inX7 hown hK hP 0 rfl rfl 13 (by decide) (hts _ wd_380) (fun _ h9 => h9) rfl dX7_number_51 ?_
          refine lv_if_eq (tgt := 59) hx hb dX7_number_54 (by decide) (fun c_5303 => ?_) (fun c_5303 => ?_)
          · skip
            have hG := hG.trans (if_pos c_5303)
            have gc_5303 := ti_eq c_5303 rfl kc_0
            refine lv_aload_n hx hb dX7_number_59 rfl (lv_at hl 0 rfl) ?_
            refine va_get (D := (dC, dI)) (ci := 7) (v := .int iM_whole) (C := RX7) (T := TX7) (N := 48) hx hb hts inX7 hown hK hP 0 rfl rfl 7 (by decide) (hts _ wd_405) (fun _ h9 => h9) rfl dX7_number_60 ?_
            refine lv_istore_n (lv' := [(3, .int iM_whole), (0, .ref oM), (1, .int p0), (2, .int p1)]) hx hb dX7_number_63 rfl hl (by decide) rfl (fun ls hl => ?_)
            refine lv_aload_n hx hb dX7_number_64 rfl (lv_at hl 1 rfl) ?_
            have hFc := va_freeI hD hS hA
            refine va_callv (va_runV (As := []) (rest := []) ⟨hx, hb, hml, hown, hts⟩ (tX7_next l dC dI _ oM iM_thrown rM_tape fM_tape kM_tape iM_taped iM_size iM_at iM_end iM_token iM_whole iM_nameSize iM_fault iM_place iM_trouble rM_letters fM_letters kM_letters iM_failed iM_hasCourt rM_r rM_fresh rM_told rM_read rM_st rM_undone rM_kept iM_undos iM_images rM_fresher iM_fresherSize iM_scale iM_night rM_heardRow rM_cutRow iM_breaths iM_cutMany iM_allBreaths rM_trial rM_words iM_fewestBreaths iM_orderMany iM_orderSum iM_leastOrder rM_often iM_setMany iM_someOf iM_allOf iM_allWeight iM_enoughWeight iM_worthSum iM_firstRest iM_leastDrawn b_iM_taped b_iM_size b_iM_end b_iM_nameSize b_iM_failed b_iM_hasCourt b_iM_undos b_iM_images b_iM_scale b_iM_breaths b_iM_cutMany r_T) (cwV 0 hts (wd_V wd_400 wd_401 wd_402 wd_5 (wd_c wd_403)) rfl rfl rfl dv_yX7_next_0 ⟨Nat.le_of_ble_eq_true rfl, Nat.le_of_ble_eq_true rfl⟩) ⟨Pw.fb, recvX7 hK hP (q0 := 0) rfl, fun U hU hW => Pw.to hP hD hK hE hS hFc hU hW⟩ rfl rfl hl.1 rfl (lv_room (Nat.le_of_ble_eq_true rfl)) dX7_number_65 ⟨Nat.le_of_ble_eq_true rfl, Nat.le_of_ble_eq_true rfl⟩) hS (fun q _ h => hFc q h) hFc (fun u t H locs ht hvm hw hB hz1 hk1 hS => ?_)
            refine ex_6_6 hB (fun x_5304 x_5305 x_5306 x_5307 x_5308 f_5309 b_x_5305 b_x_5308 e_x_5304_0 e_x_5304_1 e_x_5304_2 e_x_5304_3 hB => ?_)
            obtain ⟨hP, hD⟩ := Bw.goA (ws' := [(oc7 oM iM_thrown rM_tape iM_taped iM_size x_5304 x_5305 x_5306 x_5307 x_5308 iM_fault iM_place iM_trouble rM_letters iM_failed iM_hasCourt rM_r rM_fresh rM_told rM_read rM_st rM_undone rM_kept iM_undos iM_images rM_fresher iM_fresherSize iM_scale iM_night rM_heardRow rM_cutRow iM_breaths iM_cutMany iM_allBreaths rM_trial rM_words iM_fewestBreaths iM_orderMany iM_orderSum iM_leastOrder rM_often iM_setMany iM_someOf iM_allOf iM_allWeight iM_enoughWeight iM_worthSum iM_firstRest iM_leastDrawn), (arI rM_tape kM_tape 900 fM_tape), (arI rM_letters kM_letters 8 f_5309)]) hB rfl ht hFc rfl
            clear hz1 hk1 hvm ht hB
            have hG := hG.trans (un6_eq e_x_5304_3)
            clear r_T
            refine lv_iload_n hx hb dX7_number_68 rfl (lv_at hl 0 rfl) ?_
            exact wq_i hx hb hr (cI iM_whole) ⟨⟨trivial, (by first | omega | assumption)⟩, (cI_of iM_whole)⟩ (fun t ht hW => ⟨x_5304, x_5305, x_5306, x_5307, x_5308, iM_fault, iM_place, iM_failed, f_5309, b_x_5305, b_x_5308, ⟨b_iM_failed.1, b_iM_failed.2⟩, e_x_5304_0, e_x_5304_1, om_1cb5f934, (fun h9 => (e_x_5304_2 h9.2)), (cI_tup hG), Bw.to hP hD hK ht hW⟩) hS dX7_number_69 hlocks
          · skip
            have hG := hG.trans (if_neg c_5303)
            have gc_5303 := ti_ne c_5303 rfl kc_0
            replace gc_5303 : iM_failed.toInt + 1 ≤ 0 := om_f992525b gc_5303 gc_5299
            exact ((om_5185113d b_iM_failed.1 gc_5303)).elim
        · skip
          have hG := hG.trans (if_pos c_5302)
          have gc_5302 := ti_eq c_5302 rfl kc_0
          exfalso; clear hG; omega
      · skip
        refine lv_if_ne (tgt := 50) hx hb dX7_number_38 (by decide) (fun c_5310 => ?_) (fun c_5310 => ?_)
        · skip
          have hG := hG.trans (if_neg c_5310)
          have gc_5310 := ti_ne c_5310 rfl kc_0
          replace gc_5310 : x_5301.toInt + 1 ≤ 0 := by omega
          exact ((om_5185113d dx_5301.1 gc_5310)).elim
        · skip
          have hG := hG.trans (if_pos c_5310)
          have gc_5310 := ti_eq c_5310 rfl kc_0
          refine lv_aload_n hx hb dX7_number_41 rfl (lv_at hl 0 rfl) ?_
          refine lv_iconst (v := 4) hx hb dX7_number_42 (by decide) ?_
          refine lv_aload_n hx hb dX7_number_43 rfl (lv_at hl 0 rfl) ?_
          refine va_get (D := (dC, dI)) (ci := 7) (v := .int iM_at) (C := RX7) (T := TX7) (N := 48) hx hb hts inX7 hown hK hP 0 rfl rfl 4 (by decide) (hts _ wd_384) (fun _ h9 => h9) rfl dX7_number_44 ?_
          have hMs := ml_of hD [true, false, false] (wc := [(oc7 oM iM_thrown rM_tape iM_taped iM_size iM_at iM_end iM_token iM_whole iM_nameSize iM_fault iM_place iM_trouble rM_letters iM_failed iM_hasCourt rM_r rM_fresh rM_told rM_read rM_st rM_undone rM_kept iM_undos iM_images rM_fresher iM_fresherSize iM_scale iM_night rM_heardRow rM_cutRow iM_breaths iM_cutMany iM_allBreaths rM_trial rM_words iM_fewestBreaths iM_orderMany iM_orderSum iM_leastOrder rM_often iM_setMany iM_someOf iM_allOf iM_allWeight iM_enoughWeight iM_worthSum iM_firstRest iM_leastDrawn)]) rfl
          have hFc := va_freeM hD hS hA _ hMs
          refine va_callv (va_runV (As := [.int 4, .int iM_at]) (rest := []) ⟨hx, hb, hml, hown, hts⟩ (tX7_wrong l dC dI _ oM iM_thrown rM_tape iM_taped iM_size iM_at iM_end iM_token iM_whole iM_nameSize iM_fault iM_place iM_trouble rM_letters iM_failed iM_hasCourt rM_r rM_fresh rM_told rM_read rM_st rM_undone rM_kept iM_undos iM_images rM_fresher iM_fresherSize iM_scale iM_night rM_heardRow rM_cutRow iM_breaths iM_cutMany iM_allBreaths rM_trial rM_words iM_fewestBreaths iM_orderMany iM_orderSum iM_leastOrder rM_often iM_setMany iM_someOf iM_allOf iM_allWeight iM_enoughWeight iM_worthSum iM_firstRest iM_leastDrawn 4 iM_at b_iM_taped b_iM_size b_iM_end b_iM_nameSize b_iM_failed b_iM_hasCourt b_iM_undos b_iM_images b_iM_scale b_iM_breaths b_iM_cutMany r_T) (cwV 2 hts (wd_V wd_430 wd_431 wd_432 wd_5 (wd_c wd_433)) rfl rfl rfl dv_yX7_wrong_2 ⟨Nat.le_of_ble_eq_true rfl, Nat.le_of_ble_eq_true rfl⟩) ⟨Pw.fb, recvX7 hK hP (q0 := 0) rfl, fun U hU hW => Pw.to (hP.ms _ hMs) (hD.ms _ hMs) (hK.ms [false, false] rfl) hE hS hFc hU hW⟩ rfl rfl hl.1 rfl (lv_room (Nat.le_of_ble_eq_true rfl)) dX7_number_47 ⟨Nat.le_of_ble_eq_true rfl, Nat.le_of_ble_eq_true rfl⟩) hS (fun q _ h => hFc q h) hFc (fun u t H locs ht hvm hw hB hz1 hk1 hS => ?_)
          refine ex_3_3 hB (fun x_5311 x_5312 x_5313 b_x_5313 e_x_5311_0 e_x_5311_1 hB => ?_)
          obtain ⟨hP, hD⟩ := Bw.goN (ws' := [(oc7 oM iM_thrown rM_tape iM_taped iM_size iM_at iM_end iM_token iM_whole iM_nameSize x_5311 x_5312 iM_trouble rM_letters x_5313 iM_hasCourt rM_r rM_fresh rM_told rM_read rM_st rM_undone rM_kept iM_undos iM_images rM_fresher iM_fresherSize iM_scale iM_night rM_heardRow rM_cutRow iM_breaths iM_cutMany iM_allBreaths rM_trial rM_words iM_fewestBreaths iM_orderMany iM_orderSum iM_leastOrder rM_often iM_setMany iM_someOf iM_allOf iM_allWeight iM_enoughWeight iM_worthSum iM_firstRest iM_leastDrawn), (arI rM_tape kM_tape 900 fM_tape), (arI rM_letters kM_letters 8 fM_letters)]) hB rfl ht hP hD _ hMs hk1 hFc rfl
          clear hz1 hk1 hvm ht hB hMs
          have hG := hG.trans (un3_eq e_x_5311_1)
          refine lv_aload_n hx hb dX7_number_50 rfl (lv_at hl 0 rfl) ?_
          refine va_get (D := (dC, dI)) (ci := 7) (v := .int x_5313) (C := RX7) (T := TX7) (N := 48) hx hb hts inX7 hown hK hP 0 rfl rfl 13 (by decide) (hts _ wd_380) (fun _ h9 => h9) rfl dX7_number_51 ?_
          refine lv_if_eq (tgt := 59) hx hb dX7_number_54 (by decide) (fun c_5314 => ?_) (fun c_5314 => ?_)
          · skip
            have hG := hG.trans (if_pos c_5314)
            have gc_5314 := ti_eq c_5314 rfl kc_0
            exact ((om_b1155cdc e_x_5311_0 gc_5314)).elim
          · skip
            have hG := hG.trans (if_neg c_5314)
            have gc_5314 := ti_ne c_5314 rfl kc_0
            replace gc_5314 : (-1) * x_5313.toInt + 1 ≤ 0 := om_e3003f79 gc_5314 b_x_5313.1
            refine lv_iload_n hx hb dX7_number_57 rfl (lv_at hl 1 rfl) ?_
            exact wq_i hx hb hr (cI p0) ⟨⟨trivial, (by first | omega | assumption)⟩, (cI_of p0)⟩ (fun t ht hW => ⟨iM_at, iM_end, iM_token, iM_whole, iM_nameSize, x_5311, x_5312, x_5313, fM_letters, ⟨b_iM_end.1, b_iM_end.2⟩, ⟨b_iM_nameSize.1, b_iM_nameSize.2⟩, b_x_5313, om_1cb5f934, r_T, (om_1fc3dec6 gc_5299 b_x_5313.1), (fun h9 => False.elim (om_92495247 e_x_5311_0 h9.1)), (cI_tup hG), Bw.to hP hD hK ht hW⟩) hS dX7_number_58 hlocks
    · skip
      have hG := hG.trans (if_neg c_5300)
      have gc_5300 := ti_ne c_5300 rfl kc_3
      refine lv_aload_n hx hb dX7_number_17 rfl (lv_at hl 0 rfl) ?_
      refine lv_iconst (v := 1) hx hb dX7_number_18 (by decide) ?_
      refine lv_aload_n hx hb dX7_number_19 rfl (lv_at hl 0 rfl) ?_
      refine va_get (D := (dC, dI)) (ci := 7) (v := .int iM_at) (C := RX7) (T := TX7) (N := 48) hx hb hts inX7 hown hK hP 0 rfl rfl 4 (by decide) (hts _ wd_384) (fun _ h9 => h9) rfl dX7_number_20 ?_
      have hMs := ml_of hD [true, false, false] (wc := [(oc7 oM iM_thrown rM_tape iM_taped iM_size iM_at iM_end iM_token iM_whole iM_nameSize iM_fault iM_place iM_trouble rM_letters iM_failed iM_hasCourt rM_r rM_fresh rM_told rM_read rM_st rM_undone rM_kept iM_undos iM_images rM_fresher iM_fresherSize iM_scale iM_night rM_heardRow rM_cutRow iM_breaths iM_cutMany iM_allBreaths rM_trial rM_words iM_fewestBreaths iM_orderMany iM_orderSum iM_leastOrder rM_often iM_setMany iM_someOf iM_allOf iM_allWeight iM_enoughWeight iM_worthSum iM_firstRest iM_leastDrawn)]) rfl
      have hFc := va_freeM hD hS hA _ hMs
      refine va_callv (va_runV (As := [.int 1, .int iM_at]) (rest := []) ⟨hx, hb, hml, hown, hts⟩ (tX7_wrong l dC dI _ oM iM_thrown rM_tape iM_taped iM_size iM_at iM_end iM_token iM_whole iM_nameSize iM_fault iM_place iM_trouble rM_letters iM_failed iM_hasCourt rM_r rM_fresh rM_told rM_read rM_st rM_undone rM_kept iM_undos iM_images rM_fresher iM_fresherSize iM_scale iM_night rM_heardRow rM_cutRow iM_breaths iM_cutMany iM_allBreaths rM_trial rM_words iM_fewestBreaths iM_orderMany iM_orderSum iM_leastOrder rM_often iM_setMany iM_someOf iM_allOf iM_allWeight iM_enoughWeight iM_worthSum iM_firstRest iM_leastDrawn 1 iM_at b_iM_taped b_iM_size b_iM_end b_iM_nameSize b_iM_failed b_iM_hasCourt b_iM_undos b_iM_images b_iM_scale b_iM_breaths b_iM_cutMany r_T) (cwV 2 hts (wd_V wd_430 wd_431 wd_432 wd_5 (wd_c wd_433)) rfl rfl rfl dv_yX7_wrong_2 ⟨Nat.le_of_ble_eq_true rfl, Nat.le_of_ble_eq_true rfl⟩) ⟨Pw.fb, recvX7 hK hP (q0 := 0) rfl, fun U hU hW => Pw.to (hP.ms _ hMs) (hD.ms _ hMs) (hK.ms [false, false] rfl) hE hS hFc hU hW⟩ rfl rfl hl.1 rfl (lv_room (Nat.le_of_ble_eq_true rfl)) dX7_number_23 ⟨Nat.le_of_ble_eq_true rfl, Nat.le_of_ble_eq_true rfl⟩) hS (fun q _ h => hFc q h) hFc (fun u t H locs ht hvm hw hB hz1 hk1 hS => ?_)
      refine ex_3_3 hB (fun x_5315 x_5316 x_5317 b_x_5317 e_x_5315_0 e_x_5315_1 hB => ?_)
      obtain ⟨hP, hD⟩ := Bw.goN (ws' := [(oc7 oM iM_thrown rM_tape iM_taped iM_size iM_at iM_end iM_token iM_whole iM_nameSize x_5315 x_5316 iM_trouble rM_letters x_5317 iM_hasCourt rM_r rM_fresh rM_told rM_read rM_st rM_undone rM_kept iM_undos iM_images rM_fresher iM_fresherSize iM_scale iM_night rM_heardRow rM_cutRow iM_breaths iM_cutMany iM_allBreaths rM_trial rM_words iM_fewestBreaths iM_orderMany iM_orderSum iM_leastOrder rM_often iM_setMany iM_someOf iM_allOf iM_allWeight iM_enoughWeight iM_worthSum iM_firstRest iM_leastDrawn), (arI rM_tape kM_tape 900 fM_tape), (arI rM_letters kM_letters 8 fM_letters)]) hB rfl ht hP hD _ hMs hk1 hFc rfl
      clear hz1 hk1 hvm ht hB hMs
      have hG := hG.trans (un3_eq e_x_5315_1)
      refine lv_goto (tgt := 50) hx hb dX7_number_26 (by decide) ?_
      refine lv_aload_n hx hb dX7_number_50 rfl (lv_at hl 0 rfl) ?_
      refine va_get (D := (dC, dI)) (ci := 7) (v := .int x_5317) (C := RX7) (T := TX7) (N := 48) hx hb hts inX7 hown hK hP 0 rfl rfl 13 (by decide) (hts _ wd_380) (fun _ h9 => h9) rfl dX7_number_51 ?_
      refine lv_if_eq (tgt := 59) hx hb dX7_number_54 (by decide) (fun c_5318 => ?_) (fun c_5318 => ?_)
      · skip
        have hG := hG.trans (if_pos c_5318)
        have gc_5318 := ti_eq c_5318 rfl kc_0
        exact ((om_b1155cdc e_x_5315_0 gc_5318)).elim
      · skip
        have hG := hG.trans (if_neg c_5318)
        have gc_5318 := ti_ne c_5318 rfl kc_0
        replace gc_5318 : (-1) * x_5317.toInt + 1 ≤ 0 := om_e3003f79 gc_5318 b_x_5317.1
        refine lv_iload_n hx hb dX7_number_57 rfl (lv_at hl 1 rfl) ?_
        exact wq_i hx hb hr (cI p0) ⟨⟨trivial, (by first | omega | assumption)⟩, (cI_of p0)⟩ (fun t ht hW => ⟨iM_at, iM_end, iM_token, iM_whole, iM_nameSize, x_5315, x_5316, x_5317, fM_letters, ⟨b_iM_end.1, b_iM_end.2⟩, ⟨b_iM_nameSize.1, b_iM_nameSize.2⟩, b_x_5317, om_1cb5f934, r_T, (om_1fc3dec6 gc_5299 b_x_5317.1), (fun h9 => False.elim (om_92495247 e_x_5315_0 h9.1)), (cI_tup hG), Bw.to hP hD hK ht hW⟩) hS dX7_number_58 hlocks
  · skip
    have hG := hG.trans (if_neg c_5299)
    have gc_5299 := ti_ne c_5299 rfl kc_0
    replace gc_5299 : (-1) * iM_failed.toInt + 1 ≤ 0 := om_e3003f79 gc_5299 b_iM_failed.1
    refine lv_iload_n hx hb dX7_number_7 rfl (lv_at hl 1 rfl) ?_
    exact wq_i hx hb hr (cI p0) ⟨⟨trivial, (by first | omega | assumption)⟩, (cI_of p0)⟩ (fun t ht hW => ⟨iM_at, iM_end, iM_token, iM_whole, iM_nameSize, iM_fault, iM_place, iM_failed, fM_letters, ⟨b_iM_end.1, b_iM_end.2⟩, ⟨b_iM_nameSize.1, b_iM_nameSize.2⟩, ⟨b_iM_failed.1, b_iM_failed.2⟩, om_1cb5f934, r_T, om_1cb5f934, (fun h9 => False.elim (om_a5fe015d gc_5299 h9.1)), (cI_tup hG), Bw.to hP hD hK ht hW⟩) hS dX7_number_8 hlocks
set_option maxHeartbeats 4000000 in
set_option maxRecDepth 100000 in
theorem tX7_after (l : Launch) (dC : Nat → ClassId) (dI : Nat → Nat → Nat) (sz : Nat) (oM : Nat) (iM_thrown : Int32) (rM_tape : Nat) (fM_tape : Nat → Int32) (kM_tape : ClassId) (iM_taped : Int32) (iM_size : Int32) (iM_at : Int32) (iM_end : Int32) (iM_token : Int32) (iM_whole : Int32) (iM_nameSize : Int32) (iM_fault : Int32) (iM_place : Int32) (iM_trouble : Int32) (rM_letters : Nat) (fM_letters : Nat → Int32) (kM_letters : ClassId) (iM_failed : Int32) (iM_hasCourt : Int32) (rM_r : Nat) (rM_fresh : Nat) (rM_told : Nat) (rM_read : Nat) (rM_st : Nat) (rM_undone : Nat) (rM_kept : Nat) (iM_undos : Int32) (iM_images : Int32) (rM_fresher : Nat) (iM_fresherSize : Int32) (iM_scale : Int32) (iM_night : Int32) (rM_heardRow : Nat) (rM_cutRow : Nat) (iM_breaths : Int32) (iM_cutMany : Int32) (iM_allBreaths : Int32) (rM_trial : Nat) (rM_words : Nat) (iM_fewestBreaths : Int32) (iM_orderMany : Int32) (iM_orderSum : Int32) (iM_leastOrder : Int32) (rM_often : Nat) (iM_setMany : Int32) (iM_someOf : Int32) (iM_allOf : Int32) (iM_allWeight : Int64) (iM_enoughWeight : Int64) (iM_worthSum : Int64) (iM_firstRest : Int32) (iM_leastDrawn : Int32) (sA : Nat) (p0 : Int32) (p1 : Int32) (sV : Nat) (sN : Nat) (sF : Nat → Int32) (b_iM_taped : 0 ≤ iM_taped.toInt ∧ iM_taped.toInt ≤ 900) (b_iM_size : 0 ≤ iM_size.toInt ∧ iM_size.toInt ≤ 900) (b_iM_end : 0 ≤ iM_end.toInt ∧ iM_end.toInt ≤ 900) (b_iM_nameSize : 0 ≤ iM_nameSize.toInt ∧ iM_nameSize.toInt ≤ 900) (b_iM_failed : 0 ≤ iM_failed.toInt ∧ iM_failed.toInt ≤ 1) (b_iM_hasCourt : 0 ≤ iM_hasCourt.toInt ∧ iM_hasCourt.toInt ≤ 1) (b_iM_undos : 0 ≤ iM_undos.toInt ∧ iM_undos.toInt ≤ 16) (b_iM_images : 0 ≤ iM_images.toInt ∧ iM_images.toInt ≤ 3) (b_iM_scale : 1 ≤ iM_scale.toInt ∧ iM_scale.toInt ≤ 1296) (b_iM_breaths : 0 ≤ iM_breaths.toInt ∧ iM_breaths.toInt ≤ 399) (b_iM_cutMany : 0 ≤ iM_cutMany.toInt ∧ iM_cutMany.toInt ≤ 399) (r_T : ImpP (iM_token.toInt = 2) (iM_nameSize.toInt ≤ 8)) (hsn : sN ≤ 8) (hlh : p0.toInt ≤ p1.toInt) : Met l yX7_after (Cond.code yX7_after cX7_after 4 (some .int) :: wG) ({ frames := 7, cells := 0, slots := 0, locals := 176 }) (va_Pc [.ref oM, .ref sA, .int p0, .int p1] (Pq dC dI sz [(oc7 oM iM_thrown rM_tape iM_taped iM_size iM_at iM_end iM_token iM_whole iM_nameSize iM_fault iM_place iM_trouble rM_letters iM_failed iM_hasCourt rM_r rM_fresh rM_told rM_read rM_st rM_undone rM_kept iM_undos iM_images rM_fresher iM_fresherSize iM_scale iM_night rM_heardRow rM_cutRow iM_breaths iM_cutMany iM_allBreaths rM_trial rM_words iM_fewestBreaths iM_orderMany iM_orderSum iM_leastOrder rM_often iM_setMany iM_someOf iM_allOf iM_allWeight iM_enoughWeight iM_worthSum iM_firstRest iM_leastDrawn), (arI rM_tape kM_tape 900 fM_tape), (arI rM_letters kM_letters 8 fM_letters)] [(kM_tape, .int), (kM_letters, .int)] sA sV sN sF)) (va_Qi (fun (r : Int32) (u : Nat) => (True ∧ (p0.toInt ≤ r.toInt ∧ r.toInt ≤ p1.toInt)) ∧ r = Int32.ofNat u) (fun (u : Nat) (t : State) => ∃ (niM_at : Int32) (niM_end : Int32) (niM_token : Int32) (niM_whole : Int32) (niM_nameSize : Int32) (niM_fault : Int32) (niM_place : Int32) (niM_failed : Int32) (nfM_letters : Nat → Int32), (0 ≤ niM_end.toInt ∧ niM_end.toInt ≤ 900) ∧ (0 ≤ niM_nameSize.toInt ∧ niM_nameSize.toInt ≤ 900) ∧ (0 ≤ niM_failed.toInt ∧ niM_failed.toInt ≤ 1) ∧ (iM_end.toInt ≤ niM_end.toInt) ∧ (ImpP (niM_token.toInt = 2) (niM_nameSize.toInt ≤ 8)) ∧ (iM_failed.toInt ≤ niM_failed.toInt) ∧ (ImpP (niM_failed.toInt ≤ 0 ∧ niM_token.toInt = 59 ) (iM_end.toInt + 1 ≤ niM_end.toInt)) ∧ (PX7_after fM_tape iM_size iM_at iM_end iM_token iM_whole iM_nameSize iM_fault iM_place fM_letters iM_failed p0 p1 sN sF = (Int32.ofNat u, niM_at, niM_end, niM_token, niM_whole, niM_nameSize, niM_fault, niM_place, niM_failed, nfM_letters)) ∧ Bw dC dI (va_A [(oc7 oM iM_thrown rM_tape iM_taped iM_size iM_at iM_end iM_token iM_whole iM_nameSize iM_fault iM_place iM_trouble rM_letters iM_failed iM_hasCourt rM_r rM_fresh rM_told rM_read rM_st rM_undone rM_kept iM_undos iM_images rM_fresher iM_fresherSize iM_scale iM_night rM_heardRow rM_cutRow iM_breaths iM_cutMany iM_allBreaths rM_trial rM_words iM_fewestBreaths iM_orderMany iM_orderSum iM_leastOrder rM_often iM_setMany iM_someOf iM_allOf iM_allWeight iM_enoughWeight iM_worthSum iM_firstRest iM_leastDrawn), (arI rM_tape kM_tape 900 fM_tape), (arI rM_letters kM_letters 8 fM_letters)] sz) [(oc7 oM iM_thrown rM_tape iM_taped iM_size niM_at niM_end niM_token niM_whole niM_nameSize niM_fault niM_place iM_trouble rM_letters niM_failed iM_hasCourt rM_r rM_fresh rM_told rM_read rM_st rM_undone rM_kept iM_undos iM_images rM_fresher iM_fresherSize iM_scale iM_night rM_heardRow rM_cutRow iM_breaths iM_cutMany iM_allBreaths rM_trial rM_words iM_fewestBreaths iM_orderMany iM_orderSum iM_leastOrder rM_often iM_setMany iM_someOf iM_allOf iM_allWeight iM_enoughWeight iM_worthSum iM_firstRest iM_leastDrawn), (arI rM_tape kM_tape 900 fM_tape), (arI rM_letters kM_letters 8 nfM_letters)] [(kM_tape, .int), (kM_letters, .int)] t) (va_A [(oc7 oM iM_thrown rM_tape iM_taped iM_size iM_at iM_end iM_token iM_whole iM_nameSize iM_fault iM_place iM_trouble rM_letters iM_failed iM_hasCourt rM_r rM_fresh rM_told rM_read rM_st rM_undone rM_kept iM_undos iM_images rM_fresher iM_fresherSize iM_scale iM_night rM_heardRow rM_cutRow iM_breaths iM_cutMany iM_allBreaths rM_trial rM_words iM_fewestBreaths iM_orderMany iM_orderSum iM_leastOrder rM_often iM_setMany iM_someOf iM_allOf iM_allWeight iM_enoughWeight iM_worthSum iM_firstRest iM_leastDrawn), (arI rM_tape kM_tape 900 fM_tape), (arI rM_letters kM_letters 8 fM_letters)] sz)) 0 0 (va_A [(oc7 oM iM_thrown rM_tape iM_taped iM_size iM_at iM_end iM_token iM_whole iM_nameSize iM_fault iM_place iM_trouble rM_letters iM_failed iM_hasCourt rM_r rM_fresh rM_told rM_read rM_st rM_undone rM_kept iM_undos iM_images rM_fresher iM_fresherSize iM_scale iM_night rM_heardRow rM_cutRow iM_breaths iM_cutMany iM_allBreaths rM_trial rM_words iM_fewestBreaths iM_orderMany iM_orderSum iM_leastOrder rM_often iM_setMany iM_someOf iM_allOf iM_allWeight iM_enoughWeight iM_worthSum iM_firstRest iM_leastDrawn), (arI rM_tape kM_tape 900 fM_tape), (arI rM_letters kM_letters 8 fM_letters)] sz) := by
  refine Met.ofW (cc := cX7_after) (maxL := 4) (ret := (some .int)) pnX7 rfl ?_
  intro p e s m args below meth c s₁ B hml hv
  obtain ⟨rfl, ⟨hsz, hP, hK, hD0, hE⟩, hSw⟩ := hv
  have hx := B.exec
  have hb := B.bytes
  have hr := B.returns
  have hts : ∀ w ∈ wG, w.before ([.ref oM, .ref sA, .int p0, .int p1] : List Value).toArray s = true := fun w h => atoms_spec (ws := Cond.code yX7_after cX7_after 4 (some .int) :: wG) B.pre w (List.mem_cons_of_mem _ h)
  have hown : s.vm.findClass RX7 = some m.cls := own_of B.named rfl
  have hlocks := B.notSynchronized
  subst hsz
  have hD := hD0.self (sz := s.heap.size)
  generalize hAe : va_A [(oc7 oM iM_thrown rM_tape iM_taped iM_size iM_at iM_end iM_token iM_whole iM_nameSize iM_fault iM_place iM_trouble rM_letters iM_failed iM_hasCourt rM_r rM_fresh rM_told rM_read rM_st rM_undone rM_kept iM_undos iM_images rM_fresher iM_fresherSize iM_scale iM_night rM_heardRow rM_cutRow iM_breaths iM_cutMany iM_allBreaths rM_trial rM_words iM_fewestBreaths iM_orderMany iM_orderSum iM_leastOrder rM_often iM_setMany iM_someOf iM_allOf iM_allWeight iM_enoughWeight iM_worthSum iM_firstRest iM_leastDrawn), (arI rM_tape kM_tape 900 fM_tape), (arI rM_letters kM_letters 8 fM_letters)] s.heap.size = A at hD hE hSw ⊢
  have hA : ∀ q : Nat, s.heap.size ≤ q → A q := fun q h => by rw [← hAe]; exact Or.inr h
  have hS : va_S A s.heap s.heap [] := va_S.rf
  have hl := lv_entry ([.ref oM, .ref sA, .int p0, .int p1]) (n := 4) (Nat.le_of_ble_eq_true rfl)
  rw [lg_entry_eq]
  generalize (lg_sl ([.ref oM, .ref sA, .int p0, .int p1]) ++ List.replicate (4 - (lg_sl ([.ref oM, .ref sA, .int p0, .int p1])).length) Slot.unset).toArray = ls at hl ⊢
  have hl : lv_has ls 4 [(0, .ref oM), (1, .ref sA), (2, .int p0), (3, .int p1)] := hl
  have hG := PX7_after_eq fM_tape iM_size iM_at iM_end iM_token iM_whole iM_nameSize iM_fault iM_place fM_letters iM_failed p0 p1 sN sF
  have hsN9 : (sN : Int) ≤ 8 := Int.ofNat_le.mpr hsn
  have hsN0 : 0 ≤ (sN : Int) := Int.natCast_nonneg _
  refine lv_aload_n hx hb dX7_after_0 rfl (lv_at hl 0 rfl) ?_
  refine lv_aload_n hx hb dX7_after_1 rfl (lv_at hl 1 rfl) ?_
  have hFc := va_freeI hD hS hA
  refine va_callv (va_runV (As := [.ref sA]) (rest := []) ⟨hx, hb, hml, hown, hts⟩ (tX7_must l dC dI _ oM iM_thrown rM_tape fM_tape kM_tape iM_taped iM_size iM_at iM_end iM_token iM_whole iM_nameSize iM_fault iM_place iM_trouble rM_letters fM_letters kM_letters iM_failed iM_hasCourt rM_r rM_fresh rM_told rM_read rM_st rM_undone rM_kept iM_undos iM_images rM_fresher iM_fresherSize iM_scale iM_night rM_heardRow rM_cutRow iM_breaths iM_cutMany iM_allBreaths rM_trial rM_words iM_fewestBreaths iM_orderMany iM_orderSum iM_leastOrder rM_often iM_setMany iM_someOf iM_allOf iM_allWeight iM_enoughWeight iM_worthSum iM_firstRest iM_leastDrawn sA sV sN sF b_iM_taped b_iM_size b_iM_end b_iM_nameSize b_iM_failed b_iM_hasCourt b_iM_undos b_iM_images b_iM_scale b_iM_breaths b_iM_cutMany r_T hsn) (cwV 1 hts (wd_V wd_438 wd_439 wd_440 wd_5 (wd_c wd_441)) rfl rfl rfl dv_yX7_must_1 ⟨Nat.le_of_ble_eq_true rfl, Nat.le_of_ble_eq_true rfl⟩) ⟨Pq.fb, recvX7 hK hP (q0 := 0) rfl, fun U hU hW => Pq.to hP hD hK hSw hE hS hFc hU hW⟩ rfl rfl hl.1 rfl (lv_room (Nat.le_of_ble_eq_true rfl)) dX7_after_2 ⟨Nat.le_of_ble_eq_true rfl, Nat.le_of_ble_eq_true rfl⟩) hS (fun q _ h => hFc q h) hFc (fun u t H locs ht hvm hw hB hz1 hk1 hS => ?_)
  refine ex_9_8 hB (fun x_5338 x_5339 x_5340 x_5341 x_5342 x_5343 x_5344 x_5345 f_5346 b_x_5339 b_x_5342 b_x_5345 e_x_5338_0 e_x_5338_1 e_x_5338_2 e_x_5338_3 e_x_5338_4 hB => ?_)
  obtain ⟨hP, hD⟩ := Bw.goA (ws' := [(oc7 oM iM_thrown rM_tape iM_taped iM_size x_5338 x_5339 x_5340 x_5341 x_5342 x_5343 x_5344 iM_trouble rM_letters x_5345 iM_hasCourt rM_r rM_fresh rM_told rM_read rM_st rM_undone rM_kept iM_undos iM_images rM_fresher iM_fresherSize iM_scale iM_night rM_heardRow rM_cutRow iM_breaths iM_cutMany iM_allBreaths rM_trial rM_words iM_fewestBreaths iM_orderMany iM_orderSum iM_leastOrder rM_often iM_setMany iM_someOf iM_allOf iM_allWeight iM_enoughWeight iM_worthSum iM_firstRest iM_leastDrawn), (arI rM_tape kM_tape 900 fM_tape), (arI rM_letters kM_letters 8 f_5346)]) hB rfl ht hFc rfl
  clear hz1 hk1 hvm ht hB
  have hG := hG.trans (un9_eq e_x_5338_4)
  clear r_T
  refine lv_aload_n hx hb dX7_after_5 rfl (lv_at hl 0 rfl) ?_
  refine lv_iload_n hx hb dX7_after_6 rfl (lv_at hl 2 rfl) ?_
  refine lv_iload_n hx hb dX7_after_7 rfl (lv_at hl 3 rfl) ?_
  have hFc := va_freeI hD hS hA
  refine va_calli (va_runV (As := [.int p0, .int p1]) (rest := []) ⟨hx, hb, hml, hown, hts⟩ (tX7_number l dC dI _ oM iM_thrown rM_tape fM_tape kM_tape iM_taped iM_size x_5338 x_5339 x_5340 x_5341 x_5342 x_5343 x_5344 iM_trouble rM_letters f_5346 kM_letters x_5345 iM_hasCourt rM_r rM_fresh rM_told rM_read rM_st rM_undone rM_kept iM_undos iM_images rM_fresher iM_fresherSize iM_scale iM_night rM_heardRow rM_cutRow iM_breaths iM_cutMany iM_allBreaths rM_trial rM_words iM_fewestBreaths iM_orderMany iM_orderSum iM_leastOrder rM_often iM_setMany iM_someOf iM_allOf iM_allWeight iM_enoughWeight iM_worthSum iM_firstRest iM_leastDrawn p0 p1 b_iM_taped b_iM_size b_x_5339 b_x_5342 b_x_5345 b_iM_hasCourt b_iM_undos b_iM_images b_iM_scale b_iM_breaths b_iM_cutMany e_x_5338_1 hlh) (cwV 2 hts (wd_V wd_446 wd_447 wd_448 wd_5 (wd_c wd_449)) rfl rfl rfl dv_yX7_number_2 ⟨Nat.le_of_ble_eq_true rfl, Nat.le_of_ble_eq_true rfl⟩) ⟨Pw.fb, recvX7 hK hP (q0 := 0) rfl, fun U hU hW => Pw.to hP hD hK hE hS hFc hU hW⟩ rfl rfl hl.1 rfl (lv_room (Nat.le_of_ble_eq_true rfl)) dX7_after_8 ⟨Nat.le_of_ble_eq_true rfl, Nat.le_of_ble_eq_true rfl⟩) hS (fun q _ h => hFc q h) hFc (fun r u t H locs ht hvm hw hB hz1 hk1 hS => ?_)
  have hru9 := hw.2
  have hw := hw.1
  refine ex_9_8 hB (fun x_5347 x_5348 x_5349 x_5350 x_5351 x_5352 x_5353 x_5354 f_5355 b_x_5348 b_x_5351 b_x_5354 e_x_5347_0 e_x_5347_1 e_x_5347_2 e_x_5347_3 e_x_5347_4 hB => ?_)
  obtain ⟨hP, hD⟩ := Bw.goA (ws' := [(oc7 oM iM_thrown rM_tape iM_taped iM_size x_5347 x_5348 x_5349 x_5350 x_5351 x_5352 x_5353 iM_trouble rM_letters x_5354 iM_hasCourt rM_r rM_fresh rM_told rM_read rM_st rM_undone rM_kept iM_undos iM_images rM_fresher iM_fresherSize iM_scale iM_night rM_heardRow rM_cutRow iM_breaths iM_cutMany iM_allBreaths rM_trial rM_words iM_fewestBreaths iM_orderMany iM_orderSum iM_leastOrder rM_often iM_setMany iM_someOf iM_allOf iM_allWeight iM_enoughWeight iM_worthSum iM_firstRest iM_leastDrawn), (arI rM_tape kM_tape 900 fM_tape), (arI rM_letters kM_letters 8 f_5355)]) hB rfl ht hFc rfl
  clear hz1 hk1 hvm ht hB
  rw [← hru9] at e_x_5347_4
  obtain ⟨x_5356, rfl⟩ : ∃ z, z = r := ⟨_, rfl⟩
  have hG := hG.trans (un10_eq e_x_5347_4)
  have lx_5356 := hw.2
  clear e_x_5338_1
  clear e_x_5338_3
  exact wq_i hx hb hr (cI x_5356) ⟨⟨trivial, (by first | omega | assumption)⟩, (cI_of x_5356)⟩ (fun t ht hW => ⟨x_5347, x_5348, x_5349, x_5350, x_5351, x_5352, x_5353, x_5354, f_5355, b_x_5348, b_x_5351, b_x_5354, (om_9348f5ae e_x_5338_0 e_x_5347_0), e_x_5347_1, (om_9348f5ae e_x_5338_2 e_x_5347_2), (fun h9 => (om_7ed234da e_x_5338_0 (e_x_5347_3 ⟨h9.1, h9.2⟩))), (cI_tup hG), Bw.to hP hD hK ht hW⟩) hS dX7_after_11 hlocks
set_option maxHeartbeats 4000000 in
set_option maxRecDepth 100000 in
theorem tX7_begins (l : Launch) (dC : Nat → ClassId) (dI : Nat → Nat → Nat) (sz : Nat) (oM : Nat) (iM_thrown : Int32) (rM_tape : Nat) (fM_tape : Nat → Int32) (kM_tape : ClassId) (iM_taped : Int32) (iM_size : Int32) (iM_at : Int32) (iM_end : Int32) (iM_token : Int32) (iM_whole : Int32) (iM_nameSize : Int32) (iM_fault : Int32) (iM_place : Int32) (iM_trouble : Int32) (rM_letters : Nat) (fM_letters : Nat → Int32) (kM_letters : ClassId) (iM_failed : Int32) (iM_hasCourt : Int32) (rM_r : Nat) (rM_fresh : Nat) (fM_fresh : Nat → Int32) (kM_fresh : ClassId) (rM_told : Nat) (rM_read : Nat) (fM_read : Nat → Int32) (kM_read : ClassId) (rM_st : Nat) (rM_undone : Nat) (rM_kept : Nat) (iM_undos : Int32) (iM_images : Int32) (rM_fresher : Nat) (iM_fresherSize : Int32) (iM_scale : Int32) (iM_night : Int32) (rM_heardRow : Nat) (rM_cutRow : Nat) (iM_breaths : Int32) (iM_cutMany : Int32) (iM_allBreaths : Int32) (rM_trial : Nat) (rM_words : Nat) (iM_fewestBreaths : Int32) (iM_orderMany : Int32) (iM_orderSum : Int32) (iM_leastOrder : Int32) (rM_often : Nat) (iM_setMany : Int32) (iM_someOf : Int32) (iM_allOf : Int32) (iM_allWeight : Int64) (iM_enoughWeight : Int64) (iM_worthSum : Int64) (iM_firstRest : Int32) (iM_leastDrawn : Int32) (sA : Nat) (p0 : Int32) (sV : Nat) (sN : Nat) (sF : Nat → Int32) (b_iM_taped : 0 ≤ iM_taped.toInt ∧ iM_taped.toInt ≤ 900) (b_iM_size : 0 ≤ iM_size.toInt ∧ iM_size.toInt ≤ 900) (b_iM_end : 0 ≤ iM_end.toInt ∧ iM_end.toInt ≤ 900) (b_iM_nameSize : 0 ≤ iM_nameSize.toInt ∧ iM_nameSize.toInt ≤ 900) (b_iM_failed : 0 ≤ iM_failed.toInt ∧ iM_failed.toInt ≤ 1) (b_iM_hasCourt : 0 ≤ iM_hasCourt.toInt ∧ iM_hasCourt.toInt ≤ 1) (b_iM_undos : 0 ≤ iM_undos.toInt ∧ iM_undos.toInt ≤ 16) (b_iM_images : 0 ≤ iM_images.toInt ∧ iM_images.toInt ≤ 3) (b_iM_scale : 1 ≤ iM_scale.toInt ∧ iM_scale.toInt ≤ 1296) (b_iM_breaths : 0 ≤ iM_breaths.toInt ∧ iM_breaths.toInt ≤ 399) (b_iM_cutMany : 0 ≤ iM_cutMany.toInt ∧ iM_cutMany.toInt ≤ 399) (r_T : ImpP (iM_token.toInt = 2) (iM_nameSize.toInt ≤ 8)) (r_P : POk fM_fresh fM_read) (hsn : sN ≤ 8) (hp0 : 0 ≤ p0.toInt ∧ p0.toInt ≤ 1) : Met l yX7_begins (Cond.code yX7_begins cX7_begins 3 (some .boolean) :: wG) ({ frames := 5, cells := 0, slots := 0, locals := 134 }) (va_Pc [.ref oM, .ref sA, .int p0] (Pq dC dI sz [(oc7 oM iM_thrown rM_tape iM_taped iM_size iM_at iM_end iM_token iM_whole iM_nameSize iM_fault iM_place iM_trouble rM_letters iM_failed iM_hasCourt rM_r rM_fresh rM_told rM_read rM_st rM_undone rM_kept iM_undos iM_images rM_fresher iM_fresherSize iM_scale iM_night rM_heardRow rM_cutRow iM_breaths iM_cutMany iM_allBreaths rM_trial rM_words iM_fewestBreaths iM_orderMany iM_orderSum iM_leastOrder rM_often iM_setMany iM_someOf iM_allOf iM_allWeight iM_enoughWeight iM_worthSum iM_firstRest iM_leastDrawn), (arI rM_tape kM_tape 900 fM_tape), (arI rM_letters kM_letters 8 fM_letters), (arI rM_fresh kM_fresh 287 fM_fresh), (arI rM_read kM_read 90 fM_read)] [(kM_tape, .int), (kM_letters, .int), (kM_fresh, .int), (kM_read, .int)] sA sV sN sF)) (va_Qi (fun (r : Int32) (u : Nat) => ((r = 0 ∨ r = 1) ∧ (r.toInt = (u : Int))) ∧ r = Int32.ofNat u) (fun (u : Nat) (t : State) => ∃ (niM_at : Int32) (niM_end : Int32) (niM_token : Int32) (niM_whole : Int32) (niM_nameSize : Int32) (niM_fault : Int32) (niM_place : Int32) (niM_failed : Int32) (nfM_letters : Nat → Int32), (0 ≤ niM_end.toInt ∧ niM_end.toInt ≤ 900) ∧ (0 ≤ niM_nameSize.toInt ∧ niM_nameSize.toInt ≤ 900) ∧ (0 ≤ niM_failed.toInt ∧ niM_failed.toInt ≤ 1) ∧ (iM_end.toInt ≤ niM_end.toInt) ∧ (ImpP (niM_token.toInt = 2) (niM_nameSize.toInt ≤ 8)) ∧ (iM_failed.toInt ≤ niM_failed.toInt) ∧ (ImpP ((u : Int) = 1) (iM_token.toInt = 2 ∧ (1 ≤ p0.toInt ∨ 1 ≤ niM_failed.toInt))) ∧ (ImpP ((u : Int) = 1 ∧ niM_failed.toInt ≤ 0 ∧ niM_token.toInt = 59 ) (iM_end.toInt + 1 ≤ niM_end.toInt)) ∧ (PX7_begins fM_tape iM_size iM_at iM_end iM_token iM_whole iM_nameSize iM_fault iM_place fM_letters iM_failed fM_fresh p0 sN sF = (Int32.ofNat u, niM_at, niM_end, niM_token, niM_whole, niM_nameSize, niM_fault, niM_place, niM_failed, nfM_letters)) ∧ Bw dC dI (va_A [(oc7 oM iM_thrown rM_tape iM_taped iM_size iM_at iM_end iM_token iM_whole iM_nameSize iM_fault iM_place iM_trouble rM_letters iM_failed iM_hasCourt rM_r rM_fresh rM_told rM_read rM_st rM_undone rM_kept iM_undos iM_images rM_fresher iM_fresherSize iM_scale iM_night rM_heardRow rM_cutRow iM_breaths iM_cutMany iM_allBreaths rM_trial rM_words iM_fewestBreaths iM_orderMany iM_orderSum iM_leastOrder rM_often iM_setMany iM_someOf iM_allOf iM_allWeight iM_enoughWeight iM_worthSum iM_firstRest iM_leastDrawn), (arI rM_tape kM_tape 900 fM_tape), (arI rM_letters kM_letters 8 fM_letters), (arI rM_fresh kM_fresh 287 fM_fresh), (arI rM_read kM_read 90 fM_read)] sz) [(oc7 oM iM_thrown rM_tape iM_taped iM_size niM_at niM_end niM_token niM_whole niM_nameSize niM_fault niM_place iM_trouble rM_letters niM_failed iM_hasCourt rM_r rM_fresh rM_told rM_read rM_st rM_undone rM_kept iM_undos iM_images rM_fresher iM_fresherSize iM_scale iM_night rM_heardRow rM_cutRow iM_breaths iM_cutMany iM_allBreaths rM_trial rM_words iM_fewestBreaths iM_orderMany iM_orderSum iM_leastOrder rM_often iM_setMany iM_someOf iM_allOf iM_allWeight iM_enoughWeight iM_worthSum iM_firstRest iM_leastDrawn), (arI rM_tape kM_tape 900 fM_tape), (arI rM_letters kM_letters 8 nfM_letters), (arI rM_fresh kM_fresh 287 fM_fresh), (arI rM_read kM_read 90 fM_read)] [(kM_tape, .int), (kM_letters, .int), (kM_fresh, .int), (kM_read, .int)] t) (va_A [(oc7 oM iM_thrown rM_tape iM_taped iM_size iM_at iM_end iM_token iM_whole iM_nameSize iM_fault iM_place iM_trouble rM_letters iM_failed iM_hasCourt rM_r rM_fresh rM_told rM_read rM_st rM_undone rM_kept iM_undos iM_images rM_fresher iM_fresherSize iM_scale iM_night rM_heardRow rM_cutRow iM_breaths iM_cutMany iM_allBreaths rM_trial rM_words iM_fewestBreaths iM_orderMany iM_orderSum iM_leastOrder rM_often iM_setMany iM_someOf iM_allOf iM_allWeight iM_enoughWeight iM_worthSum iM_firstRest iM_leastDrawn), (arI rM_tape kM_tape 900 fM_tape), (arI rM_letters kM_letters 8 fM_letters), (arI rM_fresh kM_fresh 287 fM_fresh), (arI rM_read kM_read 90 fM_read)] sz)) 0 0 (va_A [(oc7 oM iM_thrown rM_tape iM_taped iM_size iM_at iM_end iM_token iM_whole iM_nameSize iM_fault iM_place iM_trouble rM_letters iM_failed iM_hasCourt rM_r rM_fresh rM_told rM_read rM_st rM_undone rM_kept iM_undos iM_images rM_fresher iM_fresherSize iM_scale iM_night rM_heardRow rM_cutRow iM_breaths iM_cutMany iM_allBreaths rM_trial rM_words iM_fewestBreaths iM_orderMany iM_orderSum iM_leastOrder rM_often iM_setMany iM_someOf iM_allOf iM_allWeight iM_enoughWeight iM_worthSum iM_firstRest iM_leastDrawn), (arI rM_tape kM_tape 900 fM_tape), (arI rM_letters kM_letters 8 fM_letters), (arI rM_fresh kM_fresh 287 fM_fresh), (arI rM_read kM_read 90 fM_read)] sz) := by
  refine Met.ofW (cc := cX7_begins) (maxL := 3) (ret := (some .boolean)) pnX7 rfl ?_
  intro p e s m args below meth c s₁ B hml hv
  obtain ⟨rfl, ⟨hsz, hP, hK, hD0, hE⟩, hSw⟩ := hv
  have hx := B.exec
  have hb := B.bytes
  have hr := B.returns
  have hts : ∀ w ∈ wG, w.before ([.ref oM, .ref sA, .int p0] : List Value).toArray s = true := fun w h => atoms_spec (ws := Cond.code yX7_begins cX7_begins 3 (some .boolean) :: wG) B.pre w (List.mem_cons_of_mem _ h)
  have hown : s.vm.findClass RX7 = some m.cls := own_of B.named rfl
  have hlocks := B.notSynchronized
  subst hsz
  have hD := hD0.self (sz := s.heap.size)
  generalize hAe : va_A [(oc7 oM iM_thrown rM_tape iM_taped iM_size iM_at iM_end iM_token iM_whole iM_nameSize iM_fault iM_place iM_trouble rM_letters iM_failed iM_hasCourt rM_r rM_fresh rM_told rM_read rM_st rM_undone rM_kept iM_undos iM_images rM_fresher iM_fresherSize iM_scale iM_night rM_heardRow rM_cutRow iM_breaths iM_cutMany iM_allBreaths rM_trial rM_words iM_fewestBreaths iM_orderMany iM_orderSum iM_leastOrder rM_often iM_setMany iM_someOf iM_allOf iM_allWeight iM_enoughWeight iM_worthSum iM_firstRest iM_leastDrawn), (arI rM_tape kM_tape 900 fM_tape), (arI rM_letters kM_letters 8 fM_letters), (arI rM_fresh kM_fresh 287 fM_fresh), (arI rM_read kM_read 90 fM_read)] s.heap.size = A at hD hE hSw ⊢
  have hA : ∀ q : Nat, s.heap.size ≤ q → A q := fun q h => by rw [← hAe]; exact Or.inr h
  have hS : va_S A s.heap s.heap [] := va_S.rf
  have hl := lv_entry ([.ref oM, .ref sA, .int p0]) (n := 3) (Nat.le_of_ble_eq_true rfl)
  rw [lg_entry_eq]
  generalize (lg_sl ([.ref oM, .ref sA, .int p0]) ++ List.replicate (3 - (lg_sl ([.ref oM, .ref sA, .int p0])).length) Slot.unset).toArray = ls at hl ⊢
  have hl : lv_has ls 3 [(0, .ref oM), (1, .ref sA), (2, .int p0)] := hl
  have hG := PX7_begins_eq fM_tape iM_size iM_at iM_end iM_token iM_whole iM_nameSize iM_fault iM_place fM_letters iM_failed fM_fresh p0 sN sF
  have hsN9 : (sN : Int) ≤ 8 := Int.ofNat_le.mpr hsn
  have hsN0 : 0 ≤ (sN : Int) := Int.natCast_nonneg _
  have pl_fM_fresh := r_P.lins
  refine lv_aload_n hx hb dX7_begins_0 rfl (lv_at hl 0 rfl) ?_
  refine lv_aload_n hx hb dX7_begins_1 rfl (lv_at hl 1 rfl) ?_
  have hMs := ml_of hD [true, false, true, false, false] (wc := [(oc7 oM iM_thrown rM_tape iM_taped iM_size iM_at iM_end iM_token iM_whole iM_nameSize iM_fault iM_place iM_trouble rM_letters iM_failed iM_hasCourt rM_r rM_fresh rM_told rM_read rM_st rM_undone rM_kept iM_undos iM_images rM_fresher iM_fresherSize iM_scale iM_night rM_heardRow rM_cutRow iM_breaths iM_cutMany iM_allBreaths rM_trial rM_words iM_fewestBreaths iM_orderMany iM_orderSum iM_leastOrder rM_often iM_setMany iM_someOf iM_allOf iM_allWeight iM_enoughWeight iM_worthSum iM_firstRest iM_leastDrawn), (arI rM_letters kM_letters 8 fM_letters)]) rfl
  have hFc := va_freeM hD hS hA _ hMs
  refine va_calli (va_runV (As := [.ref sA]) (rest := []) ⟨hx, hb, hml, hown, hts⟩ (tX7_isWord l dC dI _ oM iM_thrown rM_tape iM_taped iM_size iM_at iM_end iM_token iM_whole iM_nameSize iM_fault iM_place iM_trouble rM_letters fM_letters kM_letters iM_failed iM_hasCourt rM_r rM_fresh rM_told rM_read rM_st rM_undone rM_kept iM_undos iM_images rM_fresher iM_fresherSize iM_scale iM_night rM_heardRow rM_cutRow iM_breaths iM_cutMany iM_allBreaths rM_trial rM_words iM_fewestBreaths iM_orderMany iM_orderSum iM_leastOrder rM_often iM_setMany iM_someOf iM_allOf iM_allWeight iM_enoughWeight iM_worthSum iM_firstRest iM_leastDrawn sA sV sN sF b_iM_taped b_iM_size b_iM_end b_iM_nameSize b_iM_failed b_iM_hasCourt b_iM_undos b_iM_images b_iM_scale b_iM_breaths b_iM_cutMany r_T hsn) (cwV 1 hts (wd_V wd_420 wd_421 wd_422 wd_5 (wd_c wd_423)) rfl rfl rfl dv_yX7_isWord_1 ⟨Nat.le_of_ble_eq_true rfl, Nat.le_of_ble_eq_true rfl⟩) ⟨Pq.fb, recvX7 hK hP (q0 := 0) rfl, fun U hU hW => Pq.to (hP.ms _ hMs) (hD.ms _ hMs) (hK.ms [false, true, false, false] rfl) hSw hE hS hFc hU hW⟩ rfl rfl hl.1 rfl (lv_room (Nat.le_of_ble_eq_true rfl)) dX7_begins_2 ⟨Nat.le_of_ble_eq_true rfl, Nat.le_of_ble_eq_true rfl⟩) hS (fun q _ h => hFc q h) hFc (fun r u t H locs ht hvm hw hB hz1 hk1 hS => ?_)
  have hru9 := hw.2
  have hw := hw.1
  obtain ⟨hP, hD⟩ := Bw.goN (ws' := [(oc7 oM iM_thrown rM_tape iM_taped iM_size iM_at iM_end iM_token iM_whole iM_nameSize iM_fault iM_place iM_trouble rM_letters iM_failed iM_hasCourt rM_r rM_fresh rM_told rM_read rM_st rM_undone rM_kept iM_undos iM_images rM_fresher iM_fresherSize iM_scale iM_night rM_heardRow rM_cutRow iM_breaths iM_cutMany iM_allBreaths rM_trial rM_words iM_fewestBreaths iM_orderMany iM_orderSum iM_leastOrder rM_often iM_setMany iM_someOf iM_allOf iM_allWeight iM_enoughWeight iM_worthSum iM_firstRest iM_leastDrawn), (arI rM_tape kM_tape 900 fM_tape), (arI rM_letters kM_letters 8 fM_letters), (arI rM_fresh kM_fresh 287 fM_fresh), (arI rM_read kM_read 90 fM_read)]) hB rfl ht hP hD _ hMs hk1 hFc rfl
  clear hz1 hk1 hvm ht hB hMs
  obtain ⟨x_5399, rfl⟩ : ∃ z, z = r := ⟨_, rfl⟩
  have hG := hG.trans (lt_eq hru9.symm)
  have bx_5399 := hw.1
  have dx_5399 := bz_tb bx_5399
  have lx_5399 := hw.2
  refine lv_if_ne (tgt := 10) hx hb dX7_begins_5 (by decide) (fun c_5400 => ?_) (fun c_5400 => ?_)
  · skip
    have hG := hG.trans (if_neg c_5400)
    have gc_5400 := ti_ne c_5400 rfl kc_0
    replace gc_5400 : (-1) * x_5399.toInt + 1 ≤ 0 := om_e3003f79 gc_5400 dx_5399.1
    have h_5401 : iM_token.toInt = 2 := lx_5399 (om_7907a7c1 dx_5399.2 gc_5400)
    clear lx_5399
    have h_5402 : iM_nameSize.toInt ≤ 8 := r_T h_5401
    clear r_T
    refine lv_iload_n hx hb dX7_begins_10 rfl (lv_at hl 2 rfl) ?_
    refine lv_if_ne (tgt := 23) hx hb dX7_begins_11 (by decide) (fun c_5403 => ?_) (fun c_5403 => ?_)
    · skip
      have hG := hG.trans (if_neg c_5403)
      have gc_5403 := ti_ne c_5403 rfl kc_0
      replace gc_5403 : (-1) * p0.toInt + 1 ≤ 0 := om_e3003f79 gc_5403 hp0.1
      refine lv_aload_n hx hb dX7_begins_23 rfl (lv_at hl 0 rfl) ?_
      refine va_get (D := (dC, dI)) (ci := 7) (v := .ref rM_fresh) (C := RX7) (T := TX7) (N := 48) hx hb hts inX7 hown hK hP 0 rfl rfl 16 (by decide) (hts _ wd_156) (fun _ h9 => h9) rfl dX7_begins_24 ?_
      refine lv_iconst (v := 5) hx hb dX7_begins_27 (by decide) ?_
      refine va_iald hx hb hK hP 3 2 rfl rfl (by unfold vp_in; decide) dX7_begins_28 ?_
      refine lv_topi (fun x_5404 ex_5404 => ?_)
      have hG := hG.trans (lt_eq ex_5404)
      have cx_5404 : (fM_fresh 5).toInt = x_5404.toInt := congrArg Int32.toInt (show fM_fresh 5 = x_5404 from ex_5404.symm)
      refine lv_if_ne (tgt := 42) hx hb dX7_begins_29 (by decide) (fun c_5405 => ?_) (fun c_5405 => ?_)
      · skip
        have hG := hG.trans (if_neg c_5405)
        have gc_5405 := ti_ne c_5405 rfl kc_0
        refine lv_aload_n hx hb dX7_begins_42 rfl (lv_at hl 0 rfl) ?_
        have hMs := ml_of hD [true, true, true, false, false] (wc := [(oc7 oM iM_thrown rM_tape iM_taped iM_size iM_at iM_end iM_token iM_whole iM_nameSize iM_fault iM_place iM_trouble rM_letters iM_failed iM_hasCourt rM_r rM_fresh rM_told rM_read rM_st rM_undone rM_kept iM_undos iM_images rM_fresher iM_fresherSize iM_scale iM_night rM_heardRow rM_cutRow iM_breaths iM_cutMany iM_allBreaths rM_trial rM_words iM_fewestBreaths iM_orderMany iM_orderSum iM_leastOrder rM_often iM_setMany iM_someOf iM_allOf iM_allWeight iM_enoughWeight iM_worthSum iM_firstRest iM_leastDrawn), (arI rM_tape kM_tape 900 fM_tape), (arI rM_letters kM_letters 8 fM_letters)]) rfl
        have hFc := va_freeM hD hS hA _ hMs
        refine va_callv (va_runV (As := []) (rest := []) ⟨hx, hb, hml, hown, hts⟩ (tX7_pass l dC dI _ oM iM_thrown rM_tape fM_tape kM_tape iM_taped iM_size iM_at iM_end iM_token iM_whole iM_nameSize iM_fault iM_place iM_trouble rM_letters fM_letters kM_letters iM_failed iM_hasCourt rM_r rM_fresh rM_told rM_read rM_st rM_undone rM_kept iM_undos iM_images rM_fresher iM_fresherSize iM_scale iM_night rM_heardRow rM_cutRow iM_breaths iM_cutMany iM_allBreaths rM_trial rM_words iM_fewestBreaths iM_orderMany iM_orderSum iM_leastOrder rM_often iM_setMany iM_someOf iM_allOf iM_allWeight iM_enoughWeight iM_worthSum iM_firstRest iM_leastDrawn b_iM_taped b_iM_size b_iM_end b_iM_nameSize b_iM_failed b_iM_hasCourt b_iM_undos b_iM_images b_iM_scale b_iM_breaths b_iM_cutMany (fun h9 => h_5402)) (cwV 0 hts (wd_V wd_454 wd_455 wd_456 wd_5 (wd_c wd_457)) rfl rfl rfl dv_yX7_pass_0 ⟨Nat.le_of_ble_eq_true rfl, Nat.le_of_ble_eq_true rfl⟩) ⟨Pw.fb, recvX7 hK hP (q0 := 0) rfl, fun U hU hW => Pw.to (hP.ms _ hMs) (hD.ms _ hMs) (hK.ms [true, true, false, false] rfl) hE hS hFc hU hW⟩ rfl rfl hl.1 rfl (lv_room (Nat.le_of_ble_eq_true rfl)) dX7_begins_43 ⟨Nat.le_of_ble_eq_true rfl, Nat.le_of_ble_eq_true rfl⟩) hS (fun q _ h => hFc q h) hFc (fun u t H locs ht hvm hw hB hz1 hk1 hS => ?_)
        refine ex_6_6 hB (fun x_5406 x_5407 x_5408 x_5409 x_5410 f_5411 b_x_5407 b_x_5410 e_x_5406_0 e_x_5406_1 e_x_5406_2 e_x_5406_3 hB => ?_)
        obtain ⟨hP, hD⟩ := Bw.goN (ws' := [(oc7 oM iM_thrown rM_tape iM_taped iM_size x_5406 x_5407 x_5408 x_5409 x_5410 iM_fault iM_place iM_trouble rM_letters iM_failed iM_hasCourt rM_r rM_fresh rM_told rM_read rM_st rM_undone rM_kept iM_undos iM_images rM_fresher iM_fresherSize iM_scale iM_night rM_heardRow rM_cutRow iM_breaths iM_cutMany iM_allBreaths rM_trial rM_words iM_fewestBreaths iM_orderMany iM_orderSum iM_leastOrder rM_often iM_setMany iM_someOf iM_allOf iM_allWeight iM_enoughWeight iM_worthSum iM_firstRest iM_leastDrawn), (arI rM_tape kM_tape 900 fM_tape), (arI rM_letters kM_letters 8 f_5411), (arI rM_fresh kM_fresh 287 fM_fresh), (arI rM_read kM_read 90 fM_read)]) hB rfl ht hP hD _ hMs hk1 hFc rfl
        clear hz1 hk1 hvm ht hB hMs
        have hG := hG.trans (un6_eq e_x_5406_3)
        refine lv_iconst (v := 1) hx hb dX7_begins_46 (by decide) ?_
        exact wq_z (v := 1) hx hb hr rfl 1 ⟨⟨Or.inr rfl, (by decide)⟩, (by decide)⟩ (fun t ht hW => ⟨x_5406, x_5407, x_5408, x_5409, x_5410, iM_fault, iM_place, iM_failed, f_5411, b_x_5407, b_x_5410, ⟨b_iM_failed.1, b_iM_failed.2⟩, e_x_5406_0, e_x_5406_1, om_1cb5f934, (by first | assumption | exact (fun h9 => by have q0 := kc_0; have q1 := kc_1; omega)), (fun h9 => by have q0 := kc_0; have q1 := kc_1; have q9 := e_x_5406_2 (by omega); omega), hG, Bw.to hP hD hK ht hW⟩) hS dX7_begins_47 hlocks
      · skip
        have hG := hG.trans (if_pos c_5405)
        have gc_5405 := ti_eq c_5405 rfl kc_0
        refine lv_aload_n hx hb dX7_begins_32 rfl (lv_at hl 0 rfl) ?_
        refine lv_bipush (v := 6) hx hb dX7_begins_33 (by decide) ?_
        refine lv_aload_n hx hb dX7_begins_35 rfl (lv_at hl 0 rfl) ?_
        refine va_get (D := (dC, dI)) (ci := 7) (v := .int iM_at) (C := RX7) (T := TX7) (N := 48) hx hb hts inX7 hown hK hP 0 rfl rfl 4 (by decide) (hts _ wd_384) (fun _ h9 => h9) rfl dX7_begins_36 ?_
        have hMs := ml_of hD [true, false, false, false, false] (wc := [(oc7 oM iM_thrown rM_tape iM_taped iM_size iM_at iM_end iM_token iM_whole iM_nameSize iM_fault iM_place iM_trouble rM_letters iM_failed iM_hasCourt rM_r rM_fresh rM_told rM_read rM_st rM_undone rM_kept iM_undos iM_images rM_fresher iM_fresherSize iM_scale iM_night rM_heardRow rM_cutRow iM_breaths iM_cutMany iM_allBreaths rM_trial rM_words iM_fewestBreaths iM_orderMany iM_orderSum iM_leastOrder rM_often iM_setMany iM_someOf iM_allOf iM_allWeight iM_enoughWeight iM_worthSum iM_firstRest iM_leastDrawn)]) rfl
        have hFc := va_freeM hD hS hA _ hMs
        refine va_callv (va_runV (As := [.int 6, .int iM_at]) (rest := []) ⟨hx, hb, hml, hown, hts⟩ (tX7_wrong l dC dI _ oM iM_thrown rM_tape iM_taped iM_size iM_at iM_end iM_token iM_whole iM_nameSize iM_fault iM_place iM_trouble rM_letters iM_failed iM_hasCourt rM_r rM_fresh rM_told rM_read rM_st rM_undone rM_kept iM_undos iM_images rM_fresher iM_fresherSize iM_scale iM_night rM_heardRow rM_cutRow iM_breaths iM_cutMany iM_allBreaths rM_trial rM_words iM_fewestBreaths iM_orderMany iM_orderSum iM_leastOrder rM_often iM_setMany iM_someOf iM_allOf iM_allWeight iM_enoughWeight iM_worthSum iM_firstRest iM_leastDrawn 6 iM_at b_iM_taped b_iM_size b_iM_end b_iM_nameSize b_iM_failed b_iM_hasCourt b_iM_undos b_iM_images b_iM_scale b_iM_breaths b_iM_cutMany (fun h9 => h_5402)) (cwV 2 hts (wd_V wd_430 wd_431 wd_432 wd_5 (wd_c wd_433)) rfl rfl rfl dv_yX7_wrong_2 ⟨Nat.le_of_ble_eq_true rfl, Nat.le_of_ble_eq_true rfl⟩) ⟨Pw.fb, recvX7 hK hP (q0 := 0) rfl, fun U hU hW => Pw.to (hP.ms _ hMs) (hD.ms _ hMs) (hK.ms [false, false, false, false] rfl) hE hS hFc hU hW⟩ rfl rfl hl.1 rfl (lv_room (Nat.le_of_ble_eq_true rfl)) dX7_begins_39 ⟨Nat.le_of_ble_eq_true rfl, Nat.le_of_ble_eq_true rfl⟩) hS (fun q _ h => hFc q h) hFc (fun u t H locs ht hvm hw hB hz1 hk1 hS => ?_)
        refine ex_3_3 hB (fun x_5412 x_5413 x_5414 b_x_5414 e_x_5412_0 e_x_5412_1 hB => ?_)
        obtain ⟨hP, hD⟩ := Bw.goN (ws' := [(oc7 oM iM_thrown rM_tape iM_taped iM_size iM_at iM_end iM_token iM_whole iM_nameSize x_5412 x_5413 iM_trouble rM_letters x_5414 iM_hasCourt rM_r rM_fresh rM_told rM_read rM_st rM_undone rM_kept iM_undos iM_images rM_fresher iM_fresherSize iM_scale iM_night rM_heardRow rM_cutRow iM_breaths iM_cutMany iM_allBreaths rM_trial rM_words iM_fewestBreaths iM_orderMany iM_orderSum iM_leastOrder rM_often iM_setMany iM_someOf iM_allOf iM_allWeight iM_enoughWeight iM_worthSum iM_firstRest iM_leastDrawn), (arI rM_tape kM_tape 900 fM_tape), (arI rM_letters kM_letters 8 fM_letters), (arI rM_fresh kM_fresh 287 fM_fresh), (arI rM_read kM_read 90 fM_read)]) hB rfl ht hP hD _ hMs hk1 hFc rfl
        clear hz1 hk1 hvm ht hB hMs
        have hG := hG.trans (un3_eq e_x_5412_1)
        refine lv_aload_n hx hb dX7_begins_42 rfl (lv_at hl 0 rfl) ?_
        have hMs := ml_of hD [true, true, true, false, false] (wc := [(oc7 oM iM_thrown rM_tape iM_taped iM_size iM_at iM_end iM_token iM_whole iM_nameSize x_5412 x_5413 iM_trouble rM_letters x_5414 iM_hasCourt rM_r rM_fresh rM_told rM_read rM_st rM_undone rM_kept iM_undos iM_images rM_fresher iM_fresherSize iM_scale iM_night rM_heardRow rM_cutRow iM_breaths iM_cutMany iM_allBreaths rM_trial rM_words iM_fewestBreaths iM_orderMany iM_orderSum iM_leastOrder rM_often iM_setMany iM_someOf iM_allOf iM_allWeight iM_enoughWeight iM_worthSum iM_firstRest iM_leastDrawn), (arI rM_tape kM_tape 900 fM_tape), (arI rM_letters kM_letters 8 fM_letters)]) rfl
        have hFc := va_freeM hD hS hA _ hMs
        refine va_callv (va_runV (As := []) (rest := []) ⟨hx, hb, hml, hown, hts⟩ (tX7_pass l dC dI _ oM iM_thrown rM_tape fM_tape kM_tape iM_taped iM_size iM_at iM_end iM_token iM_whole iM_nameSize x_5412 x_5413 iM_trouble rM_letters fM_letters kM_letters x_5414 iM_hasCourt rM_r rM_fresh rM_told rM_read rM_st rM_undone rM_kept iM_undos iM_images rM_fresher iM_fresherSize iM_scale iM_night rM_heardRow rM_cutRow iM_breaths iM_cutMany iM_allBreaths rM_trial rM_words iM_fewestBreaths iM_orderMany iM_orderSum iM_leastOrder rM_often iM_setMany iM_someOf iM_allOf iM_allWeight iM_enoughWeight iM_worthSum iM_firstRest iM_leastDrawn b_iM_taped b_iM_size b_iM_end b_iM_nameSize b_x_5414 b_iM_hasCourt b_iM_undos b_iM_images b_iM_scale b_iM_breaths b_iM_cutMany (fun h9 => h_5402)) (cwV 0 hts (wd_V wd_454 wd_455 wd_456 wd_5 (wd_c wd_457)) rfl rfl rfl dv_yX7_pass_0 ⟨Nat.le_of_ble_eq_true rfl, Nat.le_of_ble_eq_true rfl⟩) ⟨Pw.fb, recvX7 hK hP (q0 := 0) rfl, fun U hU hW => Pw.to (hP.ms _ hMs) (hD.ms _ hMs) (hK.ms [true, true, false, false] rfl) hE hS hFc hU hW⟩ rfl rfl hl.1 rfl (lv_room (Nat.le_of_ble_eq_true rfl)) dX7_begins_43 ⟨Nat.le_of_ble_eq_true rfl, Nat.le_of_ble_eq_true rfl⟩) hS (fun q _ h => hFc q h) hFc (fun u t H locs ht hvm hw hB hz1 hk1 hS => ?_)
        refine ex_6_6 hB (fun x_5415 x_5416 x_5417 x_5418 x_5419 f_5420 b_x_5416 b_x_5419 e_x_5415_0 e_x_5415_1 e_x_5415_2 e_x_5415_3 hB => ?_)
        obtain ⟨hP, hD⟩ := Bw.goN (ws' := [(oc7 oM iM_thrown rM_tape iM_taped iM_size x_5415 x_5416 x_5417 x_5418 x_5419 x_5412 x_5413 iM_trouble rM_letters x_5414 iM_hasCourt rM_r rM_fresh rM_told rM_read rM_st rM_undone rM_kept iM_undos iM_images rM_fresher iM_fresherSize iM_scale iM_night rM_heardRow rM_cutRow iM_breaths iM_cutMany iM_allBreaths rM_trial rM_words iM_fewestBreaths iM_orderMany iM_orderSum iM_leastOrder rM_often iM_setMany iM_someOf iM_allOf iM_allWeight iM_enoughWeight iM_worthSum iM_firstRest iM_leastDrawn), (arI rM_tape kM_tape 900 fM_tape), (arI rM_letters kM_letters 8 f_5420), (arI rM_fresh kM_fresh 287 fM_fresh), (arI rM_read kM_read 90 fM_read)]) hB rfl ht hP hD _ hMs hk1 hFc rfl
        clear hz1 hk1 hvm ht hB hMs
        have hG := hG.trans (un6_eq e_x_5415_3)
        refine lv_iconst (v := 1) hx hb dX7_begins_46 (by decide) ?_
        exact wq_z (v := 1) hx hb hr rfl 1 ⟨⟨Or.inr rfl, (by decide)⟩, (by decide)⟩ (fun t ht hW => ⟨x_5415, x_5416, x_5417, x_5418, x_5419, x_5412, x_5413, x_5414, f_5420, b_x_5416, b_x_5419, b_x_5414, e_x_5415_0, e_x_5415_1, (om_00f1c5dd b_iM_failed.2 e_x_5412_0), (by first | assumption | exact (fun h9 => by have q0 := kc_0; have q1 := kc_1; omega)), (fun h9 => by have q0 := kc_0; have q1 := kc_1; omega), hG, Bw.to hP hD hK ht hW⟩) hS dX7_begins_47 hlocks
    · skip
      have hG := hG.trans (if_pos c_5403)
      have gc_5403 := ti_eq c_5403 rfl kc_0
      refine lv_aload_n hx hb dX7_begins_14 rfl (lv_at hl 0 rfl) ?_
      refine lv_iconst (v := 5) hx hb dX7_begins_15 (by decide) ?_
      refine lv_aload_n hx hb dX7_begins_16 rfl (lv_at hl 0 rfl) ?_
      refine va_get (D := (dC, dI)) (ci := 7) (v := .int iM_at) (C := RX7) (T := TX7) (N := 48) hx hb hts inX7 hown hK hP 0 rfl rfl 4 (by decide) (hts _ wd_384) (fun _ h9 => h9) rfl dX7_begins_17 ?_
      have hMs := ml_of hD [true, false, false, false, false] (wc := [(oc7 oM iM_thrown rM_tape iM_taped iM_size iM_at iM_end iM_token iM_whole iM_nameSize iM_fault iM_place iM_trouble rM_letters iM_failed iM_hasCourt rM_r rM_fresh rM_told rM_read rM_st rM_undone rM_kept iM_undos iM_images rM_fresher iM_fresherSize iM_scale iM_night rM_heardRow rM_cutRow iM_breaths iM_cutMany iM_allBreaths rM_trial rM_words iM_fewestBreaths iM_orderMany iM_orderSum iM_leastOrder rM_often iM_setMany iM_someOf iM_allOf iM_allWeight iM_enoughWeight iM_worthSum iM_firstRest iM_leastDrawn)]) rfl
      have hFc := va_freeM hD hS hA _ hMs
      refine va_callv (va_runV (As := [.int 5, .int iM_at]) (rest := []) ⟨hx, hb, hml, hown, hts⟩ (tX7_wrong l dC dI _ oM iM_thrown rM_tape iM_taped iM_size iM_at iM_end iM_token iM_whole iM_nameSize iM_fault iM_place iM_trouble rM_letters iM_failed iM_hasCourt rM_r rM_fresh rM_told rM_read rM_st rM_undone rM_kept iM_undos iM_images rM_fresher iM_fresherSize iM_scale iM_night rM_heardRow rM_cutRow iM_breaths iM_cutMany iM_allBreaths rM_trial rM_words iM_fewestBreaths iM_orderMany iM_orderSum iM_leastOrder rM_often iM_setMany iM_someOf iM_allOf iM_allWeight iM_enoughWeight iM_worthSum iM_firstRest iM_leastDrawn 5 iM_at b_iM_taped b_iM_size b_iM_end b_iM_nameSize b_iM_failed b_iM_hasCourt b_iM_undos b_iM_images b_iM_scale b_iM_breaths b_iM_cutMany (fun h9 => h_5402)) (cwV 2 hts (wd_V wd_430 wd_431 wd_432 wd_5 (wd_c wd_433)) rfl rfl rfl dv_yX7_wrong_2 ⟨Nat.le_of_ble_eq_true rfl, Nat.le_of_ble_eq_true rfl⟩) ⟨Pw.fb, recvX7 hK hP (q0 := 0) rfl, fun U hU hW => Pw.to (hP.ms _ hMs) (hD.ms _ hMs) (hK.ms [false, false, false, false] rfl) hE hS hFc hU hW⟩ rfl rfl hl.1 rfl (lv_room (Nat.le_of_ble_eq_true rfl)) dX7_begins_20 ⟨Nat.le_of_ble_eq_true rfl, Nat.le_of_ble_eq_true rfl⟩) hS (fun q _ h => hFc q h) hFc (fun u t H locs ht hvm hw hB hz1 hk1 hS => ?_)
      refine ex_3_3 hB (fun x_5421 x_5422 x_5423 b_x_5423 e_x_5421_0 e_x_5421_1 hB => ?_)
      obtain ⟨hP, hD⟩ := Bw.goN (ws' := [(oc7 oM iM_thrown rM_tape iM_taped iM_size iM_at iM_end iM_token iM_whole iM_nameSize x_5421 x_5422 iM_trouble rM_letters x_5423 iM_hasCourt rM_r rM_fresh rM_told rM_read rM_st rM_undone rM_kept iM_undos iM_images rM_fresher iM_fresherSize iM_scale iM_night rM_heardRow rM_cutRow iM_breaths iM_cutMany iM_allBreaths rM_trial rM_words iM_fewestBreaths iM_orderMany iM_orderSum iM_leastOrder rM_often iM_setMany iM_someOf iM_allOf iM_allWeight iM_enoughWeight iM_worthSum iM_firstRest iM_leastDrawn), (arI rM_tape kM_tape 900 fM_tape), (arI rM_letters kM_letters 8 fM_letters), (arI rM_fresh kM_fresh 287 fM_fresh), (arI rM_read kM_read 90 fM_read)]) hB rfl ht hP hD _ hMs hk1 hFc rfl
      clear hz1 hk1 hvm ht hB hMs
      have hG := hG.trans (un3_eq e_x_5421_1)
      refine lv_aload_n hx hb dX7_begins_23 rfl (lv_at hl 0 rfl) ?_
      refine va_get (D := (dC, dI)) (ci := 7) (v := .ref rM_fresh) (C := RX7) (T := TX7) (N := 48) hx hb hts inX7 hown hK hP 0 rfl rfl 16 (by decide) (hts _ wd_156) (fun _ h9 => h9) rfl dX7_begins_24 ?_
      refine lv_iconst (v := 5) hx hb dX7_begins_27 (by decide) ?_
      refine va_iald hx hb hK hP 3 2 rfl rfl (by unfold vp_in; decide) dX7_begins_28 ?_
      refine lv_topi (fun x_5424 ex_5424 => ?_)
      have hG := hG.trans (lt_eq ex_5424)
      have cx_5424 : (fM_fresh 5).toInt = x_5424.toInt := congrArg Int32.toInt (show fM_fresh 5 = x_5424 from ex_5424.symm)
      refine lv_if_ne (tgt := 42) hx hb dX7_begins_29 (by decide) (fun c_5425 => ?_) (fun c_5425 => ?_)
      · skip
        have hG := hG.trans (if_neg c_5425)
        have gc_5425 := ti_ne c_5425 rfl kc_0
        refine lv_aload_n hx hb dX7_begins_42 rfl (lv_at hl 0 rfl) ?_
        have hMs := ml_of hD [true, true, true, false, false] (wc := [(oc7 oM iM_thrown rM_tape iM_taped iM_size iM_at iM_end iM_token iM_whole iM_nameSize x_5421 x_5422 iM_trouble rM_letters x_5423 iM_hasCourt rM_r rM_fresh rM_told rM_read rM_st rM_undone rM_kept iM_undos iM_images rM_fresher iM_fresherSize iM_scale iM_night rM_heardRow rM_cutRow iM_breaths iM_cutMany iM_allBreaths rM_trial rM_words iM_fewestBreaths iM_orderMany iM_orderSum iM_leastOrder rM_often iM_setMany iM_someOf iM_allOf iM_allWeight iM_enoughWeight iM_worthSum iM_firstRest iM_leastDrawn), (arI rM_tape kM_tape 900 fM_tape), (arI rM_letters kM_letters 8 fM_letters)]) rfl
        have hFc := va_freeM hD hS hA _ hMs
        refine va_callv (va_runV (As := []) (rest := []) ⟨hx, hb, hml, hown, hts⟩ (tX7_pass l dC dI _ oM iM_thrown rM_tape fM_tape kM_tape iM_taped iM_size iM_at iM_end iM_token iM_whole iM_nameSize x_5421 x_5422 iM_trouble rM_letters fM_letters kM_letters x_5423 iM_hasCourt rM_r rM_fresh rM_told rM_read rM_st rM_undone rM_kept iM_undos iM_images rM_fresher iM_fresherSize iM_scale iM_night rM_heardRow rM_cutRow iM_breaths iM_cutMany iM_allBreaths rM_trial rM_words iM_fewestBreaths iM_orderMany iM_orderSum iM_leastOrder rM_often iM_setMany iM_someOf iM_allOf iM_allWeight iM_enoughWeight iM_worthSum iM_firstRest iM_leastDrawn b_iM_taped b_iM_size b_iM_end b_iM_nameSize b_x_5423 b_iM_hasCourt b_iM_undos b_iM_images b_iM_scale b_iM_breaths b_iM_cutMany (fun h9 => h_5402)) (cwV 0 hts (wd_V wd_454 wd_455 wd_456 wd_5 (wd_c wd_457)) rfl rfl rfl dv_yX7_pass_0 ⟨Nat.le_of_ble_eq_true rfl, Nat.le_of_ble_eq_true rfl⟩) ⟨Pw.fb, recvX7 hK hP (q0 := 0) rfl, fun U hU hW => Pw.to (hP.ms _ hMs) (hD.ms _ hMs) (hK.ms [true, true, false, false] rfl) hE hS hFc hU hW⟩ rfl rfl hl.1 rfl (lv_room (Nat.le_of_ble_eq_true rfl)) dX7_begins_43 ⟨Nat.le_of_ble_eq_true rfl, Nat.le_of_ble_eq_true rfl⟩) hS (fun q _ h => hFc q h) hFc (fun u t H locs ht hvm hw hB hz1 hk1 hS => ?_)
        refine ex_6_6 hB (fun x_5426 x_5427 x_5428 x_5429 x_5430 f_5431 b_x_5427 b_x_5430 e_x_5426_0 e_x_5426_1 e_x_5426_2 e_x_5426_3 hB => ?_)
        obtain ⟨hP, hD⟩ := Bw.goN (ws' := [(oc7 oM iM_thrown rM_tape iM_taped iM_size x_5426 x_5427 x_5428 x_5429 x_5430 x_5421 x_5422 iM_trouble rM_letters x_5423 iM_hasCourt rM_r rM_fresh rM_told rM_read rM_st rM_undone rM_kept iM_undos iM_images rM_fresher iM_fresherSize iM_scale iM_night rM_heardRow rM_cutRow iM_breaths iM_cutMany iM_allBreaths rM_trial rM_words iM_fewestBreaths iM_orderMany iM_orderSum iM_leastOrder rM_often iM_setMany iM_someOf iM_allOf iM_allWeight iM_enoughWeight iM_worthSum iM_firstRest iM_leastDrawn), (arI rM_tape kM_tape 900 fM_tape), (arI rM_letters kM_letters 8 f_5431), (arI rM_fresh kM_fresh 287 fM_fresh), (arI rM_read kM_read 90 fM_read)]) hB rfl ht hP hD _ hMs hk1 hFc rfl
        clear hz1 hk1 hvm ht hB hMs
        have hG := hG.trans (un6_eq e_x_5426_3)
        refine lv_iconst (v := 1) hx hb dX7_begins_46 (by decide) ?_
        exact wq_z (v := 1) hx hb hr rfl 1 ⟨⟨Or.inr rfl, (by decide)⟩, (by decide)⟩ (fun t ht hW => ⟨x_5426, x_5427, x_5428, x_5429, x_5430, x_5421, x_5422, x_5423, f_5431, b_x_5427, b_x_5430, b_x_5423, e_x_5426_0, e_x_5426_1, (om_00f1c5dd b_iM_failed.2 e_x_5421_0), (by first | assumption | exact (fun h9 => by have q0 := kc_0; have q1 := kc_1; omega)), (fun h9 => by have q0 := kc_0; have q1 := kc_1; omega), hG, Bw.to hP hD hK ht hW⟩) hS dX7_begins_47 hlocks
      · skip
        have hG := hG.trans (if_pos c_5425)
        have gc_5425 := ti_eq c_5425 rfl kc_0
        refine lv_aload_n hx hb dX7_begins_32 rfl (lv_at hl 0 rfl) ?_
        refine lv_bipush (v := 6) hx hb dX7_begins_33 (by decide) ?_
        refine lv_aload_n hx hb dX7_begins_35 rfl (lv_at hl 0 rfl) ?_
        refine va_get (D := (dC, dI)) (ci := 7) (v := .int iM_at) (C := RX7) (T := TX7) (N := 48) hx hb hts inX7 hown hK hP 0 rfl rfl 4 (by decide) (hts _ wd_384) (fun _ h9 => h9) rfl dX7_begins_36 ?_
        have hMs := ml_of hD [true, false, false, false, false] (wc := [(oc7 oM iM_thrown rM_tape iM_taped iM_size iM_at iM_end iM_token iM_whole iM_nameSize x_5421 x_5422 iM_trouble rM_letters x_5423 iM_hasCourt rM_r rM_fresh rM_told rM_read rM_st rM_undone rM_kept iM_undos iM_images rM_fresher iM_fresherSize iM_scale iM_night rM_heardRow rM_cutRow iM_breaths iM_cutMany iM_allBreaths rM_trial rM_words iM_fewestBreaths iM_orderMany iM_orderSum iM_leastOrder rM_often iM_setMany iM_someOf iM_allOf iM_allWeight iM_enoughWeight iM_worthSum iM_firstRest iM_leastDrawn)]) rfl
        have hFc := va_freeM hD hS hA _ hMs
        refine va_callv (va_runV (As := [.int 6, .int iM_at]) (rest := []) ⟨hx, hb, hml, hown, hts⟩ (tX7_wrong l dC dI _ oM iM_thrown rM_tape iM_taped iM_size iM_at iM_end iM_token iM_whole iM_nameSize x_5421 x_5422 iM_trouble rM_letters x_5423 iM_hasCourt rM_r rM_fresh rM_told rM_read rM_st rM_undone rM_kept iM_undos iM_images rM_fresher iM_fresherSize iM_scale iM_night rM_heardRow rM_cutRow iM_breaths iM_cutMany iM_allBreaths rM_trial rM_words iM_fewestBreaths iM_orderMany iM_orderSum iM_leastOrder rM_often iM_setMany iM_someOf iM_allOf iM_allWeight iM_enoughWeight iM_worthSum iM_firstRest iM_leastDrawn 6 iM_at b_iM_taped b_iM_size b_iM_end b_iM_nameSize b_x_5423 b_iM_hasCourt b_iM_undos b_iM_images b_iM_scale b_iM_breaths b_iM_cutMany (fun h9 => h_5402)) (cwV 2 hts (wd_V wd_430 wd_431 wd_432 wd_5 (wd_c wd_433)) rfl rfl rfl dv_yX7_wrong_2 ⟨Nat.le_of_ble_eq_true rfl, Nat.le_of_ble_eq_true rfl⟩) ⟨Pw.fb, recvX7 hK hP (q0 := 0) rfl, fun U hU hW => Pw.to (hP.ms _ hMs) (hD.ms _ hMs) (hK.ms [false, false, false, false] rfl) hE hS hFc hU hW⟩ rfl rfl hl.1 rfl (lv_room (Nat.le_of_ble_eq_true rfl)) dX7_begins_39 ⟨Nat.le_of_ble_eq_true rfl, Nat.le_of_ble_eq_true rfl⟩) hS (fun q _ h => hFc q h) hFc (fun u t H locs ht hvm hw hB hz1 hk1 hS => ?_)
        refine ex_3_3 hB (fun x_5432 x_5433 x_5434 b_x_5434 e_x_5432_0 e_x_5432_1 hB => ?_)
        obtain ⟨hP, hD⟩ := Bw.goN (ws' := [(oc7 oM iM_thrown rM_tape iM_taped iM_size iM_at iM_end iM_token iM_whole iM_nameSize x_5432 x_5433 iM_trouble rM_letters x_5434 iM_hasCourt rM_r rM_fresh rM_told rM_read rM_st rM_undone rM_kept iM_undos iM_images rM_fresher iM_fresherSize iM_scale iM_night rM_heardRow rM_cutRow iM_breaths iM_cutMany iM_allBreaths rM_trial rM_words iM_fewestBreaths iM_orderMany iM_orderSum iM_leastOrder rM_often iM_setMany iM_someOf iM_allOf iM_allWeight iM_enoughWeight iM_worthSum iM_firstRest iM_leastDrawn), (arI rM_tape kM_tape 900 fM_tape), (arI rM_letters kM_letters 8 fM_letters), (arI rM_fresh kM_fresh 287 fM_fresh), (arI rM_read kM_read 90 fM_read)]) hB rfl ht hP hD _ hMs hk1 hFc rfl
        clear hz1 hk1 hvm ht hB hMs
        have hG := hG.trans (un3_eq e_x_5432_1)
        refine lv_aload_n hx hb dX7_begins_42 rfl (lv_at hl 0 rfl) ?_
        have hMs := ml_of hD [true, true, true, false, false] (wc := [(oc7 oM iM_thrown rM_tape iM_taped iM_size iM_at iM_end iM_token iM_whole iM_nameSize x_5432 x_5433 iM_trouble rM_letters x_5434 iM_hasCourt rM_r rM_fresh rM_told rM_read rM_st rM_undone rM_kept iM_undos iM_images rM_fresher iM_fresherSize iM_scale iM_night rM_heardRow rM_cutRow iM_breaths iM_cutMany iM_allBreaths rM_trial rM_words iM_fewestBreaths iM_orderMany iM_orderSum iM_leastOrder rM_often iM_setMany iM_someOf iM_allOf iM_allWeight iM_enoughWeight iM_worthSum iM_firstRest iM_leastDrawn), (arI rM_tape kM_tape 900 fM_tape), (arI rM_letters kM_letters 8 fM_letters)]) rfl
        have hFc := va_freeM hD hS hA _ hMs
        refine va_callv (va_runV (As := []) (rest := []) ⟨hx, hb, hml, hown, hts⟩ (tX7_pass l dC dI _ oM iM_thrown rM_tape fM_tape kM_tape iM_taped iM_size iM_at iM_end iM_token iM_whole iM_nameSize x_5432 x_5433 iM_trouble rM_letters fM_letters kM_letters x_5434 iM_hasCourt rM_r rM_fresh rM_told rM_read rM_st rM_undone rM_kept iM_undos iM_images rM_fresher iM_fresherSize iM_scale iM_night rM_heardRow rM_cutRow iM_breaths iM_cutMany iM_allBreaths rM_trial rM_words iM_fewestBreaths iM_orderMany iM_orderSum iM_leastOrder rM_often iM_setMany iM_someOf iM_allOf iM_allWeight iM_enoughWeight iM_worthSum iM_firstRest iM_leastDrawn b_iM_taped b_iM_size b_iM_end b_iM_nameSize b_x_5434 b_iM_hasCourt b_iM_undos b_iM_images b_iM_scale b_iM_breaths b_iM_cutMany (fun h9 => h_5402)) (cwV 0 hts (wd_V wd_454 wd_455 wd_456 wd_5 (wd_c wd_457)) rfl rfl rfl dv_yX7_pass_0 ⟨Nat.le_of_ble_eq_true rfl, Nat.le_of_ble_eq_true rfl⟩) ⟨Pw.fb, recvX7 hK hP (q0 := 0) rfl, fun U hU hW => Pw.to (hP.ms _ hMs) (hD.ms _ hMs) (hK.ms [true, true, false, false] rfl) hE hS hFc hU hW⟩ rfl rfl hl.1 rfl (lv_room (Nat.le_of_ble_eq_true rfl)) dX7_begins_43 ⟨Nat.le_of_ble_eq_true rfl, Nat.le_of_ble_eq_true rfl⟩) hS (fun q _ h => hFc q h) hFc (fun u t H locs ht hvm hw hB hz1 hk1 hS => ?_)
        refine ex_6_6 hB (fun x_5435 x_5436 x_5437 x_5438 x_5439 f_5440 b_x_5436 b_x_5439 e_x_5435_0 e_x_5435_1 e_x_5435_2 e_x_5435_3 hB => ?_)
        obtain ⟨hP, hD⟩ := Bw.goN (ws' := [(oc7 oM iM_thrown rM_tape iM_taped iM_size x_5435 x_5436 x_5437 x_5438 x_5439 x_5432 x_5433 iM_trouble rM_letters x_5434 iM_hasCourt rM_r rM_fresh rM_told rM_read rM_st rM_undone rM_kept iM_undos iM_images rM_fresher iM_fresherSize iM_scale iM_night rM_heardRow rM_cutRow iM_breaths iM_cutMany iM_allBreaths rM_trial rM_words iM_fewestBreaths iM_orderMany iM_orderSum iM_leastOrder rM_often iM_setMany iM_someOf iM_allOf iM_allWeight iM_enoughWeight iM_worthSum iM_firstRest iM_leastDrawn), (arI rM_tape kM_tape 900 fM_tape), (arI rM_letters kM_letters 8 f_5440), (arI rM_fresh kM_fresh 287 fM_fresh), (arI rM_read kM_read 90 fM_read)]) hB rfl ht hP hD _ hMs hk1 hFc rfl
        clear hz1 hk1 hvm ht hB hMs
        have hG := hG.trans (un6_eq e_x_5435_3)
        refine lv_iconst (v := 1) hx hb dX7_begins_46 (by decide) ?_
        exact wq_z (v := 1) hx hb hr rfl 1 ⟨⟨Or.inr rfl, (by decide)⟩, (by decide)⟩ (fun t ht hW => ⟨x_5435, x_5436, x_5437, x_5438, x_5439, x_5432, x_5433, x_5434, f_5440, b_x_5436, b_x_5439, b_x_5434, e_x_5435_0, e_x_5435_1, (om_00f1c5dd b_iM_failed.2 e_x_5432_0), (by first | assumption | exact (fun h9 => by have q0 := kc_0; have q1 := kc_1; omega)), (fun h9 => by have q0 := kc_0; have q1 := kc_1; omega), hG, Bw.to hP hD hK ht hW⟩) hS dX7_begins_47 hlocks
  · skip
    have hG := hG.trans (if_pos c_5400)
    have gc_5400 := ti_eq c_5400 rfl kc_0
    clear lx_5399
    refine lv_iconst (v := 0) hx hb dX7_begins_8 (by decide) ?_
    exact wq_z (v := 0) hx hb hr rfl 0 ⟨⟨Or.inl rfl, (by decide)⟩, (by decide)⟩ (fun t ht hW => ⟨iM_at, iM_end, iM_token, iM_whole, iM_nameSize, iM_fault, iM_place, iM_failed, fM_letters, ⟨b_iM_end.1, b_iM_end.2⟩, ⟨b_iM_nameSize.1, b_iM_nameSize.2⟩, ⟨b_iM_failed.1, b_iM_failed.2⟩, om_1cb5f934, r_T, om_1cb5f934, (by first | assumption | exact (fun h9 => by have q0 := kc_0; have q1 := kc_1; omega)), (fun h9 => by have q0 := kc_0; have q1 := kc_1; omega), hG, Bw.to hP hD hK ht hW⟩) hS dX7_begins_9 hlocks
