set_option maxHeartbeats 4000000 in
set_option maxRecDepth 100000 in
theorem tX7_isSmall_p (l : Launch) (dC : Nat → ClassId) (dI : Nat → Nat → Nat) (sz : Nat) (p0 : Int32)  : Met l yX7_isSmall (Cond.code yX7_isSmall cX7_isSmall 1 (some .boolean) :: wG) ({ frames := 0, cells := 0, slots := 0, locals := 0 }) (va_Pc [.int p0] (Pw dC dI sz [] [])) (va_Qi (fun (r : Int32) (_ : Nat) => ((r = 0 ∨ r = 1) ∧ (r.toInt = 1 → 97 ≤ p0.toInt ∧ p0.toInt ≤ 122)) ∧ PX7_isSmall p0 = r) (fun (_ : Nat) (_ : State) => True) (va_A [] sz)) 0 0 (va_A [] sz) := by
  refine Met.ofW (cc := cX7_isSmall) (maxL := 1) (ret := (some .boolean)) pnX7 rfl ?_
  intro p e s m args below meth c s₁ B hml hv
  obtain ⟨rfl, hsz, hP, hK, hD0, hE⟩ := hv
  have hx := B.exec
  have hb := B.bytes
  have hr := B.returns
  have hts : ∀ w ∈ wG, w.before ([.int p0] : List Value).toArray s = true := fun w h => atoms_spec (ws := Cond.code yX7_isSmall cX7_isSmall 1 (some .boolean) :: wG) B.pre w (List.mem_cons_of_mem _ h)
  have hown : s.vm.findClass RX7 = some m.cls := own_of B.named rfl
  have hlocks := B.notSynchronized
  subst hsz
  generalize hAe : va_A [] s.heap.size = A at hE ⊢
  have hA : ∀ q : Nat, s.heap.size ≤ q → A q := fun q h => by rw [← hAe]; exact Or.inr h
  have hS : va_S A s.heap s.heap [] := va_S.rf
  have hl := lv_entry ([.int p0]) (n := 1) (Nat.le_of_ble_eq_true rfl)
  rw [lg_entry_eq]
  generalize (lg_sl ([.int p0]) ++ List.replicate (1 - (lg_sl ([.int p0])).length) Slot.unset).toArray = ls at hl ⊢
  have hl : lv_has ls 1 [(0, .int p0)] := hl
  have hG := PX7_isSmall_eq p0
  refine lv_iload_n hx hb dX7_isSmall_0 rfl (lv_at hl 0 rfl) ?_
  refine lv_bipush (v := 97) hx hb dX7_isSmall_1 (by decide) ?_
  refine lv_icmp_lt (tgt := 16) hx hb dX7_isSmall_3 (by decide) (fun c_4722 => ?_) (fun c_4722 => ?_)
  · skip
    have hG := hG.trans (if_pos c_4722)
    have gc_4722 := ti_lt c_4722 rfl kc_97
    refine lv_iconst (v := 0) hx hb dX7_isSmall_16 (by decide) ?_
    exact wq_z (v := 0) hx hb hr rfl 0 ⟨⟨Or.inl rfl, (by have q0 := kc_0; have q1 := kc_1; omega)⟩, hG⟩ (fun t ht hW => trivial) hS dX7_isSmall_17 hlocks
  · skip
    have hG := hG.trans (if_neg c_4722)
    have gc_4722 := ti_nlt c_4722 rfl kc_97
    refine lv_iload_n hx hb dX7_isSmall_6 rfl (lv_at hl 0 rfl) ?_
    refine lv_bipush (v := 122) hx hb dX7_isSmall_7 (by decide) ?_
    refine lv_icmp_gt (tgt := 16) hx hb dX7_isSmall_9 (by decide) (fun c_4723 => ?_) (fun c_4723 => ?_)
    · skip
      have hG := hG.trans (if_pos c_4723)
      have gc_4723 := ti_lt c_4723 kc_122 rfl
      refine lv_iconst (v := 0) hx hb dX7_isSmall_16 (by decide) ?_
      exact wq_z (v := 0) hx hb hr rfl 0 ⟨⟨Or.inl rfl, (by have q0 := kc_0; have q1 := kc_1; omega)⟩, hG⟩ (fun t ht hW => trivial) hS dX7_isSmall_17 hlocks
    · skip
      have hG := hG.trans (if_neg c_4723)
      have gc_4723 := ti_nlt c_4723 kc_122 rfl
      refine lv_iconst (v := 1) hx hb dX7_isSmall_12 (by decide) ?_
      refine lv_goto (tgt := 17) hx hb dX7_isSmall_13 (by decide) ?_
      exact wq_z (v := 1) hx hb hr rfl 0 ⟨⟨Or.inr rfl, (by have q0 := kc_0; have q1 := kc_1; omega)⟩, hG⟩ (fun t ht hW => trivial) hS dX7_isSmall_17 hlocks
set_option maxHeartbeats 4000000 in
set_option maxRecDepth 100000 in
theorem tX7_isDigit_p (l : Launch) (dC : Nat → ClassId) (dI : Nat → Nat → Nat) (sz : Nat) (p0 : Int32)  : Met l yX7_isDigit (Cond.code yX7_isDigit cX7_isDigit 1 (some .boolean) :: wG) ({ frames := 0, cells := 0, slots := 0, locals := 0 }) (va_Pc [.int p0] (Pw dC dI sz [] [])) (va_Qi (fun (r : Int32) (_ : Nat) => ((r = 0 ∨ r = 1) ∧ (r.toInt = 1 → 48 ≤ p0.toInt ∧ p0.toInt ≤ 57)) ∧ PX7_isDigit p0 = r) (fun (_ : Nat) (_ : State) => True) (va_A [] sz)) 0 0 (va_A [] sz) := by
  refine Met.ofW (cc := cX7_isDigit) (maxL := 1) (ret := (some .boolean)) pnX7 rfl ?_
  intro p e s m args below meth c s₁ B hml hv
  obtain ⟨rfl, hsz, hP, hK, hD0, hE⟩ := hv
  have hx := B.exec
  have hb := B.bytes
  have hr := B.returns
  have hts : ∀ w ∈ wG, w.before ([.int p0] : List Value).toArray s = true := fun w h => atoms_spec (ws := Cond.code yX7_isDigit cX7_isDigit 1 (some .boolean) :: wG) B.pre w (List.mem_cons_of_mem _ h)
  have hown : s.vm.findClass RX7 = some m.cls := own_of B.named rfl
  have hlocks := B.notSynchronized
  subst hsz
  generalize hAe : va_A [] s.heap.size = A at hE ⊢
  have hA : ∀ q : Nat, s.heap.size ≤ q → A q := fun q h => by rw [← hAe]; exact Or.inr h
  have hS : va_S A s.heap s.heap [] := va_S.rf
  have hl := lv_entry ([.int p0]) (n := 1) (Nat.le_of_ble_eq_true rfl)
  rw [lg_entry_eq]
  generalize (lg_sl ([.int p0]) ++ List.replicate (1 - (lg_sl ([.int p0])).length) Slot.unset).toArray = ls at hl ⊢
  have hl : lv_has ls 1 [(0, .int p0)] := hl
  have hG := PX7_isDigit_eq p0
  refine lv_iload_n hx hb dX7_isDigit_0 rfl (lv_at hl 0 rfl) ?_
  refine lv_bipush (v := 48) hx hb dX7_isDigit_1 (by decide) ?_
  refine lv_icmp_lt (tgt := 16) hx hb dX7_isDigit_3 (by decide) (fun c_4724 => ?_) (fun c_4724 => ?_)
  · skip
    have hG := hG.trans (if_pos c_4724)
    have gc_4724 := ti_lt c_4724 rfl kc_48
    refine lv_iconst (v := 0) hx hb dX7_isDigit_16 (by decide) ?_
    exact wq_z (v := 0) hx hb hr rfl 0 ⟨⟨Or.inl rfl, (by have q0 := kc_0; have q1 := kc_1; omega)⟩, hG⟩ (fun t ht hW => trivial) hS dX7_isDigit_17 hlocks
  · skip
    have hG := hG.trans (if_neg c_4724)
    have gc_4724 := ti_nlt c_4724 rfl kc_48
    refine lv_iload_n hx hb dX7_isDigit_6 rfl (lv_at hl 0 rfl) ?_
    refine lv_bipush (v := 57) hx hb dX7_isDigit_7 (by decide) ?_
    refine lv_icmp_gt (tgt := 16) hx hb dX7_isDigit_9 (by decide) (fun c_4725 => ?_) (fun c_4725 => ?_)
    · skip
      have hG := hG.trans (if_pos c_4725)
      have gc_4725 := ti_lt c_4725 kc_57 rfl
      refine lv_iconst (v := 0) hx hb dX7_isDigit_16 (by decide) ?_
      exact wq_z (v := 0) hx hb hr rfl 0 ⟨⟨Or.inl rfl, (by have q0 := kc_0; have q1 := kc_1; omega)⟩, hG⟩ (fun t ht hW => trivial) hS dX7_isDigit_17 hlocks
    · skip
      have hG := hG.trans (if_neg c_4725)
      have gc_4725 := ti_nlt c_4725 kc_57 rfl
      refine lv_iconst (v := 1) hx hb dX7_isDigit_12 (by decide) ?_
      refine lv_goto (tgt := 17) hx hb dX7_isDigit_13 (by decide) ?_
      exact wq_z (v := 1) hx hb hr rfl 0 ⟨⟨Or.inr rfl, (by have q0 := kc_0; have q1 := kc_1; omega)⟩, hG⟩ (fun t ht hW => trivial) hS dX7_isDigit_17 hlocks
set_option maxHeartbeats 4000000 in
set_option maxRecDepth 100000 in
theorem tX7_see_p (l : Launch) (dC : Nat → ClassId) (dI : Nat → Nat → Nat) (sz : Nat) (oM : Nat) (iM_thrown : Int32) (rM_tape : Nat) (fM_tape : Nat → Int32) (kM_tape : ClassId) (iM_taped : Int32) (iM_size : Int32) (iM_at : Int32) (iM_end : Int32) (iM_token : Int32) (iM_whole : Int32) (iM_nameSize : Int32) (iM_fault : Int32) (iM_place : Int32) (iM_trouble : Int32) (rM_letters : Nat) (iM_failed : Int32) (iM_hasCourt : Int32) (rM_r : Nat) (rM_fresh : Nat) (rM_told : Nat) (rM_read : Nat) (rM_st : Nat) (rM_undone : Nat) (rM_kept : Nat) (iM_undos : Int32) (iM_images : Int32) (rM_fresher : Nat) (iM_fresherSize : Int32) (iM_scale : Int32) (iM_night : Int32) (rM_heardRow : Nat) (rM_cutRow : Nat) (iM_breaths : Int32) (iM_cutMany : Int32) (iM_allBreaths : Int32) (rM_trial : Nat) (rM_words : Nat) (iM_fewestBreaths : Int32) (iM_orderMany : Int32) (iM_orderSum : Int32) (iM_leastOrder : Int32) (rM_often : Nat) (iM_setMany : Int32) (iM_someOf : Int32) (iM_allOf : Int32) (iM_allWeight : Int64) (iM_enoughWeight : Int64) (iM_worthSum : Int64) (iM_firstRest : Int32) (iM_leastDrawn : Int32) (p0 : Int32) (b_iM_taped : 0 ≤ iM_taped.toInt ∧ iM_taped.toInt ≤ 900) (b_iM_size : 0 ≤ iM_size.toInt ∧ iM_size.toInt ≤ 900) (b_iM_end : 0 ≤ iM_end.toInt ∧ iM_end.toInt ≤ 900) (b_iM_nameSize : 0 ≤ iM_nameSize.toInt ∧ iM_nameSize.toInt ≤ 900) (b_iM_failed : 0 ≤ iM_failed.toInt ∧ iM_failed.toInt ≤ 1) (b_iM_hasCourt : 0 ≤ iM_hasCourt.toInt ∧ iM_hasCourt.toInt ≤ 1) (b_iM_undos : 0 ≤ iM_undos.toInt ∧ iM_undos.toInt ≤ 16) (b_iM_images : 0 ≤ iM_images.toInt ∧ iM_images.toInt ≤ 3) (b_iM_scale : 1 ≤ iM_scale.toInt ∧ iM_scale.toInt ≤ 1296) (b_iM_breaths : 0 ≤ iM_breaths.toInt ∧ iM_breaths.toInt ≤ 399) (b_iM_cutMany : 0 ≤ iM_cutMany.toInt ∧ iM_cutMany.toInt ≤ 399) (hs : 0 ≤ p0.toInt) : Met l yX7_see (Cond.code yX7_see cX7_see 2 (some .int) :: wG) ({ frames := 0, cells := 0, slots := 0, locals := 0 }) (va_Pc [.ref oM, .int p0] (Pw dC dI sz [(oc7 oM iM_thrown rM_tape iM_taped iM_size iM_at iM_end iM_token iM_whole iM_nameSize iM_fault iM_place iM_trouble rM_letters iM_failed iM_hasCourt rM_r rM_fresh rM_told rM_read rM_st rM_undone rM_kept iM_undos iM_images rM_fresher iM_fresherSize iM_scale iM_night rM_heardRow rM_cutRow iM_breaths iM_cutMany iM_allBreaths rM_trial rM_words iM_fewestBreaths iM_orderMany iM_orderSum iM_leastOrder rM_often iM_setMany iM_someOf iM_allOf iM_allWeight iM_enoughWeight iM_worthSum iM_firstRest iM_leastDrawn), (arI rM_tape kM_tape 900 fM_tape)] [(kM_tape, .int)])) (va_Qi (fun (r : Int32) (_ : Nat) => (True ∧ (r.toInt ≠ -1 → p0.toInt < iM_size.toInt)) ∧ PX7_see_p fM_tape iM_size p0 = r) (fun (_ : Nat) (t : State) => Bw dC dI (va_A [(oc7 oM iM_thrown rM_tape iM_taped iM_size iM_at iM_end iM_token iM_whole iM_nameSize iM_fault iM_place iM_trouble rM_letters iM_failed iM_hasCourt rM_r rM_fresh rM_told rM_read rM_st rM_undone rM_kept iM_undos iM_images rM_fresher iM_fresherSize iM_scale iM_night rM_heardRow rM_cutRow iM_breaths iM_cutMany iM_allBreaths rM_trial rM_words iM_fewestBreaths iM_orderMany iM_orderSum iM_leastOrder rM_often iM_setMany iM_someOf iM_allOf iM_allWeight iM_enoughWeight iM_worthSum iM_firstRest iM_leastDrawn), (arI rM_tape kM_tape 900 fM_tape)] sz) [(oc7 oM iM_thrown rM_tape iM_taped iM_size iM_at iM_end iM_token iM_whole iM_nameSize iM_fault iM_place iM_trouble rM_letters iM_failed iM_hasCourt rM_r rM_fresh rM_told rM_read rM_st rM_undone rM_kept iM_undos iM_images rM_fresher iM_fresherSize iM_scale iM_night rM_heardRow rM_cutRow iM_breaths iM_cutMany iM_allBreaths rM_trial rM_words iM_fewestBreaths iM_orderMany iM_orderSum iM_leastOrder rM_often iM_setMany iM_someOf iM_allOf iM_allWeight iM_enoughWeight iM_worthSum iM_firstRest iM_leastDrawn), (arI rM_tape kM_tape 900 fM_tape)] [(kM_tape, .int)] t) (va_A [(oc7 oM iM_thrown rM_tape iM_taped iM_size iM_at iM_end iM_token iM_whole iM_nameSize iM_fault iM_place iM_trouble rM_letters iM_failed iM_hasCourt rM_r rM_fresh rM_told rM_read rM_st rM_undone rM_kept iM_undos iM_images rM_fresher iM_fresherSize iM_scale iM_night rM_heardRow rM_cutRow iM_breaths iM_cutMany iM_allBreaths rM_trial rM_words iM_fewestBreaths iM_orderMany iM_orderSum iM_leastOrder rM_often iM_setMany iM_someOf iM_allOf iM_allWeight iM_enoughWeight iM_worthSum iM_firstRest iM_leastDrawn), (arI rM_tape kM_tape 900 fM_tape)] sz)) 0 0 (va_A [(oc7 oM iM_thrown rM_tape iM_taped iM_size iM_at iM_end iM_token iM_whole iM_nameSize iM_fault iM_place iM_trouble rM_letters iM_failed iM_hasCourt rM_r rM_fresh rM_told rM_read rM_st rM_undone rM_kept iM_undos iM_images rM_fresher iM_fresherSize iM_scale iM_night rM_heardRow rM_cutRow iM_breaths iM_cutMany iM_allBreaths rM_trial rM_words iM_fewestBreaths iM_orderMany iM_orderSum iM_leastOrder rM_often iM_setMany iM_someOf iM_allOf iM_allWeight iM_enoughWeight iM_worthSum iM_firstRest iM_leastDrawn), (arI rM_tape kM_tape 900 fM_tape)] sz) := by
  refine Met.ofW (cc := cX7_see) (maxL := 2) (ret := (some .int)) pnX7 rfl ?_
  intro p e s m args below meth c s₁ B hml hv
  obtain ⟨rfl, hsz, hP, hK, hD0, hE⟩ := hv
  have hx := B.exec
  have hb := B.bytes
  have hr := B.returns
  have hts : ∀ w ∈ wG, w.before ([.ref oM, .int p0] : List Value).toArray s = true := fun w h => atoms_spec (ws := Cond.code yX7_see cX7_see 2 (some .int) :: wG) B.pre w (List.mem_cons_of_mem _ h)
  have hown : s.vm.findClass RX7 = some m.cls := own_of B.named rfl
  have hlocks := B.notSynchronized
  subst hsz
  have hD := hD0.self (sz := s.heap.size)
  generalize hAe : va_A [(oc7 oM iM_thrown rM_tape iM_taped iM_size iM_at iM_end iM_token iM_whole iM_nameSize iM_fault iM_place iM_trouble rM_letters iM_failed iM_hasCourt rM_r rM_fresh rM_told rM_read rM_st rM_undone rM_kept iM_undos iM_images rM_fresher iM_fresherSize iM_scale iM_night rM_heardRow rM_cutRow iM_breaths iM_cutMany iM_allBreaths rM_trial rM_words iM_fewestBreaths iM_orderMany iM_orderSum iM_leastOrder rM_often iM_setMany iM_someOf iM_allOf iM_allWeight iM_enoughWeight iM_worthSum iM_firstRest iM_leastDrawn), (arI rM_tape kM_tape 900 fM_tape)] s.heap.size = A at hD hE ⊢
  have hA : ∀ q : Nat, s.heap.size ≤ q → A q := fun q h => by rw [← hAe]; exact Or.inr h
  have hS : va_S A s.heap s.heap [] := va_S.rf
  have hl := lv_entry ([.ref oM, .int p0]) (n := 2) (Nat.le_of_ble_eq_true rfl)
  rw [lg_entry_eq]
  generalize (lg_sl ([.ref oM, .int p0]) ++ List.replicate (2 - (lg_sl ([.ref oM, .int p0])).length) Slot.unset).toArray = ls at hl ⊢
  have hl : lv_has ls 2 [(0, .ref oM), (1, .int p0)] := hl
  have hG := PX7_see_p_eq fM_tape iM_size p0
  refine lv_iload_n hx hb dX7_see_0 rfl (lv_at hl 1 rfl) ?_
  refine lv_aload_n hx hb dX7_see_1 rfl (lv_at hl 0 rfl) ?_
  refine va_get (D := (dC, dI)) (ci := 7) (v := .int iM_size) (C := RX7) (T := TX7) (N := 48) hx hb hts inX7 hown hK hP 0 rfl rfl 3 (by decide) (hts _ wd_381) (fun _ h9 => h9) rfl dX7_see_2 ?_
  refine lv_icmp_ge (tgt := 17) hx hb dX7_see_5 (by decide) (fun c_4728 => ?_) (fun c_4728 => ?_)
  · skip
    have hG := hG.trans (if_pos c_4728)
    have gc_4728 := ti_le c_4728 rfl rfl
    refine lv_iconst (v := (-1)) hx hb dX7_see_17 (by decide) ?_
    exact wq_i hx hb hr 0 ⟨⟨trivial, (by have q := kc_m1; first | omega | assumption)⟩, hG⟩ (fun t ht hW => Bw.to hP hD hK ht hW) hS dX7_see_18 hlocks
  · skip
    have hG := hG.trans (if_neg c_4728)
    have gc_4728 := ti_nle c_4728 rfl rfl
    refine lv_aload_n hx hb dX7_see_8 rfl (lv_at hl 0 rfl) ?_
    refine va_get (D := (dC, dI)) (ci := 7) (v := .ref rM_tape) (C := RX7) (T := TX7) (N := 48) hx hb hts inX7 hown hK hP 0 rfl rfl 1 (by decide) (hts _ wd_152) (fun _ h9 => h9) rfl dX7_see_9 ?_
    refine lv_iload_n hx hb dX7_see_12 rfl (lv_at hl 1 rfl) ?_
    refine va_iald hx hb hK hP 1 0 rfl rfl (ti_in rfl hs (om_54de693e b_iM_size.2 gc_4728)) dX7_see_13 ?_
    refine lv_topi (fun x_4729 ex_4729 => ?_)
    have hG := hG.trans (lt_eq ex_4729)
    have kx_4729 : (fM_tape p0.toNatClampNeg).toInt = x_4729.toInt := by rw [ex_4729]
    have cx_4729 := kx_4729
    refine lv_goto (tgt := 18) hx hb dX7_see_14 (by decide) ?_
    exact wq_i hx hb hr 0 ⟨⟨trivial, (by first | omega | assumption)⟩, hG⟩ (fun t ht hW => Bw.to hP hD hK ht hW) hS dX7_see_18 hlocks
set_option maxHeartbeats 4000000 in
set_option maxRecDepth 100000 in
theorem tX7_next (l : Launch) (dC : Nat → ClassId) (dI : Nat → Nat → Nat) (sz : Nat) (oM : Nat) (iM_thrown : Int32) (rM_tape : Nat) (fM_tape : Nat → Int32) (kM_tape : ClassId) (iM_taped : Int32) (iM_size : Int32) (iM_at : Int32) (iM_end : Int32) (iM_token : Int32) (iM_whole : Int32) (iM_nameSize : Int32) (iM_fault : Int32) (iM_place : Int32) (iM_trouble : Int32) (rM_letters : Nat) (fM_letters : Nat → Int32) (kM_letters : ClassId) (iM_failed : Int32) (iM_hasCourt : Int32) (rM_r : Nat) (rM_fresh : Nat) (rM_told : Nat) (rM_read : Nat) (rM_st : Nat) (rM_undone : Nat) (rM_kept : Nat) (iM_undos : Int32) (iM_images : Int32) (rM_fresher : Nat) (iM_fresherSize : Int32) (iM_scale : Int32) (iM_night : Int32) (rM_heardRow : Nat) (rM_cutRow : Nat) (iM_breaths : Int32) (iM_cutMany : Int32) (iM_allBreaths : Int32) (rM_trial : Nat) (rM_words : Nat) (iM_fewestBreaths : Int32) (iM_orderMany : Int32) (iM_orderSum : Int32) (iM_leastOrder : Int32) (rM_often : Nat) (iM_setMany : Int32) (iM_someOf : Int32) (iM_allOf : Int32) (iM_allWeight : Int64) (iM_enoughWeight : Int64) (iM_worthSum : Int64) (iM_firstRest : Int32) (iM_leastDrawn : Int32) (b_iM_taped : 0 ≤ iM_taped.toInt ∧ iM_taped.toInt ≤ 900) (b_iM_size : 0 ≤ iM_size.toInt ∧ iM_size.toInt ≤ 900) (b_iM_end : 0 ≤ iM_end.toInt ∧ iM_end.toInt ≤ 900) (b_iM_nameSize : 0 ≤ iM_nameSize.toInt ∧ iM_nameSize.toInt ≤ 900) (b_iM_failed : 0 ≤ iM_failed.toInt ∧ iM_failed.toInt ≤ 1) (b_iM_hasCourt : 0 ≤ iM_hasCourt.toInt ∧ iM_hasCourt.toInt ≤ 1) (b_iM_undos : 0 ≤ iM_undos.toInt ∧ iM_undos.toInt ≤ 16) (b_iM_images : 0 ≤ iM_images.toInt ∧ iM_images.toInt ≤ 3) (b_iM_scale : 1 ≤ iM_scale.toInt ∧ iM_scale.toInt ≤ 1296) (b_iM_breaths : 0 ≤ iM_breaths.toInt ∧ iM_breaths.toInt ≤ 399) (b_iM_cutMany : 0 ≤ iM_cutMany.toInt ∧ iM_cutMany.toInt ≤ 399) (r_T : ImpP (iM_token.toInt = 2) (iM_nameSize.toInt ≤ 8))  : Met l yX7_next (Cond.code yX7_next cX7_next 4 none :: wG) ({ frames := 1, cells := 0, slots := 0, locals := 21 }) (va_Pc [.ref oM] (Pw dC dI sz [(oc7 oM iM_thrown rM_tape iM_taped iM_size iM_at iM_end iM_token iM_whole iM_nameSize iM_fault iM_place iM_trouble rM_letters iM_failed iM_hasCourt rM_r rM_fresh rM_told rM_read rM_st rM_undone rM_kept iM_undos iM_images rM_fresher iM_fresherSize iM_scale iM_night rM_heardRow rM_cutRow iM_breaths iM_cutMany iM_allBreaths rM_trial rM_words iM_fewestBreaths iM_orderMany iM_orderSum iM_leastOrder rM_often iM_setMany iM_someOf iM_allOf iM_allWeight iM_enoughWeight iM_worthSum iM_firstRest iM_leastDrawn), (arI rM_tape kM_tape 900 fM_tape), (arI rM_letters kM_letters 8 fM_letters)] [(kM_tape, .int), (kM_letters, .int)])) (va_Qv (fun (_ : Nat) => True) (fun (_ : Nat) (t : State) => ∃ (niM_at : Int32) (niM_end : Int32) (niM_token : Int32) (niM_whole : Int32) (niM_nameSize : Int32) (nfM_letters : Nat → Int32), (0 ≤ niM_end.toInt ∧ niM_end.toInt ≤ 900) ∧ (0 ≤ niM_nameSize.toInt ∧ niM_nameSize.toInt ≤ 900) ∧ (iM_end.toInt ≤ niM_end.toInt) ∧ (ImpP (niM_token.toInt = 2) (niM_nameSize.toInt ≤ 8)) ∧ (ImpP (niM_token.toInt = 59 ) (iM_end.toInt + 1 ≤ niM_end.toInt)) ∧ (PX7_next fM_tape iM_size iM_end fM_letters = (niM_at, niM_end, niM_token, niM_whole, niM_nameSize, nfM_letters)) ∧ Bw dC dI (va_A [(oc7 oM iM_thrown rM_tape iM_taped iM_size iM_at iM_end iM_token iM_whole iM_nameSize iM_fault iM_place iM_trouble rM_letters iM_failed iM_hasCourt rM_r rM_fresh rM_told rM_read rM_st rM_undone rM_kept iM_undos iM_images rM_fresher iM_fresherSize iM_scale iM_night rM_heardRow rM_cutRow iM_breaths iM_cutMany iM_allBreaths rM_trial rM_words iM_fewestBreaths iM_orderMany iM_orderSum iM_leastOrder rM_often iM_setMany iM_someOf iM_allOf iM_allWeight iM_enoughWeight iM_worthSum iM_firstRest iM_leastDrawn), (arI rM_tape kM_tape 900 fM_tape), (arI rM_letters kM_letters 8 fM_letters)] sz) [(oc7 oM iM_thrown rM_tape iM_taped iM_size niM_at niM_end niM_token niM_whole niM_nameSize iM_fault iM_place iM_trouble rM_letters iM_failed iM_hasCourt rM_r rM_fresh rM_told rM_read rM_st rM_undone rM_kept iM_undos iM_images rM_fresher iM_fresherSize iM_scale iM_night rM_heardRow rM_cutRow iM_breaths iM_cutMany iM_allBreaths rM_trial rM_words iM_fewestBreaths iM_orderMany iM_orderSum iM_leastOrder rM_often iM_setMany iM_someOf iM_allOf iM_allWeight iM_enoughWeight iM_worthSum iM_firstRest iM_leastDrawn), (arI rM_tape kM_tape 900 fM_tape), (arI rM_letters kM_letters 8 nfM_letters)] [(kM_tape, .int), (kM_letters, .int)] t) (va_A [(oc7 oM iM_thrown rM_tape iM_taped iM_size iM_at iM_end iM_token iM_whole iM_nameSize iM_fault iM_place iM_trouble rM_letters iM_failed iM_hasCourt rM_r rM_fresh rM_told rM_read rM_st rM_undone rM_kept iM_undos iM_images rM_fresher iM_fresherSize iM_scale iM_night rM_heardRow rM_cutRow iM_breaths iM_cutMany iM_allBreaths rM_trial rM_words iM_fewestBreaths iM_orderMany iM_orderSum iM_leastOrder rM_often iM_setMany iM_someOf iM_allOf iM_allWeight iM_enoughWeight iM_worthSum iM_firstRest iM_leastDrawn), (arI rM_tape kM_tape 900 fM_tape), (arI rM_letters kM_letters 8 fM_letters)] sz)) 0 0 (va_A [(oc7 oM iM_thrown rM_tape iM_taped iM_size iM_at iM_end iM_token iM_whole iM_nameSize iM_fault iM_place iM_trouble rM_letters iM_failed iM_hasCourt rM_r rM_fresh rM_told rM_read rM_st rM_undone rM_kept iM_undos iM_images rM_fresher iM_fresherSize iM_scale iM_night rM_heardRow rM_cutRow iM_breaths iM_cutMany iM_allBreaths rM_trial rM_words iM_fewestBreaths iM_orderMany iM_orderSum iM_leastOrder rM_often iM_setMany iM_someOf iM_allOf iM_allWeight iM_enoughWeight iM_worthSum iM_firstRest iM_leastDrawn), (arI rM_tape kM_tape 900 fM_tape), (arI rM_letters kM_letters 8 fM_letters)] sz) := by
  refine Met.ofW (cc := cX7_next) (maxL := 4) (ret := none) pnX7 rfl ?_
  intro p e s m args below meth c s₁ B hml hv
  obtain ⟨rfl, hsz, hP, hK, hD0, hE⟩ := hv
  have hx := B.exec
  have hb := B.bytes
  have hr := B.returns
  have hts : ∀ w ∈ wG, w.before ([.ref oM] : List Value).toArray s = true := fun w h => atoms_spec (ws := Cond.code yX7_next cX7_next 4 none :: wG) B.pre w (List.mem_cons_of_mem _ h)
  have hown : s.vm.findClass RX7 = some m.cls := own_of B.named rfl
  have hlocks := B.notSynchronized
  subst hsz
  have hD := hD0.self (sz := s.heap.size)
  generalize hAe : va_A [(oc7 oM iM_thrown rM_tape iM_taped iM_size iM_at iM_end iM_token iM_whole iM_nameSize iM_fault iM_place iM_trouble rM_letters iM_failed iM_hasCourt rM_r rM_fresh rM_told rM_read rM_st rM_undone rM_kept iM_undos iM_images rM_fresher iM_fresherSize iM_scale iM_night rM_heardRow rM_cutRow iM_breaths iM_cutMany iM_allBreaths rM_trial rM_words iM_fewestBreaths iM_orderMany iM_orderSum iM_leastOrder rM_often iM_setMany iM_someOf iM_allOf iM_allWeight iM_enoughWeight iM_worthSum iM_firstRest iM_leastDrawn), (arI rM_tape kM_tape 900 fM_tape), (arI rM_letters kM_letters 8 fM_letters)] s.heap.size = A at hD hE ⊢
  have hA : ∀ q : Nat, s.heap.size ≤ q → A q := fun q h => by rw [← hAe]; exact Or.inr h
  have hS : va_S A s.heap s.heap [] := va_S.rf
  have hl := lv_entry ([.ref oM]) (n := 4) (Nat.le_of_ble_eq_true rfl)
  rw [lg_entry_eq]
  generalize (lg_sl ([.ref oM]) ++ List.replicate (4 - (lg_sl ([.ref oM])).length) Slot.unset).toArray = ls at hl ⊢
  have hl : lv_has ls 4 [(0, .ref oM)] := hl
  have hG := PX7_next_eq fM_tape iM_size iM_end fM_letters
  refine lv_aload_n hx hb dX7_next_0 rfl (lv_at hl 0 rfl) ?_
  refine va_get (D := (dC, dI)) (ci := 7) (v := .int iM_end) (C := RX7) (T := TX7) (N := 48) hx hb hts inX7 hown hK hP 0 rfl rfl 5 (by decide) (hts _ wd_382) (fun _ h9 => h9) rfl dX7_next_1 ?_
  refine lv_istore_n (lv' := [(1, .int iM_end), (0, .ref oM)]) hx hb dX7_next_4 rfl hl (by decide) rfl (fun ls hl => ?_)
  have hl := lv_sub hl (l' := [(1, .int iM_end), (0, .ref oM)]) [0, 1] rfl
  have key_n_4785 : ∀ (n_4785 : Nat) (z_4784 : Int32) (H : Heap) (locs : List Loc) (ls : Array Slot), (iM_end.toInt ≤ z_4784.toInt ∧ z_4784.toInt ≤ 900) → (900 - z_4784.toInt).toNat < n_4785 → (PX7_next fM_tape iM_size iM_end fM_letters = HX7_next_0 fM_tape iM_size fM_letters n_4785 z_4784) → va_P (dC, dI) vwCl [(oc7 oM iM_thrown rM_tape iM_taped iM_size iM_at iM_end iM_token iM_whole iM_nameSize iM_fault iM_place iM_trouble rM_letters iM_failed iM_hasCourt rM_r rM_fresh rM_told rM_read rM_st rM_undone rM_kept iM_undos iM_images rM_fresher iM_fresherSize iM_scale iM_night rM_heardRow rM_cutRow iM_breaths iM_cutMany iM_allBreaths rM_trial rM_words iM_fewestBreaths iM_orderMany iM_orderSum iM_leastOrder rM_often iM_setMany iM_someOf iM_allOf iM_allWeight iM_enoughWeight iM_worthSum iM_firstRest iM_leastDrawn), (arI rM_tape kM_tape 900 fM_tape), (arI rM_letters kM_letters 8 fM_letters)] H → va_D A [(oc7 oM iM_thrown rM_tape iM_taped iM_size iM_at iM_end iM_token iM_whole iM_nameSize iM_fault iM_place iM_trouble rM_letters iM_failed iM_hasCourt rM_r rM_fresh rM_told rM_read rM_st rM_undone rM_kept iM_undos iM_images rM_fresher iM_fresherSize iM_scale iM_night rM_heardRow rM_cutRow iM_breaths iM_cutMany iM_allBreaths rM_trial rM_words iM_fewestBreaths iM_orderMany iM_orderSum iM_leastOrder rM_often iM_setMany iM_someOf iM_allOf iM_allWeight iM_enoughWeight iM_worthSum iM_firstRest iM_leastDrawn), (arI rM_tape kM_tape 900 fM_tape), (arI rM_letters kM_letters 8 fM_letters)] → va_S A s.heap H locs → lv_has ls 4 [(1, .int z_4784), (0, .ref oM)] → W p l e (headSpec (Cond.code yX7_next cX7_next 4 none :: wG) ({ frames := 1, cells := 0, slots := 0, locals := 21 })).room s m ([.ref oM] : List Value).toArray below meth c H locs 0 0 (MQ below (va_Qv (fun (_ : Nat) => True) (fun (_ : Nat) (t : State) => ∃ (niM_at : Int32) (niM_end : Int32) (niM_token : Int32) (niM_whole : Int32) (niM_nameSize : Int32) (nfM_letters : Nat → Int32), (0 ≤ niM_end.toInt ∧ niM_end.toInt ≤ 900) ∧ (0 ≤ niM_nameSize.toInt ∧ niM_nameSize.toInt ≤ 900) ∧ (iM_end.toInt ≤ niM_end.toInt) ∧ (ImpP (niM_token.toInt = 2) (niM_nameSize.toInt ≤ 8)) ∧ (ImpP (niM_token.toInt = 59 ) (iM_end.toInt + 1 ≤ niM_end.toInt)) ∧ (PX7_next fM_tape iM_size iM_end fM_letters = (niM_at, niM_end, niM_token, niM_whole, niM_nameSize, nfM_letters)) ∧ Bw dC dI A [(oc7 oM iM_thrown rM_tape iM_taped iM_size niM_at niM_end niM_token niM_whole niM_nameSize iM_fault iM_place iM_trouble rM_letters iM_failed iM_hasCourt rM_r rM_fresh rM_told rM_read rM_st rM_undone rM_kept iM_undos iM_images rM_fresher iM_fresherSize iM_scale iM_night rM_heardRow rM_cutRow iM_breaths iM_cutMany iM_allBreaths rM_trial rM_words iM_fewestBreaths iM_orderMany iM_orderSum iM_leastOrder rM_often iM_setMany iM_someOf iM_allOf iM_allWeight iM_enoughWeight iM_worthSum iM_firstRest iM_leastDrawn), (arI rM_tape kM_tape 900 fM_tape), (arI rM_letters kM_letters 8 nfM_letters)] [(kM_tape, .int), (kM_letters, .int)] t) A) ([.ref oM] : List Value).toArray s 0 0 A) (F0 m 5 ls []) := by
    intro n_4785
    induction n_4785 with
    | zero => intro z_4784 H locs ls hi0_n_4785 hm; exact absurd hm (Nat.not_lt_zero _)
    | succ n_4785 ih_n_4785 =>
      intro z_4784 H locs ls hi0_n_4785 hm_n_4785 hG hP hD hS hl
      have hG := hG.trans (HX7_next_0_eq _ _ _ _ _)
      refine lv_aload_n hx hb dX7_next_5 rfl (lv_at hl 1 rfl) ?_
      refine lv_iload_n hx hb dX7_next_6 rfl (lv_at hl 0 rfl) ?_
      have hMs := ml_of hD [true, true, false] (wc := [(oc7 oM iM_thrown rM_tape iM_taped iM_size iM_at iM_end iM_token iM_whole iM_nameSize iM_fault iM_place iM_trouble rM_letters iM_failed iM_hasCourt rM_r rM_fresh rM_told rM_read rM_st rM_undone rM_kept iM_undos iM_images rM_fresher iM_fresherSize iM_scale iM_night rM_heardRow rM_cutRow iM_breaths iM_cutMany iM_allBreaths rM_trial rM_words iM_fewestBreaths iM_orderMany iM_orderSum iM_leastOrder rM_often iM_setMany iM_someOf iM_allOf iM_allWeight iM_enoughWeight iM_worthSum iM_firstRest iM_leastDrawn), (arI rM_tape kM_tape 900 fM_tape)]) rfl
      have hFc := va_freeM hD hS hA _ hMs
      refine va_calli (va_runV (As := [.int z_4784]) (rest := []) ⟨hx, hb, hml, hown, hts⟩ (tX7_see_p l dC dI _ oM iM_thrown rM_tape fM_tape kM_tape iM_taped iM_size iM_at iM_end iM_token iM_whole iM_nameSize iM_fault iM_place iM_trouble rM_letters iM_failed iM_hasCourt rM_r rM_fresh rM_told rM_read rM_st rM_undone rM_kept iM_undos iM_images rM_fresher iM_fresherSize iM_scale iM_night rM_heardRow rM_cutRow iM_breaths iM_cutMany iM_allBreaths rM_trial rM_words iM_fewestBreaths iM_orderMany iM_orderSum iM_leastOrder rM_often iM_setMany iM_someOf iM_allOf iM_allWeight iM_enoughWeight iM_worthSum iM_firstRest iM_leastDrawn z_4784 b_iM_taped b_iM_size b_iM_end b_iM_nameSize b_iM_failed b_iM_hasCourt b_iM_undos b_iM_images b_iM_scale b_iM_breaths b_iM_cutMany (om_11cc87cb b_iM_end.1 hi0_n_4785.1)) (cwV 1 hts (wd_V wd_406 wd_407 wd_408 wd_5 (wd_c wd_409)) rfl rfl rfl dv_yX7_see_1 ⟨Nat.le_of_ble_eq_true rfl, Nat.le_of_ble_eq_true rfl⟩) ⟨Pw.fb, recvX7 hK hP (q0 := 0) rfl, fun U hU hW => Pw.to (hP.ms _ hMs) (hD.ms _ hMs) (hK.ms [true, false] rfl) hE hS hFc hU hW⟩ rfl rfl hl.1 rfl (lv_room (Nat.le_of_ble_eq_true rfl)) dX7_next_7 ⟨Nat.le_of_ble_eq_true rfl, Nat.le_of_ble_eq_true rfl⟩) hS (fun q _ h => hFc q h) hFc (fun r u t H locs ht hvm hw hB hz1 hk1 hS => ?_)
      have hru9 := hw.2
      have hw := hw.1
      obtain ⟨hP, hD⟩ := Bw.goN (ws' := [(oc7 oM iM_thrown rM_tape iM_taped iM_size iM_at iM_end iM_token iM_whole iM_nameSize iM_fault iM_place iM_trouble rM_letters iM_failed iM_hasCourt rM_r rM_fresh rM_told rM_read rM_st rM_undone rM_kept iM_undos iM_images rM_fresher iM_fresherSize iM_scale iM_night rM_heardRow rM_cutRow iM_breaths iM_cutMany iM_allBreaths rM_trial rM_words iM_fewestBreaths iM_orderMany iM_orderSum iM_leastOrder rM_often iM_setMany iM_someOf iM_allOf iM_allWeight iM_enoughWeight iM_worthSum iM_firstRest iM_leastDrawn), (arI rM_tape kM_tape 900 fM_tape), (arI rM_letters kM_letters 8 fM_letters)]) hB rfl ht hP hD _ hMs hk1 hFc rfl
      clear hz1 hk1 hvm ht hB hMs
      obtain ⟨x_4786, rfl⟩ : ∃ z, z = r := ⟨_, rfl⟩
      have hG := hG.trans (lt_eq hru9.symm)
      have lx_4786 := hw.2
      refine lv_bipush (v := 32) hx hb dX7_next_10 (by decide) ?_
      refine lv_icmp_ne (tgt := 21) hx hb dX7_next_12 (by decide) (fun c_4787 => ?_) (fun c_4787 => ?_)
      · skip
        have hG := hG.trans (if_neg c_4787)
        have gc_4787 := ti_ne c_4787 rfl kc_32
        refine lv_aload_n hx hb dX7_next_21 rfl (lv_at hl 1 rfl) ?_
        refine lv_iload_n hx hb dX7_next_22 rfl (lv_at hl 0 rfl) ?_
        refine va_put (D := (dC, dI)) (ci := 7) (v := .int z_4784) (ty := .int) (C := RX7) (T := TX7) (N := 48) hx hb hts inX7 tyX7 tyX7_ok nmX7 hown hK hP hD hS 0 rfl rfl 4 (by decide) (hts _ wd_384) (fun _ h9 => h9) rfl (by decide +kernel) rfl rfl (Nat.le_of_ble_eq_true rfl) dX7_next_23 (fun H locs hP hD hS => ?_)
        obtain ⟨hP, hD⟩ := wl2 (ws' := [(oc7 oM iM_thrown rM_tape iM_taped iM_size z_4784 iM_end iM_token iM_whole iM_nameSize iM_fault iM_place iM_trouble rM_letters iM_failed iM_hasCourt rM_r rM_fresh rM_told rM_read rM_st rM_undone rM_kept iM_undos iM_images rM_fresher iM_fresherSize iM_scale iM_night rM_heardRow rM_cutRow iM_breaths iM_cutMany iM_allBreaths rM_trial rM_words iM_fewestBreaths iM_orderMany iM_orderSum iM_leastOrder rM_often iM_setMany iM_someOf iM_allOf iM_allWeight iM_enoughWeight iM_worthSum iM_firstRest iM_leastDrawn), (arI rM_tape kM_tape 900 fM_tape), (arI rM_letters kM_letters 8 fM_letters)]) hP hD rfl
        refine lv_aload_n hx hb dX7_next_26 rfl (lv_at hl 1 rfl) ?_
        refine lv_iload_n hx hb dX7_next_27 rfl (lv_at hl 0 rfl) ?_
        have hMs := ml_of hD [true, true, false] (wc := [(oc7 oM iM_thrown rM_tape iM_taped iM_size z_4784 iM_end iM_token iM_whole iM_nameSize iM_fault iM_place iM_trouble rM_letters iM_failed iM_hasCourt rM_r rM_fresh rM_told rM_read rM_st rM_undone rM_kept iM_undos iM_images rM_fresher iM_fresherSize iM_scale iM_night rM_heardRow rM_cutRow iM_breaths iM_cutMany iM_allBreaths rM_trial rM_words iM_fewestBreaths iM_orderMany iM_orderSum iM_leastOrder rM_often iM_setMany iM_someOf iM_allOf iM_allWeight iM_enoughWeight iM_worthSum iM_firstRest iM_leastDrawn), (arI rM_tape kM_tape 900 fM_tape)]) rfl
        have hFc := va_freeM hD hS hA _ hMs
        refine va_calli (va_runV (As := [.int z_4784]) (rest := []) ⟨hx, hb, hml, hown, hts⟩ (tX7_see_p l dC dI _ oM iM_thrown rM_tape fM_tape kM_tape iM_taped iM_size z_4784 iM_end iM_token iM_whole iM_nameSize iM_fault iM_place iM_trouble rM_letters iM_failed iM_hasCourt rM_r rM_fresh rM_told rM_read rM_st rM_undone rM_kept iM_undos iM_images rM_fresher iM_fresherSize iM_scale iM_night rM_heardRow rM_cutRow iM_breaths iM_cutMany iM_allBreaths rM_trial rM_words iM_fewestBreaths iM_orderMany iM_orderSum iM_leastOrder rM_often iM_setMany iM_someOf iM_allOf iM_allWeight iM_enoughWeight iM_worthSum iM_firstRest iM_leastDrawn z_4784 b_iM_taped b_iM_size b_iM_end b_iM_nameSize b_iM_failed b_iM_hasCourt b_iM_undos b_iM_images b_iM_scale b_iM_breaths b_iM_cutMany (om_11cc87cb b_iM_end.1 hi0_n_4785.1)) (cwV 1 hts (wd_V wd_406 wd_407 wd_408 wd_5 (wd_c wd_409)) rfl rfl rfl dv_yX7_see_1 ⟨Nat.le_of_ble_eq_true rfl, Nat.le_of_ble_eq_true rfl⟩) ⟨Pw.fb, recvX7 hK hP (q0 := 0) rfl, fun U hU hW => Pw.to (hP.ms _ hMs) (hD.ms _ hMs) (hK.ms [true, false] rfl) hE hS hFc hU hW⟩ rfl rfl hl.1 rfl (lv_room (Nat.le_of_ble_eq_true rfl)) dX7_next_28 ⟨Nat.le_of_ble_eq_true rfl, Nat.le_of_ble_eq_true rfl⟩) hS (fun q _ h => hFc q h) hFc (fun r u t H locs ht hvm hw hB hz1 hk1 hS => ?_)
        have hru9 := hw.2
        have hw := hw.1
        obtain ⟨hP, hD⟩ := Bw.goN (ws' := [(oc7 oM iM_thrown rM_tape iM_taped iM_size z_4784 iM_end iM_token iM_whole iM_nameSize iM_fault iM_place iM_trouble rM_letters iM_failed iM_hasCourt rM_r rM_fresh rM_told rM_read rM_st rM_undone rM_kept iM_undos iM_images rM_fresher iM_fresherSize iM_scale iM_night rM_heardRow rM_cutRow iM_breaths iM_cutMany iM_allBreaths rM_trial rM_words iM_fewestBreaths iM_orderMany iM_orderSum iM_leastOrder rM_often iM_setMany iM_someOf iM_allOf iM_allWeight iM_enoughWeight iM_worthSum iM_firstRest iM_leastDrawn), (arI rM_tape kM_tape 900 fM_tape), (arI rM_letters kM_letters 8 fM_letters)]) hB rfl ht hP hD _ hMs hk1 hFc rfl
        clear hz1 hk1 hvm ht hB hMs
        obtain ⟨x_4788, rfl⟩ : ∃ z, z = r := ⟨_, rfl⟩
        have hG := hG.trans (lt_eq hru9.symm)
        have lx_4788 := hw.2
        refine lv_istore_n (lv' := [(2, .int x_4788), (1, .int z_4784), (0, .ref oM)]) hx hb dX7_next_31 rfl hl (by decide) rfl (fun ls hl => ?_)
        refine lv_aload_n hx hb dX7_next_32 rfl (lv_at hl 2 rfl) ?_
        refine lv_iconst (v := 0) hx hb dX7_next_33 (by decide) ?_
        refine va_put (D := (dC, dI)) (ci := 7) (v := .int 0) (ty := .int) (C := RX7) (T := TX7) (N := 48) hx hb hts inX7 tyX7 tyX7_ok nmX7 hown hK hP hD hS 0 rfl rfl 8 (by decide) (hts _ wd_404) (fun _ h9 => h9) rfl (by decide +kernel) rfl rfl (Nat.le_of_ble_eq_true rfl) dX7_next_34 (fun H locs hP hD hS => ?_)
        obtain ⟨hP, hD⟩ := wl2 (ws' := [(oc7 oM iM_thrown rM_tape iM_taped iM_size z_4784 iM_end iM_token iM_whole 0 iM_fault iM_place iM_trouble rM_letters iM_failed iM_hasCourt rM_r rM_fresh rM_told rM_read rM_st rM_undone rM_kept iM_undos iM_images rM_fresher iM_fresherSize iM_scale iM_night rM_heardRow rM_cutRow iM_breaths iM_cutMany iM_allBreaths rM_trial rM_words iM_fewestBreaths iM_orderMany iM_orderSum iM_leastOrder rM_often iM_setMany iM_someOf iM_allOf iM_allWeight iM_enoughWeight iM_worthSum iM_firstRest iM_leastDrawn), (arI rM_tape kM_tape 900 fM_tape), (arI rM_letters kM_letters 8 fM_letters)]) hP hD rfl
        refine lv_aload_n hx hb dX7_next_37 rfl (lv_at hl 2 rfl) ?_
        refine lv_iconst (v := 0) hx hb dX7_next_38 (by decide) ?_
        refine va_put (D := (dC, dI)) (ci := 7) (v := .int 0) (ty := .int) (C := RX7) (T := TX7) (N := 48) hx hb hts inX7 tyX7 tyX7_ok nmX7 hown hK hP hD hS 0 rfl rfl 7 (by decide) (hts _ wd_405) (fun _ h9 => h9) rfl (by decide +kernel) rfl rfl (Nat.le_of_ble_eq_true rfl) dX7_next_39 (fun H locs hP hD hS => ?_)
        obtain ⟨hP, hD⟩ := wl2 (ws' := [(oc7 oM iM_thrown rM_tape iM_taped iM_size z_4784 iM_end iM_token 0 0 iM_fault iM_place iM_trouble rM_letters iM_failed iM_hasCourt rM_r rM_fresh rM_told rM_read rM_st rM_undone rM_kept iM_undos iM_images rM_fresher iM_fresherSize iM_scale iM_night rM_heardRow rM_cutRow iM_breaths iM_cutMany iM_allBreaths rM_trial rM_words iM_fewestBreaths iM_orderMany iM_orderSum iM_leastOrder rM_often iM_setMany iM_someOf iM_allOf iM_allWeight iM_enoughWeight iM_worthSum iM_firstRest iM_leastDrawn), (arI rM_tape kM_tape 900 fM_tape), (arI rM_letters kM_letters 8 fM_letters)]) hP hD rfl
        refine lv_iload_n hx hb dX7_next_42 rfl (lv_at hl 0 rfl) ?_
        refine lv_iconst (v := (-1)) hx hb dX7_next_43 (by decide) ?_
        refine lv_icmp_ne (tgt := 60) hx hb dX7_next_44 (by decide) (fun c_4789 => ?_) (fun c_4789 => ?_)
        · skip
          have hG := hG.trans (if_neg c_4789)
          have gc_4789 := ti_ne c_4789 rfl kc_m1
          have h_4790 : z_4784.toInt < iM_size.toInt := lx_4788 (by omega)
          clear lx_4788
          refine lv_iload_n hx hb dX7_next_60 rfl (lv_at hl 0 rfl) ?_
          have hFc : ∀ q, va_A [] _ q → A q := fun q h => hA q (Nat.le_trans hS.1 (va_nilA h))
          refine va_calli (va_runS (As := [.int x_4788]) (rest := []) ⟨hx, hb, hml, hown, hts⟩ (tX7_isSmall_p l dC dI _ x_4788 ) (va_cwS 1 hts (wd_S wd_410 wd_411 wd_5 (wd_c wd_412)) rfl rfl rfl ds_yX7_isSmall_1 ⟨Nat.le_of_ble_eq_true rfl, Nat.le_of_ble_eq_true rfl⟩) ⟨Pw.fb, fun U hU hW => Pn.to hK hE hS hA hU hW⟩ rfl rfl hl.1 rfl (lv_room (Nat.le_of_ble_eq_true rfl)) dX7_next_61 ⟨Nat.le_of_ble_eq_true rfl, Nat.le_of_ble_eq_true rfl⟩) hS (fun q _ h => hFc q h) hFc (fun r u t H locs ht hvm hw hB hz1 hk1 hS => ?_)
          obtain ⟨hP, hD, hK⟩ := Bw.same ht hvm hP hD hK hk1 hFc
          clear hz1 hk1 hvm ht hB
          have hq9 := hw.2
          have hw := hw.1
          obtain ⟨x_4791, rfl⟩ : ∃ z, z = r := ⟨_, rfl⟩
          have hq_x_4791 := hq9
          have hG := hG.trans (lt_eq hq_x_4791.symm)
          have bx_4791 := hw.1
          have dx_4791 := bz_tb bx_4791
          have lx_4791 := hw.2
          refine lv_if_eq (tgt := 143) hx hb dX7_next_64 (by decide) (fun c_4792 => ?_) (fun c_4792 => ?_)
          · skip
            have hG := hG.trans (if_pos c_4792)
            have gc_4792 := ti_eq c_4792 rfl kc_0
            clear lx_4791
            refine lv_iload_n hx hb dX7_next_143 rfl (lv_at hl 0 rfl) ?_
            have hFc : ∀ q, va_A [] _ q → A q := fun q h => hA q (Nat.le_trans hS.1 (va_nilA h))
            refine va_calli (va_runS (As := [.int x_4788]) (rest := []) ⟨hx, hb, hml, hown, hts⟩ (tX7_isDigit_p l dC dI _ x_4788 ) (va_cwS 1 hts (wd_S wd_413 wd_414 wd_5 (wd_c wd_415)) rfl rfl rfl ds_yX7_isDigit_1 ⟨Nat.le_of_ble_eq_true rfl, Nat.le_of_ble_eq_true rfl⟩) ⟨Pw.fb, fun U hU hW => Pn.to hK hE hS hA hU hW⟩ rfl rfl hl.1 rfl (lv_room (Nat.le_of_ble_eq_true rfl)) dX7_next_144 ⟨Nat.le_of_ble_eq_true rfl, Nat.le_of_ble_eq_true rfl⟩) hS (fun q _ h => hFc q h) hFc (fun r u t H locs ht hvm hw hB hz1 hk1 hS => ?_)
            obtain ⟨hP, hD, hK⟩ := Bw.same ht hvm hP hD hK hk1 hFc
            clear hz1 hk1 hvm ht hB
            have hq9 := hw.2
            have hw := hw.1
            obtain ⟨x_4793, rfl⟩ : ∃ z, z = r := ⟨_, rfl⟩
            have hq_x_4793 := hq9
            have hG := hG.trans (lt_eq hq_x_4793.symm)
            have bx_4793 := hw.1
            have dx_4793 := bz_tb bx_4793
            have lx_4793 := hw.2
            refine lv_if_eq (tgt := 219) hx hb dX7_next_147 (by decide) (fun c_4794 => ?_) (fun c_4794 => ?_)
            · skip
              have hG := hG.trans (if_pos c_4794)
              have gc_4794 := ti_eq c_4794 rfl kc_0
              clear lx_4793
              refine lv_aload_n hx hb dX7_next_219 rfl (lv_at hl 2 rfl) ?_
              refine lv_iload_n hx hb dX7_next_220 rfl (lv_at hl 1 rfl) ?_
              refine lv_iconst (v := 1) hx hb dX7_next_221 (by decide) ?_
              refine lv_iadd hx hb dX7_next_222 ?_
              refine lv_topi (fun x_4795 ex_4795 => ?_)
              have hG := hG.trans (lt_eq ex_4795)
              have vx_4795 : x_4795.toInt = z_4784.toInt + 1 := ti_add ex_4795 rfl kc_1 (om_f24caf23 b_iM_end.1 hi0_n_4785.1) (om_a4907767 hi0_n_4785.2)
              refine va_put (D := (dC, dI)) (ci := 7) (v := .int x_4795) (ty := .int) (C := RX7) (T := TX7) (N := 48) hx hb hts inX7 tyX7 tyX7_ok nmX7 hown hK hP hD hS 0 rfl rfl 5 (by decide) (hts _ wd_382) (fun _ h9 => h9) rfl (by decide +kernel) rfl rfl (Nat.le_of_ble_eq_true rfl) dX7_next_223 (fun H locs hP hD hS => ?_)
              obtain ⟨hP, hD⟩ := wl2 (ws' := [(oc7 oM iM_thrown rM_tape iM_taped iM_size z_4784 x_4795 iM_token 0 0 iM_fault iM_place iM_trouble rM_letters iM_failed iM_hasCourt rM_r rM_fresh rM_told rM_read rM_st rM_undone rM_kept iM_undos iM_images rM_fresher iM_fresherSize iM_scale iM_night rM_heardRow rM_cutRow iM_breaths iM_cutMany iM_allBreaths rM_trial rM_words iM_fewestBreaths iM_orderMany iM_orderSum iM_leastOrder rM_often iM_setMany iM_someOf iM_allOf iM_allWeight iM_enoughWeight iM_worthSum iM_firstRest iM_leastDrawn), (arI rM_tape kM_tape 900 fM_tape), (arI rM_letters kM_letters 8 fM_letters)]) hP hD rfl
              refine lv_aload_n hx hb dX7_next_226 rfl (lv_at hl 2 rfl) ?_
              refine lv_iload_n hx hb dX7_next_227 rfl (lv_at hl 0 rfl) ?_
              refine lv_bipush (v := 59) hx hb dX7_next_228 (by decide) ?_
              refine lv_icmp_eq (tgt := 239) hx hb dX7_next_230 (by decide) (fun c_4796 => ?_) (fun c_4796 => ?_)
              · skip
                have hG := hG.trans (if_pos c_4796)
                have gc_4796 := ti_eq c_4796 rfl kc_59
                refine lv_iload_n hx hb dX7_next_239 rfl (lv_at hl 0 rfl) ?_
                refine lv_goto (tgt := 244) hx hb dX7_next_240 (by decide) ?_
                refine va_put (D := (dC, dI)) (ci := 7) (v := .int x_4788) (ty := .int) (C := RX7) (T := TX7) (N := 48) hx hb hts inX7 tyX7 tyX7_ok nmX7 hown hK hP hD hS 0 rfl rfl 6 (by decide) (hts _ wd_383) (fun _ h9 => h9) rfl (by decide +kernel) rfl rfl (Nat.le_of_ble_eq_true rfl) dX7_next_244 (fun H locs hP hD hS => ?_)
                obtain ⟨hP, hD⟩ := wl2 (ws' := [(oc7 oM iM_thrown rM_tape iM_taped iM_size z_4784 x_4795 x_4788 0 0 iM_fault iM_place iM_trouble rM_letters iM_failed iM_hasCourt rM_r rM_fresh rM_told rM_read rM_st rM_undone rM_kept iM_undos iM_images rM_fresher iM_fresherSize iM_scale iM_night rM_heardRow rM_cutRow iM_breaths iM_cutMany iM_allBreaths rM_trial rM_words iM_fewestBreaths iM_orderMany iM_orderSum iM_leastOrder rM_often iM_setMany iM_someOf iM_allOf iM_allWeight iM_enoughWeight iM_worthSum iM_firstRest iM_leastDrawn), (arI rM_tape kM_tape 900 fM_tape), (arI rM_letters kM_letters 8 fM_letters)]) hP hD rfl
                exact wq_v hx hb hr 0 trivial (fun t ht hW => ⟨z_4784, x_4795, x_4788, 0, 0, fM_letters, ⟨(om_38d8cad5 b_iM_end.1 hi0_n_4785.1 vx_4795), (om_56f574e0 b_iM_size.2 h_4790 vx_4795)⟩, (by decide), (om_dd50ccc5 hi0_n_4785.1 vx_4795), (fun h9 => (om_f04fb0e3 kc_0)), (fun h9 => (om_fc5b453a hi0_n_4785.1 vx_4795)), hG, Bw.to hP hD hK ht hW⟩) hS dX7_next_247 hlocks
              · skip
                have hG := hG.trans (if_neg c_4796)
                have gc_4796 := ti_ne c_4796 rfl kc_59
                refine lv_iload_n hx hb dX7_next_233 rfl (lv_at hl 0 rfl) ?_
                refine lv_bipush (v := 44) hx hb dX7_next_234 (by decide) ?_
                refine lv_icmp_ne (tgt := 243) hx hb dX7_next_236 (by decide) (fun c_4797 => ?_) (fun c_4797 => ?_)
                · skip
                  have hG := hG.trans (if_neg c_4797)
                  have gc_4797 := ti_ne c_4797 rfl kc_44
                  refine lv_iconst (v := 1) hx hb dX7_next_243 (by decide) ?_
                  refine va_put (D := (dC, dI)) (ci := 7) (v := .int 1) (ty := .int) (C := RX7) (T := TX7) (N := 48) hx hb hts inX7 tyX7 tyX7_ok nmX7 hown hK hP hD hS 0 rfl rfl 6 (by decide) (hts _ wd_383) (fun _ h9 => h9) rfl (by decide +kernel) rfl rfl (Nat.le_of_ble_eq_true rfl) dX7_next_244 (fun H locs hP hD hS => ?_)
                  obtain ⟨hP, hD⟩ := wl2 (ws' := [(oc7 oM iM_thrown rM_tape iM_taped iM_size z_4784 x_4795 1 0 0 iM_fault iM_place iM_trouble rM_letters iM_failed iM_hasCourt rM_r rM_fresh rM_told rM_read rM_st rM_undone rM_kept iM_undos iM_images rM_fresher iM_fresherSize iM_scale iM_night rM_heardRow rM_cutRow iM_breaths iM_cutMany iM_allBreaths rM_trial rM_words iM_fewestBreaths iM_orderMany iM_orderSum iM_leastOrder rM_often iM_setMany iM_someOf iM_allOf iM_allWeight iM_enoughWeight iM_worthSum iM_firstRest iM_leastDrawn), (arI rM_tape kM_tape 900 fM_tape), (arI rM_letters kM_letters 8 fM_letters)]) hP hD rfl
                  exact wq_v hx hb hr 0 trivial (fun t ht hW => ⟨z_4784, x_4795, 1, 0, 0, fM_letters, ⟨(om_38d8cad5 b_iM_end.1 hi0_n_4785.1 vx_4795), (om_56f574e0 b_iM_size.2 h_4790 vx_4795)⟩, (by decide), (om_dd50ccc5 hi0_n_4785.1 vx_4795), (fun h9 => (om_f04fb0e3 kc_0)), (fun h9 => (om_fc5b453a hi0_n_4785.1 vx_4795)), hG, Bw.to hP hD hK ht hW⟩) hS dX7_next_247 hlocks
                · skip
                  have hG := hG.trans (if_pos c_4797)
                  have gc_4797 := ti_eq c_4797 rfl kc_44
                  refine lv_iload_n hx hb dX7_next_239 rfl (lv_at hl 0 rfl) ?_
                  refine lv_goto (tgt := 244) hx hb dX7_next_240 (by decide) ?_
                  refine va_put (D := (dC, dI)) (ci := 7) (v := .int x_4788) (ty := .int) (C := RX7) (T := TX7) (N := 48) hx hb hts inX7 tyX7 tyX7_ok nmX7 hown hK hP hD hS 0 rfl rfl 6 (by decide) (hts _ wd_383) (fun _ h9 => h9) rfl (by decide +kernel) rfl rfl (Nat.le_of_ble_eq_true rfl) dX7_next_244 (fun H locs hP hD hS => ?_)
                  obtain ⟨hP, hD⟩ := wl2 (ws' := [(oc7 oM iM_thrown rM_tape iM_taped iM_size z_4784 x_4795 x_4788 0 0 iM_fault iM_place iM_trouble rM_letters iM_failed iM_hasCourt rM_r rM_fresh rM_told rM_read rM_st rM_undone rM_kept iM_undos iM_images rM_fresher iM_fresherSize iM_scale iM_night rM_heardRow rM_cutRow iM_breaths iM_cutMany iM_allBreaths rM_trial rM_words iM_fewestBreaths iM_orderMany iM_orderSum iM_leastOrder rM_often iM_setMany iM_someOf iM_allOf iM_allWeight iM_enoughWeight iM_worthSum iM_firstRest iM_leastDrawn), (arI rM_tape kM_tape 900 fM_tape), (arI rM_letters kM_letters 8 fM_letters)]) hP hD rfl
                  exact wq_v hx hb hr 0 trivial (fun t ht hW => ⟨z_4784, x_4795, x_4788, 0, 0, fM_letters, ⟨(om_38d8cad5 b_iM_end.1 hi0_n_4785.1 vx_4795), (om_56f574e0 b_iM_size.2 h_4790 vx_4795)⟩, (by decide), (om_dd50ccc5 hi0_n_4785.1 vx_4795), (fun h9 => (om_f04fb0e3 kc_0)), (fun h9 => (om_fc5b453a hi0_n_4785.1 vx_4795)), hG, Bw.to hP hD hK ht hW⟩) hS dX7_next_247 hlocks
            · skip
              have hG := hG.trans (if_neg c_4794)
              have gc_4794 := ti_ne c_4794 rfl kc_0
              replace gc_4794 : (-1) * x_4793.toInt + 1 ≤ 0 := om_e3003f79 gc_4794 dx_4793.1
              have h_4798 := lx_4793 (by omega)
              clear lx_4793
              refine lv_iconst (v := 0) hx hb dX7_next_150 (by decide) ?_
              refine lv_istore_n (lv' := [(3, .int 0), (2, .int x_4788), (1, .int z_4784), (0, .ref oM)]) hx hb dX7_next_151 rfl hl (by decide) rfl (fun ls hl => ?_)
              have hl := lv_sub hl (l' := [(3, .int 0), (2, .int x_4788), (1, .int z_4784), (0, .ref oM)]) [0, 1, 2, 3] rfl
              have key_n_4802 : ∀ (n_4802 : Nat) (z_4799 : Int32) (z_4800 : Int32) (z_4801 : Int32) (H : Heap) (locs : List Loc) (ls : Array Slot), (iM_end.toInt ≤ z_4799.toInt ∧ z_4799.toInt ≤ 900) → (0 ≤ z_4800.toInt ∧ z_4800.toInt ≤ z_4799.toInt) → (900 - z_4799.toInt).toNat < n_4802 → (PX7_next fM_tape iM_size iM_end fM_letters = HX7_next_1 fM_tape iM_size fM_letters z_4784 n_4802 z_4799 z_4800 z_4801) → va_P (dC, dI) vwCl [(oc7 oM iM_thrown rM_tape iM_taped iM_size z_4784 iM_end iM_token z_4801 0 iM_fault iM_place iM_trouble rM_letters iM_failed iM_hasCourt rM_r rM_fresh rM_told rM_read rM_st rM_undone rM_kept iM_undos iM_images rM_fresher iM_fresherSize iM_scale iM_night rM_heardRow rM_cutRow iM_breaths iM_cutMany iM_allBreaths rM_trial rM_words iM_fewestBreaths iM_orderMany iM_orderSum iM_leastOrder rM_often iM_setMany iM_someOf iM_allOf iM_allWeight iM_enoughWeight iM_worthSum iM_firstRest iM_leastDrawn), (arI rM_tape kM_tape 900 fM_tape), (arI rM_letters kM_letters 8 fM_letters)] H → va_D A [(oc7 oM iM_thrown rM_tape iM_taped iM_size z_4784 iM_end iM_token z_4801 0 iM_fault iM_place iM_trouble rM_letters iM_failed iM_hasCourt rM_r rM_fresh rM_told rM_read rM_st rM_undone rM_kept iM_undos iM_images rM_fresher iM_fresherSize iM_scale iM_night rM_heardRow rM_cutRow iM_breaths iM_cutMany iM_allBreaths rM_trial rM_words iM_fewestBreaths iM_orderMany iM_orderSum iM_leastOrder rM_often iM_setMany iM_someOf iM_allOf iM_allWeight iM_enoughWeight iM_worthSum iM_firstRest iM_leastDrawn), (arI rM_tape kM_tape 900 fM_tape), (arI rM_letters kM_letters 8 fM_letters)] → va_S A s.heap H locs → lv_has ls 4 [(3, .int z_4800), (2, .int x_4788), (1, .int z_4799), (0, .ref oM)] → W p l e (headSpec (Cond.code yX7_next cX7_next 4 none :: wG) ({ frames := 1, cells := 0, slots := 0, locals := 21 })).room s m ([.ref oM] : List Value).toArray below meth c H locs 0 0 (MQ below (va_Qv (fun (_ : Nat) => True) (fun (_ : Nat) (t : State) => ∃ (niM_at : Int32) (niM_end : Int32) (niM_token : Int32) (niM_whole : Int32) (niM_nameSize : Int32) (nfM_letters : Nat → Int32), (0 ≤ niM_end.toInt ∧ niM_end.toInt ≤ 900) ∧ (0 ≤ niM_nameSize.toInt ∧ niM_nameSize.toInt ≤ 900) ∧ (iM_end.toInt ≤ niM_end.toInt) ∧ (ImpP (niM_token.toInt = 2) (niM_nameSize.toInt ≤ 8)) ∧ (ImpP (niM_token.toInt = 59 ) (iM_end.toInt + 1 ≤ niM_end.toInt)) ∧ (PX7_next fM_tape iM_size iM_end fM_letters = (niM_at, niM_end, niM_token, niM_whole, niM_nameSize, nfM_letters)) ∧ Bw dC dI A [(oc7 oM iM_thrown rM_tape iM_taped iM_size niM_at niM_end niM_token niM_whole niM_nameSize iM_fault iM_place iM_trouble rM_letters iM_failed iM_hasCourt rM_r rM_fresh rM_told rM_read rM_st rM_undone rM_kept iM_undos iM_images rM_fresher iM_fresherSize iM_scale iM_night rM_heardRow rM_cutRow iM_breaths iM_cutMany iM_allBreaths rM_trial rM_words iM_fewestBreaths iM_orderMany iM_orderSum iM_leastOrder rM_often iM_setMany iM_someOf iM_allOf iM_allWeight iM_enoughWeight iM_worthSum iM_firstRest iM_leastDrawn), (arI rM_tape kM_tape 900 fM_tape), (arI rM_letters kM_letters 8 nfM_letters)] [(kM_tape, .int), (kM_letters, .int)] t) A) ([.ref oM] : List Value).toArray s 0 0 A) (F0 m 152 ls []) := by
                intro n_4802
                induction n_4802 with
                | zero => intro z_4799 z_4800 z_4801 H locs ls hi0_n_4802 hi1_n_4802 hm; exact absurd hm (Nat.not_lt_zero _)
                | succ n_4802 ih_n_4802 =>
                  intro z_4799 z_4800 z_4801 H locs ls hi0_n_4802 hi1_n_4802 hm_n_4802 hG hP hD hS hl
                  have hG := hG.trans (HX7_next_1_eq _ _ _ _ _ _ _ _)
                  refine lv_aload_n hx hb dX7_next_152 rfl (lv_at hl 3 rfl) ?_
                  refine lv_iload_n hx hb dX7_next_153 rfl (lv_at hl 2 rfl) ?_
                  have hMs := ml_of hD [true, true, false] (wc := [(oc7 oM iM_thrown rM_tape iM_taped iM_size z_4784 iM_end iM_token z_4801 0 iM_fault iM_place iM_trouble rM_letters iM_failed iM_hasCourt rM_r rM_fresh rM_told rM_read rM_st rM_undone rM_kept iM_undos iM_images rM_fresher iM_fresherSize iM_scale iM_night rM_heardRow rM_cutRow iM_breaths iM_cutMany iM_allBreaths rM_trial rM_words iM_fewestBreaths iM_orderMany iM_orderSum iM_leastOrder rM_often iM_setMany iM_someOf iM_allOf iM_allWeight iM_enoughWeight iM_worthSum iM_firstRest iM_leastDrawn), (arI rM_tape kM_tape 900 fM_tape)]) rfl
                  have hFc := va_freeM hD hS hA _ hMs
                  refine va_calli (va_runV (As := [.int z_4799]) (rest := []) ⟨hx, hb, hml, hown, hts⟩ (tX7_see_p l dC dI _ oM iM_thrown rM_tape fM_tape kM_tape iM_taped iM_size z_4784 iM_end iM_token z_4801 0 iM_fault iM_place iM_trouble rM_letters iM_failed iM_hasCourt rM_r rM_fresh rM_told rM_read rM_st rM_undone rM_kept iM_undos iM_images rM_fresher iM_fresherSize iM_scale iM_night rM_heardRow rM_cutRow iM_breaths iM_cutMany iM_allBreaths rM_trial rM_words iM_fewestBreaths iM_orderMany iM_orderSum iM_leastOrder rM_often iM_setMany iM_someOf iM_allOf iM_allWeight iM_enoughWeight iM_worthSum iM_firstRest iM_leastDrawn z_4799 b_iM_taped b_iM_size b_iM_end (by first | decide | omega) b_iM_failed b_iM_hasCourt b_iM_undos b_iM_images b_iM_scale b_iM_breaths b_iM_cutMany (om_11cc87cb b_iM_end.1 hi0_n_4802.1)) (cwV 1 hts (wd_V wd_406 wd_407 wd_408 wd_5 (wd_c wd_409)) rfl rfl rfl dv_yX7_see_1 ⟨Nat.le_of_ble_eq_true rfl, Nat.le_of_ble_eq_true rfl⟩) ⟨Pw.fb, recvX7 hK hP (q0 := 0) rfl, fun U hU hW => Pw.to (hP.ms _ hMs) (hD.ms _ hMs) (hK.ms [true, false] rfl) hE hS hFc hU hW⟩ rfl rfl hl.1 rfl (lv_room (Nat.le_of_ble_eq_true rfl)) dX7_next_154 ⟨Nat.le_of_ble_eq_true rfl, Nat.le_of_ble_eq_true rfl⟩) hS (fun q _ h => hFc q h) hFc (fun r u t H locs ht hvm hw hB hz1 hk1 hS => ?_)
                  have hru9 := hw.2
                  have hw := hw.1
                  obtain ⟨hP, hD⟩ := Bw.goN (ws' := [(oc7 oM iM_thrown rM_tape iM_taped iM_size z_4784 iM_end iM_token z_4801 0 iM_fault iM_place iM_trouble rM_letters iM_failed iM_hasCourt rM_r rM_fresh rM_told rM_read rM_st rM_undone rM_kept iM_undos iM_images rM_fresher iM_fresherSize iM_scale iM_night rM_heardRow rM_cutRow iM_breaths iM_cutMany iM_allBreaths rM_trial rM_words iM_fewestBreaths iM_orderMany iM_orderSum iM_leastOrder rM_often iM_setMany iM_someOf iM_allOf iM_allWeight iM_enoughWeight iM_worthSum iM_firstRest iM_leastDrawn), (arI rM_tape kM_tape 900 fM_tape), (arI rM_letters kM_letters 8 fM_letters)]) hB rfl ht hP hD _ hMs hk1 hFc rfl
                  clear hz1 hk1 hvm ht hB hMs
                  obtain ⟨x_4803, rfl⟩ : ∃ z, z = r := ⟨_, rfl⟩
                  have hG := hG.trans (lt_eq hru9.symm)
                  have lx_4803 := hw.2
                  have hFc : ∀ q, va_A [] _ q → A q := fun q h => hA q (Nat.le_trans hS.1 (va_nilA h))
                  refine va_calli (va_runS (As := [.int x_4803]) (rest := []) ⟨hx, hb, hml, hown, hts⟩ (tX7_isDigit_p l dC dI _ x_4803 ) (va_cwS 1 hts (wd_S wd_413 wd_414 wd_5 (wd_c wd_415)) rfl rfl rfl ds_yX7_isDigit_1 ⟨Nat.le_of_ble_eq_true rfl, Nat.le_of_ble_eq_true rfl⟩) ⟨Pw.fb, fun U hU hW => Pn.to hK hE hS hA hU hW⟩ rfl rfl hl.1 rfl (lv_room (Nat.le_of_ble_eq_true rfl)) dX7_next_157 ⟨Nat.le_of_ble_eq_true rfl, Nat.le_of_ble_eq_true rfl⟩) hS (fun q _ h => hFc q h) hFc (fun r u t H locs ht hvm hw hB hz1 hk1 hS => ?_)
                  obtain ⟨hP, hD, hK⟩ := Bw.same ht hvm hP hD hK hk1 hFc
                  clear hz1 hk1 hvm ht hB
                  have hq9 := hw.2
                  have hw := hw.1
                  obtain ⟨x_4804, rfl⟩ : ∃ z, z = r := ⟨_, rfl⟩
                  have hq_x_4804 := hq9
                  have hG := hG.trans (lt_eq hq_x_4804.symm)
                  have bx_4804 := hw.1
                  have dx_4804 := bz_tb bx_4804
                  have lx_4804 := hw.2
                  refine lv_if_eq (tgt := 197) hx hb dX7_next_160 (by decide) (fun c_4805 => ?_) (fun c_4805 => ?_)
                  · skip
                    have hG := hG.trans (if_pos c_4805)
                    have gc_4805 := ti_eq c_4805 rfl kc_0
                    clear lx_4804
                    refine lv_aload_n hx hb dX7_next_197 rfl (lv_at hl 3 rfl) ?_
                    refine lv_iload_n hx hb dX7_next_198 rfl (lv_at hl 2 rfl) ?_
                    refine va_put (D := (dC, dI)) (ci := 7) (v := .int z_4799) (ty := .int) (C := RX7) (T := TX7) (N := 48) hx hb hts inX7 tyX7 tyX7_ok nmX7 hown hK hP hD hS 0 rfl rfl 5 (by decide) (hts _ wd_382) (fun _ h9 => h9) rfl (by decide +kernel) rfl rfl (Nat.le_of_ble_eq_true rfl) dX7_next_199 (fun H locs hP hD hS => ?_)
                    obtain ⟨hP, hD⟩ := wl2 (ws' := [(oc7 oM iM_thrown rM_tape iM_taped iM_size z_4784 z_4799 iM_token z_4801 0 iM_fault iM_place iM_trouble rM_letters iM_failed iM_hasCourt rM_r rM_fresh rM_told rM_read rM_st rM_undone rM_kept iM_undos iM_images rM_fresher iM_fresherSize iM_scale iM_night rM_heardRow rM_cutRow iM_breaths iM_cutMany iM_allBreaths rM_trial rM_words iM_fewestBreaths iM_orderMany iM_orderSum iM_leastOrder rM_often iM_setMany iM_someOf iM_allOf iM_allWeight iM_enoughWeight iM_worthSum iM_firstRest iM_leastDrawn), (arI rM_tape kM_tape 900 fM_tape), (arI rM_letters kM_letters 8 fM_letters)]) hP hD rfl
                    refine lv_aload_n hx hb dX7_next_202 rfl (lv_at hl 3 rfl) ?_
                    refine lv_iload_n hx hb dX7_next_203 rfl (lv_at hl 0 rfl) ?_
                    refine lv_iconst (v := 3) hx hb dX7_next_204 (by decide) ?_
                    refine lv_icmp_le (tgt := 212) hx hb dX7_next_205 (by decide) (fun c_4806 => ?_) (fun c_4806 => ?_)
                    · skip
                      have hG := hG.trans (if_pos c_4806)
                      have gc_4806 := ti_le c_4806 rfl kc_3
                      refine lv_iconst (v := 3) hx hb dX7_next_212 (by decide) ?_
                      refine va_put (D := (dC, dI)) (ci := 7) (v := .int 3) (ty := .int) (C := RX7) (T := TX7) (N := 48) hx hb hts inX7 tyX7 tyX7_ok nmX7 hown hK hP hD hS 0 rfl rfl 6 (by decide) (hts _ wd_383) (fun _ h9 => h9) rfl (by decide +kernel) rfl rfl (Nat.le_of_ble_eq_true rfl) dX7_next_213 (fun H locs hP hD hS => ?_)
                      obtain ⟨hP, hD⟩ := wl2 (ws' := [(oc7 oM iM_thrown rM_tape iM_taped iM_size z_4784 z_4799 3 z_4801 0 iM_fault iM_place iM_trouble rM_letters iM_failed iM_hasCourt rM_r rM_fresh rM_told rM_read rM_st rM_undone rM_kept iM_undos iM_images rM_fresher iM_fresherSize iM_scale iM_night rM_heardRow rM_cutRow iM_breaths iM_cutMany iM_allBreaths rM_trial rM_words iM_fewestBreaths iM_orderMany iM_orderSum iM_leastOrder rM_often iM_setMany iM_someOf iM_allOf iM_allWeight iM_enoughWeight iM_worthSum iM_firstRest iM_leastDrawn), (arI rM_tape kM_tape 900 fM_tape), (arI rM_letters kM_letters 8 fM_letters)]) hP hD rfl
                      refine lv_goto (tgt := 247) hx hb dX7_next_216 (by decide) ?_
                      exact wq_v hx hb hr 0 trivial (fun t ht hW => ⟨z_4784, z_4799, 3, z_4801, 0, fM_letters, ⟨(om_11cc87cb b_iM_end.1 hi0_n_4802.1), hi0_n_4802.2⟩, (by decide), hi0_n_4802.1, (fun h9 => (om_f04fb0e3 kc_0)), (fun h9 => False.elim (om_cc317096 h9 kc_3)), hG, Bw.to hP hD hK ht hW⟩) hS dX7_next_247 hlocks
                    · skip
                      have hG := hG.trans (if_neg c_4806)
                      have gc_4806 := ti_nle c_4806 rfl kc_3
                      refine lv_iconst (v := 1) hx hb dX7_next_208 (by decide) ?_
                      refine lv_goto (tgt := 213) hx hb dX7_next_209 (by decide) ?_
                      refine va_put (D := (dC, dI)) (ci := 7) (v := .int 1) (ty := .int) (C := RX7) (T := TX7) (N := 48) hx hb hts inX7 tyX7 tyX7_ok nmX7 hown hK hP hD hS 0 rfl rfl 6 (by decide) (hts _ wd_383) (fun _ h9 => h9) rfl (by decide +kernel) rfl rfl (Nat.le_of_ble_eq_true rfl) dX7_next_213 (fun H locs hP hD hS => ?_)
                      obtain ⟨hP, hD⟩ := wl2 (ws' := [(oc7 oM iM_thrown rM_tape iM_taped iM_size z_4784 z_4799 1 z_4801 0 iM_fault iM_place iM_trouble rM_letters iM_failed iM_hasCourt rM_r rM_fresh rM_told rM_read rM_st rM_undone rM_kept iM_undos iM_images rM_fresher iM_fresherSize iM_scale iM_night rM_heardRow rM_cutRow iM_breaths iM_cutMany iM_allBreaths rM_trial rM_words iM_fewestBreaths iM_orderMany iM_orderSum iM_leastOrder rM_often iM_setMany iM_someOf iM_allOf iM_allWeight iM_enoughWeight iM_worthSum iM_firstRest iM_leastDrawn), (arI rM_tape kM_tape 900 fM_tape), (arI rM_letters kM_letters 8 fM_letters)]) hP hD rfl
                      refine lv_goto (tgt := 247) hx hb dX7_next_216 (by decide) ?_
                      exact wq_v hx hb hr 0 trivial (fun t ht hW => ⟨z_4784, z_4799, 1, z_4801, 0, fM_letters, ⟨(om_11cc87cb b_iM_end.1 hi0_n_4802.1), hi0_n_4802.2⟩, (by decide), hi0_n_4802.1, (fun h9 => (om_f04fb0e3 kc_0)), (fun h9 => False.elim (om_d38fce89 h9 kc_1)), hG, Bw.to hP hD hK ht hW⟩) hS dX7_next_247 hlocks
                  · skip
                    have hG := hG.trans (if_neg c_4805)
                    have gc_4805 := ti_ne c_4805 rfl kc_0
                    replace gc_4805 : (-1) * x_4804.toInt + 1 ≤ 0 := om_e3003f79 gc_4805 dx_4804.1
                    have h_4807 := lx_4804 (by omega)
                    clear lx_4804
                    have h_4808 : z_4799.toInt < iM_size.toInt := lx_4803 (by omega)
                    clear lx_4803
                    refine lv_iload_n hx hb dX7_next_163 rfl (lv_at hl 0 rfl) ?_
                    refine lv_iconst (v := 3) hx hb dX7_next_164 (by decide) ?_
                    refine lv_icmp_ge (tgt := 188) hx hb dX7_next_165 (by decide) (fun c_4809 => ?_) (fun c_4809 => ?_)
                    · skip
                      have hG := hG.trans (if_pos c_4809)
                      have gc_4809 := ti_le c_4809 kc_3 rfl
                      obtain ⟨x_4810, ex_4810⟩ : ∃ z : Int32, z = z_4800 + Int32.ofInt 1 := ⟨_, rfl⟩
                      have hG := hG.trans (lt_eq ex_4810)
                      have vx_4810 : x_4810.toInt = z_4800.toInt + 1 := ti_add (y := 1) ex_4810 rfl kc_1 (om_4e4fce7e hi1_n_4802.1) (om_c8677ab2 hi0_n_4802.2 hi1_n_4802.2)
                      refine lv_iinc (v := x_4810) (lv' := [(3, .int x_4810), (2, .int x_4788), (1, .int z_4799), (0, .ref oM)]) hx hb dX7_next_188 hl (k := 0) rfl ex_4810.symm (by decide) rfl (fun ls hl => ?_)
                      obtain ⟨x_4811, ex_4811⟩ : ∃ z : Int32, z = z_4799 + Int32.ofInt 1 := ⟨_, rfl⟩
                      have hG := hG.trans (lt_eq ex_4811)
                      have vx_4811 : x_4811.toInt = z_4799.toInt + 1 := ti_add (y := 1) ex_4811 rfl kc_1 (om_f24caf23 b_iM_end.1 hi0_n_4802.1) (om_a4907767 hi0_n_4802.2)
                      refine lv_iinc (v := x_4811) (lv' := [(1, .int x_4811), (3, .int x_4810), (2, .int x_4788), (0, .ref oM)]) hx hb dX7_next_191 hl (k := 2) rfl ex_4811.symm (by decide) rfl (fun ls hl => ?_)
                      refine lv_goto (tgt := 152) hx hb dX7_next_194 (by decide) ?_
                      exact ih_n_4802 x_4811 x_4810 z_4801 _ _ _  ⟨(om_dd50ccc5 hi0_n_4802.1 vx_4811), (om_56f574e0 b_iM_size.2 h_4808 vx_4811)⟩ ⟨(om_83b90de5 hi1_n_4802.1 vx_4810), (om_d1b4529d hi1_n_4802.2 vx_4810 vx_4811)⟩ (ms_lt hm_n_4802 (om_62d8943c vx_4811) (om_ad0d8b60 b_iM_size.2 h_4808)) hG hP hD hS (lv_sub hl [1, 2, 0, 3] rfl)
                    · skip
                      have hG := hG.trans (if_neg c_4809)
                      have gc_4809 := ti_nle c_4809 kc_3 rfl
                      refine lv_aload_n hx hb dX7_next_168 rfl (lv_at hl 3 rfl) ?_
                      refine lv_bipush (v := 10) hx hb dX7_next_169 (by decide) ?_
                      refine lv_aload_n hx hb dX7_next_171 rfl (lv_at hl 3 rfl) ?_
                      refine va_get (D := (dC, dI)) (ci := 7) (v := .int z_4801) (C := RX7) (T := TX7) (N := 48) hx hb hts inX7 hown hK hP 0 rfl rfl 7 (by decide) (hts _ wd_405) (fun _ h9 => h9) rfl dX7_next_172 ?_
                      refine lv_imul hx hb dX7_next_175 ?_
                      refine lv_topi (fun x_4812 ex_4812 => ?_)
                      have hG := hG.trans (lt_eq ex_4812)
                      refine lv_aload_n hx hb dX7_next_176 rfl (lv_at hl 3 rfl) ?_
                      refine lv_iload_n hx hb dX7_next_177 rfl (lv_at hl 2 rfl) ?_
                      have hMs := ml_of hD [true, true, false] (wc := [(oc7 oM iM_thrown rM_tape iM_taped iM_size z_4784 iM_end iM_token z_4801 0 iM_fault iM_place iM_trouble rM_letters iM_failed iM_hasCourt rM_r rM_fresh rM_told rM_read rM_st rM_undone rM_kept iM_undos iM_images rM_fresher iM_fresherSize iM_scale iM_night rM_heardRow rM_cutRow iM_breaths iM_cutMany iM_allBreaths rM_trial rM_words iM_fewestBreaths iM_orderMany iM_orderSum iM_leastOrder rM_often iM_setMany iM_someOf iM_allOf iM_allWeight iM_enoughWeight iM_worthSum iM_firstRest iM_leastDrawn), (arI rM_tape kM_tape 900 fM_tape)]) rfl
                      have hFc := va_freeM hD hS hA _ hMs
                      refine va_calli (va_runV (As := [.int z_4799]) (rest := [.int x_4812, .ref oM]) ⟨hx, hb, hml, hown, hts⟩ (tX7_see_p l dC dI _ oM iM_thrown rM_tape fM_tape kM_tape iM_taped iM_size z_4784 iM_end iM_token z_4801 0 iM_fault iM_place iM_trouble rM_letters iM_failed iM_hasCourt rM_r rM_fresh rM_told rM_read rM_st rM_undone rM_kept iM_undos iM_images rM_fresher iM_fresherSize iM_scale iM_night rM_heardRow rM_cutRow iM_breaths iM_cutMany iM_allBreaths rM_trial rM_words iM_fewestBreaths iM_orderMany iM_orderSum iM_leastOrder rM_often iM_setMany iM_someOf iM_allOf iM_allWeight iM_enoughWeight iM_worthSum iM_firstRest iM_leastDrawn z_4799 b_iM_taped b_iM_size b_iM_end (by first | decide | omega) b_iM_failed b_iM_hasCourt b_iM_undos b_iM_images b_iM_scale b_iM_breaths b_iM_cutMany (om_11cc87cb b_iM_end.1 hi0_n_4802.1)) (cwV 1 hts (wd_V wd_406 wd_407 wd_408 wd_5 (wd_c wd_409)) rfl rfl rfl dv_yX7_see_1 ⟨Nat.le_of_ble_eq_true rfl, Nat.le_of_ble_eq_true rfl⟩) ⟨Pw.fb, recvX7 hK hP (q0 := 0) rfl, fun U hU hW => Pw.to (hP.ms _ hMs) (hD.ms _ hMs) (hK.ms [true, false] rfl) hE hS hFc hU hW⟩ rfl rfl hl.1 rfl (lv_room (Nat.le_of_ble_eq_true rfl)) dX7_next_178 ⟨Nat.le_of_ble_eq_true rfl, Nat.le_of_ble_eq_true rfl⟩) hS (fun q _ h => hFc q h) hFc (fun r u t H locs ht hvm hw hB hz1 hk1 hS => ?_)
                      have hru9 := hw.2
                      have hw := hw.1
                      obtain ⟨hP, hD⟩ := Bw.goN (ws' := [(oc7 oM iM_thrown rM_tape iM_taped iM_size z_4784 iM_end iM_token z_4801 0 iM_fault iM_place iM_trouble rM_letters iM_failed iM_hasCourt rM_r rM_fresh rM_told rM_read rM_st rM_undone rM_kept iM_undos iM_images rM_fresher iM_fresherSize iM_scale iM_night rM_heardRow rM_cutRow iM_breaths iM_cutMany iM_allBreaths rM_trial rM_words iM_fewestBreaths iM_orderMany iM_orderSum iM_leastOrder rM_often iM_setMany iM_someOf iM_allOf iM_allWeight iM_enoughWeight iM_worthSum iM_firstRest iM_leastDrawn), (arI rM_tape kM_tape 900 fM_tape), (arI rM_letters kM_letters 8 fM_letters)]) hB rfl ht hP hD _ hMs hk1 hFc rfl
                      clear hz1 hk1 hvm ht hB hMs
                      obtain ⟨x_4813, rfl⟩ : ∃ z, z = r := ⟨_, rfl⟩
                      have hG := hG.trans (lt_eq hru9.symm)
                      have lx_4813 := hw.2
                      refine lv_iadd hx hb dX7_next_181 ?_
                      refine lv_topi (fun x_4814 ex_4814 => ?_)
                      have hG := hG.trans (lt_eq ex_4814)
                      refine lv_bipush (v := 48) hx hb dX7_next_182 (by decide) ?_
                      refine lv_isub hx hb dX7_next_184 ?_
                      refine lv_topi (fun x_4815 ex_4815 => ?_)
                      have hG := hG.trans (lt_eq ex_4815)
                      refine va_put (D := (dC, dI)) (ci := 7) (v := .int x_4815) (ty := .int) (C := RX7) (T := TX7) (N := 48) hx hb hts inX7 tyX7 tyX7_ok nmX7 hown hK hP hD hS 0 rfl rfl 7 (by decide) (hts _ wd_405) (fun _ h9 => h9) rfl (by decide +kernel) rfl rfl (Nat.le_of_ble_eq_true rfl) dX7_next_185 (fun H locs hP hD hS => ?_)
                      obtain ⟨hP, hD⟩ := wl2 (ws' := [(oc7 oM iM_thrown rM_tape iM_taped iM_size z_4784 iM_end iM_token x_4815 0 iM_fault iM_place iM_trouble rM_letters iM_failed iM_hasCourt rM_r rM_fresh rM_told rM_read rM_st rM_undone rM_kept iM_undos iM_images rM_fresher iM_fresherSize iM_scale iM_night rM_heardRow rM_cutRow iM_breaths iM_cutMany iM_allBreaths rM_trial rM_words iM_fewestBreaths iM_orderMany iM_orderSum iM_leastOrder rM_often iM_setMany iM_someOf iM_allOf iM_allWeight iM_enoughWeight iM_worthSum iM_firstRest iM_leastDrawn), (arI rM_tape kM_tape 900 fM_tape), (arI rM_letters kM_letters 8 fM_letters)]) hP hD rfl
                      obtain ⟨x_4816, ex_4816⟩ : ∃ z : Int32, z = z_4800 + Int32.ofInt 1 := ⟨_, rfl⟩
                      have hG := hG.trans (lt_eq ex_4816)
                      have vx_4816 : x_4816.toInt = z_4800.toInt + 1 := ti_add (y := 1) ex_4816 rfl kc_1 (om_4e4fce7e hi1_n_4802.1) (om_7cc0c500 gc_4809)
                      refine lv_iinc (v := x_4816) (lv' := [(3, .int x_4816), (2, .int x_4788), (1, .int z_4799), (0, .ref oM)]) hx hb dX7_next_188 hl (k := 0) rfl ex_4816.symm (by decide) rfl (fun ls hl => ?_)
                      obtain ⟨x_4817, ex_4817⟩ : ∃ z : Int32, z = z_4799 + Int32.ofInt 1 := ⟨_, rfl⟩
                      have hG := hG.trans (lt_eq ex_4817)
                      have vx_4817 : x_4817.toInt = z_4799.toInt + 1 := ti_add (y := 1) ex_4817 rfl kc_1 (om_f24caf23 b_iM_end.1 hi0_n_4802.1) (om_a4907767 hi0_n_4802.2)
                      refine lv_iinc (v := x_4817) (lv' := [(1, .int x_4817), (3, .int x_4816), (2, .int x_4788), (0, .ref oM)]) hx hb dX7_next_191 hl (k := 2) rfl ex_4817.symm (by decide) rfl (fun ls hl => ?_)
                      refine lv_goto (tgt := 152) hx hb dX7_next_194 (by decide) ?_
                      exact ih_n_4802 x_4817 x_4816 x_4815 _ _ _  ⟨(om_dd50ccc5 hi0_n_4802.1 vx_4817), (om_56f574e0 b_iM_size.2 h_4808 vx_4817)⟩ ⟨(om_83b90de5 hi1_n_4802.1 vx_4816), (om_d1b4529d hi1_n_4802.2 vx_4816 vx_4817)⟩ (ms_lt hm_n_4802 (om_62d8943c vx_4817) (om_ad0d8b60 b_iM_size.2 h_4808)) hG hP hD hS (lv_sub hl [1, 2, 0, 3] rfl)
              exact key_n_4802 (((900 - z_4784.toInt).toNat) + 1) z_4784 0 0 _ _ _  ⟨hi0_n_4785.1, hi0_n_4785.2⟩ ⟨(om_b1de7dbe kc_0), (om_bf01e563 b_iM_end.1 hi0_n_4785.1 kc_0)⟩ (Nat.lt_add_one _) hG hP hD hS hl
          · skip
            have hG := hG.trans (if_neg c_4792)
            have gc_4792 := ti_ne c_4792 rfl kc_0
            replace gc_4792 : (-1) * x_4791.toInt + 1 ≤ 0 := om_e3003f79 gc_4792 dx_4791.1
            have h_4818 := lx_4791 (by omega)
            clear lx_4791
            have hl := lv_sub hl (l' := [(2, .int x_4788), (1, .int z_4784), (0, .ref oM)]) [0, 1, 2] rfl
            have key_n_4822 : ∀ (n_4822 : Nat) (z_4819 : Int32) (z_4820 : Int32) (f_4821 : Nat → Int32) (H : Heap) (locs : List Loc) (ls : Array Slot), (0 ≤ z_4820.toInt ∧ z_4820.toInt ≤ 900) → (iM_end.toInt ≤ z_4819.toInt ∧ z_4819.toInt ≤ 900) → (0 ≤ z_4820.toInt ∧ z_4820.toInt ≤ z_4819.toInt) → (900 - z_4819.toInt).toNat < n_4822 → (PX7_next fM_tape iM_size iM_end fM_letters = HX7_next_2 fM_tape iM_size z_4784 n_4822 z_4819 z_4820 f_4821) → va_P (dC, dI) vwCl [(oc7 oM iM_thrown rM_tape iM_taped iM_size z_4784 iM_end iM_token 0 z_4820 iM_fault iM_place iM_trouble rM_letters iM_failed iM_hasCourt rM_r rM_fresh rM_told rM_read rM_st rM_undone rM_kept iM_undos iM_images rM_fresher iM_fresherSize iM_scale iM_night rM_heardRow rM_cutRow iM_breaths iM_cutMany iM_allBreaths rM_trial rM_words iM_fewestBreaths iM_orderMany iM_orderSum iM_leastOrder rM_often iM_setMany iM_someOf iM_allOf iM_allWeight iM_enoughWeight iM_worthSum iM_firstRest iM_leastDrawn), (arI rM_tape kM_tape 900 fM_tape), (arI rM_letters kM_letters 8 f_4821)] H → va_D A [(oc7 oM iM_thrown rM_tape iM_taped iM_size z_4784 iM_end iM_token 0 z_4820 iM_fault iM_place iM_trouble rM_letters iM_failed iM_hasCourt rM_r rM_fresh rM_told rM_read rM_st rM_undone rM_kept iM_undos iM_images rM_fresher iM_fresherSize iM_scale iM_night rM_heardRow rM_cutRow iM_breaths iM_cutMany iM_allBreaths rM_trial rM_words iM_fewestBreaths iM_orderMany iM_orderSum iM_leastOrder rM_often iM_setMany iM_someOf iM_allOf iM_allWeight iM_enoughWeight iM_worthSum iM_firstRest iM_leastDrawn), (arI rM_tape kM_tape 900 fM_tape), (arI rM_letters kM_letters 8 f_4821)] → va_S A s.heap H locs → lv_has ls 4 [(2, .int x_4788), (1, .int z_4819), (0, .ref oM)] → W p l e (headSpec (Cond.code yX7_next cX7_next 4 none :: wG) ({ frames := 1, cells := 0, slots := 0, locals := 21 })).room s m ([.ref oM] : List Value).toArray below meth c H locs 0 0 (MQ below (va_Qv (fun (_ : Nat) => True) (fun (_ : Nat) (t : State) => ∃ (niM_at : Int32) (niM_end : Int32) (niM_token : Int32) (niM_whole : Int32) (niM_nameSize : Int32) (nfM_letters : Nat → Int32), (0 ≤ niM_end.toInt ∧ niM_end.toInt ≤ 900) ∧ (0 ≤ niM_nameSize.toInt ∧ niM_nameSize.toInt ≤ 900) ∧ (iM_end.toInt ≤ niM_end.toInt) ∧ (ImpP (niM_token.toInt = 2) (niM_nameSize.toInt ≤ 8)) ∧ (ImpP (niM_token.toInt = 59 ) (iM_end.toInt + 1 ≤ niM_end.toInt)) ∧ (PX7_next fM_tape iM_size iM_end fM_letters = (niM_at, niM_end, niM_token, niM_whole, niM_nameSize, nfM_letters)) ∧ Bw dC dI A [(oc7 oM iM_thrown rM_tape iM_taped iM_size niM_at niM_end niM_token niM_whole niM_nameSize iM_fault iM_place iM_trouble rM_letters iM_failed iM_hasCourt rM_r rM_fresh rM_told rM_read rM_st rM_undone rM_kept iM_undos iM_images rM_fresher iM_fresherSize iM_scale iM_night rM_heardRow rM_cutRow iM_breaths iM_cutMany iM_allBreaths rM_trial rM_words iM_fewestBreaths iM_orderMany iM_orderSum iM_leastOrder rM_often iM_setMany iM_someOf iM_allOf iM_allWeight iM_enoughWeight iM_worthSum iM_firstRest iM_leastDrawn), (arI rM_tape kM_tape 900 fM_tape), (arI rM_letters kM_letters 8 nfM_letters)] [(kM_tape, .int), (kM_letters, .int)] t) A) ([.ref oM] : List Value).toArray s 0 0 A) (F0 m 67 ls []) := by
              intro n_4822
              induction n_4822 with
              | zero => intro z_4819 z_4820 f_4821 H locs ls b_z_4820 hi0_n_4822 hi1_n_4822 hm; exact absurd hm (Nat.not_lt_zero _)
              | succ n_4822 ih_n_4822 =>
                intro z_4819 z_4820 f_4821 H locs ls b_z_4820 hi0_n_4822 hi1_n_4822 hm_n_4822 hG hP hD hS hl
                have hG := hG.trans (HX7_next_2_eq _ _ _ _ _ _ _)
                refine lv_aload_n hx hb dX7_next_67 rfl (lv_at hl 2 rfl) ?_
                refine lv_iload_n hx hb dX7_next_68 rfl (lv_at hl 1 rfl) ?_
                have hMs := ml_of hD [true, true, false] (wc := [(oc7 oM iM_thrown rM_tape iM_taped iM_size z_4784 iM_end iM_token 0 z_4820 iM_fault iM_place iM_trouble rM_letters iM_failed iM_hasCourt rM_r rM_fresh rM_told rM_read rM_st rM_undone rM_kept iM_undos iM_images rM_fresher iM_fresherSize iM_scale iM_night rM_heardRow rM_cutRow iM_breaths iM_cutMany iM_allBreaths rM_trial rM_words iM_fewestBreaths iM_orderMany iM_orderSum iM_leastOrder rM_often iM_setMany iM_someOf iM_allOf iM_allWeight iM_enoughWeight iM_worthSum iM_firstRest iM_leastDrawn), (arI rM_tape kM_tape 900 fM_tape)]) rfl
                have hFc := va_freeM hD hS hA _ hMs
                refine va_calli (va_runV (As := [.int z_4819]) (rest := []) ⟨hx, hb, hml, hown, hts⟩ (tX7_see_p l dC dI _ oM iM_thrown rM_tape fM_tape kM_tape iM_taped iM_size z_4784 iM_end iM_token 0 z_4820 iM_fault iM_place iM_trouble rM_letters iM_failed iM_hasCourt rM_r rM_fresh rM_told rM_read rM_st rM_undone rM_kept iM_undos iM_images rM_fresher iM_fresherSize iM_scale iM_night rM_heardRow rM_cutRow iM_breaths iM_cutMany iM_allBreaths rM_trial rM_words iM_fewestBreaths iM_orderMany iM_orderSum iM_leastOrder rM_often iM_setMany iM_someOf iM_allOf iM_allWeight iM_enoughWeight iM_worthSum iM_firstRest iM_leastDrawn z_4819 b_iM_taped b_iM_size b_iM_end b_z_4820 b_iM_failed b_iM_hasCourt b_iM_undos b_iM_images b_iM_scale b_iM_breaths b_iM_cutMany (om_11cc87cb b_iM_end.1 hi0_n_4822.1)) (cwV 1 hts (wd_V wd_406 wd_407 wd_408 wd_5 (wd_c wd_409)) rfl rfl rfl dv_yX7_see_1 ⟨Nat.le_of_ble_eq_true rfl, Nat.le_of_ble_eq_true rfl⟩) ⟨Pw.fb, recvX7 hK hP (q0 := 0) rfl, fun U hU hW => Pw.to (hP.ms _ hMs) (hD.ms _ hMs) (hK.ms [true, false] rfl) hE hS hFc hU hW⟩ rfl rfl hl.1 rfl (lv_room (Nat.le_of_ble_eq_true rfl)) dX7_next_69 ⟨Nat.le_of_ble_eq_true rfl, Nat.le_of_ble_eq_true rfl⟩) hS (fun q _ h => hFc q h) hFc (fun r u t H locs ht hvm hw hB hz1 hk1 hS => ?_)
                have hru9 := hw.2
                have hw := hw.1
                obtain ⟨hP, hD⟩ := Bw.goN (ws' := [(oc7 oM iM_thrown rM_tape iM_taped iM_size z_4784 iM_end iM_token 0 z_4820 iM_fault iM_place iM_trouble rM_letters iM_failed iM_hasCourt rM_r rM_fresh rM_told rM_read rM_st rM_undone rM_kept iM_undos iM_images rM_fresher iM_fresherSize iM_scale iM_night rM_heardRow rM_cutRow iM_breaths iM_cutMany iM_allBreaths rM_trial rM_words iM_fewestBreaths iM_orderMany iM_orderSum iM_leastOrder rM_often iM_setMany iM_someOf iM_allOf iM_allWeight iM_enoughWeight iM_worthSum iM_firstRest iM_leastDrawn), (arI rM_tape kM_tape 900 fM_tape), (arI rM_letters kM_letters 8 f_4821)]) hB rfl ht hP hD _ hMs hk1 hFc rfl
                clear hz1 hk1 hvm ht hB hMs
                obtain ⟨x_4823, rfl⟩ : ∃ z, z = r := ⟨_, rfl⟩
                have hG := hG.trans (lt_eq hru9.symm)
                have lx_4823 := hw.2
                have hFc : ∀ q, va_A [] _ q → A q := fun q h => hA q (Nat.le_trans hS.1 (va_nilA h))
                refine va_calli (va_runS (As := [.int x_4823]) (rest := []) ⟨hx, hb, hml, hown, hts⟩ (tX7_isSmall_p l dC dI _ x_4823 ) (va_cwS 1 hts (wd_S wd_410 wd_411 wd_5 (wd_c wd_412)) rfl rfl rfl ds_yX7_isSmall_1 ⟨Nat.le_of_ble_eq_true rfl, Nat.le_of_ble_eq_true rfl⟩) ⟨Pw.fb, fun U hU hW => Pn.to hK hE hS hA hU hW⟩ rfl rfl hl.1 rfl (lv_room (Nat.le_of_ble_eq_true rfl)) dX7_next_72 ⟨Nat.le_of_ble_eq_true rfl, Nat.le_of_ble_eq_true rfl⟩) hS (fun q _ h => hFc q h) hFc (fun r u t H locs ht hvm hw hB hz1 hk1 hS => ?_)
                obtain ⟨hP, hD, hK⟩ := Bw.same ht hvm hP hD hK hk1 hFc
                clear hz1 hk1 hvm ht hB
                have hq9 := hw.2
                have hw := hw.1
                obtain ⟨x_4824, rfl⟩ : ∃ z, z = r := ⟨_, rfl⟩
                have hq_x_4824 := hq9
                have hG := hG.trans (lt_eq hq_x_4824.symm)
                have bx_4824 := hw.1
                have dx_4824 := bz_tb bx_4824
                have lx_4824 := hw.2
                refine lv_if_eq (tgt := 117) hx hb dX7_next_75 (by decide) (fun c_4825 => ?_) (fun c_4825 => ?_)
                · skip
                  have hG := hG.trans (if_pos c_4825)
                  have gc_4825 := ti_eq c_4825 rfl kc_0
                  clear lx_4824
                  refine lv_aload_n hx hb dX7_next_117 rfl (lv_at hl 2 rfl) ?_
                  refine lv_iload_n hx hb dX7_next_118 rfl (lv_at hl 1 rfl) ?_
                  refine va_put (D := (dC, dI)) (ci := 7) (v := .int z_4819) (ty := .int) (C := RX7) (T := TX7) (N := 48) hx hb hts inX7 tyX7 tyX7_ok nmX7 hown hK hP hD hS 0 rfl rfl 5 (by decide) (hts _ wd_382) (fun _ h9 => h9) rfl (by decide +kernel) rfl rfl (Nat.le_of_ble_eq_true rfl) dX7_next_119 (fun H locs hP hD hS => ?_)
                  obtain ⟨hP, hD⟩ := wl2 (ws' := [(oc7 oM iM_thrown rM_tape iM_taped iM_size z_4784 z_4819 iM_token 0 z_4820 iM_fault iM_place iM_trouble rM_letters iM_failed iM_hasCourt rM_r rM_fresh rM_told rM_read rM_st rM_undone rM_kept iM_undos iM_images rM_fresher iM_fresherSize iM_scale iM_night rM_heardRow rM_cutRow iM_breaths iM_cutMany iM_allBreaths rM_trial rM_words iM_fewestBreaths iM_orderMany iM_orderSum iM_leastOrder rM_often iM_setMany iM_someOf iM_allOf iM_allWeight iM_enoughWeight iM_worthSum iM_firstRest iM_leastDrawn), (arI rM_tape kM_tape 900 fM_tape), (arI rM_letters kM_letters 8 f_4821)]) hP hD rfl
                  refine lv_aload_n hx hb dX7_next_122 rfl (lv_at hl 2 rfl) ?_
                  refine lv_aload_n hx hb dX7_next_123 rfl (lv_at hl 2 rfl) ?_
                  refine va_get (D := (dC, dI)) (ci := 7) (v := .int z_4820) (C := RX7) (T := TX7) (N := 48) hx hb hts inX7 hown hK hP 0 rfl rfl 8 (by decide) (hts _ wd_404) (fun _ h9 => h9) rfl dX7_next_124 ?_
                  refine lv_bipush (v := 8) hx hb dX7_next_127 (by decide) ?_
                  refine lv_icmp_le (tgt := 136) hx hb dX7_next_129 (by decide) (fun c_4826 => ?_) (fun c_4826 => ?_)
                  · skip
                    have hG := hG.trans (if_pos c_4826)
                    have gc_4826 := ti_le c_4826 rfl kc_8
                    refine lv_iconst (v := 2) hx hb dX7_next_136 (by decide) ?_
                    refine va_put (D := (dC, dI)) (ci := 7) (v := .int 2) (ty := .int) (C := RX7) (T := TX7) (N := 48) hx hb hts inX7 tyX7 tyX7_ok nmX7 hown hK hP hD hS 0 rfl rfl 6 (by decide) (hts _ wd_383) (fun _ h9 => h9) rfl (by decide +kernel) rfl rfl (Nat.le_of_ble_eq_true rfl) dX7_next_137 (fun H locs hP hD hS => ?_)
                    obtain ⟨hP, hD⟩ := wl2 (ws' := [(oc7 oM iM_thrown rM_tape iM_taped iM_size z_4784 z_4819 2 0 z_4820 iM_fault iM_place iM_trouble rM_letters iM_failed iM_hasCourt rM_r rM_fresh rM_told rM_read rM_st rM_undone rM_kept iM_undos iM_images rM_fresher iM_fresherSize iM_scale iM_night rM_heardRow rM_cutRow iM_breaths iM_cutMany iM_allBreaths rM_trial rM_words iM_fewestBreaths iM_orderMany iM_orderSum iM_leastOrder rM_often iM_setMany iM_someOf iM_allOf iM_allWeight iM_enoughWeight iM_worthSum iM_firstRest iM_leastDrawn), (arI rM_tape kM_tape 900 fM_tape), (arI rM_letters kM_letters 8 f_4821)]) hP hD rfl
                    refine lv_goto (tgt := 247) hx hb dX7_next_140 (by decide) ?_
                    exact wq_v hx hb hr 0 trivial (fun t ht hW => ⟨z_4784, z_4819, 2, 0, z_4820, f_4821, ⟨(om_11cc87cb b_iM_end.1 hi0_n_4822.1), hi0_n_4822.2⟩, b_z_4820, hi0_n_4822.1, (fun h9 => gc_4826), (fun h9 => False.elim (om_58f3ac6d h9 kc_2)), hG, Bw.to hP hD hK ht hW⟩) hS dX7_next_247 hlocks
                  · skip
                    have hG := hG.trans (if_neg c_4826)
                    have gc_4826 := ti_nle c_4826 rfl kc_8
                    refine lv_iconst (v := 1) hx hb dX7_next_132 (by decide) ?_
                    refine lv_goto (tgt := 137) hx hb dX7_next_133 (by decide) ?_
                    refine va_put (D := (dC, dI)) (ci := 7) (v := .int 1) (ty := .int) (C := RX7) (T := TX7) (N := 48) hx hb hts inX7 tyX7 tyX7_ok nmX7 hown hK hP hD hS 0 rfl rfl 6 (by decide) (hts _ wd_383) (fun _ h9 => h9) rfl (by decide +kernel) rfl rfl (Nat.le_of_ble_eq_true rfl) dX7_next_137 (fun H locs hP hD hS => ?_)
                    obtain ⟨hP, hD⟩ := wl2 (ws' := [(oc7 oM iM_thrown rM_tape iM_taped iM_size z_4784 z_4819 1 0 z_4820 iM_fault iM_place iM_trouble rM_letters iM_failed iM_hasCourt rM_r rM_fresh rM_told rM_read rM_st rM_undone rM_kept iM_undos iM_images rM_fresher iM_fresherSize iM_scale iM_night rM_heardRow rM_cutRow iM_breaths iM_cutMany iM_allBreaths rM_trial rM_words iM_fewestBreaths iM_orderMany iM_orderSum iM_leastOrder rM_often iM_setMany iM_someOf iM_allOf iM_allWeight iM_enoughWeight iM_worthSum iM_firstRest iM_leastDrawn), (arI rM_tape kM_tape 900 fM_tape), (arI rM_letters kM_letters 8 f_4821)]) hP hD rfl
                    refine lv_goto (tgt := 247) hx hb dX7_next_140 (by decide) ?_
                    exact wq_v hx hb hr 0 trivial (fun t ht hW => ⟨z_4784, z_4819, 1, 0, z_4820, f_4821, ⟨(om_11cc87cb b_iM_end.1 hi0_n_4822.1), hi0_n_4822.2⟩, b_z_4820, hi0_n_4822.1, (fun h9 => False.elim (om_e3b39179 h9 kc_1)), (fun h9 => False.elim (om_d38fce89 h9 kc_1)), hG, Bw.to hP hD hK ht hW⟩) hS dX7_next_247 hlocks
                · skip
                  have hG := hG.trans (if_neg c_4825)
                  have gc_4825 := ti_ne c_4825 rfl kc_0
                  replace gc_4825 : (-1) * x_4824.toInt + 1 ≤ 0 := om_e3003f79 gc_4825 dx_4824.1
                  have h_4827 := lx_4824 (by omega)
                  clear lx_4824
                  have h_4828 : z_4819.toInt < iM_size.toInt := lx_4823 (by omega)
                  clear lx_4823
                  refine lv_aload_n hx hb dX7_next_78 rfl (lv_at hl 2 rfl) ?_
                  refine va_get (D := (dC, dI)) (ci := 7) (v := .int z_4820) (C := RX7) (T := TX7) (N := 48) hx hb hts inX7 hown hK hP 0 rfl rfl 8 (by decide) (hts _ wd_404) (fun _ h9 => h9) rfl dX7_next_79 ?_
                  refine lv_bipush (v := 8) hx hb dX7_next_82 (by decide) ?_
                  refine lv_icmp_ge (tgt := 101) hx hb dX7_next_84 (by decide) (fun c_4829 => ?_) (fun c_4829 => ?_)
                  · skip
                    have hG := hG.trans (if_pos c_4829)
                    have gc_4829 := ti_le c_4829 kc_8 rfl
                    refine lv_aload_n hx hb dX7_next_101 rfl (lv_at hl 2 rfl) ?_
                    refine lv_dup hx hb dX7_next_102 rfl ?_
                    refine va_get (D := (dC, dI)) (ci := 7) (v := .int z_4820) (C := RX7) (T := TX7) (N := 48) hx hb hts inX7 hown hK hP 0 rfl rfl 8 (by decide) (hts _ wd_404) (fun _ h9 => h9) rfl dX7_next_103 ?_
                    refine lv_iconst (v := 1) hx hb dX7_next_106 (by decide) ?_
                    refine lv_iadd hx hb dX7_next_107 ?_
                    refine lv_topi (fun x_4830 ex_4830 => ?_)
                    have hG := hG.trans (lt_eq ex_4830)
                    have vx_4830 : x_4830.toInt = z_4820.toInt + 1 := ti_add ex_4830 rfl kc_1 (om_4e4fce7e b_z_4820.1) (om_a4907767 b_z_4820.2)
                    refine va_put (D := (dC, dI)) (ci := 7) (v := .int x_4830) (ty := .int) (C := RX7) (T := TX7) (N := 48) hx hb hts inX7 tyX7 tyX7_ok nmX7 hown hK hP hD hS 0 rfl rfl 8 (by decide) (hts _ wd_404) (fun _ h9 => h9) rfl (by decide +kernel) rfl rfl (Nat.le_of_ble_eq_true rfl) dX7_next_108 (fun H locs hP hD hS => ?_)
                    obtain ⟨hP, hD⟩ := wl2 (ws' := [(oc7 oM iM_thrown rM_tape iM_taped iM_size z_4784 iM_end iM_token 0 x_4830 iM_fault iM_place iM_trouble rM_letters iM_failed iM_hasCourt rM_r rM_fresh rM_told rM_read rM_st rM_undone rM_kept iM_undos iM_images rM_fresher iM_fresherSize iM_scale iM_night rM_heardRow rM_cutRow iM_breaths iM_cutMany iM_allBreaths rM_trial rM_words iM_fewestBreaths iM_orderMany iM_orderSum iM_leastOrder rM_often iM_setMany iM_someOf iM_allOf iM_allWeight iM_enoughWeight iM_worthSum iM_firstRest iM_leastDrawn), (arI rM_tape kM_tape 900 fM_tape), (arI rM_letters kM_letters 8 f_4821)]) hP hD rfl
                    obtain ⟨x_4831, ex_4831⟩ : ∃ z : Int32, z = z_4819 + Int32.ofInt 1 := ⟨_, rfl⟩
                    have hG := hG.trans (lt_eq ex_4831)
                    have vx_4831 : x_4831.toInt = z_4819.toInt + 1 := ti_add (y := 1) ex_4831 rfl kc_1 (om_f24caf23 b_iM_end.1 hi0_n_4822.1) (om_a4907767 hi0_n_4822.2)
                    refine lv_iinc (v := x_4831) (lv' := [(1, .int x_4831), (2, .int x_4788), (0, .ref oM)]) hx hb dX7_next_111 hl (k := 1) rfl ex_4831.symm (by decide) rfl (fun ls hl => ?_)
                    refine lv_goto (tgt := 67) hx hb dX7_next_114 (by decide) ?_
                    exact ih_n_4822 x_4831 x_4830 f_4821 _ _ _ ⟨(om_83b90de5 b_z_4820.1 vx_4830), (om_2f1aff57 b_iM_size.2 hi1_n_4822.2 h_4828 vx_4830)⟩ ⟨(om_dd50ccc5 hi0_n_4822.1 vx_4831), (om_56f574e0 b_iM_size.2 h_4828 vx_4831)⟩ ⟨(om_83b90de5 b_z_4820.1 vx_4830), (om_d1b4529d hi1_n_4822.2 vx_4830 vx_4831)⟩ (ms_lt hm_n_4822 (om_62d8943c vx_4831) (om_ad0d8b60 b_iM_size.2 h_4828)) hG hP hD hS (lv_sub hl [1, 0, 2] rfl)
                  · skip
                    have hG := hG.trans (if_neg c_4829)
                    have gc_4829 := ti_nle c_4829 kc_8 rfl
                    refine lv_aload_n hx hb dX7_next_87 rfl (lv_at hl 2 rfl) ?_
                    refine va_get (D := (dC, dI)) (ci := 7) (v := .ref rM_letters) (C := RX7) (T := TX7) (N := 48) hx hb hts inX7 hown hK hP 0 rfl rfl 12 (by decide) (hts _ wd_154) (fun _ h9 => h9) rfl dX7_next_88 ?_
                    refine lv_aload_n hx hb dX7_next_91 rfl (lv_at hl 2 rfl) ?_
                    refine va_get (D := (dC, dI)) (ci := 7) (v := .int z_4820) (C := RX7) (T := TX7) (N := 48) hx hb hts inX7 hown hK hP 0 rfl rfl 8 (by decide) (hts _ wd_404) (fun _ h9 => h9) rfl dX7_next_92 ?_
                    refine lv_aload_n hx hb dX7_next_95 rfl (lv_at hl 2 rfl) ?_
                    refine lv_iload_n hx hb dX7_next_96 rfl (lv_at hl 1 rfl) ?_
                    have hMs := ml_of hD [true, true, false] (wc := [(oc7 oM iM_thrown rM_tape iM_taped iM_size z_4784 iM_end iM_token 0 z_4820 iM_fault iM_place iM_trouble rM_letters iM_failed iM_hasCourt rM_r rM_fresh rM_told rM_read rM_st rM_undone rM_kept iM_undos iM_images rM_fresher iM_fresherSize iM_scale iM_night rM_heardRow rM_cutRow iM_breaths iM_cutMany iM_allBreaths rM_trial rM_words iM_fewestBreaths iM_orderMany iM_orderSum iM_leastOrder rM_often iM_setMany iM_someOf iM_allOf iM_allWeight iM_enoughWeight iM_worthSum iM_firstRest iM_leastDrawn), (arI rM_tape kM_tape 900 fM_tape)]) rfl
                    have hFc := va_freeM hD hS hA _ hMs
                    refine va_calli (va_runV (As := [.int z_4819]) (rest := [.int z_4820, .ref rM_letters]) ⟨hx, hb, hml, hown, hts⟩ (tX7_see_p l dC dI _ oM iM_thrown rM_tape fM_tape kM_tape iM_taped iM_size z_4784 iM_end iM_token 0 z_4820 iM_fault iM_place iM_trouble rM_letters iM_failed iM_hasCourt rM_r rM_fresh rM_told rM_read rM_st rM_undone rM_kept iM_undos iM_images rM_fresher iM_fresherSize iM_scale iM_night rM_heardRow rM_cutRow iM_breaths iM_cutMany iM_allBreaths rM_trial rM_words iM_fewestBreaths iM_orderMany iM_orderSum iM_leastOrder rM_often iM_setMany iM_someOf iM_allOf iM_allWeight iM_enoughWeight iM_worthSum iM_firstRest iM_leastDrawn z_4819 b_iM_taped b_iM_size b_iM_end b_z_4820 b_iM_failed b_iM_hasCourt b_iM_undos b_iM_images b_iM_scale b_iM_breaths b_iM_cutMany (om_11cc87cb b_iM_end.1 hi0_n_4822.1)) (cwV 1 hts (wd_V wd_406 wd_407 wd_408 wd_5 (wd_c wd_409)) rfl rfl rfl dv_yX7_see_1 ⟨Nat.le_of_ble_eq_true rfl, Nat.le_of_ble_eq_true rfl⟩) ⟨Pw.fb, recvX7 hK hP (q0 := 0) rfl, fun U hU hW => Pw.to (hP.ms _ hMs) (hD.ms _ hMs) (hK.ms [true, false] rfl) hE hS hFc hU hW⟩ rfl rfl hl.1 rfl (lv_room (Nat.le_of_ble_eq_true rfl)) dX7_next_97 ⟨Nat.le_of_ble_eq_true rfl, Nat.le_of_ble_eq_true rfl⟩) hS (fun q _ h => hFc q h) hFc (fun r u t H locs ht hvm hw hB hz1 hk1 hS => ?_)
                    have hru9 := hw.2
                    have hw := hw.1
                    obtain ⟨hP, hD⟩ := Bw.goN (ws' := [(oc7 oM iM_thrown rM_tape iM_taped iM_size z_4784 iM_end iM_token 0 z_4820 iM_fault iM_place iM_trouble rM_letters iM_failed iM_hasCourt rM_r rM_fresh rM_told rM_read rM_st rM_undone rM_kept iM_undos iM_images rM_fresher iM_fresherSize iM_scale iM_night rM_heardRow rM_cutRow iM_breaths iM_cutMany iM_allBreaths rM_trial rM_words iM_fewestBreaths iM_orderMany iM_orderSum iM_leastOrder rM_often iM_setMany iM_someOf iM_allOf iM_allWeight iM_enoughWeight iM_worthSum iM_firstRest iM_leastDrawn), (arI rM_tape kM_tape 900 fM_tape), (arI rM_letters kM_letters 8 f_4821)]) hB rfl ht hP hD _ hMs hk1 hFc rfl
                    clear hz1 hk1 hvm ht hB hMs
                    obtain ⟨x_4832, rfl⟩ : ∃ z, z = r := ⟨_, rfl⟩
                    have hG := hG.trans (lt_eq hru9.symm)
                    have lx_4832 := hw.2
                    refine va_iast hx hb hK hP hD hS 2 1 rfl rfl (ti_in rfl b_z_4820.1 (om_e159f70e gc_4829)) dX7_next_100 (fun H locs hP hD hS => ?_)
                    obtain ⟨f_4834, ef_4834⟩ : ∃ g : Nat → Int32, g = upd f_4821 z_4820.toNatClampNeg x_4832 := ⟨_, rfl⟩
                    rw [← ef_4834] at hP hD
                    have hG := hG.trans (lt_eq ef_4834)
                    obtain ⟨hP, hD⟩ := wl2 (ws' := [(oc7 oM iM_thrown rM_tape iM_taped iM_size z_4784 iM_end iM_token 0 z_4820 iM_fault iM_place iM_trouble rM_letters iM_failed iM_hasCourt rM_r rM_fresh rM_told rM_read rM_st rM_undone rM_kept iM_undos iM_images rM_fresher iM_fresherSize iM_scale iM_night rM_heardRow rM_cutRow iM_breaths iM_cutMany iM_allBreaths rM_trial rM_words iM_fewestBreaths iM_orderMany iM_orderSum iM_leastOrder rM_often iM_setMany iM_someOf iM_allOf iM_allWeight iM_enoughWeight iM_worthSum iM_firstRest iM_leastDrawn), (arI rM_tape kM_tape 900 fM_tape), (arI rM_letters kM_letters 8 f_4834)]) hP hD rfl
                    refine lv_aload_n hx hb dX7_next_101 rfl (lv_at hl 2 rfl) ?_
                    refine lv_dup hx hb dX7_next_102 rfl ?_
                    refine va_get (D := (dC, dI)) (ci := 7) (v := .int z_4820) (C := RX7) (T := TX7) (N := 48) hx hb hts inX7 hown hK hP 0 rfl rfl 8 (by decide) (hts _ wd_404) (fun _ h9 => h9) rfl dX7_next_103 ?_
                    refine lv_iconst (v := 1) hx hb dX7_next_106 (by decide) ?_
                    refine lv_iadd hx hb dX7_next_107 ?_
                    refine lv_topi (fun x_4835 ex_4835 => ?_)
                    have hG := hG.trans (lt_eq ex_4835)
                    have vx_4835 : x_4835.toInt = z_4820.toInt + 1 := ti_add ex_4835 rfl kc_1 (om_4e4fce7e b_z_4820.1) (om_a4907767 b_z_4820.2)
                    refine va_put (D := (dC, dI)) (ci := 7) (v := .int x_4835) (ty := .int) (C := RX7) (T := TX7) (N := 48) hx hb hts inX7 tyX7 tyX7_ok nmX7 hown hK hP hD hS 0 rfl rfl 8 (by decide) (hts _ wd_404) (fun _ h9 => h9) rfl (by decide +kernel) rfl rfl (Nat.le_of_ble_eq_true rfl) dX7_next_108 (fun H locs hP hD hS => ?_)
                    obtain ⟨hP, hD⟩ := wl2 (ws' := [(oc7 oM iM_thrown rM_tape iM_taped iM_size z_4784 iM_end iM_token 0 x_4835 iM_fault iM_place iM_trouble rM_letters iM_failed iM_hasCourt rM_r rM_fresh rM_told rM_read rM_st rM_undone rM_kept iM_undos iM_images rM_fresher iM_fresherSize iM_scale iM_night rM_heardRow rM_cutRow iM_breaths iM_cutMany iM_allBreaths rM_trial rM_words iM_fewestBreaths iM_orderMany iM_orderSum iM_leastOrder rM_often iM_setMany iM_someOf iM_allOf iM_allWeight iM_enoughWeight iM_worthSum iM_firstRest iM_leastDrawn), (arI rM_tape kM_tape 900 fM_tape), (arI rM_letters kM_letters 8 f_4834)]) hP hD rfl
                    obtain ⟨x_4836, ex_4836⟩ : ∃ z : Int32, z = z_4819 + Int32.ofInt 1 := ⟨_, rfl⟩
                    have hG := hG.trans (lt_eq ex_4836)
                    have vx_4836 : x_4836.toInt = z_4819.toInt + 1 := ti_add (y := 1) ex_4836 rfl kc_1 (om_f24caf23 b_iM_end.1 hi0_n_4822.1) (om_a4907767 hi0_n_4822.2)
                    refine lv_iinc (v := x_4836) (lv' := [(1, .int x_4836), (2, .int x_4788), (0, .ref oM)]) hx hb dX7_next_111 hl (k := 1) rfl ex_4836.symm (by decide) rfl (fun ls hl => ?_)
                    refine lv_goto (tgt := 67) hx hb dX7_next_114 (by decide) ?_
                    exact ih_n_4822 x_4836 x_4835 f_4834 _ _ _ ⟨(om_83b90de5 b_z_4820.1 vx_4835), (om_96ed692b gc_4829 vx_4835)⟩ ⟨(om_dd50ccc5 hi0_n_4822.1 vx_4836), (om_56f574e0 b_iM_size.2 h_4828 vx_4836)⟩ ⟨(om_83b90de5 b_z_4820.1 vx_4835), (om_d1b4529d hi1_n_4822.2 vx_4835 vx_4836)⟩ (ms_lt hm_n_4822 (om_62d8943c vx_4836) (om_ad0d8b60 b_iM_size.2 h_4828)) hG hP hD hS (lv_sub hl [1, 0, 2] rfl)
            exact key_n_4822 (((900 - z_4784.toInt).toNat) + 1) z_4784 0 fM_letters _ _ _ (by decide) ⟨hi0_n_4785.1, hi0_n_4785.2⟩ ⟨(om_b1de7dbe kc_0), (om_bf01e563 b_iM_end.1 hi0_n_4785.1 kc_0)⟩ (Nat.lt_add_one _) hG hP hD hS hl
        · skip
          have hG := hG.trans (if_pos c_4789)
          have gc_4789 := ti_eq c_4789 rfl kc_m1
          refine lv_aload_n hx hb dX7_next_47 rfl (lv_at hl 2 rfl) ?_
          refine lv_iconst (v := 0) hx hb dX7_next_48 (by decide) ?_
          refine va_put (D := (dC, dI)) (ci := 7) (v := .int 0) (ty := .int) (C := RX7) (T := TX7) (N := 48) hx hb hts inX7 tyX7 tyX7_ok nmX7 hown hK hP hD hS 0 rfl rfl 6 (by decide) (hts _ wd_383) (fun _ h9 => h9) rfl (by decide +kernel) rfl rfl (Nat.le_of_ble_eq_true rfl) dX7_next_49 (fun H locs hP hD hS => ?_)
          obtain ⟨hP, hD⟩ := wl2 (ws' := [(oc7 oM iM_thrown rM_tape iM_taped iM_size z_4784 iM_end 0 0 0 iM_fault iM_place iM_trouble rM_letters iM_failed iM_hasCourt rM_r rM_fresh rM_told rM_read rM_st rM_undone rM_kept iM_undos iM_images rM_fresher iM_fresherSize iM_scale iM_night rM_heardRow rM_cutRow iM_breaths iM_cutMany iM_allBreaths rM_trial rM_words iM_fewestBreaths iM_orderMany iM_orderSum iM_leastOrder rM_often iM_setMany iM_someOf iM_allOf iM_allWeight iM_enoughWeight iM_worthSum iM_firstRest iM_leastDrawn), (arI rM_tape kM_tape 900 fM_tape), (arI rM_letters kM_letters 8 fM_letters)]) hP hD rfl
          refine lv_aload_n hx hb dX7_next_52 rfl (lv_at hl 2 rfl) ?_
          refine lv_iload_n hx hb dX7_next_53 rfl (lv_at hl 1 rfl) ?_
          refine va_put (D := (dC, dI)) (ci := 7) (v := .int z_4784) (ty := .int) (C := RX7) (T := TX7) (N := 48) hx hb hts inX7 tyX7 tyX7_ok nmX7 hown hK hP hD hS 0 rfl rfl 5 (by decide) (hts _ wd_382) (fun _ h9 => h9) rfl (by decide +kernel) rfl rfl (Nat.le_of_ble_eq_true rfl) dX7_next_54 (fun H locs hP hD hS => ?_)
          obtain ⟨hP, hD⟩ := wl2 (ws' := [(oc7 oM iM_thrown rM_tape iM_taped iM_size z_4784 z_4784 0 0 0 iM_fault iM_place iM_trouble rM_letters iM_failed iM_hasCourt rM_r rM_fresh rM_told rM_read rM_st rM_undone rM_kept iM_undos iM_images rM_fresher iM_fresherSize iM_scale iM_night rM_heardRow rM_cutRow iM_breaths iM_cutMany iM_allBreaths rM_trial rM_words iM_fewestBreaths iM_orderMany iM_orderSum iM_leastOrder rM_often iM_setMany iM_someOf iM_allOf iM_allWeight iM_enoughWeight iM_worthSum iM_firstRest iM_leastDrawn), (arI rM_tape kM_tape 900 fM_tape), (arI rM_letters kM_letters 8 fM_letters)]) hP hD rfl
          refine lv_goto (tgt := 247) hx hb dX7_next_57 (by decide) ?_
          exact wq_v hx hb hr 0 trivial (fun t ht hW => ⟨z_4784, z_4784, 0, 0, 0, fM_letters, ⟨(om_11cc87cb b_iM_end.1 hi0_n_4785.1), hi0_n_4785.2⟩, (by decide), hi0_n_4785.1, (fun h9 => (om_3fede16e h9)), (fun h9 => False.elim (om_48156c84 h9 kc_0)), hG, Bw.to hP hD hK ht hW⟩) hS dX7_next_247 hlocks
      · skip
        have hG := hG.trans (if_pos c_4787)
        have gc_4787 := ti_eq c_4787 rfl kc_32
        have h_4837 : z_4784.toInt < iM_size.toInt := lx_4786 (by omega)
        clear lx_4786
        obtain ⟨x_4838, ex_4838⟩ : ∃ z : Int32, z = z_4784 + Int32.ofInt 1 := ⟨_, rfl⟩
        have hG := hG.trans (lt_eq ex_4838)
        have vx_4838 : x_4838.toInt = z_4784.toInt + 1 := ti_add (y := 1) ex_4838 rfl kc_1 (om_f24caf23 b_iM_end.1 hi0_n_4785.1) (om_a4907767 hi0_n_4785.2)
        refine lv_iinc (v := x_4838) (lv' := [(1, .int x_4838), (0, .ref oM)]) hx hb dX7_next_15 hl (k := 0) rfl ex_4838.symm (by decide) rfl (fun ls hl => ?_)
        refine lv_goto (tgt := 5) hx hb dX7_next_18 (by decide) ?_
        exact ih_n_4785 x_4838 _ _ _  ⟨(om_dd50ccc5 hi0_n_4785.1 vx_4838), (om_56f574e0 b_iM_size.2 h_4837 vx_4838)⟩ (ms_lt hm_n_4785 (om_62d8943c vx_4838) (om_ad0d8b60 b_iM_size.2 h_4837)) hG hP hD hS (lv_sub hl [0, 1] rfl)
  exact key_n_4785 (((900 - iM_end.toInt).toNat) + 1) iM_end _ _ _  ⟨om_1cb5f934, b_iM_end.2⟩ (Nat.lt_add_one _) hG hP hD hS hl
set_option maxHeartbeats 4000000 in
set_option maxRecDepth 100000 in
theorem tX7_wrong (l : Launch) (dC : Nat → ClassId) (dI : Nat → Nat → Nat) (sz : Nat) (oM : Nat) (iM_thrown : Int32) (rM_tape : Nat) (iM_taped : Int32) (iM_size : Int32) (iM_at : Int32) (iM_end : Int32) (iM_token : Int32) (iM_whole : Int32) (iM_nameSize : Int32) (iM_fault : Int32) (iM_place : Int32) (iM_trouble : Int32) (rM_letters : Nat) (iM_failed : Int32) (iM_hasCourt : Int32) (rM_r : Nat) (rM_fresh : Nat) (rM_told : Nat) (rM_read : Nat) (rM_st : Nat) (rM_undone : Nat) (rM_kept : Nat) (iM_undos : Int32) (iM_images : Int32) (rM_fresher : Nat) (iM_fresherSize : Int32) (iM_scale : Int32) (iM_night : Int32) (rM_heardRow : Nat) (rM_cutRow : Nat) (iM_breaths : Int32) (iM_cutMany : Int32) (iM_allBreaths : Int32) (rM_trial : Nat) (rM_words : Nat) (iM_fewestBreaths : Int32) (iM_orderMany : Int32) (iM_orderSum : Int32) (iM_leastOrder : Int32) (rM_often : Nat) (iM_setMany : Int32) (iM_someOf : Int32) (iM_allOf : Int32) (iM_allWeight : Int64) (iM_enoughWeight : Int64) (iM_worthSum : Int64) (iM_firstRest : Int32) (iM_leastDrawn : Int32) (p0 : Int32) (p1 : Int32) (b_iM_taped : 0 ≤ iM_taped.toInt ∧ iM_taped.toInt ≤ 900) (b_iM_size : 0 ≤ iM_size.toInt ∧ iM_size.toInt ≤ 900) (b_iM_end : 0 ≤ iM_end.toInt ∧ iM_end.toInt ≤ 900) (b_iM_nameSize : 0 ≤ iM_nameSize.toInt ∧ iM_nameSize.toInt ≤ 900) (b_iM_failed : 0 ≤ iM_failed.toInt ∧ iM_failed.toInt ≤ 1) (b_iM_hasCourt : 0 ≤ iM_hasCourt.toInt ∧ iM_hasCourt.toInt ≤ 1) (b_iM_undos : 0 ≤ iM_undos.toInt ∧ iM_undos.toInt ≤ 16) (b_iM_images : 0 ≤ iM_images.toInt ∧ iM_images.toInt ≤ 3) (b_iM_scale : 1 ≤ iM_scale.toInt ∧ iM_scale.toInt ≤ 1296) (b_iM_breaths : 0 ≤ iM_breaths.toInt ∧ iM_breaths.toInt ≤ 399) (b_iM_cutMany : 0 ≤ iM_cutMany.toInt ∧ iM_cutMany.toInt ≤ 399) (r_T : ImpP (iM_token.toInt = 2) (iM_nameSize.toInt ≤ 8))  : Met l yX7_wrong (Cond.code yX7_wrong cX7_wrong 3 none :: wG) ({ frames := 0, cells := 0, slots := 0, locals := 0 }) (va_Pc [.ref oM, .int p0, .int p1] (Pw dC dI sz [(oc7 oM iM_thrown rM_tape iM_taped iM_size iM_at iM_end iM_token iM_whole iM_nameSize iM_fault iM_place iM_trouble rM_letters iM_failed iM_hasCourt rM_r rM_fresh rM_told rM_read rM_st rM_undone rM_kept iM_undos iM_images rM_fresher iM_fresherSize iM_scale iM_night rM_heardRow rM_cutRow iM_breaths iM_cutMany iM_allBreaths rM_trial rM_words iM_fewestBreaths iM_orderMany iM_orderSum iM_leastOrder rM_often iM_setMany iM_someOf iM_allOf iM_allWeight iM_enoughWeight iM_worthSum iM_firstRest iM_leastDrawn)] [])) (va_Qv (fun (_ : Nat) => True) (fun (_ : Nat) (t : State) => ∃ (niM_fault : Int32) (niM_place : Int32) (niM_failed : Int32), (0 ≤ niM_failed.toInt ∧ niM_failed.toInt ≤ 1) ∧ (niM_failed.toInt = 1) ∧ (PX7_wrong iM_fault iM_place iM_failed p0 p1 = (niM_fault, niM_place, niM_failed)) ∧ Bw dC dI (va_A [(oc7 oM iM_thrown rM_tape iM_taped iM_size iM_at iM_end iM_token iM_whole iM_nameSize iM_fault iM_place iM_trouble rM_letters iM_failed iM_hasCourt rM_r rM_fresh rM_told rM_read rM_st rM_undone rM_kept iM_undos iM_images rM_fresher iM_fresherSize iM_scale iM_night rM_heardRow rM_cutRow iM_breaths iM_cutMany iM_allBreaths rM_trial rM_words iM_fewestBreaths iM_orderMany iM_orderSum iM_leastOrder rM_often iM_setMany iM_someOf iM_allOf iM_allWeight iM_enoughWeight iM_worthSum iM_firstRest iM_leastDrawn)] sz) [(oc7 oM iM_thrown rM_tape iM_taped iM_size iM_at iM_end iM_token iM_whole iM_nameSize niM_fault niM_place iM_trouble rM_letters niM_failed iM_hasCourt rM_r rM_fresh rM_told rM_read rM_st rM_undone rM_kept iM_undos iM_images rM_fresher iM_fresherSize iM_scale iM_night rM_heardRow rM_cutRow iM_breaths iM_cutMany iM_allBreaths rM_trial rM_words iM_fewestBreaths iM_orderMany iM_orderSum iM_leastOrder rM_often iM_setMany iM_someOf iM_allOf iM_allWeight iM_enoughWeight iM_worthSum iM_firstRest iM_leastDrawn)] [] t) (va_A [(oc7 oM iM_thrown rM_tape iM_taped iM_size iM_at iM_end iM_token iM_whole iM_nameSize iM_fault iM_place iM_trouble rM_letters iM_failed iM_hasCourt rM_r rM_fresh rM_told rM_read rM_st rM_undone rM_kept iM_undos iM_images rM_fresher iM_fresherSize iM_scale iM_night rM_heardRow rM_cutRow iM_breaths iM_cutMany iM_allBreaths rM_trial rM_words iM_fewestBreaths iM_orderMany iM_orderSum iM_leastOrder rM_often iM_setMany iM_someOf iM_allOf iM_allWeight iM_enoughWeight iM_worthSum iM_firstRest iM_leastDrawn)] sz)) 0 0 (va_A [(oc7 oM iM_thrown rM_tape iM_taped iM_size iM_at iM_end iM_token iM_whole iM_nameSize iM_fault iM_place iM_trouble rM_letters iM_failed iM_hasCourt rM_r rM_fresh rM_told rM_read rM_st rM_undone rM_kept iM_undos iM_images rM_fresher iM_fresherSize iM_scale iM_night rM_heardRow rM_cutRow iM_breaths iM_cutMany iM_allBreaths rM_trial rM_words iM_fewestBreaths iM_orderMany iM_orderSum iM_leastOrder rM_often iM_setMany iM_someOf iM_allOf iM_allWeight iM_enoughWeight iM_worthSum iM_firstRest iM_leastDrawn)] sz) := by
  refine Met.ofW (cc := cX7_wrong) (maxL := 3) (ret := none) pnX7 rfl ?_
  intro p e s m args below meth c s₁ B hml hv
  obtain ⟨rfl, hsz, hP, hK, hD0, hE⟩ := hv
  have hx := B.exec
  have hb := B.bytes
  have hr := B.returns
  have hts : ∀ w ∈ wG, w.before ([.ref oM, .int p0, .int p1] : List Value).toArray s = true := fun w h => atoms_spec (ws := Cond.code yX7_wrong cX7_wrong 3 none :: wG) B.pre w (List.mem_cons_of_mem _ h)
  have hown : s.vm.findClass RX7 = some m.cls := own_of B.named rfl
  have hlocks := B.notSynchronized
  subst hsz
  have hD := hD0.self (sz := s.heap.size)
  generalize hAe : va_A [(oc7 oM iM_thrown rM_tape iM_taped iM_size iM_at iM_end iM_token iM_whole iM_nameSize iM_fault iM_place iM_trouble rM_letters iM_failed iM_hasCourt rM_r rM_fresh rM_told rM_read rM_st rM_undone rM_kept iM_undos iM_images rM_fresher iM_fresherSize iM_scale iM_night rM_heardRow rM_cutRow iM_breaths iM_cutMany iM_allBreaths rM_trial rM_words iM_fewestBreaths iM_orderMany iM_orderSum iM_leastOrder rM_often iM_setMany iM_someOf iM_allOf iM_allWeight iM_enoughWeight iM_worthSum iM_firstRest iM_leastDrawn)] s.heap.size = A at hD hE ⊢
  have hA : ∀ q : Nat, s.heap.size ≤ q → A q := fun q h => by rw [← hAe]; exact Or.inr h
  have hS : va_S A s.heap s.heap [] := va_S.rf
  have hl := lv_entry ([.ref oM, .int p0, .int p1]) (n := 3) (Nat.le_of_ble_eq_true rfl)
  rw [lg_entry_eq]
  generalize (lg_sl ([.ref oM, .int p0, .int p1]) ++ List.replicate (3 - (lg_sl ([.ref oM, .int p0, .int p1])).length) Slot.unset).toArray = ls at hl ⊢
  have hl : lv_has ls 3 [(0, .ref oM), (1, .int p0), (2, .int p1)] := hl
  have hG := PX7_wrong_eq iM_fault iM_place iM_failed p0 p1
  refine lv_aload_n hx hb dX7_wrong_0 rfl (lv_at hl 0 rfl) ?_
  refine va_get (D := (dC, dI)) (ci := 7) (v := .int iM_failed) (C := RX7) (T := TX7) (N := 48) hx hb hts inX7 hown hK hP 0 rfl rfl 13 (by decide) (hts _ wd_380) (fun _ h9 => h9) rfl dX7_wrong_1 ?_
  refine lv_if_eq (tgt := 8) hx hb dX7_wrong_4 (by decide) (fun c_4840 => ?_) (fun c_4840 => ?_)
  · skip
    have hG := hG.trans (if_pos c_4840)
    have gc_4840 := ti_eq c_4840 rfl kc_0
    refine lv_aload_n hx hb dX7_wrong_8 rfl (lv_at hl 0 rfl) ?_
    refine lv_iconst (v := 1) hx hb dX7_wrong_9 (by decide) ?_
    refine va_put (D := (dC, dI)) (ci := 7) (v := .int 1) (ty := .boolean) (C := RX7) (T := TX7) (N := 48) hx hb hts inX7 tyX7 tyX7_ok nmX7 hown hK hP hD hS 0 rfl rfl 13 (by decide) (hts _ wd_380) (fun _ h9 => h9) rfl (by decide +kernel) rfl rfl (Nat.le_of_ble_eq_true rfl) dX7_wrong_10 (fun H locs hP hD hS => ?_)
    obtain ⟨hP, hD⟩ := wl2 (ws' := [(oc7 oM iM_thrown rM_tape iM_taped iM_size iM_at iM_end iM_token iM_whole iM_nameSize iM_fault iM_place iM_trouble rM_letters 1 iM_hasCourt rM_r rM_fresh rM_told rM_read rM_st rM_undone rM_kept iM_undos iM_images rM_fresher iM_fresherSize iM_scale iM_night rM_heardRow rM_cutRow iM_breaths iM_cutMany iM_allBreaths rM_trial rM_words iM_fewestBreaths iM_orderMany iM_orderSum iM_leastOrder rM_often iM_setMany iM_someOf iM_allOf iM_allWeight iM_enoughWeight iM_worthSum iM_firstRest iM_leastDrawn)]) hP hD rfl
    refine lv_aload_n hx hb dX7_wrong_13 rfl (lv_at hl 0 rfl) ?_
    refine lv_iload_n hx hb dX7_wrong_14 rfl (lv_at hl 1 rfl) ?_
    refine va_put (D := (dC, dI)) (ci := 7) (v := .int p0) (ty := .int) (C := RX7) (T := TX7) (N := 48) hx hb hts inX7 tyX7 tyX7_ok nmX7 hown hK hP hD hS 0 rfl rfl 9 (by decide) (hts _ wd_379) (fun _ h9 => h9) rfl (by decide +kernel) rfl rfl (Nat.le_of_ble_eq_true rfl) dX7_wrong_15 (fun H locs hP hD hS => ?_)
    obtain ⟨hP, hD⟩ := wl2 (ws' := [(oc7 oM iM_thrown rM_tape iM_taped iM_size iM_at iM_end iM_token iM_whole iM_nameSize p0 iM_place iM_trouble rM_letters 1 iM_hasCourt rM_r rM_fresh rM_told rM_read rM_st rM_undone rM_kept iM_undos iM_images rM_fresher iM_fresherSize iM_scale iM_night rM_heardRow rM_cutRow iM_breaths iM_cutMany iM_allBreaths rM_trial rM_words iM_fewestBreaths iM_orderMany iM_orderSum iM_leastOrder rM_often iM_setMany iM_someOf iM_allOf iM_allWeight iM_enoughWeight iM_worthSum iM_firstRest iM_leastDrawn)]) hP hD rfl
    refine lv_aload_n hx hb dX7_wrong_18 rfl (lv_at hl 0 rfl) ?_
    refine lv_iload_n hx hb dX7_wrong_19 rfl (lv_at hl 2 rfl) ?_
    refine va_put (D := (dC, dI)) (ci := 7) (v := .int p1) (ty := .int) (C := RX7) (T := TX7) (N := 48) hx hb hts inX7 tyX7 tyX7_ok nmX7 hown hK hP hD hS 0 rfl rfl 10 (by decide) (hts _ wd_153) (fun _ h9 => h9) rfl (by decide +kernel) rfl rfl (Nat.le_of_ble_eq_true rfl) dX7_wrong_20 (fun H locs hP hD hS => ?_)
    obtain ⟨hP, hD⟩ := wl2 (ws' := [(oc7 oM iM_thrown rM_tape iM_taped iM_size iM_at iM_end iM_token iM_whole iM_nameSize p0 p1 iM_trouble rM_letters 1 iM_hasCourt rM_r rM_fresh rM_told rM_read rM_st rM_undone rM_kept iM_undos iM_images rM_fresher iM_fresherSize iM_scale iM_night rM_heardRow rM_cutRow iM_breaths iM_cutMany iM_allBreaths rM_trial rM_words iM_fewestBreaths iM_orderMany iM_orderSum iM_leastOrder rM_often iM_setMany iM_someOf iM_allOf iM_allWeight iM_enoughWeight iM_worthSum iM_firstRest iM_leastDrawn)]) hP hD rfl
    exact wq_v hx hb hr 0 trivial (fun t ht hW => ⟨p0, p1, 1, (by decide), kc_1, hG, Bw.to hP hD hK ht hW⟩) hS dX7_wrong_23 hlocks
  · skip
    have hG := hG.trans (if_neg c_4840)
    have gc_4840 := ti_ne c_4840 rfl kc_0
    replace gc_4840 : (-1) * iM_failed.toInt + 1 ≤ 0 := om_e3003f79 gc_4840 b_iM_failed.1
    exact wq_v hx hb hr 0 trivial (fun t ht hW => ⟨iM_fault, iM_place, iM_failed, ⟨b_iM_failed.1, b_iM_failed.2⟩, (om_7907a7c1 b_iM_failed.2 gc_4840), hG, Bw.to hP hD hK ht hW⟩) hS dX7_wrong_7 hlocks
set_option maxHeartbeats 4000000 in
set_option maxRecDepth 100000 in
theorem tX7_isWord (l : Launch) (dC : Nat → ClassId) (dI : Nat → Nat → Nat) (sz : Nat) (oM : Nat) (iM_thrown : Int32) (rM_tape : Nat) (iM_taped : Int32) (iM_size : Int32) (iM_at : Int32) (iM_end : Int32) (iM_token : Int32) (iM_whole : Int32) (iM_nameSize : Int32) (iM_fault : Int32) (iM_place : Int32) (iM_trouble : Int32) (rM_letters : Nat) (fM_letters : Nat → Int32) (kM_letters : ClassId) (iM_failed : Int32) (iM_hasCourt : Int32) (rM_r : Nat) (rM_fresh : Nat) (rM_told : Nat) (rM_read : Nat) (rM_st : Nat) (rM_undone : Nat) (rM_kept : Nat) (iM_undos : Int32) (iM_images : Int32) (rM_fresher : Nat) (iM_fresherSize : Int32) (iM_scale : Int32) (iM_night : Int32) (rM_heardRow : Nat) (rM_cutRow : Nat) (iM_breaths : Int32) (iM_cutMany : Int32) (iM_allBreaths : Int32) (rM_trial : Nat) (rM_words : Nat) (iM_fewestBreaths : Int32) (iM_orderMany : Int32) (iM_orderSum : Int32) (iM_leastOrder : Int32) (rM_often : Nat) (iM_setMany : Int32) (iM_someOf : Int32) (iM_allOf : Int32) (iM_allWeight : Int64) (iM_enoughWeight : Int64) (iM_worthSum : Int64) (iM_firstRest : Int32) (iM_leastDrawn : Int32) (sA : Nat) (sV : Nat) (sN : Nat) (sF : Nat → Int32) (b_iM_taped : 0 ≤ iM_taped.toInt ∧ iM_taped.toInt ≤ 900) (b_iM_size : 0 ≤ iM_size.toInt ∧ iM_size.toInt ≤ 900) (b_iM_end : 0 ≤ iM_end.toInt ∧ iM_end.toInt ≤ 900) (b_iM_nameSize : 0 ≤ iM_nameSize.toInt ∧ iM_nameSize.toInt ≤ 900) (b_iM_failed : 0 ≤ iM_failed.toInt ∧ iM_failed.toInt ≤ 1) (b_iM_hasCourt : 0 ≤ iM_hasCourt.toInt ∧ iM_hasCourt.toInt ≤ 1) (b_iM_undos : 0 ≤ iM_undos.toInt ∧ iM_undos.toInt ≤ 16) (b_iM_images : 0 ≤ iM_images.toInt ∧ iM_images.toInt ≤ 3) (b_iM_scale : 1 ≤ iM_scale.toInt ∧ iM_scale.toInt ≤ 1296) (b_iM_breaths : 0 ≤ iM_breaths.toInt ∧ iM_breaths.toInt ≤ 399) (b_iM_cutMany : 0 ≤ iM_cutMany.toInt ∧ iM_cutMany.toInt ≤ 399) (r_T : ImpP (iM_token.toInt = 2) (iM_nameSize.toInt ≤ 8)) (hsn : sN ≤ 8) : Met l yX7_isWord (Cond.code yX7_isWord cX7_isWord 4 (some .boolean) :: wG) ({ frames := 4, cells := 0, slots := 0, locals := 111 }) (va_Pc [.ref oM, .ref sA] (Pq dC dI sz [(oc7 oM iM_thrown rM_tape iM_taped iM_size iM_at iM_end iM_token iM_whole iM_nameSize iM_fault iM_place iM_trouble rM_letters iM_failed iM_hasCourt rM_r rM_fresh rM_told rM_read rM_st rM_undone rM_kept iM_undos iM_images rM_fresher iM_fresherSize iM_scale iM_night rM_heardRow rM_cutRow iM_breaths iM_cutMany iM_allBreaths rM_trial rM_words iM_fewestBreaths iM_orderMany iM_orderSum iM_leastOrder rM_often iM_setMany iM_someOf iM_allOf iM_allWeight iM_enoughWeight iM_worthSum iM_firstRest iM_leastDrawn), (arI rM_letters kM_letters 8 fM_letters)] [(kM_letters, .int)] sA sV sN sF)) (va_Qi (fun (r : Int32) (_ : Nat) => ((r = 0 ∨ r = 1) ∧ (r.toInt = 1 → iM_token.toInt = 2)) ∧ PX7_isWord iM_token iM_nameSize fM_letters iM_failed sN sF = r) (fun (_ : Nat) (t : State) => Bw dC dI (va_A [(oc7 oM iM_thrown rM_tape iM_taped iM_size iM_at iM_end iM_token iM_whole iM_nameSize iM_fault iM_place iM_trouble rM_letters iM_failed iM_hasCourt rM_r rM_fresh rM_told rM_read rM_st rM_undone rM_kept iM_undos iM_images rM_fresher iM_fresherSize iM_scale iM_night rM_heardRow rM_cutRow iM_breaths iM_cutMany iM_allBreaths rM_trial rM_words iM_fewestBreaths iM_orderMany iM_orderSum iM_leastOrder rM_often iM_setMany iM_someOf iM_allOf iM_allWeight iM_enoughWeight iM_worthSum iM_firstRest iM_leastDrawn), (arI rM_letters kM_letters 8 fM_letters)] sz) [(oc7 oM iM_thrown rM_tape iM_taped iM_size iM_at iM_end iM_token iM_whole iM_nameSize iM_fault iM_place iM_trouble rM_letters iM_failed iM_hasCourt rM_r rM_fresh rM_told rM_read rM_st rM_undone rM_kept iM_undos iM_images rM_fresher iM_fresherSize iM_scale iM_night rM_heardRow rM_cutRow iM_breaths iM_cutMany iM_allBreaths rM_trial rM_words iM_fewestBreaths iM_orderMany iM_orderSum iM_leastOrder rM_often iM_setMany iM_someOf iM_allOf iM_allWeight iM_enoughWeight iM_worthSum iM_firstRest iM_leastDrawn), (arI rM_letters kM_letters 8 fM_letters)] [(kM_letters, .int)] t) (va_A [(oc7 oM iM_thrown rM_tape iM_taped iM_size iM_at iM_end iM_token iM_whole iM_nameSize iM_fault iM_place iM_trouble rM_letters iM_failed iM_hasCourt rM_r rM_fresh rM_told rM_read rM_st rM_undone rM_kept iM_undos iM_images rM_fresher iM_fresherSize iM_scale iM_night rM_heardRow rM_cutRow iM_breaths iM_cutMany iM_allBreaths rM_trial rM_words iM_fewestBreaths iM_orderMany iM_orderSum iM_leastOrder rM_often iM_setMany iM_someOf iM_allOf iM_allWeight iM_enoughWeight iM_worthSum iM_firstRest iM_leastDrawn), (arI rM_letters kM_letters 8 fM_letters)] sz)) 0 0 (va_A [(oc7 oM iM_thrown rM_tape iM_taped iM_size iM_at iM_end iM_token iM_whole iM_nameSize iM_fault iM_place iM_trouble rM_letters iM_failed iM_hasCourt rM_r rM_fresh rM_told rM_read rM_st rM_undone rM_kept iM_undos iM_images rM_fresher iM_fresherSize iM_scale iM_night rM_heardRow rM_cutRow iM_breaths iM_cutMany iM_allBreaths rM_trial rM_words iM_fewestBreaths iM_orderMany iM_orderSum iM_leastOrder rM_often iM_setMany iM_someOf iM_allOf iM_allWeight iM_enoughWeight iM_worthSum iM_firstRest iM_leastDrawn), (arI rM_letters kM_letters 8 fM_letters)] sz) := by
  refine Met.ofW (cc := cX7_isWord) (maxL := 4) (ret := (some .boolean)) pnX7 rfl ?_
  intro p e s m args below meth c s₁ B hml hv
  obtain ⟨rfl, ⟨hsz, hP, hK, hD0, hE⟩, hSw⟩ := hv
  have hx := B.exec
  have hb := B.bytes
  have hr := B.returns
  have hts : ∀ w ∈ wG, w.before ([.ref oM, .ref sA] : List Value).toArray s = true := fun w h => atoms_spec (ws := Cond.code yX7_isWord cX7_isWord 4 (some .boolean) :: wG) B.pre w (List.mem_cons_of_mem _ h)
  have hown : s.vm.findClass RX7 = some m.cls := own_of B.named rfl
  have hlocks := B.notSynchronized
  subst hsz
  have hD := hD0.self (sz := s.heap.size)
  generalize hAe : va_A [(oc7 oM iM_thrown rM_tape iM_taped iM_size iM_at iM_end iM_token iM_whole iM_nameSize iM_fault iM_place iM_trouble rM_letters iM_failed iM_hasCourt rM_r rM_fresh rM_told rM_read rM_st rM_undone rM_kept iM_undos iM_images rM_fresher iM_fresherSize iM_scale iM_night rM_heardRow rM_cutRow iM_breaths iM_cutMany iM_allBreaths rM_trial rM_words iM_fewestBreaths iM_orderMany iM_orderSum iM_leastOrder rM_often iM_setMany iM_someOf iM_allOf iM_allWeight iM_enoughWeight iM_worthSum iM_firstRest iM_leastDrawn), (arI rM_letters kM_letters 8 fM_letters)] s.heap.size = A at hD hE hSw ⊢
  have hA : ∀ q : Nat, s.heap.size ≤ q → A q := fun q h => by rw [← hAe]; exact Or.inr h
  have hS : va_S A s.heap s.heap [] := va_S.rf
  have hl := lv_entry ([.ref oM, .ref sA]) (n := 4) (Nat.le_of_ble_eq_true rfl)
  rw [lg_entry_eq]
  generalize (lg_sl ([.ref oM, .ref sA]) ++ List.replicate (4 - (lg_sl ([.ref oM, .ref sA])).length) Slot.unset).toArray = ls at hl ⊢
  have hl : lv_has ls 4 [(0, .ref oM), (1, .ref sA)] := hl
  have hG := PX7_isWord_eq iM_token iM_nameSize fM_letters iM_failed sN sF
  have hsN9 : (sN : Int) ≤ 8 := Int.ofNat_le.mpr hsn
  have hsN0 : 0 ≤ (sN : Int) := Int.natCast_nonneg _
  refine lv_aload_n hx hb dX7_isWord_0 rfl (lv_at hl 0 rfl) ?_
  refine va_get (D := (dC, dI)) (ci := 7) (v := .int iM_failed) (C := RX7) (T := TX7) (N := 48) hx hb hts inX7 hown hK hP 0 rfl rfl 13 (by decide) (hts _ wd_380) (fun _ h9 => h9) rfl dX7_isWord_1 ?_
  refine lv_if_ne (tgt := 26) hx hb dX7_isWord_4 (by decide) (fun c_4857 => ?_) (fun c_4857 => ?_)
  · skip
    have hG := hG.trans (if_neg c_4857)
    have gc_4857 := ti_ne c_4857 rfl kc_0
    replace gc_4857 : (-1) * iM_failed.toInt + 1 ≤ 0 := om_e3003f79 gc_4857 b_iM_failed.1
    refine lv_iconst (v := 0) hx hb dX7_isWord_26 (by decide) ?_
    exact wq_z (v := 0) hx hb hr rfl 0 ⟨⟨Or.inl rfl, (by have q := kc_0; first | omega | assumption)⟩, hG⟩ (fun t ht hW => Bw.to hP hD hK ht hW) hS dX7_isWord_27 hlocks
  · skip
    have hG := hG.trans (if_pos c_4857)
    have gc_4857 := ti_eq c_4857 rfl kc_0
    refine lv_aload_n hx hb dX7_isWord_7 rfl (lv_at hl 0 rfl) ?_
    refine va_get (D := (dC, dI)) (ci := 7) (v := .int iM_token) (C := RX7) (T := TX7) (N := 48) hx hb hts inX7 hown hK hP 0 rfl rfl 6 (by decide) (hts _ wd_383) (fun _ h9 => h9) rfl dX7_isWord_8 ?_
    refine lv_iconst (v := 2) hx hb dX7_isWord_11 (by decide) ?_
    refine lv_icmp_ne (tgt := 26) hx hb dX7_isWord_12 (by decide) (fun c_4858 => ?_) (fun c_4858 => ?_)
    · skip
      have hG := hG.trans (if_neg c_4858)
      have gc_4858 := ti_ne c_4858 rfl kc_2
      refine lv_iconst (v := 0) hx hb dX7_isWord_26 (by decide) ?_
      exact wq_z (v := 0) hx hb hr rfl 0 ⟨⟨Or.inl rfl, (by have q := kc_0; first | omega | assumption)⟩, hG⟩ (fun t ht hW => Bw.to hP hD hK ht hW) hS dX7_isWord_27 hlocks
    · skip
      have hG := hG.trans (if_pos c_4858)
      have gc_4858 := ti_eq c_4858 rfl kc_2
      have h_4859 : iM_nameSize.toInt ≤ 8 := r_T gc_4858
      clear r_T
      refine lv_aload_n hx hb dX7_isWord_15 rfl (lv_at hl 0 rfl) ?_
      refine va_get (D := (dC, dI)) (ci := 7) (v := .int iM_nameSize) (C := RX7) (T := TX7) (N := 48) hx hb hts inX7 hown hK hP 0 rfl rfl 8 (by decide) (hts _ wd_404) (fun _ h9 => h9) rfl dX7_isWord_16 ?_
      refine lv_aload_n hx hb dX7_isWord_19 rfl (lv_at hl 1 rfl) ?_
      have hFc : ∀ q, va_A [] _ q → A q := fun q h => hA q (Nat.le_trans hS.1 (va_nilA h))
      refine va_calli (va_runV (As := []) (rest := [.int iM_nameSize]) ⟨hx, hb, hml, hown, hts⟩ (c_length l dC dI _ sA sV sN sF) (cwV 0 hts (wd_V wd_424 wd_72 wd_73 wd_74 (wd_c wd_75)) rfl rfl rfl (by decide +kernel) ⟨Nat.le_of_ble_eq_true rfl, Nat.le_of_ble_eq_true rfl⟩) ⟨Ps.fb, va_Orecv hSw.1 hS, fun U hU hW => Ps.to hK hSw hE hS hA hU hW⟩ rfl rfl hl.1 rfl (lv_room (Nat.le_of_ble_eq_true rfl)) dX7_isWord_20 ⟨Nat.le_of_ble_eq_true rfl, Nat.le_of_ble_eq_true rfl⟩) hS (fun q _ h => hFc q h) hFc (fun r u t H locs ht hvm hw hB hz1 hk1 hS => ?_)
      obtain ⟨hP, hD, hK⟩ := Bw.same ht hvm hP hD hK hk1 hFc
      clear hz1 hk1 hvm ht hB
      obtain ⟨x_4860, rfl⟩ : ∃ z, z = r := ⟨_, rfl⟩
      have hG := hG.trans (lt_eq hw)
      have vx_4860 : x_4860.toInt = (sN : Int) := by rw [hw]; exact nI_toInt (by omega)
      refine lv_icmp_eq (tgt := 28) hx hb dX7_isWord_23 (by decide) (fun c_4861 => ?_) (fun c_4861 => ?_)
      · skip
        have hG := hG.trans (if_pos c_4861)
        have gc_4861 := ti_eq c_4861 rfl vx_4860
        refine lv_iconst (v := 1) hx hb dX7_isWord_28 (by decide) ?_
        refine lv_istore_n (lv' := [(2, .int 1), (0, .ref oM), (1, .ref sA)]) hx hb dX7_isWord_29 rfl hl (by decide) rfl (fun ls hl => ?_)
        refine lv_iconst (v := 0) hx hb dX7_isWord_30 (by decide) ?_
        refine lv_istore_n (lv' := [(3, .int 0), (2, .int 1), (0, .ref oM), (1, .ref sA)]) hx hb dX7_isWord_31 rfl hl (by decide) rfl (fun ls hl => ?_)
        have hl := lv_sub hl (l' := [(3, .int 0), (2, .int 1), (0, .ref oM), (1, .ref sA)]) [0, 1, 2, 3] rfl
        have key_n_4864 : ∀ (n_4864 : Nat) (z_4862 : Int32) (z_4863 : Int32) (H : Heap) (locs : List Loc) (ls : Array Slot), (0 ≤ z_4862.toInt ∧ z_4862.toInt ≤ iM_nameSize.toInt) → (0 ≤ z_4863.toInt ∧ z_4863.toInt ≤ 1) → (iM_nameSize.toInt - z_4862.toInt).toNat < n_4864 → (PX7_isWord iM_token iM_nameSize fM_letters iM_failed sN sF = HX7_isWord_0 iM_nameSize fM_letters sF n_4864 z_4862 z_4863) → va_P (dC, dI) vwCl [(oc7 oM iM_thrown rM_tape iM_taped iM_size iM_at iM_end iM_token iM_whole iM_nameSize iM_fault iM_place iM_trouble rM_letters iM_failed iM_hasCourt rM_r rM_fresh rM_told rM_read rM_st rM_undone rM_kept iM_undos iM_images rM_fresher iM_fresherSize iM_scale iM_night rM_heardRow rM_cutRow iM_breaths iM_cutMany iM_allBreaths rM_trial rM_words iM_fewestBreaths iM_orderMany iM_orderSum iM_leastOrder rM_often iM_setMany iM_someOf iM_allOf iM_allWeight iM_enoughWeight iM_worthSum iM_firstRest iM_leastDrawn), (arI rM_letters kM_letters 8 fM_letters)] H → va_D A [(oc7 oM iM_thrown rM_tape iM_taped iM_size iM_at iM_end iM_token iM_whole iM_nameSize iM_fault iM_place iM_trouble rM_letters iM_failed iM_hasCourt rM_r rM_fresh rM_told rM_read rM_st rM_undone rM_kept iM_undos iM_images rM_fresher iM_fresherSize iM_scale iM_night rM_heardRow rM_cutRow iM_breaths iM_cutMany iM_allBreaths rM_trial rM_words iM_fewestBreaths iM_orderMany iM_orderSum iM_leastOrder rM_often iM_setMany iM_someOf iM_allOf iM_allWeight iM_enoughWeight iM_worthSum iM_firstRest iM_leastDrawn), (arI rM_letters kM_letters 8 fM_letters)] → va_S A s.heap H locs → lv_has ls 4 [(3, .int z_4862), (2, .int z_4863), (0, .ref oM), (1, .ref sA)] → W p l e (headSpec (Cond.code yX7_isWord cX7_isWord 4 (some .boolean) :: wG) ({ frames := 4, cells := 0, slots := 0, locals := 111 })).room s m ([.ref oM, .ref sA] : List Value).toArray below meth c H locs 0 0 (MQ below (va_Qi (fun (r : Int32) (_ : Nat) => ((r = 0 ∨ r = 1) ∧ (r.toInt = 1 → iM_token.toInt = 2)) ∧ PX7_isWord iM_token iM_nameSize fM_letters iM_failed sN sF = r) (fun (_ : Nat) (t : State) => Bw dC dI A [(oc7 oM iM_thrown rM_tape iM_taped iM_size iM_at iM_end iM_token iM_whole iM_nameSize iM_fault iM_place iM_trouble rM_letters iM_failed iM_hasCourt rM_r rM_fresh rM_told rM_read rM_st rM_undone rM_kept iM_undos iM_images rM_fresher iM_fresherSize iM_scale iM_night rM_heardRow rM_cutRow iM_breaths iM_cutMany iM_allBreaths rM_trial rM_words iM_fewestBreaths iM_orderMany iM_orderSum iM_leastOrder rM_often iM_setMany iM_someOf iM_allOf iM_allWeight iM_enoughWeight iM_worthSum iM_firstRest iM_leastDrawn), (arI rM_letters kM_letters 8 fM_letters)] [(kM_letters, .int)] t) A) ([.ref oM, .ref sA] : List Value).toArray s 0 0 A) (F0 m 32 ls []) := by
          intro n_4864
          induction n_4864 with
          | zero => intro z_4862 z_4863 H locs ls hi0_n_4864 hi1_n_4864 hm; exact absurd hm (Nat.not_lt_zero _)
          | succ n_4864 ih_n_4864 =>
            intro z_4862 z_4863 H locs ls hi0_n_4864 hi1_n_4864 hm_n_4864 hG hP hD hS hl
            have hG := hG.trans (HX7_isWord_0_eq _ _ _ _ _ _)
            refine lv_iload_n hx hb dX7_isWord_32 rfl (lv_at hl 0 rfl) ?_
            refine lv_aload_n hx hb dX7_isWord_33 rfl (lv_at hl 2 rfl) ?_
            refine va_get (D := (dC, dI)) (ci := 7) (v := .int iM_nameSize) (C := RX7) (T := TX7) (N := 48) hx hb hts inX7 hown hK hP 0 rfl rfl 8 (by decide) (hts _ wd_404) (fun _ h9 => h9) rfl dX7_isWord_34 ?_
            refine lv_icmp_ge (tgt := 70) hx hb dX7_isWord_37 (by decide) (fun c_4865 => ?_) (fun c_4865 => ?_)
            · skip
              have hG := hG.trans (if_pos c_4865)
              have gc_4865 := ti_le c_4865 rfl rfl
              refine lv_iload_n hx hb dX7_isWord_70 rfl (lv_at hl 1 rfl) ?_
              exact wq_z (v := z_4863) hx hb hr (bz_nar (bz_of (by omega))) 0 ⟨⟨(bz_of (by omega)), (by first | omega | assumption)⟩, hG⟩ (fun t ht hW => Bw.to hP hD hK ht hW) hS dX7_isWord_71 hlocks
            · skip
              have hG := hG.trans (if_neg c_4865)
              have gc_4865 := ti_nle c_4865 rfl rfl
              refine lv_iload_n hx hb dX7_isWord_40 rfl (lv_at hl 1 rfl) ?_
              refine lv_if_eq (tgt := 62) hx hb dX7_isWord_41 (by decide) (fun c_4866 => ?_) (fun c_4866 => ?_)
              · skip
                have hG := hG.trans (if_pos c_4866)
                have gc_4866 := ti_eq c_4866 rfl kc_0
                refine lv_iconst (v := 0) hx hb dX7_isWord_62 (by decide) ?_
                refine lv_istore_n (lv' := [(2, .int 0), (3, .int z_4862), (0, .ref oM), (1, .ref sA)]) hx hb dX7_isWord_63 rfl hl (by decide) rfl (fun ls hl => ?_)
                obtain ⟨x_4867, ex_4867⟩ : ∃ z : Int32, z = z_4862 + Int32.ofInt 1 := ⟨_, rfl⟩
                have hG := hG.trans (lt_eq ex_4867)
                have vx_4867 : x_4867.toInt = z_4862.toInt + 1 := ti_add (y := 1) ex_4867 rfl kc_1 (om_4e4fce7e hi0_n_4864.1) (om_c8677ab2 b_iM_nameSize.2 hi0_n_4864.2)
                refine lv_iinc (v := x_4867) (lv' := [(3, .int x_4867), (2, .int 0), (0, .ref oM), (1, .ref sA)]) hx hb dX7_isWord_64 hl (k := 1) rfl ex_4867.symm (by decide) rfl (fun ls hl => ?_)
                refine lv_goto (tgt := 32) hx hb dX7_isWord_67 (by decide) ?_
                exact ih_n_4864 x_4867 0 _ _ _  ⟨(om_83b90de5 hi0_n_4864.1 vx_4867), (om_afcf07ef gc_4865 vx_4867)⟩ ⟨(om_b1de7dbe kc_0), (om_270f4ea0 kc_0)⟩ (ms_lt hm_n_4864 (om_dd4ae0bc vx_4867) (om_d5382009 gc_4865)) hG hP hD hS (lv_sub hl [0, 1, 2, 3] rfl)
              · skip
                have hG := hG.trans (if_neg c_4866)
                have gc_4866 := ti_ne c_4866 rfl kc_0
                replace gc_4866 : (-1) * z_4863.toInt + 1 ≤ 0 := om_e3003f79 gc_4866 hi1_n_4864.1
                refine lv_aload_n hx hb dX7_isWord_44 rfl (lv_at hl 2 rfl) ?_
                refine va_get (D := (dC, dI)) (ci := 7) (v := .ref rM_letters) (C := RX7) (T := TX7) (N := 48) hx hb hts inX7 hown hK hP 0 rfl rfl 12 (by decide) (hts _ wd_154) (fun _ h9 => h9) rfl dX7_isWord_45 ?_
                refine lv_iload_n hx hb dX7_isWord_48 rfl (lv_at hl 0 rfl) ?_
                refine va_iald hx hb hK hP 1 0 rfl rfl (ti_in rfl hi0_n_4864.1 (om_9badf829 h_4859 gc_4865)) dX7_isWord_49 ?_
                refine lv_topi (fun x_4868 ex_4868 => ?_)
                have hG := hG.trans (lt_eq ex_4868)
                have kx_4868 : (fM_letters z_4862.toNatClampNeg).toInt = x_4868.toInt := by rw [ex_4868]
                have cx_4868 := kx_4868
                refine lv_aload_n hx hb dX7_isWord_50 rfl (lv_at hl 3 rfl) ?_
                refine lv_iload_n hx hb dX7_isWord_51 rfl (lv_at hl 0 rfl) ?_
                have hFc : ∀ q, va_A [] _ q → A q := fun q h => hA q (Nat.le_trans hS.1 (va_nilA h))
                refine va_calli (va_runV (As := [.int z_4862]) (rest := [.int x_4868]) ⟨hx, hb, hml, hown, hts⟩ (c_charAt32 l dC dI _ sA sV sN sF z_4862 hi0_n_4864.1 (om_9a0d23dc gc_4861 gc_4865) hsn) (cwV 1 hts (wd_V wd_425 wd_84 wd_85 wd_74 (wd_c wd_86)) rfl rfl rfl (by decide +kernel) ⟨Nat.le_of_ble_eq_true rfl, Nat.le_of_ble_eq_true rfl⟩) ⟨Ps.fb, va_Orecv hSw.1 hS, fun U hU hW => Ps.to hK hSw hE hS hA hU hW⟩ rfl rfl hl.1 rfl (lv_room (Nat.le_of_ble_eq_true rfl)) dX7_isWord_52 ⟨Nat.le_of_ble_eq_true rfl, Nat.le_of_ble_eq_true rfl⟩) hS (fun q _ h => hFc q h) hFc (fun r u t H locs ht hvm hw hB hz1 hk1 hS => ?_)
                obtain ⟨hP, hD, hK⟩ := Bw.same ht hvm hP hD hK hk1 hFc
                clear hz1 hk1 hvm ht hB
                obtain ⟨x_4869, rfl⟩ : ∃ z, z = r := ⟨_, rfl⟩
                have hG := hG.trans (lt_eq hw.2)
                refine lv_icmp_ne (tgt := 62) hx hb dX7_isWord_55 (by decide) (fun c_4870 => ?_) (fun c_4870 => ?_)
                · skip
                  have hG := hG.trans (if_neg c_4870)
                  have gc_4870 := ti_ne c_4870 rfl rfl
                  refine lv_iconst (v := 0) hx hb dX7_isWord_62 (by decide) ?_
                  refine lv_istore_n (lv' := [(2, .int 0), (3, .int z_4862), (0, .ref oM), (1, .ref sA)]) hx hb dX7_isWord_63 rfl hl (by decide) rfl (fun ls hl => ?_)
                  obtain ⟨x_4871, ex_4871⟩ : ∃ z : Int32, z = z_4862 + Int32.ofInt 1 := ⟨_, rfl⟩
                  have hG := hG.trans (lt_eq ex_4871)
                  have vx_4871 : x_4871.toInt = z_4862.toInt + 1 := ti_add (y := 1) ex_4871 rfl kc_1 (om_4e4fce7e hi0_n_4864.1) (om_c8677ab2 b_iM_nameSize.2 hi0_n_4864.2)
                  refine lv_iinc (v := x_4871) (lv' := [(3, .int x_4871), (2, .int 0), (0, .ref oM), (1, .ref sA)]) hx hb dX7_isWord_64 hl (k := 1) rfl ex_4871.symm (by decide) rfl (fun ls hl => ?_)
                  refine lv_goto (tgt := 32) hx hb dX7_isWord_67 (by decide) ?_
                  exact ih_n_4864 x_4871 0 _ _ _  ⟨(om_83b90de5 hi0_n_4864.1 vx_4871), (om_afcf07ef gc_4865 vx_4871)⟩ ⟨(om_b1de7dbe kc_0), (om_270f4ea0 kc_0)⟩ (ms_lt hm_n_4864 (om_dd4ae0bc vx_4871) (om_d5382009 gc_4865)) hG hP hD hS (lv_sub hl [0, 1, 2, 3] rfl)
                · skip
                  have hG := hG.trans (if_pos c_4870)
                  have gc_4870 := ti_eq c_4870 rfl rfl
                  refine lv_iconst (v := 1) hx hb dX7_isWord_58 (by decide) ?_
                  refine lv_goto (tgt := 63) hx hb dX7_isWord_59 (by decide) ?_
                  refine lv_istore_n (lv' := [(2, .int 1), (3, .int z_4862), (0, .ref oM), (1, .ref sA)]) hx hb dX7_isWord_63 rfl hl (by decide) rfl (fun ls hl => ?_)
                  obtain ⟨x_4872, ex_4872⟩ : ∃ z : Int32, z = z_4862 + Int32.ofInt 1 := ⟨_, rfl⟩
                  have hG := hG.trans (lt_eq ex_4872)
                  have vx_4872 : x_4872.toInt = z_4862.toInt + 1 := ti_add (y := 1) ex_4872 rfl kc_1 (om_4e4fce7e hi0_n_4864.1) (om_c8677ab2 b_iM_nameSize.2 hi0_n_4864.2)
                  refine lv_iinc (v := x_4872) (lv' := [(3, .int x_4872), (2, .int 1), (0, .ref oM), (1, .ref sA)]) hx hb dX7_isWord_64 hl (k := 1) rfl ex_4872.symm (by decide) rfl (fun ls hl => ?_)
                  refine lv_goto (tgt := 32) hx hb dX7_isWord_67 (by decide) ?_
                  exact ih_n_4864 x_4872 1 _ _ _  ⟨(om_83b90de5 hi0_n_4864.1 vx_4872), (om_afcf07ef gc_4865 vx_4872)⟩ ⟨(om_1b364b1c kc_1), (om_02032f93 kc_1)⟩ (ms_lt hm_n_4864 (om_dd4ae0bc vx_4872) (om_d5382009 gc_4865)) hG hP hD hS (lv_sub hl [0, 1, 2, 3] rfl)
        exact key_n_4864 (((iM_nameSize.toInt - (0 : Int32).toInt).toNat) + 1) 0 1 _ _ _  ⟨(om_b1de7dbe kc_0), (om_2dfe280d b_iM_nameSize.1 kc_0)⟩ ⟨(om_1b364b1c kc_1), (om_02032f93 kc_1)⟩ (Nat.lt_add_one _) hG hP hD hS hl
      · skip
        have hG := hG.trans (if_neg c_4861)
        have gc_4861 := ti_ne c_4861 rfl vx_4860
        refine lv_iconst (v := 0) hx hb dX7_isWord_26 (by decide) ?_
        exact wq_z (v := 0) hx hb hr rfl 0 ⟨⟨Or.inl rfl, (by have q := kc_0; first | omega | assumption)⟩, hG⟩ (fun t ht hW => Bw.to hP hD hK ht hW) hS dX7_isWord_27 hlocks
set_option maxHeartbeats 4000000 in
set_option maxRecDepth 100000 in
theorem tX7_takesWord (l : Launch) (dC : Nat → ClassId) (dI : Nat → Nat → Nat) (sz : Nat) (oM : Nat) (iM_thrown : Int32) (rM_tape : Nat) (fM_tape : Nat → Int32) (kM_tape : ClassId) (iM_taped : Int32) (iM_size : Int32) (iM_at : Int32) (iM_end : Int32) (iM_token : Int32) (iM_whole : Int32) (iM_nameSize : Int32) (iM_fault : Int32) (iM_place : Int32) (iM_trouble : Int32) (rM_letters : Nat) (fM_letters : Nat → Int32) (kM_letters : ClassId) (iM_failed : Int32) (iM_hasCourt : Int32) (rM_r : Nat) (rM_fresh : Nat) (rM_told : Nat) (rM_read : Nat) (rM_st : Nat) (rM_undone : Nat) (rM_kept : Nat) (iM_undos : Int32) (iM_images : Int32) (rM_fresher : Nat) (iM_fresherSize : Int32) (iM_scale : Int32) (iM_night : Int32) (rM_heardRow : Nat) (rM_cutRow : Nat) (iM_breaths : Int32) (iM_cutMany : Int32) (iM_allBreaths : Int32) (rM_trial : Nat) (rM_words : Nat) (iM_fewestBreaths : Int32) (iM_orderMany : Int32) (iM_orderSum : Int32) (iM_leastOrder : Int32) (rM_often : Nat) (iM_setMany : Int32) (iM_someOf : Int32) (iM_allOf : Int32) (iM_allWeight : Int64) (iM_enoughWeight : Int64) (iM_worthSum : Int64) (iM_firstRest : Int32) (iM_leastDrawn : Int32) (sA : Nat) (sV : Nat) (sN : Nat) (sF : Nat → Int32) (b_iM_taped : 0 ≤ iM_taped.toInt ∧ iM_taped.toInt ≤ 900) (b_iM_size : 0 ≤ iM_size.toInt ∧ iM_size.toInt ≤ 900) (b_iM_end : 0 ≤ iM_end.toInt ∧ iM_end.toInt ≤ 900) (b_iM_nameSize : 0 ≤ iM_nameSize.toInt ∧ iM_nameSize.toInt ≤ 900) (b_iM_failed : 0 ≤ iM_failed.toInt ∧ iM_failed.toInt ≤ 1) (b_iM_hasCourt : 0 ≤ iM_hasCourt.toInt ∧ iM_hasCourt.toInt ≤ 1) (b_iM_undos : 0 ≤ iM_undos.toInt ∧ iM_undos.toInt ≤ 16) (b_iM_images : 0 ≤ iM_images.toInt ∧ iM_images.toInt ≤ 3) (b_iM_scale : 1 ≤ iM_scale.toInt ∧ iM_scale.toInt ≤ 1296) (b_iM_breaths : 0 ≤ iM_breaths.toInt ∧ iM_breaths.toInt ≤ 399) (b_iM_cutMany : 0 ≤ iM_cutMany.toInt ∧ iM_cutMany.toInt ≤ 399) (r_T : ImpP (iM_token.toInt = 2) (iM_nameSize.toInt ≤ 8)) (hsn : sN ≤ 8) : Met l yX7_takesWord (Cond.code yX7_takesWord cX7_takesWord 2 (some .boolean) :: wG) ({ frames := 5, cells := 0, slots := 0, locals := 134 }) (va_Pc [.ref oM, .ref sA] (Pq dC dI sz [(oc7 oM iM_thrown rM_tape iM_taped iM_size iM_at iM_end iM_token iM_whole iM_nameSize iM_fault iM_place iM_trouble rM_letters iM_failed iM_hasCourt rM_r rM_fresh rM_told rM_read rM_st rM_undone rM_kept iM_undos iM_images rM_fresher iM_fresherSize iM_scale iM_night rM_heardRow rM_cutRow iM_breaths iM_cutMany iM_allBreaths rM_trial rM_words iM_fewestBreaths iM_orderMany iM_orderSum iM_leastOrder rM_often iM_setMany iM_someOf iM_allOf iM_allWeight iM_enoughWeight iM_worthSum iM_firstRest iM_leastDrawn), (arI rM_tape kM_tape 900 fM_tape), (arI rM_letters kM_letters 8 fM_letters)] [(kM_tape, .int), (kM_letters, .int)] sA sV sN sF)) (va_Qi (fun (r : Int32) (u : Nat) => ((r = 0 ∨ r = 1) ∧ (r.toInt = (u : Int))) ∧ r = Int32.ofNat u) (fun (u : Nat) (t : State) => ∃ (niM_at : Int32) (niM_end : Int32) (niM_token : Int32) (niM_whole : Int32) (niM_nameSize : Int32) (nfM_letters : Nat → Int32), (0 ≤ niM_end.toInt ∧ niM_end.toInt ≤ 900) ∧ (0 ≤ niM_nameSize.toInt ∧ niM_nameSize.toInt ≤ 900) ∧ (iM_end.toInt ≤ niM_end.toInt) ∧ (ImpP (niM_token.toInt = 2) (niM_nameSize.toInt ≤ 8)) ∧ (ImpP ((u : Int) = 1 ∧ niM_token.toInt = 59 ) (iM_end.toInt + 1 ≤ niM_end.toInt)) ∧ (PX7_takesWord fM_tape iM_size iM_at iM_end iM_token iM_whole iM_nameSize fM_letters iM_failed sN sF = (Int32.ofNat u, niM_at, niM_end, niM_token, niM_whole, niM_nameSize, nfM_letters)) ∧ Bw dC dI (va_A [(oc7 oM iM_thrown rM_tape iM_taped iM_size iM_at iM_end iM_token iM_whole iM_nameSize iM_fault iM_place iM_trouble rM_letters iM_failed iM_hasCourt rM_r rM_fresh rM_told rM_read rM_st rM_undone rM_kept iM_undos iM_images rM_fresher iM_fresherSize iM_scale iM_night rM_heardRow rM_cutRow iM_breaths iM_cutMany iM_allBreaths rM_trial rM_words iM_fewestBreaths iM_orderMany iM_orderSum iM_leastOrder rM_often iM_setMany iM_someOf iM_allOf iM_allWeight iM_enoughWeight iM_worthSum iM_firstRest iM_leastDrawn), (arI rM_tape kM_tape 900 fM_tape), (arI rM_letters kM_letters 8 fM_letters)] sz) [(oc7 oM iM_thrown rM_tape iM_taped iM_size niM_at niM_end niM_token niM_whole niM_nameSize iM_fault iM_place iM_trouble rM_letters iM_failed iM_hasCourt rM_r rM_fresh rM_told rM_read rM_st rM_undone rM_kept iM_undos iM_images rM_fresher iM_fresherSize iM_scale iM_night rM_heardRow rM_cutRow iM_breaths iM_cutMany iM_allBreaths rM_trial rM_words iM_fewestBreaths iM_orderMany iM_orderSum iM_leastOrder rM_often iM_setMany iM_someOf iM_allOf iM_allWeight iM_enoughWeight iM_worthSum iM_firstRest iM_leastDrawn), (arI rM_tape kM_tape 900 fM_tape), (arI rM_letters kM_letters 8 nfM_letters)] [(kM_tape, .int), (kM_letters, .int)] t) (va_A [(oc7 oM iM_thrown rM_tape iM_taped iM_size iM_at iM_end iM_token iM_whole iM_nameSize iM_fault iM_place iM_trouble rM_letters iM_failed iM_hasCourt rM_r rM_fresh rM_told rM_read rM_st rM_undone rM_kept iM_undos iM_images rM_fresher iM_fresherSize iM_scale iM_night rM_heardRow rM_cutRow iM_breaths iM_cutMany iM_allBreaths rM_trial rM_words iM_fewestBreaths iM_orderMany iM_orderSum iM_leastOrder rM_often iM_setMany iM_someOf iM_allOf iM_allWeight iM_enoughWeight iM_worthSum iM_firstRest iM_leastDrawn), (arI rM_tape kM_tape 900 fM_tape), (arI rM_letters kM_letters 8 fM_letters)] sz)) 0 0 (va_A [(oc7 oM iM_thrown rM_tape iM_taped iM_size iM_at iM_end iM_token iM_whole iM_nameSize iM_fault iM_place iM_trouble rM_letters iM_failed iM_hasCourt rM_r rM_fresh rM_told rM_read rM_st rM_undone rM_kept iM_undos iM_images rM_fresher iM_fresherSize iM_scale iM_night rM_heardRow rM_cutRow iM_breaths iM_cutMany iM_allBreaths rM_trial rM_words iM_fewestBreaths iM_orderMany iM_orderSum iM_leastOrder rM_often iM_setMany iM_someOf iM_allOf iM_allWeight iM_enoughWeight iM_worthSum iM_firstRest iM_leastDrawn), (arI rM_tape kM_tape 900 fM_tape), (arI rM_letters kM_letters 8 fM_letters)] sz) := by
  refine Met.ofW (cc := cX7_takesWord) (maxL := 2) (ret := (some .boolean)) pnX7 rfl ?_
  intro p e s m args below meth c s₁ B hml hv
  obtain ⟨rfl, ⟨hsz, hP, hK, hD0, hE⟩, hSw⟩ := hv
  have hx := B.exec
  have hb := B.bytes
  have hr := B.returns
  have hts : ∀ w ∈ wG, w.before ([.ref oM, .ref sA] : List Value).toArray s = true := fun w h => atoms_spec (ws := Cond.code yX7_takesWord cX7_takesWord 2 (some .boolean) :: wG) B.pre w (List.mem_cons_of_mem _ h)
  have hown : s.vm.findClass RX7 = some m.cls := own_of B.named rfl
  have hlocks := B.notSynchronized
  subst hsz
  have hD := hD0.self (sz := s.heap.size)
  generalize hAe : va_A [(oc7 oM iM_thrown rM_tape iM_taped iM_size iM_at iM_end iM_token iM_whole iM_nameSize iM_fault iM_place iM_trouble rM_letters iM_failed iM_hasCourt rM_r rM_fresh rM_told rM_read rM_st rM_undone rM_kept iM_undos iM_images rM_fresher iM_fresherSize iM_scale iM_night rM_heardRow rM_cutRow iM_breaths iM_cutMany iM_allBreaths rM_trial rM_words iM_fewestBreaths iM_orderMany iM_orderSum iM_leastOrder rM_often iM_setMany iM_someOf iM_allOf iM_allWeight iM_enoughWeight iM_worthSum iM_firstRest iM_leastDrawn), (arI rM_tape kM_tape 900 fM_tape), (arI rM_letters kM_letters 8 fM_letters)] s.heap.size = A at hD hE hSw ⊢
  have hA : ∀ q : Nat, s.heap.size ≤ q → A q := fun q h => by rw [← hAe]; exact Or.inr h
  have hS : va_S A s.heap s.heap [] := va_S.rf
  have hl := lv_entry ([.ref oM, .ref sA]) (n := 2) (Nat.le_of_ble_eq_true rfl)
  rw [lg_entry_eq]
  generalize (lg_sl ([.ref oM, .ref sA]) ++ List.replicate (2 - (lg_sl ([.ref oM, .ref sA])).length) Slot.unset).toArray = ls at hl ⊢
  have hl : lv_has ls 2 [(0, .ref oM), (1, .ref sA)] := hl
  have hG := PX7_takesWord_eq fM_tape iM_size iM_at iM_end iM_token iM_whole iM_nameSize fM_letters iM_failed sN sF
  have hsN9 : (sN : Int) ≤ 8 := Int.ofNat_le.mpr hsn
  have hsN0 : 0 ≤ (sN : Int) := Int.natCast_nonneg _
  refine lv_aload_n hx hb dX7_takesWord_0 rfl (lv_at hl 0 rfl) ?_
  refine lv_aload_n hx hb dX7_takesWord_1 rfl (lv_at hl 1 rfl) ?_
  have hMs := ml_of hD [true, false, true] (wc := [(oc7 oM iM_thrown rM_tape iM_taped iM_size iM_at iM_end iM_token iM_whole iM_nameSize iM_fault iM_place iM_trouble rM_letters iM_failed iM_hasCourt rM_r rM_fresh rM_told rM_read rM_st rM_undone rM_kept iM_undos iM_images rM_fresher iM_fresherSize iM_scale iM_night rM_heardRow rM_cutRow iM_breaths iM_cutMany iM_allBreaths rM_trial rM_words iM_fewestBreaths iM_orderMany iM_orderSum iM_leastOrder rM_often iM_setMany iM_someOf iM_allOf iM_allWeight iM_enoughWeight iM_worthSum iM_firstRest iM_leastDrawn), (arI rM_letters kM_letters 8 fM_letters)]) rfl
  have hFc := va_freeM hD hS hA _ hMs
  refine va_calli (va_runV (As := [.ref sA]) (rest := []) ⟨hx, hb, hml, hown, hts⟩ (tX7_isWord l dC dI _ oM iM_thrown rM_tape iM_taped iM_size iM_at iM_end iM_token iM_whole iM_nameSize iM_fault iM_place iM_trouble rM_letters fM_letters kM_letters iM_failed iM_hasCourt rM_r rM_fresh rM_told rM_read rM_st rM_undone rM_kept iM_undos iM_images rM_fresher iM_fresherSize iM_scale iM_night rM_heardRow rM_cutRow iM_breaths iM_cutMany iM_allBreaths rM_trial rM_words iM_fewestBreaths iM_orderMany iM_orderSum iM_leastOrder rM_often iM_setMany iM_someOf iM_allOf iM_allWeight iM_enoughWeight iM_worthSum iM_firstRest iM_leastDrawn sA sV sN sF b_iM_taped b_iM_size b_iM_end b_iM_nameSize b_iM_failed b_iM_hasCourt b_iM_undos b_iM_images b_iM_scale b_iM_breaths b_iM_cutMany r_T hsn) (cwV 1 hts (wd_V wd_420 wd_421 wd_422 wd_5 (wd_c wd_423)) rfl rfl rfl dv_yX7_isWord_1 ⟨Nat.le_of_ble_eq_true rfl, Nat.le_of_ble_eq_true rfl⟩) ⟨Pq.fb, recvX7 hK hP (q0 := 0) rfl, fun U hU hW => Pq.to (hP.ms _ hMs) (hD.ms _ hMs) (hK.ms [false, true] rfl) hSw hE hS hFc hU hW⟩ rfl rfl hl.1 rfl (lv_room (Nat.le_of_ble_eq_true rfl)) dX7_takesWord_2 ⟨Nat.le_of_ble_eq_true rfl, Nat.le_of_ble_eq_true rfl⟩) hS (fun q _ h => hFc q h) hFc (fun r u t H locs ht hvm hw hB hz1 hk1 hS => ?_)
  have hru9 := hw.2
  have hw := hw.1
  obtain ⟨hP, hD⟩ := Bw.goN (ws' := [(oc7 oM iM_thrown rM_tape iM_taped iM_size iM_at iM_end iM_token iM_whole iM_nameSize iM_fault iM_place iM_trouble rM_letters iM_failed iM_hasCourt rM_r rM_fresh rM_told rM_read rM_st rM_undone rM_kept iM_undos iM_images rM_fresher iM_fresherSize iM_scale iM_night rM_heardRow rM_cutRow iM_breaths iM_cutMany iM_allBreaths rM_trial rM_words iM_fewestBreaths iM_orderMany iM_orderSum iM_leastOrder rM_often iM_setMany iM_someOf iM_allOf iM_allWeight iM_enoughWeight iM_worthSum iM_firstRest iM_leastDrawn), (arI rM_tape kM_tape 900 fM_tape), (arI rM_letters kM_letters 8 fM_letters)]) hB rfl ht hP hD _ hMs hk1 hFc rfl
  clear hz1 hk1 hvm ht hB hMs
  obtain ⟨x_4883, rfl⟩ : ∃ z, z = r := ⟨_, rfl⟩
  have hG := hG.trans (lt_eq hru9.symm)
  have bx_4883 := hw.1
  have dx_4883 := bz_tb bx_4883
  have lx_4883 := hw.2
  refine lv_if_ne (tgt := 10) hx hb dX7_takesWord_5 (by decide) (fun c_4884 => ?_) (fun c_4884 => ?_)
  · skip
    have hG := hG.trans (if_neg c_4884)
    have gc_4884 := ti_ne c_4884 rfl kc_0
    replace gc_4884 : (-1) * x_4883.toInt + 1 ≤ 0 := om_e3003f79 gc_4884 dx_4883.1
    have h_4885 : iM_token.toInt = 2 := lx_4883 (om_7907a7c1 dx_4883.2 gc_4884)
    clear lx_4883
    have h_4886 : iM_nameSize.toInt ≤ 8 := r_T h_4885
    clear r_T
    refine lv_aload_n hx hb dX7_takesWord_10 rfl (lv_at hl 0 rfl) ?_
    have hFc := va_freeI hD hS hA
    refine va_callv (va_runV (As := []) (rest := []) ⟨hx, hb, hml, hown, hts⟩ (tX7_next l dC dI _ oM iM_thrown rM_tape fM_tape kM_tape iM_taped iM_size iM_at iM_end iM_token iM_whole iM_nameSize iM_fault iM_place iM_trouble rM_letters fM_letters kM_letters iM_failed iM_hasCourt rM_r rM_fresh rM_told rM_read rM_st rM_undone rM_kept iM_undos iM_images rM_fresher iM_fresherSize iM_scale iM_night rM_heardRow rM_cutRow iM_breaths iM_cutMany iM_allBreaths rM_trial rM_words iM_fewestBreaths iM_orderMany iM_orderSum iM_leastOrder rM_often iM_setMany iM_someOf iM_allOf iM_allWeight iM_enoughWeight iM_worthSum iM_firstRest iM_leastDrawn b_iM_taped b_iM_size b_iM_end b_iM_nameSize b_iM_failed b_iM_hasCourt b_iM_undos b_iM_images b_iM_scale b_iM_breaths b_iM_cutMany (fun h9 => h_4886)) (cwV 0 hts (wd_V wd_400 wd_401 wd_402 wd_5 (wd_c wd_403)) rfl rfl rfl dv_yX7_next_0 ⟨Nat.le_of_ble_eq_true rfl, Nat.le_of_ble_eq_true rfl⟩) ⟨Pw.fb, recvX7 hK hP (q0 := 0) rfl, fun U hU hW => Pw.to hP hD hK hE hS hFc hU hW⟩ rfl rfl hl.1 rfl (lv_room (Nat.le_of_ble_eq_true rfl)) dX7_takesWord_11 ⟨Nat.le_of_ble_eq_true rfl, Nat.le_of_ble_eq_true rfl⟩) hS (fun q _ h => hFc q h) hFc (fun u t H locs ht hvm hw hB hz1 hk1 hS => ?_)
    refine ex_6_6 hB (fun x_4887 x_4888 x_4889 x_4890 x_4891 f_4892 b_x_4888 b_x_4891 e_x_4887_0 e_x_4887_1 e_x_4887_2 e_x_4887_3 hB => ?_)
    obtain ⟨hP, hD⟩ := Bw.goA (ws' := [(oc7 oM iM_thrown rM_tape iM_taped iM_size x_4887 x_4888 x_4889 x_4890 x_4891 iM_fault iM_place iM_trouble rM_letters iM_failed iM_hasCourt rM_r rM_fresh rM_told rM_read rM_st rM_undone rM_kept iM_undos iM_images rM_fresher iM_fresherSize iM_scale iM_night rM_heardRow rM_cutRow iM_breaths iM_cutMany iM_allBreaths rM_trial rM_words iM_fewestBreaths iM_orderMany iM_orderSum iM_leastOrder rM_often iM_setMany iM_someOf iM_allOf iM_allWeight iM_enoughWeight iM_worthSum iM_firstRest iM_leastDrawn), (arI rM_tape kM_tape 900 fM_tape), (arI rM_letters kM_letters 8 f_4892)]) hB rfl ht hFc rfl
    clear hz1 hk1 hvm ht hB
    have hG := hG.trans (un6_eq e_x_4887_3)
    refine lv_iconst (v := 1) hx hb dX7_takesWord_14 (by decide) ?_
    exact wq_z (v := 1) hx hb hr rfl 1 ⟨⟨Or.inr rfl, (by decide)⟩, (by decide)⟩ (fun t ht hW => ⟨x_4887, x_4888, x_4889, x_4890, x_4891, f_4892, b_x_4888, b_x_4891, e_x_4887_0, e_x_4887_1, (fun h9 => by have q0 := kc_0; have q1 := kc_1; have q9 := e_x_4887_2 (by omega); omega), hG, Bw.to hP hD hK ht hW⟩) hS dX7_takesWord_15 hlocks
  · skip
    have hG := hG.trans (if_pos c_4884)
    have gc_4884 := ti_eq c_4884 rfl kc_0
    clear lx_4883
    refine lv_iconst (v := 0) hx hb dX7_takesWord_8 (by decide) ?_
    exact wq_z (v := 0) hx hb hr rfl 0 ⟨⟨Or.inl rfl, (by decide)⟩, (by decide)⟩ (fun t ht hW => ⟨iM_at, iM_end, iM_token, iM_whole, iM_nameSize, fM_letters, ⟨b_iM_end.1, b_iM_end.2⟩, ⟨b_iM_nameSize.1, b_iM_nameSize.2⟩, om_1cb5f934, r_T, (fun h9 => by have q0 := kc_0; have q1 := kc_1; omega), hG, Bw.to hP hD hK ht hW⟩) hS dX7_takesWord_9 hlocks
set_option maxHeartbeats 4000000 in
set_option maxRecDepth 100000 in
theorem tX7_must (l : Launch) (dC : Nat → ClassId) (dI : Nat → Nat → Nat) (sz : Nat) (oM : Nat) (iM_thrown : Int32) (rM_tape : Nat) (fM_tape : Nat → Int32) (kM_tape : ClassId) (iM_taped : Int32) (iM_size : Int32) (iM_at : Int32) (iM_end : Int32) (iM_token : Int32) (iM_whole : Int32) (iM_nameSize : Int32) (iM_fault : Int32) (iM_place : Int32) (iM_trouble : Int32) (rM_letters : Nat) (fM_letters : Nat → Int32) (kM_letters : ClassId) (iM_failed : Int32) (iM_hasCourt : Int32) (rM_r : Nat) (rM_fresh : Nat) (rM_told : Nat) (rM_read : Nat) (rM_st : Nat) (rM_undone : Nat) (rM_kept : Nat) (iM_undos : Int32) (iM_images : Int32) (rM_fresher : Nat) (iM_fresherSize : Int32) (iM_scale : Int32) (iM_night : Int32) (rM_heardRow : Nat) (rM_cutRow : Nat) (iM_breaths : Int32) (iM_cutMany : Int32) (iM_allBreaths : Int32) (rM_trial : Nat) (rM_words : Nat) (iM_fewestBreaths : Int32) (iM_orderMany : Int32) (iM_orderSum : Int32) (iM_leastOrder : Int32) (rM_often : Nat) (iM_setMany : Int32) (iM_someOf : Int32) (iM_allOf : Int32) (iM_allWeight : Int64) (iM_enoughWeight : Int64) (iM_worthSum : Int64) (iM_firstRest : Int32) (iM_leastDrawn : Int32) (sA : Nat) (sV : Nat) (sN : Nat) (sF : Nat → Int32) (b_iM_taped : 0 ≤ iM_taped.toInt ∧ iM_taped.toInt ≤ 900) (b_iM_size : 0 ≤ iM_size.toInt ∧ iM_size.toInt ≤ 900) (b_iM_end : 0 ≤ iM_end.toInt ∧ iM_end.toInt ≤ 900) (b_iM_nameSize : 0 ≤ iM_nameSize.toInt ∧ iM_nameSize.toInt ≤ 900) (b_iM_failed : 0 ≤ iM_failed.toInt ∧ iM_failed.toInt ≤ 1) (b_iM_hasCourt : 0 ≤ iM_hasCourt.toInt ∧ iM_hasCourt.toInt ≤ 1) (b_iM_undos : 0 ≤ iM_undos.toInt ∧ iM_undos.toInt ≤ 16) (b_iM_images : 0 ≤ iM_images.toInt ∧ iM_images.toInt ≤ 3) (b_iM_scale : 1 ≤ iM_scale.toInt ∧ iM_scale.toInt ≤ 1296) (b_iM_breaths : 0 ≤ iM_breaths.toInt ∧ iM_breaths.toInt ≤ 399) (b_iM_cutMany : 0 ≤ iM_cutMany.toInt ∧ iM_cutMany.toInt ≤ 399) (r_T : ImpP (iM_token.toInt = 2) (iM_nameSize.toInt ≤ 8)) (hsn : sN ≤ 8) : Met l yX7_must (Cond.code yX7_must cX7_must 2 none :: wG) ({ frames := 6, cells := 0, slots := 0, locals := 155 }) (va_Pc [.ref oM, .ref sA] (Pq dC dI sz [(oc7 oM iM_thrown rM_tape iM_taped iM_size iM_at iM_end iM_token iM_whole iM_nameSize iM_fault iM_place iM_trouble rM_letters iM_failed iM_hasCourt rM_r rM_fresh rM_told rM_read rM_st rM_undone rM_kept iM_undos iM_images rM_fresher iM_fresherSize iM_scale iM_night rM_heardRow rM_cutRow iM_breaths iM_cutMany iM_allBreaths rM_trial rM_words iM_fewestBreaths iM_orderMany iM_orderSum iM_leastOrder rM_often iM_setMany iM_someOf iM_allOf iM_allWeight iM_enoughWeight iM_worthSum iM_firstRest iM_leastDrawn), (arI rM_tape kM_tape 900 fM_tape), (arI rM_letters kM_letters 8 fM_letters)] [(kM_tape, .int), (kM_letters, .int)] sA sV sN sF)) (va_Qv (fun (_ : Nat) => True) (fun (_ : Nat) (t : State) => ∃ (niM_at : Int32) (niM_end : Int32) (niM_token : Int32) (niM_whole : Int32) (niM_nameSize : Int32) (niM_fault : Int32) (niM_place : Int32) (niM_failed : Int32) (nfM_letters : Nat → Int32), (0 ≤ niM_end.toInt ∧ niM_end.toInt ≤ 900) ∧ (0 ≤ niM_nameSize.toInt ∧ niM_nameSize.toInt ≤ 900) ∧ (0 ≤ niM_failed.toInt ∧ niM_failed.toInt ≤ 1) ∧ (iM_end.toInt ≤ niM_end.toInt) ∧ (ImpP (niM_token.toInt = 2) (niM_nameSize.toInt ≤ 8)) ∧ (iM_failed.toInt ≤ niM_failed.toInt) ∧ (ImpP (niM_failed.toInt ≤ 0 ∧ niM_token.toInt = 59 ) (iM_end.toInt + 1 ≤ niM_end.toInt)) ∧ (PX7_must fM_tape iM_size iM_at iM_end iM_token iM_whole iM_nameSize iM_fault iM_place fM_letters iM_failed sN sF = (niM_at, niM_end, niM_token, niM_whole, niM_nameSize, niM_fault, niM_place, niM_failed, nfM_letters)) ∧ Bw dC dI (va_A [(oc7 oM iM_thrown rM_tape iM_taped iM_size iM_at iM_end iM_token iM_whole iM_nameSize iM_fault iM_place iM_trouble rM_letters iM_failed iM_hasCourt rM_r rM_fresh rM_told rM_read rM_st rM_undone rM_kept iM_undos iM_images rM_fresher iM_fresherSize iM_scale iM_night rM_heardRow rM_cutRow iM_breaths iM_cutMany iM_allBreaths rM_trial rM_words iM_fewestBreaths iM_orderMany iM_orderSum iM_leastOrder rM_often iM_setMany iM_someOf iM_allOf iM_allWeight iM_enoughWeight iM_worthSum iM_firstRest iM_leastDrawn), (arI rM_tape kM_tape 900 fM_tape), (arI rM_letters kM_letters 8 fM_letters)] sz) [(oc7 oM iM_thrown rM_tape iM_taped iM_size niM_at niM_end niM_token niM_whole niM_nameSize niM_fault niM_place iM_trouble rM_letters niM_failed iM_hasCourt rM_r rM_fresh rM_told rM_read rM_st rM_undone rM_kept iM_undos iM_images rM_fresher iM_fresherSize iM_scale iM_night rM_heardRow rM_cutRow iM_breaths iM_cutMany iM_allBreaths rM_trial rM_words iM_fewestBreaths iM_orderMany iM_orderSum iM_leastOrder rM_often iM_setMany iM_someOf iM_allOf iM_allWeight iM_enoughWeight iM_worthSum iM_firstRest iM_leastDrawn), (arI rM_tape kM_tape 900 fM_tape), (arI rM_letters kM_letters 8 nfM_letters)] [(kM_tape, .int), (kM_letters, .int)] t) (va_A [(oc7 oM iM_thrown rM_tape iM_taped iM_size iM_at iM_end iM_token iM_whole iM_nameSize iM_fault iM_place iM_trouble rM_letters iM_failed iM_hasCourt rM_r rM_fresh rM_told rM_read rM_st rM_undone rM_kept iM_undos iM_images rM_fresher iM_fresherSize iM_scale iM_night rM_heardRow rM_cutRow iM_breaths iM_cutMany iM_allBreaths rM_trial rM_words iM_fewestBreaths iM_orderMany iM_orderSum iM_leastOrder rM_often iM_setMany iM_someOf iM_allOf iM_allWeight iM_enoughWeight iM_worthSum iM_firstRest iM_leastDrawn), (arI rM_tape kM_tape 900 fM_tape), (arI rM_letters kM_letters 8 fM_letters)] sz)) 0 0 (va_A [(oc7 oM iM_thrown rM_tape iM_taped iM_size iM_at iM_end iM_token iM_whole iM_nameSize iM_fault iM_place iM_trouble rM_letters iM_failed iM_hasCourt rM_r rM_fresh rM_told rM_read rM_st rM_undone rM_kept iM_undos iM_images rM_fresher iM_fresherSize iM_scale iM_night rM_heardRow rM_cutRow iM_breaths iM_cutMany iM_allBreaths rM_trial rM_words iM_fewestBreaths iM_orderMany iM_orderSum iM_leastOrder rM_often iM_setMany iM_someOf iM_allOf iM_allWeight iM_enoughWeight iM_worthSum iM_firstRest iM_leastDrawn), (arI rM_tape kM_tape 900 fM_tape), (arI rM_letters kM_letters 8 fM_letters)] sz) := by
  refine Met.ofW (cc := cX7_must) (maxL := 2) (ret := none) pnX7 rfl ?_
  intro p e s m args below meth c s₁ B hml hv
  obtain ⟨rfl, ⟨hsz, hP, hK, hD0, hE⟩, hSw⟩ := hv
  have hx := B.exec
  have hb := B.bytes
  have hr := B.returns
  have hts : ∀ w ∈ wG, w.before ([.ref oM, .ref sA] : List Value).toArray s = true := fun w h => atoms_spec (ws := Cond.code yX7_must cX7_must 2 none :: wG) B.pre w (List.mem_cons_of_mem _ h)
  have hown : s.vm.findClass RX7 = some m.cls := own_of B.named rfl
  have hlocks := B.notSynchronized
  subst hsz
  have hD := hD0.self (sz := s.heap.size)
  generalize hAe : va_A [(oc7 oM iM_thrown rM_tape iM_taped iM_size iM_at iM_end iM_token iM_whole iM_nameSize iM_fault iM_place iM_trouble rM_letters iM_failed iM_hasCourt rM_r rM_fresh rM_told rM_read rM_st rM_undone rM_kept iM_undos iM_images rM_fresher iM_fresherSize iM_scale iM_night rM_heardRow rM_cutRow iM_breaths iM_cutMany iM_allBreaths rM_trial rM_words iM_fewestBreaths iM_orderMany iM_orderSum iM_leastOrder rM_often iM_setMany iM_someOf iM_allOf iM_allWeight iM_enoughWeight iM_worthSum iM_firstRest iM_leastDrawn), (arI rM_tape kM_tape 900 fM_tape), (arI rM_letters kM_letters 8 fM_letters)] s.heap.size = A at hD hE hSw ⊢
  have hA : ∀ q : Nat, s.heap.size ≤ q → A q := fun q h => by rw [← hAe]; exact Or.inr h
  have hS : va_S A s.heap s.heap [] := va_S.rf
  have hl := lv_entry ([.ref oM, .ref sA]) (n := 2) (Nat.le_of_ble_eq_true rfl)
  rw [lg_entry_eq]
  generalize (lg_sl ([.ref oM, .ref sA]) ++ List.replicate (2 - (lg_sl ([.ref oM, .ref sA])).length) Slot.unset).toArray = ls at hl ⊢
  have hl : lv_has ls 2 [(0, .ref oM), (1, .ref sA)] := hl
  have hG := PX7_must_eq fM_tape iM_size iM_at iM_end iM_token iM_whole iM_nameSize iM_fault iM_place fM_letters iM_failed sN sF
  have hsN9 : (sN : Int) ≤ 8 := Int.ofNat_le.mpr hsn
  have hsN0 : 0 ≤ (sN : Int) := Int.natCast_nonneg _
  refine lv_aload_n hx hb dX7_must_0 rfl (lv_at hl 0 rfl) ?_
  refine va_get (D := (dC, dI)) (ci := 7) (v := .int iM_failed) (C := RX7) (T := TX7) (N := 48) hx hb hts inX7 hown hK hP 0 rfl rfl 13 (by decide) (hts _ wd_380) (fun _ h9 => h9) rfl dX7_must_1 ?_
  refine lv_if_ne (tgt := 24) hx hb dX7_must_4 (by decide) (fun c_4905 => ?_) (fun c_4905 => ?_)
  · skip
    have hG := hG.trans (if_neg c_4905)
    have gc_4905 := ti_ne c_4905 rfl kc_0
    replace gc_4905 : (-1) * iM_failed.toInt + 1 ≤ 0 := om_e3003f79 gc_4905 b_iM_failed.1
    exact wq_v hx hb hr 0 trivial (fun t ht hW => ⟨iM_at, iM_end, iM_token, iM_whole, iM_nameSize, iM_fault, iM_place, iM_failed, fM_letters, ⟨b_iM_end.1, b_iM_end.2⟩, ⟨b_iM_nameSize.1, b_iM_nameSize.2⟩, ⟨b_iM_failed.1, b_iM_failed.2⟩, om_1cb5f934, r_T, om_1cb5f934, (fun h9 => False.elim (om_a5fe015d gc_4905 h9.1)), hG, Bw.to hP hD hK ht hW⟩) hS dX7_must_24 hlocks
  · skip
    have hG := hG.trans (if_pos c_4905)
    have gc_4905 := ti_eq c_4905 rfl kc_0
    refine lv_aload_n hx hb dX7_must_7 rfl (lv_at hl 0 rfl) ?_
    refine lv_aload_n hx hb dX7_must_8 rfl (lv_at hl 1 rfl) ?_
    have hFc := va_freeI hD hS hA
    refine va_calli (va_runV (As := [.ref sA]) (rest := []) ⟨hx, hb, hml, hown, hts⟩ (tX7_takesWord l dC dI _ oM iM_thrown rM_tape fM_tape kM_tape iM_taped iM_size iM_at iM_end iM_token iM_whole iM_nameSize iM_fault iM_place iM_trouble rM_letters fM_letters kM_letters iM_failed iM_hasCourt rM_r rM_fresh rM_told rM_read rM_st rM_undone rM_kept iM_undos iM_images rM_fresher iM_fresherSize iM_scale iM_night rM_heardRow rM_cutRow iM_breaths iM_cutMany iM_allBreaths rM_trial rM_words iM_fewestBreaths iM_orderMany iM_orderSum iM_leastOrder rM_often iM_setMany iM_someOf iM_allOf iM_allWeight iM_enoughWeight iM_worthSum iM_firstRest iM_leastDrawn sA sV sN sF b_iM_taped b_iM_size b_iM_end b_iM_nameSize b_iM_failed b_iM_hasCourt b_iM_undos b_iM_images b_iM_scale b_iM_breaths b_iM_cutMany r_T hsn) (cwV 1 hts (wd_V wd_442 wd_443 wd_444 wd_5 (wd_c wd_445)) rfl rfl rfl dv_yX7_takesWord_1 ⟨Nat.le_of_ble_eq_true rfl, Nat.le_of_ble_eq_true rfl⟩) ⟨Pq.fb, recvX7 hK hP (q0 := 0) rfl, fun U hU hW => Pq.to hP hD hK hSw hE hS hFc hU hW⟩ rfl rfl hl.1 rfl (lv_room (Nat.le_of_ble_eq_true rfl)) dX7_must_9 ⟨Nat.le_of_ble_eq_true rfl, Nat.le_of_ble_eq_true rfl⟩) hS (fun q _ h => hFc q h) hFc (fun r u t H locs ht hvm hw hB hz1 hk1 hS => ?_)
    have hru9 := hw.2
    have hw := hw.1
    refine ex_6_6 hB (fun x_4906 x_4907 x_4908 x_4909 x_4910 f_4911 b_x_4907 b_x_4910 e_x_4906_0 e_x_4906_1 e_x_4906_2 e_x_4906_3 hB => ?_)
    obtain ⟨hP, hD⟩ := Bw.goA (ws' := [(oc7 oM iM_thrown rM_tape iM_taped iM_size x_4906 x_4907 x_4908 x_4909 x_4910 iM_fault iM_place iM_trouble rM_letters iM_failed iM_hasCourt rM_r rM_fresh rM_told rM_read rM_st rM_undone rM_kept iM_undos iM_images rM_fresher iM_fresherSize iM_scale iM_night rM_heardRow rM_cutRow iM_breaths iM_cutMany iM_allBreaths rM_trial rM_words iM_fewestBreaths iM_orderMany iM_orderSum iM_leastOrder rM_often iM_setMany iM_someOf iM_allOf iM_allWeight iM_enoughWeight iM_worthSum iM_firstRest iM_leastDrawn), (arI rM_tape kM_tape 900 fM_tape), (arI rM_letters kM_letters 8 f_4911)]) hB rfl ht hFc rfl
    clear hz1 hk1 hvm ht hB
    rw [← hru9] at e_x_4906_3
    obtain ⟨x_4912, rfl⟩ : ∃ z, z = r := ⟨_, rfl⟩
    have hG := hG.trans (un7_eq e_x_4906_3)
    have bx_4912 := hw.1
    have dx_4912 := bz_tb bx_4912
    have lx_4912 := hw.2
    clear r_T
    refine lv_if_ne (tgt := 24) hx hb dX7_must_12 (by decide) (fun c_4913 => ?_) (fun c_4913 => ?_)
    · skip
      have hG := hG.trans (if_neg c_4913)
      have gc_4913 := ti_ne c_4913 rfl kc_0
      replace gc_4913 : (-1) * x_4912.toInt + 1 ≤ 0 := om_e3003f79 gc_4913 dx_4912.1
      exact wq_v hx hb hr 0 trivial (fun t ht hW => ⟨x_4906, x_4907, x_4908, x_4909, x_4910, iM_fault, iM_place, iM_failed, f_4911, b_x_4907, b_x_4910, ⟨b_iM_failed.1, b_iM_failed.2⟩, e_x_4906_0, e_x_4906_1, om_1cb5f934, (fun h9 => by have q0 := kc_0; have q1 := kc_1; have q9 := e_x_4906_2 (by omega); omega), hG, Bw.to hP hD hK ht hW⟩) hS dX7_must_24 hlocks
    · skip
      have hG := hG.trans (if_pos c_4913)
      have gc_4913 := ti_eq c_4913 rfl kc_0
      refine lv_aload_n hx hb dX7_must_15 rfl (lv_at hl 0 rfl) ?_
      refine lv_iconst (v := 1) hx hb dX7_must_16 (by decide) ?_
      refine lv_aload_n hx hb dX7_must_17 rfl (lv_at hl 0 rfl) ?_
      refine va_get (D := (dC, dI)) (ci := 7) (v := .int x_4906) (C := RX7) (T := TX7) (N := 48) hx hb hts inX7 hown hK hP 0 rfl rfl 4 (by decide) (hts _ wd_384) (fun _ h9 => h9) rfl dX7_must_18 ?_
      have hMs := ml_of hD [true, false, false] (wc := [(oc7 oM iM_thrown rM_tape iM_taped iM_size x_4906 x_4907 x_4908 x_4909 x_4910 iM_fault iM_place iM_trouble rM_letters iM_failed iM_hasCourt rM_r rM_fresh rM_told rM_read rM_st rM_undone rM_kept iM_undos iM_images rM_fresher iM_fresherSize iM_scale iM_night rM_heardRow rM_cutRow iM_breaths iM_cutMany iM_allBreaths rM_trial rM_words iM_fewestBreaths iM_orderMany iM_orderSum iM_leastOrder rM_often iM_setMany iM_someOf iM_allOf iM_allWeight iM_enoughWeight iM_worthSum iM_firstRest iM_leastDrawn)]) rfl
      have hFc := va_freeM hD hS hA _ hMs
      refine va_callv (va_runV (As := [.int 1, .int x_4906]) (rest := []) ⟨hx, hb, hml, hown, hts⟩ (tX7_wrong l dC dI _ oM iM_thrown rM_tape iM_taped iM_size x_4906 x_4907 x_4908 x_4909 x_4910 iM_fault iM_place iM_trouble rM_letters iM_failed iM_hasCourt rM_r rM_fresh rM_told rM_read rM_st rM_undone rM_kept iM_undos iM_images rM_fresher iM_fresherSize iM_scale iM_night rM_heardRow rM_cutRow iM_breaths iM_cutMany iM_allBreaths rM_trial rM_words iM_fewestBreaths iM_orderMany iM_orderSum iM_leastOrder rM_often iM_setMany iM_someOf iM_allOf iM_allWeight iM_enoughWeight iM_worthSum iM_firstRest iM_leastDrawn 1 x_4906 b_iM_taped b_iM_size b_x_4907 b_x_4910 b_iM_failed b_iM_hasCourt b_iM_undos b_iM_images b_iM_scale b_iM_breaths b_iM_cutMany e_x_4906_1) (cwV 2 hts (wd_V wd_430 wd_431 wd_432 wd_5 (wd_c wd_433)) rfl rfl rfl dv_yX7_wrong_2 ⟨Nat.le_of_ble_eq_true rfl, Nat.le_of_ble_eq_true rfl⟩) ⟨Pw.fb, recvX7 hK hP (q0 := 0) rfl, fun U hU hW => Pw.to (hP.ms _ hMs) (hD.ms _ hMs) (hK.ms [false, false] rfl) hE hS hFc hU hW⟩ rfl rfl hl.1 rfl (lv_room (Nat.le_of_ble_eq_true rfl)) dX7_must_21 ⟨Nat.le_of_ble_eq_true rfl, Nat.le_of_ble_eq_true rfl⟩) hS (fun q _ h => hFc q h) hFc (fun u t H locs ht hvm hw hB hz1 hk1 hS => ?_)
      refine ex_3_3 hB (fun x_4914 x_4915 x_4916 b_x_4916 e_x_4914_0 e_x_4914_1 hB => ?_)
      obtain ⟨hP, hD⟩ := Bw.goN (ws' := [(oc7 oM iM_thrown rM_tape iM_taped iM_size x_4906 x_4907 x_4908 x_4909 x_4910 x_4914 x_4915 iM_trouble rM_letters x_4916 iM_hasCourt rM_r rM_fresh rM_told rM_read rM_st rM_undone rM_kept iM_undos iM_images rM_fresher iM_fresherSize iM_scale iM_night rM_heardRow rM_cutRow iM_breaths iM_cutMany iM_allBreaths rM_trial rM_words iM_fewestBreaths iM_orderMany iM_orderSum iM_leastOrder rM_often iM_setMany iM_someOf iM_allOf iM_allWeight iM_enoughWeight iM_worthSum iM_firstRest iM_leastDrawn), (arI rM_tape kM_tape 900 fM_tape), (arI rM_letters kM_letters 8 f_4911)]) hB rfl ht hP hD _ hMs hk1 hFc rfl
      clear hz1 hk1 hvm ht hB hMs
      have hG := hG.trans (un3_eq e_x_4914_1)
      exact wq_v hx hb hr 0 trivial (fun t ht hW => ⟨x_4906, x_4907, x_4908, x_4909, x_4910, x_4914, x_4915, x_4916, f_4911, b_x_4907, b_x_4910, b_x_4916, e_x_4906_0, e_x_4906_1, (om_1fc3dec6 gc_4905 b_x_4916.1), (fun h9 => False.elim (om_92495247 e_x_4914_0 h9.1)), hG, Bw.to hP hD hK ht hW⟩) hS dX7_must_24 hlocks
set_option maxHeartbeats 4000000 in
set_option maxRecDepth 100000 in
theorem tX7_mustName (l : Launch) (dC : Nat → ClassId) (dI : Nat → Nat → Nat) (sz : Nat) (oM : Nat) (iM_thrown : Int32) (rM_tape : Nat) (iM_taped : Int32) (iM_size : Int32) (iM_at : Int32) (iM_end : Int32) (iM_token : Int32) (iM_whole : Int32) (iM_nameSize : Int32) (iM_fault : Int32) (iM_place : Int32) (iM_trouble : Int32) (rM_letters : Nat) (fM_letters : Nat → Int32) (kM_letters : ClassId) (iM_failed : Int32) (iM_hasCourt : Int32) (rM_r : Nat) (rM_fresh : Nat) (rM_told : Nat) (rM_read : Nat) (rM_st : Nat) (rM_undone : Nat) (rM_kept : Nat) (iM_undos : Int32) (iM_images : Int32) (rM_fresher : Nat) (iM_fresherSize : Int32) (iM_scale : Int32) (iM_night : Int32) (rM_heardRow : Nat) (rM_cutRow : Nat) (iM_breaths : Int32) (iM_cutMany : Int32) (iM_allBreaths : Int32) (rM_trial : Nat) (rM_words : Nat) (iM_fewestBreaths : Int32) (iM_orderMany : Int32) (iM_orderSum : Int32) (iM_leastOrder : Int32) (rM_often : Nat) (iM_setMany : Int32) (iM_someOf : Int32) (iM_allOf : Int32) (iM_allWeight : Int64) (iM_enoughWeight : Int64) (iM_worthSum : Int64) (iM_firstRest : Int32) (iM_leastDrawn : Int32) (b_iM_taped : 0 ≤ iM_taped.toInt ∧ iM_taped.toInt ≤ 900) (b_iM_size : 0 ≤ iM_size.toInt ∧ iM_size.toInt ≤ 900) (b_iM_end : 0 ≤ iM_end.toInt ∧ iM_end.toInt ≤ 900) (b_iM_nameSize : 0 ≤ iM_nameSize.toInt ∧ iM_nameSize.toInt ≤ 900) (b_iM_failed : 0 ≤ iM_failed.toInt ∧ iM_failed.toInt ≤ 1) (b_iM_hasCourt : 0 ≤ iM_hasCourt.toInt ∧ iM_hasCourt.toInt ≤ 1) (b_iM_undos : 0 ≤ iM_undos.toInt ∧ iM_undos.toInt ≤ 16) (b_iM_images : 0 ≤ iM_images.toInt ∧ iM_images.toInt ≤ 3) (b_iM_scale : 1 ≤ iM_scale.toInt ∧ iM_scale.toInt ≤ 1296) (b_iM_breaths : 0 ≤ iM_breaths.toInt ∧ iM_breaths.toInt ≤ 399) (b_iM_cutMany : 0 ≤ iM_cutMany.toInt ∧ iM_cutMany.toInt ≤ 399) (r_T : ImpP (iM_token.toInt = 2) (iM_nameSize.toInt ≤ 8))  : Met l yX7_mustName (Cond.code yX7_mustName cX7_mustName 1 none :: wG) ({ frames := 5, cells := 0, slots := 0, locals := 134 }) (va_Pc [.ref oM] (Pw dC dI sz [(oc7 oM iM_thrown rM_tape iM_taped iM_size iM_at iM_end iM_token iM_whole iM_nameSize iM_fault iM_place iM_trouble rM_letters iM_failed iM_hasCourt rM_r rM_fresh rM_told rM_read rM_st rM_undone rM_kept iM_undos iM_images rM_fresher iM_fresherSize iM_scale iM_night rM_heardRow rM_cutRow iM_breaths iM_cutMany iM_allBreaths rM_trial rM_words iM_fewestBreaths iM_orderMany iM_orderSum iM_leastOrder rM_often iM_setMany iM_someOf iM_allOf iM_allWeight iM_enoughWeight iM_worthSum iM_firstRest iM_leastDrawn), (arI rM_letters kM_letters 8 fM_letters)] [(kM_letters, .int)])) (va_Qv (fun (_ : Nat) => True) (fun (_ : Nat) (t : State) => ∃ (niM_fault : Int32) (niM_place : Int32) (niM_failed : Int32), (0 ≤ niM_failed.toInt ∧ niM_failed.toInt ≤ 1) ∧ (iM_failed.toInt ≤ niM_failed.toInt) ∧ (ImpP (niM_failed.toInt ≤ 0) (iM_token.toInt = 2)) ∧ (PX7_mustName iM_at iM_token iM_nameSize iM_fault iM_place fM_letters iM_failed = (niM_fault, niM_place, niM_failed)) ∧ Bw dC dI (va_A [(oc7 oM iM_thrown rM_tape iM_taped iM_size iM_at iM_end iM_token iM_whole iM_nameSize iM_fault iM_place iM_trouble rM_letters iM_failed iM_hasCourt rM_r rM_fresh rM_told rM_read rM_st rM_undone rM_kept iM_undos iM_images rM_fresher iM_fresherSize iM_scale iM_night rM_heardRow rM_cutRow iM_breaths iM_cutMany iM_allBreaths rM_trial rM_words iM_fewestBreaths iM_orderMany iM_orderSum iM_leastOrder rM_often iM_setMany iM_someOf iM_allOf iM_allWeight iM_enoughWeight iM_worthSum iM_firstRest iM_leastDrawn), (arI rM_letters kM_letters 8 fM_letters)] sz) [(oc7 oM iM_thrown rM_tape iM_taped iM_size iM_at iM_end iM_token iM_whole iM_nameSize niM_fault niM_place iM_trouble rM_letters niM_failed iM_hasCourt rM_r rM_fresh rM_told rM_read rM_st rM_undone rM_kept iM_undos iM_images rM_fresher iM_fresherSize iM_scale iM_night rM_heardRow rM_cutRow iM_breaths iM_cutMany iM_allBreaths rM_trial rM_words iM_fewestBreaths iM_orderMany iM_orderSum iM_leastOrder rM_often iM_setMany iM_someOf iM_allOf iM_allWeight iM_enoughWeight iM_worthSum iM_firstRest iM_leastDrawn), (arI rM_letters kM_letters 8 fM_letters)] [(kM_letters, .int)] t) (va_A [(oc7 oM iM_thrown rM_tape iM_taped iM_size iM_at iM_end iM_token iM_whole iM_nameSize iM_fault iM_place iM_trouble rM_letters iM_failed iM_hasCourt rM_r rM_fresh rM_told rM_read rM_st rM_undone rM_kept iM_undos iM_images rM_fresher iM_fresherSize iM_scale iM_night rM_heardRow rM_cutRow iM_breaths iM_cutMany iM_allBreaths rM_trial rM_words iM_fewestBreaths iM_orderMany iM_orderSum iM_leastOrder rM_often iM_setMany iM_someOf iM_allOf iM_allWeight iM_enoughWeight iM_worthSum iM_firstRest iM_leastDrawn), (arI rM_letters kM_letters 8 fM_letters)] sz)) 0 0 (va_A [(oc7 oM iM_thrown rM_tape iM_taped iM_size iM_at iM_end iM_token iM_whole iM_nameSize iM_fault iM_place iM_trouble rM_letters iM_failed iM_hasCourt rM_r rM_fresh rM_told rM_read rM_st rM_undone rM_kept iM_undos iM_images rM_fresher iM_fresherSize iM_scale iM_night rM_heardRow rM_cutRow iM_breaths iM_cutMany iM_allBreaths rM_trial rM_words iM_fewestBreaths iM_orderMany iM_orderSum iM_leastOrder rM_often iM_setMany iM_someOf iM_allOf iM_allWeight iM_enoughWeight iM_worthSum iM_firstRest iM_leastDrawn), (arI rM_letters kM_letters 8 fM_letters)] sz) := by
  refine Met.ofW (cc := cX7_mustName) (maxL := 1) (ret := none) pnX7 rfl ?_
  intro p e s m args below meth c s₁ B hml hv
  obtain ⟨rfl, hsz, hP, hK, hD0, hE⟩ := hv
  have hx := B.exec
  have hb := B.bytes
  have hr := B.returns
  have hts : ∀ w ∈ wG, w.before ([.ref oM] : List Value).toArray s = true := fun w h => atoms_spec (ws := Cond.code yX7_mustName cX7_mustName 1 none :: wG) B.pre w (List.mem_cons_of_mem _ h)
  have hown : s.vm.findClass RX7 = some m.cls := own_of B.named rfl
  have hlocks := B.notSynchronized
  subst hsz
  have hD := hD0.self (sz := s.heap.size)
  generalize hAe : va_A [(oc7 oM iM_thrown rM_tape iM_taped iM_size iM_at iM_end iM_token iM_whole iM_nameSize iM_fault iM_place iM_trouble rM_letters iM_failed iM_hasCourt rM_r rM_fresh rM_told rM_read rM_st rM_undone rM_kept iM_undos iM_images rM_fresher iM_fresherSize iM_scale iM_night rM_heardRow rM_cutRow iM_breaths iM_cutMany iM_allBreaths rM_trial rM_words iM_fewestBreaths iM_orderMany iM_orderSum iM_leastOrder rM_often iM_setMany iM_someOf iM_allOf iM_allWeight iM_enoughWeight iM_worthSum iM_firstRest iM_leastDrawn), (arI rM_letters kM_letters 8 fM_letters)] s.heap.size = A at hD hE ⊢
  have hA : ∀ q : Nat, s.heap.size ≤ q → A q := fun q h => by rw [← hAe]; exact Or.inr h
  have hS : va_S A s.heap s.heap [] := va_S.rf
  have hl := lv_entry ([.ref oM]) (n := 1) (Nat.le_of_ble_eq_true rfl)
  rw [lg_entry_eq]
  generalize (lg_sl ([.ref oM]) ++ List.replicate (1 - (lg_sl ([.ref oM])).length) Slot.unset).toArray = ls at hl ⊢
  have hl : lv_has ls 1 [(0, .ref oM)] := hl
  have hG := PX7_mustName_eq iM_at iM_token iM_nameSize iM_fault iM_place fM_letters iM_failed
  refine lv_aload_n hx hb dX7_mustName_0 rfl (lv_at hl 0 rfl) ?_
  refine va_get (D := (dC, dI)) (ci := 7) (v := .int iM_token) (C := RX7) (T := TX7) (N := 48) hx hb hts inX7 hown hK hP 0 rfl rfl 6 (by decide) (hts _ wd_383) (fun _ h9 => h9) rfl dX7_mustName_1 ?_
  refine lv_iconst (v := 2) hx hb dX7_mustName_4 (by decide) ?_
  refine lv_icmp_ne (tgt := 80) hx hb dX7_mustName_5 (by decide) (fun c_4978 => ?_) (fun c_4978 => ?_)
  · skip
    have hG := hG.trans (if_neg c_4978)
    have gc_4978 := ti_ne c_4978 rfl kc_2
    refine lv_aload_n hx hb dX7_mustName_80 rfl (lv_at hl 0 rfl) ?_
    refine lv_iconst (v := 1) hx hb dX7_mustName_81 (by decide) ?_
    refine lv_aload_n hx hb dX7_mustName_82 rfl (lv_at hl 0 rfl) ?_
    refine va_get (D := (dC, dI)) (ci := 7) (v := .int iM_at) (C := RX7) (T := TX7) (N := 48) hx hb hts inX7 hown hK hP 0 rfl rfl 4 (by decide) (hts _ wd_384) (fun _ h9 => h9) rfl dX7_mustName_83 ?_
    have hMs := ml_of hD [true, false] (wc := [(oc7 oM iM_thrown rM_tape iM_taped iM_size iM_at iM_end iM_token iM_whole iM_nameSize iM_fault iM_place iM_trouble rM_letters iM_failed iM_hasCourt rM_r rM_fresh rM_told rM_read rM_st rM_undone rM_kept iM_undos iM_images rM_fresher iM_fresherSize iM_scale iM_night rM_heardRow rM_cutRow iM_breaths iM_cutMany iM_allBreaths rM_trial rM_words iM_fewestBreaths iM_orderMany iM_orderSum iM_leastOrder rM_often iM_setMany iM_someOf iM_allOf iM_allWeight iM_enoughWeight iM_worthSum iM_firstRest iM_leastDrawn)]) rfl
    have hFc := va_freeM hD hS hA _ hMs
    refine va_callv (va_runV (As := [.int 1, .int iM_at]) (rest := []) ⟨hx, hb, hml, hown, hts⟩ (tX7_wrong l dC dI _ oM iM_thrown rM_tape iM_taped iM_size iM_at iM_end iM_token iM_whole iM_nameSize iM_fault iM_place iM_trouble rM_letters iM_failed iM_hasCourt rM_r rM_fresh rM_told rM_read rM_st rM_undone rM_kept iM_undos iM_images rM_fresher iM_fresherSize iM_scale iM_night rM_heardRow rM_cutRow iM_breaths iM_cutMany iM_allBreaths rM_trial rM_words iM_fewestBreaths iM_orderMany iM_orderSum iM_leastOrder rM_often iM_setMany iM_someOf iM_allOf iM_allWeight iM_enoughWeight iM_worthSum iM_firstRest iM_leastDrawn 1 iM_at b_iM_taped b_iM_size b_iM_end b_iM_nameSize b_iM_failed b_iM_hasCourt b_iM_undos b_iM_images b_iM_scale b_iM_breaths b_iM_cutMany r_T) (cwV 2 hts (wd_V wd_430 wd_431 wd_432 wd_5 (wd_c wd_433)) rfl rfl rfl dv_yX7_wrong_2 ⟨Nat.le_of_ble_eq_true rfl, Nat.le_of_ble_eq_true rfl⟩) ⟨Pw.fb, recvX7 hK hP (q0 := 0) rfl, fun U hU hW => Pw.to (hP.ms _ hMs) (hD.ms _ hMs) (hK.ms [false] rfl) hE hS hFc hU hW⟩ rfl rfl hl.1 rfl (lv_room (Nat.le_of_ble_eq_true rfl)) dX7_mustName_86 ⟨Nat.le_of_ble_eq_true rfl, Nat.le_of_ble_eq_true rfl⟩) hS (fun q _ h => hFc q h) hFc (fun u t H locs ht hvm hw hB hz1 hk1 hS => ?_)
    refine ex_3_3 hB (fun x_4979 x_4980 x_4981 b_x_4981 e_x_4979_0 e_x_4979_1 hB => ?_)
    obtain ⟨hP, hD⟩ := Bw.goN (ws' := [(oc7 oM iM_thrown rM_tape iM_taped iM_size iM_at iM_end iM_token iM_whole iM_nameSize x_4979 x_4980 iM_trouble rM_letters x_4981 iM_hasCourt rM_r rM_fresh rM_told rM_read rM_st rM_undone rM_kept iM_undos iM_images rM_fresher iM_fresherSize iM_scale iM_night rM_heardRow rM_cutRow iM_breaths iM_cutMany iM_allBreaths rM_trial rM_words iM_fewestBreaths iM_orderMany iM_orderSum iM_leastOrder rM_often iM_setMany iM_someOf iM_allOf iM_allWeight iM_enoughWeight iM_worthSum iM_firstRest iM_leastDrawn), (arI rM_letters kM_letters 8 fM_letters)]) hB rfl ht hP hD _ hMs hk1 hFc rfl
    clear hz1 hk1 hvm ht hB hMs
    have hG := hG.trans (un3_eq e_x_4979_1)
    exact wq_v hx hb hr 0 trivial (fun t ht hW => ⟨x_4979, x_4980, x_4981, b_x_4981, (om_00f1c5dd b_iM_failed.2 e_x_4979_0), (fun h9 => False.elim (om_92495247 e_x_4979_0 h9)), hG, Bw.to hP hD hK ht hW⟩) hS dX7_mustName_89 hlocks
  · skip
    have hG := hG.trans (if_pos c_4978)
    have gc_4978 := ti_eq c_4978 rfl kc_2
    have h_4982 : iM_nameSize.toInt ≤ 8 := r_T gc_4978
    clear r_T
    refine lv_aload_n hx hb dX7_mustName_8 rfl (lv_at hl 0 rfl) ?_
    obtain ⟨sa_4983, vsa_4983, nsa_4983, fsa_4983, hnsa_4983, hnesa_4983, hfesa_4983, hRsa_4983, hSsa_4983⟩ := hE.2.2.1 (134, "court", [99, 111, 117, 114, 116]) (by decide)
    have hG := hG.trans (lt_eq hnesa_4983)
    have hG := hG.trans (lt_eq hfesa_4983)
    refine va_ldcS hx hb hown hRsa_4983 dX7_mustName_9 ?_
    have hFc := va_freeI hD hS hA
    refine va_calli (va_runV (As := [.ref sa_4983]) (rest := []) ⟨hx, hb, hml, hown, hts⟩ (tX7_isWord l dC dI _ oM iM_thrown rM_tape iM_taped iM_size iM_at iM_end iM_token iM_whole iM_nameSize iM_fault iM_place iM_trouble rM_letters fM_letters kM_letters iM_failed iM_hasCourt rM_r rM_fresh rM_told rM_read rM_st rM_undone rM_kept iM_undos iM_images rM_fresher iM_fresherSize iM_scale iM_night rM_heardRow rM_cutRow iM_breaths iM_cutMany iM_allBreaths rM_trial rM_words iM_fewestBreaths iM_orderMany iM_orderSum iM_leastOrder rM_often iM_setMany iM_someOf iM_allOf iM_allWeight iM_enoughWeight iM_worthSum iM_firstRest iM_leastDrawn sa_4983 vsa_4983 nsa_4983 fsa_4983 b_iM_taped b_iM_size b_iM_end b_iM_nameSize b_iM_failed b_iM_hasCourt b_iM_undos b_iM_images b_iM_scale b_iM_breaths b_iM_cutMany (fun h9 => h_4982) (Nat.le_trans (Nat.le_of_eq hnesa_4983) (by decide))) (cwV 1 hts (wd_V wd_420 wd_421 wd_422 wd_5 (wd_c wd_423)) rfl rfl rfl dv_yX7_isWord_1 ⟨Nat.le_of_ble_eq_true rfl, Nat.le_of_ble_eq_true rfl⟩) ⟨Pq.fb, recvX7 hK hP (q0 := 0) rfl, fun U hU hW => Pq.to hP hD hK hSsa_4983 hE hS hFc hU hW⟩ rfl rfl hl.1 rfl (lv_room (Nat.le_of_ble_eq_true rfl)) dX7_mustName_11 ⟨Nat.le_of_ble_eq_true rfl, Nat.le_of_ble_eq_true rfl⟩) hS (fun q _ h => hFc q h) hFc (fun r u t H locs ht hvm hw hB hz1 hk1 hS => ?_)
    have hru9 := hw.2
    have hw := hw.1
    obtain ⟨hP, hD⟩ := Bw.goA (ws' := [(oc7 oM iM_thrown rM_tape iM_taped iM_size iM_at iM_end iM_token iM_whole iM_nameSize iM_fault iM_place iM_trouble rM_letters iM_failed iM_hasCourt rM_r rM_fresh rM_told rM_read rM_st rM_undone rM_kept iM_undos iM_images rM_fresher iM_fresherSize iM_scale iM_night rM_heardRow rM_cutRow iM_breaths iM_cutMany iM_allBreaths rM_trial rM_words iM_fewestBreaths iM_orderMany iM_orderSum iM_leastOrder rM_often iM_setMany iM_someOf iM_allOf iM_allWeight iM_enoughWeight iM_worthSum iM_firstRest iM_leastDrawn), (arI rM_letters kM_letters 8 fM_letters)]) hB rfl ht hFc rfl
    clear hz1 hk1 hvm ht hB
    obtain ⟨x_4984, rfl⟩ : ∃ z, z = r := ⟨_, rfl⟩
    have hG := hG.trans (lt_eq hru9.symm)
    have bx_4984 := hw.1
    have dx_4984 := bz_tb bx_4984
    have lx_4984 := hw.2
    refine lv_if_ne (tgt := 80) hx hb dX7_mustName_14 (by decide) (fun c_4985 => ?_) (fun c_4985 => ?_)
    · skip
      have hG := hG.trans (if_neg c_4985)
      have gc_4985 := ti_ne c_4985 rfl kc_0
      replace gc_4985 : (-1) * x_4984.toInt + 1 ≤ 0 := om_e3003f79 gc_4985 dx_4984.1
      have h_4986 : iM_token.toInt = 2 := lx_4984 (om_7907a7c1 dx_4984.2 gc_4985)
      clear lx_4984
      refine lv_aload_n hx hb dX7_mustName_80 rfl (lv_at hl 0 rfl) ?_
      refine lv_iconst (v := 1) hx hb dX7_mustName_81 (by decide) ?_
      refine lv_aload_n hx hb dX7_mustName_82 rfl (lv_at hl 0 rfl) ?_
      refine va_get (D := (dC, dI)) (ci := 7) (v := .int iM_at) (C := RX7) (T := TX7) (N := 48) hx hb hts inX7 hown hK hP 0 rfl rfl 4 (by decide) (hts _ wd_384) (fun _ h9 => h9) rfl dX7_mustName_83 ?_
      have hMs := ml_of hD [true, false] (wc := [(oc7 oM iM_thrown rM_tape iM_taped iM_size iM_at iM_end iM_token iM_whole iM_nameSize iM_fault iM_place iM_trouble rM_letters iM_failed iM_hasCourt rM_r rM_fresh rM_told rM_read rM_st rM_undone rM_kept iM_undos iM_images rM_fresher iM_fresherSize iM_scale iM_night rM_heardRow rM_cutRow iM_breaths iM_cutMany iM_allBreaths rM_trial rM_words iM_fewestBreaths iM_orderMany iM_orderSum iM_leastOrder rM_often iM_setMany iM_someOf iM_allOf iM_allWeight iM_enoughWeight iM_worthSum iM_firstRest iM_leastDrawn)]) rfl
      have hFc := va_freeM hD hS hA _ hMs
      refine va_callv (va_runV (As := [.int 1, .int iM_at]) (rest := []) ⟨hx, hb, hml, hown, hts⟩ (tX7_wrong l dC dI _ oM iM_thrown rM_tape iM_taped iM_size iM_at iM_end iM_token iM_whole iM_nameSize iM_fault iM_place iM_trouble rM_letters iM_failed iM_hasCourt rM_r rM_fresh rM_told rM_read rM_st rM_undone rM_kept iM_undos iM_images rM_fresher iM_fresherSize iM_scale iM_night rM_heardRow rM_cutRow iM_breaths iM_cutMany iM_allBreaths rM_trial rM_words iM_fewestBreaths iM_orderMany iM_orderSum iM_leastOrder rM_often iM_setMany iM_someOf iM_allOf iM_allWeight iM_enoughWeight iM_worthSum iM_firstRest iM_leastDrawn 1 iM_at b_iM_taped b_iM_size b_iM_end b_iM_nameSize b_iM_failed b_iM_hasCourt b_iM_undos b_iM_images b_iM_scale b_iM_breaths b_iM_cutMany (fun h9 => h_4982)) (cwV 2 hts (wd_V wd_430 wd_431 wd_432 wd_5 (wd_c wd_433)) rfl rfl rfl dv_yX7_wrong_2 ⟨Nat.le_of_ble_eq_true rfl, Nat.le_of_ble_eq_true rfl⟩) ⟨Pw.fb, recvX7 hK hP (q0 := 0) rfl, fun U hU hW => Pw.to (hP.ms _ hMs) (hD.ms _ hMs) (hK.ms [false] rfl) hE hS hFc hU hW⟩ rfl rfl hl.1 rfl (lv_room (Nat.le_of_ble_eq_true rfl)) dX7_mustName_86 ⟨Nat.le_of_ble_eq_true rfl, Nat.le_of_ble_eq_true rfl⟩) hS (fun q _ h => hFc q h) hFc (fun u t H locs ht hvm hw hB hz1 hk1 hS => ?_)
      refine ex_3_3 hB (fun x_4987 x_4988 x_4989 b_x_4989 e_x_4987_0 e_x_4987_1 hB => ?_)
      obtain ⟨hP, hD⟩ := Bw.goN (ws' := [(oc7 oM iM_thrown rM_tape iM_taped iM_size iM_at iM_end iM_token iM_whole iM_nameSize x_4987 x_4988 iM_trouble rM_letters x_4989 iM_hasCourt rM_r rM_fresh rM_told rM_read rM_st rM_undone rM_kept iM_undos iM_images rM_fresher iM_fresherSize iM_scale iM_night rM_heardRow rM_cutRow iM_breaths iM_cutMany iM_allBreaths rM_trial rM_words iM_fewestBreaths iM_orderMany iM_orderSum iM_leastOrder rM_often iM_setMany iM_someOf iM_allOf iM_allWeight iM_enoughWeight iM_worthSum iM_firstRest iM_leastDrawn), (arI rM_letters kM_letters 8 fM_letters)]) hB rfl ht hP hD _ hMs hk1 hFc rfl
      clear hz1 hk1 hvm ht hB hMs
      have hG := hG.trans (un3_eq e_x_4987_1)
      exact wq_v hx hb hr 0 trivial (fun t ht hW => ⟨x_4987, x_4988, x_4989, b_x_4989, (om_00f1c5dd b_iM_failed.2 e_x_4987_0), (fun h9 => gc_4978), hG, Bw.to hP hD hK ht hW⟩) hS dX7_mustName_89 hlocks
    · skip
      have hG := hG.trans (if_pos c_4985)
      have gc_4985 := ti_eq c_4985 rfl kc_0
      clear lx_4984
      refine lv_aload_n hx hb dX7_mustName_17 rfl (lv_at hl 0 rfl) ?_
      obtain ⟨sa_4990, vsa_4990, nsa_4990, fsa_4990, hnsa_4990, hnesa_4990, hfesa_4990, hRsa_4990, hSsa_4990⟩ := hE.2.2.1 (136, "word", [119, 111, 114, 100]) (by decide)
      have hG := hG.trans (lt_eq hnesa_4990)
      have hG := hG.trans (lt_eq hfesa_4990)
      refine va_ldcS hx hb hown hRsa_4990 dX7_mustName_18 ?_
      have hFc := va_freeI hD hS hA
      refine va_calli (va_runV (As := [.ref sa_4990]) (rest := []) ⟨hx, hb, hml, hown, hts⟩ (tX7_isWord l dC dI _ oM iM_thrown rM_tape iM_taped iM_size iM_at iM_end iM_token iM_whole iM_nameSize iM_fault iM_place iM_trouble rM_letters fM_letters kM_letters iM_failed iM_hasCourt rM_r rM_fresh rM_told rM_read rM_st rM_undone rM_kept iM_undos iM_images rM_fresher iM_fresherSize iM_scale iM_night rM_heardRow rM_cutRow iM_breaths iM_cutMany iM_allBreaths rM_trial rM_words iM_fewestBreaths iM_orderMany iM_orderSum iM_leastOrder rM_often iM_setMany iM_someOf iM_allOf iM_allWeight iM_enoughWeight iM_worthSum iM_firstRest iM_leastDrawn sa_4990 vsa_4990 nsa_4990 fsa_4990 b_iM_taped b_iM_size b_iM_end b_iM_nameSize b_iM_failed b_iM_hasCourt b_iM_undos b_iM_images b_iM_scale b_iM_breaths b_iM_cutMany (fun h9 => h_4982) (Nat.le_trans (Nat.le_of_eq hnesa_4990) (by decide))) (cwV 1 hts (wd_V wd_420 wd_421 wd_422 wd_5 (wd_c wd_423)) rfl rfl rfl dv_yX7_isWord_1 ⟨Nat.le_of_ble_eq_true rfl, Nat.le_of_ble_eq_true rfl⟩) ⟨Pq.fb, recvX7 hK hP (q0 := 0) rfl, fun U hU hW => Pq.to hP hD hK hSsa_4990 hE hS hFc hU hW⟩ rfl rfl hl.1 rfl (lv_room (Nat.le_of_ble_eq_true rfl)) dX7_mustName_20 ⟨Nat.le_of_ble_eq_true rfl, Nat.le_of_ble_eq_true rfl⟩) hS (fun q _ h => hFc q h) hFc (fun r u t H locs ht hvm hw hB hz1 hk1 hS => ?_)
      have hru9 := hw.2
      have hw := hw.1
      obtain ⟨hP, hD⟩ := Bw.goA (ws' := [(oc7 oM iM_thrown rM_tape iM_taped iM_size iM_at iM_end iM_token iM_whole iM_nameSize iM_fault iM_place iM_trouble rM_letters iM_failed iM_hasCourt rM_r rM_fresh rM_told rM_read rM_st rM_undone rM_kept iM_undos iM_images rM_fresher iM_fresherSize iM_scale iM_night rM_heardRow rM_cutRow iM_breaths iM_cutMany iM_allBreaths rM_trial rM_words iM_fewestBreaths iM_orderMany iM_orderSum iM_leastOrder rM_often iM_setMany iM_someOf iM_allOf iM_allWeight iM_enoughWeight iM_worthSum iM_firstRest iM_leastDrawn), (arI rM_letters kM_letters 8 fM_letters)]) hB rfl ht hFc rfl
      clear hz1 hk1 hvm ht hB
      obtain ⟨x_4991, rfl⟩ : ∃ z, z = r := ⟨_, rfl⟩
      have hG := hG.trans (lt_eq hru9.symm)
      have bx_4991 := hw.1
      have dx_4991 := bz_tb bx_4991
      have lx_4991 := hw.2
      refine lv_if_ne (tgt := 80) hx hb dX7_mustName_23 (by decide) (fun c_4992 => ?_) (fun c_4992 => ?_)
      · skip
        have hG := hG.trans (if_neg c_4992)
        have gc_4992 := ti_ne c_4992 rfl kc_0
        replace gc_4992 : (-1) * x_4991.toInt + 1 ≤ 0 := om_e3003f79 gc_4992 dx_4991.1
        have h_4993 : iM_token.toInt = 2 := lx_4991 (om_7907a7c1 dx_4991.2 gc_4992)
        clear lx_4991
        refine lv_aload_n hx hb dX7_mustName_80 rfl (lv_at hl 0 rfl) ?_
        refine lv_iconst (v := 1) hx hb dX7_mustName_81 (by decide) ?_
        refine lv_aload_n hx hb dX7_mustName_82 rfl (lv_at hl 0 rfl) ?_
        refine va_get (D := (dC, dI)) (ci := 7) (v := .int iM_at) (C := RX7) (T := TX7) (N := 48) hx hb hts inX7 hown hK hP 0 rfl rfl 4 (by decide) (hts _ wd_384) (fun _ h9 => h9) rfl dX7_mustName_83 ?_
        have hMs := ml_of hD [true, false] (wc := [(oc7 oM iM_thrown rM_tape iM_taped iM_size iM_at iM_end iM_token iM_whole iM_nameSize iM_fault iM_place iM_trouble rM_letters iM_failed iM_hasCourt rM_r rM_fresh rM_told rM_read rM_st rM_undone rM_kept iM_undos iM_images rM_fresher iM_fresherSize iM_scale iM_night rM_heardRow rM_cutRow iM_breaths iM_cutMany iM_allBreaths rM_trial rM_words iM_fewestBreaths iM_orderMany iM_orderSum iM_leastOrder rM_often iM_setMany iM_someOf iM_allOf iM_allWeight iM_enoughWeight iM_worthSum iM_firstRest iM_leastDrawn)]) rfl
        have hFc := va_freeM hD hS hA _ hMs
        refine va_callv (va_runV (As := [.int 1, .int iM_at]) (rest := []) ⟨hx, hb, hml, hown, hts⟩ (tX7_wrong l dC dI _ oM iM_thrown rM_tape iM_taped iM_size iM_at iM_end iM_token iM_whole iM_nameSize iM_fault iM_place iM_trouble rM_letters iM_failed iM_hasCourt rM_r rM_fresh rM_told rM_read rM_st rM_undone rM_kept iM_undos iM_images rM_fresher iM_fresherSize iM_scale iM_night rM_heardRow rM_cutRow iM_breaths iM_cutMany iM_allBreaths rM_trial rM_words iM_fewestBreaths iM_orderMany iM_orderSum iM_leastOrder rM_often iM_setMany iM_someOf iM_allOf iM_allWeight iM_enoughWeight iM_worthSum iM_firstRest iM_leastDrawn 1 iM_at b_iM_taped b_iM_size b_iM_end b_iM_nameSize b_iM_failed b_iM_hasCourt b_iM_undos b_iM_images b_iM_scale b_iM_breaths b_iM_cutMany (fun h9 => h_4982)) (cwV 2 hts (wd_V wd_430 wd_431 wd_432 wd_5 (wd_c wd_433)) rfl rfl rfl dv_yX7_wrong_2 ⟨Nat.le_of_ble_eq_true rfl, Nat.le_of_ble_eq_true rfl⟩) ⟨Pw.fb, recvX7 hK hP (q0 := 0) rfl, fun U hU hW => Pw.to (hP.ms _ hMs) (hD.ms _ hMs) (hK.ms [false] rfl) hE hS hFc hU hW⟩ rfl rfl hl.1 rfl (lv_room (Nat.le_of_ble_eq_true rfl)) dX7_mustName_86 ⟨Nat.le_of_ble_eq_true rfl, Nat.le_of_ble_eq_true rfl⟩) hS (fun q _ h => hFc q h) hFc (fun u t H locs ht hvm hw hB hz1 hk1 hS => ?_)
        refine ex_3_3 hB (fun x_4994 x_4995 x_4996 b_x_4996 e_x_4994_0 e_x_4994_1 hB => ?_)
        obtain ⟨hP, hD⟩ := Bw.goN (ws' := [(oc7 oM iM_thrown rM_tape iM_taped iM_size iM_at iM_end iM_token iM_whole iM_nameSize x_4994 x_4995 iM_trouble rM_letters x_4996 iM_hasCourt rM_r rM_fresh rM_told rM_read rM_st rM_undone rM_kept iM_undos iM_images rM_fresher iM_fresherSize iM_scale iM_night rM_heardRow rM_cutRow iM_breaths iM_cutMany iM_allBreaths rM_trial rM_words iM_fewestBreaths iM_orderMany iM_orderSum iM_leastOrder rM_often iM_setMany iM_someOf iM_allOf iM_allWeight iM_enoughWeight iM_worthSum iM_firstRest iM_leastDrawn), (arI rM_letters kM_letters 8 fM_letters)]) hB rfl ht hP hD _ hMs hk1 hFc rfl
        clear hz1 hk1 hvm ht hB hMs
        have hG := hG.trans (un3_eq e_x_4994_1)
        exact wq_v hx hb hr 0 trivial (fun t ht hW => ⟨x_4994, x_4995, x_4996, b_x_4996, (om_00f1c5dd b_iM_failed.2 e_x_4994_0), (fun h9 => gc_4978), hG, Bw.to hP hD hK ht hW⟩) hS dX7_mustName_89 hlocks
      · skip
        have hG := hG.trans (if_pos c_4992)
        have gc_4992 := ti_eq c_4992 rfl kc_0
        clear lx_4991
        refine lv_aload_n hx hb dX7_mustName_26 rfl (lv_at hl 0 rfl) ?_
        obtain ⟨sa_4997, vsa_4997, nsa_4997, fsa_4997, hnsa_4997, hnesa_4997, hfesa_4997, hRsa_4997, hSsa_4997⟩ := hE.2.2.1 (138, "king", [107, 105, 110, 103]) (by decide)
        have hG := hG.trans (lt_eq hnesa_4997)
        have hG := hG.trans (lt_eq hfesa_4997)
        refine va_ldcS hx hb hown hRsa_4997 dX7_mustName_27 ?_
        have hFc := va_freeI hD hS hA
        refine va_calli (va_runV (As := [.ref sa_4997]) (rest := []) ⟨hx, hb, hml, hown, hts⟩ (tX7_isWord l dC dI _ oM iM_thrown rM_tape iM_taped iM_size iM_at iM_end iM_token iM_whole iM_nameSize iM_fault iM_place iM_trouble rM_letters fM_letters kM_letters iM_failed iM_hasCourt rM_r rM_fresh rM_told rM_read rM_st rM_undone rM_kept iM_undos iM_images rM_fresher iM_fresherSize iM_scale iM_night rM_heardRow rM_cutRow iM_breaths iM_cutMany iM_allBreaths rM_trial rM_words iM_fewestBreaths iM_orderMany iM_orderSum iM_leastOrder rM_often iM_setMany iM_someOf iM_allOf iM_allWeight iM_enoughWeight iM_worthSum iM_firstRest iM_leastDrawn sa_4997 vsa_4997 nsa_4997 fsa_4997 b_iM_taped b_iM_size b_iM_end b_iM_nameSize b_iM_failed b_iM_hasCourt b_iM_undos b_iM_images b_iM_scale b_iM_breaths b_iM_cutMany (fun h9 => h_4982) (Nat.le_trans (Nat.le_of_eq hnesa_4997) (by decide))) (cwV 1 hts (wd_V wd_420 wd_421 wd_422 wd_5 (wd_c wd_423)) rfl rfl rfl dv_yX7_isWord_1 ⟨Nat.le_of_ble_eq_true rfl, Nat.le_of_ble_eq_true rfl⟩) ⟨Pq.fb, recvX7 hK hP (q0 := 0) rfl, fun U hU hW => Pq.to hP hD hK hSsa_4997 hE hS hFc hU hW⟩ rfl rfl hl.1 rfl (lv_room (Nat.le_of_ble_eq_true rfl)) dX7_mustName_29 ⟨Nat.le_of_ble_eq_true rfl, Nat.le_of_ble_eq_true rfl⟩) hS (fun q _ h => hFc q h) hFc (fun r u t H locs ht hvm hw hB hz1 hk1 hS => ?_)
        have hru9 := hw.2
        have hw := hw.1
        obtain ⟨hP, hD⟩ := Bw.goA (ws' := [(oc7 oM iM_thrown rM_tape iM_taped iM_size iM_at iM_end iM_token iM_whole iM_nameSize iM_fault iM_place iM_trouble rM_letters iM_failed iM_hasCourt rM_r rM_fresh rM_told rM_read rM_st rM_undone rM_kept iM_undos iM_images rM_fresher iM_fresherSize iM_scale iM_night rM_heardRow rM_cutRow iM_breaths iM_cutMany iM_allBreaths rM_trial rM_words iM_fewestBreaths iM_orderMany iM_orderSum iM_leastOrder rM_often iM_setMany iM_someOf iM_allOf iM_allWeight iM_enoughWeight iM_worthSum iM_firstRest iM_leastDrawn), (arI rM_letters kM_letters 8 fM_letters)]) hB rfl ht hFc rfl
        clear hz1 hk1 hvm ht hB
        obtain ⟨x_4998, rfl⟩ : ∃ z, z = r := ⟨_, rfl⟩
        have hG := hG.trans (lt_eq hru9.symm)
        have bx_4998 := hw.1
        have dx_4998 := bz_tb bx_4998
        have lx_4998 := hw.2
        refine lv_if_ne (tgt := 80) hx hb dX7_mustName_32 (by decide) (fun c_4999 => ?_) (fun c_4999 => ?_)
        · skip
          have hG := hG.trans (if_neg c_4999)
          have gc_4999 := ti_ne c_4999 rfl kc_0
          replace gc_4999 : (-1) * x_4998.toInt + 1 ≤ 0 := om_e3003f79 gc_4999 dx_4998.1
          have h_5000 : iM_token.toInt = 2 := lx_4998 (om_7907a7c1 dx_4998.2 gc_4999)
          clear lx_4998
          refine lv_aload_n hx hb dX7_mustName_80 rfl (lv_at hl 0 rfl) ?_
          refine lv_iconst (v := 1) hx hb dX7_mustName_81 (by decide) ?_
          refine lv_aload_n hx hb dX7_mustName_82 rfl (lv_at hl 0 rfl) ?_
          refine va_get (D := (dC, dI)) (ci := 7) (v := .int iM_at) (C := RX7) (T := TX7) (N := 48) hx hb hts inX7 hown hK hP 0 rfl rfl 4 (by decide) (hts _ wd_384) (fun _ h9 => h9) rfl dX7_mustName_83 ?_
          have hMs := ml_of hD [true, false] (wc := [(oc7 oM iM_thrown rM_tape iM_taped iM_size iM_at iM_end iM_token iM_whole iM_nameSize iM_fault iM_place iM_trouble rM_letters iM_failed iM_hasCourt rM_r rM_fresh rM_told rM_read rM_st rM_undone rM_kept iM_undos iM_images rM_fresher iM_fresherSize iM_scale iM_night rM_heardRow rM_cutRow iM_breaths iM_cutMany iM_allBreaths rM_trial rM_words iM_fewestBreaths iM_orderMany iM_orderSum iM_leastOrder rM_often iM_setMany iM_someOf iM_allOf iM_allWeight iM_enoughWeight iM_worthSum iM_firstRest iM_leastDrawn)]) rfl
          have hFc := va_freeM hD hS hA _ hMs
          refine va_callv (va_runV (As := [.int 1, .int iM_at]) (rest := []) ⟨hx, hb, hml, hown, hts⟩ (tX7_wrong l dC dI _ oM iM_thrown rM_tape iM_taped iM_size iM_at iM_end iM_token iM_whole iM_nameSize iM_fault iM_place iM_trouble rM_letters iM_failed iM_hasCourt rM_r rM_fresh rM_told rM_read rM_st rM_undone rM_kept iM_undos iM_images rM_fresher iM_fresherSize iM_scale iM_night rM_heardRow rM_cutRow iM_breaths iM_cutMany iM_allBreaths rM_trial rM_words iM_fewestBreaths iM_orderMany iM_orderSum iM_leastOrder rM_often iM_setMany iM_someOf iM_allOf iM_allWeight iM_enoughWeight iM_worthSum iM_firstRest iM_leastDrawn 1 iM_at b_iM_taped b_iM_size b_iM_end b_iM_nameSize b_iM_failed b_iM_hasCourt b_iM_undos b_iM_images b_iM_scale b_iM_breaths b_iM_cutMany (fun h9 => h_4982)) (cwV 2 hts (wd_V wd_430 wd_431 wd_432 wd_5 (wd_c wd_433)) rfl rfl rfl dv_yX7_wrong_2 ⟨Nat.le_of_ble_eq_true rfl, Nat.le_of_ble_eq_true rfl⟩) ⟨Pw.fb, recvX7 hK hP (q0 := 0) rfl, fun U hU hW => Pw.to (hP.ms _ hMs) (hD.ms _ hMs) (hK.ms [false] rfl) hE hS hFc hU hW⟩ rfl rfl hl.1 rfl (lv_room (Nat.le_of_ble_eq_true rfl)) dX7_mustName_86 ⟨Nat.le_of_ble_eq_true rfl, Nat.le_of_ble_eq_true rfl⟩) hS (fun q _ h => hFc q h) hFc (fun u t H locs ht hvm hw hB hz1 hk1 hS => ?_)
          refine ex_3_3 hB (fun x_5001 x_5002 x_5003 b_x_5003 e_x_5001_0 e_x_5001_1 hB => ?_)
          obtain ⟨hP, hD⟩ := Bw.goN (ws' := [(oc7 oM iM_thrown rM_tape iM_taped iM_size iM_at iM_end iM_token iM_whole iM_nameSize x_5001 x_5002 iM_trouble rM_letters x_5003 iM_hasCourt rM_r rM_fresh rM_told rM_read rM_st rM_undone rM_kept iM_undos iM_images rM_fresher iM_fresherSize iM_scale iM_night rM_heardRow rM_cutRow iM_breaths iM_cutMany iM_allBreaths rM_trial rM_words iM_fewestBreaths iM_orderMany iM_orderSum iM_leastOrder rM_often iM_setMany iM_someOf iM_allOf iM_allWeight iM_enoughWeight iM_worthSum iM_firstRest iM_leastDrawn), (arI rM_letters kM_letters 8 fM_letters)]) hB rfl ht hP hD _ hMs hk1 hFc rfl
          clear hz1 hk1 hvm ht hB hMs
          have hG := hG.trans (un3_eq e_x_5001_1)
          exact wq_v hx hb hr 0 trivial (fun t ht hW => ⟨x_5001, x_5002, x_5003, b_x_5003, (om_00f1c5dd b_iM_failed.2 e_x_5001_0), (fun h9 => gc_4978), hG, Bw.to hP hD hK ht hW⟩) hS dX7_mustName_89 hlocks
        · skip
          have hG := hG.trans (if_pos c_4999)
          have gc_4999 := ti_eq c_4999 rfl kc_0
          clear lx_4998
          refine lv_aload_n hx hb dX7_mustName_35 rfl (lv_at hl 0 rfl) ?_
          obtain ⟨sa_5004, vsa_5004, nsa_5004, fsa_5004, hnsa_5004, hnesa_5004, hfesa_5004, hRsa_5004, hSsa_5004⟩ := hE.2.2.1 (140, "queen", [113, 117, 101, 101, 110]) (by decide)
          have hG := hG.trans (lt_eq hnesa_5004)
          have hG := hG.trans (lt_eq hfesa_5004)
          refine va_ldcS hx hb hown hRsa_5004 dX7_mustName_36 ?_
          have hFc := va_freeI hD hS hA
          refine va_calli (va_runV (As := [.ref sa_5004]) (rest := []) ⟨hx, hb, hml, hown, hts⟩ (tX7_isWord l dC dI _ oM iM_thrown rM_tape iM_taped iM_size iM_at iM_end iM_token iM_whole iM_nameSize iM_fault iM_place iM_trouble rM_letters fM_letters kM_letters iM_failed iM_hasCourt rM_r rM_fresh rM_told rM_read rM_st rM_undone rM_kept iM_undos iM_images rM_fresher iM_fresherSize iM_scale iM_night rM_heardRow rM_cutRow iM_breaths iM_cutMany iM_allBreaths rM_trial rM_words iM_fewestBreaths iM_orderMany iM_orderSum iM_leastOrder rM_often iM_setMany iM_someOf iM_allOf iM_allWeight iM_enoughWeight iM_worthSum iM_firstRest iM_leastDrawn sa_5004 vsa_5004 nsa_5004 fsa_5004 b_iM_taped b_iM_size b_iM_end b_iM_nameSize b_iM_failed b_iM_hasCourt b_iM_undos b_iM_images b_iM_scale b_iM_breaths b_iM_cutMany (fun h9 => h_4982) (Nat.le_trans (Nat.le_of_eq hnesa_5004) (by decide))) (cwV 1 hts (wd_V wd_420 wd_421 wd_422 wd_5 (wd_c wd_423)) rfl rfl rfl dv_yX7_isWord_1 ⟨Nat.le_of_ble_eq_true rfl, Nat.le_of_ble_eq_true rfl⟩) ⟨Pq.fb, recvX7 hK hP (q0 := 0) rfl, fun U hU hW => Pq.to hP hD hK hSsa_5004 hE hS hFc hU hW⟩ rfl rfl hl.1 rfl (lv_room (Nat.le_of_ble_eq_true rfl)) dX7_mustName_38 ⟨Nat.le_of_ble_eq_true rfl, Nat.le_of_ble_eq_true rfl⟩) hS (fun q _ h => hFc q h) hFc (fun r u t H locs ht hvm hw hB hz1 hk1 hS => ?_)
          have hru9 := hw.2
          have hw := hw.1
          obtain ⟨hP, hD⟩ := Bw.goA (ws' := [(oc7 oM iM_thrown rM_tape iM_taped iM_size iM_at iM_end iM_token iM_whole iM_nameSize iM_fault iM_place iM_trouble rM_letters iM_failed iM_hasCourt rM_r rM_fresh rM_told rM_read rM_st rM_undone rM_kept iM_undos iM_images rM_fresher iM_fresherSize iM_scale iM_night rM_heardRow rM_cutRow iM_breaths iM_cutMany iM_allBreaths rM_trial rM_words iM_fewestBreaths iM_orderMany iM_orderSum iM_leastOrder rM_often iM_setMany iM_someOf iM_allOf iM_allWeight iM_enoughWeight iM_worthSum iM_firstRest iM_leastDrawn), (arI rM_letters kM_letters 8 fM_letters)]) hB rfl ht hFc rfl
          clear hz1 hk1 hvm ht hB
          obtain ⟨x_5005, rfl⟩ : ∃ z, z = r := ⟨_, rfl⟩
          have hG := hG.trans (lt_eq hru9.symm)
          have bx_5005 := hw.1
          have dx_5005 := bz_tb bx_5005
          have lx_5005 := hw.2
          refine lv_if_ne (tgt := 80) hx hb dX7_mustName_41 (by decide) (fun c_5006 => ?_) (fun c_5006 => ?_)
          · skip
            have hG := hG.trans (if_neg c_5006)
            have gc_5006 := ti_ne c_5006 rfl kc_0
            replace gc_5006 : (-1) * x_5005.toInt + 1 ≤ 0 := om_e3003f79 gc_5006 dx_5005.1
            have h_5007 : iM_token.toInt = 2 := lx_5005 (om_7907a7c1 dx_5005.2 gc_5006)
            clear lx_5005
            refine lv_aload_n hx hb dX7_mustName_80 rfl (lv_at hl 0 rfl) ?_
            refine lv_iconst (v := 1) hx hb dX7_mustName_81 (by decide) ?_
            refine lv_aload_n hx hb dX7_mustName_82 rfl (lv_at hl 0 rfl) ?_
            refine va_get (D := (dC, dI)) (ci := 7) (v := .int iM_at) (C := RX7) (T := TX7) (N := 48) hx hb hts inX7 hown hK hP 0 rfl rfl 4 (by decide) (hts _ wd_384) (fun _ h9 => h9) rfl dX7_mustName_83 ?_
            have hMs := ml_of hD [true, false] (wc := [(oc7 oM iM_thrown rM_tape iM_taped iM_size iM_at iM_end iM_token iM_whole iM_nameSize iM_fault iM_place iM_trouble rM_letters iM_failed iM_hasCourt rM_r rM_fresh rM_told rM_read rM_st rM_undone rM_kept iM_undos iM_images rM_fresher iM_fresherSize iM_scale iM_night rM_heardRow rM_cutRow iM_breaths iM_cutMany iM_allBreaths rM_trial rM_words iM_fewestBreaths iM_orderMany iM_orderSum iM_leastOrder rM_often iM_setMany iM_someOf iM_allOf iM_allWeight iM_enoughWeight iM_worthSum iM_firstRest iM_leastDrawn)]) rfl
            have hFc := va_freeM hD hS hA _ hMs
            refine va_callv (va_runV (As := [.int 1, .int iM_at]) (rest := []) ⟨hx, hb, hml, hown, hts⟩ (tX7_wrong l dC dI _ oM iM_thrown rM_tape iM_taped iM_size iM_at iM_end iM_token iM_whole iM_nameSize iM_fault iM_place iM_trouble rM_letters iM_failed iM_hasCourt rM_r rM_fresh rM_told rM_read rM_st rM_undone rM_kept iM_undos iM_images rM_fresher iM_fresherSize iM_scale iM_night rM_heardRow rM_cutRow iM_breaths iM_cutMany iM_allBreaths rM_trial rM_words iM_fewestBreaths iM_orderMany iM_orderSum iM_leastOrder rM_often iM_setMany iM_someOf iM_allOf iM_allWeight iM_enoughWeight iM_worthSum iM_firstRest iM_leastDrawn 1 iM_at b_iM_taped b_iM_size b_iM_end b_iM_nameSize b_iM_failed b_iM_hasCourt b_iM_undos b_iM_images b_iM_scale b_iM_breaths b_iM_cutMany (fun h9 => h_4982)) (cwV 2 hts (wd_V wd_430 wd_431 wd_432 wd_5 (wd_c wd_433)) rfl rfl rfl dv_yX7_wrong_2 ⟨Nat.le_of_ble_eq_true rfl, Nat.le_of_ble_eq_true rfl⟩) ⟨Pw.fb, recvX7 hK hP (q0 := 0) rfl, fun U hU hW => Pw.to (hP.ms _ hMs) (hD.ms _ hMs) (hK.ms [false] rfl) hE hS hFc hU hW⟩ rfl rfl hl.1 rfl (lv_room (Nat.le_of_ble_eq_true rfl)) dX7_mustName_86 ⟨Nat.le_of_ble_eq_true rfl, Nat.le_of_ble_eq_true rfl⟩) hS (fun q _ h => hFc q h) hFc (fun u t H locs ht hvm hw hB hz1 hk1 hS => ?_)
            refine ex_3_3 hB (fun x_5008 x_5009 x_5010 b_x_5010 e_x_5008_0 e_x_5008_1 hB => ?_)
            obtain ⟨hP, hD⟩ := Bw.goN (ws' := [(oc7 oM iM_thrown rM_tape iM_taped iM_size iM_at iM_end iM_token iM_whole iM_nameSize x_5008 x_5009 iM_trouble rM_letters x_5010 iM_hasCourt rM_r rM_fresh rM_told rM_read rM_st rM_undone rM_kept iM_undos iM_images rM_fresher iM_fresherSize iM_scale iM_night rM_heardRow rM_cutRow iM_breaths iM_cutMany iM_allBreaths rM_trial rM_words iM_fewestBreaths iM_orderMany iM_orderSum iM_leastOrder rM_often iM_setMany iM_someOf iM_allOf iM_allWeight iM_enoughWeight iM_worthSum iM_firstRest iM_leastDrawn), (arI rM_letters kM_letters 8 fM_letters)]) hB rfl ht hP hD _ hMs hk1 hFc rfl
            clear hz1 hk1 hvm ht hB hMs
            have hG := hG.trans (un3_eq e_x_5008_1)
            exact wq_v hx hb hr 0 trivial (fun t ht hW => ⟨x_5008, x_5009, x_5010, b_x_5010, (om_00f1c5dd b_iM_failed.2 e_x_5008_0), (fun h9 => gc_4978), hG, Bw.to hP hD hK ht hW⟩) hS dX7_mustName_89 hlocks
          · skip
            have hG := hG.trans (if_pos c_5006)
            have gc_5006 := ti_eq c_5006 rfl kc_0
            clear lx_5005
            refine lv_aload_n hx hb dX7_mustName_44 rfl (lv_at hl 0 rfl) ?_
            obtain ⟨sa_5011, vsa_5011, nsa_5011, fsa_5011, hnsa_5011, hnesa_5011, hfesa_5011, hRsa_5011, hSsa_5011⟩ := hE.2.2.1 (142, "chance", [99, 104, 97, 110, 99, 101]) (by decide)
            have hG := hG.trans (lt_eq hnesa_5011)
            have hG := hG.trans (lt_eq hfesa_5011)
            refine va_ldcS hx hb hown hRsa_5011 dX7_mustName_45 ?_
            have hFc := va_freeI hD hS hA
            refine va_calli (va_runV (As := [.ref sa_5011]) (rest := []) ⟨hx, hb, hml, hown, hts⟩ (tX7_isWord l dC dI _ oM iM_thrown rM_tape iM_taped iM_size iM_at iM_end iM_token iM_whole iM_nameSize iM_fault iM_place iM_trouble rM_letters fM_letters kM_letters iM_failed iM_hasCourt rM_r rM_fresh rM_told rM_read rM_st rM_undone rM_kept iM_undos iM_images rM_fresher iM_fresherSize iM_scale iM_night rM_heardRow rM_cutRow iM_breaths iM_cutMany iM_allBreaths rM_trial rM_words iM_fewestBreaths iM_orderMany iM_orderSum iM_leastOrder rM_often iM_setMany iM_someOf iM_allOf iM_allWeight iM_enoughWeight iM_worthSum iM_firstRest iM_leastDrawn sa_5011 vsa_5011 nsa_5011 fsa_5011 b_iM_taped b_iM_size b_iM_end b_iM_nameSize b_iM_failed b_iM_hasCourt b_iM_undos b_iM_images b_iM_scale b_iM_breaths b_iM_cutMany (fun h9 => h_4982) (Nat.le_trans (Nat.le_of_eq hnesa_5011) (by decide))) (cwV 1 hts (wd_V wd_420 wd_421 wd_422 wd_5 (wd_c wd_423)) rfl rfl rfl dv_yX7_isWord_1 ⟨Nat.le_of_ble_eq_true rfl, Nat.le_of_ble_eq_true rfl⟩) ⟨Pq.fb, recvX7 hK hP (q0 := 0) rfl, fun U hU hW => Pq.to hP hD hK hSsa_5011 hE hS hFc hU hW⟩ rfl rfl hl.1 rfl (lv_room (Nat.le_of_ble_eq_true rfl)) dX7_mustName_47 ⟨Nat.le_of_ble_eq_true rfl, Nat.le_of_ble_eq_true rfl⟩) hS (fun q _ h => hFc q h) hFc (fun r u t H locs ht hvm hw hB hz1 hk1 hS => ?_)
            have hru9 := hw.2
            have hw := hw.1
            obtain ⟨hP, hD⟩ := Bw.goA (ws' := [(oc7 oM iM_thrown rM_tape iM_taped iM_size iM_at iM_end iM_token iM_whole iM_nameSize iM_fault iM_place iM_trouble rM_letters iM_failed iM_hasCourt rM_r rM_fresh rM_told rM_read rM_st rM_undone rM_kept iM_undos iM_images rM_fresher iM_fresherSize iM_scale iM_night rM_heardRow rM_cutRow iM_breaths iM_cutMany iM_allBreaths rM_trial rM_words iM_fewestBreaths iM_orderMany iM_orderSum iM_leastOrder rM_often iM_setMany iM_someOf iM_allOf iM_allWeight iM_enoughWeight iM_worthSum iM_firstRest iM_leastDrawn), (arI rM_letters kM_letters 8 fM_letters)]) hB rfl ht hFc rfl
            clear hz1 hk1 hvm ht hB
            obtain ⟨x_5012, rfl⟩ : ∃ z, z = r := ⟨_, rfl⟩
            have hG := hG.trans (lt_eq hru9.symm)
            have bx_5012 := hw.1
            have dx_5012 := bz_tb bx_5012
            have lx_5012 := hw.2
            refine lv_if_ne (tgt := 80) hx hb dX7_mustName_50 (by decide) (fun c_5013 => ?_) (fun c_5013 => ?_)
            · skip
              have hG := hG.trans (if_neg c_5013)
              have gc_5013 := ti_ne c_5013 rfl kc_0
              replace gc_5013 : (-1) * x_5012.toInt + 1 ≤ 0 := om_e3003f79 gc_5013 dx_5012.1
              have h_5014 : iM_token.toInt = 2 := lx_5012 (om_7907a7c1 dx_5012.2 gc_5013)
              clear lx_5012
              refine lv_aload_n hx hb dX7_mustName_80 rfl (lv_at hl 0 rfl) ?_
              refine lv_iconst (v := 1) hx hb dX7_mustName_81 (by decide) ?_
              refine lv_aload_n hx hb dX7_mustName_82 rfl (lv_at hl 0 rfl) ?_
              refine va_get (D := (dC, dI)) (ci := 7) (v := .int iM_at) (C := RX7) (T := TX7) (N := 48) hx hb hts inX7 hown hK hP 0 rfl rfl 4 (by decide) (hts _ wd_384) (fun _ h9 => h9) rfl dX7_mustName_83 ?_
              have hMs := ml_of hD [true, false] (wc := [(oc7 oM iM_thrown rM_tape iM_taped iM_size iM_at iM_end iM_token iM_whole iM_nameSize iM_fault iM_place iM_trouble rM_letters iM_failed iM_hasCourt rM_r rM_fresh rM_told rM_read rM_st rM_undone rM_kept iM_undos iM_images rM_fresher iM_fresherSize iM_scale iM_night rM_heardRow rM_cutRow iM_breaths iM_cutMany iM_allBreaths rM_trial rM_words iM_fewestBreaths iM_orderMany iM_orderSum iM_leastOrder rM_often iM_setMany iM_someOf iM_allOf iM_allWeight iM_enoughWeight iM_worthSum iM_firstRest iM_leastDrawn)]) rfl
              have hFc := va_freeM hD hS hA _ hMs
              refine va_callv (va_runV (As := [.int 1, .int iM_at]) (rest := []) ⟨hx, hb, hml, hown, hts⟩ (tX7_wrong l dC dI _ oM iM_thrown rM_tape iM_taped iM_size iM_at iM_end iM_token iM_whole iM_nameSize iM_fault iM_place iM_trouble rM_letters iM_failed iM_hasCourt rM_r rM_fresh rM_told rM_read rM_st rM_undone rM_kept iM_undos iM_images rM_fresher iM_fresherSize iM_scale iM_night rM_heardRow rM_cutRow iM_breaths iM_cutMany iM_allBreaths rM_trial rM_words iM_fewestBreaths iM_orderMany iM_orderSum iM_leastOrder rM_often iM_setMany iM_someOf iM_allOf iM_allWeight iM_enoughWeight iM_worthSum iM_firstRest iM_leastDrawn 1 iM_at b_iM_taped b_iM_size b_iM_end b_iM_nameSize b_iM_failed b_iM_hasCourt b_iM_undos b_iM_images b_iM_scale b_iM_breaths b_iM_cutMany (fun h9 => h_4982)) (cwV 2 hts (wd_V wd_430 wd_431 wd_432 wd_5 (wd_c wd_433)) rfl rfl rfl dv_yX7_wrong_2 ⟨Nat.le_of_ble_eq_true rfl, Nat.le_of_ble_eq_true rfl⟩) ⟨Pw.fb, recvX7 hK hP (q0 := 0) rfl, fun U hU hW => Pw.to (hP.ms _ hMs) (hD.ms _ hMs) (hK.ms [false] rfl) hE hS hFc hU hW⟩ rfl rfl hl.1 rfl (lv_room (Nat.le_of_ble_eq_true rfl)) dX7_mustName_86 ⟨Nat.le_of_ble_eq_true rfl, Nat.le_of_ble_eq_true rfl⟩) hS (fun q _ h => hFc q h) hFc (fun u t H locs ht hvm hw hB hz1 hk1 hS => ?_)
              refine ex_3_3 hB (fun x_5015 x_5016 x_5017 b_x_5017 e_x_5015_0 e_x_5015_1 hB => ?_)
              obtain ⟨hP, hD⟩ := Bw.goN (ws' := [(oc7 oM iM_thrown rM_tape iM_taped iM_size iM_at iM_end iM_token iM_whole iM_nameSize x_5015 x_5016 iM_trouble rM_letters x_5017 iM_hasCourt rM_r rM_fresh rM_told rM_read rM_st rM_undone rM_kept iM_undos iM_images rM_fresher iM_fresherSize iM_scale iM_night rM_heardRow rM_cutRow iM_breaths iM_cutMany iM_allBreaths rM_trial rM_words iM_fewestBreaths iM_orderMany iM_orderSum iM_leastOrder rM_often iM_setMany iM_someOf iM_allOf iM_allWeight iM_enoughWeight iM_worthSum iM_firstRest iM_leastDrawn), (arI rM_letters kM_letters 8 fM_letters)]) hB rfl ht hP hD _ hMs hk1 hFc rfl
              clear hz1 hk1 hvm ht hB hMs
              have hG := hG.trans (un3_eq e_x_5015_1)
              exact wq_v hx hb hr 0 trivial (fun t ht hW => ⟨x_5015, x_5016, x_5017, b_x_5017, (om_00f1c5dd b_iM_failed.2 e_x_5015_0), (fun h9 => gc_4978), hG, Bw.to hP hD hK ht hW⟩) hS dX7_mustName_89 hlocks
            · skip
              have hG := hG.trans (if_pos c_5013)
              have gc_5013 := ti_eq c_5013 rfl kc_0
              clear lx_5012
              refine lv_aload_n hx hb dX7_mustName_53 rfl (lv_at hl 0 rfl) ?_
              obtain ⟨sa_5018, vsa_5018, nsa_5018, fsa_5018, hnsa_5018, hnesa_5018, hfesa_5018, hRsa_5018, hSsa_5018⟩ := hE.2.2.1 (144, "throne", [116, 104, 114, 111, 110, 101]) (by decide)
              have hG := hG.trans (lt_eq hnesa_5018)
              have hG := hG.trans (lt_eq hfesa_5018)
              refine va_ldcS hx hb hown hRsa_5018 dX7_mustName_54 ?_
              have hFc := va_freeI hD hS hA
              refine va_calli (va_runV (As := [.ref sa_5018]) (rest := []) ⟨hx, hb, hml, hown, hts⟩ (tX7_isWord l dC dI _ oM iM_thrown rM_tape iM_taped iM_size iM_at iM_end iM_token iM_whole iM_nameSize iM_fault iM_place iM_trouble rM_letters fM_letters kM_letters iM_failed iM_hasCourt rM_r rM_fresh rM_told rM_read rM_st rM_undone rM_kept iM_undos iM_images rM_fresher iM_fresherSize iM_scale iM_night rM_heardRow rM_cutRow iM_breaths iM_cutMany iM_allBreaths rM_trial rM_words iM_fewestBreaths iM_orderMany iM_orderSum iM_leastOrder rM_often iM_setMany iM_someOf iM_allOf iM_allWeight iM_enoughWeight iM_worthSum iM_firstRest iM_leastDrawn sa_5018 vsa_5018 nsa_5018 fsa_5018 b_iM_taped b_iM_size b_iM_end b_iM_nameSize b_iM_failed b_iM_hasCourt b_iM_undos b_iM_images b_iM_scale b_iM_breaths b_iM_cutMany (fun h9 => h_4982) (Nat.le_trans (Nat.le_of_eq hnesa_5018) (by decide))) (cwV 1 hts (wd_V wd_420 wd_421 wd_422 wd_5 (wd_c wd_423)) rfl rfl rfl dv_yX7_isWord_1 ⟨Nat.le_of_ble_eq_true rfl, Nat.le_of_ble_eq_true rfl⟩) ⟨Pq.fb, recvX7 hK hP (q0 := 0) rfl, fun U hU hW => Pq.to hP hD hK hSsa_5018 hE hS hFc hU hW⟩ rfl rfl hl.1 rfl (lv_room (Nat.le_of_ble_eq_true rfl)) dX7_mustName_56 ⟨Nat.le_of_ble_eq_true rfl, Nat.le_of_ble_eq_true rfl⟩) hS (fun q _ h => hFc q h) hFc (fun r u t H locs ht hvm hw hB hz1 hk1 hS => ?_)
              have hru9 := hw.2
              have hw := hw.1
              obtain ⟨hP, hD⟩ := Bw.goA (ws' := [(oc7 oM iM_thrown rM_tape iM_taped iM_size iM_at iM_end iM_token iM_whole iM_nameSize iM_fault iM_place iM_trouble rM_letters iM_failed iM_hasCourt rM_r rM_fresh rM_told rM_read rM_st rM_undone rM_kept iM_undos iM_images rM_fresher iM_fresherSize iM_scale iM_night rM_heardRow rM_cutRow iM_breaths iM_cutMany iM_allBreaths rM_trial rM_words iM_fewestBreaths iM_orderMany iM_orderSum iM_leastOrder rM_often iM_setMany iM_someOf iM_allOf iM_allWeight iM_enoughWeight iM_worthSum iM_firstRest iM_leastDrawn), (arI rM_letters kM_letters 8 fM_letters)]) hB rfl ht hFc rfl
              clear hz1 hk1 hvm ht hB
              obtain ⟨x_5019, rfl⟩ : ∃ z, z = r := ⟨_, rfl⟩
              have hG := hG.trans (lt_eq hru9.symm)
              have bx_5019 := hw.1
              have dx_5019 := bz_tb bx_5019
              have lx_5019 := hw.2
              refine lv_if_ne (tgt := 80) hx hb dX7_mustName_59 (by decide) (fun c_5020 => ?_) (fun c_5020 => ?_)
              · skip
                have hG := hG.trans (if_neg c_5020)
                have gc_5020 := ti_ne c_5020 rfl kc_0
                replace gc_5020 : (-1) * x_5019.toInt + 1 ≤ 0 := om_e3003f79 gc_5020 dx_5019.1
                have h_5021 : iM_token.toInt = 2 := lx_5019 (om_7907a7c1 dx_5019.2 gc_5020)
                clear lx_5019
                refine lv_aload_n hx hb dX7_mustName_80 rfl (lv_at hl 0 rfl) ?_
                refine lv_iconst (v := 1) hx hb dX7_mustName_81 (by decide) ?_
                refine lv_aload_n hx hb dX7_mustName_82 rfl (lv_at hl 0 rfl) ?_
                refine va_get (D := (dC, dI)) (ci := 7) (v := .int iM_at) (C := RX7) (T := TX7) (N := 48) hx hb hts inX7 hown hK hP 0 rfl rfl 4 (by decide) (hts _ wd_384) (fun _ h9 => h9) rfl dX7_mustName_83 ?_
                have hMs := ml_of hD [true, false] (wc := [(oc7 oM iM_thrown rM_tape iM_taped iM_size iM_at iM_end iM_token iM_whole iM_nameSize iM_fault iM_place iM_trouble rM_letters iM_failed iM_hasCourt rM_r rM_fresh rM_told rM_read rM_st rM_undone rM_kept iM_undos iM_images rM_fresher iM_fresherSize iM_scale iM_night rM_heardRow rM_cutRow iM_breaths iM_cutMany iM_allBreaths rM_trial rM_words iM_fewestBreaths iM_orderMany iM_orderSum iM_leastOrder rM_often iM_setMany iM_someOf iM_allOf iM_allWeight iM_enoughWeight iM_worthSum iM_firstRest iM_leastDrawn)]) rfl
                have hFc := va_freeM hD hS hA _ hMs
                refine va_callv (va_runV (As := [.int 1, .int iM_at]) (rest := []) ⟨hx, hb, hml, hown, hts⟩ (tX7_wrong l dC dI _ oM iM_thrown rM_tape iM_taped iM_size iM_at iM_end iM_token iM_whole iM_nameSize iM_fault iM_place iM_trouble rM_letters iM_failed iM_hasCourt rM_r rM_fresh rM_told rM_read rM_st rM_undone rM_kept iM_undos iM_images rM_fresher iM_fresherSize iM_scale iM_night rM_heardRow rM_cutRow iM_breaths iM_cutMany iM_allBreaths rM_trial rM_words iM_fewestBreaths iM_orderMany iM_orderSum iM_leastOrder rM_often iM_setMany iM_someOf iM_allOf iM_allWeight iM_enoughWeight iM_worthSum iM_firstRest iM_leastDrawn 1 iM_at b_iM_taped b_iM_size b_iM_end b_iM_nameSize b_iM_failed b_iM_hasCourt b_iM_undos b_iM_images b_iM_scale b_iM_breaths b_iM_cutMany (fun h9 => h_4982)) (cwV 2 hts (wd_V wd_430 wd_431 wd_432 wd_5 (wd_c wd_433)) rfl rfl rfl dv_yX7_wrong_2 ⟨Nat.le_of_ble_eq_true rfl, Nat.le_of_ble_eq_true rfl⟩) ⟨Pw.fb, recvX7 hK hP (q0 := 0) rfl, fun U hU hW => Pw.to (hP.ms _ hMs) (hD.ms _ hMs) (hK.ms [false] rfl) hE hS hFc hU hW⟩ rfl rfl hl.1 rfl (lv_room (Nat.le_of_ble_eq_true rfl)) dX7_mustName_86 ⟨Nat.le_of_ble_eq_true rfl, Nat.le_of_ble_eq_true rfl⟩) hS (fun q _ h => hFc q h) hFc (fun u t H locs ht hvm hw hB hz1 hk1 hS => ?_)
                refine ex_3_3 hB (fun x_5022 x_5023 x_5024 b_x_5024 e_x_5022_0 e_x_5022_1 hB => ?_)
                obtain ⟨hP, hD⟩ := Bw.goN (ws' := [(oc7 oM iM_thrown rM_tape iM_taped iM_size iM_at iM_end iM_token iM_whole iM_nameSize x_5022 x_5023 iM_trouble rM_letters x_5024 iM_hasCourt rM_r rM_fresh rM_told rM_read rM_st rM_undone rM_kept iM_undos iM_images rM_fresher iM_fresherSize iM_scale iM_night rM_heardRow rM_cutRow iM_breaths iM_cutMany iM_allBreaths rM_trial rM_words iM_fewestBreaths iM_orderMany iM_orderSum iM_leastOrder rM_often iM_setMany iM_someOf iM_allOf iM_allWeight iM_enoughWeight iM_worthSum iM_firstRest iM_leastDrawn), (arI rM_letters kM_letters 8 fM_letters)]) hB rfl ht hP hD _ hMs hk1 hFc rfl
                clear hz1 hk1 hvm ht hB hMs
                have hG := hG.trans (un3_eq e_x_5022_1)
                exact wq_v hx hb hr 0 trivial (fun t ht hW => ⟨x_5022, x_5023, x_5024, b_x_5024, (om_00f1c5dd b_iM_failed.2 e_x_5022_0), (fun h9 => gc_4978), hG, Bw.to hP hD hK ht hW⟩) hS dX7_mustName_89 hlocks
              · skip
                have hG := hG.trans (if_pos c_5020)
                have gc_5020 := ti_eq c_5020 rfl kc_0
                clear lx_5019
                refine lv_aload_n hx hb dX7_mustName_62 rfl (lv_at hl 0 rfl) ?_
                obtain ⟨sa_5025, vsa_5025, nsa_5025, fsa_5025, hnsa_5025, hnesa_5025, hfesa_5025, hRsa_5025, hSsa_5025⟩ := hE.2.2.1 (146, "unsure", [117, 110, 115, 117, 114, 101]) (by decide)
                have hG := hG.trans (lt_eq hnesa_5025)
                have hG := hG.trans (lt_eq hfesa_5025)
                refine va_ldcS hx hb hown hRsa_5025 dX7_mustName_63 ?_
                have hFc := va_freeI hD hS hA
                refine va_calli (va_runV (As := [.ref sa_5025]) (rest := []) ⟨hx, hb, hml, hown, hts⟩ (tX7_isWord l dC dI _ oM iM_thrown rM_tape iM_taped iM_size iM_at iM_end iM_token iM_whole iM_nameSize iM_fault iM_place iM_trouble rM_letters fM_letters kM_letters iM_failed iM_hasCourt rM_r rM_fresh rM_told rM_read rM_st rM_undone rM_kept iM_undos iM_images rM_fresher iM_fresherSize iM_scale iM_night rM_heardRow rM_cutRow iM_breaths iM_cutMany iM_allBreaths rM_trial rM_words iM_fewestBreaths iM_orderMany iM_orderSum iM_leastOrder rM_often iM_setMany iM_someOf iM_allOf iM_allWeight iM_enoughWeight iM_worthSum iM_firstRest iM_leastDrawn sa_5025 vsa_5025 nsa_5025 fsa_5025 b_iM_taped b_iM_size b_iM_end b_iM_nameSize b_iM_failed b_iM_hasCourt b_iM_undos b_iM_images b_iM_scale b_iM_breaths b_iM_cutMany (fun h9 => h_4982) (Nat.le_trans (Nat.le_of_eq hnesa_5025) (by decide))) (cwV 1 hts (wd_V wd_420 wd_421 wd_422 wd_5 (wd_c wd_423)) rfl rfl rfl dv_yX7_isWord_1 ⟨Nat.le_of_ble_eq_true rfl, Nat.le_of_ble_eq_true rfl⟩) ⟨Pq.fb, recvX7 hK hP (q0 := 0) rfl, fun U hU hW => Pq.to hP hD hK hSsa_5025 hE hS hFc hU hW⟩ rfl rfl hl.1 rfl (lv_room (Nat.le_of_ble_eq_true rfl)) dX7_mustName_65 ⟨Nat.le_of_ble_eq_true rfl, Nat.le_of_ble_eq_true rfl⟩) hS (fun q _ h => hFc q h) hFc (fun r u t H locs ht hvm hw hB hz1 hk1 hS => ?_)
                have hru9 := hw.2
                have hw := hw.1
                obtain ⟨hP, hD⟩ := Bw.goA (ws' := [(oc7 oM iM_thrown rM_tape iM_taped iM_size iM_at iM_end iM_token iM_whole iM_nameSize iM_fault iM_place iM_trouble rM_letters iM_failed iM_hasCourt rM_r rM_fresh rM_told rM_read rM_st rM_undone rM_kept iM_undos iM_images rM_fresher iM_fresherSize iM_scale iM_night rM_heardRow rM_cutRow iM_breaths iM_cutMany iM_allBreaths rM_trial rM_words iM_fewestBreaths iM_orderMany iM_orderSum iM_leastOrder rM_often iM_setMany iM_someOf iM_allOf iM_allWeight iM_enoughWeight iM_worthSum iM_firstRest iM_leastDrawn), (arI rM_letters kM_letters 8 fM_letters)]) hB rfl ht hFc rfl
                clear hz1 hk1 hvm ht hB
                obtain ⟨x_5026, rfl⟩ : ∃ z, z = r := ⟨_, rfl⟩
                have hG := hG.trans (lt_eq hru9.symm)
                have bx_5026 := hw.1
                have dx_5026 := bz_tb bx_5026
                have lx_5026 := hw.2
                refine lv_if_ne (tgt := 80) hx hb dX7_mustName_68 (by decide) (fun c_5027 => ?_) (fun c_5027 => ?_)
                · skip
                  have hG := hG.trans (if_neg c_5027)
                  have gc_5027 := ti_ne c_5027 rfl kc_0
                  replace gc_5027 : (-1) * x_5026.toInt + 1 ≤ 0 := om_e3003f79 gc_5027 dx_5026.1
                  have h_5028 : iM_token.toInt = 2 := lx_5026 (om_7907a7c1 dx_5026.2 gc_5027)
                  clear lx_5026
                  refine lv_aload_n hx hb dX7_mustName_80 rfl (lv_at hl 0 rfl) ?_
                  refine lv_iconst (v := 1) hx hb dX7_mustName_81 (by decide) ?_
                  refine lv_aload_n hx hb dX7_mustName_82 rfl (lv_at hl 0 rfl) ?_
                  refine va_get (D := (dC, dI)) (ci := 7) (v := .int iM_at) (C := RX7) (T := TX7) (N := 48) hx hb hts inX7 hown hK hP 0 rfl rfl 4 (by decide) (hts _ wd_384) (fun _ h9 => h9) rfl dX7_mustName_83 ?_
                  have hMs := ml_of hD [true, false] (wc := [(oc7 oM iM_thrown rM_tape iM_taped iM_size iM_at iM_end iM_token iM_whole iM_nameSize iM_fault iM_place iM_trouble rM_letters iM_failed iM_hasCourt rM_r rM_fresh rM_told rM_read rM_st rM_undone rM_kept iM_undos iM_images rM_fresher iM_fresherSize iM_scale iM_night rM_heardRow rM_cutRow iM_breaths iM_cutMany iM_allBreaths rM_trial rM_words iM_fewestBreaths iM_orderMany iM_orderSum iM_leastOrder rM_often iM_setMany iM_someOf iM_allOf iM_allWeight iM_enoughWeight iM_worthSum iM_firstRest iM_leastDrawn)]) rfl
                  have hFc := va_freeM hD hS hA _ hMs
                  refine va_callv (va_runV (As := [.int 1, .int iM_at]) (rest := []) ⟨hx, hb, hml, hown, hts⟩ (tX7_wrong l dC dI _ oM iM_thrown rM_tape iM_taped iM_size iM_at iM_end iM_token iM_whole iM_nameSize iM_fault iM_place iM_trouble rM_letters iM_failed iM_hasCourt rM_r rM_fresh rM_told rM_read rM_st rM_undone rM_kept iM_undos iM_images rM_fresher iM_fresherSize iM_scale iM_night rM_heardRow rM_cutRow iM_breaths iM_cutMany iM_allBreaths rM_trial rM_words iM_fewestBreaths iM_orderMany iM_orderSum iM_leastOrder rM_often iM_setMany iM_someOf iM_allOf iM_allWeight iM_enoughWeight iM_worthSum iM_firstRest iM_leastDrawn 1 iM_at b_iM_taped b_iM_size b_iM_end b_iM_nameSize b_iM_failed b_iM_hasCourt b_iM_undos b_iM_images b_iM_scale b_iM_breaths b_iM_cutMany (fun h9 => h_4982)) (cwV 2 hts (wd_V wd_430 wd_431 wd_432 wd_5 (wd_c wd_433)) rfl rfl rfl dv_yX7_wrong_2 ⟨Nat.le_of_ble_eq_true rfl, Nat.le_of_ble_eq_true rfl⟩) ⟨Pw.fb, recvX7 hK hP (q0 := 0) rfl, fun U hU hW => Pw.to (hP.ms _ hMs) (hD.ms _ hMs) (hK.ms [false] rfl) hE hS hFc hU hW⟩ rfl rfl hl.1 rfl (lv_room (Nat.le_of_ble_eq_true rfl)) dX7_mustName_86 ⟨Nat.le_of_ble_eq_true rfl, Nat.le_of_ble_eq_true rfl⟩) hS (fun q _ h => hFc q h) hFc (fun u t H locs ht hvm hw hB hz1 hk1 hS => ?_)
                  refine ex_3_3 hB (fun x_5029 x_5030 x_5031 b_x_5031 e_x_5029_0 e_x_5029_1 hB => ?_)
                  obtain ⟨hP, hD⟩ := Bw.goN (ws' := [(oc7 oM iM_thrown rM_tape iM_taped iM_size iM_at iM_end iM_token iM_whole iM_nameSize x_5029 x_5030 iM_trouble rM_letters x_5031 iM_hasCourt rM_r rM_fresh rM_told rM_read rM_st rM_undone rM_kept iM_undos iM_images rM_fresher iM_fresherSize iM_scale iM_night rM_heardRow rM_cutRow iM_breaths iM_cutMany iM_allBreaths rM_trial rM_words iM_fewestBreaths iM_orderMany iM_orderSum iM_leastOrder rM_often iM_setMany iM_someOf iM_allOf iM_allWeight iM_enoughWeight iM_worthSum iM_firstRest iM_leastDrawn), (arI rM_letters kM_letters 8 fM_letters)]) hB rfl ht hP hD _ hMs hk1 hFc rfl
                  clear hz1 hk1 hvm ht hB hMs
                  have hG := hG.trans (un3_eq e_x_5029_1)
                  exact wq_v hx hb hr 0 trivial (fun t ht hW => ⟨x_5029, x_5030, x_5031, b_x_5031, (om_00f1c5dd b_iM_failed.2 e_x_5029_0), (fun h9 => gc_4978), hG, Bw.to hP hD hK ht hW⟩) hS dX7_mustName_89 hlocks
                · skip
                  have hG := hG.trans (if_pos c_5027)
                  have gc_5027 := ti_eq c_5027 rfl kc_0
                  clear lx_5026
                  refine lv_aload_n hx hb dX7_mustName_71 rfl (lv_at hl 0 rfl) ?_
                  obtain ⟨sa_5032, vsa_5032, nsa_5032, fsa_5032, hnsa_5032, hnesa_5032, hfesa_5032, hRsa_5032, hSsa_5032⟩ := hE.2.2.1 (148, "said", [115, 97, 105, 100]) (by decide)
                  have hG := hG.trans (lt_eq hnesa_5032)
                  have hG := hG.trans (lt_eq hfesa_5032)
                  refine va_ldcS hx hb hown hRsa_5032 dX7_mustName_72 ?_
                  have hFc := va_freeI hD hS hA
                  refine va_calli (va_runV (As := [.ref sa_5032]) (rest := []) ⟨hx, hb, hml, hown, hts⟩ (tX7_isWord l dC dI _ oM iM_thrown rM_tape iM_taped iM_size iM_at iM_end iM_token iM_whole iM_nameSize iM_fault iM_place iM_trouble rM_letters fM_letters kM_letters iM_failed iM_hasCourt rM_r rM_fresh rM_told rM_read rM_st rM_undone rM_kept iM_undos iM_images rM_fresher iM_fresherSize iM_scale iM_night rM_heardRow rM_cutRow iM_breaths iM_cutMany iM_allBreaths rM_trial rM_words iM_fewestBreaths iM_orderMany iM_orderSum iM_leastOrder rM_often iM_setMany iM_someOf iM_allOf iM_allWeight iM_enoughWeight iM_worthSum iM_firstRest iM_leastDrawn sa_5032 vsa_5032 nsa_5032 fsa_5032 b_iM_taped b_iM_size b_iM_end b_iM_nameSize b_iM_failed b_iM_hasCourt b_iM_undos b_iM_images b_iM_scale b_iM_breaths b_iM_cutMany (fun h9 => h_4982) (Nat.le_trans (Nat.le_of_eq hnesa_5032) (by decide))) (cwV 1 hts (wd_V wd_420 wd_421 wd_422 wd_5 (wd_c wd_423)) rfl rfl rfl dv_yX7_isWord_1 ⟨Nat.le_of_ble_eq_true rfl, Nat.le_of_ble_eq_true rfl⟩) ⟨Pq.fb, recvX7 hK hP (q0 := 0) rfl, fun U hU hW => Pq.to hP hD hK hSsa_5032 hE hS hFc hU hW⟩ rfl rfl hl.1 rfl (lv_room (Nat.le_of_ble_eq_true rfl)) dX7_mustName_74 ⟨Nat.le_of_ble_eq_true rfl, Nat.le_of_ble_eq_true rfl⟩) hS (fun q _ h => hFc q h) hFc (fun r u t H locs ht hvm hw hB hz1 hk1 hS => ?_)
                  have hru9 := hw.2
                  have hw := hw.1
                  obtain ⟨hP, hD⟩ := Bw.goA (ws' := [(oc7 oM iM_thrown rM_tape iM_taped iM_size iM_at iM_end iM_token iM_whole iM_nameSize iM_fault iM_place iM_trouble rM_letters iM_failed iM_hasCourt rM_r rM_fresh rM_told rM_read rM_st rM_undone rM_kept iM_undos iM_images rM_fresher iM_fresherSize iM_scale iM_night rM_heardRow rM_cutRow iM_breaths iM_cutMany iM_allBreaths rM_trial rM_words iM_fewestBreaths iM_orderMany iM_orderSum iM_leastOrder rM_often iM_setMany iM_someOf iM_allOf iM_allWeight iM_enoughWeight iM_worthSum iM_firstRest iM_leastDrawn), (arI rM_letters kM_letters 8 fM_letters)]) hB rfl ht hFc rfl
                  clear hz1 hk1 hvm ht hB
                  obtain ⟨x_5033, rfl⟩ : ∃ z, z = r := ⟨_, rfl⟩
                  have hG := hG.trans (lt_eq hru9.symm)
                  have bx_5033 := hw.1
                  have dx_5033 := bz_tb bx_5033
                  have lx_5033 := hw.2
                  refine lv_if_eq (tgt := 89) hx hb dX7_mustName_77 (by decide) (fun c_5034 => ?_) (fun c_5034 => ?_)
                  · skip
                    have hG := hG.trans (if_pos c_5034)
                    have gc_5034 := ti_eq c_5034 rfl kc_0
                    clear lx_5033
                    exact wq_v hx hb hr 0 trivial (fun t ht hW => ⟨iM_fault, iM_place, iM_failed, ⟨b_iM_failed.1, b_iM_failed.2⟩, om_1cb5f934, (fun h9 => gc_4978), hG, Bw.to hP hD hK ht hW⟩) hS dX7_mustName_89 hlocks
                  · skip
                    have hG := hG.trans (if_neg c_5034)
                    have gc_5034 := ti_ne c_5034 rfl kc_0
                    replace gc_5034 : (-1) * x_5033.toInt + 1 ≤ 0 := om_e3003f79 gc_5034 dx_5033.1
                    have h_5035 : iM_token.toInt = 2 := lx_5033 (om_7907a7c1 dx_5033.2 gc_5034)
                    clear lx_5033
                    refine lv_aload_n hx hb dX7_mustName_80 rfl (lv_at hl 0 rfl) ?_
                    refine lv_iconst (v := 1) hx hb dX7_mustName_81 (by decide) ?_
                    refine lv_aload_n hx hb dX7_mustName_82 rfl (lv_at hl 0 rfl) ?_
                    refine va_get (D := (dC, dI)) (ci := 7) (v := .int iM_at) (C := RX7) (T := TX7) (N := 48) hx hb hts inX7 hown hK hP 0 rfl rfl 4 (by decide) (hts _ wd_384) (fun _ h9 => h9) rfl dX7_mustName_83 ?_
                    have hMs := ml_of hD [true, false] (wc := [(oc7 oM iM_thrown rM_tape iM_taped iM_size iM_at iM_end iM_token iM_whole iM_nameSize iM_fault iM_place iM_trouble rM_letters iM_failed iM_hasCourt rM_r rM_fresh rM_told rM_read rM_st rM_undone rM_kept iM_undos iM_images rM_fresher iM_fresherSize iM_scale iM_night rM_heardRow rM_cutRow iM_breaths iM_cutMany iM_allBreaths rM_trial rM_words iM_fewestBreaths iM_orderMany iM_orderSum iM_leastOrder rM_often iM_setMany iM_someOf iM_allOf iM_allWeight iM_enoughWeight iM_worthSum iM_firstRest iM_leastDrawn)]) rfl
                    have hFc := va_freeM hD hS hA _ hMs
                    refine va_callv (va_runV (As := [.int 1, .int iM_at]) (rest := []) ⟨hx, hb, hml, hown, hts⟩ (tX7_wrong l dC dI _ oM iM_thrown rM_tape iM_taped iM_size iM_at iM_end iM_token iM_whole iM_nameSize iM_fault iM_place iM_trouble rM_letters iM_failed iM_hasCourt rM_r rM_fresh rM_told rM_read rM_st rM_undone rM_kept iM_undos iM_images rM_fresher iM_fresherSize iM_scale iM_night rM_heardRow rM_cutRow iM_breaths iM_cutMany iM_allBreaths rM_trial rM_words iM_fewestBreaths iM_orderMany iM_orderSum iM_leastOrder rM_often iM_setMany iM_someOf iM_allOf iM_allWeight iM_enoughWeight iM_worthSum iM_firstRest iM_leastDrawn 1 iM_at b_iM_taped b_iM_size b_iM_end b_iM_nameSize b_iM_failed b_iM_hasCourt b_iM_undos b_iM_images b_iM_scale b_iM_breaths b_iM_cutMany (fun h9 => h_4982)) (cwV 2 hts (wd_V wd_430 wd_431 wd_432 wd_5 (wd_c wd_433)) rfl rfl rfl dv_yX7_wrong_2 ⟨Nat.le_of_ble_eq_true rfl, Nat.le_of_ble_eq_true rfl⟩) ⟨Pw.fb, recvX7 hK hP (q0 := 0) rfl, fun U hU hW => Pw.to (hP.ms _ hMs) (hD.ms _ hMs) (hK.ms [false] rfl) hE hS hFc hU hW⟩ rfl rfl hl.1 rfl (lv_room (Nat.le_of_ble_eq_true rfl)) dX7_mustName_86 ⟨Nat.le_of_ble_eq_true rfl, Nat.le_of_ble_eq_true rfl⟩) hS (fun q _ h => hFc q h) hFc (fun u t H locs ht hvm hw hB hz1 hk1 hS => ?_)
                    refine ex_3_3 hB (fun x_5036 x_5037 x_5038 b_x_5038 e_x_5036_0 e_x_5036_1 hB => ?_)
                    obtain ⟨hP, hD⟩ := Bw.goN (ws' := [(oc7 oM iM_thrown rM_tape iM_taped iM_size iM_at iM_end iM_token iM_whole iM_nameSize x_5036 x_5037 iM_trouble rM_letters x_5038 iM_hasCourt rM_r rM_fresh rM_told rM_read rM_st rM_undone rM_kept iM_undos iM_images rM_fresher iM_fresherSize iM_scale iM_night rM_heardRow rM_cutRow iM_breaths iM_cutMany iM_allBreaths rM_trial rM_words iM_fewestBreaths iM_orderMany iM_orderSum iM_leastOrder rM_often iM_setMany iM_someOf iM_allOf iM_allWeight iM_enoughWeight iM_worthSum iM_firstRest iM_leastDrawn), (arI rM_letters kM_letters 8 fM_letters)]) hB rfl ht hP hD _ hMs hk1 hFc rfl
                    clear hz1 hk1 hvm ht hB hMs
                    have hG := hG.trans (un3_eq e_x_5036_1)
                    exact wq_v hx hb hr 0 trivial (fun t ht hW => ⟨x_5036, x_5037, x_5038, b_x_5038, (om_00f1c5dd b_iM_failed.2 e_x_5036_0), (fun h9 => gc_4978), hG, Bw.to hP hD hK ht hW⟩) hS dX7_mustName_89 hlocks
set_option maxHeartbeats 4000000 in
set_option maxRecDepth 100000 in
theorem tX7_find (l : Launch) (dC : Nat → ClassId) (dI : Nat → Nat → Nat) (sz : Nat) (oM : Nat) (iM_thrown : Int32) (rM_tape : Nat) (iM_taped : Int32) (iM_size : Int32) (iM_at : Int32) (iM_end : Int32) (iM_token : Int32) (iM_whole : Int32) (iM_nameSize : Int32) (iM_fault : Int32) (iM_place : Int32) (iM_trouble : Int32) (rM_letters : Nat) (fM_letters : Nat → Int32) (kM_letters : ClassId) (iM_failed : Int32) (iM_hasCourt : Int32) (rM_r : Nat) (rM_fresh : Nat) (fM_fresh : Nat → Int32) (kM_fresh : ClassId) (rM_told : Nat) (rM_read : Nat) (fM_read : Nat → Int32) (kM_read : ClassId) (rM_st : Nat) (rM_undone : Nat) (rM_kept : Nat) (iM_undos : Int32) (iM_images : Int32) (rM_fresher : Nat) (iM_fresherSize : Int32) (iM_scale : Int32) (iM_night : Int32) (rM_heardRow : Nat) (rM_cutRow : Nat) (iM_breaths : Int32) (iM_cutMany : Int32) (iM_allBreaths : Int32) (rM_trial : Nat) (rM_words : Nat) (iM_fewestBreaths : Int32) (iM_orderMany : Int32) (iM_orderSum : Int32) (iM_leastOrder : Int32) (rM_often : Nat) (iM_setMany : Int32) (iM_someOf : Int32) (iM_allOf : Int32) (iM_allWeight : Int64) (iM_enoughWeight : Int64) (iM_worthSum : Int64) (iM_firstRest : Int32) (iM_leastDrawn : Int32) (b_iM_taped : 0 ≤ iM_taped.toInt ∧ iM_taped.toInt ≤ 900) (b_iM_size : 0 ≤ iM_size.toInt ∧ iM_size.toInt ≤ 900) (b_iM_end : 0 ≤ iM_end.toInt ∧ iM_end.toInt ≤ 900) (b_iM_nameSize : 0 ≤ iM_nameSize.toInt ∧ iM_nameSize.toInt ≤ 900) (b_iM_failed : 0 ≤ iM_failed.toInt ∧ iM_failed.toInt ≤ 1) (b_iM_hasCourt : 0 ≤ iM_hasCourt.toInt ∧ iM_hasCourt.toInt ≤ 1) (b_iM_undos : 0 ≤ iM_undos.toInt ∧ iM_undos.toInt ≤ 16) (b_iM_images : 0 ≤ iM_images.toInt ∧ iM_images.toInt ≤ 3) (b_iM_scale : 1 ≤ iM_scale.toInt ∧ iM_scale.toInt ≤ 1296) (b_iM_breaths : 0 ≤ iM_breaths.toInt ∧ iM_breaths.toInt ≤ 399) (b_iM_cutMany : 0 ≤ iM_cutMany.toInt ∧ iM_cutMany.toInt ≤ 399) (r_T : ImpP (iM_token.toInt = 2) (iM_nameSize.toInt ≤ 8)) (r_P : POk fM_fresh fM_read) (hns : iM_nameSize.toInt ≤ 8) : Met l yX7_find (Cond.code yX7_find cX7_find 4 (some .int) :: wG) ({ frames := 0, cells := 0, slots := 0, locals := 0 }) (va_Pc [.ref oM] (Pw dC dI sz [(oc7 oM iM_thrown rM_tape iM_taped iM_size iM_at iM_end iM_token iM_whole iM_nameSize iM_fault iM_place iM_trouble rM_letters iM_failed iM_hasCourt rM_r rM_fresh rM_told rM_read rM_st rM_undone rM_kept iM_undos iM_images rM_fresher iM_fresherSize iM_scale iM_night rM_heardRow rM_cutRow iM_breaths iM_cutMany iM_allBreaths rM_trial rM_words iM_fewestBreaths iM_orderMany iM_orderSum iM_leastOrder rM_often iM_setMany iM_someOf iM_allOf iM_allWeight iM_enoughWeight iM_worthSum iM_firstRest iM_leastDrawn), (arI rM_letters kM_letters 8 fM_letters), (arI rM_fresh kM_fresh 287 fM_fresh), (arI rM_read kM_read 90 fM_read)] [(kM_letters, .int), (kM_fresh, .int), (kM_read, .int)])) (va_Qi (fun (r : Int32) (_ : Nat) => (True ∧ (-1 ≤ r.toInt ∧ r.toInt < (fM_fresh 1).toInt ∧ r.toInt ≤ 17)) ∧ PX7_find iM_nameSize fM_letters fM_fresh = r) (fun (_ : Nat) (t : State) => Bw dC dI (va_A [(oc7 oM iM_thrown rM_tape iM_taped iM_size iM_at iM_end iM_token iM_whole iM_nameSize iM_fault iM_place iM_trouble rM_letters iM_failed iM_hasCourt rM_r rM_fresh rM_told rM_read rM_st rM_undone rM_kept iM_undos iM_images rM_fresher iM_fresherSize iM_scale iM_night rM_heardRow rM_cutRow iM_breaths iM_cutMany iM_allBreaths rM_trial rM_words iM_fewestBreaths iM_orderMany iM_orderSum iM_leastOrder rM_often iM_setMany iM_someOf iM_allOf iM_allWeight iM_enoughWeight iM_worthSum iM_firstRest iM_leastDrawn), (arI rM_letters kM_letters 8 fM_letters), (arI rM_fresh kM_fresh 287 fM_fresh), (arI rM_read kM_read 90 fM_read)] sz) [(oc7 oM iM_thrown rM_tape iM_taped iM_size iM_at iM_end iM_token iM_whole iM_nameSize iM_fault iM_place iM_trouble rM_letters iM_failed iM_hasCourt rM_r rM_fresh rM_told rM_read rM_st rM_undone rM_kept iM_undos iM_images rM_fresher iM_fresherSize iM_scale iM_night rM_heardRow rM_cutRow iM_breaths iM_cutMany iM_allBreaths rM_trial rM_words iM_fewestBreaths iM_orderMany iM_orderSum iM_leastOrder rM_often iM_setMany iM_someOf iM_allOf iM_allWeight iM_enoughWeight iM_worthSum iM_firstRest iM_leastDrawn), (arI rM_letters kM_letters 8 fM_letters), (arI rM_fresh kM_fresh 287 fM_fresh), (arI rM_read kM_read 90 fM_read)] [(kM_letters, .int), (kM_fresh, .int), (kM_read, .int)] t) (va_A [(oc7 oM iM_thrown rM_tape iM_taped iM_size iM_at iM_end iM_token iM_whole iM_nameSize iM_fault iM_place iM_trouble rM_letters iM_failed iM_hasCourt rM_r rM_fresh rM_told rM_read rM_st rM_undone rM_kept iM_undos iM_images rM_fresher iM_fresherSize iM_scale iM_night rM_heardRow rM_cutRow iM_breaths iM_cutMany iM_allBreaths rM_trial rM_words iM_fewestBreaths iM_orderMany iM_orderSum iM_leastOrder rM_often iM_setMany iM_someOf iM_allOf iM_allWeight iM_enoughWeight iM_worthSum iM_firstRest iM_leastDrawn), (arI rM_letters kM_letters 8 fM_letters), (arI rM_fresh kM_fresh 287 fM_fresh), (arI rM_read kM_read 90 fM_read)] sz)) 0 0 (va_A [(oc7 oM iM_thrown rM_tape iM_taped iM_size iM_at iM_end iM_token iM_whole iM_nameSize iM_fault iM_place iM_trouble rM_letters iM_failed iM_hasCourt rM_r rM_fresh rM_told rM_read rM_st rM_undone rM_kept iM_undos iM_images rM_fresher iM_fresherSize iM_scale iM_night rM_heardRow rM_cutRow iM_breaths iM_cutMany iM_allBreaths rM_trial rM_words iM_fewestBreaths iM_orderMany iM_orderSum iM_leastOrder rM_often iM_setMany iM_someOf iM_allOf iM_allWeight iM_enoughWeight iM_worthSum iM_firstRest iM_leastDrawn), (arI rM_letters kM_letters 8 fM_letters), (arI rM_fresh kM_fresh 287 fM_fresh), (arI rM_read kM_read 90 fM_read)] sz) := by
  refine Met.ofW (cc := cX7_find) (maxL := 4) (ret := (some .int)) pnX7 rfl ?_
  intro p e s m args below meth c s₁ B hml hv
  obtain ⟨rfl, hsz, hP, hK, hD0, hE⟩ := hv
  have hx := B.exec
  have hb := B.bytes
  have hr := B.returns
  have hts : ∀ w ∈ wG, w.before ([.ref oM] : List Value).toArray s = true := fun w h => atoms_spec (ws := Cond.code yX7_find cX7_find 4 (some .int) :: wG) B.pre w (List.mem_cons_of_mem _ h)
  have hown : s.vm.findClass RX7 = some m.cls := own_of B.named rfl
  have hlocks := B.notSynchronized
  subst hsz
  have hD := hD0.self (sz := s.heap.size)
  generalize hAe : va_A [(oc7 oM iM_thrown rM_tape iM_taped iM_size iM_at iM_end iM_token iM_whole iM_nameSize iM_fault iM_place iM_trouble rM_letters iM_failed iM_hasCourt rM_r rM_fresh rM_told rM_read rM_st rM_undone rM_kept iM_undos iM_images rM_fresher iM_fresherSize iM_scale iM_night rM_heardRow rM_cutRow iM_breaths iM_cutMany iM_allBreaths rM_trial rM_words iM_fewestBreaths iM_orderMany iM_orderSum iM_leastOrder rM_often iM_setMany iM_someOf iM_allOf iM_allWeight iM_enoughWeight iM_worthSum iM_firstRest iM_leastDrawn), (arI rM_letters kM_letters 8 fM_letters), (arI rM_fresh kM_fresh 287 fM_fresh), (arI rM_read kM_read 90 fM_read)] s.heap.size = A at hD hE ⊢
  have hA : ∀ q : Nat, s.heap.size ≤ q → A q := fun q h => by rw [← hAe]; exact Or.inr h
  have hS : va_S A s.heap s.heap [] := va_S.rf
  have hl := lv_entry ([.ref oM]) (n := 4) (Nat.le_of_ble_eq_true rfl)
  rw [lg_entry_eq]
  generalize (lg_sl ([.ref oM]) ++ List.replicate (4 - (lg_sl ([.ref oM])).length) Slot.unset).toArray = ls at hl ⊢
  have hl : lv_has ls 4 [(0, .ref oM)] := hl
  have hG := PX7_find_eq iM_nameSize fM_letters fM_fresh
  have pl_fM_fresh := r_P.lins
  refine lv_iconst (v := 0) hx hb dX7_find_0 (by decide) ?_
  refine lv_istore_n (lv' := [(1, .int 0), (0, .ref oM)]) hx hb dX7_find_1 rfl hl (by decide) rfl (fun ls hl => ?_)
  have hl := lv_sub hl (l' := [(1, .int 0), (0, .ref oM)]) [0, 1] rfl
  have key_n_5108 : ∀ (n_5108 : Nat) (z_5107 : Int32) (H : Heap) (locs : List Loc) (ls : Array Slot), (0 ≤ z_5107.toInt ∧ z_5107.toInt ≤ 18) → (18 - z_5107.toInt).toNat < n_5108 → (PX7_find iM_nameSize fM_letters fM_fresh = HX7_find_0 iM_nameSize fM_letters fM_fresh n_5108 z_5107) → va_P (dC, dI) vwCl [(oc7 oM iM_thrown rM_tape iM_taped iM_size iM_at iM_end iM_token iM_whole iM_nameSize iM_fault iM_place iM_trouble rM_letters iM_failed iM_hasCourt rM_r rM_fresh rM_told rM_read rM_st rM_undone rM_kept iM_undos iM_images rM_fresher iM_fresherSize iM_scale iM_night rM_heardRow rM_cutRow iM_breaths iM_cutMany iM_allBreaths rM_trial rM_words iM_fewestBreaths iM_orderMany iM_orderSum iM_leastOrder rM_often iM_setMany iM_someOf iM_allOf iM_allWeight iM_enoughWeight iM_worthSum iM_firstRest iM_leastDrawn), (arI rM_letters kM_letters 8 fM_letters), (arI rM_fresh kM_fresh 287 fM_fresh), (arI rM_read kM_read 90 fM_read)] H → va_D A [(oc7 oM iM_thrown rM_tape iM_taped iM_size iM_at iM_end iM_token iM_whole iM_nameSize iM_fault iM_place iM_trouble rM_letters iM_failed iM_hasCourt rM_r rM_fresh rM_told rM_read rM_st rM_undone rM_kept iM_undos iM_images rM_fresher iM_fresherSize iM_scale iM_night rM_heardRow rM_cutRow iM_breaths iM_cutMany iM_allBreaths rM_trial rM_words iM_fewestBreaths iM_orderMany iM_orderSum iM_leastOrder rM_often iM_setMany iM_someOf iM_allOf iM_allWeight iM_enoughWeight iM_worthSum iM_firstRest iM_leastDrawn), (arI rM_letters kM_letters 8 fM_letters), (arI rM_fresh kM_fresh 287 fM_fresh), (arI rM_read kM_read 90 fM_read)] → va_S A s.heap H locs → lv_has ls 4 [(1, .int z_5107), (0, .ref oM)] → W p l e (headSpec (Cond.code yX7_find cX7_find 4 (some .int) :: wG) ({ frames := 0, cells := 0, slots := 0, locals := 0 })).room s m ([.ref oM] : List Value).toArray below meth c H locs 0 0 (MQ below (va_Qi (fun (r : Int32) (_ : Nat) => (True ∧ (-1 ≤ r.toInt ∧ r.toInt < (fM_fresh 1).toInt ∧ r.toInt ≤ 17)) ∧ PX7_find iM_nameSize fM_letters fM_fresh = r) (fun (_ : Nat) (t : State) => Bw dC dI A [(oc7 oM iM_thrown rM_tape iM_taped iM_size iM_at iM_end iM_token iM_whole iM_nameSize iM_fault iM_place iM_trouble rM_letters iM_failed iM_hasCourt rM_r rM_fresh rM_told rM_read rM_st rM_undone rM_kept iM_undos iM_images rM_fresher iM_fresherSize iM_scale iM_night rM_heardRow rM_cutRow iM_breaths iM_cutMany iM_allBreaths rM_trial rM_words iM_fewestBreaths iM_orderMany iM_orderSum iM_leastOrder rM_often iM_setMany iM_someOf iM_allOf iM_allWeight iM_enoughWeight iM_worthSum iM_firstRest iM_leastDrawn), (arI rM_letters kM_letters 8 fM_letters), (arI rM_fresh kM_fresh 287 fM_fresh), (arI rM_read kM_read 90 fM_read)] [(kM_letters, .int), (kM_fresh, .int), (kM_read, .int)] t) A) ([.ref oM] : List Value).toArray s 0 0 A) (F0 m 2 ls []) := by
    intro n_5108
    induction n_5108 with
    | zero => intro z_5107 H locs ls hi0_n_5108 hm; exact absurd hm (Nat.not_lt_zero _)
    | succ n_5108 ih_n_5108 =>
      intro z_5107 H locs ls hi0_n_5108 hm_n_5108 hG hP hD hS hl
      have hG := hG.trans (HX7_find_0_eq _ _ _ _ _)
      refine lv_iload_n hx hb dX7_find_2 rfl (lv_at hl 0 rfl) ?_
      refine lv_bipush (v := 18) hx hb dX7_find_3 (by decide) ?_
      refine lv_icmp_ge (tgt := 104) hx hb dX7_find_5 (by decide) (fun c_5109 => ?_) (fun c_5109 => ?_)
      · skip
        have hG := hG.trans (if_pos c_5109)
        have gc_5109 := ti_le c_5109 kc_18 rfl
        refine lv_iconst (v := (-1)) hx hb dX7_find_104 (by decide) ?_
        exact wq_i hx hb hr 0 ⟨⟨trivial, (by have q := kc_m1; first | omega | assumption)⟩, hG⟩ (fun t ht hW => Bw.to hP hD hK ht hW) hS dX7_find_105 hlocks
      · skip
        have hG := hG.trans (if_neg c_5109)
        have gc_5109 := ti_nle c_5109 kc_18 rfl
        refine lv_aload_n hx hb dX7_find_8 rfl (lv_at hl 1 rfl) ?_
        refine va_get (D := (dC, dI)) (ci := 7) (v := .ref rM_fresh) (C := RX7) (T := TX7) (N := 48) hx hb hts inX7 hown hK hP 0 rfl rfl 16 (by decide) (hts _ wd_156) (fun _ h9 => h9) rfl dX7_find_9 ?_
        refine lv_bipush (v := 125) hx hb dX7_find_12 (by decide) ?_
        refine lv_iload_n hx hb dX7_find_14 rfl (lv_at hl 0 rfl) ?_
        refine lv_iadd hx hb dX7_find_15 ?_
        refine lv_topi (fun x_5110 ex_5110 => ?_)
        have hG := hG.trans (lt_eq ex_5110)
        have vx_5110 : x_5110.toInt = z_5107.toInt + 125 := om_82a8c57f (ti_add ex_5110 kc_125 rfl (om_aca3d3b7 hi0_n_5108.1) (om_ed5dcb39 hi0_n_5108.2))
        refine va_iald hx hb hK hP 2 1 rfl rfl (ti_in vx_5110 (om_b2464657 hi0_n_5108.1) (om_8b08a55a hi0_n_5108.2)) dX7_find_16 ?_
        refine lv_topi (fun x_5111 ex_5111 => ?_)
        have hG := hG.trans (lt_eq ex_5111)
        have kx_5111 : (fM_fresh x_5110.toNatClampNeg).toInt = x_5111.toInt := by rw [ex_5111]
        have cx_5111 : (fM_fresh (125 + z_5107.toNatClampNeg)).toInt = x_5111.toInt := by rw [show 125 + z_5107.toNatClampNeg = x_5110.toNatClampNeg from (om_f728cf40 (ti_cl (x := z_5107) rfl hi0_n_5108.1) (ti_cl (x := x_5110) vx_5110 (om_b2464657 hi0_n_5108.1)))]; exact kx_5111
        refine lv_if_le (tgt := 40) hx hb dX7_find_17 (by decide) (fun c_5112 => ?_) (fun c_5112 => ?_)
        · skip
          have hG := hG.trans (if_pos c_5112)
          have gc_5112 := ti_le c_5112 rfl kc_0
          refine lv_iconst (v := 0) hx hb dX7_find_40 (by decide) ?_
          refine lv_istore_n (lv' := [(2, .int 0), (1, .int z_5107), (0, .ref oM)]) hx hb dX7_find_41 rfl hl (by decide) rfl (fun ls hl => ?_)
          refine lv_iconst (v := 0) hx hb dX7_find_42 (by decide) ?_
          refine lv_istore_n (lv' := [(3, .int 0), (2, .int 0), (1, .int z_5107), (0, .ref oM)]) hx hb dX7_find_43 rfl hl (by decide) rfl (fun ls hl => ?_)
          have hl := lv_sub hl (l' := [(3, .int 0), (2, .int 0), (1, .int z_5107), (0, .ref oM)]) [0, 1, 2, 3] rfl
          have key_n_5115 : ∀ (n_5115 : Nat) (z_5113 : Int32) (z_5114 : Int32) (H : Heap) (locs : List Loc) (ls : Array Slot), (0 ≤ z_5113.toInt ∧ z_5113.toInt ≤ iM_nameSize.toInt) → (0 ≤ z_5114.toInt ∧ z_5114.toInt ≤ 1) → (1 ≤ z_5114.toInt → 1 ≤ (fM_fresh (125 + z_5107.toNatClampNeg)).toInt) → (iM_nameSize.toInt - z_5113.toInt).toNat < n_5115 → (PX7_find iM_nameSize fM_letters fM_fresh = HX7_find_1 iM_nameSize fM_letters fM_fresh z_5107 (fun (z_5107 : Int32) => HX7_find_0 iM_nameSize fM_letters fM_fresh n_5108 z_5107) n_5115 z_5113 z_5114) → va_P (dC, dI) vwCl [(oc7 oM iM_thrown rM_tape iM_taped iM_size iM_at iM_end iM_token iM_whole iM_nameSize iM_fault iM_place iM_trouble rM_letters iM_failed iM_hasCourt rM_r rM_fresh rM_told rM_read rM_st rM_undone rM_kept iM_undos iM_images rM_fresher iM_fresherSize iM_scale iM_night rM_heardRow rM_cutRow iM_breaths iM_cutMany iM_allBreaths rM_trial rM_words iM_fewestBreaths iM_orderMany iM_orderSum iM_leastOrder rM_often iM_setMany iM_someOf iM_allOf iM_allWeight iM_enoughWeight iM_worthSum iM_firstRest iM_leastDrawn), (arI rM_letters kM_letters 8 fM_letters), (arI rM_fresh kM_fresh 287 fM_fresh), (arI rM_read kM_read 90 fM_read)] H → va_D A [(oc7 oM iM_thrown rM_tape iM_taped iM_size iM_at iM_end iM_token iM_whole iM_nameSize iM_fault iM_place iM_trouble rM_letters iM_failed iM_hasCourt rM_r rM_fresh rM_told rM_read rM_st rM_undone rM_kept iM_undos iM_images rM_fresher iM_fresherSize iM_scale iM_night rM_heardRow rM_cutRow iM_breaths iM_cutMany iM_allBreaths rM_trial rM_words iM_fewestBreaths iM_orderMany iM_orderSum iM_leastOrder rM_often iM_setMany iM_someOf iM_allOf iM_allWeight iM_enoughWeight iM_worthSum iM_firstRest iM_leastDrawn), (arI rM_letters kM_letters 8 fM_letters), (arI rM_fresh kM_fresh 287 fM_fresh), (arI rM_read kM_read 90 fM_read)] → va_S A s.heap H locs → lv_has ls 4 [(3, .int z_5113), (2, .int z_5114), (1, .int z_5107), (0, .ref oM)] → W p l e (headSpec (Cond.code yX7_find cX7_find 4 (some .int) :: wG) ({ frames := 0, cells := 0, slots := 0, locals := 0 })).room s m ([.ref oM] : List Value).toArray below meth c H locs 0 0 (MQ below (va_Qi (fun (r : Int32) (_ : Nat) => (True ∧ (-1 ≤ r.toInt ∧ r.toInt < (fM_fresh 1).toInt ∧ r.toInt ≤ 17)) ∧ PX7_find iM_nameSize fM_letters fM_fresh = r) (fun (_ : Nat) (t : State) => Bw dC dI A [(oc7 oM iM_thrown rM_tape iM_taped iM_size iM_at iM_end iM_token iM_whole iM_nameSize iM_fault iM_place iM_trouble rM_letters iM_failed iM_hasCourt rM_r rM_fresh rM_told rM_read rM_st rM_undone rM_kept iM_undos iM_images rM_fresher iM_fresherSize iM_scale iM_night rM_heardRow rM_cutRow iM_breaths iM_cutMany iM_allBreaths rM_trial rM_words iM_fewestBreaths iM_orderMany iM_orderSum iM_leastOrder rM_often iM_setMany iM_someOf iM_allOf iM_allWeight iM_enoughWeight iM_worthSum iM_firstRest iM_leastDrawn), (arI rM_letters kM_letters 8 fM_letters), (arI rM_fresh kM_fresh 287 fM_fresh), (arI rM_read kM_read 90 fM_read)] [(kM_letters, .int), (kM_fresh, .int), (kM_read, .int)] t) A) ([.ref oM] : List Value).toArray s 0 0 A) (F0 m 44 ls []) := by
            intro n_5115
            induction n_5115 with
            | zero => intro z_5113 z_5114 H locs ls hi0_n_5115 hi1_n_5115 hi2_n_5115 hm; exact absurd hm (Nat.not_lt_zero _)
            | succ n_5115 ih_n_5115 =>
              intro z_5113 z_5114 H locs ls hi0_n_5115 hi1_n_5115 hi2_n_5115 hm_n_5115 hG hP hD hS hl
              have hG := hG.trans (HX7_find_1_eq _ _ _ _ _ _ _ _)
              have nm_z_5107 : 1 ≤ (fM_fresh (125 + z_5107.toNatClampNeg)).toInt → z_5107.toInt < (fM_fresh 1).toInt := fun h9 => by have q1 := ti_cl (x := z_5107) rfl hi0_n_5108.1; have q2 := r_P.1.names z_5107.toNatClampNeg (by omega) (by omega); omega
              clear nm_z_5107
              refine lv_iload_n hx hb dX7_find_44 rfl (lv_at hl 0 rfl) ?_
              refine lv_aload_n hx hb dX7_find_45 rfl (lv_at hl 3 rfl) ?_
              refine va_get (D := (dC, dI)) (ci := 7) (v := .int iM_nameSize) (C := RX7) (T := TX7) (N := 48) hx hb hts inX7 hown hK hP 0 rfl rfl 8 (by decide) (hts _ wd_404) (fun _ h9 => h9) rfl dX7_find_46 ?_
              refine lv_icmp_ge (tgt := 92) hx hb dX7_find_49 (by decide) (fun c_5116 => ?_) (fun c_5116 => ?_)
              · skip
                have hG := hG.trans (if_pos c_5116)
                have gc_5116 := ti_le c_5116 rfl rfl
                refine lv_iload_n hx hb dX7_find_92 rfl (lv_at hl 1 rfl) ?_
                refine lv_if_eq (tgt := 98) hx hb dX7_find_93 (by decide) (fun c_5117 => ?_) (fun c_5117 => ?_)
                · skip
                  have hG := hG.trans (if_pos c_5117)
                  have gc_5117 := ti_eq c_5117 rfl kc_0
                  clear hi2_n_5115
                  obtain ⟨x_5118, ex_5118⟩ : ∃ z : Int32, z = z_5107 + Int32.ofInt 1 := ⟨_, rfl⟩
                  have hG := hG.trans (lt_eq ex_5118)
                  have vx_5118 : x_5118.toInt = z_5107.toInt + 1 := ti_add (y := 1) ex_5118 rfl kc_1 (om_4e4fce7e hi0_n_5108.1) (om_9d611bdb hi0_n_5108.2)
                  refine lv_iinc (v := x_5118) (lv' := [(1, .int x_5118), (3, .int z_5113), (2, .int z_5114), (0, .ref oM)]) hx hb dX7_find_98 hl (k := 2) rfl ex_5118.symm (by decide) rfl (fun ls hl => ?_)
                  refine lv_goto (tgt := 2) hx hb dX7_find_101 (by decide) ?_
                  exact ih_n_5108 x_5118 _ _ _  ⟨(om_83b90de5 hi0_n_5108.1 vx_5118), (om_497b4f92 gc_5109 vx_5118)⟩ (ms_lt hm_n_5108 (om_0886d075 vx_5118) (om_e7bc4510 gc_5109)) hG hP hD hS (lv_sub hl [0, 3] rfl)
                · skip
                  have hG := hG.trans (if_neg c_5117)
                  have gc_5117 := ti_ne c_5117 rfl kc_0
                  replace gc_5117 : (-1) * z_5114.toInt + 1 ≤ 0 := om_e3003f79 gc_5117 hi1_n_5115.1
                  have h_5119 := hi2_n_5115 (by omega)
                  clear hi2_n_5115
                  refine lv_iload_n hx hb dX7_find_96 rfl (lv_at hl 2 rfl) ?_
                  exact wq_i hx hb hr 0 ⟨⟨trivial, (by first | omega | assumption)⟩, hG⟩ (fun t ht hW => Bw.to hP hD hK ht hW) hS dX7_find_97 hlocks
              · skip
                have hG := hG.trans (if_neg c_5116)
                have gc_5116 := ti_nle c_5116 rfl rfl
                refine lv_iload_n hx hb dX7_find_52 rfl (lv_at hl 1 rfl) ?_
                refine lv_if_eq (tgt := 92) hx hb dX7_find_53 (by decide) (fun c_5120 => ?_) (fun c_5120 => ?_)
                · skip
                  have hG := hG.trans (if_pos c_5120)
                  have gc_5120 := ti_eq c_5120 rfl kc_0
                  clear hi2_n_5115
                  refine lv_iload_n hx hb dX7_find_92 rfl (lv_at hl 1 rfl) ?_
                  refine lv_if_eq (tgt := 98) hx hb dX7_find_93 (by decide) (fun c_5121 => ?_) (fun c_5121 => ?_)
                  · skip
                    have hG := hG.trans (if_pos c_5121)
                    have gc_5121 := ti_eq c_5121 rfl kc_0
                    obtain ⟨x_5122, ex_5122⟩ : ∃ z : Int32, z = z_5107 + Int32.ofInt 1 := ⟨_, rfl⟩
                    have hG := hG.trans (lt_eq ex_5122)
                    have vx_5122 : x_5122.toInt = z_5107.toInt + 1 := ti_add (y := 1) ex_5122 rfl kc_1 (om_4e4fce7e hi0_n_5108.1) (om_9d611bdb hi0_n_5108.2)
                    refine lv_iinc (v := x_5122) (lv' := [(1, .int x_5122), (3, .int z_5113), (2, .int z_5114), (0, .ref oM)]) hx hb dX7_find_98 hl (k := 2) rfl ex_5122.symm (by decide) rfl (fun ls hl => ?_)
                    refine lv_goto (tgt := 2) hx hb dX7_find_101 (by decide) ?_
                    exact ih_n_5108 x_5122 _ _ _  ⟨(om_83b90de5 hi0_n_5108.1 vx_5122), (om_497b4f92 gc_5109 vx_5122)⟩ (ms_lt hm_n_5108 (om_0886d075 vx_5122) (om_e7bc4510 gc_5109)) hG hP hD hS (lv_sub hl [0, 3] rfl)
                  · skip
                    have hG := hG.trans (if_neg c_5121)
                    have gc_5121 := ti_ne c_5121 rfl kc_0
                    replace gc_5121 : z_5114.toInt + 1 ≤ 0 := om_f992525b gc_5121 gc_5120
                    exact ((om_5185113d hi1_n_5115.1 gc_5121)).elim
                · skip
                  have hG := hG.trans (if_neg c_5120)
                  have gc_5120 := ti_ne c_5120 rfl kc_0
                  replace gc_5120 : (-1) * z_5114.toInt + 1 ≤ 0 := om_e3003f79 gc_5120 hi1_n_5115.1
                  have h_5123 := hi2_n_5115 (by omega)
                  clear hi2_n_5115
                  refine lv_aload_n hx hb dX7_find_56 rfl (lv_at hl 3 rfl) ?_
                  refine va_get (D := (dC, dI)) (ci := 7) (v := .ref rM_fresh) (C := RX7) (T := TX7) (N := 48) hx hb hts inX7 hown hK hP 0 rfl rfl 16 (by decide) (hts _ wd_156) (fun _ h9 => h9) rfl dX7_find_57 ?_
                  refine lv_sipush (v := 143) hx hb dX7_find_60 (by decide) ?_
                  refine lv_bipush (v := 8) hx hb dX7_find_63 (by decide) ?_
                  refine lv_iload_n hx hb dX7_find_65 rfl (lv_at hl 2 rfl) ?_
                  refine lv_imul hx hb dX7_find_66 ?_
                  refine lv_topi (fun x_5124 ex_5124 => ?_)
                  have hG := hG.trans (lt_eq ex_5124)
                  have vx_5124 : x_5124.toInt = 8 * z_5107.toInt := ti_mul ex_5124 kc_8 rfl (om_894b99c2 hi0_n_5108.1) (om_3615877d hi0_n_5108.2)
                  refine lv_iadd hx hb dX7_find_67 ?_
                  refine lv_topi (fun x_5125 ex_5125 => ?_)
                  have hG := hG.trans (lt_eq ex_5125)
                  have vx_5125 : x_5125.toInt = 8 * z_5107.toInt + 143 := om_91565d1d (ti_add ex_5125 kc_143 vx_5124 (om_a8db8aec hi0_n_5108.1) (om_8871eb58 hi0_n_5108.2))
                  refine lv_iload_n hx hb dX7_find_68 rfl (lv_at hl 0 rfl) ?_
                  refine lv_iadd hx hb dX7_find_69 ?_
                  refine lv_topi (fun x_5126 ex_5126 => ?_)
                  have hG := hG.trans (lt_eq ex_5126)
                  have vx_5126 : x_5126.toInt = 8 * z_5107.toInt + z_5113.toInt + 143 := om_8d4a621a (ti_add ex_5126 vx_5125 rfl (om_467ad9f8 hi0_n_5108.1 hi0_n_5115.1) (om_29fa77d8 hns hi0_n_5108.2 hi0_n_5115.2))
                  refine va_iald hx hb hK hP 2 1 rfl rfl (ti_in vx_5126 (om_fdd59aa4 hi0_n_5108.1 hi0_n_5115.1) (om_4f58e249 hns gc_5109 gc_5116)) dX7_find_70 ?_
                  refine lv_topi (fun x_5127 ex_5127 => ?_)
                  have hG := hG.trans (lt_eq ex_5127)
                  have kx_5127 : (fM_fresh x_5126.toNatClampNeg).toInt = x_5127.toInt := by rw [ex_5127]
                  have cx_5127 : (fM_fresh (143 + 8 * z_5107.toNatClampNeg + z_5113.toNatClampNeg)).toInt = x_5127.toInt := by rw [show 143 + 8 * z_5107.toNatClampNeg + z_5113.toNatClampNeg = x_5126.toNatClampNeg from (om_ff716d49 (ti_cl (x := z_5107) rfl hi0_n_5108.1) (ti_cl (x := z_5113) rfl hi0_n_5115.1) (ti_cl (x := x_5126) vx_5126 (om_fdd59aa4 hi0_n_5108.1 hi0_n_5115.1)))]; exact kx_5127
                  refine lv_aload_n hx hb dX7_find_71 rfl (lv_at hl 3 rfl) ?_
                  refine va_get (D := (dC, dI)) (ci := 7) (v := .ref rM_letters) (C := RX7) (T := TX7) (N := 48) hx hb hts inX7 hown hK hP 0 rfl rfl 12 (by decide) (hts _ wd_154) (fun _ h9 => h9) rfl dX7_find_72 ?_
                  refine lv_iload_n hx hb dX7_find_75 rfl (lv_at hl 0 rfl) ?_
                  refine va_iald hx hb hK hP 1 0 rfl rfl (ti_in rfl hi0_n_5115.1 (om_9badf829 hns gc_5116)) dX7_find_76 ?_
                  refine lv_topi (fun x_5128 ex_5128 => ?_)
                  have hG := hG.trans (lt_eq ex_5128)
                  have kx_5128 : (fM_letters z_5113.toNatClampNeg).toInt = x_5128.toInt := by rw [ex_5128]
                  have cx_5128 := kx_5128
                  refine lv_icmp_ne (tgt := 84) hx hb dX7_find_77 (by decide) (fun c_5129 => ?_) (fun c_5129 => ?_)
                  · skip
                    have hG := hG.trans (if_neg c_5129)
                    have gc_5129 := ti_ne c_5129 rfl rfl
                    refine lv_iconst (v := 0) hx hb dX7_find_84 (by decide) ?_
                    refine lv_istore_n (lv' := [(2, .int 0), (3, .int z_5113), (1, .int z_5107), (0, .ref oM)]) hx hb dX7_find_85 rfl hl (by decide) rfl (fun ls hl => ?_)
                    obtain ⟨x_5130, ex_5130⟩ : ∃ z : Int32, z = z_5113 + Int32.ofInt 1 := ⟨_, rfl⟩
                    have hG := hG.trans (lt_eq ex_5130)
                    have vx_5130 : x_5130.toInt = z_5113.toInt + 1 := ti_add (y := 1) ex_5130 rfl kc_1 (om_4e4fce7e hi0_n_5115.1) (om_89e8ce70 hns hi0_n_5115.2)
                    refine lv_iinc (v := x_5130) (lv' := [(3, .int x_5130), (2, .int 0), (1, .int z_5107), (0, .ref oM)]) hx hb dX7_find_86 hl (k := 1) rfl ex_5130.symm (by decide) rfl (fun ls hl => ?_)
                    refine lv_goto (tgt := 44) hx hb dX7_find_89 (by decide) ?_
                    exact ih_n_5115 x_5130 0 _ _ _  ⟨(om_83b90de5 hi0_n_5115.1 vx_5130), (om_afcf07ef gc_5116 vx_5130)⟩ ⟨(om_b1de7dbe kc_0), (om_270f4ea0 kc_0)⟩ (by have q0 := kc_0; have q1 := kc_1; have q2 := kc_2; have q3 := kc_3; omega) (ms_lt hm_n_5115 (om_dd4ae0bc vx_5130) (om_d5382009 gc_5116)) hG hP hD hS (lv_sub hl [0, 1, 2, 3] rfl)
                  · skip
                    have hG := hG.trans (if_pos c_5129)
                    have gc_5129 := ti_eq c_5129 rfl rfl
                    refine lv_iconst (v := 1) hx hb dX7_find_80 (by decide) ?_
                    refine lv_goto (tgt := 85) hx hb dX7_find_81 (by decide) ?_
                    refine lv_istore_n (lv' := [(2, .int 1), (3, .int z_5113), (1, .int z_5107), (0, .ref oM)]) hx hb dX7_find_85 rfl hl (by decide) rfl (fun ls hl => ?_)
                    obtain ⟨x_5131, ex_5131⟩ : ∃ z : Int32, z = z_5113 + Int32.ofInt 1 := ⟨_, rfl⟩
                    have hG := hG.trans (lt_eq ex_5131)
                    have vx_5131 : x_5131.toInt = z_5113.toInt + 1 := ti_add (y := 1) ex_5131 rfl kc_1 (om_4e4fce7e hi0_n_5115.1) (om_89e8ce70 hns hi0_n_5115.2)
                    refine lv_iinc (v := x_5131) (lv' := [(3, .int x_5131), (2, .int 1), (1, .int z_5107), (0, .ref oM)]) hx hb dX7_find_86 hl (k := 1) rfl ex_5131.symm (by decide) rfl (fun ls hl => ?_)
                    refine lv_goto (tgt := 44) hx hb dX7_find_89 (by decide) ?_
                    exact ih_n_5115 x_5131 1 _ _ _  ⟨(om_83b90de5 hi0_n_5115.1 vx_5131), (om_afcf07ef gc_5116 vx_5131)⟩ ⟨(om_1b364b1c kc_1), (om_02032f93 kc_1)⟩ (by have q0 := kc_0; have q1 := kc_1; have q2 := kc_2; have q3 := kc_3; omega) (ms_lt hm_n_5115 (om_dd4ae0bc vx_5131) (om_d5382009 gc_5116)) hG hP hD hS (lv_sub hl [0, 1, 2, 3] rfl)
          exact key_n_5115 (((iM_nameSize.toInt - (0 : Int32).toInt).toNat) + 1) 0 0 _ _ _  ⟨(om_b1de7dbe kc_0), (om_2dfe280d b_iM_nameSize.1 kc_0)⟩ ⟨(om_b1de7dbe kc_0), (om_270f4ea0 kc_0)⟩ (by first | (have q0 := kc_0; have q1 := kc_1; omega) | decide | assumption) (Nat.lt_add_one _) hG hP hD hS hl
        · skip
          have hG := hG.trans (if_neg c_5112)
          have gc_5112 := ti_nle c_5112 rfl kc_0
          refine lv_aload_n hx hb dX7_find_20 rfl (lv_at hl 1 rfl) ?_
          refine va_get (D := (dC, dI)) (ci := 7) (v := .ref rM_fresh) (C := RX7) (T := TX7) (N := 48) hx hb hts inX7 hown hK hP 0 rfl rfl 16 (by decide) (hts _ wd_156) (fun _ h9 => h9) rfl dX7_find_21 ?_
          refine lv_bipush (v := 125) hx hb dX7_find_24 (by decide) ?_
          refine lv_iload_n hx hb dX7_find_26 rfl (lv_at hl 0 rfl) ?_
          refine lv_iadd hx hb dX7_find_27 ?_
          refine lv_topi (fun x_5132 ex_5132 => ?_)
          have hG := hG.trans (lt_eq ex_5132)
          have vx_5132 : x_5132.toInt = z_5107.toInt + 125 := om_82a8c57f (ti_add ex_5132 kc_125 rfl (om_aca3d3b7 hi0_n_5108.1) (om_ed5dcb39 hi0_n_5108.2))
          refine va_iald hx hb hK hP 2 1 rfl rfl (ti_in vx_5132 (om_b2464657 hi0_n_5108.1) (om_8b08a55a hi0_n_5108.2)) dX7_find_28 ?_
          refine lv_topi (fun x_5133 ex_5133 => ?_)
          have hG := hG.trans (lt_eq ex_5133)
          have kx_5133 : (fM_fresh x_5132.toNatClampNeg).toInt = x_5133.toInt := by rw [ex_5133]
          have cx_5133 : (fM_fresh (125 + z_5107.toNatClampNeg)).toInt = x_5133.toInt := by rw [show 125 + z_5107.toNatClampNeg = x_5132.toNatClampNeg from (om_f728cf40 (ti_cl (x := z_5107) rfl hi0_n_5108.1) (ti_cl (x := x_5132) vx_5132 (om_b2464657 hi0_n_5108.1)))]; exact kx_5133
          refine lv_aload_n hx hb dX7_find_29 rfl (lv_at hl 1 rfl) ?_
          refine va_get (D := (dC, dI)) (ci := 7) (v := .int iM_nameSize) (C := RX7) (T := TX7) (N := 48) hx hb hts inX7 hown hK hP 0 rfl rfl 8 (by decide) (hts _ wd_404) (fun _ h9 => h9) rfl dX7_find_30 ?_
          refine lv_icmp_ne (tgt := 40) hx hb dX7_find_33 (by decide) (fun c_5134 => ?_) (fun c_5134 => ?_)
          · skip
            have hG := hG.trans (if_neg c_5134)
            have gc_5134 := ti_ne c_5134 rfl rfl
            refine lv_iconst (v := 0) hx hb dX7_find_40 (by decide) ?_
            refine lv_istore_n (lv' := [(2, .int 0), (1, .int z_5107), (0, .ref oM)]) hx hb dX7_find_41 rfl hl (by decide) rfl (fun ls hl => ?_)
            refine lv_iconst (v := 0) hx hb dX7_find_42 (by decide) ?_
            refine lv_istore_n (lv' := [(3, .int 0), (2, .int 0), (1, .int z_5107), (0, .ref oM)]) hx hb dX7_find_43 rfl hl (by decide) rfl (fun ls hl => ?_)
            have hl := lv_sub hl (l' := [(3, .int 0), (2, .int 0), (1, .int z_5107), (0, .ref oM)]) [0, 1, 2, 3] rfl
            have key_n_5137 : ∀ (n_5137 : Nat) (z_5135 : Int32) (z_5136 : Int32) (H : Heap) (locs : List Loc) (ls : Array Slot), (0 ≤ z_5135.toInt ∧ z_5135.toInt ≤ iM_nameSize.toInt) → (0 ≤ z_5136.toInt ∧ z_5136.toInt ≤ 1) → (1 ≤ z_5136.toInt → 1 ≤ (fM_fresh (125 + z_5107.toNatClampNeg)).toInt) → (iM_nameSize.toInt - z_5135.toInt).toNat < n_5137 → (PX7_find iM_nameSize fM_letters fM_fresh = HX7_find_1 iM_nameSize fM_letters fM_fresh z_5107 (fun (z_5107 : Int32) => HX7_find_0 iM_nameSize fM_letters fM_fresh n_5108 z_5107) n_5137 z_5135 z_5136) → va_P (dC, dI) vwCl [(oc7 oM iM_thrown rM_tape iM_taped iM_size iM_at iM_end iM_token iM_whole iM_nameSize iM_fault iM_place iM_trouble rM_letters iM_failed iM_hasCourt rM_r rM_fresh rM_told rM_read rM_st rM_undone rM_kept iM_undos iM_images rM_fresher iM_fresherSize iM_scale iM_night rM_heardRow rM_cutRow iM_breaths iM_cutMany iM_allBreaths rM_trial rM_words iM_fewestBreaths iM_orderMany iM_orderSum iM_leastOrder rM_often iM_setMany iM_someOf iM_allOf iM_allWeight iM_enoughWeight iM_worthSum iM_firstRest iM_leastDrawn), (arI rM_letters kM_letters 8 fM_letters), (arI rM_fresh kM_fresh 287 fM_fresh), (arI rM_read kM_read 90 fM_read)] H → va_D A [(oc7 oM iM_thrown rM_tape iM_taped iM_size iM_at iM_end iM_token iM_whole iM_nameSize iM_fault iM_place iM_trouble rM_letters iM_failed iM_hasCourt rM_r rM_fresh rM_told rM_read rM_st rM_undone rM_kept iM_undos iM_images rM_fresher iM_fresherSize iM_scale iM_night rM_heardRow rM_cutRow iM_breaths iM_cutMany iM_allBreaths rM_trial rM_words iM_fewestBreaths iM_orderMany iM_orderSum iM_leastOrder rM_often iM_setMany iM_someOf iM_allOf iM_allWeight iM_enoughWeight iM_worthSum iM_firstRest iM_leastDrawn), (arI rM_letters kM_letters 8 fM_letters), (arI rM_fresh kM_fresh 287 fM_fresh), (arI rM_read kM_read 90 fM_read)] → va_S A s.heap H locs → lv_has ls 4 [(3, .int z_5135), (2, .int z_5136), (1, .int z_5107), (0, .ref oM)] → W p l e (headSpec (Cond.code yX7_find cX7_find 4 (some .int) :: wG) ({ frames := 0, cells := 0, slots := 0, locals := 0 })).room s m ([.ref oM] : List Value).toArray below meth c H locs 0 0 (MQ below (va_Qi (fun (r : Int32) (_ : Nat) => (True ∧ (-1 ≤ r.toInt ∧ r.toInt < (fM_fresh 1).toInt ∧ r.toInt ≤ 17)) ∧ PX7_find iM_nameSize fM_letters fM_fresh = r) (fun (_ : Nat) (t : State) => Bw dC dI A [(oc7 oM iM_thrown rM_tape iM_taped iM_size iM_at iM_end iM_token iM_whole iM_nameSize iM_fault iM_place iM_trouble rM_letters iM_failed iM_hasCourt rM_r rM_fresh rM_told rM_read rM_st rM_undone rM_kept iM_undos iM_images rM_fresher iM_fresherSize iM_scale iM_night rM_heardRow rM_cutRow iM_breaths iM_cutMany iM_allBreaths rM_trial rM_words iM_fewestBreaths iM_orderMany iM_orderSum iM_leastOrder rM_often iM_setMany iM_someOf iM_allOf iM_allWeight iM_enoughWeight iM_worthSum iM_firstRest iM_leastDrawn), (arI rM_letters kM_letters 8 fM_letters), (arI rM_fresh kM_fresh 287 fM_fresh), (arI rM_read kM_read 90 fM_read)] [(kM_letters, .int), (kM_fresh, .int), (kM_read, .int)] t) A) ([.ref oM] : List Value).toArray s 0 0 A) (F0 m 44 ls []) := by
              intro n_5137
              induction n_5137 with
              | zero => intro z_5135 z_5136 H locs ls hi0_n_5137 hi1_n_5137 hi2_n_5137 hm; exact absurd hm (Nat.not_lt_zero _)
              | succ n_5137 ih_n_5137 =>
                intro z_5135 z_5136 H locs ls hi0_n_5137 hi1_n_5137 hi2_n_5137 hm_n_5137 hG hP hD hS hl
                have hG := hG.trans (HX7_find_1_eq _ _ _ _ _ _ _ _)
                have nm_z_5107 : 1 ≤ (fM_fresh (125 + z_5107.toNatClampNeg)).toInt → z_5107.toInt < (fM_fresh 1).toInt := fun h9 => by have q1 := ti_cl (x := z_5107) rfl hi0_n_5108.1; have q2 := r_P.1.names z_5107.toNatClampNeg (by omega) (by omega); omega
                have h_5138 := nm_z_5107 (by omega)
                clear nm_z_5107
                refine lv_iload_n hx hb dX7_find_44 rfl (lv_at hl 0 rfl) ?_
                refine lv_aload_n hx hb dX7_find_45 rfl (lv_at hl 3 rfl) ?_
                refine va_get (D := (dC, dI)) (ci := 7) (v := .int iM_nameSize) (C := RX7) (T := TX7) (N := 48) hx hb hts inX7 hown hK hP 0 rfl rfl 8 (by decide) (hts _ wd_404) (fun _ h9 => h9) rfl dX7_find_46 ?_
                refine lv_icmp_ge (tgt := 92) hx hb dX7_find_49 (by decide) (fun c_5139 => ?_) (fun c_5139 => ?_)
                · skip
                  have hG := hG.trans (if_pos c_5139)
                  have gc_5139 := ti_le c_5139 rfl rfl
                  refine lv_iload_n hx hb dX7_find_92 rfl (lv_at hl 1 rfl) ?_
                  refine lv_if_eq (tgt := 98) hx hb dX7_find_93 (by decide) (fun c_5140 => ?_) (fun c_5140 => ?_)
                  · skip
                    have hG := hG.trans (if_pos c_5140)
                    have gc_5140 := ti_eq c_5140 rfl kc_0
                    clear hi2_n_5137
                    obtain ⟨x_5141, ex_5141⟩ : ∃ z : Int32, z = z_5107 + Int32.ofInt 1 := ⟨_, rfl⟩
                    have hG := hG.trans (lt_eq ex_5141)
                    have vx_5141 : x_5141.toInt = z_5107.toInt + 1 := ti_add (y := 1) ex_5141 rfl kc_1 (om_4e4fce7e hi0_n_5108.1) (om_9d611bdb hi0_n_5108.2)
                    refine lv_iinc (v := x_5141) (lv' := [(1, .int x_5141), (3, .int z_5135), (2, .int z_5136), (0, .ref oM)]) hx hb dX7_find_98 hl (k := 2) rfl ex_5141.symm (by decide) rfl (fun ls hl => ?_)
                    refine lv_goto (tgt := 2) hx hb dX7_find_101 (by decide) ?_
                    exact ih_n_5108 x_5141 _ _ _  ⟨(om_83b90de5 hi0_n_5108.1 vx_5141), (om_497b4f92 gc_5109 vx_5141)⟩ (ms_lt hm_n_5108 (om_0886d075 vx_5141) (om_e7bc4510 gc_5109)) hG hP hD hS (lv_sub hl [0, 3] rfl)
                  · skip
                    have hG := hG.trans (if_neg c_5140)
                    have gc_5140 := ti_ne c_5140 rfl kc_0
                    replace gc_5140 : (-1) * z_5136.toInt + 1 ≤ 0 := om_e3003f79 gc_5140 hi1_n_5137.1
                    have h_5142 := hi2_n_5137 (by omega)
                    clear hi2_n_5137
                    refine lv_iload_n hx hb dX7_find_96 rfl (lv_at hl 2 rfl) ?_
                    exact wq_i hx hb hr 0 ⟨⟨trivial, (by first | omega | assumption)⟩, hG⟩ (fun t ht hW => Bw.to hP hD hK ht hW) hS dX7_find_97 hlocks
                · skip
                  have hG := hG.trans (if_neg c_5139)
                  have gc_5139 := ti_nle c_5139 rfl rfl
                  refine lv_iload_n hx hb dX7_find_52 rfl (lv_at hl 1 rfl) ?_
                  refine lv_if_eq (tgt := 92) hx hb dX7_find_53 (by decide) (fun c_5143 => ?_) (fun c_5143 => ?_)
                  · skip
                    have hG := hG.trans (if_pos c_5143)
                    have gc_5143 := ti_eq c_5143 rfl kc_0
                    clear hi2_n_5137
                    refine lv_iload_n hx hb dX7_find_92 rfl (lv_at hl 1 rfl) ?_
                    refine lv_if_eq (tgt := 98) hx hb dX7_find_93 (by decide) (fun c_5144 => ?_) (fun c_5144 => ?_)
                    · skip
                      have hG := hG.trans (if_pos c_5144)
                      have gc_5144 := ti_eq c_5144 rfl kc_0
                      obtain ⟨x_5145, ex_5145⟩ : ∃ z : Int32, z = z_5107 + Int32.ofInt 1 := ⟨_, rfl⟩
                      have hG := hG.trans (lt_eq ex_5145)
                      have vx_5145 : x_5145.toInt = z_5107.toInt + 1 := ti_add (y := 1) ex_5145 rfl kc_1 (om_4e4fce7e hi0_n_5108.1) (om_9d611bdb hi0_n_5108.2)
                      refine lv_iinc (v := x_5145) (lv' := [(1, .int x_5145), (3, .int z_5135), (2, .int z_5136), (0, .ref oM)]) hx hb dX7_find_98 hl (k := 2) rfl ex_5145.symm (by decide) rfl (fun ls hl => ?_)
                      refine lv_goto (tgt := 2) hx hb dX7_find_101 (by decide) ?_
                      exact ih_n_5108 x_5145 _ _ _  ⟨(om_83b90de5 hi0_n_5108.1 vx_5145), (om_497b4f92 gc_5109 vx_5145)⟩ (ms_lt hm_n_5108 (om_0886d075 vx_5145) (om_e7bc4510 gc_5109)) hG hP hD hS (lv_sub hl [0, 3] rfl)
                    · skip
                      have hG := hG.trans (if_neg c_5144)
                      have gc_5144 := ti_ne c_5144 rfl kc_0
                      replace gc_5144 : z_5136.toInt + 1 ≤ 0 := om_f992525b gc_5144 gc_5143
                      exact ((om_5185113d hi1_n_5137.1 gc_5144)).elim
                  · skip
                    have hG := hG.trans (if_neg c_5143)
                    have gc_5143 := ti_ne c_5143 rfl kc_0
                    replace gc_5143 : (-1) * z_5136.toInt + 1 ≤ 0 := om_e3003f79 gc_5143 hi1_n_5137.1
                    have h_5146 := hi2_n_5137 (by omega)
                    clear hi2_n_5137
                    refine lv_aload_n hx hb dX7_find_56 rfl (lv_at hl 3 rfl) ?_
                    refine va_get (D := (dC, dI)) (ci := 7) (v := .ref rM_fresh) (C := RX7) (T := TX7) (N := 48) hx hb hts inX7 hown hK hP 0 rfl rfl 16 (by decide) (hts _ wd_156) (fun _ h9 => h9) rfl dX7_find_57 ?_
                    refine lv_sipush (v := 143) hx hb dX7_find_60 (by decide) ?_
                    refine lv_bipush (v := 8) hx hb dX7_find_63 (by decide) ?_
                    refine lv_iload_n hx hb dX7_find_65 rfl (lv_at hl 2 rfl) ?_
                    refine lv_imul hx hb dX7_find_66 ?_
                    refine lv_topi (fun x_5147 ex_5147 => ?_)
                    have hG := hG.trans (lt_eq ex_5147)
                    have vx_5147 : x_5147.toInt = 8 * z_5107.toInt := ti_mul ex_5147 kc_8 rfl (om_894b99c2 hi0_n_5108.1) (om_3615877d hi0_n_5108.2)
                    refine lv_iadd hx hb dX7_find_67 ?_
                    refine lv_topi (fun x_5148 ex_5148 => ?_)
                    have hG := hG.trans (lt_eq ex_5148)
                    have vx_5148 : x_5148.toInt = 8 * z_5107.toInt + 143 := om_91565d1d (ti_add ex_5148 kc_143 vx_5147 (om_a8db8aec hi0_n_5108.1) (om_8871eb58 hi0_n_5108.2))
                    refine lv_iload_n hx hb dX7_find_68 rfl (lv_at hl 0 rfl) ?_
                    refine lv_iadd hx hb dX7_find_69 ?_
                    refine lv_topi (fun x_5149 ex_5149 => ?_)
                    have hG := hG.trans (lt_eq ex_5149)
                    have vx_5149 : x_5149.toInt = 8 * z_5107.toInt + z_5135.toInt + 143 := om_8d4a621a (ti_add ex_5149 vx_5148 rfl (om_467ad9f8 hi0_n_5108.1 hi0_n_5137.1) (om_29fa77d8 hns hi0_n_5108.2 hi0_n_5137.2))
                    refine va_iald hx hb hK hP 2 1 rfl rfl (ti_in vx_5149 (om_fdd59aa4 hi0_n_5108.1 hi0_n_5137.1) (om_4f58e249 hns gc_5109 gc_5139)) dX7_find_70 ?_
                    refine lv_topi (fun x_5150 ex_5150 => ?_)
                    have hG := hG.trans (lt_eq ex_5150)
                    have kx_5150 : (fM_fresh x_5149.toNatClampNeg).toInt = x_5150.toInt := by rw [ex_5150]
                    have cx_5150 : (fM_fresh (143 + 8 * z_5107.toNatClampNeg + z_5135.toNatClampNeg)).toInt = x_5150.toInt := by rw [show 143 + 8 * z_5107.toNatClampNeg + z_5135.toNatClampNeg = x_5149.toNatClampNeg from (om_ff716d49 (ti_cl (x := z_5107) rfl hi0_n_5108.1) (ti_cl (x := z_5135) rfl hi0_n_5137.1) (ti_cl (x := x_5149) vx_5149 (om_fdd59aa4 hi0_n_5108.1 hi0_n_5137.1)))]; exact kx_5150
                    refine lv_aload_n hx hb dX7_find_71 rfl (lv_at hl 3 rfl) ?_
                    refine va_get (D := (dC, dI)) (ci := 7) (v := .ref rM_letters) (C := RX7) (T := TX7) (N := 48) hx hb hts inX7 hown hK hP 0 rfl rfl 12 (by decide) (hts _ wd_154) (fun _ h9 => h9) rfl dX7_find_72 ?_
                    refine lv_iload_n hx hb dX7_find_75 rfl (lv_at hl 0 rfl) ?_
                    refine va_iald hx hb hK hP 1 0 rfl rfl (ti_in rfl hi0_n_5137.1 (om_9badf829 hns gc_5139)) dX7_find_76 ?_
                    refine lv_topi (fun x_5151 ex_5151 => ?_)
                    have hG := hG.trans (lt_eq ex_5151)
                    have kx_5151 : (fM_letters z_5135.toNatClampNeg).toInt = x_5151.toInt := by rw [ex_5151]
                    have cx_5151 := kx_5151
                    refine lv_icmp_ne (tgt := 84) hx hb dX7_find_77 (by decide) (fun c_5152 => ?_) (fun c_5152 => ?_)
                    · skip
                      have hG := hG.trans (if_neg c_5152)
                      have gc_5152 := ti_ne c_5152 rfl rfl
                      refine lv_iconst (v := 0) hx hb dX7_find_84 (by decide) ?_
                      refine lv_istore_n (lv' := [(2, .int 0), (3, .int z_5135), (1, .int z_5107), (0, .ref oM)]) hx hb dX7_find_85 rfl hl (by decide) rfl (fun ls hl => ?_)
                      obtain ⟨x_5153, ex_5153⟩ : ∃ z : Int32, z = z_5135 + Int32.ofInt 1 := ⟨_, rfl⟩
                      have hG := hG.trans (lt_eq ex_5153)
                      have vx_5153 : x_5153.toInt = z_5135.toInt + 1 := ti_add (y := 1) ex_5153 rfl kc_1 (om_4e4fce7e hi0_n_5137.1) (om_89e8ce70 hns hi0_n_5137.2)
                      refine lv_iinc (v := x_5153) (lv' := [(3, .int x_5153), (2, .int 0), (1, .int z_5107), (0, .ref oM)]) hx hb dX7_find_86 hl (k := 1) rfl ex_5153.symm (by decide) rfl (fun ls hl => ?_)
                      refine lv_goto (tgt := 44) hx hb dX7_find_89 (by decide) ?_
                      exact ih_n_5137 x_5153 0 _ _ _  ⟨(om_83b90de5 hi0_n_5137.1 vx_5153), (om_afcf07ef gc_5139 vx_5153)⟩ ⟨(om_b1de7dbe kc_0), (om_270f4ea0 kc_0)⟩ (by have q0 := kc_0; have q1 := kc_1; have q2 := kc_2; have q3 := kc_3; omega) (ms_lt hm_n_5137 (om_dd4ae0bc vx_5153) (om_d5382009 gc_5139)) hG hP hD hS (lv_sub hl [0, 1, 2, 3] rfl)
                    · skip
                      have hG := hG.trans (if_pos c_5152)
                      have gc_5152 := ti_eq c_5152 rfl rfl
                      refine lv_iconst (v := 1) hx hb dX7_find_80 (by decide) ?_
                      refine lv_goto (tgt := 85) hx hb dX7_find_81 (by decide) ?_
                      refine lv_istore_n (lv' := [(2, .int 1), (3, .int z_5135), (1, .int z_5107), (0, .ref oM)]) hx hb dX7_find_85 rfl hl (by decide) rfl (fun ls hl => ?_)
                      obtain ⟨x_5154, ex_5154⟩ : ∃ z : Int32, z = z_5135 + Int32.ofInt 1 := ⟨_, rfl⟩
                      have hG := hG.trans (lt_eq ex_5154)
                      have vx_5154 : x_5154.toInt = z_5135.toInt + 1 := ti_add (y := 1) ex_5154 rfl kc_1 (om_4e4fce7e hi0_n_5137.1) (om_89e8ce70 hns hi0_n_5137.2)
                      refine lv_iinc (v := x_5154) (lv' := [(3, .int x_5154), (2, .int 1), (1, .int z_5107), (0, .ref oM)]) hx hb dX7_find_86 hl (k := 1) rfl ex_5154.symm (by decide) rfl (fun ls hl => ?_)
                      refine lv_goto (tgt := 44) hx hb dX7_find_89 (by decide) ?_
                      exact ih_n_5137 x_5154 1 _ _ _  ⟨(om_83b90de5 hi0_n_5137.1 vx_5154), (om_afcf07ef gc_5139 vx_5154)⟩ ⟨(om_1b364b1c kc_1), (om_02032f93 kc_1)⟩ (by have q0 := kc_0; have q1 := kc_1; have q2 := kc_2; have q3 := kc_3; omega) (ms_lt hm_n_5137 (om_dd4ae0bc vx_5154) (om_d5382009 gc_5139)) hG hP hD hS (lv_sub hl [0, 1, 2, 3] rfl)
            exact key_n_5137 (((iM_nameSize.toInt - (0 : Int32).toInt).toNat) + 1) 0 0 _ _ _  ⟨(om_b1de7dbe kc_0), (om_2dfe280d b_iM_nameSize.1 kc_0)⟩ ⟨(om_b1de7dbe kc_0), (om_270f4ea0 kc_0)⟩ (by first | (have q0 := kc_0; have q1 := kc_1; omega) | decide | assumption) (Nat.lt_add_one _) hG hP hD hS hl
          · skip
            have hG := hG.trans (if_pos c_5134)
            have gc_5134 := ti_eq c_5134 rfl rfl
            refine lv_iconst (v := 1) hx hb dX7_find_36 (by decide) ?_
            refine lv_goto (tgt := 41) hx hb dX7_find_37 (by decide) ?_
            refine lv_istore_n (lv' := [(2, .int 1), (1, .int z_5107), (0, .ref oM)]) hx hb dX7_find_41 rfl hl (by decide) rfl (fun ls hl => ?_)
            refine lv_iconst (v := 0) hx hb dX7_find_42 (by decide) ?_
            refine lv_istore_n (lv' := [(3, .int 0), (2, .int 1), (1, .int z_5107), (0, .ref oM)]) hx hb dX7_find_43 rfl hl (by decide) rfl (fun ls hl => ?_)
            have hl := lv_sub hl (l' := [(3, .int 0), (2, .int 1), (1, .int z_5107), (0, .ref oM)]) [0, 1, 2, 3] rfl
            have key_n_5157 : ∀ (n_5157 : Nat) (z_5155 : Int32) (z_5156 : Int32) (H : Heap) (locs : List Loc) (ls : Array Slot), (0 ≤ z_5155.toInt ∧ z_5155.toInt ≤ iM_nameSize.toInt) → (0 ≤ z_5156.toInt ∧ z_5156.toInt ≤ 1) → (1 ≤ z_5156.toInt → 1 ≤ (fM_fresh (125 + z_5107.toNatClampNeg)).toInt) → (iM_nameSize.toInt - z_5155.toInt).toNat < n_5157 → (PX7_find iM_nameSize fM_letters fM_fresh = HX7_find_1 iM_nameSize fM_letters fM_fresh z_5107 (fun (z_5107 : Int32) => HX7_find_0 iM_nameSize fM_letters fM_fresh n_5108 z_5107) n_5157 z_5155 z_5156) → va_P (dC, dI) vwCl [(oc7 oM iM_thrown rM_tape iM_taped iM_size iM_at iM_end iM_token iM_whole iM_nameSize iM_fault iM_place iM_trouble rM_letters iM_failed iM_hasCourt rM_r rM_fresh rM_told rM_read rM_st rM_undone rM_kept iM_undos iM_images rM_fresher iM_fresherSize iM_scale iM_night rM_heardRow rM_cutRow iM_breaths iM_cutMany iM_allBreaths rM_trial rM_words iM_fewestBreaths iM_orderMany iM_orderSum iM_leastOrder rM_often iM_setMany iM_someOf iM_allOf iM_allWeight iM_enoughWeight iM_worthSum iM_firstRest iM_leastDrawn), (arI rM_letters kM_letters 8 fM_letters), (arI rM_fresh kM_fresh 287 fM_fresh), (arI rM_read kM_read 90 fM_read)] H → va_D A [(oc7 oM iM_thrown rM_tape iM_taped iM_size iM_at iM_end iM_token iM_whole iM_nameSize iM_fault iM_place iM_trouble rM_letters iM_failed iM_hasCourt rM_r rM_fresh rM_told rM_read rM_st rM_undone rM_kept iM_undos iM_images rM_fresher iM_fresherSize iM_scale iM_night rM_heardRow rM_cutRow iM_breaths iM_cutMany iM_allBreaths rM_trial rM_words iM_fewestBreaths iM_orderMany iM_orderSum iM_leastOrder rM_often iM_setMany iM_someOf iM_allOf iM_allWeight iM_enoughWeight iM_worthSum iM_firstRest iM_leastDrawn), (arI rM_letters kM_letters 8 fM_letters), (arI rM_fresh kM_fresh 287 fM_fresh), (arI rM_read kM_read 90 fM_read)] → va_S A s.heap H locs → lv_has ls 4 [(3, .int z_5155), (2, .int z_5156), (1, .int z_5107), (0, .ref oM)] → W p l e (headSpec (Cond.code yX7_find cX7_find 4 (some .int) :: wG) ({ frames := 0, cells := 0, slots := 0, locals := 0 })).room s m ([.ref oM] : List Value).toArray below meth c H locs 0 0 (MQ below (va_Qi (fun (r : Int32) (_ : Nat) => (True ∧ (-1 ≤ r.toInt ∧ r.toInt < (fM_fresh 1).toInt ∧ r.toInt ≤ 17)) ∧ PX7_find iM_nameSize fM_letters fM_fresh = r) (fun (_ : Nat) (t : State) => Bw dC dI A [(oc7 oM iM_thrown rM_tape iM_taped iM_size iM_at iM_end iM_token iM_whole iM_nameSize iM_fault iM_place iM_trouble rM_letters iM_failed iM_hasCourt rM_r rM_fresh rM_told rM_read rM_st rM_undone rM_kept iM_undos iM_images rM_fresher iM_fresherSize iM_scale iM_night rM_heardRow rM_cutRow iM_breaths iM_cutMany iM_allBreaths rM_trial rM_words iM_fewestBreaths iM_orderMany iM_orderSum iM_leastOrder rM_often iM_setMany iM_someOf iM_allOf iM_allWeight iM_enoughWeight iM_worthSum iM_firstRest iM_leastDrawn), (arI rM_letters kM_letters 8 fM_letters), (arI rM_fresh kM_fresh 287 fM_fresh), (arI rM_read kM_read 90 fM_read)] [(kM_letters, .int), (kM_fresh, .int), (kM_read, .int)] t) A) ([.ref oM] : List Value).toArray s 0 0 A) (F0 m 44 ls []) := by
              intro n_5157
              induction n_5157 with
              | zero => intro z_5155 z_5156 H locs ls hi0_n_5157 hi1_n_5157 hi2_n_5157 hm; exact absurd hm (Nat.not_lt_zero _)
              | succ n_5157 ih_n_5157 =>
                intro z_5155 z_5156 H locs ls hi0_n_5157 hi1_n_5157 hi2_n_5157 hm_n_5157 hG hP hD hS hl
                have hG := hG.trans (HX7_find_1_eq _ _ _ _ _ _ _ _)
                have nm_z_5107 : 1 ≤ (fM_fresh (125 + z_5107.toNatClampNeg)).toInt → z_5107.toInt < (fM_fresh 1).toInt := fun h9 => by have q1 := ti_cl (x := z_5107) rfl hi0_n_5108.1; have q2 := r_P.1.names z_5107.toNatClampNeg (by omega) (by omega); omega
                have h_5158 := nm_z_5107 (by omega)
                clear nm_z_5107
                refine lv_iload_n hx hb dX7_find_44 rfl (lv_at hl 0 rfl) ?_
                refine lv_aload_n hx hb dX7_find_45 rfl (lv_at hl 3 rfl) ?_
                refine va_get (D := (dC, dI)) (ci := 7) (v := .int iM_nameSize) (C := RX7) (T := TX7) (N := 48) hx hb hts inX7 hown hK hP 0 rfl rfl 8 (by decide) (hts _ wd_404) (fun _ h9 => h9) rfl dX7_find_46 ?_
                refine lv_icmp_ge (tgt := 92) hx hb dX7_find_49 (by decide) (fun c_5159 => ?_) (fun c_5159 => ?_)
                · skip
                  have hG := hG.trans (if_pos c_5159)
                  have gc_5159 := ti_le c_5159 rfl rfl
                  refine lv_iload_n hx hb dX7_find_92 rfl (lv_at hl 1 rfl) ?_
                  refine lv_if_eq (tgt := 98) hx hb dX7_find_93 (by decide) (fun c_5160 => ?_) (fun c_5160 => ?_)
                  · skip
                    have hG := hG.trans (if_pos c_5160)
                    have gc_5160 := ti_eq c_5160 rfl kc_0
                    clear hi2_n_5157
                    obtain ⟨x_5161, ex_5161⟩ : ∃ z : Int32, z = z_5107 + Int32.ofInt 1 := ⟨_, rfl⟩
                    have hG := hG.trans (lt_eq ex_5161)
                    have vx_5161 : x_5161.toInt = z_5107.toInt + 1 := ti_add (y := 1) ex_5161 rfl kc_1 (om_4e4fce7e hi0_n_5108.1) (om_9d611bdb hi0_n_5108.2)
                    refine lv_iinc (v := x_5161) (lv' := [(1, .int x_5161), (3, .int z_5155), (2, .int z_5156), (0, .ref oM)]) hx hb dX7_find_98 hl (k := 2) rfl ex_5161.symm (by decide) rfl (fun ls hl => ?_)
                    refine lv_goto (tgt := 2) hx hb dX7_find_101 (by decide) ?_
                    exact ih_n_5108 x_5161 _ _ _  ⟨(om_83b90de5 hi0_n_5108.1 vx_5161), (om_497b4f92 gc_5109 vx_5161)⟩ (ms_lt hm_n_5108 (om_0886d075 vx_5161) (om_e7bc4510 gc_5109)) hG hP hD hS (lv_sub hl [0, 3] rfl)
                  · skip
                    have hG := hG.trans (if_neg c_5160)
                    have gc_5160 := ti_ne c_5160 rfl kc_0
                    replace gc_5160 : (-1) * z_5156.toInt + 1 ≤ 0 := om_e3003f79 gc_5160 hi1_n_5157.1
                    have h_5162 := hi2_n_5157 (by omega)
                    clear hi2_n_5157
                    refine lv_iload_n hx hb dX7_find_96 rfl (lv_at hl 2 rfl) ?_
                    exact wq_i hx hb hr 0 ⟨⟨trivial, (by first | omega | assumption)⟩, hG⟩ (fun t ht hW => Bw.to hP hD hK ht hW) hS dX7_find_97 hlocks
                · skip
                  have hG := hG.trans (if_neg c_5159)
                  have gc_5159 := ti_nle c_5159 rfl rfl
                  refine lv_iload_n hx hb dX7_find_52 rfl (lv_at hl 1 rfl) ?_
                  refine lv_if_eq (tgt := 92) hx hb dX7_find_53 (by decide) (fun c_5163 => ?_) (fun c_5163 => ?_)
                  · skip
                    have hG := hG.trans (if_pos c_5163)
                    have gc_5163 := ti_eq c_5163 rfl kc_0
                    clear hi2_n_5157
                    refine lv_iload_n hx hb dX7_find_92 rfl (lv_at hl 1 rfl) ?_
                    refine lv_if_eq (tgt := 98) hx hb dX7_find_93 (by decide) (fun c_5164 => ?_) (fun c_5164 => ?_)
                    · skip
                      have hG := hG.trans (if_pos c_5164)
                      have gc_5164 := ti_eq c_5164 rfl kc_0
                      obtain ⟨x_5165, ex_5165⟩ : ∃ z : Int32, z = z_5107 + Int32.ofInt 1 := ⟨_, rfl⟩
                      have hG := hG.trans (lt_eq ex_5165)
                      have vx_5165 : x_5165.toInt = z_5107.toInt + 1 := ti_add (y := 1) ex_5165 rfl kc_1 (om_4e4fce7e hi0_n_5108.1) (om_9d611bdb hi0_n_5108.2)
                      refine lv_iinc (v := x_5165) (lv' := [(1, .int x_5165), (3, .int z_5155), (2, .int z_5156), (0, .ref oM)]) hx hb dX7_find_98 hl (k := 2) rfl ex_5165.symm (by decide) rfl (fun ls hl => ?_)
                      refine lv_goto (tgt := 2) hx hb dX7_find_101 (by decide) ?_
                      exact ih_n_5108 x_5165 _ _ _  ⟨(om_83b90de5 hi0_n_5108.1 vx_5165), (om_497b4f92 gc_5109 vx_5165)⟩ (ms_lt hm_n_5108 (om_0886d075 vx_5165) (om_e7bc4510 gc_5109)) hG hP hD hS (lv_sub hl [0, 3] rfl)
                    · skip
                      have hG := hG.trans (if_neg c_5164)
                      have gc_5164 := ti_ne c_5164 rfl kc_0
                      replace gc_5164 : z_5156.toInt + 1 ≤ 0 := om_f992525b gc_5164 gc_5163
                      exact ((om_5185113d hi1_n_5157.1 gc_5164)).elim
                  · skip
                    have hG := hG.trans (if_neg c_5163)
                    have gc_5163 := ti_ne c_5163 rfl kc_0
                    replace gc_5163 : (-1) * z_5156.toInt + 1 ≤ 0 := om_e3003f79 gc_5163 hi1_n_5157.1
                    have h_5166 := hi2_n_5157 (by omega)
                    clear hi2_n_5157
                    refine lv_aload_n hx hb dX7_find_56 rfl (lv_at hl 3 rfl) ?_
                    refine va_get (D := (dC, dI)) (ci := 7) (v := .ref rM_fresh) (C := RX7) (T := TX7) (N := 48) hx hb hts inX7 hown hK hP 0 rfl rfl 16 (by decide) (hts _ wd_156) (fun _ h9 => h9) rfl dX7_find_57 ?_
                    refine lv_sipush (v := 143) hx hb dX7_find_60 (by decide) ?_
                    refine lv_bipush (v := 8) hx hb dX7_find_63 (by decide) ?_
                    refine lv_iload_n hx hb dX7_find_65 rfl (lv_at hl 2 rfl) ?_
                    refine lv_imul hx hb dX7_find_66 ?_
                    refine lv_topi (fun x_5167 ex_5167 => ?_)
                    have hG := hG.trans (lt_eq ex_5167)
                    have vx_5167 : x_5167.toInt = 8 * z_5107.toInt := ti_mul ex_5167 kc_8 rfl (om_894b99c2 hi0_n_5108.1) (om_3615877d hi0_n_5108.2)
                    refine lv_iadd hx hb dX7_find_67 ?_
                    refine lv_topi (fun x_5168 ex_5168 => ?_)
                    have hG := hG.trans (lt_eq ex_5168)
                    have vx_5168 : x_5168.toInt = 8 * z_5107.toInt + 143 := om_91565d1d (ti_add ex_5168 kc_143 vx_5167 (om_a8db8aec hi0_n_5108.1) (om_8871eb58 hi0_n_5108.2))
                    refine lv_iload_n hx hb dX7_find_68 rfl (lv_at hl 0 rfl) ?_
                    refine lv_iadd hx hb dX7_find_69 ?_
                    refine lv_topi (fun x_5169 ex_5169 => ?_)
                    have hG := hG.trans (lt_eq ex_5169)
                    have vx_5169 : x_5169.toInt = 8 * z_5107.toInt + z_5155.toInt + 143 := om_8d4a621a (ti_add ex_5169 vx_5168 rfl (om_467ad9f8 hi0_n_5108.1 hi0_n_5157.1) (om_29fa77d8 hns hi0_n_5108.2 hi0_n_5157.2))
                    refine va_iald hx hb hK hP 2 1 rfl rfl (ti_in vx_5169 (om_fdd59aa4 hi0_n_5108.1 hi0_n_5157.1) (om_4f58e249 hns gc_5109 gc_5159)) dX7_find_70 ?_
                    refine lv_topi (fun x_5170 ex_5170 => ?_)
                    have hG := hG.trans (lt_eq ex_5170)
                    have kx_5170 : (fM_fresh x_5169.toNatClampNeg).toInt = x_5170.toInt := by rw [ex_5170]
                    have cx_5170 : (fM_fresh (143 + 8 * z_5107.toNatClampNeg + z_5155.toNatClampNeg)).toInt = x_5170.toInt := by rw [show 143 + 8 * z_5107.toNatClampNeg + z_5155.toNatClampNeg = x_5169.toNatClampNeg from (om_ff716d49 (ti_cl (x := z_5107) rfl hi0_n_5108.1) (ti_cl (x := z_5155) rfl hi0_n_5157.1) (ti_cl (x := x_5169) vx_5169 (om_fdd59aa4 hi0_n_5108.1 hi0_n_5157.1)))]; exact kx_5170
                    refine lv_aload_n hx hb dX7_find_71 rfl (lv_at hl 3 rfl) ?_
                    refine va_get (D := (dC, dI)) (ci := 7) (v := .ref rM_letters) (C := RX7) (T := TX7) (N := 48) hx hb hts inX7 hown hK hP 0 rfl rfl 12 (by decide) (hts _ wd_154) (fun _ h9 => h9) rfl dX7_find_72 ?_
                    refine lv_iload_n hx hb dX7_find_75 rfl (lv_at hl 0 rfl) ?_
                    refine va_iald hx hb hK hP 1 0 rfl rfl (ti_in rfl hi0_n_5157.1 (om_9badf829 hns gc_5159)) dX7_find_76 ?_
                    refine lv_topi (fun x_5171 ex_5171 => ?_)
                    have hG := hG.trans (lt_eq ex_5171)
                    have kx_5171 : (fM_letters z_5155.toNatClampNeg).toInt = x_5171.toInt := by rw [ex_5171]
                    have cx_5171 := kx_5171
                    refine lv_icmp_ne (tgt := 84) hx hb dX7_find_77 (by decide) (fun c_5172 => ?_) (fun c_5172 => ?_)
                    · skip
                      have hG := hG.trans (if_neg c_5172)
                      have gc_5172 := ti_ne c_5172 rfl rfl
                      refine lv_iconst (v := 0) hx hb dX7_find_84 (by decide) ?_
                      refine lv_istore_n (lv' := [(2, .int 0), (3, .int z_5155), (1, .int z_5107), (0, .ref oM)]) hx hb dX7_find_85 rfl hl (by decide) rfl (fun ls hl => ?_)
                      obtain ⟨x_5173, ex_5173⟩ : ∃ z : Int32, z = z_5155 + Int32.ofInt 1 := ⟨_, rfl⟩
                      have hG := hG.trans (lt_eq ex_5173)
                      have vx_5173 : x_5173.toInt = z_5155.toInt + 1 := ti_add (y := 1) ex_5173 rfl kc_1 (om_4e4fce7e hi0_n_5157.1) (om_89e8ce70 hns hi0_n_5157.2)
                      refine lv_iinc (v := x_5173) (lv' := [(3, .int x_5173), (2, .int 0), (1, .int z_5107), (0, .ref oM)]) hx hb dX7_find_86 hl (k := 1) rfl ex_5173.symm (by decide) rfl (fun ls hl => ?_)
                      refine lv_goto (tgt := 44) hx hb dX7_find_89 (by decide) ?_
                      exact ih_n_5157 x_5173 0 _ _ _  ⟨(om_83b90de5 hi0_n_5157.1 vx_5173), (om_afcf07ef gc_5159 vx_5173)⟩ ⟨(om_b1de7dbe kc_0), (om_270f4ea0 kc_0)⟩ (by have q0 := kc_0; have q1 := kc_1; have q2 := kc_2; have q3 := kc_3; omega) (ms_lt hm_n_5157 (om_dd4ae0bc vx_5173) (om_d5382009 gc_5159)) hG hP hD hS (lv_sub hl [0, 1, 2, 3] rfl)
                    · skip
                      have hG := hG.trans (if_pos c_5172)
                      have gc_5172 := ti_eq c_5172 rfl rfl
                      refine lv_iconst (v := 1) hx hb dX7_find_80 (by decide) ?_
                      refine lv_goto (tgt := 85) hx hb dX7_find_81 (by decide) ?_
                      refine lv_istore_n (lv' := [(2, .int 1), (3, .int z_5155), (1, .int z_5107), (0, .ref oM)]) hx hb dX7_find_85 rfl hl (by decide) rfl (fun ls hl => ?_)
                      obtain ⟨x_5174, ex_5174⟩ : ∃ z : Int32, z = z_5155 + Int32.ofInt 1 := ⟨_, rfl⟩
                      have hG := hG.trans (lt_eq ex_5174)
                      have vx_5174 : x_5174.toInt = z_5155.toInt + 1 := ti_add (y := 1) ex_5174 rfl kc_1 (om_4e4fce7e hi0_n_5157.1) (om_89e8ce70 hns hi0_n_5157.2)
                      refine lv_iinc (v := x_5174) (lv' := [(3, .int x_5174), (2, .int 1), (1, .int z_5107), (0, .ref oM)]) hx hb dX7_find_86 hl (k := 1) rfl ex_5174.symm (by decide) rfl (fun ls hl => ?_)
                      refine lv_goto (tgt := 44) hx hb dX7_find_89 (by decide) ?_
                      exact ih_n_5157 x_5174 1 _ _ _  ⟨(om_83b90de5 hi0_n_5157.1 vx_5174), (om_afcf07ef gc_5159 vx_5174)⟩ ⟨(om_1b364b1c kc_1), (om_02032f93 kc_1)⟩ (by have q0 := kc_0; have q1 := kc_1; have q2 := kc_2; have q3 := kc_3; omega) (ms_lt hm_n_5157 (om_dd4ae0bc vx_5174) (om_d5382009 gc_5159)) hG hP hD hS (lv_sub hl [0, 1, 2, 3] rfl)
            exact key_n_5157 (((iM_nameSize.toInt - (0 : Int32).toInt).toNat) + 1) 0 1 _ _ _  ⟨(om_b1de7dbe kc_0), (om_2dfe280d b_iM_nameSize.1 kc_0)⟩ ⟨(om_1b364b1c kc_1), (om_02032f93 kc_1)⟩ (by first | (have q0 := kc_0; have q1 := kc_1; omega) | decide | assumption) (Nat.lt_add_one _) hG hP hD hS hl
  exact key_n_5108 (((18 - (0 : Int32).toInt).toNat) + 1) 0 _ _ _  ⟨(om_b1de7dbe kc_0), (om_8ad0707b kc_0)⟩ (Nat.lt_add_one _) hG hP hD hS hl
set_option maxHeartbeats 4000000 in
set_option maxRecDepth 100000 in
theorem tX7_newName (l : Launch) (dC : Nat → ClassId) (dI : Nat → Nat → Nat) (sz : Nat) (oM : Nat) (iM_thrown : Int32) (rM_tape : Nat) (fM_tape : Nat → Int32) (kM_tape : ClassId) (iM_taped : Int32) (iM_size : Int32) (iM_at : Int32) (iM_end : Int32) (iM_token : Int32) (iM_whole : Int32) (iM_nameSize : Int32) (iM_fault : Int32) (iM_place : Int32) (iM_trouble : Int32) (rM_letters : Nat) (fM_letters : Nat → Int32) (kM_letters : ClassId) (iM_failed : Int32) (iM_hasCourt : Int32) (rM_r : Nat) (rM_fresh : Nat) (fM_fresh : Nat → Int32) (kM_fresh : ClassId) (rM_told : Nat) (rM_read : Nat) (fM_read : Nat → Int32) (kM_read : ClassId) (rM_st : Nat) (rM_undone : Nat) (rM_kept : Nat) (iM_undos : Int32) (iM_images : Int32) (rM_fresher : Nat) (fM_fresher : Nat → Int32) (kM_fresher : ClassId) (iM_fresherSize : Int32) (iM_scale : Int32) (iM_night : Int32) (rM_heardRow : Nat) (rM_cutRow : Nat) (iM_breaths : Int32) (iM_cutMany : Int32) (iM_allBreaths : Int32) (rM_trial : Nat) (rM_words : Nat) (iM_fewestBreaths : Int32) (iM_orderMany : Int32) (iM_orderSum : Int32) (iM_leastOrder : Int32) (rM_often : Nat) (iM_setMany : Int32) (iM_someOf : Int32) (iM_allOf : Int32) (iM_allWeight : Int64) (iM_enoughWeight : Int64) (iM_worthSum : Int64) (iM_firstRest : Int32) (iM_leastDrawn : Int32) (b_iM_taped : 0 ≤ iM_taped.toInt ∧ iM_taped.toInt ≤ 900) (b_iM_size : 0 ≤ iM_size.toInt ∧ iM_size.toInt ≤ 900) (b_iM_end : 0 ≤ iM_end.toInt ∧ iM_end.toInt ≤ 900) (b_iM_nameSize : 0 ≤ iM_nameSize.toInt ∧ iM_nameSize.toInt ≤ 900) (b_iM_failed : 0 ≤ iM_failed.toInt ∧ iM_failed.toInt ≤ 1) (b_iM_hasCourt : 0 ≤ iM_hasCourt.toInt ∧ iM_hasCourt.toInt ≤ 1) (b_iM_undos : 0 ≤ iM_undos.toInt ∧ iM_undos.toInt ≤ 16) (b_iM_images : 0 ≤ iM_images.toInt ∧ iM_images.toInt ≤ 3) (b_iM_scale : 1 ≤ iM_scale.toInt ∧ iM_scale.toInt ≤ 1296) (b_iM_breaths : 0 ≤ iM_breaths.toInt ∧ iM_breaths.toInt ≤ 399) (b_iM_cutMany : 0 ≤ iM_cutMany.toInt ∧ iM_cutMany.toInt ≤ 399) (r_T : ImpP (iM_token.toInt = 2) (iM_nameSize.toInt ≤ 8)) (r_P : POk fM_fresh fM_read)  : Met l yX7_newName (Cond.code yX7_newName cX7_newName 1 none :: wG) ({ frames := 6, cells := 0, slots := 0, locals := 154 }) (va_Pc [.ref oM] (Pw dC dI sz [(oc7 oM iM_thrown rM_tape iM_taped iM_size iM_at iM_end iM_token iM_whole iM_nameSize iM_fault iM_place iM_trouble rM_letters iM_failed iM_hasCourt rM_r rM_fresh rM_told rM_read rM_st rM_undone rM_kept iM_undos iM_images rM_fresher iM_fresherSize iM_scale iM_night rM_heardRow rM_cutRow iM_breaths iM_cutMany iM_allBreaths rM_trial rM_words iM_fewestBreaths iM_orderMany iM_orderSum iM_leastOrder rM_often iM_setMany iM_someOf iM_allOf iM_allWeight iM_enoughWeight iM_worthSum iM_firstRest iM_leastDrawn), (arI rM_tape kM_tape 900 fM_tape), (arI rM_letters kM_letters 8 fM_letters), (arI rM_fresh kM_fresh 287 fM_fresh), (arI rM_read kM_read 90 fM_read), (arI rM_fresher kM_fresher 8 fM_fresher)] [(kM_tape, .int), (kM_letters, .int), (kM_fresh, .int), (kM_read, .int), (kM_fresher, .int)])) (va_Qv (fun (_ : Nat) => True) (fun (_ : Nat) (t : State) => ∃ (niM_at : Int32) (niM_end : Int32) (niM_token : Int32) (niM_whole : Int32) (niM_nameSize : Int32) (niM_fault : Int32) (niM_place : Int32) (niM_failed : Int32) (niM_fresherSize : Int32) (nfM_letters : Nat → Int32) (nfM_fresher : Nat → Int32), (0 ≤ niM_end.toInt ∧ niM_end.toInt ≤ 900) ∧ (0 ≤ niM_nameSize.toInt ∧ niM_nameSize.toInt ≤ 900) ∧ (0 ≤ niM_failed.toInt ∧ niM_failed.toInt ≤ 1) ∧ (iM_end.toInt ≤ niM_end.toInt) ∧ (ImpP (niM_token.toInt = 2) (niM_nameSize.toInt ≤ 8)) ∧ (iM_failed.toInt ≤ niM_failed.toInt) ∧ (ImpP (niM_failed.toInt ≤ 0 ∧ niM_token.toInt = 59 ) (iM_end.toInt + 1 ≤ niM_end.toInt)) ∧ (PX7_newName fM_tape iM_size iM_at iM_end iM_token iM_whole iM_nameSize iM_fault iM_place fM_letters iM_failed fM_fresh fM_fresher iM_fresherSize = (niM_at, niM_end, niM_token, niM_whole, niM_nameSize, niM_fault, niM_place, niM_failed, niM_fresherSize, nfM_letters, nfM_fresher)) ∧ Bw dC dI (va_A [(oc7 oM iM_thrown rM_tape iM_taped iM_size iM_at iM_end iM_token iM_whole iM_nameSize iM_fault iM_place iM_trouble rM_letters iM_failed iM_hasCourt rM_r rM_fresh rM_told rM_read rM_st rM_undone rM_kept iM_undos iM_images rM_fresher iM_fresherSize iM_scale iM_night rM_heardRow rM_cutRow iM_breaths iM_cutMany iM_allBreaths rM_trial rM_words iM_fewestBreaths iM_orderMany iM_orderSum iM_leastOrder rM_often iM_setMany iM_someOf iM_allOf iM_allWeight iM_enoughWeight iM_worthSum iM_firstRest iM_leastDrawn), (arI rM_tape kM_tape 900 fM_tape), (arI rM_letters kM_letters 8 fM_letters), (arI rM_fresh kM_fresh 287 fM_fresh), (arI rM_read kM_read 90 fM_read), (arI rM_fresher kM_fresher 8 fM_fresher)] sz) [(oc7 oM iM_thrown rM_tape iM_taped iM_size niM_at niM_end niM_token niM_whole niM_nameSize niM_fault niM_place iM_trouble rM_letters niM_failed iM_hasCourt rM_r rM_fresh rM_told rM_read rM_st rM_undone rM_kept iM_undos iM_images rM_fresher niM_fresherSize iM_scale iM_night rM_heardRow rM_cutRow iM_breaths iM_cutMany iM_allBreaths rM_trial rM_words iM_fewestBreaths iM_orderMany iM_orderSum iM_leastOrder rM_often iM_setMany iM_someOf iM_allOf iM_allWeight iM_enoughWeight iM_worthSum iM_firstRest iM_leastDrawn), (arI rM_tape kM_tape 900 fM_tape), (arI rM_letters kM_letters 8 nfM_letters), (arI rM_fresh kM_fresh 287 fM_fresh), (arI rM_read kM_read 90 fM_read), (arI rM_fresher kM_fresher 8 nfM_fresher)] [(kM_tape, .int), (kM_letters, .int), (kM_fresh, .int), (kM_read, .int), (kM_fresher, .int)] t) (va_A [(oc7 oM iM_thrown rM_tape iM_taped iM_size iM_at iM_end iM_token iM_whole iM_nameSize iM_fault iM_place iM_trouble rM_letters iM_failed iM_hasCourt rM_r rM_fresh rM_told rM_read rM_st rM_undone rM_kept iM_undos iM_images rM_fresher iM_fresherSize iM_scale iM_night rM_heardRow rM_cutRow iM_breaths iM_cutMany iM_allBreaths rM_trial rM_words iM_fewestBreaths iM_orderMany iM_orderSum iM_leastOrder rM_often iM_setMany iM_someOf iM_allOf iM_allWeight iM_enoughWeight iM_worthSum iM_firstRest iM_leastDrawn), (arI rM_tape kM_tape 900 fM_tape), (arI rM_letters kM_letters 8 fM_letters), (arI rM_fresh kM_fresh 287 fM_fresh), (arI rM_read kM_read 90 fM_read), (arI rM_fresher kM_fresher 8 fM_fresher)] sz)) 0 0 (va_A [(oc7 oM iM_thrown rM_tape iM_taped iM_size iM_at iM_end iM_token iM_whole iM_nameSize iM_fault iM_place iM_trouble rM_letters iM_failed iM_hasCourt rM_r rM_fresh rM_told rM_read rM_st rM_undone rM_kept iM_undos iM_images rM_fresher iM_fresherSize iM_scale iM_night rM_heardRow rM_cutRow iM_breaths iM_cutMany iM_allBreaths rM_trial rM_words iM_fewestBreaths iM_orderMany iM_orderSum iM_leastOrder rM_often iM_setMany iM_someOf iM_allOf iM_allWeight iM_enoughWeight iM_worthSum iM_firstRest iM_leastDrawn), (arI rM_tape kM_tape 900 fM_tape), (arI rM_letters kM_letters 8 fM_letters), (arI rM_fresh kM_fresh 287 fM_fresh), (arI rM_read kM_read 90 fM_read), (arI rM_fresher kM_fresher 8 fM_fresher)] sz) := by
  refine Met.ofW (cc := cX7_newName) (maxL := 1) (ret := none) pnX7 rfl ?_
  intro p e s m args below meth c s₁ B hml hv
  obtain ⟨rfl, hsz, hP, hK, hD0, hE⟩ := hv
  have hx := B.exec
  have hb := B.bytes
  have hr := B.returns
  have hts : ∀ w ∈ wG, w.before ([.ref oM] : List Value).toArray s = true := fun w h => atoms_spec (ws := Cond.code yX7_newName cX7_newName 1 none :: wG) B.pre w (List.mem_cons_of_mem _ h)
  have hown : s.vm.findClass RX7 = some m.cls := own_of B.named rfl
  have hlocks := B.notSynchronized
  subst hsz
  have hD := hD0.self (sz := s.heap.size)
  generalize hAe : va_A [(oc7 oM iM_thrown rM_tape iM_taped iM_size iM_at iM_end iM_token iM_whole iM_nameSize iM_fault iM_place iM_trouble rM_letters iM_failed iM_hasCourt rM_r rM_fresh rM_told rM_read rM_st rM_undone rM_kept iM_undos iM_images rM_fresher iM_fresherSize iM_scale iM_night rM_heardRow rM_cutRow iM_breaths iM_cutMany iM_allBreaths rM_trial rM_words iM_fewestBreaths iM_orderMany iM_orderSum iM_leastOrder rM_often iM_setMany iM_someOf iM_allOf iM_allWeight iM_enoughWeight iM_worthSum iM_firstRest iM_leastDrawn), (arI rM_tape kM_tape 900 fM_tape), (arI rM_letters kM_letters 8 fM_letters), (arI rM_fresh kM_fresh 287 fM_fresh), (arI rM_read kM_read 90 fM_read), (arI rM_fresher kM_fresher 8 fM_fresher)] s.heap.size = A at hD hE ⊢
  have hA : ∀ q : Nat, s.heap.size ≤ q → A q := fun q h => by rw [← hAe]; exact Or.inr h
  have hS : va_S A s.heap s.heap [] := va_S.rf
  have hl := lv_entry ([.ref oM]) (n := 1) (Nat.le_of_ble_eq_true rfl)
  rw [lg_entry_eq]
  generalize (lg_sl ([.ref oM]) ++ List.replicate (1 - (lg_sl ([.ref oM])).length) Slot.unset).toArray = ls at hl ⊢
  have hl : lv_has ls 1 [(0, .ref oM)] := hl
  have hG := PX7_newName_eq fM_tape iM_size iM_at iM_end iM_token iM_whole iM_nameSize iM_fault iM_place fM_letters iM_failed fM_fresh fM_fresher iM_fresherSize
  have pl_fM_fresh := r_P.lins
  refine lv_aload_n hx hb dX7_newName_0 rfl (lv_at hl 0 rfl) ?_
  refine va_get (D := (dC, dI)) (ci := 7) (v := .int iM_failed) (C := RX7) (T := TX7) (N := 48) hx hb hts inX7 hown hK hP 0 rfl rfl 13 (by decide) (hts _ wd_380) (fun _ h9 => h9) rfl dX7_newName_1 ?_
  refine lv_if_eq (tgt := 8) hx hb dX7_newName_4 (by decide) (fun c_5197 => ?_) (fun c_5197 => ?_)
  · skip
    have hG := hG.trans (if_pos c_5197)
    have gc_5197 := ti_eq c_5197 rfl kc_0
    refine lv_aload_n hx hb dX7_newName_8 rfl (lv_at hl 0 rfl) ?_
    have hMs := ml_of hD [true, false, true, false, false, false] (wc := [(oc7 oM iM_thrown rM_tape iM_taped iM_size iM_at iM_end iM_token iM_whole iM_nameSize iM_fault iM_place iM_trouble rM_letters iM_failed iM_hasCourt rM_r rM_fresh rM_told rM_read rM_st rM_undone rM_kept iM_undos iM_images rM_fresher iM_fresherSize iM_scale iM_night rM_heardRow rM_cutRow iM_breaths iM_cutMany iM_allBreaths rM_trial rM_words iM_fewestBreaths iM_orderMany iM_orderSum iM_leastOrder rM_often iM_setMany iM_someOf iM_allOf iM_allWeight iM_enoughWeight iM_worthSum iM_firstRest iM_leastDrawn), (arI rM_letters kM_letters 8 fM_letters)]) rfl
    have hFc := va_freeM hD hS hA _ hMs
    refine va_callv (va_runV (As := []) (rest := []) ⟨hx, hb, hml, hown, hts⟩ (tX7_mustName l dC dI _ oM iM_thrown rM_tape iM_taped iM_size iM_at iM_end iM_token iM_whole iM_nameSize iM_fault iM_place iM_trouble rM_letters fM_letters kM_letters iM_failed iM_hasCourt rM_r rM_fresh rM_told rM_read rM_st rM_undone rM_kept iM_undos iM_images rM_fresher iM_fresherSize iM_scale iM_night rM_heardRow rM_cutRow iM_breaths iM_cutMany iM_allBreaths rM_trial rM_words iM_fewestBreaths iM_orderMany iM_orderSum iM_leastOrder rM_often iM_setMany iM_someOf iM_allOf iM_allWeight iM_enoughWeight iM_worthSum iM_firstRest iM_leastDrawn b_iM_taped b_iM_size b_iM_end b_iM_nameSize b_iM_failed b_iM_hasCourt b_iM_undos b_iM_images b_iM_scale b_iM_breaths b_iM_cutMany r_T) (cwV 0 hts (wd_V wd_467 wd_468 wd_469 wd_5 (wd_c wd_470)) rfl rfl rfl dv_yX7_mustName_0 ⟨Nat.le_of_ble_eq_true rfl, Nat.le_of_ble_eq_true rfl⟩) ⟨Pw.fb, recvX7 hK hP (q0 := 0) rfl, fun U hU hW => Pw.to (hP.ms _ hMs) (hD.ms _ hMs) (hK.ms [false, true, false, false, false] rfl) hE hS hFc hU hW⟩ rfl rfl hl.1 rfl (lv_room (Nat.le_of_ble_eq_true rfl)) dX7_newName_9 ⟨Nat.le_of_ble_eq_true rfl, Nat.le_of_ble_eq_true rfl⟩) hS (fun q _ h => hFc q h) hFc (fun u t H locs ht hvm hw hB hz1 hk1 hS => ?_)
    refine ex_3_4 hB (fun x_5198 x_5199 x_5200 b_x_5200 e_x_5198_0 e_x_5198_1 e_x_5198_2 hB => ?_)
    obtain ⟨hP, hD⟩ := Bw.goN (ws' := [(oc7 oM iM_thrown rM_tape iM_taped iM_size iM_at iM_end iM_token iM_whole iM_nameSize x_5198 x_5199 iM_trouble rM_letters x_5200 iM_hasCourt rM_r rM_fresh rM_told rM_read rM_st rM_undone rM_kept iM_undos iM_images rM_fresher iM_fresherSize iM_scale iM_night rM_heardRow rM_cutRow iM_breaths iM_cutMany iM_allBreaths rM_trial rM_words iM_fewestBreaths iM_orderMany iM_orderSum iM_leastOrder rM_often iM_setMany iM_someOf iM_allOf iM_allWeight iM_enoughWeight iM_worthSum iM_firstRest iM_leastDrawn), (arI rM_tape kM_tape 900 fM_tape), (arI rM_letters kM_letters 8 fM_letters), (arI rM_fresh kM_fresh 287 fM_fresh), (arI rM_read kM_read 90 fM_read), (arI rM_fresher kM_fresher 8 fM_fresher)]) hB rfl ht hP hD _ hMs hk1 hFc rfl
    clear hz1 hk1 hvm ht hB hMs
    have hG := hG.trans (un3_eq e_x_5198_2)
    refine lv_aload_n hx hb dX7_newName_12 rfl (lv_at hl 0 rfl) ?_
    refine va_get (D := (dC, dI)) (ci := 7) (v := .int x_5200) (C := RX7) (T := TX7) (N := 48) hx hb hts inX7 hown hK hP 0 rfl rfl 13 (by decide) (hts _ wd_380) (fun _ h9 => h9) rfl dX7_newName_13 ?_
    refine lv_if_ne (tgt := 35) hx hb dX7_newName_16 (by decide) (fun c_5201 => ?_) (fun c_5201 => ?_)
    · skip
      have hG := hG.trans (if_neg c_5201)
      have gc_5201 := ti_ne c_5201 rfl kc_0
      replace gc_5201 : (-1) * x_5200.toInt + 1 ≤ 0 := om_e3003f79 gc_5201 b_x_5200.1
      clear e_x_5198_1
      refine lv_aload_n hx hb dX7_newName_35 rfl (lv_at hl 0 rfl) ?_
      refine va_get (D := (dC, dI)) (ci := 7) (v := .int x_5200) (C := RX7) (T := TX7) (N := 48) hx hb hts inX7 hown hK hP 0 rfl rfl 13 (by decide) (hts _ wd_380) (fun _ h9 => h9) rfl dX7_newName_36 ?_
      refine lv_if_eq (tgt := 43) hx hb dX7_newName_39 (by decide) (fun c_5202 => ?_) (fun c_5202 => ?_)
      · skip
        have hG := hG.trans (if_pos c_5202)
        have gc_5202 := ti_eq c_5202 rfl kc_0
        exact ((om_77e4ddb5 gc_5201 gc_5202)).elim
      · skip
        have hG := hG.trans (if_neg c_5202)
        have gc_5202 := ti_ne c_5202 rfl kc_0
        replace gc_5202 : (-1) * x_5200.toInt + 1 ≤ 0 := om_e3003f79 gc_5202 b_x_5200.1
        exact wq_v hx hb hr 0 trivial (fun t ht hW => ⟨iM_at, iM_end, iM_token, iM_whole, iM_nameSize, x_5198, x_5199, x_5200, iM_fresherSize, fM_letters, fM_fresher, ⟨b_iM_end.1, b_iM_end.2⟩, ⟨b_iM_nameSize.1, b_iM_nameSize.2⟩, b_x_5200, om_1cb5f934, r_T, (om_1fc3dec6 gc_5197 b_x_5200.1), (fun h9 => False.elim (om_a5fe015d gc_5201 h9.1)), hG, Bw.to hP hD hK ht hW⟩) hS dX7_newName_42 hlocks
    · skip
      have hG := hG.trans (if_pos c_5201)
      have gc_5201 := ti_eq c_5201 rfl kc_0
      have h_5203 : iM_token.toInt = 2 := e_x_5198_1 (om_02e9bb08 gc_5201)
      clear e_x_5198_1
      have h_5204 : iM_nameSize.toInt ≤ 8 := r_T h_5203
      clear r_T
      refine lv_aload_n hx hb dX7_newName_19 rfl (lv_at hl 0 rfl) ?_
      have hMs := ml_of hD [true, false, true, true, true, false] (wc := [(oc7 oM iM_thrown rM_tape iM_taped iM_size iM_at iM_end iM_token iM_whole iM_nameSize x_5198 x_5199 iM_trouble rM_letters x_5200 iM_hasCourt rM_r rM_fresh rM_told rM_read rM_st rM_undone rM_kept iM_undos iM_images rM_fresher iM_fresherSize iM_scale iM_night rM_heardRow rM_cutRow iM_breaths iM_cutMany iM_allBreaths rM_trial rM_words iM_fewestBreaths iM_orderMany iM_orderSum iM_leastOrder rM_often iM_setMany iM_someOf iM_allOf iM_allWeight iM_enoughWeight iM_worthSum iM_firstRest iM_leastDrawn), (arI rM_letters kM_letters 8 fM_letters), (arI rM_fresh kM_fresh 287 fM_fresh), (arI rM_read kM_read 90 fM_read)]) rfl
      have hFc := va_freeM hD hS hA _ hMs
      refine va_calli (va_runV (As := []) (rest := []) ⟨hx, hb, hml, hown, hts⟩ (tX7_find l dC dI _ oM iM_thrown rM_tape iM_taped iM_size iM_at iM_end iM_token iM_whole iM_nameSize x_5198 x_5199 iM_trouble rM_letters fM_letters kM_letters x_5200 iM_hasCourt rM_r rM_fresh fM_fresh kM_fresh rM_told rM_read fM_read kM_read rM_st rM_undone rM_kept iM_undos iM_images rM_fresher iM_fresherSize iM_scale iM_night rM_heardRow rM_cutRow iM_breaths iM_cutMany iM_allBreaths rM_trial rM_words iM_fewestBreaths iM_orderMany iM_orderSum iM_leastOrder rM_often iM_setMany iM_someOf iM_allOf iM_allWeight iM_enoughWeight iM_worthSum iM_firstRest iM_leastDrawn b_iM_taped b_iM_size b_iM_end b_iM_nameSize b_x_5200 b_iM_hasCourt b_iM_undos b_iM_images b_iM_scale b_iM_breaths b_iM_cutMany (fun h9 => h_5204) r_P h_5204) (cwV 0 hts (wd_V wd_471 wd_472 wd_473 wd_5 (wd_c wd_474)) rfl rfl rfl dv_yX7_find_0 ⟨Nat.le_of_ble_eq_true rfl, Nat.le_of_ble_eq_true rfl⟩) ⟨Pw.fb, recvX7 hK hP (q0 := 0) rfl, fun U hU hW => Pw.to (hP.ms _ hMs) (hD.ms _ hMs) (hK.ms [false, true, true, true, false] rfl) hE hS hFc hU hW⟩ rfl rfl hl.1 rfl (lv_room (Nat.le_of_ble_eq_true rfl)) dX7_newName_20 ⟨Nat.le_of_ble_eq_true rfl, Nat.le_of_ble_eq_true rfl⟩) hS (fun q _ h => hFc q h) hFc (fun r u t H locs ht hvm hw hB hz1 hk1 hS => ?_)
      have hru9 := hw.2
      have hw := hw.1
      obtain ⟨hP, hD⟩ := Bw.goN (ws' := [(oc7 oM iM_thrown rM_tape iM_taped iM_size iM_at iM_end iM_token iM_whole iM_nameSize x_5198 x_5199 iM_trouble rM_letters x_5200 iM_hasCourt rM_r rM_fresh rM_told rM_read rM_st rM_undone rM_kept iM_undos iM_images rM_fresher iM_fresherSize iM_scale iM_night rM_heardRow rM_cutRow iM_breaths iM_cutMany iM_allBreaths rM_trial rM_words iM_fewestBreaths iM_orderMany iM_orderSum iM_leastOrder rM_often iM_setMany iM_someOf iM_allOf iM_allWeight iM_enoughWeight iM_worthSum iM_firstRest iM_leastDrawn), (arI rM_tape kM_tape 900 fM_tape), (arI rM_letters kM_letters 8 fM_letters), (arI rM_fresh kM_fresh 287 fM_fresh), (arI rM_read kM_read 90 fM_read), (arI rM_fresher kM_fresher 8 fM_fresher)]) hB rfl ht hP hD _ hMs hk1 hFc rfl
      clear hz1 hk1 hvm ht hB hMs
      obtain ⟨x_5205, rfl⟩ : ∃ z, z = r := ⟨_, rfl⟩
      have hG := hG.trans (lt_eq hru9.symm)
      have lx_5205 := hw.2
      have ux_5205 := hw.2
      refine lv_if_lt (tgt := 35) hx hb dX7_newName_23 (by decide) (fun c_5206 => ?_) (fun c_5206 => ?_)
      · skip
        have hG := hG.trans (if_pos c_5206)
        have gc_5206 := ti_lt c_5206 rfl kc_0
        refine lv_aload_n hx hb dX7_newName_35 rfl (lv_at hl 0 rfl) ?_
        refine va_get (D := (dC, dI)) (ci := 7) (v := .int x_5200) (C := RX7) (T := TX7) (N := 48) hx hb hts inX7 hown hK hP 0 rfl rfl 13 (by decide) (hts _ wd_380) (fun _ h9 => h9) rfl dX7_newName_36 ?_
        refine lv_if_eq (tgt := 43) hx hb dX7_newName_39 (by decide) (fun c_5207 => ?_) (fun c_5207 => ?_)
        · skip
          have hG := hG.trans (if_pos c_5207)
          have gc_5207 := ti_eq c_5207 rfl kc_0
          refine lv_aload_n hx hb dX7_newName_43 rfl (lv_at hl 0 rfl) ?_
          refine va_get (D := (dC, dI)) (ci := 7) (v := .ref rM_letters) (C := RX7) (T := TX7) (N := 48) hx hb hts inX7 hown hK hP 0 rfl rfl 12 (by decide) (hts _ wd_154) (fun _ h9 => h9) rfl dX7_newName_44 ?_
          refine lv_iconst (v := 0) hx hb dX7_newName_47 (by decide) ?_
          refine lv_aload_n hx hb dX7_newName_48 rfl (lv_at hl 0 rfl) ?_
          refine va_get (D := (dC, dI)) (ci := 7) (v := .ref rM_fresher) (C := RX7) (T := TX7) (N := 48) hx hb hts inX7 hown hK hP 0 rfl rfl 24 (by decide) (hts _ wd_162) (fun _ h9 => h9) rfl dX7_newName_49 ?_
          refine lv_iconst (v := 0) hx hb dX7_newName_52 (by decide) ?_
          refine lv_bipush (v := 8) hx hb dX7_newName_53 (by decide) ?_
          have hMs := ml_of hD [false, false, true, false, false, true] (wc := [(arI rM_letters kM_letters 8 fM_letters), (arI rM_fresher kM_fresher 8 fM_fresher)]) rfl
          have hFc := va_freeM hD hS hA _ hMs
          refine va_callv (va_runS (As := [.ref rM_letters, .int 0, .ref rM_fresher, .int 0, .int 8]) (rest := []) ⟨hx, hb, hml, hown, hts⟩ (tX7_copy_8_8 l dC dI _ rM_letters fM_letters kM_letters rM_fresher fM_fresher kM_fresher 0 0 8 ⟨(om_b1de7dbe kc_0), (om_b1de7dbe kc_0), (om_fee42a6d kc_8)⟩ (om_0844da4c kc_0 kc_8) (om_0844da4c kc_0 kc_8)) (va_cwS 5 hts (wd_S wd_475 wd_476 wd_5 (wd_c wd_477)) rfl rfl rfl ds_yX7_copy_5 ⟨Nat.le_of_ble_eq_true rfl, Nat.le_of_ble_eq_true rfl⟩) ⟨Pw.fb, fun U hU hW => Pw.to (hP.ms _ hMs) (hD.ms _ hMs) (hK.ms [false, true, false, false, true] rfl) hE hS hFc hU hW⟩ rfl rfl hl.1 rfl (lv_room (Nat.le_of_ble_eq_true rfl)) dX7_newName_55 ⟨Nat.le_of_ble_eq_true rfl, Nat.le_of_ble_eq_true rfl⟩) hS (fun q _ h => hFc q h) hFc (fun u t H locs ht hvm hw hB hz1 hk1 hS => ?_)
          refine ex_1_1 hB (fun f_5208 e_f_5208_0 hB => ?_)
          obtain ⟨hP, hD⟩ := Bw.goN (ws' := [(oc7 oM iM_thrown rM_tape iM_taped iM_size iM_at iM_end iM_token iM_whole iM_nameSize x_5198 x_5199 iM_trouble rM_letters x_5200 iM_hasCourt rM_r rM_fresh rM_told rM_read rM_st rM_undone rM_kept iM_undos iM_images rM_fresher iM_fresherSize iM_scale iM_night rM_heardRow rM_cutRow iM_breaths iM_cutMany iM_allBreaths rM_trial rM_words iM_fewestBreaths iM_orderMany iM_orderSum iM_leastOrder rM_often iM_setMany iM_someOf iM_allOf iM_allWeight iM_enoughWeight iM_worthSum iM_firstRest iM_leastDrawn), (arI rM_tape kM_tape 900 fM_tape), (arI rM_letters kM_letters 8 fM_letters), (arI rM_fresh kM_fresh 287 fM_fresh), (arI rM_read kM_read 90 fM_read), (arI rM_fresher kM_fresher 8 f_5208)]) hB rfl ht hP hD _ hMs hk1 hFc rfl
          clear hz1 hk1 hvm ht hB hMs
          have hG := hG.trans (lt_eq (CopyOk.fn e_f_5208_0).symm)
          refine lv_aload_n hx hb dX7_newName_58 rfl (lv_at hl 0 rfl) ?_
          refine lv_aload_n hx hb dX7_newName_59 rfl (lv_at hl 0 rfl) ?_
          refine va_get (D := (dC, dI)) (ci := 7) (v := .int iM_nameSize) (C := RX7) (T := TX7) (N := 48) hx hb hts inX7 hown hK hP 0 rfl rfl 8 (by decide) (hts _ wd_404) (fun _ h9 => h9) rfl dX7_newName_60 ?_
          refine va_put (D := (dC, dI)) (ci := 7) (v := .int iM_nameSize) (ty := .int) (C := RX7) (T := TX7) (N := 48) hx hb hts inX7 tyX7 tyX7_ok nmX7 hown hK hP hD hS 0 rfl rfl 25 (by decide) (hts _ wd_466) (fun _ h9 => h9) rfl (by decide +kernel) rfl rfl (Nat.le_of_ble_eq_true rfl) dX7_newName_63 (fun H locs hP hD hS => ?_)
          obtain ⟨hP, hD⟩ := wl2 (ws' := [(oc7 oM iM_thrown rM_tape iM_taped iM_size iM_at iM_end iM_token iM_whole iM_nameSize x_5198 x_5199 iM_trouble rM_letters x_5200 iM_hasCourt rM_r rM_fresh rM_told rM_read rM_st rM_undone rM_kept iM_undos iM_images rM_fresher iM_nameSize iM_scale iM_night rM_heardRow rM_cutRow iM_breaths iM_cutMany iM_allBreaths rM_trial rM_words iM_fewestBreaths iM_orderMany iM_orderSum iM_leastOrder rM_often iM_setMany iM_someOf iM_allOf iM_allWeight iM_enoughWeight iM_worthSum iM_firstRest iM_leastDrawn), (arI rM_tape kM_tape 900 fM_tape), (arI rM_letters kM_letters 8 fM_letters), (arI rM_fresh kM_fresh 287 fM_fresh), (arI rM_read kM_read 90 fM_read), (arI rM_fresher kM_fresher 8 f_5208)]) hP hD rfl
          refine lv_aload_n hx hb dX7_newName_66 rfl (lv_at hl 0 rfl) ?_
          have hMs := ml_of hD [true, true, true, false, false, false] (wc := [(oc7 oM iM_thrown rM_tape iM_taped iM_size iM_at iM_end iM_token iM_whole iM_nameSize x_5198 x_5199 iM_trouble rM_letters x_5200 iM_hasCourt rM_r rM_fresh rM_told rM_read rM_st rM_undone rM_kept iM_undos iM_images rM_fresher iM_nameSize iM_scale iM_night rM_heardRow rM_cutRow iM_breaths iM_cutMany iM_allBreaths rM_trial rM_words iM_fewestBreaths iM_orderMany iM_orderSum iM_leastOrder rM_often iM_setMany iM_someOf iM_allOf iM_allWeight iM_enoughWeight iM_worthSum iM_firstRest iM_leastDrawn), (arI rM_tape kM_tape 900 fM_tape), (arI rM_letters kM_letters 8 fM_letters)]) rfl
          have hFc := va_freeM hD hS hA _ hMs
          refine va_callv (va_runV (As := []) (rest := []) ⟨hx, hb, hml, hown, hts⟩ (tX7_next l dC dI _ oM iM_thrown rM_tape fM_tape kM_tape iM_taped iM_size iM_at iM_end iM_token iM_whole iM_nameSize x_5198 x_5199 iM_trouble rM_letters fM_letters kM_letters x_5200 iM_hasCourt rM_r rM_fresh rM_told rM_read rM_st rM_undone rM_kept iM_undos iM_images rM_fresher iM_nameSize iM_scale iM_night rM_heardRow rM_cutRow iM_breaths iM_cutMany iM_allBreaths rM_trial rM_words iM_fewestBreaths iM_orderMany iM_orderSum iM_leastOrder rM_often iM_setMany iM_someOf iM_allOf iM_allWeight iM_enoughWeight iM_worthSum iM_firstRest iM_leastDrawn b_iM_taped b_iM_size b_iM_end b_iM_nameSize b_x_5200 b_iM_hasCourt b_iM_undos b_iM_images b_iM_scale b_iM_breaths b_iM_cutMany (fun h9 => h_5204)) (cwV 0 hts (wd_V wd_400 wd_401 wd_402 wd_5 (wd_c wd_403)) rfl rfl rfl dv_yX7_next_0 ⟨Nat.le_of_ble_eq_true rfl, Nat.le_of_ble_eq_true rfl⟩) ⟨Pw.fb, recvX7 hK hP (q0 := 0) rfl, fun U hU hW => Pw.to (hP.ms _ hMs) (hD.ms _ hMs) (hK.ms [true, true, false, false, false] rfl) hE hS hFc hU hW⟩ rfl rfl hl.1 rfl (lv_room (Nat.le_of_ble_eq_true rfl)) dX7_newName_67 ⟨Nat.le_of_ble_eq_true rfl, Nat.le_of_ble_eq_true rfl⟩) hS (fun q _ h => hFc q h) hFc (fun u t H locs ht hvm hw hB hz1 hk1 hS => ?_)
          refine ex_6_6 hB (fun x_5209 x_5210 x_5211 x_5212 x_5213 f_5214 b_x_5210 b_x_5213 e_x_5209_0 e_x_5209_1 e_x_5209_2 e_x_5209_3 hB => ?_)
          obtain ⟨hP, hD⟩ := Bw.goN (ws' := [(oc7 oM iM_thrown rM_tape iM_taped iM_size x_5209 x_5210 x_5211 x_5212 x_5213 x_5198 x_5199 iM_trouble rM_letters x_5200 iM_hasCourt rM_r rM_fresh rM_told rM_read rM_st rM_undone rM_kept iM_undos iM_images rM_fresher iM_nameSize iM_scale iM_night rM_heardRow rM_cutRow iM_breaths iM_cutMany iM_allBreaths rM_trial rM_words iM_fewestBreaths iM_orderMany iM_orderSum iM_leastOrder rM_often iM_setMany iM_someOf iM_allOf iM_allWeight iM_enoughWeight iM_worthSum iM_firstRest iM_leastDrawn), (arI rM_tape kM_tape 900 fM_tape), (arI rM_letters kM_letters 8 f_5214), (arI rM_fresh kM_fresh 287 fM_fresh), (arI rM_read kM_read 90 fM_read), (arI rM_fresher kM_fresher 8 f_5208)]) hB rfl ht hP hD _ hMs hk1 hFc rfl
          clear hz1 hk1 hvm ht hB hMs
          have hG := hG.trans (un6_eq e_x_5209_3)
          exact wq_v hx hb hr 0 trivial (fun t ht hW => ⟨x_5209, x_5210, x_5211, x_5212, x_5213, x_5198, x_5199, x_5200, iM_nameSize, f_5214, f_5208, b_x_5210, b_x_5213, b_x_5200, e_x_5209_0, e_x_5209_1, (om_1fc3dec6 gc_5197 b_x_5200.1), (fun h9 => (e_x_5209_2 h9.2)), hG, Bw.to hP hD hK ht hW⟩) hS dX7_newName_70 hlocks
        · skip
          have hG := hG.trans (if_neg c_5207)
          have gc_5207 := ti_ne c_5207 rfl kc_0
          replace gc_5207 : x_5200.toInt + 1 ≤ 0 := om_f992525b gc_5207 gc_5201
          exact ((om_5185113d b_x_5200.1 gc_5207)).elim
      · skip
        have hG := hG.trans (if_neg c_5206)
        have gc_5206 := ti_nlt c_5206 rfl kc_0
        refine lv_aload_n hx hb dX7_newName_26 rfl (lv_at hl 0 rfl) ?_
        refine lv_iconst (v := 3) hx hb dX7_newName_27 (by decide) ?_
        refine lv_aload_n hx hb dX7_newName_28 rfl (lv_at hl 0 rfl) ?_
        refine va_get (D := (dC, dI)) (ci := 7) (v := .int iM_at) (C := RX7) (T := TX7) (N := 48) hx hb hts inX7 hown hK hP 0 rfl rfl 4 (by decide) (hts _ wd_384) (fun _ h9 => h9) rfl dX7_newName_29 ?_
        have hMs := ml_of hD [true, false, false, false, false, false] (wc := [(oc7 oM iM_thrown rM_tape iM_taped iM_size iM_at iM_end iM_token iM_whole iM_nameSize x_5198 x_5199 iM_trouble rM_letters x_5200 iM_hasCourt rM_r rM_fresh rM_told rM_read rM_st rM_undone rM_kept iM_undos iM_images rM_fresher iM_fresherSize iM_scale iM_night rM_heardRow rM_cutRow iM_breaths iM_cutMany iM_allBreaths rM_trial rM_words iM_fewestBreaths iM_orderMany iM_orderSum iM_leastOrder rM_often iM_setMany iM_someOf iM_allOf iM_allWeight iM_enoughWeight iM_worthSum iM_firstRest iM_leastDrawn)]) rfl
        have hFc := va_freeM hD hS hA _ hMs
        refine va_callv (va_runV (As := [.int 3, .int iM_at]) (rest := []) ⟨hx, hb, hml, hown, hts⟩ (tX7_wrong l dC dI _ oM iM_thrown rM_tape iM_taped iM_size iM_at iM_end iM_token iM_whole iM_nameSize x_5198 x_5199 iM_trouble rM_letters x_5200 iM_hasCourt rM_r rM_fresh rM_told rM_read rM_st rM_undone rM_kept iM_undos iM_images rM_fresher iM_fresherSize iM_scale iM_night rM_heardRow rM_cutRow iM_breaths iM_cutMany iM_allBreaths rM_trial rM_words iM_fewestBreaths iM_orderMany iM_orderSum iM_leastOrder rM_often iM_setMany iM_someOf iM_allOf iM_allWeight iM_enoughWeight iM_worthSum iM_firstRest iM_leastDrawn 3 iM_at b_iM_taped b_iM_size b_iM_end b_iM_nameSize b_x_5200 b_iM_hasCourt b_iM_undos b_iM_images b_iM_scale b_iM_breaths b_iM_cutMany (fun h9 => h_5204)) (cwV 2 hts (wd_V wd_430 wd_431 wd_432 wd_5 (wd_c wd_433)) rfl rfl rfl dv_yX7_wrong_2 ⟨Nat.le_of_ble_eq_true rfl, Nat.le_of_ble_eq_true rfl⟩) ⟨Pw.fb, recvX7 hK hP (q0 := 0) rfl, fun U hU hW => Pw.to (hP.ms _ hMs) (hD.ms _ hMs) (hK.ms [false, false, false, false, false] rfl) hE hS hFc hU hW⟩ rfl rfl hl.1 rfl (lv_room (Nat.le_of_ble_eq_true rfl)) dX7_newName_32 ⟨Nat.le_of_ble_eq_true rfl, Nat.le_of_ble_eq_true rfl⟩) hS (fun q _ h => hFc q h) hFc (fun u t H locs ht hvm hw hB hz1 hk1 hS => ?_)
        refine ex_3_3 hB (fun x_5215 x_5216 x_5217 b_x_5217 e_x_5215_0 e_x_5215_1 hB => ?_)
        obtain ⟨hP, hD⟩ := Bw.goN (ws' := [(oc7 oM iM_thrown rM_tape iM_taped iM_size iM_at iM_end iM_token iM_whole iM_nameSize x_5215 x_5216 iM_trouble rM_letters x_5217 iM_hasCourt rM_r rM_fresh rM_told rM_read rM_st rM_undone rM_kept iM_undos iM_images rM_fresher iM_fresherSize iM_scale iM_night rM_heardRow rM_cutRow iM_breaths iM_cutMany iM_allBreaths rM_trial rM_words iM_fewestBreaths iM_orderMany iM_orderSum iM_leastOrder rM_often iM_setMany iM_someOf iM_allOf iM_allWeight iM_enoughWeight iM_worthSum iM_firstRest iM_leastDrawn), (arI rM_tape kM_tape 900 fM_tape), (arI rM_letters kM_letters 8 fM_letters), (arI rM_fresh kM_fresh 287 fM_fresh), (arI rM_read kM_read 90 fM_read), (arI rM_fresher kM_fresher 8 fM_fresher)]) hB rfl ht hP hD _ hMs hk1 hFc rfl
        clear hz1 hk1 hvm ht hB hMs
        have hG := hG.trans (un3_eq e_x_5215_1)
        refine lv_aload_n hx hb dX7_newName_35 rfl (lv_at hl 0 rfl) ?_
        refine va_get (D := (dC, dI)) (ci := 7) (v := .int x_5217) (C := RX7) (T := TX7) (N := 48) hx hb hts inX7 hown hK hP 0 rfl rfl 13 (by decide) (hts _ wd_380) (fun _ h9 => h9) rfl dX7_newName_36 ?_
        refine lv_if_eq (tgt := 43) hx hb dX7_newName_39 (by decide) (fun c_5218 => ?_) (fun c_5218 => ?_)
        · skip
          have hG := hG.trans (if_pos c_5218)
          have gc_5218 := ti_eq c_5218 rfl kc_0
          exact ((om_b1155cdc e_x_5215_0 gc_5218)).elim
        · skip
          have hG := hG.trans (if_neg c_5218)
          have gc_5218 := ti_ne c_5218 rfl kc_0
          replace gc_5218 : (-1) * x_5217.toInt + 1 ≤ 0 := om_e3003f79 gc_5218 b_x_5217.1
          exact wq_v hx hb hr 0 trivial (fun t ht hW => ⟨iM_at, iM_end, iM_token, iM_whole, iM_nameSize, x_5215, x_5216, x_5217, iM_fresherSize, fM_letters, fM_fresher, ⟨b_iM_end.1, b_iM_end.2⟩, ⟨b_iM_nameSize.1, b_iM_nameSize.2⟩, b_x_5217, om_1cb5f934, (fun h9 => h_5204), (om_1fc3dec6 gc_5197 b_x_5217.1), (fun h9 => False.elim (om_92495247 e_x_5215_0 h9.1)), hG, Bw.to hP hD hK ht hW⟩) hS dX7_newName_42 hlocks
  · skip
    have hG := hG.trans (if_neg c_5197)
    have gc_5197 := ti_ne c_5197 rfl kc_0
    replace gc_5197 : (-1) * iM_failed.toInt + 1 ≤ 0 := om_e3003f79 gc_5197 b_iM_failed.1
    exact wq_v hx hb hr 0 trivial (fun t ht hW => ⟨iM_at, iM_end, iM_token, iM_whole, iM_nameSize, iM_fault, iM_place, iM_failed, iM_fresherSize, fM_letters, fM_fresher, ⟨b_iM_end.1, b_iM_end.2⟩, ⟨b_iM_nameSize.1, b_iM_nameSize.2⟩, ⟨b_iM_failed.1, b_iM_failed.2⟩, om_1cb5f934, r_T, om_1cb5f934, (fun h9 => False.elim (om_a5fe015d gc_5197 h9.1)), hG, Bw.to hP hD hK ht hW⟩) hS dX7_newName_7 hlocks
set_option maxHeartbeats 4000000 in
set_option maxRecDepth 100000 in
theorem tX7_lay (l : Launch) (dC : Nat → ClassId) (dI : Nat → Nat → Nat) (sz : Nat) (oM : Nat) (iM_thrown : Int32) (rM_tape : Nat) (iM_taped : Int32) (iM_size : Int32) (iM_at : Int32) (iM_end : Int32) (iM_token : Int32) (iM_whole : Int32) (iM_nameSize : Int32) (iM_fault : Int32) (iM_place : Int32) (iM_trouble : Int32) (rM_letters : Nat) (iM_failed : Int32) (iM_hasCourt : Int32) (rM_r : Nat) (rM_fresh : Nat) (fM_fresh : Nat → Int32) (kM_fresh : ClassId) (rM_told : Nat) (rM_read : Nat) (rM_st : Nat) (rM_undone : Nat) (rM_kept : Nat) (iM_undos : Int32) (iM_images : Int32) (rM_fresher : Nat) (fM_fresher : Nat → Int32) (kM_fresher : ClassId) (iM_fresherSize : Int32) (iM_scale : Int32) (iM_night : Int32) (rM_heardRow : Nat) (rM_cutRow : Nat) (iM_breaths : Int32) (iM_cutMany : Int32) (iM_allBreaths : Int32) (rM_trial : Nat) (rM_words : Nat) (iM_fewestBreaths : Int32) (iM_orderMany : Int32) (iM_orderSum : Int32) (iM_leastOrder : Int32) (rM_often : Nat) (iM_setMany : Int32) (iM_someOf : Int32) (iM_allOf : Int32) (iM_allWeight : Int64) (iM_enoughWeight : Int64) (iM_worthSum : Int64) (iM_firstRest : Int32) (iM_leastDrawn : Int32) (p0 : Int32) (b_iM_taped : 0 ≤ iM_taped.toInt ∧ iM_taped.toInt ≤ 900) (b_iM_size : 0 ≤ iM_size.toInt ∧ iM_size.toInt ≤ 900) (b_iM_end : 0 ≤ iM_end.toInt ∧ iM_end.toInt ≤ 900) (b_iM_nameSize : 0 ≤ iM_nameSize.toInt ∧ iM_nameSize.toInt ≤ 900) (b_iM_failed : 0 ≤ iM_failed.toInt ∧ iM_failed.toInt ≤ 1) (b_iM_hasCourt : 0 ≤ iM_hasCourt.toInt ∧ iM_hasCourt.toInt ≤ 1) (b_iM_undos : 0 ≤ iM_undos.toInt ∧ iM_undos.toInt ≤ 16) (b_iM_images : 0 ≤ iM_images.toInt ∧ iM_images.toInt ≤ 3) (b_iM_scale : 1 ≤ iM_scale.toInt ∧ iM_scale.toInt ≤ 1296) (b_iM_breaths : 0 ≤ iM_breaths.toInt ∧ iM_breaths.toInt ≤ 399) (b_iM_cutMany : 0 ≤ iM_cutMany.toInt ∧ iM_cutMany.toInt ≤ 399) (r_T : ImpP (iM_token.toInt = 2) (iM_nameSize.toInt ≤ 8)) (hnf : iM_failed.toInt ≤ 0) (hf1 : 0 ≤ (fM_fresh 1).toInt ∧ (fM_fresh 1).toInt ≤ 17) : Met l yX7_lay (Cond.code yX7_lay cX7_lay 3 none :: wG) ({ frames := 1, cells := 0, slots := 0, locals := 25 }) (va_Pc [.ref oM, .int p0] (Pw dC dI sz [(oc7 oM iM_thrown rM_tape iM_taped iM_size iM_at iM_end iM_token iM_whole iM_nameSize iM_fault iM_place iM_trouble rM_letters iM_failed iM_hasCourt rM_r rM_fresh rM_told rM_read rM_st rM_undone rM_kept iM_undos iM_images rM_fresher iM_fresherSize iM_scale iM_night rM_heardRow rM_cutRow iM_breaths iM_cutMany iM_allBreaths rM_trial rM_words iM_fewestBreaths iM_orderMany iM_orderSum iM_leastOrder rM_often iM_setMany iM_someOf iM_allOf iM_allWeight iM_enoughWeight iM_worthSum iM_firstRest iM_leastDrawn), (arI rM_fresh kM_fresh 287 fM_fresh), (arI rM_fresher kM_fresher 8 fM_fresher)] [(kM_fresh, .int), (kM_fresher, .int)])) (va_Qv (fun (_ : Nat) => True) (fun (_ : Nat) (t : State) => ∃ (nfM_fresh : Nat → Int32), (LayI fM_fresh p0 nfM_fresh) ∧ (PX7_lay iM_failed fM_fresh fM_fresher iM_fresherSize p0 = nfM_fresh) ∧ Bw dC dI (va_A [(oc7 oM iM_thrown rM_tape iM_taped iM_size iM_at iM_end iM_token iM_whole iM_nameSize iM_fault iM_place iM_trouble rM_letters iM_failed iM_hasCourt rM_r rM_fresh rM_told rM_read rM_st rM_undone rM_kept iM_undos iM_images rM_fresher iM_fresherSize iM_scale iM_night rM_heardRow rM_cutRow iM_breaths iM_cutMany iM_allBreaths rM_trial rM_words iM_fewestBreaths iM_orderMany iM_orderSum iM_leastOrder rM_often iM_setMany iM_someOf iM_allOf iM_allWeight iM_enoughWeight iM_worthSum iM_firstRest iM_leastDrawn), (arI rM_fresh kM_fresh 287 fM_fresh), (arI rM_fresher kM_fresher 8 fM_fresher)] sz) [(oc7 oM iM_thrown rM_tape iM_taped iM_size iM_at iM_end iM_token iM_whole iM_nameSize iM_fault iM_place iM_trouble rM_letters iM_failed iM_hasCourt rM_r rM_fresh rM_told rM_read rM_st rM_undone rM_kept iM_undos iM_images rM_fresher iM_fresherSize iM_scale iM_night rM_heardRow rM_cutRow iM_breaths iM_cutMany iM_allBreaths rM_trial rM_words iM_fewestBreaths iM_orderMany iM_orderSum iM_leastOrder rM_often iM_setMany iM_someOf iM_allOf iM_allWeight iM_enoughWeight iM_worthSum iM_firstRest iM_leastDrawn), (arI rM_fresh kM_fresh 287 nfM_fresh), (arI rM_fresher kM_fresher 8 fM_fresher)] [(kM_fresh, .int), (kM_fresher, .int)] t) (va_A [(oc7 oM iM_thrown rM_tape iM_taped iM_size iM_at iM_end iM_token iM_whole iM_nameSize iM_fault iM_place iM_trouble rM_letters iM_failed iM_hasCourt rM_r rM_fresh rM_told rM_read rM_st rM_undone rM_kept iM_undos iM_images rM_fresher iM_fresherSize iM_scale iM_night rM_heardRow rM_cutRow iM_breaths iM_cutMany iM_allBreaths rM_trial rM_words iM_fewestBreaths iM_orderMany iM_orderSum iM_leastOrder rM_often iM_setMany iM_someOf iM_allOf iM_allWeight iM_enoughWeight iM_worthSum iM_firstRest iM_leastDrawn), (arI rM_fresh kM_fresh 287 fM_fresh), (arI rM_fresher kM_fresher 8 fM_fresher)] sz)) 0 0 (va_A [(oc7 oM iM_thrown rM_tape iM_taped iM_size iM_at iM_end iM_token iM_whole iM_nameSize iM_fault iM_place iM_trouble rM_letters iM_failed iM_hasCourt rM_r rM_fresh rM_told rM_read rM_st rM_undone rM_kept iM_undos iM_images rM_fresher iM_fresherSize iM_scale iM_night rM_heardRow rM_cutRow iM_breaths iM_cutMany iM_allBreaths rM_trial rM_words iM_fewestBreaths iM_orderMany iM_orderSum iM_leastOrder rM_often iM_setMany iM_someOf iM_allOf iM_allWeight iM_enoughWeight iM_worthSum iM_firstRest iM_leastDrawn), (arI rM_fresh kM_fresh 287 fM_fresh), (arI rM_fresher kM_fresher 8 fM_fresher)] sz) := by
  refine Met.ofW (cc := cX7_lay) (maxL := 3) (ret := none) pnX7 rfl ?_
  intro p e s m args below meth c s₁ B hml hv
  obtain ⟨rfl, hsz, hP, hK, hD0, hE⟩ := hv
  have hx := B.exec
  have hb := B.bytes
  have hr := B.returns
  have hts : ∀ w ∈ wG, w.before ([.ref oM, .int p0] : List Value).toArray s = true := fun w h => atoms_spec (ws := Cond.code yX7_lay cX7_lay 3 none :: wG) B.pre w (List.mem_cons_of_mem _ h)
  have hown : s.vm.findClass RX7 = some m.cls := own_of B.named rfl
  have hlocks := B.notSynchronized
  subst hsz
  have hD := hD0.self (sz := s.heap.size)
  generalize hAe : va_A [(oc7 oM iM_thrown rM_tape iM_taped iM_size iM_at iM_end iM_token iM_whole iM_nameSize iM_fault iM_place iM_trouble rM_letters iM_failed iM_hasCourt rM_r rM_fresh rM_told rM_read rM_st rM_undone rM_kept iM_undos iM_images rM_fresher iM_fresherSize iM_scale iM_night rM_heardRow rM_cutRow iM_breaths iM_cutMany iM_allBreaths rM_trial rM_words iM_fewestBreaths iM_orderMany iM_orderSum iM_leastOrder rM_often iM_setMany iM_someOf iM_allOf iM_allWeight iM_enoughWeight iM_worthSum iM_firstRest iM_leastDrawn), (arI rM_fresh kM_fresh 287 fM_fresh), (arI rM_fresher kM_fresher 8 fM_fresher)] s.heap.size = A at hD hE ⊢
  have hA : ∀ q : Nat, s.heap.size ≤ q → A q := fun q h => by rw [← hAe]; exact Or.inr h
  have hS : va_S A s.heap s.heap [] := va_S.rf
  have hl := lv_entry ([.ref oM, .int p0]) (n := 3) (Nat.le_of_ble_eq_true rfl)
  rw [lg_entry_eq]
  generalize (lg_sl ([.ref oM, .int p0]) ++ List.replicate (3 - (lg_sl ([.ref oM, .int p0])).length) Slot.unset).toArray = ls at hl ⊢
  have hl : lv_has ls 3 [(0, .ref oM), (1, .int p0)] := hl
  have hG := PX7_lay_eq iM_failed fM_fresh fM_fresher iM_fresherSize p0
  refine lv_aload_n hx hb dX7_lay_0 rfl (lv_at hl 0 rfl) ?_
  refine va_get (D := (dC, dI)) (ci := 7) (v := .int iM_failed) (C := RX7) (T := TX7) (N := 48) hx hb hts inX7 hown hK hP 0 rfl rfl 13 (by decide) (hts _ wd_380) (fun _ h9 => h9) rfl dX7_lay_1 ?_
  refine lv_if_eq (tgt := 8) hx hb dX7_lay_4 (by decide) (fun c_5231 => ?_) (fun c_5231 => ?_)
  · skip
    have hG := hG.trans (if_pos c_5231)
    have gc_5231 := ti_eq c_5231 rfl kc_0
    refine lv_aload_n hx hb dX7_lay_8 rfl (lv_at hl 0 rfl) ?_
    refine va_get (D := (dC, dI)) (ci := 7) (v := .ref rM_fresh) (C := RX7) (T := TX7) (N := 48) hx hb hts inX7 hown hK hP 0 rfl rfl 16 (by decide) (hts _ wd_156) (fun _ h9 => h9) rfl dX7_lay_9 ?_
    refine lv_iconst (v := 1) hx hb dX7_lay_12 (by decide) ?_
    refine va_iald hx hb hK hP 1 0 rfl rfl (by unfold vp_in; decide) dX7_lay_13 ?_
    refine lv_topi (fun x_5232 ex_5232 => ?_)
    have hG := hG.trans (lt_eq ex_5232)
    have cx_5232 : (fM_fresh 1).toInt = x_5232.toInt := congrArg Int32.toInt (show fM_fresh 1 = x_5232 from ex_5232.symm)
    refine lv_istore_n (lv' := [(2, .int x_5232), (0, .ref oM), (1, .int p0)]) hx hb dX7_lay_14 rfl hl (by decide) rfl (fun ls hl => ?_)
    refine lv_aload_n hx hb dX7_lay_15 rfl (lv_at hl 1 rfl) ?_
    refine va_get (D := (dC, dI)) (ci := 7) (v := .ref rM_fresher) (C := RX7) (T := TX7) (N := 48) hx hb hts inX7 hown hK hP 0 rfl rfl 24 (by decide) (hts _ wd_162) (fun _ h9 => h9) rfl dX7_lay_16 ?_
    refine lv_iconst (v := 0) hx hb dX7_lay_19 (by decide) ?_
    refine lv_aload_n hx hb dX7_lay_20 rfl (lv_at hl 1 rfl) ?_
    refine va_get (D := (dC, dI)) (ci := 7) (v := .ref rM_fresh) (C := RX7) (T := TX7) (N := 48) hx hb hts inX7 hown hK hP 0 rfl rfl 16 (by decide) (hts _ wd_156) (fun _ h9 => h9) rfl dX7_lay_21 ?_
    refine lv_sipush (v := 143) hx hb dX7_lay_24 (by decide) ?_
    refine lv_bipush (v := 8) hx hb dX7_lay_27 (by decide) ?_
    refine lv_iload_n hx hb dX7_lay_29 rfl (lv_at hl 0 rfl) ?_
    refine lv_imul hx hb dX7_lay_30 ?_
    refine lv_topi (fun x_5233 ex_5233 => ?_)
    have hG := hG.trans (lt_eq ex_5233)
    have vx_5233 : x_5233.toInt = 8 * x_5232.toInt := ti_mul ex_5233 kc_8 rfl (om_e434855a hf1.1 cx_5232) (om_c304561b hf1.2 cx_5232)
    refine lv_iadd hx hb dX7_lay_31 ?_
    refine lv_topi (fun x_5234 ex_5234 => ?_)
    have hG := hG.trans (lt_eq ex_5234)
    have vx_5234 : x_5234.toInt = 8 * x_5232.toInt + 143 := om_91565d1d (ti_add ex_5234 kc_143 vx_5233 (om_4edf14e7 hf1.1 cx_5232) (om_cb0b194f hf1.2 cx_5232))
    refine lv_bipush (v := 8) hx hb dX7_lay_32 (by decide) ?_
    have hFc := va_free (wc := [(arI rM_fresher kM_fresher 8 fM_fresher), (arI rM_fresh kM_fresh 287 fM_fresh)]) hD hS hA [2, 1] rfl
    refine va_callv (va_runS (As := [.ref rM_fresher, .int 0, .ref rM_fresh, .int x_5234, .int 8]) (rest := []) ⟨hx, hb, hml, hown, hts⟩ (tX7_copy_8_287 l dC dI _ rM_fresher fM_fresher kM_fresher rM_fresh fM_fresh kM_fresh 0 x_5234 8 ⟨(om_b1de7dbe kc_0), (om_18991521 hf1.1 cx_5232 vx_5234), (om_fee42a6d kc_8)⟩ (om_0844da4c kc_0 kc_8) (om_9bbffcd5 hf1.2 cx_5232 vx_5234 kc_8)) (va_cwS 5 hts (wd_S wd_475 wd_476 wd_5 (wd_c wd_477)) rfl rfl rfl ds_yX7_copy_5 ⟨Nat.le_of_ble_eq_true rfl, Nat.le_of_ble_eq_true rfl⟩) ⟨Pw.fb, fun U hU hW => Pw.to (hP.sub [2, 1] rfl) (hD.sub [2, 1] (by decide) rfl) (hK.sub [1, 0] rfl) hE hS hFc hU hW⟩ rfl rfl hl.1 rfl (lv_room (Nat.le_of_ble_eq_true rfl)) dX7_lay_34 ⟨Nat.le_of_ble_eq_true rfl, Nat.le_of_ble_eq_true rfl⟩) hS (fun q _ h => hFc q h) hFc (fun u t H locs ht hvm hw hB hz1 hk1 hS => ?_)
    refine ex_1_1 hB (fun f_5235 e_f_5235_0 hB => ?_)
    obtain ⟨hP, hD, hK⟩ := Bw.go (ws' := [(oc7 oM iM_thrown rM_tape iM_taped iM_size iM_at iM_end iM_token iM_whole iM_nameSize iM_fault iM_place iM_trouble rM_letters iM_failed iM_hasCourt rM_r rM_fresh rM_told rM_read rM_st rM_undone rM_kept iM_undos iM_images rM_fresher iM_fresherSize iM_scale iM_night rM_heardRow rM_cutRow iM_breaths iM_cutMany iM_allBreaths rM_trial rM_words iM_fewestBreaths iM_orderMany iM_orderSum iM_leastOrder rM_often iM_setMany iM_someOf iM_allOf iM_allWeight iM_enoughWeight iM_worthSum iM_firstRest iM_leastDrawn), (arI rM_fresher kM_fresher 8 fM_fresher), (arI rM_fresh kM_fresh 287 f_5235)]) (tys' := [(kM_fresher, .int), (kM_fresh, .int)]) hB rfl ht hvm hP hD hK [2, 1] [0] rfl (by decide) (by decide) [] hk1 hFc rfl rfl rfl
    clear hz1 hk1 hvm ht hB
    have o1_f_5235 : (f_5235 1).toInt = (fM_fresh 1).toInt := by rw [e_f_5235_0 1, if_neg (by have q := ti_cl (x := x_5234) vx_5234 (om_494effe0 hf1.1 cx_5232); omega)]
    have hG := hG.trans (lt_eq (CopyOk.fn e_f_5235_0).symm)
    refine lv_aload_n hx hb dX7_lay_37 rfl (lv_at hl 1 rfl) ?_
    refine va_get (D := (dC, dI)) (ci := 7) (v := .ref rM_fresh) (C := RX7) (T := TX7) (N := 48) hx hb hts inX7 hown hK hP 0 rfl rfl 16 (by decide) (hts _ wd_156) (fun _ h9 => h9) rfl dX7_lay_38 ?_
    refine lv_bipush (v := 125) hx hb dX7_lay_41 (by decide) ?_
    refine lv_iload_n hx hb dX7_lay_43 rfl (lv_at hl 0 rfl) ?_
    refine lv_iadd hx hb dX7_lay_44 ?_
    refine lv_topi (fun x_5236 ex_5236 => ?_)
    have hG := hG.trans (lt_eq ex_5236)
    have vx_5236 : x_5236.toInt = x_5232.toInt + 125 := om_82a8c57f (ti_add ex_5236 kc_125 rfl (om_d44262f2 hf1.1 cx_5232) (om_65af5c9c hf1.2 cx_5232))
    refine lv_aload_n hx hb dX7_lay_45 rfl (lv_at hl 1 rfl) ?_
    refine va_get (D := (dC, dI)) (ci := 7) (v := .int iM_fresherSize) (C := RX7) (T := TX7) (N := 48) hx hb hts inX7 hown hK hP 0 rfl rfl 25 (by decide) (hts _ wd_466) (fun _ h9 => h9) rfl dX7_lay_46 ?_
    refine va_iast hx hb hK hP hD hS 2 1 rfl rfl (ti_in vx_5236 (om_86a7574c hf1.1 cx_5232) (om_4cab8d2e hf1.2 cx_5232)) dX7_lay_49 (fun H locs hP hD hS => ?_)
    obtain ⟨f_5237, ef_5237⟩ : ∃ g : Nat → Int32, g = upd f_5235 x_5236.toNatClampNeg iM_fresherSize := ⟨_, rfl⟩
    rw [← ef_5237] at hP hD
    have hG := hG.trans (lt_eq ef_5237)
    obtain ⟨hP, hD⟩ := wl2 (ws' := [(oc7 oM iM_thrown rM_tape iM_taped iM_size iM_at iM_end iM_token iM_whole iM_nameSize iM_fault iM_place iM_trouble rM_letters iM_failed iM_hasCourt rM_r rM_fresh rM_told rM_read rM_st rM_undone rM_kept iM_undos iM_images rM_fresher iM_fresherSize iM_scale iM_night rM_heardRow rM_cutRow iM_breaths iM_cutMany iM_allBreaths rM_trial rM_words iM_fewestBreaths iM_orderMany iM_orderSum iM_leastOrder rM_often iM_setMany iM_someOf iM_allOf iM_allWeight iM_enoughWeight iM_worthSum iM_firstRest iM_leastDrawn), (arI rM_fresher kM_fresher 8 fM_fresher), (arI rM_fresh kM_fresh 287 f_5237)]) hP hD rfl
    have o1_f_5237 : (f_5237 1).toInt = (f_5235 1).toInt := put_at ef_5237 (by have q := ti_cl (x := x_5236) vx_5236 (om_86a7574c hf1.1 cx_5232); omega)
    refine lv_aload_n hx hb dX7_lay_50 rfl (lv_at hl 1 rfl) ?_
    refine va_get (D := (dC, dI)) (ci := 7) (v := .ref rM_fresh) (C := RX7) (T := TX7) (N := 48) hx hb hts inX7 hown hK hP 0 rfl rfl 16 (by decide) (hts _ wd_156) (fun _ h9 => h9) rfl dX7_lay_51 ?_
    refine lv_bipush (v := 9) hx hb dX7_lay_54 (by decide) ?_
    refine lv_iload_n hx hb dX7_lay_56 rfl (lv_at hl 0 rfl) ?_
    refine lv_iadd hx hb dX7_lay_57 ?_
    refine lv_topi (fun x_5238 ex_5238 => ?_)
    have hG := hG.trans (lt_eq ex_5238)
    have vx_5238 : x_5238.toInt = x_5232.toInt + 9 := om_296ce4dd (ti_add ex_5238 kc_9 rfl (om_b88df98f hf1.1 cx_5232) (om_3d753531 hf1.2 cx_5232))
    refine lv_iload_n hx hb dX7_lay_58 rfl (lv_at hl 2 rfl) ?_
    refine va_iast hx hb hK hP hD hS 2 1 rfl rfl (ti_in vx_5238 (om_a6f68295 hf1.1 cx_5232) (om_dffc3195 hf1.2 cx_5232)) dX7_lay_59 (fun H locs hP hD hS => ?_)
    obtain ⟨f_5239, ef_5239⟩ : ∃ g : Nat → Int32, g = upd f_5237 x_5238.toNatClampNeg p0 := ⟨_, rfl⟩
    rw [← ef_5239] at hP hD
    have hG := hG.trans (lt_eq ef_5239)
    obtain ⟨hP, hD⟩ := wl2 (ws' := [(oc7 oM iM_thrown rM_tape iM_taped iM_size iM_at iM_end iM_token iM_whole iM_nameSize iM_fault iM_place iM_trouble rM_letters iM_failed iM_hasCourt rM_r rM_fresh rM_told rM_read rM_st rM_undone rM_kept iM_undos iM_images rM_fresher iM_fresherSize iM_scale iM_night rM_heardRow rM_cutRow iM_breaths iM_cutMany iM_allBreaths rM_trial rM_words iM_fewestBreaths iM_orderMany iM_orderSum iM_leastOrder rM_often iM_setMany iM_someOf iM_allOf iM_allWeight iM_enoughWeight iM_worthSum iM_firstRest iM_leastDrawn), (arI rM_fresher kM_fresher 8 fM_fresher), (arI rM_fresh kM_fresh 287 f_5239)]) hP hD rfl
    have o1_f_5239 : (f_5239 1).toInt = (f_5237 1).toInt := put_at ef_5239 (by have q := ti_cl (x := x_5238) vx_5238 (om_a6f68295 hf1.1 cx_5232); omega)
    refine lv_aload_n hx hb dX7_lay_60 rfl (lv_at hl 1 rfl) ?_
    refine va_get (D := (dC, dI)) (ci := 7) (v := .ref rM_fresh) (C := RX7) (T := TX7) (N := 48) hx hb hts inX7 hown hK hP 0 rfl rfl 16 (by decide) (hts _ wd_156) (fun _ h9 => h9) rfl dX7_lay_61 ?_
    refine lv_iconst (v := 1) hx hb dX7_lay_64 (by decide) ?_
    refine lv_dup2_11 hx hb dX7_lay_65 rfl rfl ?_
    refine va_iald hx hb hK hP 2 1 rfl rfl (by unfold vp_in; decide) dX7_lay_66 ?_
    refine lv_topi (fun x_5240 ex_5240 => ?_)
    have hG := hG.trans (lt_eq ex_5240)
    have cx_5240 : (f_5239 1).toInt = x_5240.toInt := congrArg Int32.toInt (show f_5239 1 = x_5240 from ex_5240.symm)
    refine lv_iconst (v := 1) hx hb dX7_lay_67 (by decide) ?_
    refine lv_iadd hx hb dX7_lay_68 ?_
    refine lv_topi (fun x_5241 ex_5241 => ?_)
    have hG := hG.trans (lt_eq ex_5241)
    have vx_5241 : x_5241.toInt = x_5240.toInt + 1 := ti_add ex_5241 rfl kc_1 (om_d0c17b76 hf1.1 o1_f_5235 o1_f_5237 o1_f_5239 cx_5240) (om_fbbe21e8 hf1.2 o1_f_5235 o1_f_5237 o1_f_5239 cx_5240)
    refine va_iast hx hb hK hP hD hS 2 1 rfl rfl (by unfold vp_in; decide) dX7_lay_69 (fun H locs hP hD hS => ?_)
    obtain ⟨f_5242, ef_5242⟩ : ∃ g : Nat → Int32, g = upd f_5239 (1 : Int32).toNatClampNeg x_5241 := ⟨_, rfl⟩
    rw [← ef_5242] at hP hD
    have hG := hG.trans (lt_eq ef_5242)
    obtain ⟨hP, hD⟩ := wl2 (ws' := [(oc7 oM iM_thrown rM_tape iM_taped iM_size iM_at iM_end iM_token iM_whole iM_nameSize iM_fault iM_place iM_trouble rM_letters iM_failed iM_hasCourt rM_r rM_fresh rM_told rM_read rM_st rM_undone rM_kept iM_undos iM_images rM_fresher iM_fresherSize iM_scale iM_night rM_heardRow rM_cutRow iM_breaths iM_cutMany iM_allBreaths rM_trial rM_words iM_fewestBreaths iM_orderMany iM_orderSum iM_leastOrder rM_often iM_setMany iM_someOf iM_allOf iM_allWeight iM_enoughWeight iM_worthSum iM_firstRest iM_leastDrawn), (arI rM_fresher kM_fresher 8 fM_fresher), (arI rM_fresh kM_fresh 287 f_5242)]) hP hD rfl
    have ly9 : LayI fM_fresh p0 f_5242 := lay_of (n := (fM_fresh 1).toNatClampNeg) rfl (by have q1 := ti_cl (x := x_5234) vx_5234 (om_494effe0 hf1.1 cx_5232); have q2 := ti_cl (x := fM_fresh 1) rfl (by omega); omega) (by omega) e_f_5235_0 (by have q1 := ti_cl (x := x_5234) vx_5234 (om_494effe0 hf1.1 cx_5232); have q2 := ti_cl (x := fM_fresh 1) rfl (by omega); omega) ef_5237 (by have q1 := ti_cl (x := x_5234) vx_5234 (om_494effe0 hf1.1 cx_5232); have q2 := ti_cl (x := fM_fresh 1) rfl (by omega); have q3 := ti_cl (x := x_5236) vx_5236 (om_86a7574c hf1.1 cx_5232); omega) ef_5239 (by have q1 := ti_cl (x := x_5234) vx_5234 (om_494effe0 hf1.1 cx_5232); have q2 := ti_cl (x := fM_fresh 1) rfl (by omega); have q3 := ti_cl (x := x_5238) vx_5238 (om_a6f68295 hf1.1 cx_5232); omega) ef_5242 rfl (by have q4 := vx_5241; omega)
    exact wq_v hx hb hr 0 trivial (fun t ht hW => ⟨f_5242, (by first | assumption | omega | decide), hG, Bw.to (hP.sub [0, 2, 1] rfl) (hD.sub [0, 2, 1] (by decide) rfl) (hK.sub [1, 0] rfl) ht hW⟩) hS dX7_lay_70 hlocks
  · skip
    have hG := hG.trans (if_neg c_5231)
    have gc_5231 := ti_ne c_5231 rfl kc_0
    replace gc_5231 : iM_failed.toInt + 1 ≤ 0 := om_c7c1b1e9 gc_5231 hnf
    exact ((om_5185113d b_iM_failed.1 gc_5231)).elim
set_option maxHeartbeats 4000000 in
set_option maxRecDepth 100000 in
theorem tX7_nodeHere (l : Launch) (dC : Nat → ClassId) (dI : Nat → Nat → Nat) (sz : Nat) (oM : Nat) (iM_thrown : Int32) (rM_tape : Nat) (iM_taped : Int32) (iM_size : Int32) (iM_at : Int32) (iM_end : Int32) (iM_token : Int32) (iM_whole : Int32) (iM_nameSize : Int32) (iM_fault : Int32) (iM_place : Int32) (iM_trouble : Int32) (rM_letters : Nat) (fM_letters : Nat → Int32) (kM_letters : ClassId) (iM_failed : Int32) (iM_hasCourt : Int32) (rM_r : Nat) (rM_fresh : Nat) (fM_fresh : Nat → Int32) (kM_fresh : ClassId) (rM_told : Nat) (rM_read : Nat) (fM_read : Nat → Int32) (kM_read : ClassId) (rM_st : Nat) (rM_undone : Nat) (rM_kept : Nat) (iM_undos : Int32) (iM_images : Int32) (rM_fresher : Nat) (iM_fresherSize : Int32) (iM_scale : Int32) (iM_night : Int32) (rM_heardRow : Nat) (rM_cutRow : Nat) (iM_breaths : Int32) (iM_cutMany : Int32) (iM_allBreaths : Int32) (rM_trial : Nat) (rM_words : Nat) (iM_fewestBreaths : Int32) (iM_orderMany : Int32) (iM_orderSum : Int32) (iM_leastOrder : Int32) (rM_often : Nat) (iM_setMany : Int32) (iM_someOf : Int32) (iM_allOf : Int32) (iM_allWeight : Int64) (iM_enoughWeight : Int64) (iM_worthSum : Int64) (iM_firstRest : Int32) (iM_leastDrawn : Int32) (b_iM_taped : 0 ≤ iM_taped.toInt ∧ iM_taped.toInt ≤ 900) (b_iM_size : 0 ≤ iM_size.toInt ∧ iM_size.toInt ≤ 900) (b_iM_end : 0 ≤ iM_end.toInt ∧ iM_end.toInt ≤ 900) (b_iM_nameSize : 0 ≤ iM_nameSize.toInt ∧ iM_nameSize.toInt ≤ 900) (b_iM_failed : 0 ≤ iM_failed.toInt ∧ iM_failed.toInt ≤ 1) (b_iM_hasCourt : 0 ≤ iM_hasCourt.toInt ∧ iM_hasCourt.toInt ≤ 1) (b_iM_undos : 0 ≤ iM_undos.toInt ∧ iM_undos.toInt ≤ 16) (b_iM_images : 0 ≤ iM_images.toInt ∧ iM_images.toInt ≤ 3) (b_iM_scale : 1 ≤ iM_scale.toInt ∧ iM_scale.toInt ≤ 1296) (b_iM_breaths : 0 ≤ iM_breaths.toInt ∧ iM_breaths.toInt ≤ 399) (b_iM_cutMany : 0 ≤ iM_cutMany.toInt ∧ iM_cutMany.toInt ≤ 399) (r_T : ImpP (iM_token.toInt = 2) (iM_nameSize.toInt ≤ 8)) (r_P : POk fM_fresh fM_read)  : Met l yX7_nodeHere (Cond.code yX7_nodeHere cX7_nodeHere 2 (some .int) :: wG) ({ frames := 6, cells := 0, slots := 0, locals := 154 }) (va_Pc [.ref oM] (Pw dC dI sz [(oc7 oM iM_thrown rM_tape iM_taped iM_size iM_at iM_end iM_token iM_whole iM_nameSize iM_fault iM_place iM_trouble rM_letters iM_failed iM_hasCourt rM_r rM_fresh rM_told rM_read rM_st rM_undone rM_kept iM_undos iM_images rM_fresher iM_fresherSize iM_scale iM_night rM_heardRow rM_cutRow iM_breaths iM_cutMany iM_allBreaths rM_trial rM_words iM_fewestBreaths iM_orderMany iM_orderSum iM_leastOrder rM_often iM_setMany iM_someOf iM_allOf iM_allWeight iM_enoughWeight iM_worthSum iM_firstRest iM_leastDrawn), (arI rM_letters kM_letters 8 fM_letters), (arI rM_fresh kM_fresh 287 fM_fresh), (arI rM_read kM_read 90 fM_read)] [(kM_letters, .int), (kM_fresh, .int), (kM_read, .int)])) (va_Qi (fun (r : Int32) (u : Nat) => (True ∧ (0 ≤ r.toInt ∧ ImpP (1 ≤ (fM_fresh 1).toInt) (r.toInt < (fM_fresh 1).toInt) ∧ r.toInt ≤ 17)) ∧ r = Int32.ofNat u) (fun (u : Nat) (t : State) => ∃ (niM_fault : Int32) (niM_place : Int32) (niM_failed : Int32), (0 ≤ niM_failed.toInt ∧ niM_failed.toInt ≤ 1) ∧ (iM_failed.toInt ≤ niM_failed.toInt) ∧ (ImpP (niM_failed.toInt ≤ 0) (1 ≤ (fM_fresh 1).toInt)) ∧ (PX7_nodeHere iM_at iM_token iM_nameSize iM_fault iM_place fM_letters iM_failed fM_fresh = (Int32.ofNat u, niM_fault, niM_place, niM_failed)) ∧ Bw dC dI (va_A [(oc7 oM iM_thrown rM_tape iM_taped iM_size iM_at iM_end iM_token iM_whole iM_nameSize iM_fault iM_place iM_trouble rM_letters iM_failed iM_hasCourt rM_r rM_fresh rM_told rM_read rM_st rM_undone rM_kept iM_undos iM_images rM_fresher iM_fresherSize iM_scale iM_night rM_heardRow rM_cutRow iM_breaths iM_cutMany iM_allBreaths rM_trial rM_words iM_fewestBreaths iM_orderMany iM_orderSum iM_leastOrder rM_often iM_setMany iM_someOf iM_allOf iM_allWeight iM_enoughWeight iM_worthSum iM_firstRest iM_leastDrawn), (arI rM_letters kM_letters 8 fM_letters), (arI rM_fresh kM_fresh 287 fM_fresh), (arI rM_read kM_read 90 fM_read)] sz) [(oc7 oM iM_thrown rM_tape iM_taped iM_size iM_at iM_end iM_token iM_whole iM_nameSize niM_fault niM_place iM_trouble rM_letters niM_failed iM_hasCourt rM_r rM_fresh rM_told rM_read rM_st rM_undone rM_kept iM_undos iM_images rM_fresher iM_fresherSize iM_scale iM_night rM_heardRow rM_cutRow iM_breaths iM_cutMany iM_allBreaths rM_trial rM_words iM_fewestBreaths iM_orderMany iM_orderSum iM_leastOrder rM_often iM_setMany iM_someOf iM_allOf iM_allWeight iM_enoughWeight iM_worthSum iM_firstRest iM_leastDrawn), (arI rM_letters kM_letters 8 fM_letters), (arI rM_fresh kM_fresh 287 fM_fresh), (arI rM_read kM_read 90 fM_read)] [(kM_letters, .int), (kM_fresh, .int), (kM_read, .int)] t) (va_A [(oc7 oM iM_thrown rM_tape iM_taped iM_size iM_at iM_end iM_token iM_whole iM_nameSize iM_fault iM_place iM_trouble rM_letters iM_failed iM_hasCourt rM_r rM_fresh rM_told rM_read rM_st rM_undone rM_kept iM_undos iM_images rM_fresher iM_fresherSize iM_scale iM_night rM_heardRow rM_cutRow iM_breaths iM_cutMany iM_allBreaths rM_trial rM_words iM_fewestBreaths iM_orderMany iM_orderSum iM_leastOrder rM_often iM_setMany iM_someOf iM_allOf iM_allWeight iM_enoughWeight iM_worthSum iM_firstRest iM_leastDrawn), (arI rM_letters kM_letters 8 fM_letters), (arI rM_fresh kM_fresh 287 fM_fresh), (arI rM_read kM_read 90 fM_read)] sz)) 0 0 (va_A [(oc7 oM iM_thrown rM_tape iM_taped iM_size iM_at iM_end iM_token iM_whole iM_nameSize iM_fault iM_place iM_trouble rM_letters iM_failed iM_hasCourt rM_r rM_fresh rM_told rM_read rM_st rM_undone rM_kept iM_undos iM_images rM_fresher iM_fresherSize iM_scale iM_night rM_heardRow rM_cutRow iM_breaths iM_cutMany iM_allBreaths rM_trial rM_words iM_fewestBreaths iM_orderMany iM_orderSum iM_leastOrder rM_often iM_setMany iM_someOf iM_allOf iM_allWeight iM_enoughWeight iM_worthSum iM_firstRest iM_leastDrawn), (arI rM_letters kM_letters 8 fM_letters), (arI rM_fresh kM_fresh 287 fM_fresh), (arI rM_read kM_read 90 fM_read)] sz) := by
  refine Met.ofW (cc := cX7_nodeHere) (maxL := 2) (ret := (some .int)) pnX7 rfl ?_
  intro p e s m args below meth c s₁ B hml hv
  obtain ⟨rfl, hsz, hP, hK, hD0, hE⟩ := hv
  have hx := B.exec
  have hb := B.bytes
  have hr := B.returns
  have hts : ∀ w ∈ wG, w.before ([.ref oM] : List Value).toArray s = true := fun w h => atoms_spec (ws := Cond.code yX7_nodeHere cX7_nodeHere 2 (some .int) :: wG) B.pre w (List.mem_cons_of_mem _ h)
  have hown : s.vm.findClass RX7 = some m.cls := own_of B.named rfl
  have hlocks := B.notSynchronized
  subst hsz
  have hD := hD0.self (sz := s.heap.size)
  generalize hAe : va_A [(oc7 oM iM_thrown rM_tape iM_taped iM_size iM_at iM_end iM_token iM_whole iM_nameSize iM_fault iM_place iM_trouble rM_letters iM_failed iM_hasCourt rM_r rM_fresh rM_told rM_read rM_st rM_undone rM_kept iM_undos iM_images rM_fresher iM_fresherSize iM_scale iM_night rM_heardRow rM_cutRow iM_breaths iM_cutMany iM_allBreaths rM_trial rM_words iM_fewestBreaths iM_orderMany iM_orderSum iM_leastOrder rM_often iM_setMany iM_someOf iM_allOf iM_allWeight iM_enoughWeight iM_worthSum iM_firstRest iM_leastDrawn), (arI rM_letters kM_letters 8 fM_letters), (arI rM_fresh kM_fresh 287 fM_fresh), (arI rM_read kM_read 90 fM_read)] s.heap.size = A at hD hE ⊢
  have hA : ∀ q : Nat, s.heap.size ≤ q → A q := fun q h => by rw [← hAe]; exact Or.inr h
  have hS : va_S A s.heap s.heap [] := va_S.rf
  have hl := lv_entry ([.ref oM]) (n := 2) (Nat.le_of_ble_eq_true rfl)
  rw [lg_entry_eq]
  generalize (lg_sl ([.ref oM]) ++ List.replicate (2 - (lg_sl ([.ref oM])).length) Slot.unset).toArray = ls at hl ⊢
  have hl : lv_has ls 2 [(0, .ref oM)] := hl
  have hG := PX7_nodeHere_eq iM_at iM_token iM_nameSize iM_fault iM_place fM_letters iM_failed fM_fresh
  have pl_fM_fresh := r_P.lins
  refine lv_aload_n hx hb dX7_nodeHere_0 rfl (lv_at hl 0 rfl) ?_
  refine va_get (D := (dC, dI)) (ci := 7) (v := .int iM_failed) (C := RX7) (T := TX7) (N := 48) hx hb hts inX7 hown hK hP 0 rfl rfl 13 (by decide) (hts _ wd_380) (fun _ h9 => h9) rfl dX7_nodeHere_1 ?_
  refine lv_if_eq (tgt := 9) hx hb dX7_nodeHere_4 (by decide) (fun c_5257 => ?_) (fun c_5257 => ?_)
  · skip
    have hG := hG.trans (if_pos c_5257)
    have gc_5257 := ti_eq c_5257 rfl kc_0
    refine lv_aload_n hx hb dX7_nodeHere_9 rfl (lv_at hl 0 rfl) ?_
    have hMs := ml_of hD [true, true, false, false] (wc := [(oc7 oM iM_thrown rM_tape iM_taped iM_size iM_at iM_end iM_token iM_whole iM_nameSize iM_fault iM_place iM_trouble rM_letters iM_failed iM_hasCourt rM_r rM_fresh rM_told rM_read rM_st rM_undone rM_kept iM_undos iM_images rM_fresher iM_fresherSize iM_scale iM_night rM_heardRow rM_cutRow iM_breaths iM_cutMany iM_allBreaths rM_trial rM_words iM_fewestBreaths iM_orderMany iM_orderSum iM_leastOrder rM_often iM_setMany iM_someOf iM_allOf iM_allWeight iM_enoughWeight iM_worthSum iM_firstRest iM_leastDrawn), (arI rM_letters kM_letters 8 fM_letters)]) rfl
    have hFc := va_freeM hD hS hA _ hMs
    refine va_callv (va_runV (As := []) (rest := []) ⟨hx, hb, hml, hown, hts⟩ (tX7_mustName l dC dI _ oM iM_thrown rM_tape iM_taped iM_size iM_at iM_end iM_token iM_whole iM_nameSize iM_fault iM_place iM_trouble rM_letters fM_letters kM_letters iM_failed iM_hasCourt rM_r rM_fresh rM_told rM_read rM_st rM_undone rM_kept iM_undos iM_images rM_fresher iM_fresherSize iM_scale iM_night rM_heardRow rM_cutRow iM_breaths iM_cutMany iM_allBreaths rM_trial rM_words iM_fewestBreaths iM_orderMany iM_orderSum iM_leastOrder rM_often iM_setMany iM_someOf iM_allOf iM_allWeight iM_enoughWeight iM_worthSum iM_firstRest iM_leastDrawn b_iM_taped b_iM_size b_iM_end b_iM_nameSize b_iM_failed b_iM_hasCourt b_iM_undos b_iM_images b_iM_scale b_iM_breaths b_iM_cutMany r_T) (cwV 0 hts (wd_V wd_467 wd_468 wd_469 wd_5 (wd_c wd_470)) rfl rfl rfl dv_yX7_mustName_0 ⟨Nat.le_of_ble_eq_true rfl, Nat.le_of_ble_eq_true rfl⟩) ⟨Pw.fb, recvX7 hK hP (q0 := 0) rfl, fun U hU hW => Pw.to (hP.ms _ hMs) (hD.ms _ hMs) (hK.ms [true, false, false] rfl) hE hS hFc hU hW⟩ rfl rfl hl.1 rfl (lv_room (Nat.le_of_ble_eq_true rfl)) dX7_nodeHere_10 ⟨Nat.le_of_ble_eq_true rfl, Nat.le_of_ble_eq_true rfl⟩) hS (fun q _ h => hFc q h) hFc (fun u t H locs ht hvm hw hB hz1 hk1 hS => ?_)
    refine ex_3_4 hB (fun x_5258 x_5259 x_5260 b_x_5260 e_x_5258_0 e_x_5258_1 e_x_5258_2 hB => ?_)
    obtain ⟨hP, hD⟩ := Bw.goN (ws' := [(oc7 oM iM_thrown rM_tape iM_taped iM_size iM_at iM_end iM_token iM_whole iM_nameSize x_5258 x_5259 iM_trouble rM_letters x_5260 iM_hasCourt rM_r rM_fresh rM_told rM_read rM_st rM_undone rM_kept iM_undos iM_images rM_fresher iM_fresherSize iM_scale iM_night rM_heardRow rM_cutRow iM_breaths iM_cutMany iM_allBreaths rM_trial rM_words iM_fewestBreaths iM_orderMany iM_orderSum iM_leastOrder rM_often iM_setMany iM_someOf iM_allOf iM_allWeight iM_enoughWeight iM_worthSum iM_firstRest iM_leastDrawn), (arI rM_letters kM_letters 8 fM_letters), (arI rM_fresh kM_fresh 287 fM_fresh), (arI rM_read kM_read 90 fM_read)]) hB rfl ht hP hD _ hMs hk1 hFc rfl
    clear hz1 hk1 hvm ht hB hMs
    have hG := hG.trans (un3_eq e_x_5258_2)
    refine lv_aload_n hx hb dX7_nodeHere_13 rfl (lv_at hl 0 rfl) ?_
    refine va_get (D := (dC, dI)) (ci := 7) (v := .int x_5260) (C := RX7) (T := TX7) (N := 48) hx hb hts inX7 hown hK hP 0 rfl rfl 13 (by decide) (hts _ wd_380) (fun _ h9 => h9) rfl dX7_nodeHere_14 ?_
    refine lv_if_eq (tgt := 22) hx hb dX7_nodeHere_17 (by decide) (fun c_5261 => ?_) (fun c_5261 => ?_)
    · skip
      have hG := hG.trans (if_pos c_5261)
      have gc_5261 := ti_eq c_5261 rfl kc_0
      have h_5262 : iM_token.toInt = 2 := e_x_5258_1 (om_02e9bb08 gc_5261)
      clear e_x_5258_1
      have h_5263 : iM_nameSize.toInt ≤ 8 := r_T h_5262
      clear r_T
      refine lv_aload_n hx hb dX7_nodeHere_22 rfl (lv_at hl 0 rfl) ?_
      have hFc := va_freeI hD hS hA
      refine va_calli (va_runV (As := []) (rest := []) ⟨hx, hb, hml, hown, hts⟩ (tX7_find l dC dI _ oM iM_thrown rM_tape iM_taped iM_size iM_at iM_end iM_token iM_whole iM_nameSize x_5258 x_5259 iM_trouble rM_letters fM_letters kM_letters x_5260 iM_hasCourt rM_r rM_fresh fM_fresh kM_fresh rM_told rM_read fM_read kM_read rM_st rM_undone rM_kept iM_undos iM_images rM_fresher iM_fresherSize iM_scale iM_night rM_heardRow rM_cutRow iM_breaths iM_cutMany iM_allBreaths rM_trial rM_words iM_fewestBreaths iM_orderMany iM_orderSum iM_leastOrder rM_often iM_setMany iM_someOf iM_allOf iM_allWeight iM_enoughWeight iM_worthSum iM_firstRest iM_leastDrawn b_iM_taped b_iM_size b_iM_end b_iM_nameSize b_x_5260 b_iM_hasCourt b_iM_undos b_iM_images b_iM_scale b_iM_breaths b_iM_cutMany (fun h9 => h_5263) r_P h_5263) (cwV 0 hts (wd_V wd_471 wd_472 wd_473 wd_5 (wd_c wd_474)) rfl rfl rfl dv_yX7_find_0 ⟨Nat.le_of_ble_eq_true rfl, Nat.le_of_ble_eq_true rfl⟩) ⟨Pw.fb, recvX7 hK hP (q0 := 0) rfl, fun U hU hW => Pw.to hP hD hK hE hS hFc hU hW⟩ rfl rfl hl.1 rfl (lv_room (Nat.le_of_ble_eq_true rfl)) dX7_nodeHere_23 ⟨Nat.le_of_ble_eq_true rfl, Nat.le_of_ble_eq_true rfl⟩) hS (fun q _ h => hFc q h) hFc (fun r u t H locs ht hvm hw hB hz1 hk1 hS => ?_)
      have hru9 := hw.2
      have hw := hw.1
      obtain ⟨hP, hD⟩ := Bw.goA (ws' := [(oc7 oM iM_thrown rM_tape iM_taped iM_size iM_at iM_end iM_token iM_whole iM_nameSize x_5258 x_5259 iM_trouble rM_letters x_5260 iM_hasCourt rM_r rM_fresh rM_told rM_read rM_st rM_undone rM_kept iM_undos iM_images rM_fresher iM_fresherSize iM_scale iM_night rM_heardRow rM_cutRow iM_breaths iM_cutMany iM_allBreaths rM_trial rM_words iM_fewestBreaths iM_orderMany iM_orderSum iM_leastOrder rM_often iM_setMany iM_someOf iM_allOf iM_allWeight iM_enoughWeight iM_worthSum iM_firstRest iM_leastDrawn), (arI rM_letters kM_letters 8 fM_letters), (arI rM_fresh kM_fresh 287 fM_fresh), (arI rM_read kM_read 90 fM_read)]) hB rfl ht hFc rfl
      clear hz1 hk1 hvm ht hB
      obtain ⟨x_5264, rfl⟩ : ∃ z, z = r := ⟨_, rfl⟩
      have hG := hG.trans (lt_eq hru9.symm)
      have lx_5264 := hw.2
      have ux_5264 := hw.2
      refine lv_istore_n (lv' := [(1, .int x_5264), (0, .ref oM)]) hx hb dX7_nodeHere_26 rfl hl (by decide) rfl (fun ls hl => ?_)
      refine lv_iload_n hx hb dX7_nodeHere_27 rfl (lv_at hl 0 rfl) ?_
      refine lv_if_ge (tgt := 40) hx hb dX7_nodeHere_28 (by decide) (fun c_5265 => ?_) (fun c_5265 => ?_)
      · skip
        have hG := hG.trans (if_pos c_5265)
        have gc_5265 := ti_le c_5265 kc_0 rfl
        refine lv_aload_n hx hb dX7_nodeHere_40 rfl (lv_at hl 1 rfl) ?_
        refine va_get (D := (dC, dI)) (ci := 7) (v := .int x_5260) (C := RX7) (T := TX7) (N := 48) hx hb hts inX7 hown hK hP 0 rfl rfl 13 (by decide) (hts _ wd_380) (fun _ h9 => h9) rfl dX7_nodeHere_41 ?_
        refine lv_if_eq (tgt := 51) hx hb dX7_nodeHere_44 (by decide) (fun c_5266 => ?_) (fun c_5266 => ?_)
        · skip
          have hG := hG.trans (if_pos c_5266)
          have gc_5266 := ti_eq c_5266 rfl kc_0
          refine lv_iload_n hx hb dX7_nodeHere_51 rfl (lv_at hl 0 rfl) ?_
          exact wq_i hx hb hr (cI x_5264) ⟨⟨trivial, ⟨by have q0 := kc_0; omega, fun h9 => by have q0 := kc_0; omega, by have q0 := kc_0; omega⟩⟩, (cI_of x_5264)⟩ (fun t ht hW => ⟨x_5258, x_5259, x_5260, b_x_5260, (om_1fc3dec6 gc_5257 b_x_5260.1), (fun h9 => (om_02dc0f5c lx_5264.2.1 gc_5265)), (cI_tup hG), Bw.to hP hD hK ht hW⟩) hS dX7_nodeHere_52 hlocks
        · skip
          have hG := hG.trans (if_neg c_5266)
          have gc_5266 := ti_ne c_5266 rfl kc_0
          replace gc_5266 : x_5260.toInt + 1 ≤ 0 := om_f992525b gc_5266 gc_5261
          exact ((om_5185113d b_x_5260.1 gc_5266)).elim
      · skip
        have hG := hG.trans (if_neg c_5265)
        have gc_5265 := ti_nle c_5265 kc_0 rfl
        refine lv_aload_n hx hb dX7_nodeHere_31 rfl (lv_at hl 1 rfl) ?_
        refine lv_iconst (v := 2) hx hb dX7_nodeHere_32 (by decide) ?_
        refine lv_aload_n hx hb dX7_nodeHere_33 rfl (lv_at hl 1 rfl) ?_
        refine va_get (D := (dC, dI)) (ci := 7) (v := .int iM_at) (C := RX7) (T := TX7) (N := 48) hx hb hts inX7 hown hK hP 0 rfl rfl 4 (by decide) (hts _ wd_384) (fun _ h9 => h9) rfl dX7_nodeHere_34 ?_
        have hMs := ml_of hD [true, false, false, false] (wc := [(oc7 oM iM_thrown rM_tape iM_taped iM_size iM_at iM_end iM_token iM_whole iM_nameSize x_5258 x_5259 iM_trouble rM_letters x_5260 iM_hasCourt rM_r rM_fresh rM_told rM_read rM_st rM_undone rM_kept iM_undos iM_images rM_fresher iM_fresherSize iM_scale iM_night rM_heardRow rM_cutRow iM_breaths iM_cutMany iM_allBreaths rM_trial rM_words iM_fewestBreaths iM_orderMany iM_orderSum iM_leastOrder rM_often iM_setMany iM_someOf iM_allOf iM_allWeight iM_enoughWeight iM_worthSum iM_firstRest iM_leastDrawn)]) rfl
        have hFc := va_freeM hD hS hA _ hMs
        refine va_callv (va_runV (As := [.int 2, .int iM_at]) (rest := []) ⟨hx, hb, hml, hown, hts⟩ (tX7_wrong l dC dI _ oM iM_thrown rM_tape iM_taped iM_size iM_at iM_end iM_token iM_whole iM_nameSize x_5258 x_5259 iM_trouble rM_letters x_5260 iM_hasCourt rM_r rM_fresh rM_told rM_read rM_st rM_undone rM_kept iM_undos iM_images rM_fresher iM_fresherSize iM_scale iM_night rM_heardRow rM_cutRow iM_breaths iM_cutMany iM_allBreaths rM_trial rM_words iM_fewestBreaths iM_orderMany iM_orderSum iM_leastOrder rM_often iM_setMany iM_someOf iM_allOf iM_allWeight iM_enoughWeight iM_worthSum iM_firstRest iM_leastDrawn 2 iM_at b_iM_taped b_iM_size b_iM_end b_iM_nameSize b_x_5260 b_iM_hasCourt b_iM_undos b_iM_images b_iM_scale b_iM_breaths b_iM_cutMany (fun h9 => h_5263)) (cwV 2 hts (wd_V wd_430 wd_431 wd_432 wd_5 (wd_c wd_433)) rfl rfl rfl dv_yX7_wrong_2 ⟨Nat.le_of_ble_eq_true rfl, Nat.le_of_ble_eq_true rfl⟩) ⟨Pw.fb, recvX7 hK hP (q0 := 0) rfl, fun U hU hW => Pw.to (hP.ms _ hMs) (hD.ms _ hMs) (hK.ms [false, false, false] rfl) hE hS hFc hU hW⟩ rfl rfl hl.1 rfl (lv_room (Nat.le_of_ble_eq_true rfl)) dX7_nodeHere_37 ⟨Nat.le_of_ble_eq_true rfl, Nat.le_of_ble_eq_true rfl⟩) hS (fun q _ h => hFc q h) hFc (fun u t H locs ht hvm hw hB hz1 hk1 hS => ?_)
        refine ex_3_3 hB (fun x_5267 x_5268 x_5269 b_x_5269 e_x_5267_0 e_x_5267_1 hB => ?_)
        obtain ⟨hP, hD⟩ := Bw.goN (ws' := [(oc7 oM iM_thrown rM_tape iM_taped iM_size iM_at iM_end iM_token iM_whole iM_nameSize x_5267 x_5268 iM_trouble rM_letters x_5269 iM_hasCourt rM_r rM_fresh rM_told rM_read rM_st rM_undone rM_kept iM_undos iM_images rM_fresher iM_fresherSize iM_scale iM_night rM_heardRow rM_cutRow iM_breaths iM_cutMany iM_allBreaths rM_trial rM_words iM_fewestBreaths iM_orderMany iM_orderSum iM_leastOrder rM_often iM_setMany iM_someOf iM_allOf iM_allWeight iM_enoughWeight iM_worthSum iM_firstRest iM_leastDrawn), (arI rM_letters kM_letters 8 fM_letters), (arI rM_fresh kM_fresh 287 fM_fresh), (arI rM_read kM_read 90 fM_read)]) hB rfl ht hP hD _ hMs hk1 hFc rfl
        clear hz1 hk1 hvm ht hB hMs
        have hG := hG.trans (un3_eq e_x_5267_1)
        refine lv_aload_n hx hb dX7_nodeHere_40 rfl (lv_at hl 1 rfl) ?_
        refine va_get (D := (dC, dI)) (ci := 7) (v := .int x_5269) (C := RX7) (T := TX7) (N := 48) hx hb hts inX7 hown hK hP 0 rfl rfl 13 (by decide) (hts _ wd_380) (fun _ h9 => h9) rfl dX7_nodeHere_41 ?_
        refine lv_if_eq (tgt := 51) hx hb dX7_nodeHere_44 (by decide) (fun c_5270 => ?_) (fun c_5270 => ?_)
        · skip
          have hG := hG.trans (if_pos c_5270)
          have gc_5270 := ti_eq c_5270 rfl kc_0
          exact ((om_b1155cdc e_x_5267_0 gc_5270)).elim
        · skip
          have hG := hG.trans (if_neg c_5270)
          have gc_5270 := ti_ne c_5270 rfl kc_0
          replace gc_5270 : (-1) * x_5269.toInt + 1 ≤ 0 := om_e3003f79 gc_5270 b_x_5269.1
          refine lv_iconst (v := 0) hx hb dX7_nodeHere_47 (by decide) ?_
          refine lv_goto (tgt := 52) hx hb dX7_nodeHere_48 (by decide) ?_
          exact wq_i hx hb hr (cI 0) ⟨⟨trivial, ⟨by have q0 := kc_0; omega, fun h9 => by have q0 := kc_0; omega, by have q0 := kc_0; omega⟩⟩, (cI_of 0)⟩ (fun t ht hW => ⟨x_5267, x_5268, x_5269, b_x_5269, (om_1fc3dec6 gc_5257 b_x_5269.1), (fun h9 => False.elim (om_92495247 e_x_5267_0 h9)), (cI_tup hG), Bw.to hP hD hK ht hW⟩) hS dX7_nodeHere_52 hlocks
    · skip
      have hG := hG.trans (if_neg c_5261)
      have gc_5261 := ti_ne c_5261 rfl kc_0
      replace gc_5261 : (-1) * x_5260.toInt + 1 ≤ 0 := om_e3003f79 gc_5261 b_x_5260.1
      clear e_x_5258_1
      refine lv_iconst (v := 0) hx hb dX7_nodeHere_20 (by decide) ?_
      exact wq_i hx hb hr (cI 0) ⟨⟨trivial, ⟨by have q0 := kc_0; omega, fun h9 => by have q0 := kc_0; omega, by have q0 := kc_0; omega⟩⟩, (cI_of 0)⟩ (fun t ht hW => ⟨x_5258, x_5259, x_5260, b_x_5260, (om_1fc3dec6 gc_5257 b_x_5260.1), (fun h9 => False.elim (om_a5fe015d gc_5261 h9)), (cI_tup hG), Bw.to hP hD hK ht hW⟩) hS dX7_nodeHere_21 hlocks
  · skip
    have hG := hG.trans (if_neg c_5257)
    have gc_5257 := ti_ne c_5257 rfl kc_0
    replace gc_5257 : (-1) * iM_failed.toInt + 1 ≤ 0 := om_e3003f79 gc_5257 b_iM_failed.1
    refine lv_iconst (v := 0) hx hb dX7_nodeHere_7 (by decide) ?_
    exact wq_i hx hb hr (cI 0) ⟨⟨trivial, ⟨by have q0 := kc_0; omega, fun h9 => by have q0 := kc_0; omega, by have q0 := kc_0; omega⟩⟩, (cI_of 0)⟩ (fun t ht hW => ⟨iM_fault, iM_place, iM_failed, ⟨b_iM_failed.1, b_iM_failed.2⟩, om_1cb5f934, (fun h9 => False.elim (om_a5fe015d gc_5257 h9)), (cI_tup hG), Bw.to hP hD hK ht hW⟩) hS dX7_nodeHere_8 hlocks
set_option maxHeartbeats 4000000 in
set_option maxRecDepth 100000 in
theorem tX7_pass (l : Launch) (dC : Nat → ClassId) (dI : Nat → Nat → Nat) (sz : Nat) (oM : Nat) (iM_thrown : Int32) (rM_tape : Nat) (fM_tape : Nat → Int32) (kM_tape : ClassId) (iM_taped : Int32) (iM_size : Int32) (iM_at : Int32) (iM_end : Int32) (iM_token : Int32) (iM_whole : Int32) (iM_nameSize : Int32) (iM_fault : Int32) (iM_place : Int32) (iM_trouble : Int32) (rM_letters : Nat) (fM_letters : Nat → Int32) (kM_letters : ClassId) (iM_failed : Int32) (iM_hasCourt : Int32) (rM_r : Nat) (rM_fresh : Nat) (rM_told : Nat) (rM_read : Nat) (rM_st : Nat) (rM_undone : Nat) (rM_kept : Nat) (iM_undos : Int32) (iM_images : Int32) (rM_fresher : Nat) (iM_fresherSize : Int32) (iM_scale : Int32) (iM_night : Int32) (rM_heardRow : Nat) (rM_cutRow : Nat) (iM_breaths : Int32) (iM_cutMany : Int32) (iM_allBreaths : Int32) (rM_trial : Nat) (rM_words : Nat) (iM_fewestBreaths : Int32) (iM_orderMany : Int32) (iM_orderSum : Int32) (iM_leastOrder : Int32) (rM_often : Nat) (iM_setMany : Int32) (iM_someOf : Int32) (iM_allOf : Int32) (iM_allWeight : Int64) (iM_enoughWeight : Int64) (iM_worthSum : Int64) (iM_firstRest : Int32) (iM_leastDrawn : Int32) (b_iM_taped : 0 ≤ iM_taped.toInt ∧ iM_taped.toInt ≤ 900) (b_iM_size : 0 ≤ iM_size.toInt ∧ iM_size.toInt ≤ 900) (b_iM_end : 0 ≤ iM_end.toInt ∧ iM_end.toInt ≤ 900) (b_iM_nameSize : 0 ≤ iM_nameSize.toInt ∧ iM_nameSize.toInt ≤ 900) (b_iM_failed : 0 ≤ iM_failed.toInt ∧ iM_failed.toInt ≤ 1) (b_iM_hasCourt : 0 ≤ iM_hasCourt.toInt ∧ iM_hasCourt.toInt ≤ 1) (b_iM_undos : 0 ≤ iM_undos.toInt ∧ iM_undos.toInt ≤ 16) (b_iM_images : 0 ≤ iM_images.toInt ∧ iM_images.toInt ≤ 3) (b_iM_scale : 1 ≤ iM_scale.toInt ∧ iM_scale.toInt ≤ 1296) (b_iM_breaths : 0 ≤ iM_breaths.toInt ∧ iM_breaths.toInt ≤ 399) (b_iM_cutMany : 0 ≤ iM_cutMany.toInt ∧ iM_cutMany.toInt ≤ 399) (r_T : ImpP (iM_token.toInt = 2) (iM_nameSize.toInt ≤ 8))  : Met l yX7_pass (Cond.code yX7_pass cX7_pass 1 none :: wG) ({ frames := 2, cells := 0, slots := 0, locals := 44 }) (va_Pc [.ref oM] (Pw dC dI sz [(oc7 oM iM_thrown rM_tape iM_taped iM_size iM_at iM_end iM_token iM_whole iM_nameSize iM_fault iM_place iM_trouble rM_letters iM_failed iM_hasCourt rM_r rM_fresh rM_told rM_read rM_st rM_undone rM_kept iM_undos iM_images rM_fresher iM_fresherSize iM_scale iM_night rM_heardRow rM_cutRow iM_breaths iM_cutMany iM_allBreaths rM_trial rM_words iM_fewestBreaths iM_orderMany iM_orderSum iM_leastOrder rM_often iM_setMany iM_someOf iM_allOf iM_allWeight iM_enoughWeight iM_worthSum iM_firstRest iM_leastDrawn), (arI rM_tape kM_tape 900 fM_tape), (arI rM_letters kM_letters 8 fM_letters)] [(kM_tape, .int), (kM_letters, .int)])) (va_Qv (fun (_ : Nat) => True) (fun (_ : Nat) (t : State) => ∃ (niM_at : Int32) (niM_end : Int32) (niM_token : Int32) (niM_whole : Int32) (niM_nameSize : Int32) (nfM_letters : Nat → Int32), (0 ≤ niM_end.toInt ∧ niM_end.toInt ≤ 900) ∧ (0 ≤ niM_nameSize.toInt ∧ niM_nameSize.toInt ≤ 900) ∧ (iM_end.toInt ≤ niM_end.toInt) ∧ (ImpP (niM_token.toInt = 2) (niM_nameSize.toInt ≤ 8)) ∧ (ImpP (iM_failed.toInt ≤ 0 ∧ niM_token.toInt = 59 ) (iM_end.toInt + 1 ≤ niM_end.toInt)) ∧ (PX7_pass fM_tape iM_size iM_at iM_end iM_token iM_whole iM_nameSize fM_letters iM_failed = (niM_at, niM_end, niM_token, niM_whole, niM_nameSize, nfM_letters)) ∧ Bw dC dI (va_A [(oc7 oM iM_thrown rM_tape iM_taped iM_size iM_at iM_end iM_token iM_whole iM_nameSize iM_fault iM_place iM_trouble rM_letters iM_failed iM_hasCourt rM_r rM_fresh rM_told rM_read rM_st rM_undone rM_kept iM_undos iM_images rM_fresher iM_fresherSize iM_scale iM_night rM_heardRow rM_cutRow iM_breaths iM_cutMany iM_allBreaths rM_trial rM_words iM_fewestBreaths iM_orderMany iM_orderSum iM_leastOrder rM_often iM_setMany iM_someOf iM_allOf iM_allWeight iM_enoughWeight iM_worthSum iM_firstRest iM_leastDrawn), (arI rM_tape kM_tape 900 fM_tape), (arI rM_letters kM_letters 8 fM_letters)] sz) [(oc7 oM iM_thrown rM_tape iM_taped iM_size niM_at niM_end niM_token niM_whole niM_nameSize iM_fault iM_place iM_trouble rM_letters iM_failed iM_hasCourt rM_r rM_fresh rM_told rM_read rM_st rM_undone rM_kept iM_undos iM_images rM_fresher iM_fresherSize iM_scale iM_night rM_heardRow rM_cutRow iM_breaths iM_cutMany iM_allBreaths rM_trial rM_words iM_fewestBreaths iM_orderMany iM_orderSum iM_leastOrder rM_often iM_setMany iM_someOf iM_allOf iM_allWeight iM_enoughWeight iM_worthSum iM_firstRest iM_leastDrawn), (arI rM_tape kM_tape 900 fM_tape), (arI rM_letters kM_letters 8 nfM_letters)] [(kM_tape, .int), (kM_letters, .int)] t) (va_A [(oc7 oM iM_thrown rM_tape iM_taped iM_size iM_at iM_end iM_token iM_whole iM_nameSize iM_fault iM_place iM_trouble rM_letters iM_failed iM_hasCourt rM_r rM_fresh rM_told rM_read rM_st rM_undone rM_kept iM_undos iM_images rM_fresher iM_fresherSize iM_scale iM_night rM_heardRow rM_cutRow iM_breaths iM_cutMany iM_allBreaths rM_trial rM_words iM_fewestBreaths iM_orderMany iM_orderSum iM_leastOrder rM_often iM_setMany iM_someOf iM_allOf iM_allWeight iM_enoughWeight iM_worthSum iM_firstRest iM_leastDrawn), (arI rM_tape kM_tape 900 fM_tape), (arI rM_letters kM_letters 8 fM_letters)] sz)) 0 0 (va_A [(oc7 oM iM_thrown rM_tape iM_taped iM_size iM_at iM_end iM_token iM_whole iM_nameSize iM_fault iM_place iM_trouble rM_letters iM_failed iM_hasCourt rM_r rM_fresh rM_told rM_read rM_st rM_undone rM_kept iM_undos iM_images rM_fresher iM_fresherSize iM_scale iM_night rM_heardRow rM_cutRow iM_breaths iM_cutMany iM_allBreaths rM_trial rM_words iM_fewestBreaths iM_orderMany iM_orderSum iM_leastOrder rM_often iM_setMany iM_someOf iM_allOf iM_allWeight iM_enoughWeight iM_worthSum iM_firstRest iM_leastDrawn), (arI rM_tape kM_tape 900 fM_tape), (arI rM_letters kM_letters 8 fM_letters)] sz) := by
  refine Met.ofW (cc := cX7_pass) (maxL := 1) (ret := none) pnX7 rfl ?_
  intro p e s m args below meth c s₁ B hml hv
  obtain ⟨rfl, hsz, hP, hK, hD0, hE⟩ := hv
  have hx := B.exec
  have hb := B.bytes
  have hr := B.returns
  have hts : ∀ w ∈ wG, w.before ([.ref oM] : List Value).toArray s = true := fun w h => atoms_spec (ws := Cond.code yX7_pass cX7_pass 1 none :: wG) B.pre w (List.mem_cons_of_mem _ h)
  have hown : s.vm.findClass RX7 = some m.cls := own_of B.named rfl
  have hlocks := B.notSynchronized
  subst hsz
  have hD := hD0.self (sz := s.heap.size)
  generalize hAe : va_A [(oc7 oM iM_thrown rM_tape iM_taped iM_size iM_at iM_end iM_token iM_whole iM_nameSize iM_fault iM_place iM_trouble rM_letters iM_failed iM_hasCourt rM_r rM_fresh rM_told rM_read rM_st rM_undone rM_kept iM_undos iM_images rM_fresher iM_fresherSize iM_scale iM_night rM_heardRow rM_cutRow iM_breaths iM_cutMany iM_allBreaths rM_trial rM_words iM_fewestBreaths iM_orderMany iM_orderSum iM_leastOrder rM_often iM_setMany iM_someOf iM_allOf iM_allWeight iM_enoughWeight iM_worthSum iM_firstRest iM_leastDrawn), (arI rM_tape kM_tape 900 fM_tape), (arI rM_letters kM_letters 8 fM_letters)] s.heap.size = A at hD hE ⊢
  have hA : ∀ q : Nat, s.heap.size ≤ q → A q := fun q h => by rw [← hAe]; exact Or.inr h
  have hS : va_S A s.heap s.heap [] := va_S.rf
  have hl := lv_entry ([.ref oM]) (n := 1) (Nat.le_of_ble_eq_true rfl)
  rw [lg_entry_eq]
  generalize (lg_sl ([.ref oM]) ++ List.replicate (1 - (lg_sl ([.ref oM])).length) Slot.unset).toArray = ls at hl ⊢
  have hl : lv_has ls 1 [(0, .ref oM)] := hl
  have hG := PX7_pass_eq fM_tape iM_size iM_at iM_end iM_token iM_whole iM_nameSize fM_letters iM_failed
  refine lv_aload_n hx hb dX7_pass_0 rfl (lv_at hl 0 rfl) ?_
  refine va_get (D := (dC, dI)) (ci := 7) (v := .int iM_failed) (C := RX7) (T := TX7) (N := 48) hx hb hts inX7 hown hK hP 0 rfl rfl 13 (by decide) (hts _ wd_380) (fun _ h9 => h9) rfl dX7_pass_1 ?_
  refine lv_if_ne (tgt := 11) hx hb dX7_pass_4 (by decide) (fun c_5278 => ?_) (fun c_5278 => ?_)
  · skip
    have hG := hG.trans (if_neg c_5278)
    have gc_5278 := ti_ne c_5278 rfl kc_0
    replace gc_5278 : (-1) * iM_failed.toInt + 1 ≤ 0 := om_e3003f79 gc_5278 b_iM_failed.1
    exact wq_v hx hb hr 0 trivial (fun t ht hW => ⟨iM_at, iM_end, iM_token, iM_whole, iM_nameSize, fM_letters, ⟨b_iM_end.1, b_iM_end.2⟩, ⟨b_iM_nameSize.1, b_iM_nameSize.2⟩, om_1cb5f934, r_T, (fun h9 => False.elim (om_a5fe015d gc_5278 h9.1)), hG, Bw.to hP hD hK ht hW⟩) hS dX7_pass_11 hlocks
  · skip
    have hG := hG.trans (if_pos c_5278)
    have gc_5278 := ti_eq c_5278 rfl kc_0
    refine lv_aload_n hx hb dX7_pass_7 rfl (lv_at hl 0 rfl) ?_
    have hFc := va_freeI hD hS hA
    refine va_callv (va_runV (As := []) (rest := []) ⟨hx, hb, hml, hown, hts⟩ (tX7_next l dC dI _ oM iM_thrown rM_tape fM_tape kM_tape iM_taped iM_size iM_at iM_end iM_token iM_whole iM_nameSize iM_fault iM_place iM_trouble rM_letters fM_letters kM_letters iM_failed iM_hasCourt rM_r rM_fresh rM_told rM_read rM_st rM_undone rM_kept iM_undos iM_images rM_fresher iM_fresherSize iM_scale iM_night rM_heardRow rM_cutRow iM_breaths iM_cutMany iM_allBreaths rM_trial rM_words iM_fewestBreaths iM_orderMany iM_orderSum iM_leastOrder rM_often iM_setMany iM_someOf iM_allOf iM_allWeight iM_enoughWeight iM_worthSum iM_firstRest iM_leastDrawn b_iM_taped b_iM_size b_iM_end b_iM_nameSize b_iM_failed b_iM_hasCourt b_iM_undos b_iM_images b_iM_scale b_iM_breaths b_iM_cutMany r_T) (cwV 0 hts (wd_V wd_400 wd_401 wd_402 wd_5 (wd_c wd_403)) rfl rfl rfl dv_yX7_next_0 ⟨Nat.le_of_ble_eq_true rfl, Nat.le_of_ble_eq_true rfl⟩) ⟨Pw.fb, recvX7 hK hP (q0 := 0) rfl, fun U hU hW => Pw.to hP hD hK hE hS hFc hU hW⟩ rfl rfl hl.1 rfl (lv_room (Nat.le_of_ble_eq_true rfl)) dX7_pass_8 ⟨Nat.le_of_ble_eq_true rfl, Nat.le_of_ble_eq_true rfl⟩) hS (fun q _ h => hFc q h) hFc (fun u t H locs ht hvm hw hB hz1 hk1 hS => ?_)
    refine ex_6_6 hB (fun x_5279 x_5280 x_5281 x_5282 x_5283 f_5284 b_x_5280 b_x_5283 e_x_5279_0 e_x_5279_1 e_x_5279_2 e_x_5279_3 hB => ?_)
    obtain ⟨hP, hD⟩ := Bw.goA (ws' := [(oc7 oM iM_thrown rM_tape iM_taped iM_size x_5279 x_5280 x_5281 x_5282 x_5283 iM_fault iM_place iM_trouble rM_letters iM_failed iM_hasCourt rM_r rM_fresh rM_told rM_read rM_st rM_undone rM_kept iM_undos iM_images rM_fresher iM_fresherSize iM_scale iM_night rM_heardRow rM_cutRow iM_breaths iM_cutMany iM_allBreaths rM_trial rM_words iM_fewestBreaths iM_orderMany iM_orderSum iM_leastOrder rM_often iM_setMany iM_someOf iM_allOf iM_allWeight iM_enoughWeight iM_worthSum iM_firstRest iM_leastDrawn), (arI rM_tape kM_tape 900 fM_tape), (arI rM_letters kM_letters 8 f_5284)]) hB rfl ht hFc rfl
    clear hz1 hk1 hvm ht hB
    have hG := hG.trans (un6_eq e_x_5279_3)
    clear r_T
    exact wq_v hx hb hr 0 trivial (fun t ht hW => ⟨x_5279, x_5280, x_5281, x_5282, x_5283, f_5284, b_x_5280, b_x_5283, e_x_5279_0, e_x_5279_1, (fun h9 => (e_x_5279_2 h9.2)), hG, Bw.to hP hD hK ht hW⟩) hS dX7_pass_11 hlocks
set_option maxHeartbeats 4000000 in
set_option maxRecDepth 100000 in
theorem tX7_number (l : Launch) (dC : Nat → ClassId) (dI : Nat → Nat → Nat) (sz : Nat) (oM : Nat) (iM_thrown : Int32) (rM_tape : Nat) (fM_tape : Nat → Int32) (kM_tape : ClassId) (iM_taped : Int32) (iM_size : Int32) (iM_at : Int32) (iM_end : Int32) (iM_token : Int32) (iM_whole : Int32) (iM_nameSize : Int32) (iM_fault : Int32) (iM_place : Int32) (iM_trouble : Int32) (rM_letters : Nat) (fM_letters : Nat → Int32) (kM_letters : ClassId) (iM_failed : Int32) (iM_hasCourt : Int32) (rM_r : Nat) (rM_fresh : Nat) (rM_told : Nat) (rM_read : Nat) (rM_st : Nat) (rM_undone : Nat) (rM_kept : Nat) (iM_undos : Int32) (iM_images : Int32) (rM_fresher : Nat) (iM_fresherSize : Int32) (iM_scale : Int32) (iM_night : Int32) (rM_heardRow : Nat) (rM_cutRow : Nat) (iM_breaths : Int32) (iM_cutMany : Int32) (iM_allBreaths : Int32) (rM_trial : Nat) (rM_words : Nat) (iM_fewestBreaths : Int32) (iM_orderMany : Int32) (iM_orderSum : Int32) (iM_leastOrder : Int32) (rM_often : Nat) (iM_setMany : Int32) (iM_someOf : Int32) (iM_allOf : Int32) (iM_allWeight : Int64) (iM_enoughWeight : Int64) (iM_worthSum : Int64) (iM_firstRest : Int32) (iM_leastDrawn : Int32) (p0 : Int32) (p1 : Int32) (b_iM_taped : 0 ≤ iM_taped.toInt ∧ iM_taped.toInt ≤ 900) (b_iM_size : 0 ≤ iM_size.toInt ∧ iM_size.toInt ≤ 900) (b_iM_end : 0 ≤ iM_end.toInt ∧ iM_end.toInt ≤ 900) (b_iM_nameSize : 0 ≤ iM_nameSize.toInt ∧ iM_nameSize.toInt ≤ 900) (b_iM_failed : 0 ≤ iM_failed.toInt ∧ iM_failed.toInt ≤ 1) (b_iM_hasCourt : 0 ≤ iM_hasCourt.toInt ∧ iM_hasCourt.toInt ≤ 1) (b_iM_undos : 0 ≤ iM_undos.toInt ∧ iM_undos.toInt ≤ 16) (b_iM_images : 0 ≤ iM_images.toInt ∧ iM_images.toInt ≤ 3) (b_iM_scale : 1 ≤ iM_scale.toInt ∧ iM_scale.toInt ≤ 1296) (b_iM_breaths : 0 ≤ iM_breaths.toInt ∧ iM_breaths.toInt ≤ 399) (b_iM_cutMany : 0 ≤ iM_cutMany.toInt ∧ iM_cutMany.toInt ≤ 399) (r_T : ImpP (iM_token.toInt = 2) (iM_nameSize.toInt ≤ 8)) (hlh : p0.toInt ≤ p1.toInt) : Met l yX7_number (Cond.code yX7_number cX7_number 4 (some .int) :: wG) ({ frames := 2, cells := 0, slots := 0, locals := 44 }) (va_Pc [.ref oM, .int p0, .int p1] (Pw dC dI sz [(oc7 oM iM_thrown rM_tape iM_taped iM_size iM_at iM_end iM_token iM_whole iM_nameSize iM_fault iM_place iM_trouble rM_letters iM_failed iM_hasCourt rM_r rM_fresh rM_told rM_read rM_st rM_undone rM_kept iM_undos iM_images rM_fresher iM_fresherSize iM_scale iM_night rM_heardRow rM_cutRow iM_breaths iM_cutMany iM_allBreaths rM_trial rM_words iM_fewestBreaths iM_orderMany iM_orderSum iM_leastOrder rM_often iM_setMany iM_someOf iM_allOf iM_allWeight iM_enoughWeight iM_worthSum iM_firstRest iM_leastDrawn), (arI rM_tape kM_tape 900 fM_tape), (arI rM_letters kM_letters 8 fM_letters)] [(kM_tape, .int), (kM_letters, .int)])) (va_Qi (fun (r : Int32) (u : Nat) => (True ∧ (p0.toInt ≤ r.toInt ∧ r.toInt ≤ p1.toInt)) ∧ r = Int32.ofNat u) (fun (u : Nat) (t : State) => ∃ (niM_at : Int32) (niM_end : Int32) (niM_token : Int32) (niM_whole : Int32) (niM_nameSize : Int32) (niM_fault : Int32) (niM_place : Int32) (niM_failed : Int32) (nfM_letters : Nat → Int32), (0 ≤ niM_end.toInt ∧ niM_end.toInt ≤ 900) ∧ (0 ≤ niM_nameSize.toInt ∧ niM_nameSize.toInt ≤ 900) ∧ (0 ≤ niM_failed.toInt ∧ niM_failed.toInt ≤ 1) ∧ (iM_end.toInt ≤ niM_end.toInt) ∧ (ImpP (niM_token.toInt = 2) (niM_nameSize.toInt ≤ 8)) ∧ (iM_failed.toInt ≤ niM_failed.toInt) ∧ (ImpP (niM_failed.toInt ≤ 0 ∧ niM_token.toInt = 59 ) (iM_end.toInt + 1 ≤ niM_end.toInt)) ∧ (PX7_number fM_tape iM_size iM_at iM_end iM_token iM_whole iM_nameSize iM_fault iM_place fM_letters iM_failed p0 p1 = (Int32.ofNat u, niM_at, niM_end, niM_token, niM_whole, niM_nameSize, niM_fault, niM_place, niM_failed, nfM_letters)) ∧ Bw dC dI (va_A [(oc7 oM iM_thrown rM_tape iM_taped iM_size iM_at iM_end iM_token iM_whole iM_nameSize iM_fault iM_place iM_trouble rM_letters iM_failed iM_hasCourt rM_r rM_fresh rM_told rM_read rM_st rM_undone rM_kept iM_undos iM_images rM_fresher iM_fresherSize iM_scale iM_night rM_heardRow rM_cutRow iM_breaths iM_cutMany iM_allBreaths rM_trial rM_words iM_fewestBreaths iM_orderMany iM_orderSum iM_leastOrder rM_often iM_setMany iM_someOf iM_allOf iM_allWeight iM_enoughWeight iM_worthSum iM_firstRest iM_leastDrawn), (arI rM_tape kM_tape 900 fM_tape), (arI rM_letters kM_letters 8 fM_letters)] sz) [(oc7 oM iM_thrown rM_tape iM_taped iM_size niM_at niM_end niM_token niM_whole niM_nameSize niM_fault niM_place iM_trouble rM_letters niM_failed iM_hasCourt rM_r rM_fresh rM_told rM_read rM_st rM_undone rM_kept iM_undos iM_images rM_fresher iM_fresherSize iM_scale iM_night rM_heardRow rM_cutRow iM_breaths iM_cutMany iM_allBreaths rM_trial rM_words iM_fewestBreaths iM_orderMany iM_orderSum iM_leastOrder rM_often iM_setMany iM_someOf iM_allOf iM_allWeight iM_enoughWeight iM_worthSum iM_firstRest iM_leastDrawn), (arI rM_tape kM_tape 900 fM_tape), (arI rM_letters kM_letters 8 nfM_letters)] [(kM_tape, .int), (kM_letters, .int)] t) (va_A [(oc7 oM iM_thrown rM_tape iM_taped iM_size iM_at iM_end iM_token iM_whole iM_nameSize iM_fault iM_place iM_trouble rM_letters iM_failed iM_hasCourt rM_r rM_fresh rM_told rM_read rM_st rM_undone rM_kept iM_undos iM_images rM_fresher iM_fresherSize iM_scale iM_night rM_heardRow rM_cutRow iM_breaths iM_cutMany iM_allBreaths rM_trial rM_words iM_fewestBreaths iM_orderMany iM_orderSum iM_leastOrder rM_often iM_setMany iM_someOf iM_allOf iM_allWeight iM_enoughWeight iM_worthSum iM_firstRest iM_leastDrawn), (arI rM_tape kM_tape 900 fM_tape), (arI rM_letters kM_letters 8 fM_letters)] sz)) 0 0 (va_A [(oc7 oM iM_thrown rM_tape iM_taped iM_size iM_at iM_end iM_token iM_whole iM_nameSize iM_fault iM_place iM_trouble rM_letters iM_failed iM_hasCourt rM_r rM_fresh rM_told rM_read rM_st rM_undone rM_kept iM_undos iM_images rM_fresher iM_fresherSize iM_scale iM_night rM_heardRow rM_cutRow iM_breaths iM_cutMany iM_allBreaths rM_trial rM_words iM_fewestBreaths iM_orderMany iM_orderSum iM_leastOrder rM_often iM_setMany iM_someOf iM_allOf iM_allWeight iM_enoughWeight iM_worthSum iM_firstRest iM_leastDrawn), (arI rM_tape kM_tape 900 fM_tape), (arI rM_letters kM_letters 8 fM_letters)] sz) := by
  refine Met.ofW (cc := cX7_number) (maxL := 4) (ret := (some .int)) pnX7 rfl ?_
  intro p e s m args below meth c s₁ B hml hv
  obtain ⟨rfl, hsz, hP, hK, hD0, hE⟩ := hv
  have hx := B.exec
  have hb := B.bytes
  have hr := B.returns
  have hts : ∀ w ∈ wG, w.before ([.ref oM, .int p0, .int p1] : List Value).toArray s = true := fun w h => atoms_spec (ws := Cond.code yX7_number cX7_number 4 (some .int) :: wG) B.pre w (List.mem_cons_of_mem _ h)
  have hown : s.vm.findClass RX7 = some m.cls := own_of B.named rfl
  have hlocks := B.notSynchronized
  subst hsz
  have hD := hD0.self (sz := s.heap.size)
  generalize hAe : va_A [(oc7 oM iM_thrown rM_tape iM_taped iM_size iM_at iM_end iM_token iM_whole iM_nameSize iM_fault iM_place iM_trouble rM_letters iM_failed iM_hasCourt rM_r rM_fresh rM_told rM_read rM_st rM_undone rM_kept iM_undos iM_images rM_fresher iM_fresherSize iM_scale iM_night rM_heardRow rM_cutRow iM_breaths iM_cutMany iM_allBreaths rM_trial rM_words iM_fewestBreaths iM_orderMany iM_orderSum iM_leastOrder rM_often iM_setMany iM_someOf iM_allOf iM_allWeight iM_enoughWeight iM_worthSum iM_firstRest iM_leastDrawn), (arI rM_tape kM_tape 900 fM_tape), (arI rM_letters kM_letters 8 fM_letters)] s.heap.size = A at hD hE ⊢
  have hA : ∀ q : Nat, s.heap.size ≤ q → A q := fun q h => by rw [← hAe]; exact Or.inr h
  have hS : va_S A s.heap s.heap [] := va_S.rf
  have hl := lv_entry ([.ref oM, .int p0, .int p1]) (n := 4) (Nat.le_of_ble_eq_true rfl)
  rw [lg_entry_eq]
  generalize (lg_sl ([.ref oM, .int p0, .int p1]) ++ List.replicate (4 - (lg_sl ([.ref oM, .int p0, .int p1])).length) Slot.unset).toArray = ls at hl ⊢
  have hl : lv_has ls 4 [(0, .ref oM), (1, .int p0), (2, .int p1)] := hl
  have hG := PX7_number_eq fM_tape iM_size iM_at iM_end iM_token iM_whole iM_nameSize iM_fault iM_place fM_letters iM_failed p0 p1
  refine lv_aload_n hx hb dX7_number_0 rfl (lv_at hl 0 rfl) ?_
  refine va_get (D := (dC, dI)) (ci := 7) (v := .int iM_failed) (C := RX7) (T := TX7) (N := 48) hx hb hts inX7 hown hK hP 0 rfl rfl 13 (by decide) (hts _ wd_380) (fun _ h9 => h9) rfl dX7_number_1 ?_
  refine lv_if_eq (tgt := 9) hx hb dX7_number_4 (by decide) (fun c_5305 => ?_) (fun c_5305 => ?_)
  · skip
    have hG := hG.trans (if_pos c_5305)
    have gc_5305 := ti_eq c_5305 rfl kc_0
    refine lv_aload_n hx hb dX7_number_9 rfl (lv_at hl 0 rfl) ?_
    refine va_get (D := (dC, dI)) (ci := 7) (v := .int iM_token) (C := RX7) (T := TX7) (N := 48) hx hb hts inX7 hown hK hP 0 rfl rfl 6 (by decide) (hts _ wd_383) (fun _ h9 => h9) rfl dX7_number_10 ?_
    refine lv_iconst (v := 3) hx hb dX7_number_13 (by decide) ?_
    refine lv_icmp_eq (tgt := 29) hx hb dX7_number_14 (by decide) (fun c_5306 => ?_) (fun c_5306 => ?_)
    · skip
      have hG := hG.trans (if_pos c_5306)
      have gc_5306 := ti_eq c_5306 rfl kc_3
      refine lv_aload_n hx hb dX7_number_29 rfl (lv_at hl 0 rfl) ?_
      refine va_get (D := (dC, dI)) (ci := 7) (v := .int iM_whole) (C := RX7) (T := TX7) (N := 48) hx hb hts inX7 hown hK hP 0 rfl rfl 7 (by decide) (hts _ wd_405) (fun _ h9 => h9) rfl dX7_number_30 ?_
      refine lv_iload_n hx hb dX7_number_33 rfl (lv_at hl 1 rfl) ?_
      refine lv_iload_n hx hb dX7_number_34 rfl (lv_at hl 2 rfl) ?_
      have hFc : ∀ q, va_A [] _ q → A q := fun q h => hA q (Nat.le_trans hS.1 (va_nilA h))
      refine va_calli (va_runS (As := [.int iM_whole, .int p0, .int p1]) (rest := []) ⟨hx, hb, hml, hown, hts⟩ (tX7_in l dC dI _ iM_whole p0 p1 ) (va_cwS 3 hts (wd_S wd_393 wd_394 wd_5 (wd_c wd_395)) rfl rfl rfl ds_yX7_in_3 ⟨Nat.le_of_ble_eq_true rfl, Nat.le_of_ble_eq_true rfl⟩) ⟨Pw.fb, fun U hU hW => Pn.to hK hE hS hA hU hW⟩ rfl rfl hl.1 rfl (lv_room (Nat.le_of_ble_eq_true rfl)) dX7_number_35 ⟨Nat.le_of_ble_eq_true rfl, Nat.le_of_ble_eq_true rfl⟩) hS (fun q _ h => hFc q h) hFc (fun r u t H locs ht hvm hw hB hz1 hk1 hS => ?_)
      obtain ⟨hP, hD, hK⟩ := Bw.same ht hvm hP hD hK hk1 hFc
      clear hz1 hk1 hvm ht hB
      have hq9 := hw.2
      have hw := hw.1
      obtain ⟨x_5307, rfl⟩ : ∃ z, z = r := ⟨_, rfl⟩
      have hq_x_5307 := hq9
      have hG := hG.trans (lt_eq hq_x_5307.symm)
      have bx_5307 := hw.1
      have dx_5307 := bz_tb bx_5307
      have px_5307 := hw.2
      rcases px_5307 with ⟨gx_5307, hx_5307⟩ | ⟨gx_5307, hx_5307⟩
      · skip
        refine lv_if_ne (tgt := 50) hx hb dX7_number_38 (by decide) (fun c_5308 => ?_) (fun c_5308 => ?_)
        · skip
          have hG := hG.trans (if_neg c_5308)
          have gc_5308 := ti_ne c_5308 rfl kc_0
          replace gc_5308 : (-1) * x_5307.toInt + 1 ≤ 0 := om_e3003f79 gc_5308 dx_5307.1
          refine lv_aload_n hx hb dX7_number_50 rfl (lv_at hl 0 rfl) ?_
          refine va_get (D := (dC, dI)) (ci := 7) (v := .int iM_failed) (C := RX7) (T := TX7) (N := 48) hx hb hts inX7 hown hK hP 0 rfl rfl 13 (by decide) (hts _ wd_380) (fun _ h9 => h9) rfl dX7_number_51 ?_
          refine lv_if_eq (tgt := 59) hx hb dX7_number_54 (by decide) (fun c_5309 => ?_) (fun c_5309 => ?_)
          · skip
            have hG := hG.trans (if_pos c_5309)
            have gc_5309 := ti_eq c_5309 rfl kc_0
            refine lv_aload_n hx hb dX7_number_59 rfl (lv_at hl 0 rfl) ?_
            refine va_get (D := (dC, dI)) (ci := 7) (v := .int iM_whole) (C := RX7) (T := TX7) (N := 48) hx hb hts inX7 hown hK hP 0 rfl rfl 7 (by decide) (hts _ wd_405) (fun _ h9 => h9) rfl dX7_number_60 ?_
            refine lv_istore_n (lv' := [(3, .int iM_whole), (0, .ref oM), (1, .int p0), (2, .int p1)]) hx hb dX7_number_63 rfl hl (by decide) rfl (fun ls hl => ?_)
            refine lv_aload_n hx hb dX7_number_64 rfl (lv_at hl 1 rfl) ?_
            have hFc := va_freeI hD hS hA
            refine va_callv (va_runV (As := []) (rest := []) ⟨hx, hb, hml, hown, hts⟩ (tX7_next l dC dI _ oM iM_thrown rM_tape fM_tape kM_tape iM_taped iM_size iM_at iM_end iM_token iM_whole iM_nameSize iM_fault iM_place iM_trouble rM_letters fM_letters kM_letters iM_failed iM_hasCourt rM_r rM_fresh rM_told rM_read rM_st rM_undone rM_kept iM_undos iM_images rM_fresher iM_fresherSize iM_scale iM_night rM_heardRow rM_cutRow iM_breaths iM_cutMany iM_allBreaths rM_trial rM_words iM_fewestBreaths iM_orderMany iM_orderSum iM_leastOrder rM_often iM_setMany iM_someOf iM_allOf iM_allWeight iM_enoughWeight iM_worthSum iM_firstRest iM_leastDrawn b_iM_taped b_iM_size b_iM_end b_iM_nameSize b_iM_failed b_iM_hasCourt b_iM_undos b_iM_images b_iM_scale b_iM_breaths b_iM_cutMany r_T) (cwV 0 hts (wd_V wd_400 wd_401 wd_402 wd_5 (wd_c wd_403)) rfl rfl rfl dv_yX7_next_0 ⟨Nat.le_of_ble_eq_true rfl, Nat.le_of_ble_eq_true rfl⟩) ⟨Pw.fb, recvX7 hK hP (q0 := 0) rfl, fun U hU hW => Pw.to hP hD hK hE hS hFc hU hW⟩ rfl rfl hl.1 rfl (lv_room (Nat.le_of_ble_eq_true rfl)) dX7_number_65 ⟨Nat.le_of_ble_eq_true rfl, Nat.le_of_ble_eq_true rfl⟩) hS (fun q _ h => hFc q h) hFc (fun u t H locs ht hvm hw hB hz1 hk1 hS => ?_)
            refine ex_6_6 hB (fun x_5310 x_5311 x_5312 x_5313 x_5314 f_5315 b_x_5311 b_x_5314 e_x_5310_0 e_x_5310_1 e_x_5310_2 e_x_5310_3 hB => ?_)
            obtain ⟨hP, hD⟩ := Bw.goA (ws' := [(oc7 oM iM_thrown rM_tape iM_taped iM_size x_5310 x_5311 x_5312 x_5313 x_5314 iM_fault iM_place iM_trouble rM_letters iM_failed iM_hasCourt rM_r rM_fresh rM_told rM_read rM_st rM_undone rM_kept iM_undos iM_images rM_fresher iM_fresherSize iM_scale iM_night rM_heardRow rM_cutRow iM_breaths iM_cutMany iM_allBreaths rM_trial rM_words iM_fewestBreaths iM_orderMany iM_orderSum iM_leastOrder rM_often iM_setMany iM_someOf iM_allOf iM_allWeight iM_enoughWeight iM_worthSum iM_firstRest iM_leastDrawn), (arI rM_tape kM_tape 900 fM_tape), (arI rM_letters kM_letters 8 f_5315)]) hB rfl ht hFc rfl
            clear hz1 hk1 hvm ht hB
            have hG := hG.trans (un6_eq e_x_5310_3)
            clear r_T
            refine lv_iload_n hx hb dX7_number_68 rfl (lv_at hl 0 rfl) ?_
            exact wq_i hx hb hr (cI iM_whole) ⟨⟨trivial, (by first | omega | assumption)⟩, (cI_of iM_whole)⟩ (fun t ht hW => ⟨x_5310, x_5311, x_5312, x_5313, x_5314, iM_fault, iM_place, iM_failed, f_5315, b_x_5311, b_x_5314, ⟨b_iM_failed.1, b_iM_failed.2⟩, e_x_5310_0, e_x_5310_1, om_1cb5f934, (fun h9 => (e_x_5310_2 h9.2)), (cI_tup hG), Bw.to hP hD hK ht hW⟩) hS dX7_number_69 hlocks
          · skip
            have hG := hG.trans (if_neg c_5309)
            have gc_5309 := ti_ne c_5309 rfl kc_0
            replace gc_5309 : iM_failed.toInt + 1 ≤ 0 := om_f992525b gc_5309 gc_5305
            exact ((om_5185113d b_iM_failed.1 gc_5309)).elim
        · skip
          have hG := hG.trans (if_pos c_5308)
          have gc_5308 := ti_eq c_5308 rfl kc_0
          exfalso; clear hG; omega
      · skip
        refine lv_if_ne (tgt := 50) hx hb dX7_number_38 (by decide) (fun c_5316 => ?_) (fun c_5316 => ?_)
        · skip
          have hG := hG.trans (if_neg c_5316)
          have gc_5316 := ti_ne c_5316 rfl kc_0
          replace gc_5316 : x_5307.toInt + 1 ≤ 0 := by omega
          exact ((om_5185113d dx_5307.1 gc_5316)).elim
        · skip
          have hG := hG.trans (if_pos c_5316)
          have gc_5316 := ti_eq c_5316 rfl kc_0
          refine lv_aload_n hx hb dX7_number_41 rfl (lv_at hl 0 rfl) ?_
          refine lv_iconst (v := 4) hx hb dX7_number_42 (by decide) ?_
          refine lv_aload_n hx hb dX7_number_43 rfl (lv_at hl 0 rfl) ?_
          refine va_get (D := (dC, dI)) (ci := 7) (v := .int iM_at) (C := RX7) (T := TX7) (N := 48) hx hb hts inX7 hown hK hP 0 rfl rfl 4 (by decide) (hts _ wd_384) (fun _ h9 => h9) rfl dX7_number_44 ?_
          have hMs := ml_of hD [true, false, false] (wc := [(oc7 oM iM_thrown rM_tape iM_taped iM_size iM_at iM_end iM_token iM_whole iM_nameSize iM_fault iM_place iM_trouble rM_letters iM_failed iM_hasCourt rM_r rM_fresh rM_told rM_read rM_st rM_undone rM_kept iM_undos iM_images rM_fresher iM_fresherSize iM_scale iM_night rM_heardRow rM_cutRow iM_breaths iM_cutMany iM_allBreaths rM_trial rM_words iM_fewestBreaths iM_orderMany iM_orderSum iM_leastOrder rM_often iM_setMany iM_someOf iM_allOf iM_allWeight iM_enoughWeight iM_worthSum iM_firstRest iM_leastDrawn)]) rfl
          have hFc := va_freeM hD hS hA _ hMs
          refine va_callv (va_runV (As := [.int 4, .int iM_at]) (rest := []) ⟨hx, hb, hml, hown, hts⟩ (tX7_wrong l dC dI _ oM iM_thrown rM_tape iM_taped iM_size iM_at iM_end iM_token iM_whole iM_nameSize iM_fault iM_place iM_trouble rM_letters iM_failed iM_hasCourt rM_r rM_fresh rM_told rM_read rM_st rM_undone rM_kept iM_undos iM_images rM_fresher iM_fresherSize iM_scale iM_night rM_heardRow rM_cutRow iM_breaths iM_cutMany iM_allBreaths rM_trial rM_words iM_fewestBreaths iM_orderMany iM_orderSum iM_leastOrder rM_often iM_setMany iM_someOf iM_allOf iM_allWeight iM_enoughWeight iM_worthSum iM_firstRest iM_leastDrawn 4 iM_at b_iM_taped b_iM_size b_iM_end b_iM_nameSize b_iM_failed b_iM_hasCourt b_iM_undos b_iM_images b_iM_scale b_iM_breaths b_iM_cutMany r_T) (cwV 2 hts (wd_V wd_430 wd_431 wd_432 wd_5 (wd_c wd_433)) rfl rfl rfl dv_yX7_wrong_2 ⟨Nat.le_of_ble_eq_true rfl, Nat.le_of_ble_eq_true rfl⟩) ⟨Pw.fb, recvX7 hK hP (q0 := 0) rfl, fun U hU hW => Pw.to (hP.ms _ hMs) (hD.ms _ hMs) (hK.ms [false, false] rfl) hE hS hFc hU hW⟩ rfl rfl hl.1 rfl (lv_room (Nat.le_of_ble_eq_true rfl)) dX7_number_47 ⟨Nat.le_of_ble_eq_true rfl, Nat.le_of_ble_eq_true rfl⟩) hS (fun q _ h => hFc q h) hFc (fun u t H locs ht hvm hw hB hz1 hk1 hS => ?_)
          refine ex_3_3 hB (fun x_5317 x_5318 x_5319 b_x_5319 e_x_5317_0 e_x_5317_1 hB => ?_)
          obtain ⟨hP, hD⟩ := Bw.goN (ws' := [(oc7 oM iM_thrown rM_tape iM_taped iM_size iM_at iM_end iM_token iM_whole iM_nameSize x_5317 x_5318 iM_trouble rM_letters x_5319 iM_hasCourt rM_r rM_fresh rM_told rM_read rM_st rM_undone rM_kept iM_undos iM_images rM_fresher iM_fresherSize iM_scale iM_night rM_heardRow rM_cutRow iM_breaths iM_cutMany iM_allBreaths rM_trial rM_words iM_fewestBreaths iM_orderMany iM_orderSum iM_leastOrder rM_often iM_setMany iM_someOf iM_allOf iM_allWeight iM_enoughWeight iM_worthSum iM_firstRest iM_leastDrawn), (arI rM_tape kM_tape 900 fM_tape), (arI rM_letters kM_letters 8 fM_letters)]) hB rfl ht hP hD _ hMs hk1 hFc rfl
          clear hz1 hk1 hvm ht hB hMs
          have hG := hG.trans (un3_eq e_x_5317_1)
          refine lv_aload_n hx hb dX7_number_50 rfl (lv_at hl 0 rfl) ?_
          refine va_get (D := (dC, dI)) (ci := 7) (v := .int x_5319) (C := RX7) (T := TX7) (N := 48) hx hb hts inX7 hown hK hP 0 rfl rfl 13 (by decide) (hts _ wd_380) (fun _ h9 => h9) rfl dX7_number_51 ?_
          refine lv_if_eq (tgt := 59) hx hb dX7_number_54 (by decide) (fun c_5320 => ?_) (fun c_5320 => ?_)
          · skip
            have hG := hG.trans (if_pos c_5320)
            have gc_5320 := ti_eq c_5320 rfl kc_0
            exact ((om_b1155cdc e_x_5317_0 gc_5320)).elim
          · skip
            have hG := hG.trans (if_neg c_5320)
            have gc_5320 := ti_ne c_5320 rfl kc_0
            replace gc_5320 : (-1) * x_5319.toInt + 1 ≤ 0 := om_e3003f79 gc_5320 b_x_5319.1
            refine lv_iload_n hx hb dX7_number_57 rfl (lv_at hl 1 rfl) ?_
            exact wq_i hx hb hr (cI p0) ⟨⟨trivial, (by first | omega | assumption)⟩, (cI_of p0)⟩ (fun t ht hW => ⟨iM_at, iM_end, iM_token, iM_whole, iM_nameSize, x_5317, x_5318, x_5319, fM_letters, ⟨b_iM_end.1, b_iM_end.2⟩, ⟨b_iM_nameSize.1, b_iM_nameSize.2⟩, b_x_5319, om_1cb5f934, r_T, (om_1fc3dec6 gc_5305 b_x_5319.1), (fun h9 => False.elim (om_92495247 e_x_5317_0 h9.1)), (cI_tup hG), Bw.to hP hD hK ht hW⟩) hS dX7_number_58 hlocks
    · skip
      have hG := hG.trans (if_neg c_5306)
      have gc_5306 := ti_ne c_5306 rfl kc_3
      refine lv_aload_n hx hb dX7_number_17 rfl (lv_at hl 0 rfl) ?_
      refine lv_iconst (v := 1) hx hb dX7_number_18 (by decide) ?_
      refine lv_aload_n hx hb dX7_number_19 rfl (lv_at hl 0 rfl) ?_
      refine va_get (D := (dC, dI)) (ci := 7) (v := .int iM_at) (C := RX7) (T := TX7) (N := 48) hx hb hts inX7 hown hK hP 0 rfl rfl 4 (by decide) (hts _ wd_384) (fun _ h9 => h9) rfl dX7_number_20 ?_
      have hMs := ml_of hD [true, false, false] (wc := [(oc7 oM iM_thrown rM_tape iM_taped iM_size iM_at iM_end iM_token iM_whole iM_nameSize iM_fault iM_place iM_trouble rM_letters iM_failed iM_hasCourt rM_r rM_fresh rM_told rM_read rM_st rM_undone rM_kept iM_undos iM_images rM_fresher iM_fresherSize iM_scale iM_night rM_heardRow rM_cutRow iM_breaths iM_cutMany iM_allBreaths rM_trial rM_words iM_fewestBreaths iM_orderMany iM_orderSum iM_leastOrder rM_often iM_setMany iM_someOf iM_allOf iM_allWeight iM_enoughWeight iM_worthSum iM_firstRest iM_leastDrawn)]) rfl
      have hFc := va_freeM hD hS hA _ hMs
      refine va_callv (va_runV (As := [.int 1, .int iM_at]) (rest := []) ⟨hx, hb, hml, hown, hts⟩ (tX7_wrong l dC dI _ oM iM_thrown rM_tape iM_taped iM_size iM_at iM_end iM_token iM_whole iM_nameSize iM_fault iM_place iM_trouble rM_letters iM_failed iM_hasCourt rM_r rM_fresh rM_told rM_read rM_st rM_undone rM_kept iM_undos iM_images rM_fresher iM_fresherSize iM_scale iM_night rM_heardRow rM_cutRow iM_breaths iM_cutMany iM_allBreaths rM_trial rM_words iM_fewestBreaths iM_orderMany iM_orderSum iM_leastOrder rM_often iM_setMany iM_someOf iM_allOf iM_allWeight iM_enoughWeight iM_worthSum iM_firstRest iM_leastDrawn 1 iM_at b_iM_taped b_iM_size b_iM_end b_iM_nameSize b_iM_failed b_iM_hasCourt b_iM_undos b_iM_images b_iM_scale b_iM_breaths b_iM_cutMany r_T) (cwV 2 hts (wd_V wd_430 wd_431 wd_432 wd_5 (wd_c wd_433)) rfl rfl rfl dv_yX7_wrong_2 ⟨Nat.le_of_ble_eq_true rfl, Nat.le_of_ble_eq_true rfl⟩) ⟨Pw.fb, recvX7 hK hP (q0 := 0) rfl, fun U hU hW => Pw.to (hP.ms _ hMs) (hD.ms _ hMs) (hK.ms [false, false] rfl) hE hS hFc hU hW⟩ rfl rfl hl.1 rfl (lv_room (Nat.le_of_ble_eq_true rfl)) dX7_number_23 ⟨Nat.le_of_ble_eq_true rfl, Nat.le_of_ble_eq_true rfl⟩) hS (fun q _ h => hFc q h) hFc (fun u t H locs ht hvm hw hB hz1 hk1 hS => ?_)
      refine ex_3_3 hB (fun x_5321 x_5322 x_5323 b_x_5323 e_x_5321_0 e_x_5321_1 hB => ?_)
      obtain ⟨hP, hD⟩ := Bw.goN (ws' := [(oc7 oM iM_thrown rM_tape iM_taped iM_size iM_at iM_end iM_token iM_whole iM_nameSize x_5321 x_5322 iM_trouble rM_letters x_5323 iM_hasCourt rM_r rM_fresh rM_told rM_read rM_st rM_undone rM_kept iM_undos iM_images rM_fresher iM_fresherSize iM_scale iM_night rM_heardRow rM_cutRow iM_breaths iM_cutMany iM_allBreaths rM_trial rM_words iM_fewestBreaths iM_orderMany iM_orderSum iM_leastOrder rM_often iM_setMany iM_someOf iM_allOf iM_allWeight iM_enoughWeight iM_worthSum iM_firstRest iM_leastDrawn), (arI rM_tape kM_tape 900 fM_tape), (arI rM_letters kM_letters 8 fM_letters)]) hB rfl ht hP hD _ hMs hk1 hFc rfl
      clear hz1 hk1 hvm ht hB hMs
      have hG := hG.trans (un3_eq e_x_5321_1)
      refine lv_goto (tgt := 50) hx hb dX7_number_26 (by decide) ?_
      refine lv_aload_n hx hb dX7_number_50 rfl (lv_at hl 0 rfl) ?_
      refine va_get (D := (dC, dI)) (ci := 7) (v := .int x_5323) (C := RX7) (T := TX7) (N := 48) hx hb hts inX7 hown hK hP 0 rfl rfl 13 (by decide) (hts _ wd_380) (fun _ h9 => h9) rfl dX7_number_51 ?_
      refine lv_if_eq (tgt := 59) hx hb dX7_number_54 (by decide) (fun c_5324 => ?_) (fun c_5324 => ?_)
      · skip
        have hG := hG.trans (if_pos c_5324)
        have gc_5324 := ti_eq c_5324 rfl kc_0
        exact ((om_b1155cdc e_x_5321_0 gc_5324)).elim
      · skip
        have hG := hG.trans (if_neg c_5324)
        have gc_5324 := ti_ne c_5324 rfl kc_0
        replace gc_5324 : (-1) * x_5323.toInt + 1 ≤ 0 := om_e3003f79 gc_5324 b_x_5323.1
        refine lv_iload_n hx hb dX7_number_57 rfl (lv_at hl 1 rfl) ?_
        exact wq_i hx hb hr (cI p0) ⟨⟨trivial, (by first | omega | assumption)⟩, (cI_of p0)⟩ (fun t ht hW => ⟨iM_at, iM_end, iM_token, iM_whole, iM_nameSize, x_5321, x_5322, x_5323, fM_letters, ⟨b_iM_end.1, b_iM_end.2⟩, ⟨b_iM_nameSize.1, b_iM_nameSize.2⟩, b_x_5323, om_1cb5f934, r_T, (om_1fc3dec6 gc_5305 b_x_5323.1), (fun h9 => False.elim (om_92495247 e_x_5321_0 h9.1)), (cI_tup hG), Bw.to hP hD hK ht hW⟩) hS dX7_number_58 hlocks
  · skip
    have hG := hG.trans (if_neg c_5305)
    have gc_5305 := ti_ne c_5305 rfl kc_0
    replace gc_5305 : (-1) * iM_failed.toInt + 1 ≤ 0 := om_e3003f79 gc_5305 b_iM_failed.1
    refine lv_iload_n hx hb dX7_number_7 rfl (lv_at hl 1 rfl) ?_
    exact wq_i hx hb hr (cI p0) ⟨⟨trivial, (by first | omega | assumption)⟩, (cI_of p0)⟩ (fun t ht hW => ⟨iM_at, iM_end, iM_token, iM_whole, iM_nameSize, iM_fault, iM_place, iM_failed, fM_letters, ⟨b_iM_end.1, b_iM_end.2⟩, ⟨b_iM_nameSize.1, b_iM_nameSize.2⟩, ⟨b_iM_failed.1, b_iM_failed.2⟩, om_1cb5f934, r_T, om_1cb5f934, (fun h9 => False.elim (om_a5fe015d gc_5305 h9.1)), (cI_tup hG), Bw.to hP hD hK ht hW⟩) hS dX7_number_8 hlocks
set_option maxHeartbeats 4000000 in
set_option maxRecDepth 100000 in
theorem tX7_after (l : Launch) (dC : Nat → ClassId) (dI : Nat → Nat → Nat) (sz : Nat) (oM : Nat) (iM_thrown : Int32) (rM_tape : Nat) (fM_tape : Nat → Int32) (kM_tape : ClassId) (iM_taped : Int32) (iM_size : Int32) (iM_at : Int32) (iM_end : Int32) (iM_token : Int32) (iM_whole : Int32) (iM_nameSize : Int32) (iM_fault : Int32) (iM_place : Int32) (iM_trouble : Int32) (rM_letters : Nat) (fM_letters : Nat → Int32) (kM_letters : ClassId) (iM_failed : Int32) (iM_hasCourt : Int32) (rM_r : Nat) (rM_fresh : Nat) (rM_told : Nat) (rM_read : Nat) (rM_st : Nat) (rM_undone : Nat) (rM_kept : Nat) (iM_undos : Int32) (iM_images : Int32) (rM_fresher : Nat) (iM_fresherSize : Int32) (iM_scale : Int32) (iM_night : Int32) (rM_heardRow : Nat) (rM_cutRow : Nat) (iM_breaths : Int32) (iM_cutMany : Int32) (iM_allBreaths : Int32) (rM_trial : Nat) (rM_words : Nat) (iM_fewestBreaths : Int32) (iM_orderMany : Int32) (iM_orderSum : Int32) (iM_leastOrder : Int32) (rM_often : Nat) (iM_setMany : Int32) (iM_someOf : Int32) (iM_allOf : Int32) (iM_allWeight : Int64) (iM_enoughWeight : Int64) (iM_worthSum : Int64) (iM_firstRest : Int32) (iM_leastDrawn : Int32) (sA : Nat) (p0 : Int32) (p1 : Int32) (sV : Nat) (sN : Nat) (sF : Nat → Int32) (b_iM_taped : 0 ≤ iM_taped.toInt ∧ iM_taped.toInt ≤ 900) (b_iM_size : 0 ≤ iM_size.toInt ∧ iM_size.toInt ≤ 900) (b_iM_end : 0 ≤ iM_end.toInt ∧ iM_end.toInt ≤ 900) (b_iM_nameSize : 0 ≤ iM_nameSize.toInt ∧ iM_nameSize.toInt ≤ 900) (b_iM_failed : 0 ≤ iM_failed.toInt ∧ iM_failed.toInt ≤ 1) (b_iM_hasCourt : 0 ≤ iM_hasCourt.toInt ∧ iM_hasCourt.toInt ≤ 1) (b_iM_undos : 0 ≤ iM_undos.toInt ∧ iM_undos.toInt ≤ 16) (b_iM_images : 0 ≤ iM_images.toInt ∧ iM_images.toInt ≤ 3) (b_iM_scale : 1 ≤ iM_scale.toInt ∧ iM_scale.toInt ≤ 1296) (b_iM_breaths : 0 ≤ iM_breaths.toInt ∧ iM_breaths.toInt ≤ 399) (b_iM_cutMany : 0 ≤ iM_cutMany.toInt ∧ iM_cutMany.toInt ≤ 399) (r_T : ImpP (iM_token.toInt = 2) (iM_nameSize.toInt ≤ 8)) (hsn : sN ≤ 8) (hlh : p0.toInt ≤ p1.toInt) : Met l yX7_after (Cond.code yX7_after cX7_after 4 (some .int) :: wG) ({ frames := 7, cells := 0, slots := 0, locals := 176 }) (va_Pc [.ref oM, .ref sA, .int p0, .int p1] (Pq dC dI sz [(oc7 oM iM_thrown rM_tape iM_taped iM_size iM_at iM_end iM_token iM_whole iM_nameSize iM_fault iM_place iM_trouble rM_letters iM_failed iM_hasCourt rM_r rM_fresh rM_told rM_read rM_st rM_undone rM_kept iM_undos iM_images rM_fresher iM_fresherSize iM_scale iM_night rM_heardRow rM_cutRow iM_breaths iM_cutMany iM_allBreaths rM_trial rM_words iM_fewestBreaths iM_orderMany iM_orderSum iM_leastOrder rM_often iM_setMany iM_someOf iM_allOf iM_allWeight iM_enoughWeight iM_worthSum iM_firstRest iM_leastDrawn), (arI rM_tape kM_tape 900 fM_tape), (arI rM_letters kM_letters 8 fM_letters)] [(kM_tape, .int), (kM_letters, .int)] sA sV sN sF)) (va_Qi (fun (r : Int32) (u : Nat) => (True ∧ (p0.toInt ≤ r.toInt ∧ r.toInt ≤ p1.toInt)) ∧ r = Int32.ofNat u) (fun (u : Nat) (t : State) => ∃ (niM_at : Int32) (niM_end : Int32) (niM_token : Int32) (niM_whole : Int32) (niM_nameSize : Int32) (niM_fault : Int32) (niM_place : Int32) (niM_failed : Int32) (nfM_letters : Nat → Int32), (0 ≤ niM_end.toInt ∧ niM_end.toInt ≤ 900) ∧ (0 ≤ niM_nameSize.toInt ∧ niM_nameSize.toInt ≤ 900) ∧ (0 ≤ niM_failed.toInt ∧ niM_failed.toInt ≤ 1) ∧ (iM_end.toInt ≤ niM_end.toInt) ∧ (ImpP (niM_token.toInt = 2) (niM_nameSize.toInt ≤ 8)) ∧ (iM_failed.toInt ≤ niM_failed.toInt) ∧ (ImpP (niM_failed.toInt ≤ 0 ∧ niM_token.toInt = 59 ) (iM_end.toInt + 1 ≤ niM_end.toInt)) ∧ (PX7_after fM_tape iM_size iM_at iM_end iM_token iM_whole iM_nameSize iM_fault iM_place fM_letters iM_failed p0 p1 sN sF = (Int32.ofNat u, niM_at, niM_end, niM_token, niM_whole, niM_nameSize, niM_fault, niM_place, niM_failed, nfM_letters)) ∧ Bw dC dI (va_A [(oc7 oM iM_thrown rM_tape iM_taped iM_size iM_at iM_end iM_token iM_whole iM_nameSize iM_fault iM_place iM_trouble rM_letters iM_failed iM_hasCourt rM_r rM_fresh rM_told rM_read rM_st rM_undone rM_kept iM_undos iM_images rM_fresher iM_fresherSize iM_scale iM_night rM_heardRow rM_cutRow iM_breaths iM_cutMany iM_allBreaths rM_trial rM_words iM_fewestBreaths iM_orderMany iM_orderSum iM_leastOrder rM_often iM_setMany iM_someOf iM_allOf iM_allWeight iM_enoughWeight iM_worthSum iM_firstRest iM_leastDrawn), (arI rM_tape kM_tape 900 fM_tape), (arI rM_letters kM_letters 8 fM_letters)] sz) [(oc7 oM iM_thrown rM_tape iM_taped iM_size niM_at niM_end niM_token niM_whole niM_nameSize niM_fault niM_place iM_trouble rM_letters niM_failed iM_hasCourt rM_r rM_fresh rM_told rM_read rM_st rM_undone rM_kept iM_undos iM_images rM_fresher iM_fresherSize iM_scale iM_night rM_heardRow rM_cutRow iM_breaths iM_cutMany iM_allBreaths rM_trial rM_words iM_fewestBreaths iM_orderMany iM_orderSum iM_leastOrder rM_often iM_setMany iM_someOf iM_allOf iM_allWeight iM_enoughWeight iM_worthSum iM_firstRest iM_leastDrawn), (arI rM_tape kM_tape 900 fM_tape), (arI rM_letters kM_letters 8 nfM_letters)] [(kM_tape, .int), (kM_letters, .int)] t) (va_A [(oc7 oM iM_thrown rM_tape iM_taped iM_size iM_at iM_end iM_token iM_whole iM_nameSize iM_fault iM_place iM_trouble rM_letters iM_failed iM_hasCourt rM_r rM_fresh rM_told rM_read rM_st rM_undone rM_kept iM_undos iM_images rM_fresher iM_fresherSize iM_scale iM_night rM_heardRow rM_cutRow iM_breaths iM_cutMany iM_allBreaths rM_trial rM_words iM_fewestBreaths iM_orderMany iM_orderSum iM_leastOrder rM_often iM_setMany iM_someOf iM_allOf iM_allWeight iM_enoughWeight iM_worthSum iM_firstRest iM_leastDrawn), (arI rM_tape kM_tape 900 fM_tape), (arI rM_letters kM_letters 8 fM_letters)] sz)) 0 0 (va_A [(oc7 oM iM_thrown rM_tape iM_taped iM_size iM_at iM_end iM_token iM_whole iM_nameSize iM_fault iM_place iM_trouble rM_letters iM_failed iM_hasCourt rM_r rM_fresh rM_told rM_read rM_st rM_undone rM_kept iM_undos iM_images rM_fresher iM_fresherSize iM_scale iM_night rM_heardRow rM_cutRow iM_breaths iM_cutMany iM_allBreaths rM_trial rM_words iM_fewestBreaths iM_orderMany iM_orderSum iM_leastOrder rM_often iM_setMany iM_someOf iM_allOf iM_allWeight iM_enoughWeight iM_worthSum iM_firstRest iM_leastDrawn), (arI rM_tape kM_tape 900 fM_tape), (arI rM_letters kM_letters 8 fM_letters)] sz) := by
  refine Met.ofW (cc := cX7_after) (maxL := 4) (ret := (some .int)) pnX7 rfl ?_
  intro p e s m args below meth c s₁ B hml hv
  obtain ⟨rfl, ⟨hsz, hP, hK, hD0, hE⟩, hSw⟩ := hv
  have hx := B.exec
  have hb := B.bytes
  have hr := B.returns
  have hts : ∀ w ∈ wG, w.before ([.ref oM, .ref sA, .int p0, .int p1] : List Value).toArray s = true := fun w h => atoms_spec (ws := Cond.code yX7_after cX7_after 4 (some .int) :: wG) B.pre w (List.mem_cons_of_mem _ h)
  have hown : s.vm.findClass RX7 = some m.cls := own_of B.named rfl
  have hlocks := B.notSynchronized
  subst hsz
  have hD := hD0.self (sz := s.heap.size)
  generalize hAe : va_A [(oc7 oM iM_thrown rM_tape iM_taped iM_size iM_at iM_end iM_token iM_whole iM_nameSize iM_fault iM_place iM_trouble rM_letters iM_failed iM_hasCourt rM_r rM_fresh rM_told rM_read rM_st rM_undone rM_kept iM_undos iM_images rM_fresher iM_fresherSize iM_scale iM_night rM_heardRow rM_cutRow iM_breaths iM_cutMany iM_allBreaths rM_trial rM_words iM_fewestBreaths iM_orderMany iM_orderSum iM_leastOrder rM_often iM_setMany iM_someOf iM_allOf iM_allWeight iM_enoughWeight iM_worthSum iM_firstRest iM_leastDrawn), (arI rM_tape kM_tape 900 fM_tape), (arI rM_letters kM_letters 8 fM_letters)] s.heap.size = A at hD hE hSw ⊢
  have hA : ∀ q : Nat, s.heap.size ≤ q → A q := fun q h => by rw [← hAe]; exact Or.inr h
  have hS : va_S A s.heap s.heap [] := va_S.rf
  have hl := lv_entry ([.ref oM, .ref sA, .int p0, .int p1]) (n := 4) (Nat.le_of_ble_eq_true rfl)
  rw [lg_entry_eq]
  generalize (lg_sl ([.ref oM, .ref sA, .int p0, .int p1]) ++ List.replicate (4 - (lg_sl ([.ref oM, .ref sA, .int p0, .int p1])).length) Slot.unset).toArray = ls at hl ⊢
  have hl : lv_has ls 4 [(0, .ref oM), (1, .ref sA), (2, .int p0), (3, .int p1)] := hl
  have hG := PX7_after_eq fM_tape iM_size iM_at iM_end iM_token iM_whole iM_nameSize iM_fault iM_place fM_letters iM_failed p0 p1 sN sF
  have hsN9 : (sN : Int) ≤ 8 := Int.ofNat_le.mpr hsn
  have hsN0 : 0 ≤ (sN : Int) := Int.natCast_nonneg _
  refine lv_aload_n hx hb dX7_after_0 rfl (lv_at hl 0 rfl) ?_
  refine lv_aload_n hx hb dX7_after_1 rfl (lv_at hl 1 rfl) ?_
  have hFc := va_freeI hD hS hA
  refine va_callv (va_runV (As := [.ref sA]) (rest := []) ⟨hx, hb, hml, hown, hts⟩ (tX7_must l dC dI _ oM iM_thrown rM_tape fM_tape kM_tape iM_taped iM_size iM_at iM_end iM_token iM_whole iM_nameSize iM_fault iM_place iM_trouble rM_letters fM_letters kM_letters iM_failed iM_hasCourt rM_r rM_fresh rM_told rM_read rM_st rM_undone rM_kept iM_undos iM_images rM_fresher iM_fresherSize iM_scale iM_night rM_heardRow rM_cutRow iM_breaths iM_cutMany iM_allBreaths rM_trial rM_words iM_fewestBreaths iM_orderMany iM_orderSum iM_leastOrder rM_often iM_setMany iM_someOf iM_allOf iM_allWeight iM_enoughWeight iM_worthSum iM_firstRest iM_leastDrawn sA sV sN sF b_iM_taped b_iM_size b_iM_end b_iM_nameSize b_iM_failed b_iM_hasCourt b_iM_undos b_iM_images b_iM_scale b_iM_breaths b_iM_cutMany r_T hsn) (cwV 1 hts (wd_V wd_438 wd_439 wd_440 wd_5 (wd_c wd_441)) rfl rfl rfl dv_yX7_must_1 ⟨Nat.le_of_ble_eq_true rfl, Nat.le_of_ble_eq_true rfl⟩) ⟨Pq.fb, recvX7 hK hP (q0 := 0) rfl, fun U hU hW => Pq.to hP hD hK hSw hE hS hFc hU hW⟩ rfl rfl hl.1 rfl (lv_room (Nat.le_of_ble_eq_true rfl)) dX7_after_2 ⟨Nat.le_of_ble_eq_true rfl, Nat.le_of_ble_eq_true rfl⟩) hS (fun q _ h => hFc q h) hFc (fun u t H locs ht hvm hw hB hz1 hk1 hS => ?_)
  refine ex_9_8 hB (fun x_5344 x_5345 x_5346 x_5347 x_5348 x_5349 x_5350 x_5351 f_5352 b_x_5345 b_x_5348 b_x_5351 e_x_5344_0 e_x_5344_1 e_x_5344_2 e_x_5344_3 e_x_5344_4 hB => ?_)
  obtain ⟨hP, hD⟩ := Bw.goA (ws' := [(oc7 oM iM_thrown rM_tape iM_taped iM_size x_5344 x_5345 x_5346 x_5347 x_5348 x_5349 x_5350 iM_trouble rM_letters x_5351 iM_hasCourt rM_r rM_fresh rM_told rM_read rM_st rM_undone rM_kept iM_undos iM_images rM_fresher iM_fresherSize iM_scale iM_night rM_heardRow rM_cutRow iM_breaths iM_cutMany iM_allBreaths rM_trial rM_words iM_fewestBreaths iM_orderMany iM_orderSum iM_leastOrder rM_often iM_setMany iM_someOf iM_allOf iM_allWeight iM_enoughWeight iM_worthSum iM_firstRest iM_leastDrawn), (arI rM_tape kM_tape 900 fM_tape), (arI rM_letters kM_letters 8 f_5352)]) hB rfl ht hFc rfl
  clear hz1 hk1 hvm ht hB
  have hG := hG.trans (un9_eq e_x_5344_4)
  clear r_T
  refine lv_aload_n hx hb dX7_after_5 rfl (lv_at hl 0 rfl) ?_
  refine lv_iload_n hx hb dX7_after_6 rfl (lv_at hl 2 rfl) ?_
  refine lv_iload_n hx hb dX7_after_7 rfl (lv_at hl 3 rfl) ?_
  have hFc := va_freeI hD hS hA
  refine va_calli (va_runV (As := [.int p0, .int p1]) (rest := []) ⟨hx, hb, hml, hown, hts⟩ (tX7_number l dC dI _ oM iM_thrown rM_tape fM_tape kM_tape iM_taped iM_size x_5344 x_5345 x_5346 x_5347 x_5348 x_5349 x_5350 iM_trouble rM_letters f_5352 kM_letters x_5351 iM_hasCourt rM_r rM_fresh rM_told rM_read rM_st rM_undone rM_kept iM_undos iM_images rM_fresher iM_fresherSize iM_scale iM_night rM_heardRow rM_cutRow iM_breaths iM_cutMany iM_allBreaths rM_trial rM_words iM_fewestBreaths iM_orderMany iM_orderSum iM_leastOrder rM_often iM_setMany iM_someOf iM_allOf iM_allWeight iM_enoughWeight iM_worthSum iM_firstRest iM_leastDrawn p0 p1 b_iM_taped b_iM_size b_x_5345 b_x_5348 b_x_5351 b_iM_hasCourt b_iM_undos b_iM_images b_iM_scale b_iM_breaths b_iM_cutMany e_x_5344_1 hlh) (cwV 2 hts (wd_V wd_446 wd_447 wd_448 wd_5 (wd_c wd_449)) rfl rfl rfl dv_yX7_number_2 ⟨Nat.le_of_ble_eq_true rfl, Nat.le_of_ble_eq_true rfl⟩) ⟨Pw.fb, recvX7 hK hP (q0 := 0) rfl, fun U hU hW => Pw.to hP hD hK hE hS hFc hU hW⟩ rfl rfl hl.1 rfl (lv_room (Nat.le_of_ble_eq_true rfl)) dX7_after_8 ⟨Nat.le_of_ble_eq_true rfl, Nat.le_of_ble_eq_true rfl⟩) hS (fun q _ h => hFc q h) hFc (fun r u t H locs ht hvm hw hB hz1 hk1 hS => ?_)
  have hru9 := hw.2
  have hw := hw.1
  refine ex_9_8 hB (fun x_5353 x_5354 x_5355 x_5356 x_5357 x_5358 x_5359 x_5360 f_5361 b_x_5354 b_x_5357 b_x_5360 e_x_5353_0 e_x_5353_1 e_x_5353_2 e_x_5353_3 e_x_5353_4 hB => ?_)
  obtain ⟨hP, hD⟩ := Bw.goA (ws' := [(oc7 oM iM_thrown rM_tape iM_taped iM_size x_5353 x_5354 x_5355 x_5356 x_5357 x_5358 x_5359 iM_trouble rM_letters x_5360 iM_hasCourt rM_r rM_fresh rM_told rM_read rM_st rM_undone rM_kept iM_undos iM_images rM_fresher iM_fresherSize iM_scale iM_night rM_heardRow rM_cutRow iM_breaths iM_cutMany iM_allBreaths rM_trial rM_words iM_fewestBreaths iM_orderMany iM_orderSum iM_leastOrder rM_often iM_setMany iM_someOf iM_allOf iM_allWeight iM_enoughWeight iM_worthSum iM_firstRest iM_leastDrawn), (arI rM_tape kM_tape 900 fM_tape), (arI rM_letters kM_letters 8 f_5361)]) hB rfl ht hFc rfl
  clear hz1 hk1 hvm ht hB
  rw [← hru9] at e_x_5353_4
  obtain ⟨x_5362, rfl⟩ : ∃ z, z = r := ⟨_, rfl⟩
  have hG := hG.trans (un10_eq e_x_5353_4)
  have lx_5362 := hw.2
  clear e_x_5344_1
  clear e_x_5344_3
  exact wq_i hx hb hr (cI x_5362) ⟨⟨trivial, (by first | omega | assumption)⟩, (cI_of x_5362)⟩ (fun t ht hW => ⟨x_5353, x_5354, x_5355, x_5356, x_5357, x_5358, x_5359, x_5360, f_5361, b_x_5354, b_x_5357, b_x_5360, (om_9348f5ae e_x_5344_0 e_x_5353_0), e_x_5353_1, (om_9348f5ae e_x_5344_2 e_x_5353_2), (fun h9 => (om_7ed234da e_x_5344_0 (e_x_5353_3 ⟨h9.1, h9.2⟩))), (cI_tup hG), Bw.to hP hD hK ht hW⟩) hS dX7_after_11 hlocks
set_option maxHeartbeats 4000000 in
set_option maxRecDepth 100000 in
theorem tX7_begins (l : Launch) (dC : Nat → ClassId) (dI : Nat → Nat → Nat) (sz : Nat) (oM : Nat) (iM_thrown : Int32) (rM_tape : Nat) (fM_tape : Nat → Int32) (kM_tape : ClassId) (iM_taped : Int32) (iM_size : Int32) (iM_at : Int32) (iM_end : Int32) (iM_token : Int32) (iM_whole : Int32) (iM_nameSize : Int32) (iM_fault : Int32) (iM_place : Int32) (iM_trouble : Int32) (rM_letters : Nat) (fM_letters : Nat → Int32) (kM_letters : ClassId) (iM_failed : Int32) (iM_hasCourt : Int32) (rM_r : Nat) (rM_fresh : Nat) (fM_fresh : Nat → Int32) (kM_fresh : ClassId) (rM_told : Nat) (rM_read : Nat) (fM_read : Nat → Int32) (kM_read : ClassId) (rM_st : Nat) (rM_undone : Nat) (rM_kept : Nat) (iM_undos : Int32) (iM_images : Int32) (rM_fresher : Nat) (iM_fresherSize : Int32) (iM_scale : Int32) (iM_night : Int32) (rM_heardRow : Nat) (rM_cutRow : Nat) (iM_breaths : Int32) (iM_cutMany : Int32) (iM_allBreaths : Int32) (rM_trial : Nat) (rM_words : Nat) (iM_fewestBreaths : Int32) (iM_orderMany : Int32) (iM_orderSum : Int32) (iM_leastOrder : Int32) (rM_often : Nat) (iM_setMany : Int32) (iM_someOf : Int32) (iM_allOf : Int32) (iM_allWeight : Int64) (iM_enoughWeight : Int64) (iM_worthSum : Int64) (iM_firstRest : Int32) (iM_leastDrawn : Int32) (sA : Nat) (p0 : Int32) (sV : Nat) (sN : Nat) (sF : Nat → Int32) (b_iM_taped : 0 ≤ iM_taped.toInt ∧ iM_taped.toInt ≤ 900) (b_iM_size : 0 ≤ iM_size.toInt ∧ iM_size.toInt ≤ 900) (b_iM_end : 0 ≤ iM_end.toInt ∧ iM_end.toInt ≤ 900) (b_iM_nameSize : 0 ≤ iM_nameSize.toInt ∧ iM_nameSize.toInt ≤ 900) (b_iM_failed : 0 ≤ iM_failed.toInt ∧ iM_failed.toInt ≤ 1) (b_iM_hasCourt : 0 ≤ iM_hasCourt.toInt ∧ iM_hasCourt.toInt ≤ 1) (b_iM_undos : 0 ≤ iM_undos.toInt ∧ iM_undos.toInt ≤ 16) (b_iM_images : 0 ≤ iM_images.toInt ∧ iM_images.toInt ≤ 3) (b_iM_scale : 1 ≤ iM_scale.toInt ∧ iM_scale.toInt ≤ 1296) (b_iM_breaths : 0 ≤ iM_breaths.toInt ∧ iM_breaths.toInt ≤ 399) (b_iM_cutMany : 0 ≤ iM_cutMany.toInt ∧ iM_cutMany.toInt ≤ 399) (r_T : ImpP (iM_token.toInt = 2) (iM_nameSize.toInt ≤ 8)) (r_P : POk fM_fresh fM_read) (hsn : sN ≤ 8) (hp0 : 0 ≤ p0.toInt ∧ p0.toInt ≤ 1) : Met l yX7_begins (Cond.code yX7_begins cX7_begins 3 (some .boolean) :: wG) ({ frames := 5, cells := 0, slots := 0, locals := 134 }) (va_Pc [.ref oM, .ref sA, .int p0] (Pq dC dI sz [(oc7 oM iM_thrown rM_tape iM_taped iM_size iM_at iM_end iM_token iM_whole iM_nameSize iM_fault iM_place iM_trouble rM_letters iM_failed iM_hasCourt rM_r rM_fresh rM_told rM_read rM_st rM_undone rM_kept iM_undos iM_images rM_fresher iM_fresherSize iM_scale iM_night rM_heardRow rM_cutRow iM_breaths iM_cutMany iM_allBreaths rM_trial rM_words iM_fewestBreaths iM_orderMany iM_orderSum iM_leastOrder rM_often iM_setMany iM_someOf iM_allOf iM_allWeight iM_enoughWeight iM_worthSum iM_firstRest iM_leastDrawn), (arI rM_tape kM_tape 900 fM_tape), (arI rM_letters kM_letters 8 fM_letters), (arI rM_fresh kM_fresh 287 fM_fresh), (arI rM_read kM_read 90 fM_read)] [(kM_tape, .int), (kM_letters, .int), (kM_fresh, .int), (kM_read, .int)] sA sV sN sF)) (va_Qi (fun (r : Int32) (u : Nat) => ((r = 0 ∨ r = 1) ∧ (r.toInt = (u : Int))) ∧ r = Int32.ofNat u) (fun (u : Nat) (t : State) => ∃ (niM_at : Int32) (niM_end : Int32) (niM_token : Int32) (niM_whole : Int32) (niM_nameSize : Int32) (niM_fault : Int32) (niM_place : Int32) (niM_failed : Int32) (nfM_letters : Nat → Int32), (0 ≤ niM_end.toInt ∧ niM_end.toInt ≤ 900) ∧ (0 ≤ niM_nameSize.toInt ∧ niM_nameSize.toInt ≤ 900) ∧ (0 ≤ niM_failed.toInt ∧ niM_failed.toInt ≤ 1) ∧ (iM_end.toInt ≤ niM_end.toInt) ∧ (ImpP (niM_token.toInt = 2) (niM_nameSize.toInt ≤ 8)) ∧ (iM_failed.toInt ≤ niM_failed.toInt) ∧ (ImpP ((u : Int) = 1) (iM_token.toInt = 2 ∧ (1 ≤ p0.toInt ∨ 1 ≤ niM_failed.toInt))) ∧ (ImpP ((u : Int) = 1 ∧ niM_failed.toInt ≤ 0 ∧ niM_token.toInt = 59 ) (iM_end.toInt + 1 ≤ niM_end.toInt)) ∧ (PX7_begins fM_tape iM_size iM_at iM_end iM_token iM_whole iM_nameSize iM_fault iM_place fM_letters iM_failed fM_fresh p0 sN sF = (Int32.ofNat u, niM_at, niM_end, niM_token, niM_whole, niM_nameSize, niM_fault, niM_place, niM_failed, nfM_letters)) ∧ Bw dC dI (va_A [(oc7 oM iM_thrown rM_tape iM_taped iM_size iM_at iM_end iM_token iM_whole iM_nameSize iM_fault iM_place iM_trouble rM_letters iM_failed iM_hasCourt rM_r rM_fresh rM_told rM_read rM_st rM_undone rM_kept iM_undos iM_images rM_fresher iM_fresherSize iM_scale iM_night rM_heardRow rM_cutRow iM_breaths iM_cutMany iM_allBreaths rM_trial rM_words iM_fewestBreaths iM_orderMany iM_orderSum iM_leastOrder rM_often iM_setMany iM_someOf iM_allOf iM_allWeight iM_enoughWeight iM_worthSum iM_firstRest iM_leastDrawn), (arI rM_tape kM_tape 900 fM_tape), (arI rM_letters kM_letters 8 fM_letters), (arI rM_fresh kM_fresh 287 fM_fresh), (arI rM_read kM_read 90 fM_read)] sz) [(oc7 oM iM_thrown rM_tape iM_taped iM_size niM_at niM_end niM_token niM_whole niM_nameSize niM_fault niM_place iM_trouble rM_letters niM_failed iM_hasCourt rM_r rM_fresh rM_told rM_read rM_st rM_undone rM_kept iM_undos iM_images rM_fresher iM_fresherSize iM_scale iM_night rM_heardRow rM_cutRow iM_breaths iM_cutMany iM_allBreaths rM_trial rM_words iM_fewestBreaths iM_orderMany iM_orderSum iM_leastOrder rM_often iM_setMany iM_someOf iM_allOf iM_allWeight iM_enoughWeight iM_worthSum iM_firstRest iM_leastDrawn), (arI rM_tape kM_tape 900 fM_tape), (arI rM_letters kM_letters 8 nfM_letters), (arI rM_fresh kM_fresh 287 fM_fresh), (arI rM_read kM_read 90 fM_read)] [(kM_tape, .int), (kM_letters, .int), (kM_fresh, .int), (kM_read, .int)] t) (va_A [(oc7 oM iM_thrown rM_tape iM_taped iM_size iM_at iM_end iM_token iM_whole iM_nameSize iM_fault iM_place iM_trouble rM_letters iM_failed iM_hasCourt rM_r rM_fresh rM_told rM_read rM_st rM_undone rM_kept iM_undos iM_images rM_fresher iM_fresherSize iM_scale iM_night rM_heardRow rM_cutRow iM_breaths iM_cutMany iM_allBreaths rM_trial rM_words iM_fewestBreaths iM_orderMany iM_orderSum iM_leastOrder rM_often iM_setMany iM_someOf iM_allOf iM_allWeight iM_enoughWeight iM_worthSum iM_firstRest iM_leastDrawn), (arI rM_tape kM_tape 900 fM_tape), (arI rM_letters kM_letters 8 fM_letters), (arI rM_fresh kM_fresh 287 fM_fresh), (arI rM_read kM_read 90 fM_read)] sz)) 0 0 (va_A [(oc7 oM iM_thrown rM_tape iM_taped iM_size iM_at iM_end iM_token iM_whole iM_nameSize iM_fault iM_place iM_trouble rM_letters iM_failed iM_hasCourt rM_r rM_fresh rM_told rM_read rM_st rM_undone rM_kept iM_undos iM_images rM_fresher iM_fresherSize iM_scale iM_night rM_heardRow rM_cutRow iM_breaths iM_cutMany iM_allBreaths rM_trial rM_words iM_fewestBreaths iM_orderMany iM_orderSum iM_leastOrder rM_often iM_setMany iM_someOf iM_allOf iM_allWeight iM_enoughWeight iM_worthSum iM_firstRest iM_leastDrawn), (arI rM_tape kM_tape 900 fM_tape), (arI rM_letters kM_letters 8 fM_letters), (arI rM_fresh kM_fresh 287 fM_fresh), (arI rM_read kM_read 90 fM_read)] sz) := by
  refine Met.ofW (cc := cX7_begins) (maxL := 3) (ret := (some .boolean)) pnX7 rfl ?_
  intro p e s m args below meth c s₁ B hml hv
  obtain ⟨rfl, ⟨hsz, hP, hK, hD0, hE⟩, hSw⟩ := hv
  have hx := B.exec
  have hb := B.bytes
  have hr := B.returns
  have hts : ∀ w ∈ wG, w.before ([.ref oM, .ref sA, .int p0] : List Value).toArray s = true := fun w h => atoms_spec (ws := Cond.code yX7_begins cX7_begins 3 (some .boolean) :: wG) B.pre w (List.mem_cons_of_mem _ h)
  have hown : s.vm.findClass RX7 = some m.cls := own_of B.named rfl
  have hlocks := B.notSynchronized
  subst hsz
  have hD := hD0.self (sz := s.heap.size)
  generalize hAe : va_A [(oc7 oM iM_thrown rM_tape iM_taped iM_size iM_at iM_end iM_token iM_whole iM_nameSize iM_fault iM_place iM_trouble rM_letters iM_failed iM_hasCourt rM_r rM_fresh rM_told rM_read rM_st rM_undone rM_kept iM_undos iM_images rM_fresher iM_fresherSize iM_scale iM_night rM_heardRow rM_cutRow iM_breaths iM_cutMany iM_allBreaths rM_trial rM_words iM_fewestBreaths iM_orderMany iM_orderSum iM_leastOrder rM_often iM_setMany iM_someOf iM_allOf iM_allWeight iM_enoughWeight iM_worthSum iM_firstRest iM_leastDrawn), (arI rM_tape kM_tape 900 fM_tape), (arI rM_letters kM_letters 8 fM_letters), (arI rM_fresh kM_fresh 287 fM_fresh), (arI rM_read kM_read 90 fM_read)] s.heap.size = A at hD hE hSw ⊢
  have hA : ∀ q : Nat, s.heap.size ≤ q → A q := fun q h => by rw [← hAe]; exact Or.inr h
  have hS : va_S A s.heap s.heap [] := va_S.rf
  have hl := lv_entry ([.ref oM, .ref sA, .int p0]) (n := 3) (Nat.le_of_ble_eq_true rfl)
  rw [lg_entry_eq]
  generalize (lg_sl ([.ref oM, .ref sA, .int p0]) ++ List.replicate (3 - (lg_sl ([.ref oM, .ref sA, .int p0])).length) Slot.unset).toArray = ls at hl ⊢
  have hl : lv_has ls 3 [(0, .ref oM), (1, .ref sA), (2, .int p0)] := hl
  have hG := PX7_begins_eq fM_tape iM_size iM_at iM_end iM_token iM_whole iM_nameSize iM_fault iM_place fM_letters iM_failed fM_fresh p0 sN sF
  have hsN9 : (sN : Int) ≤ 8 := Int.ofNat_le.mpr hsn
  have hsN0 : 0 ≤ (sN : Int) := Int.natCast_nonneg _
  have pl_fM_fresh := r_P.lins
  refine lv_aload_n hx hb dX7_begins_0 rfl (lv_at hl 0 rfl) ?_
  refine lv_aload_n hx hb dX7_begins_1 rfl (lv_at hl 1 rfl) ?_
  have hMs := ml_of hD [true, false, true, false, false] (wc := [(oc7 oM iM_thrown rM_tape iM_taped iM_size iM_at iM_end iM_token iM_whole iM_nameSize iM_fault iM_place iM_trouble rM_letters iM_failed iM_hasCourt rM_r rM_fresh rM_told rM_read rM_st rM_undone rM_kept iM_undos iM_images rM_fresher iM_fresherSize iM_scale iM_night rM_heardRow rM_cutRow iM_breaths iM_cutMany iM_allBreaths rM_trial rM_words iM_fewestBreaths iM_orderMany iM_orderSum iM_leastOrder rM_often iM_setMany iM_someOf iM_allOf iM_allWeight iM_enoughWeight iM_worthSum iM_firstRest iM_leastDrawn), (arI rM_letters kM_letters 8 fM_letters)]) rfl
  have hFc := va_freeM hD hS hA _ hMs
  refine va_calli (va_runV (As := [.ref sA]) (rest := []) ⟨hx, hb, hml, hown, hts⟩ (tX7_isWord l dC dI _ oM iM_thrown rM_tape iM_taped iM_size iM_at iM_end iM_token iM_whole iM_nameSize iM_fault iM_place iM_trouble rM_letters fM_letters kM_letters iM_failed iM_hasCourt rM_r rM_fresh rM_told rM_read rM_st rM_undone rM_kept iM_undos iM_images rM_fresher iM_fresherSize iM_scale iM_night rM_heardRow rM_cutRow iM_breaths iM_cutMany iM_allBreaths rM_trial rM_words iM_fewestBreaths iM_orderMany iM_orderSum iM_leastOrder rM_often iM_setMany iM_someOf iM_allOf iM_allWeight iM_enoughWeight iM_worthSum iM_firstRest iM_leastDrawn sA sV sN sF b_iM_taped b_iM_size b_iM_end b_iM_nameSize b_iM_failed b_iM_hasCourt b_iM_undos b_iM_images b_iM_scale b_iM_breaths b_iM_cutMany r_T hsn) (cwV 1 hts (wd_V wd_420 wd_421 wd_422 wd_5 (wd_c wd_423)) rfl rfl rfl dv_yX7_isWord_1 ⟨Nat.le_of_ble_eq_true rfl, Nat.le_of_ble_eq_true rfl⟩) ⟨Pq.fb, recvX7 hK hP (q0 := 0) rfl, fun U hU hW => Pq.to (hP.ms _ hMs) (hD.ms _ hMs) (hK.ms [false, true, false, false] rfl) hSw hE hS hFc hU hW⟩ rfl rfl hl.1 rfl (lv_room (Nat.le_of_ble_eq_true rfl)) dX7_begins_2 ⟨Nat.le_of_ble_eq_true rfl, Nat.le_of_ble_eq_true rfl⟩) hS (fun q _ h => hFc q h) hFc (fun r u t H locs ht hvm hw hB hz1 hk1 hS => ?_)
  have hru9 := hw.2
  have hw := hw.1
  obtain ⟨hP, hD⟩ := Bw.goN (ws' := [(oc7 oM iM_thrown rM_tape iM_taped iM_size iM_at iM_end iM_token iM_whole iM_nameSize iM_fault iM_place iM_trouble rM_letters iM_failed iM_hasCourt rM_r rM_fresh rM_told rM_read rM_st rM_undone rM_kept iM_undos iM_images rM_fresher iM_fresherSize iM_scale iM_night rM_heardRow rM_cutRow iM_breaths iM_cutMany iM_allBreaths rM_trial rM_words iM_fewestBreaths iM_orderMany iM_orderSum iM_leastOrder rM_often iM_setMany iM_someOf iM_allOf iM_allWeight iM_enoughWeight iM_worthSum iM_firstRest iM_leastDrawn), (arI rM_tape kM_tape 900 fM_tape), (arI rM_letters kM_letters 8 fM_letters), (arI rM_fresh kM_fresh 287 fM_fresh), (arI rM_read kM_read 90 fM_read)]) hB rfl ht hP hD _ hMs hk1 hFc rfl
  clear hz1 hk1 hvm ht hB hMs
  obtain ⟨x_5405, rfl⟩ : ∃ z, z = r := ⟨_, rfl⟩
  have hG := hG.trans (lt_eq hru9.symm)
  have bx_5405 := hw.1
  have dx_5405 := bz_tb bx_5405
  have lx_5405 := hw.2
  refine lv_if_ne (tgt := 10) hx hb dX7_begins_5 (by decide) (fun c_5406 => ?_) (fun c_5406 => ?_)
  · skip
    have hG := hG.trans (if_neg c_5406)
    have gc_5406 := ti_ne c_5406 rfl kc_0
    replace gc_5406 : (-1) * x_5405.toInt + 1 ≤ 0 := om_e3003f79 gc_5406 dx_5405.1
    have h_5407 : iM_token.toInt = 2 := lx_5405 (om_7907a7c1 dx_5405.2 gc_5406)
    clear lx_5405
    have h_5408 : iM_nameSize.toInt ≤ 8 := r_T h_5407
    clear r_T
    refine lv_iload_n hx hb dX7_begins_10 rfl (lv_at hl 2 rfl) ?_
    refine lv_if_ne (tgt := 23) hx hb dX7_begins_11 (by decide) (fun c_5409 => ?_) (fun c_5409 => ?_)
    · skip
      have hG := hG.trans (if_neg c_5409)
      have gc_5409 := ti_ne c_5409 rfl kc_0
      replace gc_5409 : (-1) * p0.toInt + 1 ≤ 0 := om_e3003f79 gc_5409 hp0.1
      refine lv_aload_n hx hb dX7_begins_23 rfl (lv_at hl 0 rfl) ?_
      refine va_get (D := (dC, dI)) (ci := 7) (v := .ref rM_fresh) (C := RX7) (T := TX7) (N := 48) hx hb hts inX7 hown hK hP 0 rfl rfl 16 (by decide) (hts _ wd_156) (fun _ h9 => h9) rfl dX7_begins_24 ?_
      refine lv_iconst (v := 5) hx hb dX7_begins_27 (by decide) ?_
      refine va_iald hx hb hK hP 3 2 rfl rfl (by unfold vp_in; decide) dX7_begins_28 ?_
      refine lv_topi (fun x_5410 ex_5410 => ?_)
      have hG := hG.trans (lt_eq ex_5410)
      have cx_5410 : (fM_fresh 5).toInt = x_5410.toInt := congrArg Int32.toInt (show fM_fresh 5 = x_5410 from ex_5410.symm)
      refine lv_if_ne (tgt := 42) hx hb dX7_begins_29 (by decide) (fun c_5411 => ?_) (fun c_5411 => ?_)
      · skip
        have hG := hG.trans (if_neg c_5411)
        have gc_5411 := ti_ne c_5411 rfl kc_0
        refine lv_aload_n hx hb dX7_begins_42 rfl (lv_at hl 0 rfl) ?_
        have hMs := ml_of hD [true, true, true, false, false] (wc := [(oc7 oM iM_thrown rM_tape iM_taped iM_size iM_at iM_end iM_token iM_whole iM_nameSize iM_fault iM_place iM_trouble rM_letters iM_failed iM_hasCourt rM_r rM_fresh rM_told rM_read rM_st rM_undone rM_kept iM_undos iM_images rM_fresher iM_fresherSize iM_scale iM_night rM_heardRow rM_cutRow iM_breaths iM_cutMany iM_allBreaths rM_trial rM_words iM_fewestBreaths iM_orderMany iM_orderSum iM_leastOrder rM_often iM_setMany iM_someOf iM_allOf iM_allWeight iM_enoughWeight iM_worthSum iM_firstRest iM_leastDrawn), (arI rM_tape kM_tape 900 fM_tape), (arI rM_letters kM_letters 8 fM_letters)]) rfl
        have hFc := va_freeM hD hS hA _ hMs
        refine va_callv (va_runV (As := []) (rest := []) ⟨hx, hb, hml, hown, hts⟩ (tX7_pass l dC dI _ oM iM_thrown rM_tape fM_tape kM_tape iM_taped iM_size iM_at iM_end iM_token iM_whole iM_nameSize iM_fault iM_place iM_trouble rM_letters fM_letters kM_letters iM_failed iM_hasCourt rM_r rM_fresh rM_told rM_read rM_st rM_undone rM_kept iM_undos iM_images rM_fresher iM_fresherSize iM_scale iM_night rM_heardRow rM_cutRow iM_breaths iM_cutMany iM_allBreaths rM_trial rM_words iM_fewestBreaths iM_orderMany iM_orderSum iM_leastOrder rM_often iM_setMany iM_someOf iM_allOf iM_allWeight iM_enoughWeight iM_worthSum iM_firstRest iM_leastDrawn b_iM_taped b_iM_size b_iM_end b_iM_nameSize b_iM_failed b_iM_hasCourt b_iM_undos b_iM_images b_iM_scale b_iM_breaths b_iM_cutMany (fun h9 => h_5408)) (cwV 0 hts (wd_V wd_454 wd_455 wd_456 wd_5 (wd_c wd_457)) rfl rfl rfl dv_yX7_pass_0 ⟨Nat.le_of_ble_eq_true rfl, Nat.le_of_ble_eq_true rfl⟩) ⟨Pw.fb, recvX7 hK hP (q0 := 0) rfl, fun U hU hW => Pw.to (hP.ms _ hMs) (hD.ms _ hMs) (hK.ms [true, true, false, false] rfl) hE hS hFc hU hW⟩ rfl rfl hl.1 rfl (lv_room (Nat.le_of_ble_eq_true rfl)) dX7_begins_43 ⟨Nat.le_of_ble_eq_true rfl, Nat.le_of_ble_eq_true rfl⟩) hS (fun q _ h => hFc q h) hFc (fun u t H locs ht hvm hw hB hz1 hk1 hS => ?_)
        refine ex_6_6 hB (fun x_5412 x_5413 x_5414 x_5415 x_5416 f_5417 b_x_5413 b_x_5416 e_x_5412_0 e_x_5412_1 e_x_5412_2 e_x_5412_3 hB => ?_)
        obtain ⟨hP, hD⟩ := Bw.goN (ws' := [(oc7 oM iM_thrown rM_tape iM_taped iM_size x_5412 x_5413 x_5414 x_5415 x_5416 iM_fault iM_place iM_trouble rM_letters iM_failed iM_hasCourt rM_r rM_fresh rM_told rM_read rM_st rM_undone rM_kept iM_undos iM_images rM_fresher iM_fresherSize iM_scale iM_night rM_heardRow rM_cutRow iM_breaths iM_cutMany iM_allBreaths rM_trial rM_words iM_fewestBreaths iM_orderMany iM_orderSum iM_leastOrder rM_often iM_setMany iM_someOf iM_allOf iM_allWeight iM_enoughWeight iM_worthSum iM_firstRest iM_leastDrawn), (arI rM_tape kM_tape 900 fM_tape), (arI rM_letters kM_letters 8 f_5417), (arI rM_fresh kM_fresh 287 fM_fresh), (arI rM_read kM_read 90 fM_read)]) hB rfl ht hP hD _ hMs hk1 hFc rfl
        clear hz1 hk1 hvm ht hB hMs
        have hG := hG.trans (un6_eq e_x_5412_3)
        refine lv_iconst (v := 1) hx hb dX7_begins_46 (by decide) ?_
        exact wq_z (v := 1) hx hb hr rfl 1 ⟨⟨Or.inr rfl, (by decide)⟩, (by decide)⟩ (fun t ht hW => ⟨x_5412, x_5413, x_5414, x_5415, x_5416, iM_fault, iM_place, iM_failed, f_5417, b_x_5413, b_x_5416, ⟨b_iM_failed.1, b_iM_failed.2⟩, e_x_5412_0, e_x_5412_1, om_1cb5f934, (by first | assumption | exact (fun h9 => by have q0 := kc_0; have q1 := kc_1; omega)), (fun h9 => by have q0 := kc_0; have q1 := kc_1; have q9 := e_x_5412_2 (by omega); omega), hG, Bw.to hP hD hK ht hW⟩) hS dX7_begins_47 hlocks
      · skip
        have hG := hG.trans (if_pos c_5411)
        have gc_5411 := ti_eq c_5411 rfl kc_0
        refine lv_aload_n hx hb dX7_begins_32 rfl (lv_at hl 0 rfl) ?_
        refine lv_bipush (v := 6) hx hb dX7_begins_33 (by decide) ?_
        refine lv_aload_n hx hb dX7_begins_35 rfl (lv_at hl 0 rfl) ?_
        refine va_get (D := (dC, dI)) (ci := 7) (v := .int iM_at) (C := RX7) (T := TX7) (N := 48) hx hb hts inX7 hown hK hP 0 rfl rfl 4 (by decide) (hts _ wd_384) (fun _ h9 => h9) rfl dX7_begins_36 ?_
        have hMs := ml_of hD [true, false, false, false, false] (wc := [(oc7 oM iM_thrown rM_tape iM_taped iM_size iM_at iM_end iM_token iM_whole iM_nameSize iM_fault iM_place iM_trouble rM_letters iM_failed iM_hasCourt rM_r rM_fresh rM_told rM_read rM_st rM_undone rM_kept iM_undos iM_images rM_fresher iM_fresherSize iM_scale iM_night rM_heardRow rM_cutRow iM_breaths iM_cutMany iM_allBreaths rM_trial rM_words iM_fewestBreaths iM_orderMany iM_orderSum iM_leastOrder rM_often iM_setMany iM_someOf iM_allOf iM_allWeight iM_enoughWeight iM_worthSum iM_firstRest iM_leastDrawn)]) rfl
        have hFc := va_freeM hD hS hA _ hMs
        refine va_callv (va_runV (As := [.int 6, .int iM_at]) (rest := []) ⟨hx, hb, hml, hown, hts⟩ (tX7_wrong l dC dI _ oM iM_thrown rM_tape iM_taped iM_size iM_at iM_end iM_token iM_whole iM_nameSize iM_fault iM_place iM_trouble rM_letters iM_failed iM_hasCourt rM_r rM_fresh rM_told rM_read rM_st rM_undone rM_kept iM_undos iM_images rM_fresher iM_fresherSize iM_scale iM_night rM_heardRow rM_cutRow iM_breaths iM_cutMany iM_allBreaths rM_trial rM_words iM_fewestBreaths iM_orderMany iM_orderSum iM_leastOrder rM_often iM_setMany iM_someOf iM_allOf iM_allWeight iM_enoughWeight iM_worthSum iM_firstRest iM_leastDrawn 6 iM_at b_iM_taped b_iM_size b_iM_end b_iM_nameSize b_iM_failed b_iM_hasCourt b_iM_undos b_iM_images b_iM_scale b_iM_breaths b_iM_cutMany (fun h9 => h_5408)) (cwV 2 hts (wd_V wd_430 wd_431 wd_432 wd_5 (wd_c wd_433)) rfl rfl rfl dv_yX7_wrong_2 ⟨Nat.le_of_ble_eq_true rfl, Nat.le_of_ble_eq_true rfl⟩) ⟨Pw.fb, recvX7 hK hP (q0 := 0) rfl, fun U hU hW => Pw.to (hP.ms _ hMs) (hD.ms _ hMs) (hK.ms [false, false, false, false] rfl) hE hS hFc hU hW⟩ rfl rfl hl.1 rfl (lv_room (Nat.le_of_ble_eq_true rfl)) dX7_begins_39 ⟨Nat.le_of_ble_eq_true rfl, Nat.le_of_ble_eq_true rfl⟩) hS (fun q _ h => hFc q h) hFc (fun u t H locs ht hvm hw hB hz1 hk1 hS => ?_)
        refine ex_3_3 hB (fun x_5418 x_5419 x_5420 b_x_5420 e_x_5418_0 e_x_5418_1 hB => ?_)
        obtain ⟨hP, hD⟩ := Bw.goN (ws' := [(oc7 oM iM_thrown rM_tape iM_taped iM_size iM_at iM_end iM_token iM_whole iM_nameSize x_5418 x_5419 iM_trouble rM_letters x_5420 iM_hasCourt rM_r rM_fresh rM_told rM_read rM_st rM_undone rM_kept iM_undos iM_images rM_fresher iM_fresherSize iM_scale iM_night rM_heardRow rM_cutRow iM_breaths iM_cutMany iM_allBreaths rM_trial rM_words iM_fewestBreaths iM_orderMany iM_orderSum iM_leastOrder rM_often iM_setMany iM_someOf iM_allOf iM_allWeight iM_enoughWeight iM_worthSum iM_firstRest iM_leastDrawn), (arI rM_tape kM_tape 900 fM_tape), (arI rM_letters kM_letters 8 fM_letters), (arI rM_fresh kM_fresh 287 fM_fresh), (arI rM_read kM_read 90 fM_read)]) hB rfl ht hP hD _ hMs hk1 hFc rfl
        clear hz1 hk1 hvm ht hB hMs
        have hG := hG.trans (un3_eq e_x_5418_1)
        refine lv_aload_n hx hb dX7_begins_42 rfl (lv_at hl 0 rfl) ?_
        have hMs := ml_of hD [true, true, true, false, false] (wc := [(oc7 oM iM_thrown rM_tape iM_taped iM_size iM_at iM_end iM_token iM_whole iM_nameSize x_5418 x_5419 iM_trouble rM_letters x_5420 iM_hasCourt rM_r rM_fresh rM_told rM_read rM_st rM_undone rM_kept iM_undos iM_images rM_fresher iM_fresherSize iM_scale iM_night rM_heardRow rM_cutRow iM_breaths iM_cutMany iM_allBreaths rM_trial rM_words iM_fewestBreaths iM_orderMany iM_orderSum iM_leastOrder rM_often iM_setMany iM_someOf iM_allOf iM_allWeight iM_enoughWeight iM_worthSum iM_firstRest iM_leastDrawn), (arI rM_tape kM_tape 900 fM_tape), (arI rM_letters kM_letters 8 fM_letters)]) rfl
        have hFc := va_freeM hD hS hA _ hMs
        refine va_callv (va_runV (As := []) (rest := []) ⟨hx, hb, hml, hown, hts⟩ (tX7_pass l dC dI _ oM iM_thrown rM_tape fM_tape kM_tape iM_taped iM_size iM_at iM_end iM_token iM_whole iM_nameSize x_5418 x_5419 iM_trouble rM_letters fM_letters kM_letters x_5420 iM_hasCourt rM_r rM_fresh rM_told rM_read rM_st rM_undone rM_kept iM_undos iM_images rM_fresher iM_fresherSize iM_scale iM_night rM_heardRow rM_cutRow iM_breaths iM_cutMany iM_allBreaths rM_trial rM_words iM_fewestBreaths iM_orderMany iM_orderSum iM_leastOrder rM_often iM_setMany iM_someOf iM_allOf iM_allWeight iM_enoughWeight iM_worthSum iM_firstRest iM_leastDrawn b_iM_taped b_iM_size b_iM_end b_iM_nameSize b_x_5420 b_iM_hasCourt b_iM_undos b_iM_images b_iM_scale b_iM_breaths b_iM_cutMany (fun h9 => h_5408)) (cwV 0 hts (wd_V wd_454 wd_455 wd_456 wd_5 (wd_c wd_457)) rfl rfl rfl dv_yX7_pass_0 ⟨Nat.le_of_ble_eq_true rfl, Nat.le_of_ble_eq_true rfl⟩) ⟨Pw.fb, recvX7 hK hP (q0 := 0) rfl, fun U hU hW => Pw.to (hP.ms _ hMs) (hD.ms _ hMs) (hK.ms [true, true, false, false] rfl) hE hS hFc hU hW⟩ rfl rfl hl.1 rfl (lv_room (Nat.le_of_ble_eq_true rfl)) dX7_begins_43 ⟨Nat.le_of_ble_eq_true rfl, Nat.le_of_ble_eq_true rfl⟩) hS (fun q _ h => hFc q h) hFc (fun u t H locs ht hvm hw hB hz1 hk1 hS => ?_)
        refine ex_6_6 hB (fun x_5421 x_5422 x_5423 x_5424 x_5425 f_5426 b_x_5422 b_x_5425 e_x_5421_0 e_x_5421_1 e_x_5421_2 e_x_5421_3 hB => ?_)
        obtain ⟨hP, hD⟩ := Bw.goN (ws' := [(oc7 oM iM_thrown rM_tape iM_taped iM_size x_5421 x_5422 x_5423 x_5424 x_5425 x_5418 x_5419 iM_trouble rM_letters x_5420 iM_hasCourt rM_r rM_fresh rM_told rM_read rM_st rM_undone rM_kept iM_undos iM_images rM_fresher iM_fresherSize iM_scale iM_night rM_heardRow rM_cutRow iM_breaths iM_cutMany iM_allBreaths rM_trial rM_words iM_fewestBreaths iM_orderMany iM_orderSum iM_leastOrder rM_often iM_setMany iM_someOf iM_allOf iM_allWeight iM_enoughWeight iM_worthSum iM_firstRest iM_leastDrawn), (arI rM_tape kM_tape 900 fM_tape), (arI rM_letters kM_letters 8 f_5426), (arI rM_fresh kM_fresh 287 fM_fresh), (arI rM_read kM_read 90 fM_read)]) hB rfl ht hP hD _ hMs hk1 hFc rfl
        clear hz1 hk1 hvm ht hB hMs
        have hG := hG.trans (un6_eq e_x_5421_3)
        refine lv_iconst (v := 1) hx hb dX7_begins_46 (by decide) ?_
        exact wq_z (v := 1) hx hb hr rfl 1 ⟨⟨Or.inr rfl, (by decide)⟩, (by decide)⟩ (fun t ht hW => ⟨x_5421, x_5422, x_5423, x_5424, x_5425, x_5418, x_5419, x_5420, f_5426, b_x_5422, b_x_5425, b_x_5420, e_x_5421_0, e_x_5421_1, (om_00f1c5dd b_iM_failed.2 e_x_5418_0), (by first | assumption | exact (fun h9 => by have q0 := kc_0; have q1 := kc_1; omega)), (fun h9 => by have q0 := kc_0; have q1 := kc_1; omega), hG, Bw.to hP hD hK ht hW⟩) hS dX7_begins_47 hlocks
    · skip
      have hG := hG.trans (if_pos c_5409)
      have gc_5409 := ti_eq c_5409 rfl kc_0
      refine lv_aload_n hx hb dX7_begins_14 rfl (lv_at hl 0 rfl) ?_
      refine lv_iconst (v := 5) hx hb dX7_begins_15 (by decide) ?_
      refine lv_aload_n hx hb dX7_begins_16 rfl (lv_at hl 0 rfl) ?_
      refine va_get (D := (dC, dI)) (ci := 7) (v := .int iM_at) (C := RX7) (T := TX7) (N := 48) hx hb hts inX7 hown hK hP 0 rfl rfl 4 (by decide) (hts _ wd_384) (fun _ h9 => h9) rfl dX7_begins_17 ?_
      have hMs := ml_of hD [true, false, false, false, false] (wc := [(oc7 oM iM_thrown rM_tape iM_taped iM_size iM_at iM_end iM_token iM_whole iM_nameSize iM_fault iM_place iM_trouble rM_letters iM_failed iM_hasCourt rM_r rM_fresh rM_told rM_read rM_st rM_undone rM_kept iM_undos iM_images rM_fresher iM_fresherSize iM_scale iM_night rM_heardRow rM_cutRow iM_breaths iM_cutMany iM_allBreaths rM_trial rM_words iM_fewestBreaths iM_orderMany iM_orderSum iM_leastOrder rM_often iM_setMany iM_someOf iM_allOf iM_allWeight iM_enoughWeight iM_worthSum iM_firstRest iM_leastDrawn)]) rfl
      have hFc := va_freeM hD hS hA _ hMs
      refine va_callv (va_runV (As := [.int 5, .int iM_at]) (rest := []) ⟨hx, hb, hml, hown, hts⟩ (tX7_wrong l dC dI _ oM iM_thrown rM_tape iM_taped iM_size iM_at iM_end iM_token iM_whole iM_nameSize iM_fault iM_place iM_trouble rM_letters iM_failed iM_hasCourt rM_r rM_fresh rM_told rM_read rM_st rM_undone rM_kept iM_undos iM_images rM_fresher iM_fresherSize iM_scale iM_night rM_heardRow rM_cutRow iM_breaths iM_cutMany iM_allBreaths rM_trial rM_words iM_fewestBreaths iM_orderMany iM_orderSum iM_leastOrder rM_often iM_setMany iM_someOf iM_allOf iM_allWeight iM_enoughWeight iM_worthSum iM_firstRest iM_leastDrawn 5 iM_at b_iM_taped b_iM_size b_iM_end b_iM_nameSize b_iM_failed b_iM_hasCourt b_iM_undos b_iM_images b_iM_scale b_iM_breaths b_iM_cutMany (fun h9 => h_5408)) (cwV 2 hts (wd_V wd_430 wd_431 wd_432 wd_5 (wd_c wd_433)) rfl rfl rfl dv_yX7_wrong_2 ⟨Nat.le_of_ble_eq_true rfl, Nat.le_of_ble_eq_true rfl⟩) ⟨Pw.fb, recvX7 hK hP (q0 := 0) rfl, fun U hU hW => Pw.to (hP.ms _ hMs) (hD.ms _ hMs) (hK.ms [false, false, false, false] rfl) hE hS hFc hU hW⟩ rfl rfl hl.1 rfl (lv_room (Nat.le_of_ble_eq_true rfl)) dX7_begins_20 ⟨Nat.le_of_ble_eq_true rfl, Nat.le_of_ble_eq_true rfl⟩) hS (fun q _ h => hFc q h) hFc (fun u t H locs ht hvm hw hB hz1 hk1 hS => ?_)
      refine ex_3_3 hB (fun x_5427 x_5428 x_5429 b_x_5429 e_x_5427_0 e_x_5427_1 hB => ?_)
      obtain ⟨hP, hD⟩ := Bw.goN (ws' := [(oc7 oM iM_thrown rM_tape iM_taped iM_size iM_at iM_end iM_token iM_whole iM_nameSize x_5427 x_5428 iM_trouble rM_letters x_5429 iM_hasCourt rM_r rM_fresh rM_told rM_read rM_st rM_undone rM_kept iM_undos iM_images rM_fresher iM_fresherSize iM_scale iM_night rM_heardRow rM_cutRow iM_breaths iM_cutMany iM_allBreaths rM_trial rM_words iM_fewestBreaths iM_orderMany iM_orderSum iM_leastOrder rM_often iM_setMany iM_someOf iM_allOf iM_allWeight iM_enoughWeight iM_worthSum iM_firstRest iM_leastDrawn), (arI rM_tape kM_tape 900 fM_tape), (arI rM_letters kM_letters 8 fM_letters), (arI rM_fresh kM_fresh 287 fM_fresh), (arI rM_read kM_read 90 fM_read)]) hB rfl ht hP hD _ hMs hk1 hFc rfl
      clear hz1 hk1 hvm ht hB hMs
      have hG := hG.trans (un3_eq e_x_5427_1)
      refine lv_aload_n hx hb dX7_begins_23 rfl (lv_at hl 0 rfl) ?_
      refine va_get (D := (dC, dI)) (ci := 7) (v := .ref rM_fresh) (C := RX7) (T := TX7) (N := 48) hx hb hts inX7 hown hK hP 0 rfl rfl 16 (by decide) (hts _ wd_156) (fun _ h9 => h9) rfl dX7_begins_24 ?_
      refine lv_iconst (v := 5) hx hb dX7_begins_27 (by decide) ?_
      refine va_iald hx hb hK hP 3 2 rfl rfl (by unfold vp_in; decide) dX7_begins_28 ?_
      refine lv_topi (fun x_5430 ex_5430 => ?_)
      have hG := hG.trans (lt_eq ex_5430)
      have cx_5430 : (fM_fresh 5).toInt = x_5430.toInt := congrArg Int32.toInt (show fM_fresh 5 = x_5430 from ex_5430.symm)
      refine lv_if_ne (tgt := 42) hx hb dX7_begins_29 (by decide) (fun c_5431 => ?_) (fun c_5431 => ?_)
      · skip
        have hG := hG.trans (if_neg c_5431)
        have gc_5431 := ti_ne c_5431 rfl kc_0
        refine lv_aload_n hx hb dX7_begins_42 rfl (lv_at hl 0 rfl) ?_
        have hMs := ml_of hD [true, true, true, false, false] (wc := [(oc7 oM iM_thrown rM_tape iM_taped iM_size iM_at iM_end iM_token iM_whole iM_nameSize x_5427 x_5428 iM_trouble rM_letters x_5429 iM_hasCourt rM_r rM_fresh rM_told rM_read rM_st rM_undone rM_kept iM_undos iM_images rM_fresher iM_fresherSize iM_scale iM_night rM_heardRow rM_cutRow iM_breaths iM_cutMany iM_allBreaths rM_trial rM_words iM_fewestBreaths iM_orderMany iM_orderSum iM_leastOrder rM_often iM_setMany iM_someOf iM_allOf iM_allWeight iM_enoughWeight iM_worthSum iM_firstRest iM_leastDrawn), (arI rM_tape kM_tape 900 fM_tape), (arI rM_letters kM_letters 8 fM_letters)]) rfl
        have hFc := va_freeM hD hS hA _ hMs
        refine va_callv (va_runV (As := []) (rest := []) ⟨hx, hb, hml, hown, hts⟩ (tX7_pass l dC dI _ oM iM_thrown rM_tape fM_tape kM_tape iM_taped iM_size iM_at iM_end iM_token iM_whole iM_nameSize x_5427 x_5428 iM_trouble rM_letters fM_letters kM_letters x_5429 iM_hasCourt rM_r rM_fresh rM_told rM_read rM_st rM_undone rM_kept iM_undos iM_images rM_fresher iM_fresherSize iM_scale iM_night rM_heardRow rM_cutRow iM_breaths iM_cutMany iM_allBreaths rM_trial rM_words iM_fewestBreaths iM_orderMany iM_orderSum iM_leastOrder rM_often iM_setMany iM_someOf iM_allOf iM_allWeight iM_enoughWeight iM_worthSum iM_firstRest iM_leastDrawn b_iM_taped b_iM_size b_iM_end b_iM_nameSize b_x_5429 b_iM_hasCourt b_iM_undos b_iM_images b_iM_scale b_iM_breaths b_iM_cutMany (fun h9 => h_5408)) (cwV 0 hts (wd_V wd_454 wd_455 wd_456 wd_5 (wd_c wd_457)) rfl rfl rfl dv_yX7_pass_0 ⟨Nat.le_of_ble_eq_true rfl, Nat.le_of_ble_eq_true rfl⟩) ⟨Pw.fb, recvX7 hK hP (q0 := 0) rfl, fun U hU hW => Pw.to (hP.ms _ hMs) (hD.ms _ hMs) (hK.ms [true, true, false, false] rfl) hE hS hFc hU hW⟩ rfl rfl hl.1 rfl (lv_room (Nat.le_of_ble_eq_true rfl)) dX7_begins_43 ⟨Nat.le_of_ble_eq_true rfl, Nat.le_of_ble_eq_true rfl⟩) hS (fun q _ h => hFc q h) hFc (fun u t H locs ht hvm hw hB hz1 hk1 hS => ?_)
        refine ex_6_6 hB (fun x_5432 x_5433 x_5434 x_5435 x_5436 f_5437 b_x_5433 b_x_5436 e_x_5432_0 e_x_5432_1 e_x_5432_2 e_x_5432_3 hB => ?_)
        obtain ⟨hP, hD⟩ := Bw.goN (ws' := [(oc7 oM iM_thrown rM_tape iM_taped iM_size x_5432 x_5433 x_5434 x_5435 x_5436 x_5427 x_5428 iM_trouble rM_letters x_5429 iM_hasCourt rM_r rM_fresh rM_told rM_read rM_st rM_undone rM_kept iM_undos iM_images rM_fresher iM_fresherSize iM_scale iM_night rM_heardRow rM_cutRow iM_breaths iM_cutMany iM_allBreaths rM_trial rM_words iM_fewestBreaths iM_orderMany iM_orderSum iM_leastOrder rM_often iM_setMany iM_someOf iM_allOf iM_allWeight iM_enoughWeight iM_worthSum iM_firstRest iM_leastDrawn), (arI rM_tape kM_tape 900 fM_tape), (arI rM_letters kM_letters 8 f_5437), (arI rM_fresh kM_fresh 287 fM_fresh), (arI rM_read kM_read 90 fM_read)]) hB rfl ht hP hD _ hMs hk1 hFc rfl
        clear hz1 hk1 hvm ht hB hMs
        have hG := hG.trans (un6_eq e_x_5432_3)
        refine lv_iconst (v := 1) hx hb dX7_begins_46 (by decide) ?_
        exact wq_z (v := 1) hx hb hr rfl 1 ⟨⟨Or.inr rfl, (by decide)⟩, (by decide)⟩ (fun t ht hW => ⟨x_5432, x_5433, x_5434, x_5435, x_5436, x_5427, x_5428, x_5429, f_5437, b_x_5433, b_x_5436, b_x_5429, e_x_5432_0, e_x_5432_1, (om_00f1c5dd b_iM_failed.2 e_x_5427_0), (by first | assumption | exact (fun h9 => by have q0 := kc_0; have q1 := kc_1; omega)), (fun h9 => by have q0 := kc_0; have q1 := kc_1; omega), hG, Bw.to hP hD hK ht hW⟩) hS dX7_begins_47 hlocks
      · skip
        have hG := hG.trans (if_pos c_5431)
        have gc_5431 := ti_eq c_5431 rfl kc_0
        refine lv_aload_n hx hb dX7_begins_32 rfl (lv_at hl 0 rfl) ?_
        refine lv_bipush (v := 6) hx hb dX7_begins_33 (by decide) ?_
        refine lv_aload_n hx hb dX7_begins_35 rfl (lv_at hl 0 rfl) ?_
        refine va_get (D := (dC, dI)) (ci := 7) (v := .int iM_at) (C := RX7) (T := TX7) (N := 48) hx hb hts inX7 hown hK hP 0 rfl rfl 4 (by decide) (hts _ wd_384) (fun _ h9 => h9) rfl dX7_begins_36 ?_
        have hMs := ml_of hD [true, false, false, false, false] (wc := [(oc7 oM iM_thrown rM_tape iM_taped iM_size iM_at iM_end iM_token iM_whole iM_nameSize x_5427 x_5428 iM_trouble rM_letters x_5429 iM_hasCourt rM_r rM_fresh rM_told rM_read rM_st rM_undone rM_kept iM_undos iM_images rM_fresher iM_fresherSize iM_scale iM_night rM_heardRow rM_cutRow iM_breaths iM_cutMany iM_allBreaths rM_trial rM_words iM_fewestBreaths iM_orderMany iM_orderSum iM_leastOrder rM_often iM_setMany iM_someOf iM_allOf iM_allWeight iM_enoughWeight iM_worthSum iM_firstRest iM_leastDrawn)]) rfl
        have hFc := va_freeM hD hS hA _ hMs
        refine va_callv (va_runV (As := [.int 6, .int iM_at]) (rest := []) ⟨hx, hb, hml, hown, hts⟩ (tX7_wrong l dC dI _ oM iM_thrown rM_tape iM_taped iM_size iM_at iM_end iM_token iM_whole iM_nameSize x_5427 x_5428 iM_trouble rM_letters x_5429 iM_hasCourt rM_r rM_fresh rM_told rM_read rM_st rM_undone rM_kept iM_undos iM_images rM_fresher iM_fresherSize iM_scale iM_night rM_heardRow rM_cutRow iM_breaths iM_cutMany iM_allBreaths rM_trial rM_words iM_fewestBreaths iM_orderMany iM_orderSum iM_leastOrder rM_often iM_setMany iM_someOf iM_allOf iM_allWeight iM_enoughWeight iM_worthSum iM_firstRest iM_leastDrawn 6 iM_at b_iM_taped b_iM_size b_iM_end b_iM_nameSize b_x_5429 b_iM_hasCourt b_iM_undos b_iM_images b_iM_scale b_iM_breaths b_iM_cutMany (fun h9 => h_5408)) (cwV 2 hts (wd_V wd_430 wd_431 wd_432 wd_5 (wd_c wd_433)) rfl rfl rfl dv_yX7_wrong_2 ⟨Nat.le_of_ble_eq_true rfl, Nat.le_of_ble_eq_true rfl⟩) ⟨Pw.fb, recvX7 hK hP (q0 := 0) rfl, fun U hU hW => Pw.to (hP.ms _ hMs) (hD.ms _ hMs) (hK.ms [false, false, false, false] rfl) hE hS hFc hU hW⟩ rfl rfl hl.1 rfl (lv_room (Nat.le_of_ble_eq_true rfl)) dX7_begins_39 ⟨Nat.le_of_ble_eq_true rfl, Nat.le_of_ble_eq_true rfl⟩) hS (fun q _ h => hFc q h) hFc (fun u t H locs ht hvm hw hB hz1 hk1 hS => ?_)
        refine ex_3_3 hB (fun x_5438 x_5439 x_5440 b_x_5440 e_x_5438_0 e_x_5438_1 hB => ?_)
        obtain ⟨hP, hD⟩ := Bw.goN (ws' := [(oc7 oM iM_thrown rM_tape iM_taped iM_size iM_at iM_end iM_token iM_whole iM_nameSize x_5438 x_5439 iM_trouble rM_letters x_5440 iM_hasCourt rM_r rM_fresh rM_told rM_read rM_st rM_undone rM_kept iM_undos iM_images rM_fresher iM_fresherSize iM_scale iM_night rM_heardRow rM_cutRow iM_breaths iM_cutMany iM_allBreaths rM_trial rM_words iM_fewestBreaths iM_orderMany iM_orderSum iM_leastOrder rM_often iM_setMany iM_someOf iM_allOf iM_allWeight iM_enoughWeight iM_worthSum iM_firstRest iM_leastDrawn), (arI rM_tape kM_tape 900 fM_tape), (arI rM_letters kM_letters 8 fM_letters), (arI rM_fresh kM_fresh 287 fM_fresh), (arI rM_read kM_read 90 fM_read)]) hB rfl ht hP hD _ hMs hk1 hFc rfl
        clear hz1 hk1 hvm ht hB hMs
        have hG := hG.trans (un3_eq e_x_5438_1)
        refine lv_aload_n hx hb dX7_begins_42 rfl (lv_at hl 0 rfl) ?_
        have hMs := ml_of hD [true, true, true, false, false] (wc := [(oc7 oM iM_thrown rM_tape iM_taped iM_size iM_at iM_end iM_token iM_whole iM_nameSize x_5438 x_5439 iM_trouble rM_letters x_5440 iM_hasCourt rM_r rM_fresh rM_told rM_read rM_st rM_undone rM_kept iM_undos iM_images rM_fresher iM_fresherSize iM_scale iM_night rM_heardRow rM_cutRow iM_breaths iM_cutMany iM_allBreaths rM_trial rM_words iM_fewestBreaths iM_orderMany iM_orderSum iM_leastOrder rM_often iM_setMany iM_someOf iM_allOf iM_allWeight iM_enoughWeight iM_worthSum iM_firstRest iM_leastDrawn), (arI rM_tape kM_tape 900 fM_tape), (arI rM_letters kM_letters 8 fM_letters)]) rfl
        have hFc := va_freeM hD hS hA _ hMs
        refine va_callv (va_runV (As := []) (rest := []) ⟨hx, hb, hml, hown, hts⟩ (tX7_pass l dC dI _ oM iM_thrown rM_tape fM_tape kM_tape iM_taped iM_size iM_at iM_end iM_token iM_whole iM_nameSize x_5438 x_5439 iM_trouble rM_letters fM_letters kM_letters x_5440 iM_hasCourt rM_r rM_fresh rM_told rM_read rM_st rM_undone rM_kept iM_undos iM_images rM_fresher iM_fresherSize iM_scale iM_night rM_heardRow rM_cutRow iM_breaths iM_cutMany iM_allBreaths rM_trial rM_words iM_fewestBreaths iM_orderMany iM_orderSum iM_leastOrder rM_often iM_setMany iM_someOf iM_allOf iM_allWeight iM_enoughWeight iM_worthSum iM_firstRest iM_leastDrawn b_iM_taped b_iM_size b_iM_end b_iM_nameSize b_x_5440 b_iM_hasCourt b_iM_undos b_iM_images b_iM_scale b_iM_breaths b_iM_cutMany (fun h9 => h_5408)) (cwV 0 hts (wd_V wd_454 wd_455 wd_456 wd_5 (wd_c wd_457)) rfl rfl rfl dv_yX7_pass_0 ⟨Nat.le_of_ble_eq_true rfl, Nat.le_of_ble_eq_true rfl⟩) ⟨Pw.fb, recvX7 hK hP (q0 := 0) rfl, fun U hU hW => Pw.to (hP.ms _ hMs) (hD.ms _ hMs) (hK.ms [true, true, false, false] rfl) hE hS hFc hU hW⟩ rfl rfl hl.1 rfl (lv_room (Nat.le_of_ble_eq_true rfl)) dX7_begins_43 ⟨Nat.le_of_ble_eq_true rfl, Nat.le_of_ble_eq_true rfl⟩) hS (fun q _ h => hFc q h) hFc (fun u t H locs ht hvm hw hB hz1 hk1 hS => ?_)
        refine ex_6_6 hB (fun x_5441 x_5442 x_5443 x_5444 x_5445 f_5446 b_x_5442 b_x_5445 e_x_5441_0 e_x_5441_1 e_x_5441_2 e_x_5441_3 hB => ?_)
        obtain ⟨hP, hD⟩ := Bw.goN (ws' := [(oc7 oM iM_thrown rM_tape iM_taped iM_size x_5441 x_5442 x_5443 x_5444 x_5445 x_5438 x_5439 iM_trouble rM_letters x_5440 iM_hasCourt rM_r rM_fresh rM_told rM_read rM_st rM_undone rM_kept iM_undos iM_images rM_fresher iM_fresherSize iM_scale iM_night rM_heardRow rM_cutRow iM_breaths iM_cutMany iM_allBreaths rM_trial rM_words iM_fewestBreaths iM_orderMany iM_orderSum iM_leastOrder rM_often iM_setMany iM_someOf iM_allOf iM_allWeight iM_enoughWeight iM_worthSum iM_firstRest iM_leastDrawn), (arI rM_tape kM_tape 900 fM_tape), (arI rM_letters kM_letters 8 f_5446), (arI rM_fresh kM_fresh 287 fM_fresh), (arI rM_read kM_read 90 fM_read)]) hB rfl ht hP hD _ hMs hk1 hFc rfl
        clear hz1 hk1 hvm ht hB hMs
        have hG := hG.trans (un6_eq e_x_5441_3)
        refine lv_iconst (v := 1) hx hb dX7_begins_46 (by decide) ?_
        exact wq_z (v := 1) hx hb hr rfl 1 ⟨⟨Or.inr rfl, (by decide)⟩, (by decide)⟩ (fun t ht hW => ⟨x_5441, x_5442, x_5443, x_5444, x_5445, x_5438, x_5439, x_5440, f_5446, b_x_5442, b_x_5445, b_x_5440, e_x_5441_0, e_x_5441_1, (om_00f1c5dd b_iM_failed.2 e_x_5438_0), (by first | assumption | exact (fun h9 => by have q0 := kc_0; have q1 := kc_1; omega)), (fun h9 => by have q0 := kc_0; have q1 := kc_1; omega), hG, Bw.to hP hD hK ht hW⟩) hS dX7_begins_47 hlocks
  · skip
    have hG := hG.trans (if_pos c_5406)
    have gc_5406 := ti_eq c_5406 rfl kc_0
    clear lx_5405
    refine lv_iconst (v := 0) hx hb dX7_begins_8 (by decide) ?_
    exact wq_z (v := 0) hx hb hr rfl 0 ⟨⟨Or.inl rfl, (by decide)⟩, (by decide)⟩ (fun t ht hW => ⟨iM_at, iM_end, iM_token, iM_whole, iM_nameSize, iM_fault, iM_place, iM_failed, fM_letters, ⟨b_iM_end.1, b_iM_end.2⟩, ⟨b_iM_nameSize.1, b_iM_nameSize.2⟩, ⟨b_iM_failed.1, b_iM_failed.2⟩, om_1cb5f934, r_T, om_1cb5f934, (by first | assumption | exact (fun h9 => by have q0 := kc_0; have q1 := kc_1; omega)), (fun h9 => by have q0 := kc_0; have q1 := kc_1; omega), hG, Bw.to hP hD hK ht hW⟩) hS dX7_begins_9 hlocks
