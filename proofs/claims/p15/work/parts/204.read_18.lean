theorem bz_of {v : Int32} (h : 0 ≤ v.toInt ∧ v.toInt ≤ 1) : v = 0 ∨ v = 1 := by
  simp only [fz_eq, kc_0, kc_1]; omega
set_option maxHeartbeats 4000000 in
set_option maxRecDepth 100000 in
theorem tX3_byteAt (l : Launch) (dC : Nat → ClassId) (dI : Nat → Nat → Nat) (sz : Nat) (oR : Nat) (iR_faultNumber : Int32) (iR_faultPlace : Int32) (iR_tapeSize : Int32) (rR_tape : Nat) (fR_tape : Nat → Int32) (kR_tape : ClassId) (iR_end : Int32) (iR_tokenKind : Int32) (iR_tokenFrom : Int32) (iR_tokenTo : Int32) (iR_tokenName : Int64) (iR_tokenKey : Int32) (iR_tokenWhole : Int32) (oC : Nat) (iR_courtTold : Int32) (rR_names : Nat) (rR_keys : Nat) (p0 : Int32) (b_iR_tapeSize : 0 ≤ iR_tapeSize.toInt ∧ iR_tapeSize.toInt ≤ 900) (b_iR_courtTold : 0 ≤ iR_courtTold.toInt ∧ iR_courtTold.toInt ≤ 1)  : Met l yX3_byteAt (Cond.code yX3_byteAt cX3_byteAt 2 (some .int) :: wG) ({ frames := 0, cells := 0, slots := 0, locals := 0 }) (va_Pc [.ref oR, .int p0] (Pw dC dI sz [(oc3 oR iR_faultNumber iR_faultPlace iR_tapeSize rR_tape iR_end iR_tokenKind iR_tokenFrom iR_tokenTo iR_tokenName iR_tokenKey iR_tokenWhole oC iR_courtTold rR_names rR_keys), (arI rR_tape kR_tape 900 fR_tape)] [(kR_tape, .byte)])) (va_Qi (fun (r : Int32) (_ : Nat) => (True ∧ True) ∧ PX3_byteAt fR_tape p0 = r) (fun (_ : Nat) (t : State) => Bw dC dI (va_A [(oc3 oR iR_faultNumber iR_faultPlace iR_tapeSize rR_tape iR_end iR_tokenKind iR_tokenFrom iR_tokenTo iR_tokenName iR_tokenKey iR_tokenWhole oC iR_courtTold rR_names rR_keys), (arI rR_tape kR_tape 900 fR_tape)] sz) [(oc3 oR iR_faultNumber iR_faultPlace iR_tapeSize rR_tape iR_end iR_tokenKind iR_tokenFrom iR_tokenTo iR_tokenName iR_tokenKey iR_tokenWhole oC iR_courtTold rR_names rR_keys), (arI rR_tape kR_tape 900 fR_tape)] [(kR_tape, .byte)] t) (va_A [(oc3 oR iR_faultNumber iR_faultPlace iR_tapeSize rR_tape iR_end iR_tokenKind iR_tokenFrom iR_tokenTo iR_tokenName iR_tokenKey iR_tokenWhole oC iR_courtTold rR_names rR_keys), (arI rR_tape kR_tape 900 fR_tape)] sz)) 0 0 (va_A [(oc3 oR iR_faultNumber iR_faultPlace iR_tapeSize rR_tape iR_end iR_tokenKind iR_tokenFrom iR_tokenTo iR_tokenName iR_tokenKey iR_tokenWhole oC iR_courtTold rR_names rR_keys), (arI rR_tape kR_tape 900 fR_tape)] sz) := by
  refine Met.ofW (cc := cX3_byteAt) (maxL := 2) (ret := (some .int)) pnX3 rfl ?_
  intro p e s m args below meth c s₁ B hml hv
  obtain ⟨rfl, hsz, hP, hK, hD0, hE⟩ := hv
  have hx := B.exec
  have hb := B.bytes
  have hr := B.returns
  have hts : ∀ w ∈ wG, w.before ([.ref oR, .int p0] : List Value).toArray s = true := fun w h => atoms_spec (ws := Cond.code yX3_byteAt cX3_byteAt 2 (some .int) :: wG) B.pre w (List.mem_cons_of_mem _ h)
  have hown : s.vm.findClass RX3 = some m.cls := own_of B.named rfl
  have hlocks := B.notSynchronized
  subst hsz
  have hD := hD0.self (sz := s.heap.size)
  generalize hAe : va_A [(oc3 oR iR_faultNumber iR_faultPlace iR_tapeSize rR_tape iR_end iR_tokenKind iR_tokenFrom iR_tokenTo iR_tokenName iR_tokenKey iR_tokenWhole oC iR_courtTold rR_names rR_keys), (arI rR_tape kR_tape 900 fR_tape)] s.heap.size = A at hD hE ⊢
  have hA : ∀ q : Nat, s.heap.size ≤ q → A q := fun q h => by rw [← hAe]; exact Or.inr h
  have hS : va_S A s.heap s.heap [] := va_S.rf
  have hl := lv_entry ([.ref oR, .int p0]) (n := 2) (Nat.le_of_ble_eq_true rfl)
  rw [lg_entry_eq]
  generalize (lg_sl ([.ref oR, .int p0]) ++ List.replicate (2 - (lg_sl ([.ref oR, .int p0])).length) Slot.unset).toArray = ls at hl ⊢
  have hl : lv_has ls 2 [(0, .ref oR), (1, .int p0)] := hl
  have hG := PX3_byteAt_eq fR_tape p0
  refine lv_iload_n hx hb dX3_byteAt_0 rfl (lv_at hl 1 rfl) ?_
  refine lv_if_lt (tgt := 20) hx hb dX3_byteAt_1 (by decide) (fun c_863 => ?_) (fun c_863 => ?_)
  · skip
    have hG := hG.trans (if_pos c_863)
    have gc_863 := ti_lt c_863 rfl kc_0
    refine lv_iconst (v := 0) hx hb dX3_byteAt_20 (by decide) ?_
    exact wq_i hx hb hr 0 ⟨⟨trivial, trivial⟩, hG⟩ (fun t ht hW => Bw.to hP hD hK ht hW) hS dX3_byteAt_21 hlocks
  · skip
    have hG := hG.trans (if_neg c_863)
    have gc_863 := ti_nlt c_863 rfl kc_0
    refine lv_iload_n hx hb dX3_byteAt_4 rfl (lv_at hl 1 rfl) ?_
    refine lv_sipush (v := 900) hx hb dX3_byteAt_5 (by decide) ?_
    refine lv_icmp_ge (tgt := 20) hx hb dX3_byteAt_8 (by decide) (fun c_864 => ?_) (fun c_864 => ?_)
    · skip
      have hG := hG.trans (if_pos c_864)
      have gc_864 := ti_le c_864 kc_900 rfl
      refine lv_iconst (v := 0) hx hb dX3_byteAt_20 (by decide) ?_
      exact wq_i hx hb hr 0 ⟨⟨trivial, trivial⟩, hG⟩ (fun t ht hW => Bw.to hP hD hK ht hW) hS dX3_byteAt_21 hlocks
    · skip
      have hG := hG.trans (if_neg c_864)
      have gc_864 := ti_nle c_864 kc_900 rfl
      refine lv_aload_n hx hb dX3_byteAt_11 rfl (lv_at hl 0 rfl) ?_
      refine va_get (D := (dC, dI)) (ci := 3) (v := .ref rR_tape) (C := RX3) (T := TX3) (N := 15) hx hb hts inX3 hown hK hP 0 rfl rfl 3 (by decide) (hts _ wd_44) (fun _ h9 => h9) rfl dX3_byteAt_12 ?_
      refine lv_iload_n hx hb dX3_byteAt_15 rfl (lv_at hl 1 rfl) ?_
      refine va_bald hx hb hK hP 1 0 rfl rfl (ti_in rfl gc_863 (om_f01a954b gc_864)) dX3_byteAt_16 ?_
      refine lv_topi (fun x_865 ex_865 => ?_)
      have hG := hG.trans (lt_eq ex_865)
      have kx_865 : (fR_tape p0.toNatClampNeg).toInt = x_865.toInt := by rw [ex_865]
      refine lv_goto (tgt := 21) hx hb dX3_byteAt_17 (by decide) ?_
      exact wq_i hx hb hr 0 ⟨⟨trivial, trivial⟩, hG⟩ (fun t ht hW => Bw.to hP hD hK ht hW) hS dX3_byteAt_21 hlocks
set_option maxHeartbeats 4000000 in
set_option maxRecDepth 100000 in
theorem tX3_faulty (l : Launch) (dC : Nat → ClassId) (dI : Nat → Nat → Nat) (sz : Nat) (oR : Nat) (iR_faultNumber : Int32) (iR_faultPlace : Int32) (iR_tapeSize : Int32) (rR_tape : Nat) (iR_end : Int32) (iR_tokenKind : Int32) (iR_tokenFrom : Int32) (iR_tokenTo : Int32) (iR_tokenName : Int64) (iR_tokenKey : Int32) (iR_tokenWhole : Int32) (oC : Nat) (iR_courtTold : Int32) (rR_names : Nat) (rR_keys : Nat) (p0 : Int32) (b_iR_tapeSize : 0 ≤ iR_tapeSize.toInt ∧ iR_tapeSize.toInt ≤ 900) (b_iR_courtTold : 0 ≤ iR_courtTold.toInt ∧ iR_courtTold.toInt ≤ 1)  : Met l yX3_faulty (Cond.code yX3_faulty cX3_faulty 2 (some .boolean) :: wG) ({ frames := 0, cells := 0, slots := 0, locals := 0 }) (va_Pc [.ref oR, .int p0] (Pw dC dI sz [(oc3 oR iR_faultNumber iR_faultPlace iR_tapeSize rR_tape iR_end iR_tokenKind iR_tokenFrom iR_tokenTo iR_tokenName iR_tokenKey iR_tokenWhole oC iR_courtTold rR_names rR_keys)] [])) (va_Qi (fun (r : Int32) (u : Nat) => ((r = 0 ∨ r = 1) ∧ ((r = 0 ∧ True))) ∧ r = Int32.ofNat u) (fun (u : Nat) (t : State) => ∃ (niR_faultNumber : Int32) (niR_faultPlace : Int32), (PX3_faulty iR_tokenFrom p0 = (Int32.ofNat u, niR_faultNumber, niR_faultPlace)) ∧ Bw dC dI (va_A [(oc3 oR iR_faultNumber iR_faultPlace iR_tapeSize rR_tape iR_end iR_tokenKind iR_tokenFrom iR_tokenTo iR_tokenName iR_tokenKey iR_tokenWhole oC iR_courtTold rR_names rR_keys)] sz) [(oc3 oR niR_faultNumber niR_faultPlace iR_tapeSize rR_tape iR_end iR_tokenKind iR_tokenFrom iR_tokenTo iR_tokenName iR_tokenKey iR_tokenWhole oC iR_courtTold rR_names rR_keys)] [] t) (va_A [(oc3 oR iR_faultNumber iR_faultPlace iR_tapeSize rR_tape iR_end iR_tokenKind iR_tokenFrom iR_tokenTo iR_tokenName iR_tokenKey iR_tokenWhole oC iR_courtTold rR_names rR_keys)] sz)) 0 0 (va_A [(oc3 oR iR_faultNumber iR_faultPlace iR_tapeSize rR_tape iR_end iR_tokenKind iR_tokenFrom iR_tokenTo iR_tokenName iR_tokenKey iR_tokenWhole oC iR_courtTold rR_names rR_keys)] sz) := by
  refine Met.ofW (cc := cX3_faulty) (maxL := 2) (ret := (some .boolean)) pnX3 rfl ?_
  intro p e s m args below meth c s₁ B hml hv
  obtain ⟨rfl, hsz, hP, hK, hD0, hE⟩ := hv
  have hx := B.exec
  have hb := B.bytes
  have hr := B.returns
  have hts : ∀ w ∈ wG, w.before ([.ref oR, .int p0] : List Value).toArray s = true := fun w h => atoms_spec (ws := Cond.code yX3_faulty cX3_faulty 2 (some .boolean) :: wG) B.pre w (List.mem_cons_of_mem _ h)
  have hown : s.vm.findClass RX3 = some m.cls := own_of B.named rfl
  have hlocks := B.notSynchronized
  subst hsz
  have hD := hD0.self (sz := s.heap.size)
  generalize hAe : va_A [(oc3 oR iR_faultNumber iR_faultPlace iR_tapeSize rR_tape iR_end iR_tokenKind iR_tokenFrom iR_tokenTo iR_tokenName iR_tokenKey iR_tokenWhole oC iR_courtTold rR_names rR_keys)] s.heap.size = A at hD hE ⊢
  have hA : ∀ q : Nat, s.heap.size ≤ q → A q := fun q h => by rw [← hAe]; exact Or.inr h
  have hS : va_S A s.heap s.heap [] := va_S.rf
  have hl := lv_entry ([.ref oR, .int p0]) (n := 2) (Nat.le_of_ble_eq_true rfl)
  rw [lg_entry_eq]
  generalize (lg_sl ([.ref oR, .int p0]) ++ List.replicate (2 - (lg_sl ([.ref oR, .int p0])).length) Slot.unset).toArray = ls at hl ⊢
  have hl : lv_has ls 2 [(0, .ref oR), (1, .int p0)] := hl
  have hG := PX3_faulty_eq iR_tokenFrom p0
  refine lv_aload_n hx hb dX3_faulty_0 rfl (lv_at hl 0 rfl) ?_
  refine lv_iload_n hx hb dX3_faulty_1 rfl (lv_at hl 1 rfl) ?_
  refine va_put (D := (dC, dI)) (ci := 3) (v := .int p0) (ty := .int) (C := RX3) (T := TX3) (N := 15) hx hb hts inX3 tyX3 tyX3_ok nmX3 hown hK hP hD hS 0 rfl rfl 0 (by decide) (hts _ wd_207) (fun _ h9 => h9) rfl (by decide +kernel) rfl rfl (Nat.le_of_ble_eq_true rfl) dX3_faulty_2 (fun H locs hP hD hS => ?_)
  obtain ⟨hP, hD⟩ := wl2 (ws' := [(oc3 oR p0 iR_faultPlace iR_tapeSize rR_tape iR_end iR_tokenKind iR_tokenFrom iR_tokenTo iR_tokenName iR_tokenKey iR_tokenWhole oC iR_courtTold rR_names rR_keys)]) hP hD rfl
  refine lv_aload_n hx hb dX3_faulty_5 rfl (lv_at hl 0 rfl) ?_
  refine lv_aload_n hx hb dX3_faulty_6 rfl (lv_at hl 0 rfl) ?_
  refine va_get (D := (dC, dI)) (ci := 3) (v := .int iR_tokenFrom) (C := RX3) (T := TX3) (N := 15) hx hb hts inX3 hown hK hP 0 rfl rfl 6 (by decide) (hts _ wd_224) (fun _ h9 => h9) rfl dX3_faulty_7 ?_
  refine va_put (D := (dC, dI)) (ci := 3) (v := .int iR_tokenFrom) (ty := .int) (C := RX3) (T := TX3) (N := 15) hx hb hts inX3 tyX3 tyX3_ok nmX3 hown hK hP hD hS 0 rfl rfl 1 (by decide) (hts _ wd_208) (fun _ h9 => h9) rfl (by decide +kernel) rfl rfl (Nat.le_of_ble_eq_true rfl) dX3_faulty_10 (fun H locs hP hD hS => ?_)
  obtain ⟨hP, hD⟩ := wl2 (ws' := [(oc3 oR p0 iR_tokenFrom iR_tapeSize rR_tape iR_end iR_tokenKind iR_tokenFrom iR_tokenTo iR_tokenName iR_tokenKey iR_tokenWhole oC iR_courtTold rR_names rR_keys)]) hP hD rfl
  refine lv_iconst (v := 0) hx hb dX3_faulty_13 (by decide) ?_
  exact wq_z (v := 0) hx hb hr rfl (cI 0) ⟨⟨Or.inl rfl, (⟨rfl, trivial⟩)⟩, (cI_of 0)⟩ (fun t ht hW => ⟨p0, iR_tokenFrom, (cI_tup hG), Bw.to hP hD hK ht hW⟩) hS dX3_faulty_14 hlocks
set_option maxHeartbeats 4000000 in
set_option maxRecDepth 100000 in
theorem tX3_isLineKey (l : Launch) (dC : Nat → ClassId) (dI : Nat → Nat → Nat) (sz : Nat) (oR : Nat) (iR_faultNumber : Int32) (iR_faultPlace : Int32) (iR_tapeSize : Int32) (rR_tape : Nat) (iR_end : Int32) (iR_tokenKind : Int32) (iR_tokenFrom : Int32) (iR_tokenTo : Int32) (iR_tokenName : Int64) (iR_tokenKey : Int32) (iR_tokenWhole : Int32) (oC : Nat) (iR_courtTold : Int32) (rR_names : Nat) (rR_keys : Nat) (b_iR_tapeSize : 0 ≤ iR_tapeSize.toInt ∧ iR_tapeSize.toInt ≤ 900) (b_iR_courtTold : 0 ≤ iR_courtTold.toInt ∧ iR_courtTold.toInt ≤ 1)  : Met l yX3_isLineKey (Cond.code yX3_isLineKey cX3_isLineKey 1 (some .boolean) :: wG) ({ frames := 0, cells := 0, slots := 0, locals := 0 }) (va_Pc [.ref oR] (Pw dC dI sz [(oc3 oR iR_faultNumber iR_faultPlace iR_tapeSize rR_tape iR_end iR_tokenKind iR_tokenFrom iR_tokenTo iR_tokenName iR_tokenKey iR_tokenWhole oC iR_courtTold rR_names rR_keys)] [])) (va_Qi (fun (r : Int32) (_ : Nat) => ((r = 0 ∨ r = 1) ∧ True) ∧ PX3_isLineKey iR_tokenKey = r) (fun (_ : Nat) (t : State) => Bw dC dI (va_A [(oc3 oR iR_faultNumber iR_faultPlace iR_tapeSize rR_tape iR_end iR_tokenKind iR_tokenFrom iR_tokenTo iR_tokenName iR_tokenKey iR_tokenWhole oC iR_courtTold rR_names rR_keys)] sz) [(oc3 oR iR_faultNumber iR_faultPlace iR_tapeSize rR_tape iR_end iR_tokenKind iR_tokenFrom iR_tokenTo iR_tokenName iR_tokenKey iR_tokenWhole oC iR_courtTold rR_names rR_keys)] [] t) (va_A [(oc3 oR iR_faultNumber iR_faultPlace iR_tapeSize rR_tape iR_end iR_tokenKind iR_tokenFrom iR_tokenTo iR_tokenName iR_tokenKey iR_tokenWhole oC iR_courtTold rR_names rR_keys)] sz)) 0 0 (va_A [(oc3 oR iR_faultNumber iR_faultPlace iR_tapeSize rR_tape iR_end iR_tokenKind iR_tokenFrom iR_tokenTo iR_tokenName iR_tokenKey iR_tokenWhole oC iR_courtTold rR_names rR_keys)] sz) := by
  refine Met.ofW (cc := cX3_isLineKey) (maxL := 1) (ret := (some .boolean)) pnX3 rfl ?_
  intro p e s m args below meth c s₁ B hml hv
  obtain ⟨rfl, hsz, hP, hK, hD0, hE⟩ := hv
  have hx := B.exec
  have hb := B.bytes
  have hr := B.returns
  have hts : ∀ w ∈ wG, w.before ([.ref oR] : List Value).toArray s = true := fun w h => atoms_spec (ws := Cond.code yX3_isLineKey cX3_isLineKey 1 (some .boolean) :: wG) B.pre w (List.mem_cons_of_mem _ h)
  have hown : s.vm.findClass RX3 = some m.cls := own_of B.named rfl
  have hlocks := B.notSynchronized
  subst hsz
  have hD := hD0.self (sz := s.heap.size)
  generalize hAe : va_A [(oc3 oR iR_faultNumber iR_faultPlace iR_tapeSize rR_tape iR_end iR_tokenKind iR_tokenFrom iR_tokenTo iR_tokenName iR_tokenKey iR_tokenWhole oC iR_courtTold rR_names rR_keys)] s.heap.size = A at hD hE ⊢
  have hA : ∀ q : Nat, s.heap.size ≤ q → A q := fun q h => by rw [← hAe]; exact Or.inr h
  have hS : va_S A s.heap s.heap [] := va_S.rf
  have hl := lv_entry ([.ref oR]) (n := 1) (Nat.le_of_ble_eq_true rfl)
  rw [lg_entry_eq]
  generalize (lg_sl ([.ref oR]) ++ List.replicate (1 - (lg_sl ([.ref oR])).length) Slot.unset).toArray = ls at hl ⊢
  have hl : lv_has ls 1 [(0, .ref oR)] := hl
  have hG := PX3_isLineKey_eq iR_tokenKey
  refine lv_aload_n hx hb dX3_isLineKey_0 rfl (lv_at hl 0 rfl) ?_
  refine va_get (D := (dC, dI)) (ci := 3) (v := .int iR_tokenKey) (C := RX3) (T := TX3) (N := 15) hx hb hts inX3 hown hK hP 0 rfl rfl 9 (by decide) (hts _ wd_225) (fun _ h9 => h9) rfl dX3_isLineKey_1 ?_
  refine lv_if_lt (tgt := 20) hx hb dX3_isLineKey_4 (by decide) (fun c_868 => ?_) (fun c_868 => ?_)
  · skip
    have hG := hG.trans (if_pos c_868)
    have gc_868 := ti_lt c_868 rfl kc_0
    refine lv_iconst (v := 0) hx hb dX3_isLineKey_20 (by decide) ?_
    exact wq_z (v := 0) hx hb hr rfl 0 ⟨⟨Or.inl rfl, trivial⟩, hG⟩ (fun t ht hW => Bw.to hP hD hK ht hW) hS dX3_isLineKey_21 hlocks
  · skip
    have hG := hG.trans (if_neg c_868)
    have gc_868 := ti_nlt c_868 rfl kc_0
    refine lv_aload_n hx hb dX3_isLineKey_7 rfl (lv_at hl 0 rfl) ?_
    refine va_get (D := (dC, dI)) (ci := 3) (v := .int iR_tokenKey) (C := RX3) (T := TX3) (N := 15) hx hb hts inX3 hown hK hP 0 rfl rfl 9 (by decide) (hts _ wd_225) (fun _ h9 => h9) rfl dX3_isLineKey_8 ?_
    refine lv_bipush (v := 7) hx hb dX3_isLineKey_11 (by decide) ?_
    refine lv_icmp_gt (tgt := 20) hx hb dX3_isLineKey_13 (by decide) (fun c_869 => ?_) (fun c_869 => ?_)
    · skip
      have hG := hG.trans (if_pos c_869)
      have gc_869 := ti_lt c_869 kc_7 rfl
      refine lv_iconst (v := 0) hx hb dX3_isLineKey_20 (by decide) ?_
      exact wq_z (v := 0) hx hb hr rfl 0 ⟨⟨Or.inl rfl, trivial⟩, hG⟩ (fun t ht hW => Bw.to hP hD hK ht hW) hS dX3_isLineKey_21 hlocks
    · skip
      have hG := hG.trans (if_neg c_869)
      have gc_869 := ti_nlt c_869 kc_7 rfl
      refine lv_iconst (v := 1) hx hb dX3_isLineKey_16 (by decide) ?_
      refine lv_goto (tgt := 21) hx hb dX3_isLineKey_17 (by decide) ?_
      exact wq_z (v := 1) hx hb hr rfl 0 ⟨⟨Or.inr rfl, trivial⟩, hG⟩ (fun t ht hW => Bw.to hP hD hK ht hW) hS dX3_isLineKey_21 hlocks
set_option maxHeartbeats 4000000 in
set_option maxRecDepth 100000 in
theorem tX3_isWholeWithin (l : Launch) (dC : Nat → ClassId) (dI : Nat → Nat → Nat) (sz : Nat) (oR : Nat) (iR_faultNumber : Int32) (iR_faultPlace : Int32) (iR_tapeSize : Int32) (rR_tape : Nat) (iR_end : Int32) (iR_tokenKind : Int32) (iR_tokenFrom : Int32) (iR_tokenTo : Int32) (iR_tokenName : Int64) (iR_tokenKey : Int32) (iR_tokenWhole : Int32) (oC : Nat) (iR_courtTold : Int32) (rR_names : Nat) (rR_keys : Nat) (p0 : Int32) (p1 : Int32) (b_iR_tapeSize : 0 ≤ iR_tapeSize.toInt ∧ iR_tapeSize.toInt ≤ 900) (b_iR_courtTold : 0 ≤ iR_courtTold.toInt ∧ iR_courtTold.toInt ≤ 1)  : Met l yX3_isWholeWithin (Cond.code yX3_isWholeWithin cX3_isWholeWithin 3 (some .boolean) :: wG) ({ frames := 1, cells := 0, slots := 0, locals := 21 }) (va_Pc [.ref oR, .int p0, .int p1] (Pw dC dI sz [(oc3 oR iR_faultNumber iR_faultPlace iR_tapeSize rR_tape iR_end iR_tokenKind iR_tokenFrom iR_tokenTo iR_tokenName iR_tokenKey iR_tokenWhole oC iR_courtTold rR_names rR_keys)] [])) (va_Qi (fun (r : Int32) (u : Nat) => ((r = 0 ∨ r = 1) ∧ True) ∧ r = Int32.ofNat u) (fun (u : Nat) (t : State) => ∃ (niR_faultNumber : Int32) (niR_faultPlace : Int32), (PX3_isWholeWithin iR_faultNumber iR_faultPlace iR_tokenKind iR_tokenFrom iR_tokenWhole p0 p1 = (Int32.ofNat u, niR_faultNumber, niR_faultPlace)) ∧ Bw dC dI (va_A [(oc3 oR iR_faultNumber iR_faultPlace iR_tapeSize rR_tape iR_end iR_tokenKind iR_tokenFrom iR_tokenTo iR_tokenName iR_tokenKey iR_tokenWhole oC iR_courtTold rR_names rR_keys)] sz) [(oc3 oR niR_faultNumber niR_faultPlace iR_tapeSize rR_tape iR_end iR_tokenKind iR_tokenFrom iR_tokenTo iR_tokenName iR_tokenKey iR_tokenWhole oC iR_courtTold rR_names rR_keys)] [] t) (va_A [(oc3 oR iR_faultNumber iR_faultPlace iR_tapeSize rR_tape iR_end iR_tokenKind iR_tokenFrom iR_tokenTo iR_tokenName iR_tokenKey iR_tokenWhole oC iR_courtTold rR_names rR_keys)] sz)) 0 0 (va_A [(oc3 oR iR_faultNumber iR_faultPlace iR_tapeSize rR_tape iR_end iR_tokenKind iR_tokenFrom iR_tokenTo iR_tokenName iR_tokenKey iR_tokenWhole oC iR_courtTold rR_names rR_keys)] sz) := by
  refine Met.ofW (cc := cX3_isWholeWithin) (maxL := 3) (ret := (some .boolean)) pnX3 rfl ?_
  intro p e s m args below meth c s₁ B hml hv
  obtain ⟨rfl, hsz, hP, hK, hD0, hE⟩ := hv
  have hx := B.exec
  have hb := B.bytes
  have hr := B.returns
  have hts : ∀ w ∈ wG, w.before ([.ref oR, .int p0, .int p1] : List Value).toArray s = true := fun w h => atoms_spec (ws := Cond.code yX3_isWholeWithin cX3_isWholeWithin 3 (some .boolean) :: wG) B.pre w (List.mem_cons_of_mem _ h)
  have hown : s.vm.findClass RX3 = some m.cls := own_of B.named rfl
  have hlocks := B.notSynchronized
  subst hsz
  have hD := hD0.self (sz := s.heap.size)
  generalize hAe : va_A [(oc3 oR iR_faultNumber iR_faultPlace iR_tapeSize rR_tape iR_end iR_tokenKind iR_tokenFrom iR_tokenTo iR_tokenName iR_tokenKey iR_tokenWhole oC iR_courtTold rR_names rR_keys)] s.heap.size = A at hD hE ⊢
  have hA : ∀ q : Nat, s.heap.size ≤ q → A q := fun q h => by rw [← hAe]; exact Or.inr h
  have hS : va_S A s.heap s.heap [] := va_S.rf
  have hl := lv_entry ([.ref oR, .int p0, .int p1]) (n := 3) (Nat.le_of_ble_eq_true rfl)
  rw [lg_entry_eq]
  generalize (lg_sl ([.ref oR, .int p0, .int p1]) ++ List.replicate (3 - (lg_sl ([.ref oR, .int p0, .int p1])).length) Slot.unset).toArray = ls at hl ⊢
  have hl : lv_has ls 3 [(0, .ref oR), (1, .int p0), (2, .int p1)] := hl
  have hG := PX3_isWholeWithin_eq iR_faultNumber iR_faultPlace iR_tokenKind iR_tokenFrom iR_tokenWhole p0 p1
  refine lv_aload_n hx hb dX3_isWholeWithin_0 rfl (lv_at hl 0 rfl) ?_
  refine va_get (D := (dC, dI)) (ci := 3) (v := .int iR_tokenKind) (C := RX3) (T := TX3) (N := 15) hx hb hts inX3 hown hK hP 0 rfl rfl 5 (by decide) (hts _ wd_210) (fun _ h9 => h9) rfl dX3_isWholeWithin_1 ?_
  refine lv_iconst (v := 2) hx hb dX3_isWholeWithin_4 (by decide) ?_
  refine lv_icmp_eq (tgt := 14) hx hb dX3_isWholeWithin_5 (by decide) (fun c_884 => ?_) (fun c_884 => ?_)
  · skip
    have hG := hG.trans (if_pos c_884)
    have gc_884 := ti_eq c_884 rfl kc_2
    refine lv_aload_n hx hb dX3_isWholeWithin_14 rfl (lv_at hl 0 rfl) ?_
    refine va_get (D := (dC, dI)) (ci := 3) (v := .int iR_tokenWhole) (C := RX3) (T := TX3) (N := 15) hx hb hts inX3 hown hK hP 0 rfl rfl 10 (by decide) (hts _ wd_245) (fun _ h9 => h9) rfl dX3_isWholeWithin_15 ?_
    refine lv_iload_n hx hb dX3_isWholeWithin_18 rfl (lv_at hl 1 rfl) ?_
    refine lv_icmp_lt (tgt := 30) hx hb dX3_isWholeWithin_19 (by decide) (fun c_885 => ?_) (fun c_885 => ?_)
    · skip
      have hG := hG.trans (if_pos c_885)
      have gc_885 := ti_lt c_885 rfl rfl
      refine lv_aload_n hx hb dX3_isWholeWithin_30 rfl (lv_at hl 0 rfl) ?_
      refine lv_iconst (v := 4) hx hb dX3_isWholeWithin_31 (by decide) ?_
      have hFc := va_freeI hD hS hA
      refine va_calli (va_runV (As := [.int 4]) (rest := []) ⟨hx, hb, hml, hown, hts⟩ (tX3_faulty l dC dI _ oR iR_faultNumber iR_faultPlace iR_tapeSize rR_tape iR_end iR_tokenKind iR_tokenFrom iR_tokenTo iR_tokenName iR_tokenKey iR_tokenWhole oC iR_courtTold rR_names rR_keys 4 b_iR_tapeSize b_iR_courtTold) (cwV 1 hts (wd_V wd_254 wd_255 wd_256 wd_15 (wd_c wd_257)) rfl rfl rfl dv_yX3_faulty_1 ⟨Nat.le_of_ble_eq_true rfl, Nat.le_of_ble_eq_true rfl⟩) ⟨Pw.fb, recvX3 hK hP (q0 := 0) rfl, fun U hU hW => Pw.to hP hD hK hE hS hFc hU hW⟩ rfl rfl hl.1 rfl (lv_room (Nat.le_of_ble_eq_true rfl)) dX3_isWholeWithin_32 ⟨Nat.le_of_ble_eq_true rfl, Nat.le_of_ble_eq_true rfl⟩) hS (fun q _ h => hFc q h) hFc (fun r u t H locs ht hvm hw hB hz1 hk1 hS => ?_)
      have hru9 := hw.2
      have hw := hw.1
      refine ex_2_1 hB (fun x_886 x_887 e_x_886_0 hB => ?_)
      obtain ⟨hP, hD⟩ := Bw.goA (ws' := [(oc3 oR x_886 x_887 iR_tapeSize rR_tape iR_end iR_tokenKind iR_tokenFrom iR_tokenTo iR_tokenName iR_tokenKey iR_tokenWhole oC iR_courtTold rR_names rR_keys)]) hB rfl ht hFc rfl
      clear hz1 hk1 hvm ht hB
      rw [← hru9] at e_x_886_0
      rcases hw.2 with ⟨rfl, hc_888⟩
      · skip
        have hG := hG.trans (un3_eq e_x_886_0)
        refine lv_if_eq (tgt := 42) hx hb dX3_isWholeWithin_35 (by decide) (fun _ => ?_) (fun c => absurd c (by decide))
        refine lv_iconst (v := 0) hx hb dX3_isWholeWithin_42 (by decide) ?_
        exact wq_z (v := 0) hx hb hr rfl (cI 0) ⟨⟨Or.inl rfl, trivial⟩, (cI_of 0)⟩ (fun t ht hW => ⟨x_886, x_887, (cI_tup hG), Bw.to hP hD hK ht hW⟩) hS dX3_isWholeWithin_43 hlocks
    · skip
      have hG := hG.trans (if_neg c_885)
      have gc_885 := ti_nlt c_885 rfl rfl
      refine lv_aload_n hx hb dX3_isWholeWithin_22 rfl (lv_at hl 0 rfl) ?_
      refine va_get (D := (dC, dI)) (ci := 3) (v := .int iR_tokenWhole) (C := RX3) (T := TX3) (N := 15) hx hb hts inX3 hown hK hP 0 rfl rfl 10 (by decide) (hts _ wd_245) (fun _ h9 => h9) rfl dX3_isWholeWithin_23 ?_
      refine lv_iload_n hx hb dX3_isWholeWithin_26 rfl (lv_at hl 2 rfl) ?_
      refine lv_icmp_le (tgt := 38) hx hb dX3_isWholeWithin_27 (by decide) (fun c_891 => ?_) (fun c_891 => ?_)
      · skip
        have hG := hG.trans (if_pos c_891)
        have gc_891 := ti_le c_891 rfl rfl
        refine lv_iconst (v := 1) hx hb dX3_isWholeWithin_38 (by decide) ?_
        refine lv_goto (tgt := 43) hx hb dX3_isWholeWithin_39 (by decide) ?_
        exact wq_z (v := 1) hx hb hr rfl (cI 1) ⟨⟨Or.inr rfl, trivial⟩, (cI_of 1)⟩ (fun t ht hW => ⟨iR_faultNumber, iR_faultPlace, (cI_tup hG), Bw.to hP hD hK ht hW⟩) hS dX3_isWholeWithin_43 hlocks
      · skip
        have hG := hG.trans (if_neg c_891)
        have gc_891 := ti_nle c_891 rfl rfl
        refine lv_aload_n hx hb dX3_isWholeWithin_30 rfl (lv_at hl 0 rfl) ?_
        refine lv_iconst (v := 4) hx hb dX3_isWholeWithin_31 (by decide) ?_
        have hFc := va_freeI hD hS hA
        refine va_calli (va_runV (As := [.int 4]) (rest := []) ⟨hx, hb, hml, hown, hts⟩ (tX3_faulty l dC dI _ oR iR_faultNumber iR_faultPlace iR_tapeSize rR_tape iR_end iR_tokenKind iR_tokenFrom iR_tokenTo iR_tokenName iR_tokenKey iR_tokenWhole oC iR_courtTold rR_names rR_keys 4 b_iR_tapeSize b_iR_courtTold) (cwV 1 hts (wd_V wd_254 wd_255 wd_256 wd_15 (wd_c wd_257)) rfl rfl rfl dv_yX3_faulty_1 ⟨Nat.le_of_ble_eq_true rfl, Nat.le_of_ble_eq_true rfl⟩) ⟨Pw.fb, recvX3 hK hP (q0 := 0) rfl, fun U hU hW => Pw.to hP hD hK hE hS hFc hU hW⟩ rfl rfl hl.1 rfl (lv_room (Nat.le_of_ble_eq_true rfl)) dX3_isWholeWithin_32 ⟨Nat.le_of_ble_eq_true rfl, Nat.le_of_ble_eq_true rfl⟩) hS (fun q _ h => hFc q h) hFc (fun r u t H locs ht hvm hw hB hz1 hk1 hS => ?_)
        have hru9 := hw.2
        have hw := hw.1
        refine ex_2_1 hB (fun x_892 x_893 e_x_892_0 hB => ?_)
        obtain ⟨hP, hD⟩ := Bw.goA (ws' := [(oc3 oR x_892 x_893 iR_tapeSize rR_tape iR_end iR_tokenKind iR_tokenFrom iR_tokenTo iR_tokenName iR_tokenKey iR_tokenWhole oC iR_courtTold rR_names rR_keys)]) hB rfl ht hFc rfl
        clear hz1 hk1 hvm ht hB
        rw [← hru9] at e_x_892_0
        rcases hw.2 with ⟨rfl, hc_894⟩
        · skip
          have hG := hG.trans (un3_eq e_x_892_0)
          refine lv_if_eq (tgt := 42) hx hb dX3_isWholeWithin_35 (by decide) (fun _ => ?_) (fun c => absurd c (by decide))
          refine lv_iconst (v := 0) hx hb dX3_isWholeWithin_42 (by decide) ?_
          exact wq_z (v := 0) hx hb hr rfl (cI 0) ⟨⟨Or.inl rfl, trivial⟩, (cI_of 0)⟩ (fun t ht hW => ⟨x_892, x_893, (cI_tup hG), Bw.to hP hD hK ht hW⟩) hS dX3_isWholeWithin_43 hlocks
  · skip
    have hG := hG.trans (if_neg c_884)
    have gc_884 := ti_ne c_884 rfl kc_2
    refine lv_aload_n hx hb dX3_isWholeWithin_8 rfl (lv_at hl 0 rfl) ?_
    refine lv_iconst (v := 1) hx hb dX3_isWholeWithin_9 (by decide) ?_
    have hFc := va_freeI hD hS hA
    refine va_calli (va_runV (As := [.int 1]) (rest := []) ⟨hx, hb, hml, hown, hts⟩ (tX3_faulty l dC dI _ oR iR_faultNumber iR_faultPlace iR_tapeSize rR_tape iR_end iR_tokenKind iR_tokenFrom iR_tokenTo iR_tokenName iR_tokenKey iR_tokenWhole oC iR_courtTold rR_names rR_keys 1 b_iR_tapeSize b_iR_courtTold) (cwV 1 hts (wd_V wd_254 wd_255 wd_256 wd_15 (wd_c wd_257)) rfl rfl rfl dv_yX3_faulty_1 ⟨Nat.le_of_ble_eq_true rfl, Nat.le_of_ble_eq_true rfl⟩) ⟨Pw.fb, recvX3 hK hP (q0 := 0) rfl, fun U hU hW => Pw.to hP hD hK hE hS hFc hU hW⟩ rfl rfl hl.1 rfl (lv_room (Nat.le_of_ble_eq_true rfl)) dX3_isWholeWithin_10 ⟨Nat.le_of_ble_eq_true rfl, Nat.le_of_ble_eq_true rfl⟩) hS (fun q _ h => hFc q h) hFc (fun r u t H locs ht hvm hw hB hz1 hk1 hS => ?_)
    have hru9 := hw.2
    have hw := hw.1
    refine ex_2_1 hB (fun x_897 x_898 e_x_897_0 hB => ?_)
    obtain ⟨hP, hD⟩ := Bw.goA (ws' := [(oc3 oR x_897 x_898 iR_tapeSize rR_tape iR_end iR_tokenKind iR_tokenFrom iR_tokenTo iR_tokenName iR_tokenKey iR_tokenWhole oC iR_courtTold rR_names rR_keys)]) hB rfl ht hFc rfl
    clear hz1 hk1 hvm ht hB
    rw [← hru9] at e_x_897_0
    rcases hw.2 with ⟨rfl, hc_899⟩
    · skip
      have hG := hG.trans (un3_eq e_x_897_0)
      exact wq_z (v := 0) hx hb hr rfl (cI 0) ⟨⟨Or.inl rfl, trivial⟩, (cI_of 0)⟩ (fun t ht hW => ⟨x_897, x_898, (cI_tup hG), Bw.to hP hD hK ht hW⟩) hS dX3_isWholeWithin_13 hlocks
set_option maxHeartbeats 4000000 in
set_option maxRecDepth 100000 in
theorem tX3_toldNode (l : Launch) (dC : Nat → ClassId) (dI : Nat → Nat → Nat) (sz : Nat) (oR : Nat) (iR_faultNumber : Int32) (iR_faultPlace : Int32) (iR_tapeSize : Int32) (rR_tape : Nat) (iR_end : Int32) (iR_tokenKind : Int32) (iR_tokenFrom : Int32) (iR_tokenTo : Int32) (iR_tokenName : Int64) (iR_tokenKey : Int32) (iR_tokenWhole : Int32) (oC : Nat) (iR_courtTold : Int32) (rR_names : Nat) (fR_names : Nat → Int64) (kR_names : ClassId) (rR_keys : Nat) (iC_nodes : Int32) (iC_words : Int32) (iC_chances : Int32) (iC_unsures : Int32) (iC_slips : Int32) (iC_throneNode : Int32) (iC_saidWorth : Int32) (iC_unit : Int32) (rC_kind : Nat) (rC_parts : Nat) (rC_partNodes : Nat) (rC_weights : Nat) (rC_weightSums : Nat) (rC_toldWorths : Nat) (rC_steps : Nat) (rC_below : Nat) (rC_above : Nat) (rC_unsureWords : Nat) (rC_unsureWorths : Nat) (b_iR_tapeSize : 0 ≤ iR_tapeSize.toInt ∧ iR_tapeSize.toInt ≤ 900) (b_iR_courtTold : 0 ≤ iR_courtTold.toInt ∧ iR_courtTold.toInt ≤ 1) (b_iC_nodes : 0 ≤ iC_nodes.toInt ∧ iC_nodes.toInt ≤ 18) (b_iC_unsures : 0 ≤ iC_unsures.toInt ∧ iC_unsures.toInt ≤ 4) (b_iC_throneNode : (-1) ≤ iC_throneNode.toInt ∧ iC_throneNode.toInt ≤ 17)  : Met l yX3_toldNode (Cond.code yX3_toldNode cX3_toldNode 2 (some .int) :: wG) ({ frames := 0, cells := 0, slots := 0, locals := 0 }) (va_Pc [.ref oR] (Pw dC dI sz [(oc3 oR iR_faultNumber iR_faultPlace iR_tapeSize rR_tape iR_end iR_tokenKind iR_tokenFrom iR_tokenTo iR_tokenName iR_tokenKey iR_tokenWhole oC iR_courtTold rR_names rR_keys), (arL rR_names kR_names 18 fR_names), (oc1 oC iC_nodes iC_words iC_chances iC_unsures iC_slips iC_throneNode iC_saidWorth iC_unit rC_kind rC_parts rC_partNodes rC_weights rC_weightSums rC_toldWorths rC_steps rC_below rC_above rC_unsureWords rC_unsureWorths)] [(kR_names, .long)])) (va_Qi (fun (r : Int32) (_ : Nat) => (True ∧ ((-1) ≤ r.toInt ∧ r.toInt ≤ 17)) ∧ PX3_toldNode iR_tokenName fR_names iC_nodes = r) (fun (_ : Nat) (t : State) => Bw dC dI (va_A [(oc3 oR iR_faultNumber iR_faultPlace iR_tapeSize rR_tape iR_end iR_tokenKind iR_tokenFrom iR_tokenTo iR_tokenName iR_tokenKey iR_tokenWhole oC iR_courtTold rR_names rR_keys), (arL rR_names kR_names 18 fR_names), (oc1 oC iC_nodes iC_words iC_chances iC_unsures iC_slips iC_throneNode iC_saidWorth iC_unit rC_kind rC_parts rC_partNodes rC_weights rC_weightSums rC_toldWorths rC_steps rC_below rC_above rC_unsureWords rC_unsureWorths)] sz) [(oc3 oR iR_faultNumber iR_faultPlace iR_tapeSize rR_tape iR_end iR_tokenKind iR_tokenFrom iR_tokenTo iR_tokenName iR_tokenKey iR_tokenWhole oC iR_courtTold rR_names rR_keys), (arL rR_names kR_names 18 fR_names), (oc1 oC iC_nodes iC_words iC_chances iC_unsures iC_slips iC_throneNode iC_saidWorth iC_unit rC_kind rC_parts rC_partNodes rC_weights rC_weightSums rC_toldWorths rC_steps rC_below rC_above rC_unsureWords rC_unsureWorths)] [(kR_names, .long)] t) (va_A [(oc3 oR iR_faultNumber iR_faultPlace iR_tapeSize rR_tape iR_end iR_tokenKind iR_tokenFrom iR_tokenTo iR_tokenName iR_tokenKey iR_tokenWhole oC iR_courtTold rR_names rR_keys), (arL rR_names kR_names 18 fR_names), (oc1 oC iC_nodes iC_words iC_chances iC_unsures iC_slips iC_throneNode iC_saidWorth iC_unit rC_kind rC_parts rC_partNodes rC_weights rC_weightSums rC_toldWorths rC_steps rC_below rC_above rC_unsureWords rC_unsureWorths)] sz)) 0 0 (va_A [(oc3 oR iR_faultNumber iR_faultPlace iR_tapeSize rR_tape iR_end iR_tokenKind iR_tokenFrom iR_tokenTo iR_tokenName iR_tokenKey iR_tokenWhole oC iR_courtTold rR_names rR_keys), (arL rR_names kR_names 18 fR_names), (oc1 oC iC_nodes iC_words iC_chances iC_unsures iC_slips iC_throneNode iC_saidWorth iC_unit rC_kind rC_parts rC_partNodes rC_weights rC_weightSums rC_toldWorths rC_steps rC_below rC_above rC_unsureWords rC_unsureWorths)] sz) := by
  refine Met.ofW (cc := cX3_toldNode) (maxL := 2) (ret := (some .int)) pnX3 rfl ?_
  intro p e s m args below meth c s₁ B hml hv
  obtain ⟨rfl, hsz, hP, hK, hD0, hE⟩ := hv
  have hx := B.exec
  have hb := B.bytes
  have hr := B.returns
  have hts : ∀ w ∈ wG, w.before ([.ref oR] : List Value).toArray s = true := fun w h => atoms_spec (ws := Cond.code yX3_toldNode cX3_toldNode 2 (some .int) :: wG) B.pre w (List.mem_cons_of_mem _ h)
  have hown : s.vm.findClass RX3 = some m.cls := own_of B.named rfl
  have hlocks := B.notSynchronized
  subst hsz
  have hD := hD0.self (sz := s.heap.size)
  generalize hAe : va_A [(oc3 oR iR_faultNumber iR_faultPlace iR_tapeSize rR_tape iR_end iR_tokenKind iR_tokenFrom iR_tokenTo iR_tokenName iR_tokenKey iR_tokenWhole oC iR_courtTold rR_names rR_keys), (arL rR_names kR_names 18 fR_names), (oc1 oC iC_nodes iC_words iC_chances iC_unsures iC_slips iC_throneNode iC_saidWorth iC_unit rC_kind rC_parts rC_partNodes rC_weights rC_weightSums rC_toldWorths rC_steps rC_below rC_above rC_unsureWords rC_unsureWorths)] s.heap.size = A at hD hE ⊢
  have hA : ∀ q : Nat, s.heap.size ≤ q → A q := fun q h => by rw [← hAe]; exact Or.inr h
  have hS : va_S A s.heap s.heap [] := va_S.rf
  have hl := lv_entry ([.ref oR]) (n := 2) (Nat.le_of_ble_eq_true rfl)
  rw [lg_entry_eq]
  generalize (lg_sl ([.ref oR]) ++ List.replicate (2 - (lg_sl ([.ref oR])).length) Slot.unset).toArray = ls at hl ⊢
  have hl : lv_has ls 2 [(0, .ref oR)] := hl
  have hG := PX3_toldNode_eq iR_tokenName fR_names iC_nodes
  refine lv_iconst (v := 0) hx hb dX3_toldNode_0 (by decide) ?_
  refine lv_istore_n (lv' := [(1, .int 0), (0, .ref oR)]) hx hb dX3_toldNode_1 rfl hl (by decide) rfl (fun ls hl => ?_)
  have hl := lv_sub hl (l' := [(1, .int 0), (0, .ref oR)]) [0, 1] rfl
  have key_n_909 : ∀ (n_909 : Nat) (z_908 : Int32) (H : Heap) (locs : List Loc) (ls : Array Slot), (0 ≤ z_908.toInt ∧ z_908.toInt ≤ 2147483647) → (2147483647 - z_908.toInt).toNat < n_909 → (PX3_toldNode iR_tokenName fR_names iC_nodes = HX3_toldNode_0 iR_tokenName fR_names iC_nodes n_909 z_908) → va_P (dC, dI) vwCl [(oc3 oR iR_faultNumber iR_faultPlace iR_tapeSize rR_tape iR_end iR_tokenKind iR_tokenFrom iR_tokenTo iR_tokenName iR_tokenKey iR_tokenWhole oC iR_courtTold rR_names rR_keys), (arL rR_names kR_names 18 fR_names), (oc1 oC iC_nodes iC_words iC_chances iC_unsures iC_slips iC_throneNode iC_saidWorth iC_unit rC_kind rC_parts rC_partNodes rC_weights rC_weightSums rC_toldWorths rC_steps rC_below rC_above rC_unsureWords rC_unsureWorths)] H → va_D A [(oc3 oR iR_faultNumber iR_faultPlace iR_tapeSize rR_tape iR_end iR_tokenKind iR_tokenFrom iR_tokenTo iR_tokenName iR_tokenKey iR_tokenWhole oC iR_courtTold rR_names rR_keys), (arL rR_names kR_names 18 fR_names), (oc1 oC iC_nodes iC_words iC_chances iC_unsures iC_slips iC_throneNode iC_saidWorth iC_unit rC_kind rC_parts rC_partNodes rC_weights rC_weightSums rC_toldWorths rC_steps rC_below rC_above rC_unsureWords rC_unsureWorths)] → va_S A s.heap H locs → lv_has ls 2 [(1, .int z_908), (0, .ref oR)] → W p l e (headSpec (Cond.code yX3_toldNode cX3_toldNode 2 (some .int) :: wG) ({ frames := 0, cells := 0, slots := 0, locals := 0 })).room s m ([.ref oR] : List Value).toArray below meth c H locs 0 0 (MQ below (va_Qi (fun (r : Int32) (_ : Nat) => (True ∧ ((-1) ≤ r.toInt ∧ r.toInt ≤ 17)) ∧ PX3_toldNode iR_tokenName fR_names iC_nodes = r) (fun (_ : Nat) (t : State) => Bw dC dI A [(oc3 oR iR_faultNumber iR_faultPlace iR_tapeSize rR_tape iR_end iR_tokenKind iR_tokenFrom iR_tokenTo iR_tokenName iR_tokenKey iR_tokenWhole oC iR_courtTold rR_names rR_keys), (arL rR_names kR_names 18 fR_names), (oc1 oC iC_nodes iC_words iC_chances iC_unsures iC_slips iC_throneNode iC_saidWorth iC_unit rC_kind rC_parts rC_partNodes rC_weights rC_weightSums rC_toldWorths rC_steps rC_below rC_above rC_unsureWords rC_unsureWorths)] [(kR_names, .long)] t) A) ([.ref oR] : List Value).toArray s 0 0 A) (F0 m 2 ls []) := by
    intro n_909
    induction n_909 with
    | zero => intro z_908 H locs ls hi0_n_909 hm; exact absurd hm (Nat.not_lt_zero _)
    | succ n_909 ih_n_909 =>
      intro z_908 H locs ls hi0_n_909 hm_n_909 hG hP hD hS hl
      have hG := hG.trans (HX3_toldNode_0_eq _ _ _ _ _)
      have rg_z_908 := fb_rng z_908
      refine lv_iload_n hx hb dX3_toldNode_2 rfl (lv_at hl 0 rfl) ?_
      refine lv_aload_n hx hb dX3_toldNode_3 rfl (lv_at hl 1 rfl) ?_
      refine va_get (D := (dC, dI)) (ci := 3) (v := .ref oC) (C := RX3) (T := TX3) (N := 15) hx hb hts inX3 hown hK hP 0 rfl rfl 11 (by decide) (hts _ wd_46) (fun _ h9 => h9) rfl dX3_toldNode_4 ?_
      refine va_get (D := (dC, dI)) (ci := 1) (v := .int iC_nodes) (C := RX1) (T := TX1) (N := 19) hx hb hts inX1 hown hK hP 2 rfl rfl 0 (by decide) (hts _ wd_287) (fun _ h9 => h9) rfl dX3_toldNode_7 ?_
      have rg_iC_nodes := fb_rng iC_nodes
      refine lv_icmp_ge (tgt := 35) hx hb dX3_toldNode_10 (by decide) (fun c_910 => ?_) (fun c_910 => ?_)
      · skip
        have hG := hG.trans (if_pos c_910)
        have gc_910 := ti_le c_910 rfl rfl
        refine lv_iconst (v := (-1)) hx hb dX3_toldNode_35 (by decide) ?_
        exact wq_i hx hb hr 0 ⟨⟨trivial, (by decide)⟩, hG⟩ (fun t ht hW => Bw.to hP hD hK ht hW) hS dX3_toldNode_36 hlocks
      · skip
        have hG := hG.trans (if_neg c_910)
        have gc_910 := ti_nle c_910 rfl rfl
        refine lv_aload_n hx hb dX3_toldNode_13 rfl (lv_at hl 1 rfl) ?_
        refine va_get (D := (dC, dI)) (ci := 3) (v := .ref rR_names) (C := RX3) (T := TX3) (N := 15) hx hb hts inX3 hown hK hP 0 rfl rfl 13 (by decide) (hts _ wd_47) (fun _ h9 => h9) rfl dX3_toldNode_14 ?_
        refine lv_iload_n hx hb dX3_toldNode_17 rfl (lv_at hl 0 rfl) ?_
        refine va_lald hx hb hK hP 1 0 rfl rfl (ti_in rfl hi0_n_909.1 (om_97cd4a7c b_iC_nodes.2 gc_910)) dX3_toldNode_18 ?_
        refine lv_topl (fun y_911 ey_911 => ?_)
        have hG := hG.trans (lt_eq ey_911)
        refine lv_aload_n hx hb dX3_toldNode_19 rfl (lv_at hl 1 rfl) ?_
        refine va_get (D := (dC, dI)) (ci := 3) (v := .long iR_tokenName) (C := RX3) (T := TX3) (N := 15) hx hb hts inX3 hown hK hP 0 rfl rfl 8 (by decide) (hts _ wd_237) (fun _ h9 => h9) rfl dX3_toldNode_20 ?_
        refine W.lcmp hx hb dX3_toldNode_23 ?_
        refine lv_topi (fun x_912 ex_912 => ?_)
        have hG := hG.trans (lt_eq ex_912)
        have rg_x_912 := fb_rng x_912
        refine lv_if_ne (tgt := 29) hx hb dX3_toldNode_24 (by decide) (fun c_913 => ?_) (fun c_913 => ?_)
        · skip
          have hG := hG.trans (if_neg c_913)
          have gc_913 := ti_ne c_913 rfl kc_0
          obtain ⟨x_914, ex_914⟩ : ∃ z : Int32, z = z_908 + Int32.ofInt 1 := ⟨_, rfl⟩
          have hG := hG.trans (lt_eq ex_914)
          have vx_914 : x_914.toInt = z_908.toInt + 1 := ti_add (y := 1) ex_914 rfl kc_1 (om_4e4fce7e hi0_n_909.1) (om_a32d6481 b_iC_nodes.2 gc_910)
          refine lv_iinc (v := x_914) (lv' := [(1, .int x_914), (0, .ref oR)]) hx hb dX3_toldNode_29 hl (k := 0) rfl ex_914.symm (by decide) rfl (fun ls hl => ?_)
          refine lv_goto (tgt := 2) hx hb dX3_toldNode_32 (by decide) ?_
          exact ih_n_909 x_914 _ _ _  ⟨(om_83b90de5 hi0_n_909.1 vx_914), (om_ed8867da b_iC_nodes.2 gc_910 vx_914)⟩ (ms_lt hm_n_909 (om_b9393183 vx_914) (om_1d9fa7fb b_iC_nodes.2 gc_910)) hG hP hD hS (lv_sub hl [0, 1] rfl)
        · skip
          have hG := hG.trans (if_pos c_913)
          have gc_913 := ti_eq c_913 rfl kc_0
          refine lv_iload_n hx hb dX3_toldNode_27 rfl (lv_at hl 0 rfl) ?_
          exact wq_i hx hb hr 0 ⟨⟨trivial, ⟨(om_9b1c209f hi0_n_909.1), (om_525c5d3e b_iC_nodes.2 gc_910)⟩⟩, hG⟩ (fun t ht hW => Bw.to hP hD hK ht hW) hS dX3_toldNode_28 hlocks
  exact key_n_909 (((2147483647 - (0 : Int32).toInt).toNat) + 1) 0 _ _ _  ⟨(om_b1de7dbe kc_0), (om_daf17c64 kc_0)⟩ (Nat.lt_add_one _) hG hP hD hS hl
set_option maxHeartbeats 4000000 in
set_option maxRecDepth 100000 in
theorem tX3_isNewName (l : Launch) (dC : Nat → ClassId) (dI : Nat → Nat → Nat) (sz : Nat) (oR : Nat) (iR_faultNumber : Int32) (iR_faultPlace : Int32) (iR_tapeSize : Int32) (rR_tape : Nat) (iR_end : Int32) (iR_tokenKind : Int32) (iR_tokenFrom : Int32) (iR_tokenTo : Int32) (iR_tokenName : Int64) (iR_tokenKey : Int32) (iR_tokenWhole : Int32) (oC : Nat) (iR_courtTold : Int32) (rR_names : Nat) (fR_names : Nat → Int64) (kR_names : ClassId) (rR_keys : Nat) (iC_nodes : Int32) (iC_words : Int32) (iC_chances : Int32) (iC_unsures : Int32) (iC_slips : Int32) (iC_throneNode : Int32) (iC_saidWorth : Int32) (iC_unit : Int32) (rC_kind : Nat) (rC_parts : Nat) (rC_partNodes : Nat) (rC_weights : Nat) (rC_weightSums : Nat) (rC_toldWorths : Nat) (rC_steps : Nat) (rC_below : Nat) (rC_above : Nat) (rC_unsureWords : Nat) (rC_unsureWorths : Nat) (b_iR_tapeSize : 0 ≤ iR_tapeSize.toInt ∧ iR_tapeSize.toInt ≤ 900) (b_iR_courtTold : 0 ≤ iR_courtTold.toInt ∧ iR_courtTold.toInt ≤ 1) (b_iC_nodes : 0 ≤ iC_nodes.toInt ∧ iC_nodes.toInt ≤ 18) (b_iC_unsures : 0 ≤ iC_unsures.toInt ∧ iC_unsures.toInt ≤ 4) (b_iC_throneNode : (-1) ≤ iC_throneNode.toInt ∧ iC_throneNode.toInt ≤ 17)  : Met l yX3_isNewName (Cond.code yX3_isNewName cX3_isNewName 1 (some .boolean) :: wG) ({ frames := 1, cells := 0, slots := 0, locals := 21 }) (va_Pc [.ref oR] (Pw dC dI sz [(oc3 oR iR_faultNumber iR_faultPlace iR_tapeSize rR_tape iR_end iR_tokenKind iR_tokenFrom iR_tokenTo iR_tokenName iR_tokenKey iR_tokenWhole oC iR_courtTold rR_names rR_keys), (arL rR_names kR_names 18 fR_names), (oc1 oC iC_nodes iC_words iC_chances iC_unsures iC_slips iC_throneNode iC_saidWorth iC_unit rC_kind rC_parts rC_partNodes rC_weights rC_weightSums rC_toldWorths rC_steps rC_below rC_above rC_unsureWords rC_unsureWorths)] [(kR_names, .long)])) (va_Qi (fun (r : Int32) (u : Nat) => ((r = 0 ∨ r = 1) ∧ True) ∧ r = Int32.ofNat u) (fun (u : Nat) (t : State) => ∃ (niR_faultNumber : Int32) (niR_faultPlace : Int32), (PX3_isNewName iR_faultNumber iR_faultPlace iR_tokenKind iR_tokenFrom iR_tokenName iR_tokenKey fR_names iC_nodes = (Int32.ofNat u, niR_faultNumber, niR_faultPlace)) ∧ Bw dC dI (va_A [(oc3 oR iR_faultNumber iR_faultPlace iR_tapeSize rR_tape iR_end iR_tokenKind iR_tokenFrom iR_tokenTo iR_tokenName iR_tokenKey iR_tokenWhole oC iR_courtTold rR_names rR_keys), (arL rR_names kR_names 18 fR_names), (oc1 oC iC_nodes iC_words iC_chances iC_unsures iC_slips iC_throneNode iC_saidWorth iC_unit rC_kind rC_parts rC_partNodes rC_weights rC_weightSums rC_toldWorths rC_steps rC_below rC_above rC_unsureWords rC_unsureWorths)] sz) [(oc3 oR niR_faultNumber niR_faultPlace iR_tapeSize rR_tape iR_end iR_tokenKind iR_tokenFrom iR_tokenTo iR_tokenName iR_tokenKey iR_tokenWhole oC iR_courtTold rR_names rR_keys), (arL rR_names kR_names 18 fR_names), (oc1 oC iC_nodes iC_words iC_chances iC_unsures iC_slips iC_throneNode iC_saidWorth iC_unit rC_kind rC_parts rC_partNodes rC_weights rC_weightSums rC_toldWorths rC_steps rC_below rC_above rC_unsureWords rC_unsureWorths)] [(kR_names, .long)] t) (va_A [(oc3 oR iR_faultNumber iR_faultPlace iR_tapeSize rR_tape iR_end iR_tokenKind iR_tokenFrom iR_tokenTo iR_tokenName iR_tokenKey iR_tokenWhole oC iR_courtTold rR_names rR_keys), (arL rR_names kR_names 18 fR_names), (oc1 oC iC_nodes iC_words iC_chances iC_unsures iC_slips iC_throneNode iC_saidWorth iC_unit rC_kind rC_parts rC_partNodes rC_weights rC_weightSums rC_toldWorths rC_steps rC_below rC_above rC_unsureWords rC_unsureWorths)] sz)) 0 0 (va_A [(oc3 oR iR_faultNumber iR_faultPlace iR_tapeSize rR_tape iR_end iR_tokenKind iR_tokenFrom iR_tokenTo iR_tokenName iR_tokenKey iR_tokenWhole oC iR_courtTold rR_names rR_keys), (arL rR_names kR_names 18 fR_names), (oc1 oC iC_nodes iC_words iC_chances iC_unsures iC_slips iC_throneNode iC_saidWorth iC_unit rC_kind rC_parts rC_partNodes rC_weights rC_weightSums rC_toldWorths rC_steps rC_below rC_above rC_unsureWords rC_unsureWorths)] sz) := by
  refine Met.ofW (cc := cX3_isNewName) (maxL := 1) (ret := (some .boolean)) pnX3 rfl ?_
  intro p e s m args below meth c s₁ B hml hv
  obtain ⟨rfl, hsz, hP, hK, hD0, hE⟩ := hv
  have hx := B.exec
  have hb := B.bytes
  have hr := B.returns
  have hts : ∀ w ∈ wG, w.before ([.ref oR] : List Value).toArray s = true := fun w h => atoms_spec (ws := Cond.code yX3_isNewName cX3_isNewName 1 (some .boolean) :: wG) B.pre w (List.mem_cons_of_mem _ h)
  have hown : s.vm.findClass RX3 = some m.cls := own_of B.named rfl
  have hlocks := B.notSynchronized
  subst hsz
  have hD := hD0.self (sz := s.heap.size)
  generalize hAe : va_A [(oc3 oR iR_faultNumber iR_faultPlace iR_tapeSize rR_tape iR_end iR_tokenKind iR_tokenFrom iR_tokenTo iR_tokenName iR_tokenKey iR_tokenWhole oC iR_courtTold rR_names rR_keys), (arL rR_names kR_names 18 fR_names), (oc1 oC iC_nodes iC_words iC_chances iC_unsures iC_slips iC_throneNode iC_saidWorth iC_unit rC_kind rC_parts rC_partNodes rC_weights rC_weightSums rC_toldWorths rC_steps rC_below rC_above rC_unsureWords rC_unsureWorths)] s.heap.size = A at hD hE ⊢
  have hA : ∀ q : Nat, s.heap.size ≤ q → A q := fun q h => by rw [← hAe]; exact Or.inr h
  have hS : va_S A s.heap s.heap [] := va_S.rf
  have hl := lv_entry ([.ref oR]) (n := 1) (Nat.le_of_ble_eq_true rfl)
  rw [lg_entry_eq]
  generalize (lg_sl ([.ref oR]) ++ List.replicate (1 - (lg_sl ([.ref oR])).length) Slot.unset).toArray = ls at hl ⊢
  have hl : lv_has ls 1 [(0, .ref oR)] := hl
  have hG := PX3_isNewName_eq iR_faultNumber iR_faultPlace iR_tokenKind iR_tokenFrom iR_tokenName iR_tokenKey fR_names iC_nodes
  refine lv_aload_n hx hb dX3_isNewName_0 rfl (lv_at hl 0 rfl) ?_
  refine va_get (D := (dC, dI)) (ci := 3) (v := .int iR_tokenKind) (C := RX3) (T := TX3) (N := 15) hx hb hts inX3 hown hK hP 0 rfl rfl 5 (by decide) (hts _ wd_210) (fun _ h9 => h9) rfl dX3_isNewName_1 ?_
  refine lv_iconst (v := 1) hx hb dX3_isNewName_4 (by decide) ?_
  refine lv_icmp_ne (tgt := 15) hx hb dX3_isNewName_5 (by decide) (fun c_930 => ?_) (fun c_930 => ?_)
  · skip
    have hG := hG.trans (if_neg c_930)
    have gc_930 := ti_ne c_930 rfl kc_1
    refine lv_aload_n hx hb dX3_isNewName_15 rfl (lv_at hl 0 rfl) ?_
    refine lv_iconst (v := 1) hx hb dX3_isNewName_16 (by decide) ?_
    have hMs := ml_of hD [true, false, false] (wc := [(oc3 oR iR_faultNumber iR_faultPlace iR_tapeSize rR_tape iR_end iR_tokenKind iR_tokenFrom iR_tokenTo iR_tokenName iR_tokenKey iR_tokenWhole oC iR_courtTold rR_names rR_keys)]) rfl
    have hFc := va_freeM hD hS hA _ hMs
    refine va_calli (va_runV (As := [.int 1]) (rest := []) ⟨hx, hb, hml, hown, hts⟩ (tX3_faulty l dC dI _ oR iR_faultNumber iR_faultPlace iR_tapeSize rR_tape iR_end iR_tokenKind iR_tokenFrom iR_tokenTo iR_tokenName iR_tokenKey iR_tokenWhole oC iR_courtTold rR_names rR_keys 1 b_iR_tapeSize b_iR_courtTold) (cwV 1 hts (wd_V wd_254 wd_255 wd_256 wd_15 (wd_c wd_257)) rfl rfl rfl dv_yX3_faulty_1 ⟨Nat.le_of_ble_eq_true rfl, Nat.le_of_ble_eq_true rfl⟩) ⟨Pw.fb, recvX3 hK hP (q0 := 0) rfl, fun U hU hW => Pw.to (hP.ms _ hMs) (hD.ms _ hMs) (hK.ms [false] rfl) hE hS hFc hU hW⟩ rfl rfl hl.1 rfl (lv_room (Nat.le_of_ble_eq_true rfl)) dX3_isNewName_17 ⟨Nat.le_of_ble_eq_true rfl, Nat.le_of_ble_eq_true rfl⟩) hS (fun q _ h => hFc q h) hFc (fun r u t H locs ht hvm hw hB hz1 hk1 hS => ?_)
    have hru9 := hw.2
    have hw := hw.1
    refine ex_2_1 hB (fun x_931 x_932 e_x_931_0 hB => ?_)
    obtain ⟨hP, hD⟩ := Bw.goN (ws' := [(oc3 oR x_931 x_932 iR_tapeSize rR_tape iR_end iR_tokenKind iR_tokenFrom iR_tokenTo iR_tokenName iR_tokenKey iR_tokenWhole oC iR_courtTold rR_names rR_keys), (arL rR_names kR_names 18 fR_names), (oc1 oC iC_nodes iC_words iC_chances iC_unsures iC_slips iC_throneNode iC_saidWorth iC_unit rC_kind rC_parts rC_partNodes rC_weights rC_weightSums rC_toldWorths rC_steps rC_below rC_above rC_unsureWords rC_unsureWorths)]) hB rfl ht hP hD _ hMs hk1 hFc rfl
    clear hz1 hk1 hvm ht hB hMs
    rw [← hru9] at e_x_931_0
    rcases hw.2 with ⟨rfl, hc_933⟩
    · skip
      have hG := hG.trans (un3_eq e_x_931_0)
      exact wq_z (v := 0) hx hb hr rfl (cI 0) ⟨⟨Or.inl rfl, trivial⟩, (cI_of 0)⟩ (fun t ht hW => ⟨x_931, x_932, (cI_tup hG), Bw.to hP hD hK ht hW⟩) hS dX3_isNewName_20 hlocks
  · skip
    have hG := hG.trans (if_pos c_930)
    have gc_930 := ti_eq c_930 rfl kc_1
    refine lv_aload_n hx hb dX3_isNewName_8 rfl (lv_at hl 0 rfl) ?_
    have hMs := ml_of hD [true, false, false] (wc := [(oc3 oR iR_faultNumber iR_faultPlace iR_tapeSize rR_tape iR_end iR_tokenKind iR_tokenFrom iR_tokenTo iR_tokenName iR_tokenKey iR_tokenWhole oC iR_courtTold rR_names rR_keys)]) rfl
    have hFc := va_freeM hD hS hA _ hMs
    refine va_calli (va_runV (As := []) (rest := []) ⟨hx, hb, hml, hown, hts⟩ (tX3_isLineKey l dC dI _ oR iR_faultNumber iR_faultPlace iR_tapeSize rR_tape iR_end iR_tokenKind iR_tokenFrom iR_tokenTo iR_tokenName iR_tokenKey iR_tokenWhole oC iR_courtTold rR_names rR_keys b_iR_tapeSize b_iR_courtTold) (cwV 0 hts (wd_V wd_250 wd_251 wd_252 wd_15 (wd_c wd_253)) rfl rfl rfl dv_yX3_isLineKey_0 ⟨Nat.le_of_ble_eq_true rfl, Nat.le_of_ble_eq_true rfl⟩) ⟨Pw.fb, recvX3 hK hP (q0 := 0) rfl, fun U hU hW => Pw.to (hP.ms _ hMs) (hD.ms _ hMs) (hK.ms [false] rfl) hE hS hFc hU hW⟩ rfl rfl hl.1 rfl (lv_room (Nat.le_of_ble_eq_true rfl)) dX3_isNewName_9 ⟨Nat.le_of_ble_eq_true rfl, Nat.le_of_ble_eq_true rfl⟩) hS (fun q _ h => hFc q h) hFc (fun r u t H locs ht hvm hw hB hz1 hk1 hS => ?_)
    have hru9 := hw.2
    have hw := hw.1
    obtain ⟨hP, hD⟩ := Bw.goN (ws' := [(oc3 oR iR_faultNumber iR_faultPlace iR_tapeSize rR_tape iR_end iR_tokenKind iR_tokenFrom iR_tokenTo iR_tokenName iR_tokenKey iR_tokenWhole oC iR_courtTold rR_names rR_keys), (arL rR_names kR_names 18 fR_names), (oc1 oC iC_nodes iC_words iC_chances iC_unsures iC_slips iC_throneNode iC_saidWorth iC_unit rC_kind rC_parts rC_partNodes rC_weights rC_weightSums rC_toldWorths rC_steps rC_below rC_above rC_unsureWords rC_unsureWorths)]) hB rfl ht hP hD _ hMs hk1 hFc rfl
    clear hz1 hk1 hvm ht hB hMs
    obtain ⟨x_935, rfl⟩ : ∃ z, z = r := ⟨_, rfl⟩
    have hG := hG.trans (lt_eq hru9.symm)
    have bx_935 := hw.1
    have dx_935 := bz_tb bx_935
    refine lv_if_eq (tgt := 21) hx hb dX3_isNewName_12 (by decide) (fun c_936 => ?_) (fun c_936 => ?_)
    · skip
      have hG := hG.trans (if_pos c_936)
      have gc_936 := ti_eq c_936 rfl kc_0
      refine lv_aload_n hx hb dX3_isNewName_21 rfl (lv_at hl 0 rfl) ?_
      have hFc := va_freeI hD hS hA
      refine va_calli (va_runV (As := []) (rest := []) ⟨hx, hb, hml, hown, hts⟩ (tX3_toldNode l dC dI _ oR iR_faultNumber iR_faultPlace iR_tapeSize rR_tape iR_end iR_tokenKind iR_tokenFrom iR_tokenTo iR_tokenName iR_tokenKey iR_tokenWhole oC iR_courtTold rR_names fR_names kR_names rR_keys iC_nodes iC_words iC_chances iC_unsures iC_slips iC_throneNode iC_saidWorth iC_unit rC_kind rC_parts rC_partNodes rC_weights rC_weightSums rC_toldWorths rC_steps rC_below rC_above rC_unsureWords rC_unsureWorths b_iR_tapeSize b_iR_courtTold b_iC_nodes b_iC_unsures b_iC_throneNode) (cwV 0 hts (wd_V wd_283 wd_284 wd_285 wd_15 (wd_c wd_286)) rfl rfl rfl dv_yX3_toldNode_0 ⟨Nat.le_of_ble_eq_true rfl, Nat.le_of_ble_eq_true rfl⟩) ⟨Pw.fb, recvX3 hK hP (q0 := 0) rfl, fun U hU hW => Pw.to hP hD hK hE hS hFc hU hW⟩ rfl rfl hl.1 rfl (lv_room (Nat.le_of_ble_eq_true rfl)) dX3_isNewName_22 ⟨Nat.le_of_ble_eq_true rfl, Nat.le_of_ble_eq_true rfl⟩) hS (fun q _ h => hFc q h) hFc (fun r u t H locs ht hvm hw hB hz1 hk1 hS => ?_)
      have hru9 := hw.2
      have hw := hw.1
      obtain ⟨hP, hD⟩ := Bw.goA (ws' := [(oc3 oR iR_faultNumber iR_faultPlace iR_tapeSize rR_tape iR_end iR_tokenKind iR_tokenFrom iR_tokenTo iR_tokenName iR_tokenKey iR_tokenWhole oC iR_courtTold rR_names rR_keys), (arL rR_names kR_names 18 fR_names), (oc1 oC iC_nodes iC_words iC_chances iC_unsures iC_slips iC_throneNode iC_saidWorth iC_unit rC_kind rC_parts rC_partNodes rC_weights rC_weightSums rC_toldWorths rC_steps rC_below rC_above rC_unsureWords rC_unsureWorths)]) hB rfl ht hFc rfl
      clear hz1 hk1 hvm ht hB
      obtain ⟨x_937, rfl⟩ : ∃ z, z = r := ⟨_, rfl⟩
      have hG := hG.trans (lt_eq hru9.symm)
      have ux_937 := hw.2
      refine lv_if_lt (tgt := 36) hx hb dX3_isNewName_25 (by decide) (fun c_938 => ?_) (fun c_938 => ?_)
      · skip
        have hG := hG.trans (if_pos c_938)
        have gc_938 := ti_lt c_938 rfl kc_0
        refine lv_iconst (v := 1) hx hb dX3_isNewName_36 (by decide) ?_
        refine lv_goto (tgt := 41) hx hb dX3_isNewName_37 (by decide) ?_
        exact wq_z (v := 1) hx hb hr rfl (cI 1) ⟨⟨Or.inr rfl, trivial⟩, (cI_of 1)⟩ (fun t ht hW => ⟨iR_faultNumber, iR_faultPlace, (cI_tup hG), Bw.to hP hD hK ht hW⟩) hS dX3_isNewName_41 hlocks
      · skip
        have hG := hG.trans (if_neg c_938)
        have gc_938 := ti_nlt c_938 rfl kc_0
        refine lv_aload_n hx hb dX3_isNewName_28 rfl (lv_at hl 0 rfl) ?_
        refine lv_iconst (v := 3) hx hb dX3_isNewName_29 (by decide) ?_
        have hMs := ml_of hD [true, false, false] (wc := [(oc3 oR iR_faultNumber iR_faultPlace iR_tapeSize rR_tape iR_end iR_tokenKind iR_tokenFrom iR_tokenTo iR_tokenName iR_tokenKey iR_tokenWhole oC iR_courtTold rR_names rR_keys)]) rfl
        have hFc := va_freeM hD hS hA _ hMs
        refine va_calli (va_runV (As := [.int 3]) (rest := []) ⟨hx, hb, hml, hown, hts⟩ (tX3_faulty l dC dI _ oR iR_faultNumber iR_faultPlace iR_tapeSize rR_tape iR_end iR_tokenKind iR_tokenFrom iR_tokenTo iR_tokenName iR_tokenKey iR_tokenWhole oC iR_courtTold rR_names rR_keys 3 b_iR_tapeSize b_iR_courtTold) (cwV 1 hts (wd_V wd_254 wd_255 wd_256 wd_15 (wd_c wd_257)) rfl rfl rfl dv_yX3_faulty_1 ⟨Nat.le_of_ble_eq_true rfl, Nat.le_of_ble_eq_true rfl⟩) ⟨Pw.fb, recvX3 hK hP (q0 := 0) rfl, fun U hU hW => Pw.to (hP.ms _ hMs) (hD.ms _ hMs) (hK.ms [false] rfl) hE hS hFc hU hW⟩ rfl rfl hl.1 rfl (lv_room (Nat.le_of_ble_eq_true rfl)) dX3_isNewName_30 ⟨Nat.le_of_ble_eq_true rfl, Nat.le_of_ble_eq_true rfl⟩) hS (fun q _ h => hFc q h) hFc (fun r u t H locs ht hvm hw hB hz1 hk1 hS => ?_)
        have hru9 := hw.2
        have hw := hw.1
        refine ex_2_1 hB (fun x_939 x_940 e_x_939_0 hB => ?_)
        obtain ⟨hP, hD⟩ := Bw.goN (ws' := [(oc3 oR x_939 x_940 iR_tapeSize rR_tape iR_end iR_tokenKind iR_tokenFrom iR_tokenTo iR_tokenName iR_tokenKey iR_tokenWhole oC iR_courtTold rR_names rR_keys), (arL rR_names kR_names 18 fR_names), (oc1 oC iC_nodes iC_words iC_chances iC_unsures iC_slips iC_throneNode iC_saidWorth iC_unit rC_kind rC_parts rC_partNodes rC_weights rC_weightSums rC_toldWorths rC_steps rC_below rC_above rC_unsureWords rC_unsureWorths)]) hB rfl ht hP hD _ hMs hk1 hFc rfl
        clear hz1 hk1 hvm ht hB hMs
        rw [← hru9] at e_x_939_0
        rcases hw.2 with ⟨rfl, hc_941⟩
        · skip
          have hG := hG.trans (un3_eq e_x_939_0)
          refine lv_if_eq (tgt := 40) hx hb dX3_isNewName_33 (by decide) (fun _ => ?_) (fun c => absurd c (by decide))
          refine lv_iconst (v := 0) hx hb dX3_isNewName_40 (by decide) ?_
          exact wq_z (v := 0) hx hb hr rfl (cI 0) ⟨⟨Or.inl rfl, trivial⟩, (cI_of 0)⟩ (fun t ht hW => ⟨x_939, x_940, (cI_tup hG), Bw.to hP hD hK ht hW⟩) hS dX3_isNewName_41 hlocks
    · skip
      have hG := hG.trans (if_neg c_936)
      have gc_936 := ti_ne c_936 rfl kc_0
      refine lv_aload_n hx hb dX3_isNewName_15 rfl (lv_at hl 0 rfl) ?_
      refine lv_iconst (v := 1) hx hb dX3_isNewName_16 (by decide) ?_
      have hMs := ml_of hD [true, false, false] (wc := [(oc3 oR iR_faultNumber iR_faultPlace iR_tapeSize rR_tape iR_end iR_tokenKind iR_tokenFrom iR_tokenTo iR_tokenName iR_tokenKey iR_tokenWhole oC iR_courtTold rR_names rR_keys)]) rfl
      have hFc := va_freeM hD hS hA _ hMs
      refine va_calli (va_runV (As := [.int 1]) (rest := []) ⟨hx, hb, hml, hown, hts⟩ (tX3_faulty l dC dI _ oR iR_faultNumber iR_faultPlace iR_tapeSize rR_tape iR_end iR_tokenKind iR_tokenFrom iR_tokenTo iR_tokenName iR_tokenKey iR_tokenWhole oC iR_courtTold rR_names rR_keys 1 b_iR_tapeSize b_iR_courtTold) (cwV 1 hts (wd_V wd_254 wd_255 wd_256 wd_15 (wd_c wd_257)) rfl rfl rfl dv_yX3_faulty_1 ⟨Nat.le_of_ble_eq_true rfl, Nat.le_of_ble_eq_true rfl⟩) ⟨Pw.fb, recvX3 hK hP (q0 := 0) rfl, fun U hU hW => Pw.to (hP.ms _ hMs) (hD.ms _ hMs) (hK.ms [false] rfl) hE hS hFc hU hW⟩ rfl rfl hl.1 rfl (lv_room (Nat.le_of_ble_eq_true rfl)) dX3_isNewName_17 ⟨Nat.le_of_ble_eq_true rfl, Nat.le_of_ble_eq_true rfl⟩) hS (fun q _ h => hFc q h) hFc (fun r u t H locs ht hvm hw hB hz1 hk1 hS => ?_)
      have hru9 := hw.2
      have hw := hw.1
      refine ex_2_1 hB (fun x_944 x_945 e_x_944_0 hB => ?_)
      obtain ⟨hP, hD⟩ := Bw.goN (ws' := [(oc3 oR x_944 x_945 iR_tapeSize rR_tape iR_end iR_tokenKind iR_tokenFrom iR_tokenTo iR_tokenName iR_tokenKey iR_tokenWhole oC iR_courtTold rR_names rR_keys), (arL rR_names kR_names 18 fR_names), (oc1 oC iC_nodes iC_words iC_chances iC_unsures iC_slips iC_throneNode iC_saidWorth iC_unit rC_kind rC_parts rC_partNodes rC_weights rC_weightSums rC_toldWorths rC_steps rC_below rC_above rC_unsureWords rC_unsureWorths)]) hB rfl ht hP hD _ hMs hk1 hFc rfl
      clear hz1 hk1 hvm ht hB hMs
      rw [← hru9] at e_x_944_0
      rcases hw.2 with ⟨rfl, hc_946⟩
      · skip
        have hG := hG.trans (un3_eq e_x_944_0)
        exact wq_z (v := 0) hx hb hr rfl (cI 0) ⟨⟨Or.inl rfl, trivial⟩, (cI_of 0)⟩ (fun t ht hW => ⟨x_944, x_945, (cI_tup hG), Bw.to hP hD hK ht hW⟩) hS dX3_isNewName_20 hlocks
set_option maxHeartbeats 4000000 in
set_option maxRecDepth 100000 in
theorem tX3_isToldName (l : Launch) (dC : Nat → ClassId) (dI : Nat → Nat → Nat) (sz : Nat) (oR : Nat) (iR_faultNumber : Int32) (iR_faultPlace : Int32) (iR_tapeSize : Int32) (rR_tape : Nat) (iR_end : Int32) (iR_tokenKind : Int32) (iR_tokenFrom : Int32) (iR_tokenTo : Int32) (iR_tokenName : Int64) (iR_tokenKey : Int32) (iR_tokenWhole : Int32) (oC : Nat) (iR_courtTold : Int32) (rR_names : Nat) (fR_names : Nat → Int64) (kR_names : ClassId) (rR_keys : Nat) (iC_nodes : Int32) (iC_words : Int32) (iC_chances : Int32) (iC_unsures : Int32) (iC_slips : Int32) (iC_throneNode : Int32) (iC_saidWorth : Int32) (iC_unit : Int32) (rC_kind : Nat) (rC_parts : Nat) (rC_partNodes : Nat) (rC_weights : Nat) (rC_weightSums : Nat) (rC_toldWorths : Nat) (rC_steps : Nat) (rC_below : Nat) (rC_above : Nat) (rC_unsureWords : Nat) (rC_unsureWorths : Nat) (b_iR_tapeSize : 0 ≤ iR_tapeSize.toInt ∧ iR_tapeSize.toInt ≤ 900) (b_iR_courtTold : 0 ≤ iR_courtTold.toInt ∧ iR_courtTold.toInt ≤ 1) (b_iC_nodes : 0 ≤ iC_nodes.toInt ∧ iC_nodes.toInt ≤ 18) (b_iC_unsures : 0 ≤ iC_unsures.toInt ∧ iC_unsures.toInt ≤ 4) (b_iC_throneNode : (-1) ≤ iC_throneNode.toInt ∧ iC_throneNode.toInt ≤ 17)  : Met l yX3_isToldName (Cond.code yX3_isToldName cX3_isToldName 1 (some .boolean) :: wG) ({ frames := 1, cells := 0, slots := 0, locals := 21 }) (va_Pc [.ref oR] (Pw dC dI sz [(oc3 oR iR_faultNumber iR_faultPlace iR_tapeSize rR_tape iR_end iR_tokenKind iR_tokenFrom iR_tokenTo iR_tokenName iR_tokenKey iR_tokenWhole oC iR_courtTold rR_names rR_keys), (arL rR_names kR_names 18 fR_names), (oc1 oC iC_nodes iC_words iC_chances iC_unsures iC_slips iC_throneNode iC_saidWorth iC_unit rC_kind rC_parts rC_partNodes rC_weights rC_weightSums rC_toldWorths rC_steps rC_below rC_above rC_unsureWords rC_unsureWorths)] [(kR_names, .long)])) (va_Qi (fun (r : Int32) (u : Nat) => ((r = 0 ∨ r = 1) ∧ True) ∧ r = Int32.ofNat u) (fun (u : Nat) (t : State) => ∃ (niR_faultNumber : Int32) (niR_faultPlace : Int32), (PX3_isToldName iR_faultNumber iR_faultPlace iR_tokenKind iR_tokenFrom iR_tokenName iR_tokenKey fR_names iC_nodes = (Int32.ofNat u, niR_faultNumber, niR_faultPlace)) ∧ Bw dC dI (va_A [(oc3 oR iR_faultNumber iR_faultPlace iR_tapeSize rR_tape iR_end iR_tokenKind iR_tokenFrom iR_tokenTo iR_tokenName iR_tokenKey iR_tokenWhole oC iR_courtTold rR_names rR_keys), (arL rR_names kR_names 18 fR_names), (oc1 oC iC_nodes iC_words iC_chances iC_unsures iC_slips iC_throneNode iC_saidWorth iC_unit rC_kind rC_parts rC_partNodes rC_weights rC_weightSums rC_toldWorths rC_steps rC_below rC_above rC_unsureWords rC_unsureWorths)] sz) [(oc3 oR niR_faultNumber niR_faultPlace iR_tapeSize rR_tape iR_end iR_tokenKind iR_tokenFrom iR_tokenTo iR_tokenName iR_tokenKey iR_tokenWhole oC iR_courtTold rR_names rR_keys), (arL rR_names kR_names 18 fR_names), (oc1 oC iC_nodes iC_words iC_chances iC_unsures iC_slips iC_throneNode iC_saidWorth iC_unit rC_kind rC_parts rC_partNodes rC_weights rC_weightSums rC_toldWorths rC_steps rC_below rC_above rC_unsureWords rC_unsureWorths)] [(kR_names, .long)] t) (va_A [(oc3 oR iR_faultNumber iR_faultPlace iR_tapeSize rR_tape iR_end iR_tokenKind iR_tokenFrom iR_tokenTo iR_tokenName iR_tokenKey iR_tokenWhole oC iR_courtTold rR_names rR_keys), (arL rR_names kR_names 18 fR_names), (oc1 oC iC_nodes iC_words iC_chances iC_unsures iC_slips iC_throneNode iC_saidWorth iC_unit rC_kind rC_parts rC_partNodes rC_weights rC_weightSums rC_toldWorths rC_steps rC_below rC_above rC_unsureWords rC_unsureWorths)] sz)) 0 0 (va_A [(oc3 oR iR_faultNumber iR_faultPlace iR_tapeSize rR_tape iR_end iR_tokenKind iR_tokenFrom iR_tokenTo iR_tokenName iR_tokenKey iR_tokenWhole oC iR_courtTold rR_names rR_keys), (arL rR_names kR_names 18 fR_names), (oc1 oC iC_nodes iC_words iC_chances iC_unsures iC_slips iC_throneNode iC_saidWorth iC_unit rC_kind rC_parts rC_partNodes rC_weights rC_weightSums rC_toldWorths rC_steps rC_below rC_above rC_unsureWords rC_unsureWorths)] sz) := by
  refine Met.ofW (cc := cX3_isToldName) (maxL := 1) (ret := (some .boolean)) pnX3 rfl ?_
  intro p e s m args below meth c s₁ B hml hv
  obtain ⟨rfl, hsz, hP, hK, hD0, hE⟩ := hv
  have hx := B.exec
  have hb := B.bytes
  have hr := B.returns
  have hts : ∀ w ∈ wG, w.before ([.ref oR] : List Value).toArray s = true := fun w h => atoms_spec (ws := Cond.code yX3_isToldName cX3_isToldName 1 (some .boolean) :: wG) B.pre w (List.mem_cons_of_mem _ h)
  have hown : s.vm.findClass RX3 = some m.cls := own_of B.named rfl
  have hlocks := B.notSynchronized
  subst hsz
  have hD := hD0.self (sz := s.heap.size)
  generalize hAe : va_A [(oc3 oR iR_faultNumber iR_faultPlace iR_tapeSize rR_tape iR_end iR_tokenKind iR_tokenFrom iR_tokenTo iR_tokenName iR_tokenKey iR_tokenWhole oC iR_courtTold rR_names rR_keys), (arL rR_names kR_names 18 fR_names), (oc1 oC iC_nodes iC_words iC_chances iC_unsures iC_slips iC_throneNode iC_saidWorth iC_unit rC_kind rC_parts rC_partNodes rC_weights rC_weightSums rC_toldWorths rC_steps rC_below rC_above rC_unsureWords rC_unsureWorths)] s.heap.size = A at hD hE ⊢
  have hA : ∀ q : Nat, s.heap.size ≤ q → A q := fun q h => by rw [← hAe]; exact Or.inr h
  have hS : va_S A s.heap s.heap [] := va_S.rf
  have hl := lv_entry ([.ref oR]) (n := 1) (Nat.le_of_ble_eq_true rfl)
  rw [lg_entry_eq]
  generalize (lg_sl ([.ref oR]) ++ List.replicate (1 - (lg_sl ([.ref oR])).length) Slot.unset).toArray = ls at hl ⊢
  have hl : lv_has ls 1 [(0, .ref oR)] := hl
  have hG := PX3_isToldName_eq iR_faultNumber iR_faultPlace iR_tokenKind iR_tokenFrom iR_tokenName iR_tokenKey fR_names iC_nodes
  refine lv_aload_n hx hb dX3_isToldName_0 rfl (lv_at hl 0 rfl) ?_
  refine va_get (D := (dC, dI)) (ci := 3) (v := .int iR_tokenKind) (C := RX3) (T := TX3) (N := 15) hx hb hts inX3 hown hK hP 0 rfl rfl 5 (by decide) (hts _ wd_210) (fun _ h9 => h9) rfl dX3_isToldName_1 ?_
  refine lv_iconst (v := 1) hx hb dX3_isToldName_4 (by decide) ?_
  refine lv_icmp_ne (tgt := 15) hx hb dX3_isToldName_5 (by decide) (fun c_963 => ?_) (fun c_963 => ?_)
  · skip
    have hG := hG.trans (if_neg c_963)
    have gc_963 := ti_ne c_963 rfl kc_1
    refine lv_aload_n hx hb dX3_isToldName_15 rfl (lv_at hl 0 rfl) ?_
    refine lv_iconst (v := 1) hx hb dX3_isToldName_16 (by decide) ?_
    have hMs := ml_of hD [true, false, false] (wc := [(oc3 oR iR_faultNumber iR_faultPlace iR_tapeSize rR_tape iR_end iR_tokenKind iR_tokenFrom iR_tokenTo iR_tokenName iR_tokenKey iR_tokenWhole oC iR_courtTold rR_names rR_keys)]) rfl
    have hFc := va_freeM hD hS hA _ hMs
    refine va_calli (va_runV (As := [.int 1]) (rest := []) ⟨hx, hb, hml, hown, hts⟩ (tX3_faulty l dC dI _ oR iR_faultNumber iR_faultPlace iR_tapeSize rR_tape iR_end iR_tokenKind iR_tokenFrom iR_tokenTo iR_tokenName iR_tokenKey iR_tokenWhole oC iR_courtTold rR_names rR_keys 1 b_iR_tapeSize b_iR_courtTold) (cwV 1 hts (wd_V wd_254 wd_255 wd_256 wd_15 (wd_c wd_257)) rfl rfl rfl dv_yX3_faulty_1 ⟨Nat.le_of_ble_eq_true rfl, Nat.le_of_ble_eq_true rfl⟩) ⟨Pw.fb, recvX3 hK hP (q0 := 0) rfl, fun U hU hW => Pw.to (hP.ms _ hMs) (hD.ms _ hMs) (hK.ms [false] rfl) hE hS hFc hU hW⟩ rfl rfl hl.1 rfl (lv_room (Nat.le_of_ble_eq_true rfl)) dX3_isToldName_17 ⟨Nat.le_of_ble_eq_true rfl, Nat.le_of_ble_eq_true rfl⟩) hS (fun q _ h => hFc q h) hFc (fun r u t H locs ht hvm hw hB hz1 hk1 hS => ?_)
    have hru9 := hw.2
    have hw := hw.1
    refine ex_2_1 hB (fun x_964 x_965 e_x_964_0 hB => ?_)
    obtain ⟨hP, hD⟩ := Bw.goN (ws' := [(oc3 oR x_964 x_965 iR_tapeSize rR_tape iR_end iR_tokenKind iR_tokenFrom iR_tokenTo iR_tokenName iR_tokenKey iR_tokenWhole oC iR_courtTold rR_names rR_keys), (arL rR_names kR_names 18 fR_names), (oc1 oC iC_nodes iC_words iC_chances iC_unsures iC_slips iC_throneNode iC_saidWorth iC_unit rC_kind rC_parts rC_partNodes rC_weights rC_weightSums rC_toldWorths rC_steps rC_below rC_above rC_unsureWords rC_unsureWorths)]) hB rfl ht hP hD _ hMs hk1 hFc rfl
    clear hz1 hk1 hvm ht hB hMs
    rw [← hru9] at e_x_964_0
    rcases hw.2 with ⟨rfl, hc_966⟩
    · skip
      have hG := hG.trans (un3_eq e_x_964_0)
      exact wq_z (v := 0) hx hb hr rfl (cI 0) ⟨⟨Or.inl rfl, trivial⟩, (cI_of 0)⟩ (fun t ht hW => ⟨x_964, x_965, (cI_tup hG), Bw.to hP hD hK ht hW⟩) hS dX3_isToldName_20 hlocks
  · skip
    have hG := hG.trans (if_pos c_963)
    have gc_963 := ti_eq c_963 rfl kc_1
    refine lv_aload_n hx hb dX3_isToldName_8 rfl (lv_at hl 0 rfl) ?_
    have hMs := ml_of hD [true, false, false] (wc := [(oc3 oR iR_faultNumber iR_faultPlace iR_tapeSize rR_tape iR_end iR_tokenKind iR_tokenFrom iR_tokenTo iR_tokenName iR_tokenKey iR_tokenWhole oC iR_courtTold rR_names rR_keys)]) rfl
    have hFc := va_freeM hD hS hA _ hMs
    refine va_calli (va_runV (As := []) (rest := []) ⟨hx, hb, hml, hown, hts⟩ (tX3_isLineKey l dC dI _ oR iR_faultNumber iR_faultPlace iR_tapeSize rR_tape iR_end iR_tokenKind iR_tokenFrom iR_tokenTo iR_tokenName iR_tokenKey iR_tokenWhole oC iR_courtTold rR_names rR_keys b_iR_tapeSize b_iR_courtTold) (cwV 0 hts (wd_V wd_250 wd_251 wd_252 wd_15 (wd_c wd_253)) rfl rfl rfl dv_yX3_isLineKey_0 ⟨Nat.le_of_ble_eq_true rfl, Nat.le_of_ble_eq_true rfl⟩) ⟨Pw.fb, recvX3 hK hP (q0 := 0) rfl, fun U hU hW => Pw.to (hP.ms _ hMs) (hD.ms _ hMs) (hK.ms [false] rfl) hE hS hFc hU hW⟩ rfl rfl hl.1 rfl (lv_room (Nat.le_of_ble_eq_true rfl)) dX3_isToldName_9 ⟨Nat.le_of_ble_eq_true rfl, Nat.le_of_ble_eq_true rfl⟩) hS (fun q _ h => hFc q h) hFc (fun r u t H locs ht hvm hw hB hz1 hk1 hS => ?_)
    have hru9 := hw.2
    have hw := hw.1
    obtain ⟨hP, hD⟩ := Bw.goN (ws' := [(oc3 oR iR_faultNumber iR_faultPlace iR_tapeSize rR_tape iR_end iR_tokenKind iR_tokenFrom iR_tokenTo iR_tokenName iR_tokenKey iR_tokenWhole oC iR_courtTold rR_names rR_keys), (arL rR_names kR_names 18 fR_names), (oc1 oC iC_nodes iC_words iC_chances iC_unsures iC_slips iC_throneNode iC_saidWorth iC_unit rC_kind rC_parts rC_partNodes rC_weights rC_weightSums rC_toldWorths rC_steps rC_below rC_above rC_unsureWords rC_unsureWorths)]) hB rfl ht hP hD _ hMs hk1 hFc rfl
    clear hz1 hk1 hvm ht hB hMs
    obtain ⟨x_968, rfl⟩ : ∃ z, z = r := ⟨_, rfl⟩
    have hG := hG.trans (lt_eq hru9.symm)
    have bx_968 := hw.1
    have dx_968 := bz_tb bx_968
    refine lv_if_eq (tgt := 21) hx hb dX3_isToldName_12 (by decide) (fun c_969 => ?_) (fun c_969 => ?_)
    · skip
      have hG := hG.trans (if_pos c_969)
      have gc_969 := ti_eq c_969 rfl kc_0
      refine lv_aload_n hx hb dX3_isToldName_21 rfl (lv_at hl 0 rfl) ?_
      have hFc := va_freeI hD hS hA
      refine va_calli (va_runV (As := []) (rest := []) ⟨hx, hb, hml, hown, hts⟩ (tX3_toldNode l dC dI _ oR iR_faultNumber iR_faultPlace iR_tapeSize rR_tape iR_end iR_tokenKind iR_tokenFrom iR_tokenTo iR_tokenName iR_tokenKey iR_tokenWhole oC iR_courtTold rR_names fR_names kR_names rR_keys iC_nodes iC_words iC_chances iC_unsures iC_slips iC_throneNode iC_saidWorth iC_unit rC_kind rC_parts rC_partNodes rC_weights rC_weightSums rC_toldWorths rC_steps rC_below rC_above rC_unsureWords rC_unsureWorths b_iR_tapeSize b_iR_courtTold b_iC_nodes b_iC_unsures b_iC_throneNode) (cwV 0 hts (wd_V wd_283 wd_284 wd_285 wd_15 (wd_c wd_286)) rfl rfl rfl dv_yX3_toldNode_0 ⟨Nat.le_of_ble_eq_true rfl, Nat.le_of_ble_eq_true rfl⟩) ⟨Pw.fb, recvX3 hK hP (q0 := 0) rfl, fun U hU hW => Pw.to hP hD hK hE hS hFc hU hW⟩ rfl rfl hl.1 rfl (lv_room (Nat.le_of_ble_eq_true rfl)) dX3_isToldName_22 ⟨Nat.le_of_ble_eq_true rfl, Nat.le_of_ble_eq_true rfl⟩) hS (fun q _ h => hFc q h) hFc (fun r u t H locs ht hvm hw hB hz1 hk1 hS => ?_)
      have hru9 := hw.2
      have hw := hw.1
      obtain ⟨hP, hD⟩ := Bw.goA (ws' := [(oc3 oR iR_faultNumber iR_faultPlace iR_tapeSize rR_tape iR_end iR_tokenKind iR_tokenFrom iR_tokenTo iR_tokenName iR_tokenKey iR_tokenWhole oC iR_courtTold rR_names rR_keys), (arL rR_names kR_names 18 fR_names), (oc1 oC iC_nodes iC_words iC_chances iC_unsures iC_slips iC_throneNode iC_saidWorth iC_unit rC_kind rC_parts rC_partNodes rC_weights rC_weightSums rC_toldWorths rC_steps rC_below rC_above rC_unsureWords rC_unsureWorths)]) hB rfl ht hFc rfl
      clear hz1 hk1 hvm ht hB
      obtain ⟨x_970, rfl⟩ : ∃ z, z = r := ⟨_, rfl⟩
      have hG := hG.trans (lt_eq hru9.symm)
      have ux_970 := hw.2
      refine lv_if_ge (tgt := 36) hx hb dX3_isToldName_25 (by decide) (fun c_971 => ?_) (fun c_971 => ?_)
      · skip
        have hG := hG.trans (if_pos c_971)
        have gc_971 := ti_le c_971 kc_0 rfl
        refine lv_iconst (v := 1) hx hb dX3_isToldName_36 (by decide) ?_
        refine lv_goto (tgt := 41) hx hb dX3_isToldName_37 (by decide) ?_
        exact wq_z (v := 1) hx hb hr rfl (cI 1) ⟨⟨Or.inr rfl, trivial⟩, (cI_of 1)⟩ (fun t ht hW => ⟨iR_faultNumber, iR_faultPlace, (cI_tup hG), Bw.to hP hD hK ht hW⟩) hS dX3_isToldName_41 hlocks
      · skip
        have hG := hG.trans (if_neg c_971)
        have gc_971 := ti_nle c_971 kc_0 rfl
        refine lv_aload_n hx hb dX3_isToldName_28 rfl (lv_at hl 0 rfl) ?_
        refine lv_iconst (v := 2) hx hb dX3_isToldName_29 (by decide) ?_
        have hMs := ml_of hD [true, false, false] (wc := [(oc3 oR iR_faultNumber iR_faultPlace iR_tapeSize rR_tape iR_end iR_tokenKind iR_tokenFrom iR_tokenTo iR_tokenName iR_tokenKey iR_tokenWhole oC iR_courtTold rR_names rR_keys)]) rfl
        have hFc := va_freeM hD hS hA _ hMs
        refine va_calli (va_runV (As := [.int 2]) (rest := []) ⟨hx, hb, hml, hown, hts⟩ (tX3_faulty l dC dI _ oR iR_faultNumber iR_faultPlace iR_tapeSize rR_tape iR_end iR_tokenKind iR_tokenFrom iR_tokenTo iR_tokenName iR_tokenKey iR_tokenWhole oC iR_courtTold rR_names rR_keys 2 b_iR_tapeSize b_iR_courtTold) (cwV 1 hts (wd_V wd_254 wd_255 wd_256 wd_15 (wd_c wd_257)) rfl rfl rfl dv_yX3_faulty_1 ⟨Nat.le_of_ble_eq_true rfl, Nat.le_of_ble_eq_true rfl⟩) ⟨Pw.fb, recvX3 hK hP (q0 := 0) rfl, fun U hU hW => Pw.to (hP.ms _ hMs) (hD.ms _ hMs) (hK.ms [false] rfl) hE hS hFc hU hW⟩ rfl rfl hl.1 rfl (lv_room (Nat.le_of_ble_eq_true rfl)) dX3_isToldName_30 ⟨Nat.le_of_ble_eq_true rfl, Nat.le_of_ble_eq_true rfl⟩) hS (fun q _ h => hFc q h) hFc (fun r u t H locs ht hvm hw hB hz1 hk1 hS => ?_)
        have hru9 := hw.2
        have hw := hw.1
        refine ex_2_1 hB (fun x_972 x_973 e_x_972_0 hB => ?_)
        obtain ⟨hP, hD⟩ := Bw.goN (ws' := [(oc3 oR x_972 x_973 iR_tapeSize rR_tape iR_end iR_tokenKind iR_tokenFrom iR_tokenTo iR_tokenName iR_tokenKey iR_tokenWhole oC iR_courtTold rR_names rR_keys), (arL rR_names kR_names 18 fR_names), (oc1 oC iC_nodes iC_words iC_chances iC_unsures iC_slips iC_throneNode iC_saidWorth iC_unit rC_kind rC_parts rC_partNodes rC_weights rC_weightSums rC_toldWorths rC_steps rC_below rC_above rC_unsureWords rC_unsureWorths)]) hB rfl ht hP hD _ hMs hk1 hFc rfl
        clear hz1 hk1 hvm ht hB hMs
        rw [← hru9] at e_x_972_0
        rcases hw.2 with ⟨rfl, hc_974⟩
        · skip
          have hG := hG.trans (un3_eq e_x_972_0)
          refine lv_if_eq (tgt := 40) hx hb dX3_isToldName_33 (by decide) (fun _ => ?_) (fun c => absurd c (by decide))
          refine lv_iconst (v := 0) hx hb dX3_isToldName_40 (by decide) ?_
          exact wq_z (v := 0) hx hb hr rfl (cI 0) ⟨⟨Or.inl rfl, trivial⟩, (cI_of 0)⟩ (fun t ht hW => ⟨x_972, x_973, (cI_tup hG), Bw.to hP hD hK ht hW⟩) hS dX3_isToldName_41 hlocks
    · skip
      have hG := hG.trans (if_neg c_969)
      have gc_969 := ti_ne c_969 rfl kc_0
      refine lv_aload_n hx hb dX3_isToldName_15 rfl (lv_at hl 0 rfl) ?_
      refine lv_iconst (v := 1) hx hb dX3_isToldName_16 (by decide) ?_
      have hMs := ml_of hD [true, false, false] (wc := [(oc3 oR iR_faultNumber iR_faultPlace iR_tapeSize rR_tape iR_end iR_tokenKind iR_tokenFrom iR_tokenTo iR_tokenName iR_tokenKey iR_tokenWhole oC iR_courtTold rR_names rR_keys)]) rfl
      have hFc := va_freeM hD hS hA _ hMs
      refine va_calli (va_runV (As := [.int 1]) (rest := []) ⟨hx, hb, hml, hown, hts⟩ (tX3_faulty l dC dI _ oR iR_faultNumber iR_faultPlace iR_tapeSize rR_tape iR_end iR_tokenKind iR_tokenFrom iR_tokenTo iR_tokenName iR_tokenKey iR_tokenWhole oC iR_courtTold rR_names rR_keys 1 b_iR_tapeSize b_iR_courtTold) (cwV 1 hts (wd_V wd_254 wd_255 wd_256 wd_15 (wd_c wd_257)) rfl rfl rfl dv_yX3_faulty_1 ⟨Nat.le_of_ble_eq_true rfl, Nat.le_of_ble_eq_true rfl⟩) ⟨Pw.fb, recvX3 hK hP (q0 := 0) rfl, fun U hU hW => Pw.to (hP.ms _ hMs) (hD.ms _ hMs) (hK.ms [false] rfl) hE hS hFc hU hW⟩ rfl rfl hl.1 rfl (lv_room (Nat.le_of_ble_eq_true rfl)) dX3_isToldName_17 ⟨Nat.le_of_ble_eq_true rfl, Nat.le_of_ble_eq_true rfl⟩) hS (fun q _ h => hFc q h) hFc (fun r u t H locs ht hvm hw hB hz1 hk1 hS => ?_)
      have hru9 := hw.2
      have hw := hw.1
      refine ex_2_1 hB (fun x_977 x_978 e_x_977_0 hB => ?_)
      obtain ⟨hP, hD⟩ := Bw.goN (ws' := [(oc3 oR x_977 x_978 iR_tapeSize rR_tape iR_end iR_tokenKind iR_tokenFrom iR_tokenTo iR_tokenName iR_tokenKey iR_tokenWhole oC iR_courtTold rR_names rR_keys), (arL rR_names kR_names 18 fR_names), (oc1 oC iC_nodes iC_words iC_chances iC_unsures iC_slips iC_throneNode iC_saidWorth iC_unit rC_kind rC_parts rC_partNodes rC_weights rC_weightSums rC_toldWorths rC_steps rC_below rC_above rC_unsureWords rC_unsureWorths)]) hB rfl ht hP hD _ hMs hk1 hFc rfl
      clear hz1 hk1 hvm ht hB hMs
      rw [← hru9] at e_x_977_0
      rcases hw.2 with ⟨rfl, hc_979⟩
      · skip
        have hG := hG.trans (un3_eq e_x_977_0)
        exact wq_z (v := 0) hx hb hr rfl (cI 0) ⟨⟨Or.inl rfl, trivial⟩, (cI_of 0)⟩ (fun t ht hW => ⟨x_977, x_978, (cI_tup hG), Bw.to hP hD hK ht hW⟩) hS dX3_isToldName_20 hlocks
set_option maxHeartbeats 4000000 in
set_option maxRecDepth 100000 in
theorem tX3_takeLetters (l : Launch) (dC : Nat → ClassId) (dI : Nat → Nat → Nat) (sz : Nat) (oR : Nat) (iR_faultNumber : Int32) (iR_faultPlace : Int32) (iR_tapeSize : Int32) (rR_tape : Nat) (fR_tape : Nat → Int32) (kR_tape : ClassId) (iR_end : Int32) (iR_tokenKind : Int32) (iR_tokenFrom : Int32) (iR_tokenTo : Int32) (iR_tokenName : Int64) (iR_tokenKey : Int32) (iR_tokenWhole : Int32) (oC : Nat) (iR_courtTold : Int32) (rR_names : Nat) (rR_keys : Nat) (fR_keys : Nat → Int64) (kR_keys : ClassId) (b_iR_tapeSize : 0 ≤ iR_tapeSize.toInt ∧ iR_tapeSize.toInt ≤ 900) (b_iR_courtTold : 0 ≤ iR_courtTold.toInt ∧ iR_courtTold.toInt ≤ 1)  : Met l yX3_takeLetters (Cond.code yX3_takeLetters cX3_takeLetters 3 none :: wG) ({ frames := 1, cells := 0, slots := 0, locals := 22 }) (va_Pc [.ref oR] (Pw dC dI sz [(oc3 oR iR_faultNumber iR_faultPlace iR_tapeSize rR_tape iR_end iR_tokenKind iR_tokenFrom iR_tokenTo iR_tokenName iR_tokenKey iR_tokenWhole oC iR_courtTold rR_names rR_keys), (arI rR_tape kR_tape 900 fR_tape), (arL rR_keys kR_keys 10 fR_keys)] [(kR_tape, .byte), (kR_keys, .long)])) (va_Qv (fun (_ : Nat) => True) (fun (_ : Nat) (t : State) => ∃ (niR_tokenKind : Int32) (niR_tokenTo : Int32) (niR_tokenName : Int64) (niR_tokenKey : Int32), (1 ≤ niR_tokenKind.toInt ∧ niR_tokenKind.toInt ≤ 5) ∧ (PX3_takeLetters fR_tape iR_end iR_tokenFrom iR_tokenKey fR_keys = (niR_tokenKind, niR_tokenTo, niR_tokenName, niR_tokenKey)) ∧ Bw dC dI (va_A [(oc3 oR iR_faultNumber iR_faultPlace iR_tapeSize rR_tape iR_end iR_tokenKind iR_tokenFrom iR_tokenTo iR_tokenName iR_tokenKey iR_tokenWhole oC iR_courtTold rR_names rR_keys), (arI rR_tape kR_tape 900 fR_tape), (arL rR_keys kR_keys 10 fR_keys)] sz) [(oc3 oR iR_faultNumber iR_faultPlace iR_tapeSize rR_tape iR_end niR_tokenKind iR_tokenFrom niR_tokenTo niR_tokenName niR_tokenKey iR_tokenWhole oC iR_courtTold rR_names rR_keys), (arI rR_tape kR_tape 900 fR_tape), (arL rR_keys kR_keys 10 fR_keys)] [(kR_tape, .byte), (kR_keys, .long)] t) (va_A [(oc3 oR iR_faultNumber iR_faultPlace iR_tapeSize rR_tape iR_end iR_tokenKind iR_tokenFrom iR_tokenTo iR_tokenName iR_tokenKey iR_tokenWhole oC iR_courtTold rR_names rR_keys), (arI rR_tape kR_tape 900 fR_tape), (arL rR_keys kR_keys 10 fR_keys)] sz)) 0 0 (va_A [(oc3 oR iR_faultNumber iR_faultPlace iR_tapeSize rR_tape iR_end iR_tokenKind iR_tokenFrom iR_tokenTo iR_tokenName iR_tokenKey iR_tokenWhole oC iR_courtTold rR_names rR_keys), (arI rR_tape kR_tape 900 fR_tape), (arL rR_keys kR_keys 10 fR_keys)] sz) := by
  refine Met.ofW (cc := cX3_takeLetters) (maxL := 3) (ret := none) pnX3 rfl ?_
  intro p e s m args below meth c s₁ B hml hv
  obtain ⟨rfl, hsz, hP, hK, hD0, hE⟩ := hv
  have hx := B.exec
  have hb := B.bytes
  have hr := B.returns
  have hts : ∀ w ∈ wG, w.before ([.ref oR] : List Value).toArray s = true := fun w h => atoms_spec (ws := Cond.code yX3_takeLetters cX3_takeLetters 3 none :: wG) B.pre w (List.mem_cons_of_mem _ h)
  have hown : s.vm.findClass RX3 = some m.cls := own_of B.named rfl
  have hlocks := B.notSynchronized
  subst hsz
  have hD := hD0.self (sz := s.heap.size)
  generalize hAe : va_A [(oc3 oR iR_faultNumber iR_faultPlace iR_tapeSize rR_tape iR_end iR_tokenKind iR_tokenFrom iR_tokenTo iR_tokenName iR_tokenKey iR_tokenWhole oC iR_courtTold rR_names rR_keys), (arI rR_tape kR_tape 900 fR_tape), (arL rR_keys kR_keys 10 fR_keys)] s.heap.size = A at hD hE ⊢
  have hA : ∀ q : Nat, s.heap.size ≤ q → A q := fun q h => by rw [← hAe]; exact Or.inr h
  have hS : va_S A s.heap s.heap [] := va_S.rf
  have hl := lv_entry ([.ref oR]) (n := 3) (Nat.le_of_ble_eq_true rfl)
  rw [lg_entry_eq]
  generalize (lg_sl ([.ref oR]) ++ List.replicate (3 - (lg_sl ([.ref oR])).length) Slot.unset).toArray = ls at hl ⊢
  have hl : lv_has ls 3 [(0, .ref oR)] := hl
  have hG := PX3_takeLetters_eq fR_tape iR_end iR_tokenFrom iR_tokenKey fR_keys
  refine lv_aload_n hx hb dX3_takeLetters_0 rfl (lv_at hl 0 rfl) ?_
  refine va_get (D := (dC, dI)) (ci := 3) (v := .int iR_tokenFrom) (C := RX3) (T := TX3) (N := 15) hx hb hts inX3 hown hK hP 0 rfl rfl 6 (by decide) (hts _ wd_224) (fun _ h9 => h9) rfl dX3_takeLetters_1 ?_
  have rg_iR_tokenFrom := fb_rng iR_tokenFrom
  refine lv_istore_n (lv' := [(1, .int iR_tokenFrom), (0, .ref oR)]) hx hb dX3_takeLetters_4 rfl hl (by decide) rfl (fun ls hl => ?_)
  refine lv_aload_n hx hb dX3_takeLetters_5 rfl (lv_at hl 1 rfl) ?_
  refine lv_lconst (v := 0) hx hb dX3_takeLetters_6 (by decide) ?_
  refine va_put (D := (dC, dI)) (ci := 3) (v := .long 0) (ty := .long) (C := RX3) (T := TX3) (N := 15) hx hb hts inX3 tyX3 tyX3_ok nmX3 hown hK hP hD hS 0 rfl rfl 8 (by decide) (hts _ wd_237) (fun _ h9 => h9) rfl (by decide +kernel) rfl rfl (Nat.le_of_ble_eq_true rfl) dX3_takeLetters_7 (fun H locs hP hD hS => ?_)
  obtain ⟨hP, hD⟩ := wl2 (ws' := [(oc3 oR iR_faultNumber iR_faultPlace iR_tapeSize rR_tape iR_end iR_tokenKind iR_tokenFrom iR_tokenTo 0 iR_tokenKey iR_tokenWhole oC iR_courtTold rR_names rR_keys), (arI rR_tape kR_tape 900 fR_tape), (arL rR_keys kR_keys 10 fR_keys)]) hP hD rfl
  have hl := lv_sub hl (l' := [(1, .int iR_tokenFrom), (0, .ref oR)]) [0, 1] rfl
  have key_n_1088 : ∀ (n_1088 : Nat) (z_1086 : Int32) (z_1087 : Int64) (H : Heap) (locs : List Loc) (ls : Array Slot), ((-2147483648) ≤ z_1086.toInt ∧ z_1086.toInt ≤ 2147483647) → (2147483647 - z_1086.toInt).toNat < n_1088 → (PX3_takeLetters fR_tape iR_end iR_tokenFrom iR_tokenKey fR_keys = HX3_takeLetters_0 fR_tape iR_end iR_tokenFrom iR_tokenKey fR_keys n_1088 z_1086 z_1087) → va_P (dC, dI) vwCl [(oc3 oR iR_faultNumber iR_faultPlace iR_tapeSize rR_tape iR_end iR_tokenKind iR_tokenFrom iR_tokenTo z_1087 iR_tokenKey iR_tokenWhole oC iR_courtTold rR_names rR_keys), (arI rR_tape kR_tape 900 fR_tape), (arL rR_keys kR_keys 10 fR_keys)] H → va_D A [(oc3 oR iR_faultNumber iR_faultPlace iR_tapeSize rR_tape iR_end iR_tokenKind iR_tokenFrom iR_tokenTo z_1087 iR_tokenKey iR_tokenWhole oC iR_courtTold rR_names rR_keys), (arI rR_tape kR_tape 900 fR_tape), (arL rR_keys kR_keys 10 fR_keys)] → va_S A s.heap H locs → lv_has ls 3 [(1, .int z_1086), (0, .ref oR)] → W p l e (headSpec (Cond.code yX3_takeLetters cX3_takeLetters 3 none :: wG) ({ frames := 1, cells := 0, slots := 0, locals := 22 })).room s m ([.ref oR] : List Value).toArray below meth c H locs 0 0 (MQ below (va_Qv (fun (_ : Nat) => True) (fun (_ : Nat) (t : State) => ∃ (niR_tokenKind : Int32) (niR_tokenTo : Int32) (niR_tokenName : Int64) (niR_tokenKey : Int32), (1 ≤ niR_tokenKind.toInt ∧ niR_tokenKind.toInt ≤ 5) ∧ (PX3_takeLetters fR_tape iR_end iR_tokenFrom iR_tokenKey fR_keys = (niR_tokenKind, niR_tokenTo, niR_tokenName, niR_tokenKey)) ∧ Bw dC dI A [(oc3 oR iR_faultNumber iR_faultPlace iR_tapeSize rR_tape iR_end niR_tokenKind iR_tokenFrom niR_tokenTo niR_tokenName niR_tokenKey iR_tokenWhole oC iR_courtTold rR_names rR_keys), (arI rR_tape kR_tape 900 fR_tape), (arL rR_keys kR_keys 10 fR_keys)] [(kR_tape, .byte), (kR_keys, .long)] t) A) ([.ref oR] : List Value).toArray s 0 0 A) (F0 m 10 ls []) := by
    intro n_1088
    induction n_1088 with
    | zero => intro z_1086 z_1087 H locs ls hi0_n_1088 hm; exact absurd hm (Nat.not_lt_zero _)
    | succ n_1088 ih_n_1088 =>
      intro z_1086 z_1087 H locs ls hi0_n_1088 hm_n_1088 hG hP hD hS hl
      have hG := hG.trans (HX3_takeLetters_0_eq _ _ _ _ _ _ _ _)
      have rg_z_1086 := fb_rng z_1086
      refine lv_iload_n hx hb dX3_takeLetters_10 rfl (lv_at hl 0 rfl) ?_
      refine lv_aload_n hx hb dX3_takeLetters_11 rfl (lv_at hl 1 rfl) ?_
      refine va_get (D := (dC, dI)) (ci := 3) (v := .int iR_end) (C := RX3) (T := TX3) (N := 15) hx hb hts inX3 hown hK hP 0 rfl rfl 4 (by decide) (hts _ wd_205) (fun _ h9 => h9) rfl dX3_takeLetters_12 ?_
      have rg_iR_end := fb_rng iR_end
      refine lv_icmp_ge (tgt := 51) hx hb dX3_takeLetters_15 (by decide) (fun c_1089 => ?_) (fun c_1089 => ?_)
      · skip
        have hG := hG.trans (if_pos c_1089)
        have gc_1089 := ti_le c_1089 rfl rfl
        refine lv_aload_n hx hb dX3_takeLetters_51 rfl (lv_at hl 1 rfl) ?_
        refine lv_iload_n hx hb dX3_takeLetters_52 rfl (lv_at hl 0 rfl) ?_
        refine va_put (D := (dC, dI)) (ci := 3) (v := .int z_1086) (ty := .int) (C := RX3) (T := TX3) (N := 15) hx hb hts inX3 tyX3 tyX3_ok nmX3 hown hK hP hD hS 0 rfl rfl 7 (by decide) (hts _ wd_209) (fun _ h9 => h9) rfl (by decide +kernel) rfl rfl (Nat.le_of_ble_eq_true rfl) dX3_takeLetters_53 (fun H locs hP hD hS => ?_)
        obtain ⟨hP, hD⟩ := wl2 (ws' := [(oc3 oR iR_faultNumber iR_faultPlace iR_tapeSize rR_tape iR_end iR_tokenKind iR_tokenFrom z_1086 z_1087 iR_tokenKey iR_tokenWhole oC iR_courtTold rR_names rR_keys), (arI rR_tape kR_tape 900 fR_tape), (arL rR_keys kR_keys 10 fR_keys)]) hP hD rfl
        refine lv_aload_n hx hb dX3_takeLetters_56 rfl (lv_at hl 1 rfl) ?_
        refine lv_iload_n hx hb dX3_takeLetters_57 rfl (lv_at hl 0 rfl) ?_
        refine lv_aload_n hx hb dX3_takeLetters_58 rfl (lv_at hl 1 rfl) ?_
        refine va_get (D := (dC, dI)) (ci := 3) (v := .int iR_tokenFrom) (C := RX3) (T := TX3) (N := 15) hx hb hts inX3 hown hK hP 0 rfl rfl 6 (by decide) (hts _ wd_224) (fun _ h9 => h9) rfl dX3_takeLetters_59 ?_
        refine lv_isub hx hb dX3_takeLetters_62 ?_
        refine lv_topi (fun x_1090 ex_1090 => ?_)
        have hG := hG.trans (lt_eq ex_1090)
        have rg_x_1090 := fb_rng x_1090
        refine lv_bipush (v := 8) hx hb dX3_takeLetters_63 (by decide) ?_
        refine lv_icmp_gt (tgt := 72) hx hb dX3_takeLetters_65 (by decide) (fun c_1091 => ?_) (fun c_1091 => ?_)
        · skip
          have hG := hG.trans (if_pos c_1091)
          have gc_1091 := ti_lt c_1091 kc_8 rfl
          refine lv_iconst (v := 5) hx hb dX3_takeLetters_72 (by decide) ?_
          refine va_put (D := (dC, dI)) (ci := 3) (v := .int 5) (ty := .int) (C := RX3) (T := TX3) (N := 15) hx hb hts inX3 tyX3 tyX3_ok nmX3 hown hK hP hD hS 0 rfl rfl 5 (by decide) (hts _ wd_210) (fun _ h9 => h9) rfl (by decide +kernel) rfl rfl (Nat.le_of_ble_eq_true rfl) dX3_takeLetters_73 (fun H locs hP hD hS => ?_)
          obtain ⟨hP, hD⟩ := wl2 (ws' := [(oc3 oR iR_faultNumber iR_faultPlace iR_tapeSize rR_tape iR_end 5 iR_tokenFrom z_1086 z_1087 iR_tokenKey iR_tokenWhole oC iR_courtTold rR_names rR_keys), (arI rR_tape kR_tape 900 fR_tape), (arL rR_keys kR_keys 10 fR_keys)]) hP hD rfl
          refine lv_iconst (v := 0) hx hb dX3_takeLetters_76 (by decide) ?_
          refine lv_istore_n (lv' := [(2, .int 0), (1, .int z_1086), (0, .ref oR)]) hx hb dX3_takeLetters_77 rfl hl (by decide) rfl (fun ls hl => ?_)
          have hl := lv_sub hl (l' := [(2, .int 0), (1, .int z_1086), (0, .ref oR)]) [0, 1, 2] rfl
          have key_n_1094 : ∀ (n_1094 : Nat) (z_1092 : Int32) (z_1093 : Int32) (H : Heap) (locs : List Loc) (ls : Array Slot), (0 ≤ z_1092.toInt ∧ z_1092.toInt ≤ 2147483647) → (2147483647 - z_1092.toInt).toNat < n_1094 → (PX3_takeLetters fR_tape iR_end iR_tokenFrom iR_tokenKey fR_keys = HX3_takeLetters_1 z_1086 z_1087 n_1094 z_1092 z_1093) → va_P (dC, dI) vwCl [(oc3 oR iR_faultNumber iR_faultPlace iR_tapeSize rR_tape iR_end 5 iR_tokenFrom z_1086 z_1087 z_1093 iR_tokenWhole oC iR_courtTold rR_names rR_keys), (arI rR_tape kR_tape 900 fR_tape), (arL rR_keys kR_keys 10 fR_keys)] H → va_D A [(oc3 oR iR_faultNumber iR_faultPlace iR_tapeSize rR_tape iR_end 5 iR_tokenFrom z_1086 z_1087 z_1093 iR_tokenWhole oC iR_courtTold rR_names rR_keys), (arI rR_tape kR_tape 900 fR_tape), (arL rR_keys kR_keys 10 fR_keys)] → va_S A s.heap H locs → lv_has ls 3 [(2, .int z_1092), (1, .int z_1086), (0, .ref oR)] → W p l e (headSpec (Cond.code yX3_takeLetters cX3_takeLetters 3 none :: wG) ({ frames := 1, cells := 0, slots := 0, locals := 22 })).room s m ([.ref oR] : List Value).toArray below meth c H locs 0 0 (MQ below (va_Qv (fun (_ : Nat) => True) (fun (_ : Nat) (t : State) => ∃ (niR_tokenKind : Int32) (niR_tokenTo : Int32) (niR_tokenName : Int64) (niR_tokenKey : Int32), (1 ≤ niR_tokenKind.toInt ∧ niR_tokenKind.toInt ≤ 5) ∧ (PX3_takeLetters fR_tape iR_end iR_tokenFrom iR_tokenKey fR_keys = (niR_tokenKind, niR_tokenTo, niR_tokenName, niR_tokenKey)) ∧ Bw dC dI A [(oc3 oR iR_faultNumber iR_faultPlace iR_tapeSize rR_tape iR_end niR_tokenKind iR_tokenFrom niR_tokenTo niR_tokenName niR_tokenKey iR_tokenWhole oC iR_courtTold rR_names rR_keys), (arI rR_tape kR_tape 900 fR_tape), (arL rR_keys kR_keys 10 fR_keys)] [(kR_tape, .byte), (kR_keys, .long)] t) A) ([.ref oR] : List Value).toArray s 0 0 A) (F0 m 78 ls []) := by
            intro n_1094
            induction n_1094 with
            | zero => intro z_1092 z_1093 H locs ls hi0_n_1094 hm; exact absurd hm (Nat.not_lt_zero _)
            | succ n_1094 ih_n_1094 =>
              intro z_1092 z_1093 H locs ls hi0_n_1094 hm_n_1094 hG hP hD hS hl
              have hG := hG.trans (HX3_takeLetters_1_eq _ _ _ _ _)
              have rg_z_1092 := fb_rng z_1092
              have rg_z_1093 := fb_rng z_1093
              refine lv_iload_n hx hb dX3_takeLetters_78 rfl (lv_at hl 0 rfl) ?_
              refine lv_bipush (v := 10) hx hb dX3_takeLetters_79 (by decide) ?_
              refine lv_icmp_ge (tgt := 117) hx hb dX3_takeLetters_81 (by decide) (fun c_1095 => ?_) (fun c_1095 => ?_)
              · skip
                have hG := hG.trans (if_pos c_1095)
                have gc_1095 := ti_le c_1095 kc_10 rfl
                exact wq_v hx hb hr 0 trivial (fun t ht hW => ⟨5, z_1086, z_1087, z_1093, (by decide), hG, Bw.to hP hD hK ht hW⟩) hS dX3_takeLetters_117 hlocks
              · skip
                have hG := hG.trans (if_neg c_1095)
                have gc_1095 := ti_nle c_1095 kc_10 rfl
                refine lv_aload_n hx hb dX3_takeLetters_84 rfl (lv_at hl 2 rfl) ?_
                refine va_get (D := (dC, dI)) (ci := 3) (v := .int 5) (C := RX3) (T := TX3) (N := 15) hx hb hts inX3 hown hK hP 0 rfl rfl 5 (by decide) (hts _ wd_210) (fun _ h9 => h9) rfl dX3_takeLetters_85 ?_
                refine lv_iconst (v := 1) hx hb dX3_takeLetters_88 (by decide) ?_
                refine lv_icmp_ne (tgt := 117) hx hb dX3_takeLetters_89 (by decide) (fun _ => ?_) (fun c => absurd c (by decide))
                exact wq_v hx hb hr 0 trivial (fun t ht hW => ⟨5, z_1086, z_1087, z_1093, (by decide), hG, Bw.to hP hD hK ht hW⟩) hS dX3_takeLetters_117 hlocks
          exact key_n_1094 (((2147483647 - (0 : Int32).toInt).toNat) + 1) 0 iR_tokenKey _ _ _  ⟨(om_b1de7dbe kc_0), (om_daf17c64 kc_0)⟩ (Nat.lt_add_one _) hG hP hD hS hl
        · skip
          have hG := hG.trans (if_neg c_1091)
          have gc_1091 := ti_nlt c_1091 kc_8 rfl
          refine lv_iconst (v := 1) hx hb dX3_takeLetters_68 (by decide) ?_
          refine lv_goto (tgt := 73) hx hb dX3_takeLetters_69 (by decide) ?_
          refine va_put (D := (dC, dI)) (ci := 3) (v := .int 1) (ty := .int) (C := RX3) (T := TX3) (N := 15) hx hb hts inX3 tyX3 tyX3_ok nmX3 hown hK hP hD hS 0 rfl rfl 5 (by decide) (hts _ wd_210) (fun _ h9 => h9) rfl (by decide +kernel) rfl rfl (Nat.le_of_ble_eq_true rfl) dX3_takeLetters_73 (fun H locs hP hD hS => ?_)
          obtain ⟨hP, hD⟩ := wl2 (ws' := [(oc3 oR iR_faultNumber iR_faultPlace iR_tapeSize rR_tape iR_end 1 iR_tokenFrom z_1086 z_1087 iR_tokenKey iR_tokenWhole oC iR_courtTold rR_names rR_keys), (arI rR_tape kR_tape 900 fR_tape), (arL rR_keys kR_keys 10 fR_keys)]) hP hD rfl
          refine lv_iconst (v := 0) hx hb dX3_takeLetters_76 (by decide) ?_
          refine lv_istore_n (lv' := [(2, .int 0), (1, .int z_1086), (0, .ref oR)]) hx hb dX3_takeLetters_77 rfl hl (by decide) rfl (fun ls hl => ?_)
          have hl := lv_sub hl (l' := [(2, .int 0), (1, .int z_1086), (0, .ref oR)]) [0, 1, 2] rfl
          have key_n_1099 : ∀ (n_1099 : Nat) (z_1097 : Int32) (z_1098 : Int32) (H : Heap) (locs : List Loc) (ls : Array Slot), (0 ≤ z_1097.toInt ∧ z_1097.toInt ≤ 2147483647) → (2147483647 - z_1097.toInt).toNat < n_1099 → (PX3_takeLetters fR_tape iR_end iR_tokenFrom iR_tokenKey fR_keys = HX3_takeLetters_2 fR_keys z_1086 z_1087 n_1099 z_1097 z_1098) → va_P (dC, dI) vwCl [(oc3 oR iR_faultNumber iR_faultPlace iR_tapeSize rR_tape iR_end 1 iR_tokenFrom z_1086 z_1087 z_1098 iR_tokenWhole oC iR_courtTold rR_names rR_keys), (arI rR_tape kR_tape 900 fR_tape), (arL rR_keys kR_keys 10 fR_keys)] H → va_D A [(oc3 oR iR_faultNumber iR_faultPlace iR_tapeSize rR_tape iR_end 1 iR_tokenFrom z_1086 z_1087 z_1098 iR_tokenWhole oC iR_courtTold rR_names rR_keys), (arI rR_tape kR_tape 900 fR_tape), (arL rR_keys kR_keys 10 fR_keys)] → va_S A s.heap H locs → lv_has ls 3 [(2, .int z_1097), (1, .int z_1086), (0, .ref oR)] → W p l e (headSpec (Cond.code yX3_takeLetters cX3_takeLetters 3 none :: wG) ({ frames := 1, cells := 0, slots := 0, locals := 22 })).room s m ([.ref oR] : List Value).toArray below meth c H locs 0 0 (MQ below (va_Qv (fun (_ : Nat) => True) (fun (_ : Nat) (t : State) => ∃ (niR_tokenKind : Int32) (niR_tokenTo : Int32) (niR_tokenName : Int64) (niR_tokenKey : Int32), (1 ≤ niR_tokenKind.toInt ∧ niR_tokenKind.toInt ≤ 5) ∧ (PX3_takeLetters fR_tape iR_end iR_tokenFrom iR_tokenKey fR_keys = (niR_tokenKind, niR_tokenTo, niR_tokenName, niR_tokenKey)) ∧ Bw dC dI A [(oc3 oR iR_faultNumber iR_faultPlace iR_tapeSize rR_tape iR_end niR_tokenKind iR_tokenFrom niR_tokenTo niR_tokenName niR_tokenKey iR_tokenWhole oC iR_courtTold rR_names rR_keys), (arI rR_tape kR_tape 900 fR_tape), (arL rR_keys kR_keys 10 fR_keys)] [(kR_tape, .byte), (kR_keys, .long)] t) A) ([.ref oR] : List Value).toArray s 0 0 A) (F0 m 78 ls []) := by
            intro n_1099
            induction n_1099 with
            | zero => intro z_1097 z_1098 H locs ls hi0_n_1099 hm; exact absurd hm (Nat.not_lt_zero _)
            | succ n_1099 ih_n_1099 =>
              intro z_1097 z_1098 H locs ls hi0_n_1099 hm_n_1099 hG hP hD hS hl
              have hG := hG.trans (HX3_takeLetters_2_eq _ _ _ _ _ _)
              have rg_z_1097 := fb_rng z_1097
              have rg_z_1098 := fb_rng z_1098
              refine lv_iload_n hx hb dX3_takeLetters_78 rfl (lv_at hl 0 rfl) ?_
              refine lv_bipush (v := 10) hx hb dX3_takeLetters_79 (by decide) ?_
              refine lv_icmp_ge (tgt := 117) hx hb dX3_takeLetters_81 (by decide) (fun c_1100 => ?_) (fun c_1100 => ?_)
              · skip
                have hG := hG.trans (if_pos c_1100)
                have gc_1100 := ti_le c_1100 kc_10 rfl
                exact wq_v hx hb hr 0 trivial (fun t ht hW => ⟨1, z_1086, z_1087, z_1098, (by decide), hG, Bw.to hP hD hK ht hW⟩) hS dX3_takeLetters_117 hlocks
              · skip
                have hG := hG.trans (if_neg c_1100)
                have gc_1100 := ti_nle c_1100 kc_10 rfl
                refine lv_aload_n hx hb dX3_takeLetters_84 rfl (lv_at hl 2 rfl) ?_
                refine va_get (D := (dC, dI)) (ci := 3) (v := .int 1) (C := RX3) (T := TX3) (N := 15) hx hb hts inX3 hown hK hP 0 rfl rfl 5 (by decide) (hts _ wd_210) (fun _ h9 => h9) rfl dX3_takeLetters_85 ?_
                refine lv_iconst (v := 1) hx hb dX3_takeLetters_88 (by decide) ?_
                refine lv_icmp_ne (tgt := 117) hx hb dX3_takeLetters_89 (by decide) (fun c => absurd c (by decide)) (fun _ => ?_)
                refine lv_aload_n hx hb dX3_takeLetters_92 rfl (lv_at hl 2 rfl) ?_
                refine va_get (D := (dC, dI)) (ci := 3) (v := .ref rR_keys) (C := RX3) (T := TX3) (N := 15) hx hb hts inX3 hown hK hP 0 rfl rfl 14 (by decide) (hts _ wd_48) (fun _ h9 => h9) rfl dX3_takeLetters_93 ?_
                refine lv_iload_n hx hb dX3_takeLetters_96 rfl (lv_at hl 0 rfl) ?_
                refine va_lald hx hb hK hP 2 1 rfl rfl (ti_in rfl hi0_n_1099.1 (om_f382d077 gc_1100)) dX3_takeLetters_97 ?_
                refine lv_topl (fun y_1102 ey_1102 => ?_)
                have hG := hG.trans (lt_eq ey_1102)
                refine lv_aload_n hx hb dX3_takeLetters_98 rfl (lv_at hl 2 rfl) ?_
                refine va_get (D := (dC, dI)) (ci := 3) (v := .long z_1087) (C := RX3) (T := TX3) (N := 15) hx hb hts inX3 hown hK hP 0 rfl rfl 8 (by decide) (hts _ wd_237) (fun _ h9 => h9) rfl dX3_takeLetters_99 ?_
                refine W.lcmp hx hb dX3_takeLetters_102 ?_
                refine lv_topi (fun x_1103 ex_1103 => ?_)
                have hG := hG.trans (lt_eq ex_1103)
                have rg_x_1103 := fb_rng x_1103
                refine lv_if_ne (tgt := 111) hx hb dX3_takeLetters_103 (by decide) (fun c_1104 => ?_) (fun c_1104 => ?_)
                · skip
                  have hG := hG.trans (if_neg c_1104)
                  have gc_1104 := ti_ne c_1104 rfl kc_0
                  obtain ⟨x_1105, ex_1105⟩ : ∃ z : Int32, z = z_1097 + Int32.ofInt 1 := ⟨_, rfl⟩
                  have hG := hG.trans (lt_eq ex_1105)
                  have vx_1105 : x_1105.toInt = z_1097.toInt + 1 := ti_add (y := 1) ex_1105 rfl kc_1 (om_4e4fce7e hi0_n_1099.1) (om_32850922 gc_1100)
                  refine lv_iinc (v := x_1105) (lv' := [(2, .int x_1105), (1, .int z_1086), (0, .ref oR)]) hx hb dX3_takeLetters_111 hl (k := 0) rfl ex_1105.symm (by decide) rfl (fun ls hl => ?_)
                  refine lv_goto (tgt := 78) hx hb dX3_takeLetters_114 (by decide) ?_
                  exact ih_n_1099 x_1105 z_1098 _ _ _  ⟨(om_83b90de5 hi0_n_1099.1 vx_1105), (om_facfc055 gc_1100 vx_1105)⟩ (ms_lt hm_n_1099 (om_b9393183 vx_1105) (om_10244f99 gc_1100)) hG hP hD hS (lv_sub hl [0, 1, 2] rfl)
                · skip
                  have hG := hG.trans (if_pos c_1104)
                  have gc_1104 := ti_eq c_1104 rfl kc_0
                  refine lv_aload_n hx hb dX3_takeLetters_106 rfl (lv_at hl 2 rfl) ?_
                  refine lv_iload_n hx hb dX3_takeLetters_107 rfl (lv_at hl 0 rfl) ?_
                  refine va_put (D := (dC, dI)) (ci := 3) (v := .int z_1097) (ty := .int) (C := RX3) (T := TX3) (N := 15) hx hb hts inX3 tyX3 tyX3_ok nmX3 hown hK hP hD hS 0 rfl rfl 9 (by decide) (hts _ wd_225) (fun _ h9 => h9) rfl (by decide +kernel) rfl rfl (Nat.le_of_ble_eq_true rfl) dX3_takeLetters_108 (fun H locs hP hD hS => ?_)
                  obtain ⟨hP, hD⟩ := wl2 (ws' := [(oc3 oR iR_faultNumber iR_faultPlace iR_tapeSize rR_tape iR_end 1 iR_tokenFrom z_1086 z_1087 z_1097 iR_tokenWhole oC iR_courtTold rR_names rR_keys), (arI rR_tape kR_tape 900 fR_tape), (arL rR_keys kR_keys 10 fR_keys)]) hP hD rfl
                  obtain ⟨x_1106, ex_1106⟩ : ∃ z : Int32, z = z_1097 + Int32.ofInt 1 := ⟨_, rfl⟩
                  have hG := hG.trans (lt_eq ex_1106)
                  have vx_1106 : x_1106.toInt = z_1097.toInt + 1 := ti_add (y := 1) ex_1106 rfl kc_1 (om_4e4fce7e hi0_n_1099.1) (om_32850922 gc_1100)
                  refine lv_iinc (v := x_1106) (lv' := [(2, .int x_1106), (1, .int z_1086), (0, .ref oR)]) hx hb dX3_takeLetters_111 hl (k := 0) rfl ex_1106.symm (by decide) rfl (fun ls hl => ?_)
                  refine lv_goto (tgt := 78) hx hb dX3_takeLetters_114 (by decide) ?_
                  exact ih_n_1099 x_1106 z_1097 _ _ _  ⟨(om_83b90de5 hi0_n_1099.1 vx_1106), (om_facfc055 gc_1100 vx_1106)⟩ (ms_lt hm_n_1099 (om_b9393183 vx_1106) (om_10244f99 gc_1100)) hG hP hD hS (lv_sub hl [0, 1, 2] rfl)
          exact key_n_1099 (((2147483647 - (0 : Int32).toInt).toNat) + 1) 0 iR_tokenKey _ _ _  ⟨(om_b1de7dbe kc_0), (om_daf17c64 kc_0)⟩ (Nat.lt_add_one _) hG hP hD hS hl
      · skip
        have hG := hG.trans (if_neg c_1089)
        have gc_1089 := ti_nle c_1089 rfl rfl
        refine lv_aload_n hx hb dX3_takeLetters_18 rfl (lv_at hl 1 rfl) ?_
        refine lv_iload_n hx hb dX3_takeLetters_19 rfl (lv_at hl 0 rfl) ?_
        have hMs := ml_of hD [true, true, false] (wc := [(oc3 oR iR_faultNumber iR_faultPlace iR_tapeSize rR_tape iR_end iR_tokenKind iR_tokenFrom iR_tokenTo z_1087 iR_tokenKey iR_tokenWhole oC iR_courtTold rR_names rR_keys), (arI rR_tape kR_tape 900 fR_tape)]) rfl
        have hFc := va_freeM hD hS hA _ hMs
        refine va_calli (va_runV (As := [.int z_1086]) (rest := []) ⟨hx, hb, hml, hown, hts⟩ (tX3_byteAt l dC dI _ oR iR_faultNumber iR_faultPlace iR_tapeSize rR_tape fR_tape kR_tape iR_end iR_tokenKind iR_tokenFrom iR_tokenTo z_1087 iR_tokenKey iR_tokenWhole oC iR_courtTold rR_names rR_keys z_1086 b_iR_tapeSize b_iR_courtTold) (cwV 1 hts (wd_V wd_226 wd_227 wd_228 wd_15 (wd_c wd_229)) rfl rfl rfl dv_yX3_byteAt_1 ⟨Nat.le_of_ble_eq_true rfl, Nat.le_of_ble_eq_true rfl⟩) ⟨Pw.fb, recvX3 hK hP (q0 := 0) rfl, fun U hU hW => Pw.to (hP.ms _ hMs) (hD.ms _ hMs) (hK.ms [true, false] rfl) hE hS hFc hU hW⟩ rfl rfl hl.1 rfl (lv_room (Nat.le_of_ble_eq_true rfl)) dX3_takeLetters_20 ⟨Nat.le_of_ble_eq_true rfl, Nat.le_of_ble_eq_true rfl⟩) hS (fun q _ h => hFc q h) hFc (fun r u t H locs ht hvm hw hB hz1 hk1 hS => ?_)
        have hru9 := hw.2
        have hw := hw.1
        obtain ⟨hP, hD⟩ := Bw.goN (ws' := [(oc3 oR iR_faultNumber iR_faultPlace iR_tapeSize rR_tape iR_end iR_tokenKind iR_tokenFrom iR_tokenTo z_1087 iR_tokenKey iR_tokenWhole oC iR_courtTold rR_names rR_keys), (arI rR_tape kR_tape 900 fR_tape), (arL rR_keys kR_keys 10 fR_keys)]) hB rfl ht hP hD _ hMs hk1 hFc rfl
        clear hz1 hk1 hvm ht hB hMs
        obtain ⟨x_1107, rfl⟩ : ∃ z, z = r := ⟨_, rfl⟩
        have hG := hG.trans (lt_eq hru9.symm)
        have rg_x_1107 := fb_rng x_1107
        have hFc : ∀ q, va_A [] _ q → A q := fun q h => hA q (Nat.le_trans hS.1 (va_nilA h))
        refine va_calli (va_runS (As := [.int x_1107]) (rest := []) ⟨hx, hb, hml, hown, hts⟩ (tX3_isLetter l dC dI _ x_1107 ) (va_cwS 1 hts (wd_S wd_230 wd_231 wd_15 (wd_c wd_232)) rfl rfl rfl ds_yX3_isLetter_1 ⟨Nat.le_of_ble_eq_true rfl, Nat.le_of_ble_eq_true rfl⟩) ⟨Pw.fb, fun U hU hW => Pn.to hK hE hS hA hU hW⟩ rfl rfl hl.1 rfl (lv_room (Nat.le_of_ble_eq_true rfl)) dX3_takeLetters_23 ⟨Nat.le_of_ble_eq_true rfl, Nat.le_of_ble_eq_true rfl⟩) hS (fun q _ h => hFc q h) hFc (fun r u t H locs ht hvm hw hB hz1 hk1 hS => ?_)
        obtain ⟨hP, hD, hK⟩ := Bw.same ht hvm hP hD hK hk1 hFc
        clear hz1 hk1 hvm ht hB
        have hq9 := hw.2
        have hw := hw.1
        obtain ⟨x_1108, rfl⟩ : ∃ z, z = r := ⟨_, rfl⟩
        have hq_x_1108 := hq9
        have hG := hG.trans (lt_eq hq_x_1108.symm)
        have rg_x_1108 := fb_rng x_1108
        have bx_1108 := hw.1
        have dx_1108 := bz_tb bx_1108
        refine lv_if_eq (tgt := 51) hx hb dX3_takeLetters_26 (by decide) (fun c_1109 => ?_) (fun c_1109 => ?_)
        · skip
          have hG := hG.trans (if_pos c_1109)
          have gc_1109 := ti_eq c_1109 rfl kc_0
          refine lv_aload_n hx hb dX3_takeLetters_51 rfl (lv_at hl 1 rfl) ?_
          refine lv_iload_n hx hb dX3_takeLetters_52 rfl (lv_at hl 0 rfl) ?_
          refine va_put (D := (dC, dI)) (ci := 3) (v := .int z_1086) (ty := .int) (C := RX3) (T := TX3) (N := 15) hx hb hts inX3 tyX3 tyX3_ok nmX3 hown hK hP hD hS 0 rfl rfl 7 (by decide) (hts _ wd_209) (fun _ h9 => h9) rfl (by decide +kernel) rfl rfl (Nat.le_of_ble_eq_true rfl) dX3_takeLetters_53 (fun H locs hP hD hS => ?_)
          obtain ⟨hP, hD⟩ := wl2 (ws' := [(oc3 oR iR_faultNumber iR_faultPlace iR_tapeSize rR_tape iR_end iR_tokenKind iR_tokenFrom z_1086 z_1087 iR_tokenKey iR_tokenWhole oC iR_courtTold rR_names rR_keys), (arI rR_tape kR_tape 900 fR_tape), (arL rR_keys kR_keys 10 fR_keys)]) hP hD rfl
          refine lv_aload_n hx hb dX3_takeLetters_56 rfl (lv_at hl 1 rfl) ?_
          refine lv_iload_n hx hb dX3_takeLetters_57 rfl (lv_at hl 0 rfl) ?_
          refine lv_aload_n hx hb dX3_takeLetters_58 rfl (lv_at hl 1 rfl) ?_
          refine va_get (D := (dC, dI)) (ci := 3) (v := .int iR_tokenFrom) (C := RX3) (T := TX3) (N := 15) hx hb hts inX3 hown hK hP 0 rfl rfl 6 (by decide) (hts _ wd_224) (fun _ h9 => h9) rfl dX3_takeLetters_59 ?_
          refine lv_isub hx hb dX3_takeLetters_62 ?_
          refine lv_topi (fun x_1110 ex_1110 => ?_)
          have hG := hG.trans (lt_eq ex_1110)
          have rg_x_1110 := fb_rng x_1110
          refine lv_bipush (v := 8) hx hb dX3_takeLetters_63 (by decide) ?_
          refine lv_icmp_gt (tgt := 72) hx hb dX3_takeLetters_65 (by decide) (fun c_1111 => ?_) (fun c_1111 => ?_)
          · skip
            have hG := hG.trans (if_pos c_1111)
            have gc_1111 := ti_lt c_1111 kc_8 rfl
            refine lv_iconst (v := 5) hx hb dX3_takeLetters_72 (by decide) ?_
            refine va_put (D := (dC, dI)) (ci := 3) (v := .int 5) (ty := .int) (C := RX3) (T := TX3) (N := 15) hx hb hts inX3 tyX3 tyX3_ok nmX3 hown hK hP hD hS 0 rfl rfl 5 (by decide) (hts _ wd_210) (fun _ h9 => h9) rfl (by decide +kernel) rfl rfl (Nat.le_of_ble_eq_true rfl) dX3_takeLetters_73 (fun H locs hP hD hS => ?_)
            obtain ⟨hP, hD⟩ := wl2 (ws' := [(oc3 oR iR_faultNumber iR_faultPlace iR_tapeSize rR_tape iR_end 5 iR_tokenFrom z_1086 z_1087 iR_tokenKey iR_tokenWhole oC iR_courtTold rR_names rR_keys), (arI rR_tape kR_tape 900 fR_tape), (arL rR_keys kR_keys 10 fR_keys)]) hP hD rfl
            refine lv_iconst (v := 0) hx hb dX3_takeLetters_76 (by decide) ?_
            refine lv_istore_n (lv' := [(2, .int 0), (1, .int z_1086), (0, .ref oR)]) hx hb dX3_takeLetters_77 rfl hl (by decide) rfl (fun ls hl => ?_)
            have hl := lv_sub hl (l' := [(2, .int 0), (1, .int z_1086), (0, .ref oR)]) [0, 1, 2] rfl
            have key_n_1114 : ∀ (n_1114 : Nat) (z_1112 : Int32) (z_1113 : Int32) (H : Heap) (locs : List Loc) (ls : Array Slot), (0 ≤ z_1112.toInt ∧ z_1112.toInt ≤ 2147483647) → (2147483647 - z_1112.toInt).toNat < n_1114 → (PX3_takeLetters fR_tape iR_end iR_tokenFrom iR_tokenKey fR_keys = HX3_takeLetters_1 z_1086 z_1087 n_1114 z_1112 z_1113) → va_P (dC, dI) vwCl [(oc3 oR iR_faultNumber iR_faultPlace iR_tapeSize rR_tape iR_end 5 iR_tokenFrom z_1086 z_1087 z_1113 iR_tokenWhole oC iR_courtTold rR_names rR_keys), (arI rR_tape kR_tape 900 fR_tape), (arL rR_keys kR_keys 10 fR_keys)] H → va_D A [(oc3 oR iR_faultNumber iR_faultPlace iR_tapeSize rR_tape iR_end 5 iR_tokenFrom z_1086 z_1087 z_1113 iR_tokenWhole oC iR_courtTold rR_names rR_keys), (arI rR_tape kR_tape 900 fR_tape), (arL rR_keys kR_keys 10 fR_keys)] → va_S A s.heap H locs → lv_has ls 3 [(2, .int z_1112), (1, .int z_1086), (0, .ref oR)] → W p l e (headSpec (Cond.code yX3_takeLetters cX3_takeLetters 3 none :: wG) ({ frames := 1, cells := 0, slots := 0, locals := 22 })).room s m ([.ref oR] : List Value).toArray below meth c H locs 0 0 (MQ below (va_Qv (fun (_ : Nat) => True) (fun (_ : Nat) (t : State) => ∃ (niR_tokenKind : Int32) (niR_tokenTo : Int32) (niR_tokenName : Int64) (niR_tokenKey : Int32), (1 ≤ niR_tokenKind.toInt ∧ niR_tokenKind.toInt ≤ 5) ∧ (PX3_takeLetters fR_tape iR_end iR_tokenFrom iR_tokenKey fR_keys = (niR_tokenKind, niR_tokenTo, niR_tokenName, niR_tokenKey)) ∧ Bw dC dI A [(oc3 oR iR_faultNumber iR_faultPlace iR_tapeSize rR_tape iR_end niR_tokenKind iR_tokenFrom niR_tokenTo niR_tokenName niR_tokenKey iR_tokenWhole oC iR_courtTold rR_names rR_keys), (arI rR_tape kR_tape 900 fR_tape), (arL rR_keys kR_keys 10 fR_keys)] [(kR_tape, .byte), (kR_keys, .long)] t) A) ([.ref oR] : List Value).toArray s 0 0 A) (F0 m 78 ls []) := by
              intro n_1114
              induction n_1114 with
              | zero => intro z_1112 z_1113 H locs ls hi0_n_1114 hm; exact absurd hm (Nat.not_lt_zero _)
              | succ n_1114 ih_n_1114 =>
                intro z_1112 z_1113 H locs ls hi0_n_1114 hm_n_1114 hG hP hD hS hl
                have hG := hG.trans (HX3_takeLetters_1_eq _ _ _ _ _)
                have rg_z_1112 := fb_rng z_1112
                have rg_z_1113 := fb_rng z_1113
                refine lv_iload_n hx hb dX3_takeLetters_78 rfl (lv_at hl 0 rfl) ?_
                refine lv_bipush (v := 10) hx hb dX3_takeLetters_79 (by decide) ?_
                refine lv_icmp_ge (tgt := 117) hx hb dX3_takeLetters_81 (by decide) (fun c_1115 => ?_) (fun c_1115 => ?_)
                · skip
                  have hG := hG.trans (if_pos c_1115)
                  have gc_1115 := ti_le c_1115 kc_10 rfl
                  exact wq_v hx hb hr 0 trivial (fun t ht hW => ⟨5, z_1086, z_1087, z_1113, (by decide), hG, Bw.to hP hD hK ht hW⟩) hS dX3_takeLetters_117 hlocks
                · skip
                  have hG := hG.trans (if_neg c_1115)
                  have gc_1115 := ti_nle c_1115 kc_10 rfl
                  refine lv_aload_n hx hb dX3_takeLetters_84 rfl (lv_at hl 2 rfl) ?_
                  refine va_get (D := (dC, dI)) (ci := 3) (v := .int 5) (C := RX3) (T := TX3) (N := 15) hx hb hts inX3 hown hK hP 0 rfl rfl 5 (by decide) (hts _ wd_210) (fun _ h9 => h9) rfl dX3_takeLetters_85 ?_
                  refine lv_iconst (v := 1) hx hb dX3_takeLetters_88 (by decide) ?_
                  refine lv_icmp_ne (tgt := 117) hx hb dX3_takeLetters_89 (by decide) (fun _ => ?_) (fun c => absurd c (by decide))
                  exact wq_v hx hb hr 0 trivial (fun t ht hW => ⟨5, z_1086, z_1087, z_1113, (by decide), hG, Bw.to hP hD hK ht hW⟩) hS dX3_takeLetters_117 hlocks
            exact key_n_1114 (((2147483647 - (0 : Int32).toInt).toNat) + 1) 0 iR_tokenKey _ _ _  ⟨(om_b1de7dbe kc_0), (om_daf17c64 kc_0)⟩ (Nat.lt_add_one _) hG hP hD hS hl
          · skip
            have hG := hG.trans (if_neg c_1111)
            have gc_1111 := ti_nlt c_1111 kc_8 rfl
            refine lv_iconst (v := 1) hx hb dX3_takeLetters_68 (by decide) ?_
            refine lv_goto (tgt := 73) hx hb dX3_takeLetters_69 (by decide) ?_
            refine va_put (D := (dC, dI)) (ci := 3) (v := .int 1) (ty := .int) (C := RX3) (T := TX3) (N := 15) hx hb hts inX3 tyX3 tyX3_ok nmX3 hown hK hP hD hS 0 rfl rfl 5 (by decide) (hts _ wd_210) (fun _ h9 => h9) rfl (by decide +kernel) rfl rfl (Nat.le_of_ble_eq_true rfl) dX3_takeLetters_73 (fun H locs hP hD hS => ?_)
            obtain ⟨hP, hD⟩ := wl2 (ws' := [(oc3 oR iR_faultNumber iR_faultPlace iR_tapeSize rR_tape iR_end 1 iR_tokenFrom z_1086 z_1087 iR_tokenKey iR_tokenWhole oC iR_courtTold rR_names rR_keys), (arI rR_tape kR_tape 900 fR_tape), (arL rR_keys kR_keys 10 fR_keys)]) hP hD rfl
            refine lv_iconst (v := 0) hx hb dX3_takeLetters_76 (by decide) ?_
            refine lv_istore_n (lv' := [(2, .int 0), (1, .int z_1086), (0, .ref oR)]) hx hb dX3_takeLetters_77 rfl hl (by decide) rfl (fun ls hl => ?_)
            have hl := lv_sub hl (l' := [(2, .int 0), (1, .int z_1086), (0, .ref oR)]) [0, 1, 2] rfl
            have key_n_1119 : ∀ (n_1119 : Nat) (z_1117 : Int32) (z_1118 : Int32) (H : Heap) (locs : List Loc) (ls : Array Slot), (0 ≤ z_1117.toInt ∧ z_1117.toInt ≤ 2147483647) → (2147483647 - z_1117.toInt).toNat < n_1119 → (PX3_takeLetters fR_tape iR_end iR_tokenFrom iR_tokenKey fR_keys = HX3_takeLetters_2 fR_keys z_1086 z_1087 n_1119 z_1117 z_1118) → va_P (dC, dI) vwCl [(oc3 oR iR_faultNumber iR_faultPlace iR_tapeSize rR_tape iR_end 1 iR_tokenFrom z_1086 z_1087 z_1118 iR_tokenWhole oC iR_courtTold rR_names rR_keys), (arI rR_tape kR_tape 900 fR_tape), (arL rR_keys kR_keys 10 fR_keys)] H → va_D A [(oc3 oR iR_faultNumber iR_faultPlace iR_tapeSize rR_tape iR_end 1 iR_tokenFrom z_1086 z_1087 z_1118 iR_tokenWhole oC iR_courtTold rR_names rR_keys), (arI rR_tape kR_tape 900 fR_tape), (arL rR_keys kR_keys 10 fR_keys)] → va_S A s.heap H locs → lv_has ls 3 [(2, .int z_1117), (1, .int z_1086), (0, .ref oR)] → W p l e (headSpec (Cond.code yX3_takeLetters cX3_takeLetters 3 none :: wG) ({ frames := 1, cells := 0, slots := 0, locals := 22 })).room s m ([.ref oR] : List Value).toArray below meth c H locs 0 0 (MQ below (va_Qv (fun (_ : Nat) => True) (fun (_ : Nat) (t : State) => ∃ (niR_tokenKind : Int32) (niR_tokenTo : Int32) (niR_tokenName : Int64) (niR_tokenKey : Int32), (1 ≤ niR_tokenKind.toInt ∧ niR_tokenKind.toInt ≤ 5) ∧ (PX3_takeLetters fR_tape iR_end iR_tokenFrom iR_tokenKey fR_keys = (niR_tokenKind, niR_tokenTo, niR_tokenName, niR_tokenKey)) ∧ Bw dC dI A [(oc3 oR iR_faultNumber iR_faultPlace iR_tapeSize rR_tape iR_end niR_tokenKind iR_tokenFrom niR_tokenTo niR_tokenName niR_tokenKey iR_tokenWhole oC iR_courtTold rR_names rR_keys), (arI rR_tape kR_tape 900 fR_tape), (arL rR_keys kR_keys 10 fR_keys)] [(kR_tape, .byte), (kR_keys, .long)] t) A) ([.ref oR] : List Value).toArray s 0 0 A) (F0 m 78 ls []) := by
              intro n_1119
              induction n_1119 with
              | zero => intro z_1117 z_1118 H locs ls hi0_n_1119 hm; exact absurd hm (Nat.not_lt_zero _)
              | succ n_1119 ih_n_1119 =>
                intro z_1117 z_1118 H locs ls hi0_n_1119 hm_n_1119 hG hP hD hS hl
                have hG := hG.trans (HX3_takeLetters_2_eq _ _ _ _ _ _)
                have rg_z_1117 := fb_rng z_1117
                have rg_z_1118 := fb_rng z_1118
                refine lv_iload_n hx hb dX3_takeLetters_78 rfl (lv_at hl 0 rfl) ?_
                refine lv_bipush (v := 10) hx hb dX3_takeLetters_79 (by decide) ?_
                refine lv_icmp_ge (tgt := 117) hx hb dX3_takeLetters_81 (by decide) (fun c_1120 => ?_) (fun c_1120 => ?_)
                · skip
                  have hG := hG.trans (if_pos c_1120)
                  have gc_1120 := ti_le c_1120 kc_10 rfl
                  exact wq_v hx hb hr 0 trivial (fun t ht hW => ⟨1, z_1086, z_1087, z_1118, (by decide), hG, Bw.to hP hD hK ht hW⟩) hS dX3_takeLetters_117 hlocks
                · skip
                  have hG := hG.trans (if_neg c_1120)
                  have gc_1120 := ti_nle c_1120 kc_10 rfl
                  refine lv_aload_n hx hb dX3_takeLetters_84 rfl (lv_at hl 2 rfl) ?_
                  refine va_get (D := (dC, dI)) (ci := 3) (v := .int 1) (C := RX3) (T := TX3) (N := 15) hx hb hts inX3 hown hK hP 0 rfl rfl 5 (by decide) (hts _ wd_210) (fun _ h9 => h9) rfl dX3_takeLetters_85 ?_
                  refine lv_iconst (v := 1) hx hb dX3_takeLetters_88 (by decide) ?_
                  refine lv_icmp_ne (tgt := 117) hx hb dX3_takeLetters_89 (by decide) (fun c => absurd c (by decide)) (fun _ => ?_)
                  refine lv_aload_n hx hb dX3_takeLetters_92 rfl (lv_at hl 2 rfl) ?_
                  refine va_get (D := (dC, dI)) (ci := 3) (v := .ref rR_keys) (C := RX3) (T := TX3) (N := 15) hx hb hts inX3 hown hK hP 0 rfl rfl 14 (by decide) (hts _ wd_48) (fun _ h9 => h9) rfl dX3_takeLetters_93 ?_
                  refine lv_iload_n hx hb dX3_takeLetters_96 rfl (lv_at hl 0 rfl) ?_
                  refine va_lald hx hb hK hP 2 1 rfl rfl (ti_in rfl hi0_n_1119.1 (om_f382d077 gc_1120)) dX3_takeLetters_97 ?_
                  refine lv_topl (fun y_1122 ey_1122 => ?_)
                  have hG := hG.trans (lt_eq ey_1122)
                  refine lv_aload_n hx hb dX3_takeLetters_98 rfl (lv_at hl 2 rfl) ?_
                  refine va_get (D := (dC, dI)) (ci := 3) (v := .long z_1087) (C := RX3) (T := TX3) (N := 15) hx hb hts inX3 hown hK hP 0 rfl rfl 8 (by decide) (hts _ wd_237) (fun _ h9 => h9) rfl dX3_takeLetters_99 ?_
                  refine W.lcmp hx hb dX3_takeLetters_102 ?_
                  refine lv_topi (fun x_1123 ex_1123 => ?_)
                  have hG := hG.trans (lt_eq ex_1123)
                  have rg_x_1123 := fb_rng x_1123
                  refine lv_if_ne (tgt := 111) hx hb dX3_takeLetters_103 (by decide) (fun c_1124 => ?_) (fun c_1124 => ?_)
                  · skip
                    have hG := hG.trans (if_neg c_1124)
                    have gc_1124 := ti_ne c_1124 rfl kc_0
                    obtain ⟨x_1125, ex_1125⟩ : ∃ z : Int32, z = z_1117 + Int32.ofInt 1 := ⟨_, rfl⟩
                    have hG := hG.trans (lt_eq ex_1125)
                    have vx_1125 : x_1125.toInt = z_1117.toInt + 1 := ti_add (y := 1) ex_1125 rfl kc_1 (om_4e4fce7e hi0_n_1119.1) (om_32850922 gc_1120)
                    refine lv_iinc (v := x_1125) (lv' := [(2, .int x_1125), (1, .int z_1086), (0, .ref oR)]) hx hb dX3_takeLetters_111 hl (k := 0) rfl ex_1125.symm (by decide) rfl (fun ls hl => ?_)
                    refine lv_goto (tgt := 78) hx hb dX3_takeLetters_114 (by decide) ?_
                    exact ih_n_1119 x_1125 z_1118 _ _ _  ⟨(om_83b90de5 hi0_n_1119.1 vx_1125), (om_facfc055 gc_1120 vx_1125)⟩ (ms_lt hm_n_1119 (om_b9393183 vx_1125) (om_10244f99 gc_1120)) hG hP hD hS (lv_sub hl [0, 1, 2] rfl)
                  · skip
                    have hG := hG.trans (if_pos c_1124)
                    have gc_1124 := ti_eq c_1124 rfl kc_0
                    refine lv_aload_n hx hb dX3_takeLetters_106 rfl (lv_at hl 2 rfl) ?_
                    refine lv_iload_n hx hb dX3_takeLetters_107 rfl (lv_at hl 0 rfl) ?_
                    refine va_put (D := (dC, dI)) (ci := 3) (v := .int z_1117) (ty := .int) (C := RX3) (T := TX3) (N := 15) hx hb hts inX3 tyX3 tyX3_ok nmX3 hown hK hP hD hS 0 rfl rfl 9 (by decide) (hts _ wd_225) (fun _ h9 => h9) rfl (by decide +kernel) rfl rfl (Nat.le_of_ble_eq_true rfl) dX3_takeLetters_108 (fun H locs hP hD hS => ?_)
                    obtain ⟨hP, hD⟩ := wl2 (ws' := [(oc3 oR iR_faultNumber iR_faultPlace iR_tapeSize rR_tape iR_end 1 iR_tokenFrom z_1086 z_1087 z_1117 iR_tokenWhole oC iR_courtTold rR_names rR_keys), (arI rR_tape kR_tape 900 fR_tape), (arL rR_keys kR_keys 10 fR_keys)]) hP hD rfl
                    obtain ⟨x_1126, ex_1126⟩ : ∃ z : Int32, z = z_1117 + Int32.ofInt 1 := ⟨_, rfl⟩
                    have hG := hG.trans (lt_eq ex_1126)
                    have vx_1126 : x_1126.toInt = z_1117.toInt + 1 := ti_add (y := 1) ex_1126 rfl kc_1 (om_4e4fce7e hi0_n_1119.1) (om_32850922 gc_1120)
                    refine lv_iinc (v := x_1126) (lv' := [(2, .int x_1126), (1, .int z_1086), (0, .ref oR)]) hx hb dX3_takeLetters_111 hl (k := 0) rfl ex_1126.symm (by decide) rfl (fun ls hl => ?_)
                    refine lv_goto (tgt := 78) hx hb dX3_takeLetters_114 (by decide) ?_
                    exact ih_n_1119 x_1126 z_1117 _ _ _  ⟨(om_83b90de5 hi0_n_1119.1 vx_1126), (om_facfc055 gc_1120 vx_1126)⟩ (ms_lt hm_n_1119 (om_b9393183 vx_1126) (om_10244f99 gc_1120)) hG hP hD hS (lv_sub hl [0, 1, 2] rfl)
            exact key_n_1119 (((2147483647 - (0 : Int32).toInt).toNat) + 1) 0 iR_tokenKey _ _ _  ⟨(om_b1de7dbe kc_0), (om_daf17c64 kc_0)⟩ (Nat.lt_add_one _) hG hP hD hS hl
        · skip
          have hG := hG.trans (if_neg c_1109)
          have gc_1109 := ti_ne c_1109 rfl kc_0
          refine lv_aload_n hx hb dX3_takeLetters_29 rfl (lv_at hl 1 rfl) ?_
          refine lv_aload_n hx hb dX3_takeLetters_30 rfl (lv_at hl 1 rfl) ?_
          refine va_get (D := (dC, dI)) (ci := 3) (v := .long z_1087) (C := RX3) (T := TX3) (N := 15) hx hb hts inX3 hown hK hP 0 rfl rfl 8 (by decide) (hts _ wd_237) (fun _ h9 => h9) rfl dX3_takeLetters_31 ?_
          refine lv_aload_n hx hb dX3_takeLetters_34 rfl (lv_at hl 1 rfl) ?_
          refine lv_iload_n hx hb dX3_takeLetters_35 rfl (lv_at hl 0 rfl) ?_
          have hMs := ml_of hD [true, true, false] (wc := [(oc3 oR iR_faultNumber iR_faultPlace iR_tapeSize rR_tape iR_end iR_tokenKind iR_tokenFrom iR_tokenTo z_1087 iR_tokenKey iR_tokenWhole oC iR_courtTold rR_names rR_keys), (arI rR_tape kR_tape 900 fR_tape)]) rfl
          have hFc := va_freeM hD hS hA _ hMs
          refine va_calli (va_runV (As := [.int z_1086]) (rest := [.long z_1087, .ref oR]) ⟨hx, hb, hml, hown, hts⟩ (tX3_byteAt l dC dI _ oR iR_faultNumber iR_faultPlace iR_tapeSize rR_tape fR_tape kR_tape iR_end iR_tokenKind iR_tokenFrom iR_tokenTo z_1087 iR_tokenKey iR_tokenWhole oC iR_courtTold rR_names rR_keys z_1086 b_iR_tapeSize b_iR_courtTold) (cwV 1 hts (wd_V wd_226 wd_227 wd_228 wd_15 (wd_c wd_229)) rfl rfl rfl dv_yX3_byteAt_1 ⟨Nat.le_of_ble_eq_true rfl, Nat.le_of_ble_eq_true rfl⟩) ⟨Pw.fb, recvX3 hK hP (q0 := 0) rfl, fun U hU hW => Pw.to (hP.ms _ hMs) (hD.ms _ hMs) (hK.ms [true, false] rfl) hE hS hFc hU hW⟩ rfl rfl hl.1 rfl (lv_room (Nat.le_of_ble_eq_true rfl)) dX3_takeLetters_36 ⟨Nat.le_of_ble_eq_true rfl, Nat.le_of_ble_eq_true rfl⟩) hS (fun q _ h => hFc q h) hFc (fun r u t H locs ht hvm hw hB hz1 hk1 hS => ?_)
          have hru9 := hw.2
          have hw := hw.1
          obtain ⟨hP, hD⟩ := Bw.goN (ws' := [(oc3 oR iR_faultNumber iR_faultPlace iR_tapeSize rR_tape iR_end iR_tokenKind iR_tokenFrom iR_tokenTo z_1087 iR_tokenKey iR_tokenWhole oC iR_courtTold rR_names rR_keys), (arI rR_tape kR_tape 900 fR_tape), (arL rR_keys kR_keys 10 fR_keys)]) hB rfl ht hP hD _ hMs hk1 hFc rfl
          clear hz1 hk1 hvm ht hB hMs
          obtain ⟨x_1127, rfl⟩ : ∃ z, z = r := ⟨_, rfl⟩
          have hG := hG.trans (lt_eq hru9.symm)
          have rg_x_1127 := fb_rng x_1127
          have hFc : ∀ q, va_A [] _ q → A q := fun q h => hA q (Nat.le_trans hS.1 (va_nilA h))
          refine va_calll (va_runS (As := [.long z_1087, .int x_1127]) (rest := [.ref oR]) ⟨hx, hb, hml, hown, hts⟩ (tX3_withLetter l dC dI _ z_1087 x_1127 ) (va_cwS 2 hts (wd_S wd_120 wd_121 wd_15 (wd_c wd_122)) rfl rfl rfl ds_yX3_withLetter_2 ⟨Nat.le_of_ble_eq_true rfl, Nat.le_of_ble_eq_true rfl⟩) ⟨Pw.fb, fun U hU hW => Pn.to hK hE hS hA hU hW⟩ rfl rfl hl.1 rfl (lv_room (Nat.le_of_ble_eq_true rfl)) dX3_takeLetters_39 ⟨Nat.le_of_ble_eq_true rfl, Nat.le_of_ble_eq_true rfl⟩) hS (fun q _ h => hFc q h) hFc (fun r u t H locs ht hvm hw hB hz1 hk1 hS => ?_)
          obtain ⟨hP, hD, hK⟩ := Bw.same ht hvm hP hD hK hk1 hFc
          clear hz1 hk1 hvm ht hB
          have hq9 := hw.2
          have hw := hw.1
          obtain ⟨y_1128, rfl⟩ : ∃ z, z = r := ⟨_, rfl⟩
          have hq_y_1128 := hq9
          have hG := hG.trans (lt_eq hq_y_1128.symm)
          refine va_put (D := (dC, dI)) (ci := 3) (v := .long y_1128) (ty := .long) (C := RX3) (T := TX3) (N := 15) hx hb hts inX3 tyX3 tyX3_ok nmX3 hown hK hP hD hS 0 rfl rfl 8 (by decide) (hts _ wd_237) (fun _ h9 => h9) rfl (by decide +kernel) rfl rfl (Nat.le_of_ble_eq_true rfl) dX3_takeLetters_42 (fun H locs hP hD hS => ?_)
          obtain ⟨hP, hD⟩ := wl2 (ws' := [(oc3 oR iR_faultNumber iR_faultPlace iR_tapeSize rR_tape iR_end iR_tokenKind iR_tokenFrom iR_tokenTo y_1128 iR_tokenKey iR_tokenWhole oC iR_courtTold rR_names rR_keys), (arI rR_tape kR_tape 900 fR_tape), (arL rR_keys kR_keys 10 fR_keys)]) hP hD rfl
          obtain ⟨x_1129, ex_1129⟩ : ∃ z : Int32, z = z_1086 + Int32.ofInt 1 := ⟨_, rfl⟩
          have hG := hG.trans (lt_eq ex_1129)
          have vx_1129 : x_1129.toInt = z_1086.toInt + 1 := ti_add (y := 1) ex_1129 rfl kc_1 (om_f7d4aae6 hi0_n_1088.1) (om_219cd8d8 rg_iR_end.2 gc_1089)
          refine lv_iinc (v := x_1129) (lv' := [(1, .int x_1129), (0, .ref oR)]) hx hb dX3_takeLetters_45 hl (k := 0) rfl ex_1129.symm (by decide) rfl (fun ls hl => ?_)
          refine lv_goto (tgt := 10) hx hb dX3_takeLetters_48 (by decide) ?_
          exact ih_n_1088 x_1129 y_1128 _ _ _  ⟨(om_ecc37d4d hi0_n_1088.1 vx_1129), (om_5c6bfac3 rg_iR_end.2 gc_1089 vx_1129)⟩ (ms_lt hm_n_1088 (om_b9393183 vx_1129) (om_bc4d5040 rg_iR_end.2 gc_1089)) hG hP hD hS (lv_sub hl [0, 1] rfl)
  exact key_n_1088 (((2147483647 - iR_tokenFrom.toInt).toNat) + 1) iR_tokenFrom 0 _ _ _  ⟨(om_341146a3 rg_iR_tokenFrom.1), (om_5a94aa53 rg_iR_tokenFrom.2)⟩ (Nat.lt_add_one _) hG hP hD hS hl
set_option maxHeartbeats 4000000 in
set_option maxRecDepth 100000 in
theorem tX3_takeDigits (l : Launch) (dC : Nat → ClassId) (dI : Nat → Nat → Nat) (sz : Nat) (oR : Nat) (iR_faultNumber : Int32) (iR_faultPlace : Int32) (iR_tapeSize : Int32) (rR_tape : Nat) (fR_tape : Nat → Int32) (kR_tape : ClassId) (iR_end : Int32) (iR_tokenKind : Int32) (iR_tokenFrom : Int32) (iR_tokenTo : Int32) (iR_tokenName : Int64) (iR_tokenKey : Int32) (iR_tokenWhole : Int32) (oC : Nat) (iR_courtTold : Int32) (rR_names : Nat) (rR_keys : Nat) (b_iR_tapeSize : 0 ≤ iR_tapeSize.toInt ∧ iR_tapeSize.toInt ≤ 900) (b_iR_courtTold : 0 ≤ iR_courtTold.toInt ∧ iR_courtTold.toInt ≤ 1)  : Met l yX3_takeDigits (Cond.code yX3_takeDigits cX3_takeDigits 2 none :: wG) ({ frames := 1, cells := 0, slots := 0, locals := 21 }) (va_Pc [.ref oR] (Pw dC dI sz [(oc3 oR iR_faultNumber iR_faultPlace iR_tapeSize rR_tape iR_end iR_tokenKind iR_tokenFrom iR_tokenTo iR_tokenName iR_tokenKey iR_tokenWhole oC iR_courtTold rR_names rR_keys), (arI rR_tape kR_tape 900 fR_tape)] [(kR_tape, .byte)])) (va_Qv (fun (_ : Nat) => True) (fun (_ : Nat) (t : State) => ∃ (niR_tokenKind : Int32) (niR_tokenTo : Int32) (niR_tokenWhole : Int32), (2 ≤ niR_tokenKind.toInt ∧ niR_tokenKind.toInt ≤ 5) ∧ (PX3_takeDigits fR_tape iR_end iR_tokenFrom = (niR_tokenKind, niR_tokenTo, niR_tokenWhole)) ∧ Bw dC dI (va_A [(oc3 oR iR_faultNumber iR_faultPlace iR_tapeSize rR_tape iR_end iR_tokenKind iR_tokenFrom iR_tokenTo iR_tokenName iR_tokenKey iR_tokenWhole oC iR_courtTold rR_names rR_keys), (arI rR_tape kR_tape 900 fR_tape)] sz) [(oc3 oR iR_faultNumber iR_faultPlace iR_tapeSize rR_tape iR_end niR_tokenKind iR_tokenFrom niR_tokenTo iR_tokenName iR_tokenKey niR_tokenWhole oC iR_courtTold rR_names rR_keys), (arI rR_tape kR_tape 900 fR_tape)] [(kR_tape, .byte)] t) (va_A [(oc3 oR iR_faultNumber iR_faultPlace iR_tapeSize rR_tape iR_end iR_tokenKind iR_tokenFrom iR_tokenTo iR_tokenName iR_tokenKey iR_tokenWhole oC iR_courtTold rR_names rR_keys), (arI rR_tape kR_tape 900 fR_tape)] sz)) 0 0 (va_A [(oc3 oR iR_faultNumber iR_faultPlace iR_tapeSize rR_tape iR_end iR_tokenKind iR_tokenFrom iR_tokenTo iR_tokenName iR_tokenKey iR_tokenWhole oC iR_courtTold rR_names rR_keys), (arI rR_tape kR_tape 900 fR_tape)] sz) := by
  refine Met.ofW (cc := cX3_takeDigits) (maxL := 2) (ret := none) pnX3 rfl ?_
  intro p e s m args below meth c s₁ B hml hv
  obtain ⟨rfl, hsz, hP, hK, hD0, hE⟩ := hv
  have hx := B.exec
  have hb := B.bytes
  have hr := B.returns
  have hts : ∀ w ∈ wG, w.before ([.ref oR] : List Value).toArray s = true := fun w h => atoms_spec (ws := Cond.code yX3_takeDigits cX3_takeDigits 2 none :: wG) B.pre w (List.mem_cons_of_mem _ h)
  have hown : s.vm.findClass RX3 = some m.cls := own_of B.named rfl
  have hlocks := B.notSynchronized
  subst hsz
  have hD := hD0.self (sz := s.heap.size)
  generalize hAe : va_A [(oc3 oR iR_faultNumber iR_faultPlace iR_tapeSize rR_tape iR_end iR_tokenKind iR_tokenFrom iR_tokenTo iR_tokenName iR_tokenKey iR_tokenWhole oC iR_courtTold rR_names rR_keys), (arI rR_tape kR_tape 900 fR_tape)] s.heap.size = A at hD hE ⊢
  have hA : ∀ q : Nat, s.heap.size ≤ q → A q := fun q h => by rw [← hAe]; exact Or.inr h
  have hS : va_S A s.heap s.heap [] := va_S.rf
  have hl := lv_entry ([.ref oR]) (n := 2) (Nat.le_of_ble_eq_true rfl)
  rw [lg_entry_eq]
  generalize (lg_sl ([.ref oR]) ++ List.replicate (2 - (lg_sl ([.ref oR])).length) Slot.unset).toArray = ls at hl ⊢
  have hl : lv_has ls 2 [(0, .ref oR)] := hl
  have hG := PX3_takeDigits_eq fR_tape iR_end iR_tokenFrom
  refine lv_aload_n hx hb dX3_takeDigits_0 rfl (lv_at hl 0 rfl) ?_
  refine va_get (D := (dC, dI)) (ci := 3) (v := .int iR_tokenFrom) (C := RX3) (T := TX3) (N := 15) hx hb hts inX3 hown hK hP 0 rfl rfl 6 (by decide) (hts _ wd_224) (fun _ h9 => h9) rfl dX3_takeDigits_1 ?_
  have rg_iR_tokenFrom := fb_rng iR_tokenFrom
  refine lv_istore_n (lv' := [(1, .int iR_tokenFrom), (0, .ref oR)]) hx hb dX3_takeDigits_4 rfl hl (by decide) rfl (fun ls hl => ?_)
  refine lv_aload_n hx hb dX3_takeDigits_5 rfl (lv_at hl 1 rfl) ?_
  refine lv_iconst (v := 0) hx hb dX3_takeDigits_6 (by decide) ?_
  refine va_put (D := (dC, dI)) (ci := 3) (v := .int 0) (ty := .int) (C := RX3) (T := TX3) (N := 15) hx hb hts inX3 tyX3 tyX3_ok nmX3 hown hK hP hD hS 0 rfl rfl 10 (by decide) (hts _ wd_245) (fun _ h9 => h9) rfl (by decide +kernel) rfl rfl (Nat.le_of_ble_eq_true rfl) dX3_takeDigits_7 (fun H locs hP hD hS => ?_)
  obtain ⟨hP, hD⟩ := wl2 (ws' := [(oc3 oR iR_faultNumber iR_faultPlace iR_tapeSize rR_tape iR_end iR_tokenKind iR_tokenFrom iR_tokenTo iR_tokenName iR_tokenKey 0 oC iR_courtTold rR_names rR_keys), (arI rR_tape kR_tape 900 fR_tape)]) hP hD rfl
  have hl := lv_sub hl (l' := [(1, .int iR_tokenFrom), (0, .ref oR)]) [0, 1] rfl
  have key_n_1163 : ∀ (n_1163 : Nat) (z_1161 : Int32) (z_1162 : Int32) (H : Heap) (locs : List Loc) (ls : Array Slot), ((-2147483648) ≤ z_1161.toInt ∧ z_1161.toInt ≤ 2147483647) → (2147483647 - z_1161.toInt).toNat < n_1163 → (PX3_takeDigits fR_tape iR_end iR_tokenFrom = HX3_takeDigits_0 fR_tape iR_end iR_tokenFrom n_1163 z_1161 z_1162) → va_P (dC, dI) vwCl [(oc3 oR iR_faultNumber iR_faultPlace iR_tapeSize rR_tape iR_end iR_tokenKind iR_tokenFrom iR_tokenTo iR_tokenName iR_tokenKey z_1162 oC iR_courtTold rR_names rR_keys), (arI rR_tape kR_tape 900 fR_tape)] H → va_D A [(oc3 oR iR_faultNumber iR_faultPlace iR_tapeSize rR_tape iR_end iR_tokenKind iR_tokenFrom iR_tokenTo iR_tokenName iR_tokenKey z_1162 oC iR_courtTold rR_names rR_keys), (arI rR_tape kR_tape 900 fR_tape)] → va_S A s.heap H locs → lv_has ls 2 [(1, .int z_1161), (0, .ref oR)] → W p l e (headSpec (Cond.code yX3_takeDigits cX3_takeDigits 2 none :: wG) ({ frames := 1, cells := 0, slots := 0, locals := 21 })).room s m ([.ref oR] : List Value).toArray below meth c H locs 0 0 (MQ below (va_Qv (fun (_ : Nat) => True) (fun (_ : Nat) (t : State) => ∃ (niR_tokenKind : Int32) (niR_tokenTo : Int32) (niR_tokenWhole : Int32), (2 ≤ niR_tokenKind.toInt ∧ niR_tokenKind.toInt ≤ 5) ∧ (PX3_takeDigits fR_tape iR_end iR_tokenFrom = (niR_tokenKind, niR_tokenTo, niR_tokenWhole)) ∧ Bw dC dI A [(oc3 oR iR_faultNumber iR_faultPlace iR_tapeSize rR_tape iR_end niR_tokenKind iR_tokenFrom niR_tokenTo iR_tokenName iR_tokenKey niR_tokenWhole oC iR_courtTold rR_names rR_keys), (arI rR_tape kR_tape 900 fR_tape)] [(kR_tape, .byte)] t) A) ([.ref oR] : List Value).toArray s 0 0 A) (F0 m 10 ls []) := by
    intro n_1163
    induction n_1163 with
    | zero => intro z_1161 z_1162 H locs ls hi0_n_1163 hm; exact absurd hm (Nat.not_lt_zero _)
    | succ n_1163 ih_n_1163 =>
      intro z_1161 z_1162 H locs ls hi0_n_1163 hm_n_1163 hG hP hD hS hl
      have hG := hG.trans (HX3_takeDigits_0_eq _ _ _ _ _ _)
      have rg_z_1161 := fb_rng z_1161
      have rg_z_1162 := fb_rng z_1162
      refine lv_iload_n hx hb dX3_takeDigits_10 rfl (lv_at hl 0 rfl) ?_
      refine lv_aload_n hx hb dX3_takeDigits_11 rfl (lv_at hl 1 rfl) ?_
      refine va_get (D := (dC, dI)) (ci := 3) (v := .int iR_end) (C := RX3) (T := TX3) (N := 15) hx hb hts inX3 hown hK hP 0 rfl rfl 4 (by decide) (hts _ wd_205) (fun _ h9 => h9) rfl dX3_takeDigits_12 ?_
      have rg_iR_end := fb_rng iR_end
      refine lv_icmp_ge (tgt := 55) hx hb dX3_takeDigits_15 (by decide) (fun c_1164 => ?_) (fun c_1164 => ?_)
      · skip
        have hG := hG.trans (if_pos c_1164)
        have gc_1164 := ti_le c_1164 rfl rfl
        refine lv_aload_n hx hb dX3_takeDigits_55 rfl (lv_at hl 1 rfl) ?_
        refine lv_iload_n hx hb dX3_takeDigits_56 rfl (lv_at hl 0 rfl) ?_
        refine va_put (D := (dC, dI)) (ci := 3) (v := .int z_1161) (ty := .int) (C := RX3) (T := TX3) (N := 15) hx hb hts inX3 tyX3 tyX3_ok nmX3 hown hK hP hD hS 0 rfl rfl 7 (by decide) (hts _ wd_209) (fun _ h9 => h9) rfl (by decide +kernel) rfl rfl (Nat.le_of_ble_eq_true rfl) dX3_takeDigits_57 (fun H locs hP hD hS => ?_)
        obtain ⟨hP, hD⟩ := wl2 (ws' := [(oc3 oR iR_faultNumber iR_faultPlace iR_tapeSize rR_tape iR_end iR_tokenKind iR_tokenFrom z_1161 iR_tokenName iR_tokenKey z_1162 oC iR_courtTold rR_names rR_keys), (arI rR_tape kR_tape 900 fR_tape)]) hP hD rfl
        refine lv_aload_n hx hb dX3_takeDigits_60 rfl (lv_at hl 1 rfl) ?_
        refine lv_iload_n hx hb dX3_takeDigits_61 rfl (lv_at hl 0 rfl) ?_
        refine lv_aload_n hx hb dX3_takeDigits_62 rfl (lv_at hl 1 rfl) ?_
        refine va_get (D := (dC, dI)) (ci := 3) (v := .int iR_tokenFrom) (C := RX3) (T := TX3) (N := 15) hx hb hts inX3 hown hK hP 0 rfl rfl 6 (by decide) (hts _ wd_224) (fun _ h9 => h9) rfl dX3_takeDigits_63 ?_
        refine lv_isub hx hb dX3_takeDigits_66 ?_
        refine lv_topi (fun x_1165 ex_1165 => ?_)
        have hG := hG.trans (lt_eq ex_1165)
        have rg_x_1165 := fb_rng x_1165
        refine lv_iconst (v := 3) hx hb dX3_takeDigits_67 (by decide) ?_
        refine lv_icmp_gt (tgt := 75) hx hb dX3_takeDigits_68 (by decide) (fun c_1166 => ?_) (fun c_1166 => ?_)
        · skip
          have hG := hG.trans (if_pos c_1166)
          have gc_1166 := ti_lt c_1166 kc_3 rfl
          refine lv_iconst (v := 5) hx hb dX3_takeDigits_75 (by decide) ?_
          refine va_put (D := (dC, dI)) (ci := 3) (v := .int 5) (ty := .int) (C := RX3) (T := TX3) (N := 15) hx hb hts inX3 tyX3 tyX3_ok nmX3 hown hK hP hD hS 0 rfl rfl 5 (by decide) (hts _ wd_210) (fun _ h9 => h9) rfl (by decide +kernel) rfl rfl (Nat.le_of_ble_eq_true rfl) dX3_takeDigits_76 (fun H locs hP hD hS => ?_)
          obtain ⟨hP, hD⟩ := wl2 (ws' := [(oc3 oR iR_faultNumber iR_faultPlace iR_tapeSize rR_tape iR_end 5 iR_tokenFrom z_1161 iR_tokenName iR_tokenKey z_1162 oC iR_courtTold rR_names rR_keys), (arI rR_tape kR_tape 900 fR_tape)]) hP hD rfl
          exact wq_v hx hb hr 0 trivial (fun t ht hW => ⟨5, z_1161, z_1162, (by decide), hG, Bw.to hP hD hK ht hW⟩) hS dX3_takeDigits_79 hlocks
        · skip
          have hG := hG.trans (if_neg c_1166)
          have gc_1166 := ti_nlt c_1166 kc_3 rfl
          refine lv_iconst (v := 2) hx hb dX3_takeDigits_71 (by decide) ?_
          refine lv_goto (tgt := 76) hx hb dX3_takeDigits_72 (by decide) ?_
          refine va_put (D := (dC, dI)) (ci := 3) (v := .int 2) (ty := .int) (C := RX3) (T := TX3) (N := 15) hx hb hts inX3 tyX3 tyX3_ok nmX3 hown hK hP hD hS 0 rfl rfl 5 (by decide) (hts _ wd_210) (fun _ h9 => h9) rfl (by decide +kernel) rfl rfl (Nat.le_of_ble_eq_true rfl) dX3_takeDigits_76 (fun H locs hP hD hS => ?_)
          obtain ⟨hP, hD⟩ := wl2 (ws' := [(oc3 oR iR_faultNumber iR_faultPlace iR_tapeSize rR_tape iR_end 2 iR_tokenFrom z_1161 iR_tokenName iR_tokenKey z_1162 oC iR_courtTold rR_names rR_keys), (arI rR_tape kR_tape 900 fR_tape)]) hP hD rfl
          exact wq_v hx hb hr 0 trivial (fun t ht hW => ⟨2, z_1161, z_1162, (by decide), hG, Bw.to hP hD hK ht hW⟩) hS dX3_takeDigits_79 hlocks
      · skip
        have hG := hG.trans (if_neg c_1164)
        have gc_1164 := ti_nle c_1164 rfl rfl
        refine lv_aload_n hx hb dX3_takeDigits_18 rfl (lv_at hl 1 rfl) ?_
        refine lv_iload_n hx hb dX3_takeDigits_19 rfl (lv_at hl 0 rfl) ?_
        have hFc := va_freeI hD hS hA
        refine va_calli (va_runV (As := [.int z_1161]) (rest := []) ⟨hx, hb, hml, hown, hts⟩ (tX3_byteAt l dC dI _ oR iR_faultNumber iR_faultPlace iR_tapeSize rR_tape fR_tape kR_tape iR_end iR_tokenKind iR_tokenFrom iR_tokenTo iR_tokenName iR_tokenKey z_1162 oC iR_courtTold rR_names rR_keys z_1161 b_iR_tapeSize b_iR_courtTold) (cwV 1 hts (wd_V wd_226 wd_227 wd_228 wd_15 (wd_c wd_229)) rfl rfl rfl dv_yX3_byteAt_1 ⟨Nat.le_of_ble_eq_true rfl, Nat.le_of_ble_eq_true rfl⟩) ⟨Pw.fb, recvX3 hK hP (q0 := 0) rfl, fun U hU hW => Pw.to hP hD hK hE hS hFc hU hW⟩ rfl rfl hl.1 rfl (lv_room (Nat.le_of_ble_eq_true rfl)) dX3_takeDigits_20 ⟨Nat.le_of_ble_eq_true rfl, Nat.le_of_ble_eq_true rfl⟩) hS (fun q _ h => hFc q h) hFc (fun r u t H locs ht hvm hw hB hz1 hk1 hS => ?_)
        have hru9 := hw.2
        have hw := hw.1
        obtain ⟨hP, hD⟩ := Bw.goA (ws' := [(oc3 oR iR_faultNumber iR_faultPlace iR_tapeSize rR_tape iR_end iR_tokenKind iR_tokenFrom iR_tokenTo iR_tokenName iR_tokenKey z_1162 oC iR_courtTold rR_names rR_keys), (arI rR_tape kR_tape 900 fR_tape)]) hB rfl ht hFc rfl
        clear hz1 hk1 hvm ht hB
        obtain ⟨x_1167, rfl⟩ : ∃ z, z = r := ⟨_, rfl⟩
        have hG := hG.trans (lt_eq hru9.symm)
        have rg_x_1167 := fb_rng x_1167
        have hFc : ∀ q, va_A [] _ q → A q := fun q h => hA q (Nat.le_trans hS.1 (va_nilA h))
        refine va_calli (va_runS (As := [.int x_1167]) (rest := []) ⟨hx, hb, hml, hown, hts⟩ (tX3_isDigit l dC dI _ x_1167 ) (va_cwS 1 hts (wd_S wd_238 wd_239 wd_15 (wd_c wd_240)) rfl rfl rfl ds_yX3_isDigit_1 ⟨Nat.le_of_ble_eq_true rfl, Nat.le_of_ble_eq_true rfl⟩) ⟨Pw.fb, fun U hU hW => Pn.to hK hE hS hA hU hW⟩ rfl rfl hl.1 rfl (lv_room (Nat.le_of_ble_eq_true rfl)) dX3_takeDigits_23 ⟨Nat.le_of_ble_eq_true rfl, Nat.le_of_ble_eq_true rfl⟩) hS (fun q _ h => hFc q h) hFc (fun r u t H locs ht hvm hw hB hz1 hk1 hS => ?_)
        obtain ⟨hP, hD, hK⟩ := Bw.same ht hvm hP hD hK hk1 hFc
        clear hz1 hk1 hvm ht hB
        have hq9 := hw.2
        have hw := hw.1
        obtain ⟨x_1168, rfl⟩ : ∃ z, z = r := ⟨_, rfl⟩
        have hq_x_1168 := hq9
        have hG := hG.trans (lt_eq hq_x_1168.symm)
        have rg_x_1168 := fb_rng x_1168
        have bx_1168 := hw.1
        have dx_1168 := bz_tb bx_1168
        refine lv_if_eq (tgt := 55) hx hb dX3_takeDigits_26 (by decide) (fun c_1169 => ?_) (fun c_1169 => ?_)
        · skip
          have hG := hG.trans (if_pos c_1169)
          have gc_1169 := ti_eq c_1169 rfl kc_0
          refine lv_aload_n hx hb dX3_takeDigits_55 rfl (lv_at hl 1 rfl) ?_
          refine lv_iload_n hx hb dX3_takeDigits_56 rfl (lv_at hl 0 rfl) ?_
          refine va_put (D := (dC, dI)) (ci := 3) (v := .int z_1161) (ty := .int) (C := RX3) (T := TX3) (N := 15) hx hb hts inX3 tyX3 tyX3_ok nmX3 hown hK hP hD hS 0 rfl rfl 7 (by decide) (hts _ wd_209) (fun _ h9 => h9) rfl (by decide +kernel) rfl rfl (Nat.le_of_ble_eq_true rfl) dX3_takeDigits_57 (fun H locs hP hD hS => ?_)
          obtain ⟨hP, hD⟩ := wl2 (ws' := [(oc3 oR iR_faultNumber iR_faultPlace iR_tapeSize rR_tape iR_end iR_tokenKind iR_tokenFrom z_1161 iR_tokenName iR_tokenKey z_1162 oC iR_courtTold rR_names rR_keys), (arI rR_tape kR_tape 900 fR_tape)]) hP hD rfl
          refine lv_aload_n hx hb dX3_takeDigits_60 rfl (lv_at hl 1 rfl) ?_
          refine lv_iload_n hx hb dX3_takeDigits_61 rfl (lv_at hl 0 rfl) ?_
          refine lv_aload_n hx hb dX3_takeDigits_62 rfl (lv_at hl 1 rfl) ?_
          refine va_get (D := (dC, dI)) (ci := 3) (v := .int iR_tokenFrom) (C := RX3) (T := TX3) (N := 15) hx hb hts inX3 hown hK hP 0 rfl rfl 6 (by decide) (hts _ wd_224) (fun _ h9 => h9) rfl dX3_takeDigits_63 ?_
          refine lv_isub hx hb dX3_takeDigits_66 ?_
          refine lv_topi (fun x_1170 ex_1170 => ?_)
          have hG := hG.trans (lt_eq ex_1170)
          have rg_x_1170 := fb_rng x_1170
          refine lv_iconst (v := 3) hx hb dX3_takeDigits_67 (by decide) ?_
          refine lv_icmp_gt (tgt := 75) hx hb dX3_takeDigits_68 (by decide) (fun c_1171 => ?_) (fun c_1171 => ?_)
          · skip
            have hG := hG.trans (if_pos c_1171)
            have gc_1171 := ti_lt c_1171 kc_3 rfl
            refine lv_iconst (v := 5) hx hb dX3_takeDigits_75 (by decide) ?_
            refine va_put (D := (dC, dI)) (ci := 3) (v := .int 5) (ty := .int) (C := RX3) (T := TX3) (N := 15) hx hb hts inX3 tyX3 tyX3_ok nmX3 hown hK hP hD hS 0 rfl rfl 5 (by decide) (hts _ wd_210) (fun _ h9 => h9) rfl (by decide +kernel) rfl rfl (Nat.le_of_ble_eq_true rfl) dX3_takeDigits_76 (fun H locs hP hD hS => ?_)
            obtain ⟨hP, hD⟩ := wl2 (ws' := [(oc3 oR iR_faultNumber iR_faultPlace iR_tapeSize rR_tape iR_end 5 iR_tokenFrom z_1161 iR_tokenName iR_tokenKey z_1162 oC iR_courtTold rR_names rR_keys), (arI rR_tape kR_tape 900 fR_tape)]) hP hD rfl
            exact wq_v hx hb hr 0 trivial (fun t ht hW => ⟨5, z_1161, z_1162, (by decide), hG, Bw.to hP hD hK ht hW⟩) hS dX3_takeDigits_79 hlocks
          · skip
            have hG := hG.trans (if_neg c_1171)
            have gc_1171 := ti_nlt c_1171 kc_3 rfl
            refine lv_iconst (v := 2) hx hb dX3_takeDigits_71 (by decide) ?_
            refine lv_goto (tgt := 76) hx hb dX3_takeDigits_72 (by decide) ?_
            refine va_put (D := (dC, dI)) (ci := 3) (v := .int 2) (ty := .int) (C := RX3) (T := TX3) (N := 15) hx hb hts inX3 tyX3 tyX3_ok nmX3 hown hK hP hD hS 0 rfl rfl 5 (by decide) (hts _ wd_210) (fun _ h9 => h9) rfl (by decide +kernel) rfl rfl (Nat.le_of_ble_eq_true rfl) dX3_takeDigits_76 (fun H locs hP hD hS => ?_)
            obtain ⟨hP, hD⟩ := wl2 (ws' := [(oc3 oR iR_faultNumber iR_faultPlace iR_tapeSize rR_tape iR_end 2 iR_tokenFrom z_1161 iR_tokenName iR_tokenKey z_1162 oC iR_courtTold rR_names rR_keys), (arI rR_tape kR_tape 900 fR_tape)]) hP hD rfl
            exact wq_v hx hb hr 0 trivial (fun t ht hW => ⟨2, z_1161, z_1162, (by decide), hG, Bw.to hP hD hK ht hW⟩) hS dX3_takeDigits_79 hlocks
        · skip
          have hG := hG.trans (if_neg c_1169)
          have gc_1169 := ti_ne c_1169 rfl kc_0
          refine lv_aload_n hx hb dX3_takeDigits_29 rfl (lv_at hl 1 rfl) ?_
          refine lv_aload_n hx hb dX3_takeDigits_30 rfl (lv_at hl 1 rfl) ?_
          refine va_get (D := (dC, dI)) (ci := 3) (v := .int z_1162) (C := RX3) (T := TX3) (N := 15) hx hb hts inX3 hown hK hP 0 rfl rfl 10 (by decide) (hts _ wd_245) (fun _ h9 => h9) rfl dX3_takeDigits_31 ?_
          refine lv_bipush (v := 10) hx hb dX3_takeDigits_34 (by decide) ?_
          refine lv_imul hx hb dX3_takeDigits_36 ?_
          refine lv_topi (fun x_1172 ex_1172 => ?_)
          have hG := hG.trans (lt_eq ex_1172)
          have rg_x_1172 := fb_rng x_1172
          refine lv_aload_n hx hb dX3_takeDigits_37 rfl (lv_at hl 1 rfl) ?_
          refine lv_iload_n hx hb dX3_takeDigits_38 rfl (lv_at hl 0 rfl) ?_
          have hFc := va_freeI hD hS hA
          refine va_calli (va_runV (As := [.int z_1161]) (rest := [.int x_1172, .ref oR]) ⟨hx, hb, hml, hown, hts⟩ (tX3_byteAt l dC dI _ oR iR_faultNumber iR_faultPlace iR_tapeSize rR_tape fR_tape kR_tape iR_end iR_tokenKind iR_tokenFrom iR_tokenTo iR_tokenName iR_tokenKey z_1162 oC iR_courtTold rR_names rR_keys z_1161 b_iR_tapeSize b_iR_courtTold) (cwV 1 hts (wd_V wd_226 wd_227 wd_228 wd_15 (wd_c wd_229)) rfl rfl rfl dv_yX3_byteAt_1 ⟨Nat.le_of_ble_eq_true rfl, Nat.le_of_ble_eq_true rfl⟩) ⟨Pw.fb, recvX3 hK hP (q0 := 0) rfl, fun U hU hW => Pw.to hP hD hK hE hS hFc hU hW⟩ rfl rfl hl.1 rfl (lv_room (Nat.le_of_ble_eq_true rfl)) dX3_takeDigits_39 ⟨Nat.le_of_ble_eq_true rfl, Nat.le_of_ble_eq_true rfl⟩) hS (fun q _ h => hFc q h) hFc (fun r u t H locs ht hvm hw hB hz1 hk1 hS => ?_)
          have hru9 := hw.2
          have hw := hw.1
          obtain ⟨hP, hD⟩ := Bw.goA (ws' := [(oc3 oR iR_faultNumber iR_faultPlace iR_tapeSize rR_tape iR_end iR_tokenKind iR_tokenFrom iR_tokenTo iR_tokenName iR_tokenKey z_1162 oC iR_courtTold rR_names rR_keys), (arI rR_tape kR_tape 900 fR_tape)]) hB rfl ht hFc rfl
          clear hz1 hk1 hvm ht hB
          obtain ⟨x_1173, rfl⟩ : ∃ z, z = r := ⟨_, rfl⟩
          have hG := hG.trans (lt_eq hru9.symm)
          have rg_x_1173 := fb_rng x_1173
          refine lv_bipush (v := 48) hx hb dX3_takeDigits_42 (by decide) ?_
          refine lv_isub hx hb dX3_takeDigits_44 ?_
          refine lv_topi (fun x_1174 ex_1174 => ?_)
          have hG := hG.trans (lt_eq ex_1174)
          have rg_x_1174 := fb_rng x_1174
          refine lv_iadd hx hb dX3_takeDigits_45 ?_
          refine lv_topi (fun x_1175 ex_1175 => ?_)
          have hG := hG.trans (lt_eq ex_1175)
          have rg_x_1175 := fb_rng x_1175
          refine va_put (D := (dC, dI)) (ci := 3) (v := .int x_1175) (ty := .int) (C := RX3) (T := TX3) (N := 15) hx hb hts inX3 tyX3 tyX3_ok nmX3 hown hK hP hD hS 0 rfl rfl 10 (by decide) (hts _ wd_245) (fun _ h9 => h9) rfl (by decide +kernel) rfl rfl (Nat.le_of_ble_eq_true rfl) dX3_takeDigits_46 (fun H locs hP hD hS => ?_)
          obtain ⟨hP, hD⟩ := wl2 (ws' := [(oc3 oR iR_faultNumber iR_faultPlace iR_tapeSize rR_tape iR_end iR_tokenKind iR_tokenFrom iR_tokenTo iR_tokenName iR_tokenKey x_1175 oC iR_courtTold rR_names rR_keys), (arI rR_tape kR_tape 900 fR_tape)]) hP hD rfl
          obtain ⟨x_1176, ex_1176⟩ : ∃ z : Int32, z = z_1161 + Int32.ofInt 1 := ⟨_, rfl⟩
          have hG := hG.trans (lt_eq ex_1176)
          have vx_1176 : x_1176.toInt = z_1161.toInt + 1 := ti_add (y := 1) ex_1176 rfl kc_1 (om_f7d4aae6 hi0_n_1163.1) (om_219cd8d8 rg_iR_end.2 gc_1164)
          refine lv_iinc (v := x_1176) (lv' := [(1, .int x_1176), (0, .ref oR)]) hx hb dX3_takeDigits_49 hl (k := 0) rfl ex_1176.symm (by decide) rfl (fun ls hl => ?_)
          refine lv_goto (tgt := 10) hx hb dX3_takeDigits_52 (by decide) ?_
          exact ih_n_1163 x_1176 x_1175 _ _ _  ⟨(om_ecc37d4d hi0_n_1163.1 vx_1176), (om_5c6bfac3 rg_iR_end.2 gc_1164 vx_1176)⟩ (ms_lt hm_n_1163 (om_b9393183 vx_1176) (om_bc4d5040 rg_iR_end.2 gc_1164)) hG hP hD hS (lv_sub hl [0, 1] rfl)
  exact key_n_1163 (((2147483647 - iR_tokenFrom.toInt).toNat) + 1) iR_tokenFrom 0 _ _ _  ⟨(om_341146a3 rg_iR_tokenFrom.1), (om_5a94aa53 rg_iR_tokenFrom.2)⟩ (Nat.lt_add_one _) hG hP hD hS hl
set_option maxHeartbeats 4000000 in
set_option maxRecDepth 100000 in
theorem tX3_nextToken (l : Launch) (dC : Nat → ClassId) (dI : Nat → Nat → Nat) (sz : Nat) (oR : Nat) (iR_faultNumber : Int32) (iR_faultPlace : Int32) (iR_tapeSize : Int32) (rR_tape : Nat) (fR_tape : Nat → Int32) (kR_tape : ClassId) (iR_end : Int32) (iR_tokenKind : Int32) (iR_tokenFrom : Int32) (iR_tokenTo : Int32) (iR_tokenName : Int64) (iR_tokenKey : Int32) (iR_tokenWhole : Int32) (oC : Nat) (iR_courtTold : Int32) (rR_names : Nat) (rR_keys : Nat) (fR_keys : Nat → Int64) (kR_keys : ClassId) (b_iR_tapeSize : 0 ≤ iR_tapeSize.toInt ∧ iR_tapeSize.toInt ≤ 900) (b_iR_courtTold : 0 ≤ iR_courtTold.toInt ∧ iR_courtTold.toInt ≤ 1)  : Met l yX3_nextToken (Cond.code yX3_nextToken cX3_nextToken 3 none :: wG) ({ frames := 2, cells := 0, slots := 0, locals := 44 }) (va_Pc [.ref oR] (Pw dC dI sz [(oc3 oR iR_faultNumber iR_faultPlace iR_tapeSize rR_tape iR_end iR_tokenKind iR_tokenFrom iR_tokenTo iR_tokenName iR_tokenKey iR_tokenWhole oC iR_courtTold rR_names rR_keys), (arI rR_tape kR_tape 900 fR_tape), (arL rR_keys kR_keys 10 fR_keys)] [(kR_tape, .byte), (kR_keys, .long)])) (va_Qv (fun (_ : Nat) => True) (fun (_ : Nat) (t : State) => ∃ (niR_tokenKind : Int32) (niR_tokenFrom : Int32) (niR_tokenTo : Int32) (niR_tokenName : Int64) (niR_tokenKey : Int32) (niR_tokenWhole : Int32), (PX3_nextToken fR_tape iR_end iR_tokenTo iR_tokenName iR_tokenWhole fR_keys = (niR_tokenKind, niR_tokenFrom, niR_tokenTo, niR_tokenName, niR_tokenKey, niR_tokenWhole)) ∧ Bw dC dI (va_A [(oc3 oR iR_faultNumber iR_faultPlace iR_tapeSize rR_tape iR_end iR_tokenKind iR_tokenFrom iR_tokenTo iR_tokenName iR_tokenKey iR_tokenWhole oC iR_courtTold rR_names rR_keys), (arI rR_tape kR_tape 900 fR_tape), (arL rR_keys kR_keys 10 fR_keys)] sz) [(oc3 oR iR_faultNumber iR_faultPlace iR_tapeSize rR_tape iR_end niR_tokenKind niR_tokenFrom niR_tokenTo niR_tokenName niR_tokenKey niR_tokenWhole oC iR_courtTold rR_names rR_keys), (arI rR_tape kR_tape 900 fR_tape), (arL rR_keys kR_keys 10 fR_keys)] [(kR_tape, .byte), (kR_keys, .long)] t) (va_A [(oc3 oR iR_faultNumber iR_faultPlace iR_tapeSize rR_tape iR_end iR_tokenKind iR_tokenFrom iR_tokenTo iR_tokenName iR_tokenKey iR_tokenWhole oC iR_courtTold rR_names rR_keys), (arI rR_tape kR_tape 900 fR_tape), (arL rR_keys kR_keys 10 fR_keys)] sz)) 0 0 (va_A [(oc3 oR iR_faultNumber iR_faultPlace iR_tapeSize rR_tape iR_end iR_tokenKind iR_tokenFrom iR_tokenTo iR_tokenName iR_tokenKey iR_tokenWhole oC iR_courtTold rR_names rR_keys), (arI rR_tape kR_tape 900 fR_tape), (arL rR_keys kR_keys 10 fR_keys)] sz) := by
  refine Met.ofW (cc := cX3_nextToken) (maxL := 3) (ret := none) pnX3 rfl ?_
  intro p e s m args below meth c s₁ B hml hv
  obtain ⟨rfl, hsz, hP, hK, hD0, hE⟩ := hv
  have hx := B.exec
  have hb := B.bytes
  have hr := B.returns
  have hts : ∀ w ∈ wG, w.before ([.ref oR] : List Value).toArray s = true := fun w h => atoms_spec (ws := Cond.code yX3_nextToken cX3_nextToken 3 none :: wG) B.pre w (List.mem_cons_of_mem _ h)
  have hown : s.vm.findClass RX3 = some m.cls := own_of B.named rfl
  have hlocks := B.notSynchronized
  subst hsz
  have hD := hD0.self (sz := s.heap.size)
  generalize hAe : va_A [(oc3 oR iR_faultNumber iR_faultPlace iR_tapeSize rR_tape iR_end iR_tokenKind iR_tokenFrom iR_tokenTo iR_tokenName iR_tokenKey iR_tokenWhole oC iR_courtTold rR_names rR_keys), (arI rR_tape kR_tape 900 fR_tape), (arL rR_keys kR_keys 10 fR_keys)] s.heap.size = A at hD hE ⊢
  have hA : ∀ q : Nat, s.heap.size ≤ q → A q := fun q h => by rw [← hAe]; exact Or.inr h
  have hS : va_S A s.heap s.heap [] := va_S.rf
  have hl := lv_entry ([.ref oR]) (n := 3) (Nat.le_of_ble_eq_true rfl)
  rw [lg_entry_eq]
  generalize (lg_sl ([.ref oR]) ++ List.replicate (3 - (lg_sl ([.ref oR])).length) Slot.unset).toArray = ls at hl ⊢
  have hl : lv_has ls 3 [(0, .ref oR)] := hl
  have hG := PX3_nextToken_eq fR_tape iR_end iR_tokenTo iR_tokenName iR_tokenWhole fR_keys
  refine lv_aload_n hx hb dX3_nextToken_0 rfl (lv_at hl 0 rfl) ?_
  refine va_get (D := (dC, dI)) (ci := 3) (v := .int iR_tokenTo) (C := RX3) (T := TX3) (N := 15) hx hb hts inX3 hown hK hP 0 rfl rfl 7 (by decide) (hts _ wd_209) (fun _ h9 => h9) rfl dX3_nextToken_1 ?_
  have rg_iR_tokenTo := fb_rng iR_tokenTo
  refine lv_istore_n (lv' := [(1, .int iR_tokenTo), (0, .ref oR)]) hx hb dX3_nextToken_4 rfl hl (by decide) rfl (fun ls hl => ?_)
  have hl := lv_sub hl (l' := [(1, .int iR_tokenTo), (0, .ref oR)]) [0, 1] rfl
  have key_n_1203 : ∀ (n_1203 : Nat) (z_1202 : Int32) (H : Heap) (locs : List Loc) (ls : Array Slot), ((-2147483648) ≤ z_1202.toInt ∧ z_1202.toInt ≤ 2147483647) → (2147483647 - z_1202.toInt).toNat < n_1203 → (PX3_nextToken fR_tape iR_end iR_tokenTo iR_tokenName iR_tokenWhole fR_keys = HX3_nextToken_0 fR_tape iR_end iR_tokenName iR_tokenWhole fR_keys n_1203 z_1202) → va_P (dC, dI) vwCl [(oc3 oR iR_faultNumber iR_faultPlace iR_tapeSize rR_tape iR_end iR_tokenKind iR_tokenFrom iR_tokenTo iR_tokenName iR_tokenKey iR_tokenWhole oC iR_courtTold rR_names rR_keys), (arI rR_tape kR_tape 900 fR_tape), (arL rR_keys kR_keys 10 fR_keys)] H → va_D A [(oc3 oR iR_faultNumber iR_faultPlace iR_tapeSize rR_tape iR_end iR_tokenKind iR_tokenFrom iR_tokenTo iR_tokenName iR_tokenKey iR_tokenWhole oC iR_courtTold rR_names rR_keys), (arI rR_tape kR_tape 900 fR_tape), (arL rR_keys kR_keys 10 fR_keys)] → va_S A s.heap H locs → lv_has ls 3 [(1, .int z_1202), (0, .ref oR)] → W p l e (headSpec (Cond.code yX3_nextToken cX3_nextToken 3 none :: wG) ({ frames := 2, cells := 0, slots := 0, locals := 44 })).room s m ([.ref oR] : List Value).toArray below meth c H locs 0 0 (MQ below (va_Qv (fun (_ : Nat) => True) (fun (_ : Nat) (t : State) => ∃ (niR_tokenKind : Int32) (niR_tokenFrom : Int32) (niR_tokenTo : Int32) (niR_tokenName : Int64) (niR_tokenKey : Int32) (niR_tokenWhole : Int32), (PX3_nextToken fR_tape iR_end iR_tokenTo iR_tokenName iR_tokenWhole fR_keys = (niR_tokenKind, niR_tokenFrom, niR_tokenTo, niR_tokenName, niR_tokenKey, niR_tokenWhole)) ∧ Bw dC dI A [(oc3 oR iR_faultNumber iR_faultPlace iR_tapeSize rR_tape iR_end niR_tokenKind niR_tokenFrom niR_tokenTo niR_tokenName niR_tokenKey niR_tokenWhole oC iR_courtTold rR_names rR_keys), (arI rR_tape kR_tape 900 fR_tape), (arL rR_keys kR_keys 10 fR_keys)] [(kR_tape, .byte), (kR_keys, .long)] t) A) ([.ref oR] : List Value).toArray s 0 0 A) (F0 m 5 ls []) := by
    intro n_1203
    induction n_1203 with
    | zero => intro z_1202 H locs ls hi0_n_1203 hm; exact absurd hm (Nat.not_lt_zero _)
    | succ n_1203 ih_n_1203 =>
      intro z_1202 H locs ls hi0_n_1203 hm_n_1203 hG hP hD hS hl
      have hG := hG.trans (HX3_nextToken_0_eq _ _ _ _ _ _ _)
      have rg_z_1202 := fb_rng z_1202
      refine lv_iload_n hx hb dX3_nextToken_5 rfl (lv_at hl 0 rfl) ?_
      refine lv_aload_n hx hb dX3_nextToken_6 rfl (lv_at hl 1 rfl) ?_
      refine va_get (D := (dC, dI)) (ci := 3) (v := .int iR_end) (C := RX3) (T := TX3) (N := 15) hx hb hts inX3 hown hK hP 0 rfl rfl 4 (by decide) (hts _ wd_205) (fun _ h9 => h9) rfl dX3_nextToken_7 ?_
      have rg_iR_end := fb_rng iR_end
      refine lv_icmp_ge (tgt := 29) hx hb dX3_nextToken_10 (by decide) (fun c_1204 => ?_) (fun c_1204 => ?_)
      · skip
        have hG := hG.trans (if_pos c_1204)
        have gc_1204 := ti_le c_1204 rfl rfl
        refine lv_aload_n hx hb dX3_nextToken_29 rfl (lv_at hl 1 rfl) ?_
        refine lv_iload_n hx hb dX3_nextToken_30 rfl (lv_at hl 0 rfl) ?_
        refine va_put (D := (dC, dI)) (ci := 3) (v := .int z_1202) (ty := .int) (C := RX3) (T := TX3) (N := 15) hx hb hts inX3 tyX3 tyX3_ok nmX3 hown hK hP hD hS 0 rfl rfl 6 (by decide) (hts _ wd_224) (fun _ h9 => h9) rfl (by decide +kernel) rfl rfl (Nat.le_of_ble_eq_true rfl) dX3_nextToken_31 (fun H locs hP hD hS => ?_)
        obtain ⟨hP, hD⟩ := wl2 (ws' := [(oc3 oR iR_faultNumber iR_faultPlace iR_tapeSize rR_tape iR_end iR_tokenKind z_1202 iR_tokenTo iR_tokenName iR_tokenKey iR_tokenWhole oC iR_courtTold rR_names rR_keys), (arI rR_tape kR_tape 900 fR_tape), (arL rR_keys kR_keys 10 fR_keys)]) hP hD rfl
        refine lv_aload_n hx hb dX3_nextToken_34 rfl (lv_at hl 1 rfl) ?_
        refine lv_iload_n hx hb dX3_nextToken_35 rfl (lv_at hl 0 rfl) ?_
        refine lv_iconst (v := 1) hx hb dX3_nextToken_36 (by decide) ?_
        refine lv_iadd hx hb dX3_nextToken_37 ?_
        refine lv_topi (fun x_1205 ex_1205 => ?_)
        have hG := hG.trans (lt_eq ex_1205)
        have rg_x_1205 := fb_rng x_1205
        refine va_put (D := (dC, dI)) (ci := 3) (v := .int x_1205) (ty := .int) (C := RX3) (T := TX3) (N := 15) hx hb hts inX3 tyX3 tyX3_ok nmX3 hown hK hP hD hS 0 rfl rfl 7 (by decide) (hts _ wd_209) (fun _ h9 => h9) rfl (by decide +kernel) rfl rfl (Nat.le_of_ble_eq_true rfl) dX3_nextToken_38 (fun H locs hP hD hS => ?_)
        obtain ⟨hP, hD⟩ := wl2 (ws' := [(oc3 oR iR_faultNumber iR_faultPlace iR_tapeSize rR_tape iR_end iR_tokenKind z_1202 x_1205 iR_tokenName iR_tokenKey iR_tokenWhole oC iR_courtTold rR_names rR_keys), (arI rR_tape kR_tape 900 fR_tape), (arL rR_keys kR_keys 10 fR_keys)]) hP hD rfl
        refine lv_aload_n hx hb dX3_nextToken_41 rfl (lv_at hl 1 rfl) ?_
        refine lv_iconst (v := (-1)) hx hb dX3_nextToken_42 (by decide) ?_
        refine va_put (D := (dC, dI)) (ci := 3) (v := .int (-1)) (ty := .int) (C := RX3) (T := TX3) (N := 15) hx hb hts inX3 tyX3 tyX3_ok nmX3 hown hK hP hD hS 0 rfl rfl 9 (by decide) (hts _ wd_225) (fun _ h9 => h9) rfl (by decide +kernel) rfl rfl (Nat.le_of_ble_eq_true rfl) dX3_nextToken_43 (fun H locs hP hD hS => ?_)
        obtain ⟨hP, hD⟩ := wl2 (ws' := [(oc3 oR iR_faultNumber iR_faultPlace iR_tapeSize rR_tape iR_end iR_tokenKind z_1202 x_1205 iR_tokenName (-1) iR_tokenWhole oC iR_courtTold rR_names rR_keys), (arI rR_tape kR_tape 900 fR_tape), (arL rR_keys kR_keys 10 fR_keys)]) hP hD rfl
        refine lv_aload_n hx hb dX3_nextToken_46 rfl (lv_at hl 1 rfl) ?_
        refine lv_iload_n hx hb dX3_nextToken_47 rfl (lv_at hl 0 rfl) ?_
        have hMs := ml_of hD [true, true, false] (wc := [(oc3 oR iR_faultNumber iR_faultPlace iR_tapeSize rR_tape iR_end iR_tokenKind z_1202 x_1205 iR_tokenName (-1) iR_tokenWhole oC iR_courtTold rR_names rR_keys), (arI rR_tape kR_tape 900 fR_tape)]) rfl
        have hFc := va_freeM hD hS hA _ hMs
        refine va_calli (va_runV (As := [.int z_1202]) (rest := []) ⟨hx, hb, hml, hown, hts⟩ (tX3_byteAt l dC dI _ oR iR_faultNumber iR_faultPlace iR_tapeSize rR_tape fR_tape kR_tape iR_end iR_tokenKind z_1202 x_1205 iR_tokenName (-1) iR_tokenWhole oC iR_courtTold rR_names rR_keys z_1202 b_iR_tapeSize b_iR_courtTold) (cwV 1 hts (wd_V wd_226 wd_227 wd_228 wd_15 (wd_c wd_229)) rfl rfl rfl dv_yX3_byteAt_1 ⟨Nat.le_of_ble_eq_true rfl, Nat.le_of_ble_eq_true rfl⟩) ⟨Pw.fb, recvX3 hK hP (q0 := 0) rfl, fun U hU hW => Pw.to (hP.ms _ hMs) (hD.ms _ hMs) (hK.ms [true, false] rfl) hE hS hFc hU hW⟩ rfl rfl hl.1 rfl (lv_room (Nat.le_of_ble_eq_true rfl)) dX3_nextToken_48 ⟨Nat.le_of_ble_eq_true rfl, Nat.le_of_ble_eq_true rfl⟩) hS (fun q _ h => hFc q h) hFc (fun r u t H locs ht hvm hw hB hz1 hk1 hS => ?_)
        have hru9 := hw.2
        have hw := hw.1
        obtain ⟨hP, hD⟩ := Bw.goN (ws' := [(oc3 oR iR_faultNumber iR_faultPlace iR_tapeSize rR_tape iR_end iR_tokenKind z_1202 x_1205 iR_tokenName (-1) iR_tokenWhole oC iR_courtTold rR_names rR_keys), (arI rR_tape kR_tape 900 fR_tape), (arL rR_keys kR_keys 10 fR_keys)]) hB rfl ht hP hD _ hMs hk1 hFc rfl
        clear hz1 hk1 hvm ht hB hMs
        obtain ⟨x_1206, rfl⟩ : ∃ z, z = r := ⟨_, rfl⟩
        have hG := hG.trans (lt_eq hru9.symm)
        have rg_x_1206 := fb_rng x_1206
        refine lv_istore_n (lv' := [(2, .int x_1206), (1, .int z_1202), (0, .ref oR)]) hx hb dX3_nextToken_51 rfl hl (by decide) rfl (fun ls hl => ?_)
        refine lv_iload_n hx hb dX3_nextToken_52 rfl (lv_at hl 1 rfl) ?_
        refine lv_aload_n hx hb dX3_nextToken_53 rfl (lv_at hl 2 rfl) ?_
        refine va_get (D := (dC, dI)) (ci := 3) (v := .int iR_end) (C := RX3) (T := TX3) (N := 15) hx hb hts inX3 hown hK hP 0 rfl rfl 4 (by decide) (hts _ wd_205) (fun _ h9 => h9) rfl dX3_nextToken_54 ?_
        refine lv_icmp_lt (tgt := 76) hx hb dX3_nextToken_57 (by decide) (fun c_1207 => ?_) (fun c_1207 => ?_)
        · skip
          have hG := hG.trans (if_pos c_1207)
          have gc_1207 := ti_lt c_1207 rfl rfl
          exact ((om_7e8a5049 gc_1204 gc_1207)).elim
        · skip
          have hG := hG.trans (if_neg c_1207)
          have gc_1207 := ti_nlt c_1207 rfl rfl
          refine lv_aload_n hx hb dX3_nextToken_60 rfl (lv_at hl 2 rfl) ?_
          refine lv_iconst (v := 0) hx hb dX3_nextToken_61 (by decide) ?_
          refine va_put (D := (dC, dI)) (ci := 3) (v := .int 0) (ty := .int) (C := RX3) (T := TX3) (N := 15) hx hb hts inX3 tyX3 tyX3_ok nmX3 hown hK hP hD hS 0 rfl rfl 5 (by decide) (hts _ wd_210) (fun _ h9 => h9) rfl (by decide +kernel) rfl rfl (Nat.le_of_ble_eq_true rfl) dX3_nextToken_62 (fun H locs hP hD hS => ?_)
          obtain ⟨hP, hD⟩ := wl2 (ws' := [(oc3 oR iR_faultNumber iR_faultPlace iR_tapeSize rR_tape iR_end 0 z_1202 x_1205 iR_tokenName (-1) iR_tokenWhole oC iR_courtTold rR_names rR_keys), (arI rR_tape kR_tape 900 fR_tape), (arL rR_keys kR_keys 10 fR_keys)]) hP hD rfl
          refine lv_aload_n hx hb dX3_nextToken_65 rfl (lv_at hl 2 rfl) ?_
          refine lv_aload_n hx hb dX3_nextToken_66 rfl (lv_at hl 2 rfl) ?_
          refine va_get (D := (dC, dI)) (ci := 3) (v := .int iR_end) (C := RX3) (T := TX3) (N := 15) hx hb hts inX3 hown hK hP 0 rfl rfl 4 (by decide) (hts _ wd_205) (fun _ h9 => h9) rfl dX3_nextToken_67 ?_
          refine va_put (D := (dC, dI)) (ci := 3) (v := .int iR_end) (ty := .int) (C := RX3) (T := TX3) (N := 15) hx hb hts inX3 tyX3 tyX3_ok nmX3 hown hK hP hD hS 0 rfl rfl 7 (by decide) (hts _ wd_209) (fun _ h9 => h9) rfl (by decide +kernel) rfl rfl (Nat.le_of_ble_eq_true rfl) dX3_nextToken_70 (fun H locs hP hD hS => ?_)
          obtain ⟨hP, hD⟩ := wl2 (ws' := [(oc3 oR iR_faultNumber iR_faultPlace iR_tapeSize rR_tape iR_end 0 z_1202 iR_end iR_tokenName (-1) iR_tokenWhole oC iR_courtTold rR_names rR_keys), (arI rR_tape kR_tape 900 fR_tape), (arL rR_keys kR_keys 10 fR_keys)]) hP hD rfl
          refine lv_goto (tgt := 129) hx hb dX3_nextToken_73 (by decide) ?_
          exact wq_v hx hb hr 0 trivial (fun t ht hW => ⟨0, z_1202, iR_end, iR_tokenName, (-1), iR_tokenWhole, hG, Bw.to hP hD hK ht hW⟩) hS dX3_nextToken_129 hlocks
      · skip
        have hG := hG.trans (if_neg c_1204)
        have gc_1204 := ti_nle c_1204 rfl rfl
        refine lv_aload_n hx hb dX3_nextToken_13 rfl (lv_at hl 1 rfl) ?_
        refine lv_iload_n hx hb dX3_nextToken_14 rfl (lv_at hl 0 rfl) ?_
        have hMs := ml_of hD [true, true, false] (wc := [(oc3 oR iR_faultNumber iR_faultPlace iR_tapeSize rR_tape iR_end iR_tokenKind iR_tokenFrom iR_tokenTo iR_tokenName iR_tokenKey iR_tokenWhole oC iR_courtTold rR_names rR_keys), (arI rR_tape kR_tape 900 fR_tape)]) rfl
        have hFc := va_freeM hD hS hA _ hMs
        refine va_calli (va_runV (As := [.int z_1202]) (rest := []) ⟨hx, hb, hml, hown, hts⟩ (tX3_byteAt l dC dI _ oR iR_faultNumber iR_faultPlace iR_tapeSize rR_tape fR_tape kR_tape iR_end iR_tokenKind iR_tokenFrom iR_tokenTo iR_tokenName iR_tokenKey iR_tokenWhole oC iR_courtTold rR_names rR_keys z_1202 b_iR_tapeSize b_iR_courtTold) (cwV 1 hts (wd_V wd_226 wd_227 wd_228 wd_15 (wd_c wd_229)) rfl rfl rfl dv_yX3_byteAt_1 ⟨Nat.le_of_ble_eq_true rfl, Nat.le_of_ble_eq_true rfl⟩) ⟨Pw.fb, recvX3 hK hP (q0 := 0) rfl, fun U hU hW => Pw.to (hP.ms _ hMs) (hD.ms _ hMs) (hK.ms [true, false] rfl) hE hS hFc hU hW⟩ rfl rfl hl.1 rfl (lv_room (Nat.le_of_ble_eq_true rfl)) dX3_nextToken_15 ⟨Nat.le_of_ble_eq_true rfl, Nat.le_of_ble_eq_true rfl⟩) hS (fun q _ h => hFc q h) hFc (fun r u t H locs ht hvm hw hB hz1 hk1 hS => ?_)
        have hru9 := hw.2
        have hw := hw.1
        obtain ⟨hP, hD⟩ := Bw.goN (ws' := [(oc3 oR iR_faultNumber iR_faultPlace iR_tapeSize rR_tape iR_end iR_tokenKind iR_tokenFrom iR_tokenTo iR_tokenName iR_tokenKey iR_tokenWhole oC iR_courtTold rR_names rR_keys), (arI rR_tape kR_tape 900 fR_tape), (arL rR_keys kR_keys 10 fR_keys)]) hB rfl ht hP hD _ hMs hk1 hFc rfl
        clear hz1 hk1 hvm ht hB hMs
        obtain ⟨x_1208, rfl⟩ : ∃ z, z = r := ⟨_, rfl⟩
        have hG := hG.trans (lt_eq hru9.symm)
        have rg_x_1208 := fb_rng x_1208
        refine lv_bipush (v := 32) hx hb dX3_nextToken_18 (by decide) ?_
        refine lv_icmp_ne (tgt := 29) hx hb dX3_nextToken_20 (by decide) (fun c_1209 => ?_) (fun c_1209 => ?_)
        · skip
          have hG := hG.trans (if_neg c_1209)
          have gc_1209 := ti_ne c_1209 rfl kc_32
          refine lv_aload_n hx hb dX3_nextToken_29 rfl (lv_at hl 1 rfl) ?_
          refine lv_iload_n hx hb dX3_nextToken_30 rfl (lv_at hl 0 rfl) ?_
          refine va_put (D := (dC, dI)) (ci := 3) (v := .int z_1202) (ty := .int) (C := RX3) (T := TX3) (N := 15) hx hb hts inX3 tyX3 tyX3_ok nmX3 hown hK hP hD hS 0 rfl rfl 6 (by decide) (hts _ wd_224) (fun _ h9 => h9) rfl (by decide +kernel) rfl rfl (Nat.le_of_ble_eq_true rfl) dX3_nextToken_31 (fun H locs hP hD hS => ?_)
          obtain ⟨hP, hD⟩ := wl2 (ws' := [(oc3 oR iR_faultNumber iR_faultPlace iR_tapeSize rR_tape iR_end iR_tokenKind z_1202 iR_tokenTo iR_tokenName iR_tokenKey iR_tokenWhole oC iR_courtTold rR_names rR_keys), (arI rR_tape kR_tape 900 fR_tape), (arL rR_keys kR_keys 10 fR_keys)]) hP hD rfl
          refine lv_aload_n hx hb dX3_nextToken_34 rfl (lv_at hl 1 rfl) ?_
          refine lv_iload_n hx hb dX3_nextToken_35 rfl (lv_at hl 0 rfl) ?_
          refine lv_iconst (v := 1) hx hb dX3_nextToken_36 (by decide) ?_
          refine lv_iadd hx hb dX3_nextToken_37 ?_
          refine lv_topi (fun x_1210 ex_1210 => ?_)
          have hG := hG.trans (lt_eq ex_1210)
          have vx_1210 : x_1210.toInt = z_1202.toInt + 1 := ti_add ex_1210 rfl kc_1 (om_f7d4aae6 hi0_n_1203.1) (om_219cd8d8 rg_iR_end.2 gc_1204)
          refine va_put (D := (dC, dI)) (ci := 3) (v := .int x_1210) (ty := .int) (C := RX3) (T := TX3) (N := 15) hx hb hts inX3 tyX3 tyX3_ok nmX3 hown hK hP hD hS 0 rfl rfl 7 (by decide) (hts _ wd_209) (fun _ h9 => h9) rfl (by decide +kernel) rfl rfl (Nat.le_of_ble_eq_true rfl) dX3_nextToken_38 (fun H locs hP hD hS => ?_)
          obtain ⟨hP, hD⟩ := wl2 (ws' := [(oc3 oR iR_faultNumber iR_faultPlace iR_tapeSize rR_tape iR_end iR_tokenKind z_1202 x_1210 iR_tokenName iR_tokenKey iR_tokenWhole oC iR_courtTold rR_names rR_keys), (arI rR_tape kR_tape 900 fR_tape), (arL rR_keys kR_keys 10 fR_keys)]) hP hD rfl
          refine lv_aload_n hx hb dX3_nextToken_41 rfl (lv_at hl 1 rfl) ?_
          refine lv_iconst (v := (-1)) hx hb dX3_nextToken_42 (by decide) ?_
          refine va_put (D := (dC, dI)) (ci := 3) (v := .int (-1)) (ty := .int) (C := RX3) (T := TX3) (N := 15) hx hb hts inX3 tyX3 tyX3_ok nmX3 hown hK hP hD hS 0 rfl rfl 9 (by decide) (hts _ wd_225) (fun _ h9 => h9) rfl (by decide +kernel) rfl rfl (Nat.le_of_ble_eq_true rfl) dX3_nextToken_43 (fun H locs hP hD hS => ?_)
          obtain ⟨hP, hD⟩ := wl2 (ws' := [(oc3 oR iR_faultNumber iR_faultPlace iR_tapeSize rR_tape iR_end iR_tokenKind z_1202 x_1210 iR_tokenName (-1) iR_tokenWhole oC iR_courtTold rR_names rR_keys), (arI rR_tape kR_tape 900 fR_tape), (arL rR_keys kR_keys 10 fR_keys)]) hP hD rfl
          refine lv_aload_n hx hb dX3_nextToken_46 rfl (lv_at hl 1 rfl) ?_
          refine lv_iload_n hx hb dX3_nextToken_47 rfl (lv_at hl 0 rfl) ?_
          have hMs := ml_of hD [true, true, false] (wc := [(oc3 oR iR_faultNumber iR_faultPlace iR_tapeSize rR_tape iR_end iR_tokenKind z_1202 x_1210 iR_tokenName (-1) iR_tokenWhole oC iR_courtTold rR_names rR_keys), (arI rR_tape kR_tape 900 fR_tape)]) rfl
          have hFc := va_freeM hD hS hA _ hMs
          refine va_calli (va_runV (As := [.int z_1202]) (rest := []) ⟨hx, hb, hml, hown, hts⟩ (tX3_byteAt l dC dI _ oR iR_faultNumber iR_faultPlace iR_tapeSize rR_tape fR_tape kR_tape iR_end iR_tokenKind z_1202 x_1210 iR_tokenName (-1) iR_tokenWhole oC iR_courtTold rR_names rR_keys z_1202 b_iR_tapeSize b_iR_courtTold) (cwV 1 hts (wd_V wd_226 wd_227 wd_228 wd_15 (wd_c wd_229)) rfl rfl rfl dv_yX3_byteAt_1 ⟨Nat.le_of_ble_eq_true rfl, Nat.le_of_ble_eq_true rfl⟩) ⟨Pw.fb, recvX3 hK hP (q0 := 0) rfl, fun U hU hW => Pw.to (hP.ms _ hMs) (hD.ms _ hMs) (hK.ms [true, false] rfl) hE hS hFc hU hW⟩ rfl rfl hl.1 rfl (lv_room (Nat.le_of_ble_eq_true rfl)) dX3_nextToken_48 ⟨Nat.le_of_ble_eq_true rfl, Nat.le_of_ble_eq_true rfl⟩) hS (fun q _ h => hFc q h) hFc (fun r u t H locs ht hvm hw hB hz1 hk1 hS => ?_)
          have hru9 := hw.2
          have hw := hw.1
          obtain ⟨hP, hD⟩ := Bw.goN (ws' := [(oc3 oR iR_faultNumber iR_faultPlace iR_tapeSize rR_tape iR_end iR_tokenKind z_1202 x_1210 iR_tokenName (-1) iR_tokenWhole oC iR_courtTold rR_names rR_keys), (arI rR_tape kR_tape 900 fR_tape), (arL rR_keys kR_keys 10 fR_keys)]) hB rfl ht hP hD _ hMs hk1 hFc rfl
          clear hz1 hk1 hvm ht hB hMs
          obtain ⟨x_1211, rfl⟩ : ∃ z, z = r := ⟨_, rfl⟩
          have hG := hG.trans (lt_eq hru9.symm)
          have rg_x_1211 := fb_rng x_1211
          refine lv_istore_n (lv' := [(2, .int x_1211), (1, .int z_1202), (0, .ref oR)]) hx hb dX3_nextToken_51 rfl hl (by decide) rfl (fun ls hl => ?_)
          refine lv_iload_n hx hb dX3_nextToken_52 rfl (lv_at hl 1 rfl) ?_
          refine lv_aload_n hx hb dX3_nextToken_53 rfl (lv_at hl 2 rfl) ?_
          refine va_get (D := (dC, dI)) (ci := 3) (v := .int iR_end) (C := RX3) (T := TX3) (N := 15) hx hb hts inX3 hown hK hP 0 rfl rfl 4 (by decide) (hts _ wd_205) (fun _ h9 => h9) rfl dX3_nextToken_54 ?_
          refine lv_icmp_lt (tgt := 76) hx hb dX3_nextToken_57 (by decide) (fun c_1212 => ?_) (fun c_1212 => ?_)
          · skip
            have hG := hG.trans (if_pos c_1212)
            have gc_1212 := ti_lt c_1212 rfl rfl
            refine lv_iload_n hx hb dX3_nextToken_76 rfl (lv_at hl 0 rfl) ?_
            have hFc : ∀ q, va_A [] _ q → A q := fun q h => hA q (Nat.le_trans hS.1 (va_nilA h))
            refine va_calli (va_runS (As := [.int x_1211]) (rest := []) ⟨hx, hb, hml, hown, hts⟩ (tX3_isLetter l dC dI _ x_1211 ) (va_cwS 1 hts (wd_S wd_230 wd_231 wd_15 (wd_c wd_232)) rfl rfl rfl ds_yX3_isLetter_1 ⟨Nat.le_of_ble_eq_true rfl, Nat.le_of_ble_eq_true rfl⟩) ⟨Pw.fb, fun U hU hW => Pn.to hK hE hS hA hU hW⟩ rfl rfl hl.1 rfl (lv_room (Nat.le_of_ble_eq_true rfl)) dX3_nextToken_77 ⟨Nat.le_of_ble_eq_true rfl, Nat.le_of_ble_eq_true rfl⟩) hS (fun q _ h => hFc q h) hFc (fun r u t H locs ht hvm hw hB hz1 hk1 hS => ?_)
            obtain ⟨hP, hD, hK⟩ := Bw.same ht hvm hP hD hK hk1 hFc
            clear hz1 hk1 hvm ht hB
            have hq9 := hw.2
            have hw := hw.1
            obtain ⟨x_1213, rfl⟩ : ∃ z, z = r := ⟨_, rfl⟩
            have hq_x_1213 := hq9
            have hG := hG.trans (lt_eq hq_x_1213.symm)
            have rg_x_1213 := fb_rng x_1213
            have bx_1213 := hw.1
            have dx_1213 := bz_tb bx_1213
            refine lv_if_eq (tgt := 90) hx hb dX3_nextToken_80 (by decide) (fun c_1214 => ?_) (fun c_1214 => ?_)
            · skip
              have hG := hG.trans (if_pos c_1214)
              have gc_1214 := ti_eq c_1214 rfl kc_0
              refine lv_iload_n hx hb dX3_nextToken_90 rfl (lv_at hl 0 rfl) ?_
              have hFc : ∀ q, va_A [] _ q → A q := fun q h => hA q (Nat.le_trans hS.1 (va_nilA h))
              refine va_calli (va_runS (As := [.int x_1211]) (rest := []) ⟨hx, hb, hml, hown, hts⟩ (tX3_isDigit l dC dI _ x_1211 ) (va_cwS 1 hts (wd_S wd_238 wd_239 wd_15 (wd_c wd_240)) rfl rfl rfl ds_yX3_isDigit_1 ⟨Nat.le_of_ble_eq_true rfl, Nat.le_of_ble_eq_true rfl⟩) ⟨Pw.fb, fun U hU hW => Pn.to hK hE hS hA hU hW⟩ rfl rfl hl.1 rfl (lv_room (Nat.le_of_ble_eq_true rfl)) dX3_nextToken_91 ⟨Nat.le_of_ble_eq_true rfl, Nat.le_of_ble_eq_true rfl⟩) hS (fun q _ h => hFc q h) hFc (fun r u t H locs ht hvm hw hB hz1 hk1 hS => ?_)
              obtain ⟨hP, hD, hK⟩ := Bw.same ht hvm hP hD hK hk1 hFc
              clear hz1 hk1 hvm ht hB
              have hq9 := hw.2
              have hw := hw.1
              obtain ⟨x_1215, rfl⟩ : ∃ z, z = r := ⟨_, rfl⟩
              have hq_x_1215 := hq9
              have hG := hG.trans (lt_eq hq_x_1215.symm)
              have rg_x_1215 := fb_rng x_1215
              have bx_1215 := hw.1
              have dx_1215 := bz_tb bx_1215
              refine lv_if_eq (tgt := 104) hx hb dX3_nextToken_94 (by decide) (fun c_1216 => ?_) (fun c_1216 => ?_)
              · skip
                have hG := hG.trans (if_pos c_1216)
                have gc_1216 := ti_eq c_1216 rfl kc_0
                refine lv_aload_n hx hb dX3_nextToken_104 rfl (lv_at hl 2 rfl) ?_
                refine lv_iload_n hx hb dX3_nextToken_105 rfl (lv_at hl 0 rfl) ?_
                refine lv_bipush (v := 59) hx hb dX3_nextToken_106 (by decide) ?_
                refine lv_icmp_ne (tgt := 115) hx hb dX3_nextToken_108 (by decide) (fun c_1217 => ?_) (fun c_1217 => ?_)
                · skip
                  have hG := hG.trans (if_neg c_1217)
                  have gc_1217 := ti_ne c_1217 rfl kc_59
                  refine lv_iload_n hx hb dX3_nextToken_115 rfl (lv_at hl 0 rfl) ?_
                  refine lv_bipush (v := 44) hx hb dX3_nextToken_116 (by decide) ?_
                  refine lv_icmp_ne (tgt := 125) hx hb dX3_nextToken_118 (by decide) (fun c_1218 => ?_) (fun c_1218 => ?_)
                  · skip
                    have hG := hG.trans (if_neg c_1218)
                    have gc_1218 := ti_ne c_1218 rfl kc_44
                    refine lv_iconst (v := 5) hx hb dX3_nextToken_125 (by decide) ?_
                    refine va_put (D := (dC, dI)) (ci := 3) (v := .int 5) (ty := .int) (C := RX3) (T := TX3) (N := 15) hx hb hts inX3 tyX3 tyX3_ok nmX3 hown hK hP hD hS 0 rfl rfl 5 (by decide) (hts _ wd_210) (fun _ h9 => h9) rfl (by decide +kernel) rfl rfl (Nat.le_of_ble_eq_true rfl) dX3_nextToken_126 (fun H locs hP hD hS => ?_)
                    obtain ⟨hP, hD⟩ := wl2 (ws' := [(oc3 oR iR_faultNumber iR_faultPlace iR_tapeSize rR_tape iR_end 5 z_1202 x_1210 iR_tokenName (-1) iR_tokenWhole oC iR_courtTold rR_names rR_keys), (arI rR_tape kR_tape 900 fR_tape), (arL rR_keys kR_keys 10 fR_keys)]) hP hD rfl
                    exact wq_v hx hb hr 0 trivial (fun t ht hW => ⟨5, z_1202, x_1210, iR_tokenName, (-1), iR_tokenWhole, hG, Bw.to hP hD hK ht hW⟩) hS dX3_nextToken_129 hlocks
                  · skip
                    have hG := hG.trans (if_pos c_1218)
                    have gc_1218 := ti_eq c_1218 rfl kc_44
                    refine lv_iconst (v := 4) hx hb dX3_nextToken_121 (by decide) ?_
                    refine lv_goto (tgt := 126) hx hb dX3_nextToken_122 (by decide) ?_
                    refine va_put (D := (dC, dI)) (ci := 3) (v := .int 4) (ty := .int) (C := RX3) (T := TX3) (N := 15) hx hb hts inX3 tyX3 tyX3_ok nmX3 hown hK hP hD hS 0 rfl rfl 5 (by decide) (hts _ wd_210) (fun _ h9 => h9) rfl (by decide +kernel) rfl rfl (Nat.le_of_ble_eq_true rfl) dX3_nextToken_126 (fun H locs hP hD hS => ?_)
                    obtain ⟨hP, hD⟩ := wl2 (ws' := [(oc3 oR iR_faultNumber iR_faultPlace iR_tapeSize rR_tape iR_end 4 z_1202 x_1210 iR_tokenName (-1) iR_tokenWhole oC iR_courtTold rR_names rR_keys), (arI rR_tape kR_tape 900 fR_tape), (arL rR_keys kR_keys 10 fR_keys)]) hP hD rfl
                    exact wq_v hx hb hr 0 trivial (fun t ht hW => ⟨4, z_1202, x_1210, iR_tokenName, (-1), iR_tokenWhole, hG, Bw.to hP hD hK ht hW⟩) hS dX3_nextToken_129 hlocks
                · skip
                  have hG := hG.trans (if_pos c_1217)
                  have gc_1217 := ti_eq c_1217 rfl kc_59
                  refine lv_iconst (v := 3) hx hb dX3_nextToken_111 (by decide) ?_
                  refine lv_goto (tgt := 126) hx hb dX3_nextToken_112 (by decide) ?_
                  refine va_put (D := (dC, dI)) (ci := 3) (v := .int 3) (ty := .int) (C := RX3) (T := TX3) (N := 15) hx hb hts inX3 tyX3 tyX3_ok nmX3 hown hK hP hD hS 0 rfl rfl 5 (by decide) (hts _ wd_210) (fun _ h9 => h9) rfl (by decide +kernel) rfl rfl (Nat.le_of_ble_eq_true rfl) dX3_nextToken_126 (fun H locs hP hD hS => ?_)
                  obtain ⟨hP, hD⟩ := wl2 (ws' := [(oc3 oR iR_faultNumber iR_faultPlace iR_tapeSize rR_tape iR_end 3 z_1202 x_1210 iR_tokenName (-1) iR_tokenWhole oC iR_courtTold rR_names rR_keys), (arI rR_tape kR_tape 900 fR_tape), (arL rR_keys kR_keys 10 fR_keys)]) hP hD rfl
                  exact wq_v hx hb hr 0 trivial (fun t ht hW => ⟨3, z_1202, x_1210, iR_tokenName, (-1), iR_tokenWhole, hG, Bw.to hP hD hK ht hW⟩) hS dX3_nextToken_129 hlocks
              · skip
                have hG := hG.trans (if_neg c_1216)
                have gc_1216 := ti_ne c_1216 rfl kc_0
                refine lv_aload_n hx hb dX3_nextToken_97 rfl (lv_at hl 2 rfl) ?_
                have hMs := ml_of hD [true, true, false] (wc := [(oc3 oR iR_faultNumber iR_faultPlace iR_tapeSize rR_tape iR_end iR_tokenKind z_1202 x_1210 iR_tokenName (-1) iR_tokenWhole oC iR_courtTold rR_names rR_keys), (arI rR_tape kR_tape 900 fR_tape)]) rfl
                have hFc := va_freeM hD hS hA _ hMs
                refine va_callv (va_runV (As := []) (rest := []) ⟨hx, hb, hml, hown, hts⟩ (tX3_takeDigits l dC dI _ oR iR_faultNumber iR_faultPlace iR_tapeSize rR_tape fR_tape kR_tape iR_end iR_tokenKind z_1202 x_1210 iR_tokenName (-1) iR_tokenWhole oC iR_courtTold rR_names rR_keys b_iR_tapeSize b_iR_courtTold) (cwV 0 hts (wd_V wd_241 wd_242 wd_243 wd_15 (wd_c wd_244)) rfl rfl rfl dv_yX3_takeDigits_0 ⟨Nat.le_of_ble_eq_true rfl, Nat.le_of_ble_eq_true rfl⟩) ⟨Pw.fb, recvX3 hK hP (q0 := 0) rfl, fun U hU hW => Pw.to (hP.ms _ hMs) (hD.ms _ hMs) (hK.ms [true, false] rfl) hE hS hFc hU hW⟩ rfl rfl hl.1 rfl (lv_room (Nat.le_of_ble_eq_true rfl)) dX3_nextToken_98 ⟨Nat.le_of_ble_eq_true rfl, Nat.le_of_ble_eq_true rfl⟩) hS (fun q _ h => hFc q h) hFc (fun u t H locs ht hvm hw hB hz1 hk1 hS => ?_)
                refine ex_3_2 hB (fun x_1219 x_1220 x_1221 b_x_1219 e_x_1219_0 hB => ?_)
                obtain ⟨hP, hD⟩ := Bw.goN (ws' := [(oc3 oR iR_faultNumber iR_faultPlace iR_tapeSize rR_tape iR_end x_1219 z_1202 x_1220 iR_tokenName (-1) x_1221 oC iR_courtTold rR_names rR_keys), (arI rR_tape kR_tape 900 fR_tape), (arL rR_keys kR_keys 10 fR_keys)]) hB rfl ht hP hD _ hMs hk1 hFc rfl
                clear hz1 hk1 hvm ht hB hMs
                have rg_x_1219 := fb_rng x_1219
                have rg_x_1220 := fb_rng x_1220
                have rg_x_1221 := fb_rng x_1221
                have hG := hG.trans (un3_eq e_x_1219_0)
                refine lv_goto (tgt := 129) hx hb dX3_nextToken_101 (by decide) ?_
                exact wq_v hx hb hr 0 trivial (fun t ht hW => ⟨x_1219, z_1202, x_1220, iR_tokenName, (-1), x_1221, hG, Bw.to hP hD hK ht hW⟩) hS dX3_nextToken_129 hlocks
            · skip
              have hG := hG.trans (if_neg c_1214)
              have gc_1214 := ti_ne c_1214 rfl kc_0
              refine lv_aload_n hx hb dX3_nextToken_83 rfl (lv_at hl 2 rfl) ?_
              have hFc := va_freeI hD hS hA
              refine va_callv (va_runV (As := []) (rest := []) ⟨hx, hb, hml, hown, hts⟩ (tX3_takeLetters l dC dI _ oR iR_faultNumber iR_faultPlace iR_tapeSize rR_tape fR_tape kR_tape iR_end iR_tokenKind z_1202 x_1210 iR_tokenName (-1) iR_tokenWhole oC iR_courtTold rR_names rR_keys fR_keys kR_keys b_iR_tapeSize b_iR_courtTold) (cwV 0 hts (wd_V wd_233 wd_234 wd_235 wd_15 (wd_c wd_236)) rfl rfl rfl dv_yX3_takeLetters_0 ⟨Nat.le_of_ble_eq_true rfl, Nat.le_of_ble_eq_true rfl⟩) ⟨Pw.fb, recvX3 hK hP (q0 := 0) rfl, fun U hU hW => Pw.to hP hD hK hE hS hFc hU hW⟩ rfl rfl hl.1 rfl (lv_room (Nat.le_of_ble_eq_true rfl)) dX3_nextToken_84 ⟨Nat.le_of_ble_eq_true rfl, Nat.le_of_ble_eq_true rfl⟩) hS (fun q _ h => hFc q h) hFc (fun u t H locs ht hvm hw hB hz1 hk1 hS => ?_)
              refine ex_4_2 hB (fun x_1222 x_1223 y_1224 x_1225 b_x_1222 e_x_1222_0 hB => ?_)
              obtain ⟨hP, hD⟩ := Bw.goA (ws' := [(oc3 oR iR_faultNumber iR_faultPlace iR_tapeSize rR_tape iR_end x_1222 z_1202 x_1223 y_1224 x_1225 iR_tokenWhole oC iR_courtTold rR_names rR_keys), (arI rR_tape kR_tape 900 fR_tape), (arL rR_keys kR_keys 10 fR_keys)]) hB rfl ht hFc rfl
              clear hz1 hk1 hvm ht hB
              have rg_x_1222 := fb_rng x_1222
              have rg_x_1223 := fb_rng x_1223
              have rg_x_1225 := fb_rng x_1225
              have hG := hG.trans (un4_eq e_x_1222_0)
              refine lv_goto (tgt := 129) hx hb dX3_nextToken_87 (by decide) ?_
              exact wq_v hx hb hr 0 trivial (fun t ht hW => ⟨x_1222, z_1202, x_1223, y_1224, x_1225, iR_tokenWhole, hG, Bw.to hP hD hK ht hW⟩) hS dX3_nextToken_129 hlocks
          · skip
            have hG := hG.trans (if_neg c_1212)
            have gc_1212 := ti_nlt c_1212 rfl rfl
            exact ((om_1636ca6f gc_1204 gc_1212)).elim
        · skip
          have hG := hG.trans (if_pos c_1209)
          have gc_1209 := ti_eq c_1209 rfl kc_32
          obtain ⟨x_1226, ex_1226⟩ : ∃ z : Int32, z = z_1202 + Int32.ofInt 1 := ⟨_, rfl⟩
          have hG := hG.trans (lt_eq ex_1226)
          have vx_1226 : x_1226.toInt = z_1202.toInt + 1 := ti_add (y := 1) ex_1226 rfl kc_1 (om_f7d4aae6 hi0_n_1203.1) (om_219cd8d8 rg_iR_end.2 gc_1204)
          refine lv_iinc (v := x_1226) (lv' := [(1, .int x_1226), (0, .ref oR)]) hx hb dX3_nextToken_23 hl (k := 0) rfl ex_1226.symm (by decide) rfl (fun ls hl => ?_)
          refine lv_goto (tgt := 5) hx hb dX3_nextToken_26 (by decide) ?_
          exact ih_n_1203 x_1226 _ _ _  ⟨(om_ecc37d4d hi0_n_1203.1 vx_1226), (om_5c6bfac3 rg_iR_end.2 gc_1204 vx_1226)⟩ (ms_lt hm_n_1203 (om_b9393183 vx_1226) (om_bc4d5040 rg_iR_end.2 gc_1204)) hG hP hD hS (lv_sub hl [0, 1] rfl)
  exact key_n_1203 (((2147483647 - iR_tokenTo.toInt).toNat) + 1) iR_tokenTo _ _ _  ⟨(om_341146a3 rg_iR_tokenTo.1), (om_5a94aa53 rg_iR_tokenTo.2)⟩ (Nat.lt_add_one _) hG hP hD hS hl
set_option maxHeartbeats 4000000 in
set_option maxRecDepth 100000 in
theorem tX3_endNode (l : Launch) (dC : Nat → ClassId) (dI : Nat → Nat → Nat) (sz : Nat) (oR : Nat) (iR_faultNumber : Int32) (iR_faultPlace : Int32) (iR_tapeSize : Int32) (rR_tape : Nat) (iR_end : Int32) (iR_tokenKind : Int32) (iR_tokenFrom : Int32) (iR_tokenTo : Int32) (iR_tokenName : Int64) (iR_tokenKey : Int32) (iR_tokenWhole : Int32) (oC : Nat) (iR_courtTold : Int32) (rR_names : Nat) (fR_names : Nat → Int64) (kR_names : ClassId) (rR_keys : Nat) (iC_nodes : Int32) (iC_words : Int32) (iC_chances : Int32) (iC_unsures : Int32) (iC_slips : Int32) (iC_throneNode : Int32) (iC_saidWorth : Int32) (iC_unit : Int32) (rC_kind : Nat) (fC_kind : Nat → Int32) (kC_kind : ClassId) (rC_parts : Nat) (rC_partNodes : Nat) (rC_weights : Nat) (rC_weightSums : Nat) (fC_weightSums : Nat → Int32) (kC_weightSums : ClassId) (rC_toldWorths : Nat) (fC_toldWorths : Nat → Int32) (kC_toldWorths : ClassId) (rC_steps : Nat) (rC_below : Nat) (rC_above : Nat) (rC_unsureWords : Nat) (rC_unsureWorths : Nat) (p0 : Int64) (p1 : Int32) (b_iR_tapeSize : 0 ≤ iR_tapeSize.toInt ∧ iR_tapeSize.toInt ≤ 900) (b_iR_courtTold : 0 ≤ iR_courtTold.toInt ∧ iR_courtTold.toInt ≤ 1) (b_iC_nodes : 0 ≤ iC_nodes.toInt ∧ iC_nodes.toInt ≤ 18) (b_iC_unsures : 0 ≤ iC_unsures.toInt ∧ iC_unsures.toInt ≤ 4) (b_iC_throneNode : (-1) ≤ iC_throneNode.toInt ∧ iC_throneNode.toInt ≤ 17)  : Met l yX3_endNode (Cond.code yX3_endNode cX3_endNode 4 none :: wG) ({ frames := 1, cells := 0, slots := 0, locals := 21 }) (va_Pc [.ref oR, .long p0, .int p1] (Pw dC dI sz [(oc3 oR iR_faultNumber iR_faultPlace iR_tapeSize rR_tape iR_end iR_tokenKind iR_tokenFrom iR_tokenTo iR_tokenName iR_tokenKey iR_tokenWhole oC iR_courtTold rR_names rR_keys), (arL rR_names kR_names 18 fR_names), (oc1 oC iC_nodes iC_words iC_chances iC_unsures iC_slips iC_throneNode iC_saidWorth iC_unit rC_kind rC_parts rC_partNodes rC_weights rC_weightSums rC_toldWorths rC_steps rC_below rC_above rC_unsureWords rC_unsureWorths), (arI rC_kind kC_kind 18 fC_kind), (arI rC_weightSums kC_weightSums 18 fC_weightSums), (arI rC_toldWorths kC_toldWorths 18 fC_toldWorths)] [(kR_names, .long), (kC_kind, .int), (kC_weightSums, .int), (kC_toldWorths, .int)])) (va_Qv (fun (_ : Nat) => True) (fun (_ : Nat) (t : State) => ∃ (nfR_names : Nat → Int64) (niC_nodes : Int32) (niC_words : Int32) (niC_chances : Int32) (niC_unit : Int32) (nfC_toldWorths : Nat → Int32), (0 ≤ niC_nodes.toInt ∧ niC_nodes.toInt ≤ 18) ∧ (PX3_endNode fR_names iC_nodes iC_words iC_chances iC_unit fC_kind fC_weightSums fC_toldWorths p0 p1 = (nfR_names, niC_nodes, niC_words, niC_chances, niC_unit, nfC_toldWorths)) ∧ Bw dC dI (va_A [(oc3 oR iR_faultNumber iR_faultPlace iR_tapeSize rR_tape iR_end iR_tokenKind iR_tokenFrom iR_tokenTo iR_tokenName iR_tokenKey iR_tokenWhole oC iR_courtTold rR_names rR_keys), (arL rR_names kR_names 18 fR_names), (oc1 oC iC_nodes iC_words iC_chances iC_unsures iC_slips iC_throneNode iC_saidWorth iC_unit rC_kind rC_parts rC_partNodes rC_weights rC_weightSums rC_toldWorths rC_steps rC_below rC_above rC_unsureWords rC_unsureWorths), (arI rC_kind kC_kind 18 fC_kind), (arI rC_weightSums kC_weightSums 18 fC_weightSums), (arI rC_toldWorths kC_toldWorths 18 fC_toldWorths)] sz) [(oc3 oR iR_faultNumber iR_faultPlace iR_tapeSize rR_tape iR_end iR_tokenKind iR_tokenFrom iR_tokenTo iR_tokenName iR_tokenKey iR_tokenWhole oC iR_courtTold rR_names rR_keys), (arL rR_names kR_names 18 nfR_names), (oc1 oC niC_nodes niC_words niC_chances iC_unsures iC_slips iC_throneNode iC_saidWorth niC_unit rC_kind rC_parts rC_partNodes rC_weights rC_weightSums rC_toldWorths rC_steps rC_below rC_above rC_unsureWords rC_unsureWorths), (arI rC_kind kC_kind 18 fC_kind), (arI rC_weightSums kC_weightSums 18 fC_weightSums), (arI rC_toldWorths kC_toldWorths 18 nfC_toldWorths)] [(kR_names, .long), (kC_kind, .int), (kC_weightSums, .int), (kC_toldWorths, .int)] t) (va_A [(oc3 oR iR_faultNumber iR_faultPlace iR_tapeSize rR_tape iR_end iR_tokenKind iR_tokenFrom iR_tokenTo iR_tokenName iR_tokenKey iR_tokenWhole oC iR_courtTold rR_names rR_keys), (arL rR_names kR_names 18 fR_names), (oc1 oC iC_nodes iC_words iC_chances iC_unsures iC_slips iC_throneNode iC_saidWorth iC_unit rC_kind rC_parts rC_partNodes rC_weights rC_weightSums rC_toldWorths rC_steps rC_below rC_above rC_unsureWords rC_unsureWorths), (arI rC_kind kC_kind 18 fC_kind), (arI rC_weightSums kC_weightSums 18 fC_weightSums), (arI rC_toldWorths kC_toldWorths 18 fC_toldWorths)] sz)) 0 0 (va_A [(oc3 oR iR_faultNumber iR_faultPlace iR_tapeSize rR_tape iR_end iR_tokenKind iR_tokenFrom iR_tokenTo iR_tokenName iR_tokenKey iR_tokenWhole oC iR_courtTold rR_names rR_keys), (arL rR_names kR_names 18 fR_names), (oc1 oC iC_nodes iC_words iC_chances iC_unsures iC_slips iC_throneNode iC_saidWorth iC_unit rC_kind rC_parts rC_partNodes rC_weights rC_weightSums rC_toldWorths rC_steps rC_below rC_above rC_unsureWords rC_unsureWorths), (arI rC_kind kC_kind 18 fC_kind), (arI rC_weightSums kC_weightSums 18 fC_weightSums), (arI rC_toldWorths kC_toldWorths 18 fC_toldWorths)] sz) := by
  refine Met.ofW (cc := cX3_endNode) (maxL := 4) (ret := none) pnX3 rfl ?_
  intro p e s m args below meth c s₁ B hml hv
  obtain ⟨rfl, hsz, hP, hK, hD0, hE⟩ := hv
  have hx := B.exec
  have hb := B.bytes
  have hr := B.returns
  have hts : ∀ w ∈ wG, w.before ([.ref oR, .long p0, .int p1] : List Value).toArray s = true := fun w h => atoms_spec (ws := Cond.code yX3_endNode cX3_endNode 4 none :: wG) B.pre w (List.mem_cons_of_mem _ h)
  have hown : s.vm.findClass RX3 = some m.cls := own_of B.named rfl
  have hlocks := B.notSynchronized
  subst hsz
  have hD := hD0.self (sz := s.heap.size)
  generalize hAe : va_A [(oc3 oR iR_faultNumber iR_faultPlace iR_tapeSize rR_tape iR_end iR_tokenKind iR_tokenFrom iR_tokenTo iR_tokenName iR_tokenKey iR_tokenWhole oC iR_courtTold rR_names rR_keys), (arL rR_names kR_names 18 fR_names), (oc1 oC iC_nodes iC_words iC_chances iC_unsures iC_slips iC_throneNode iC_saidWorth iC_unit rC_kind rC_parts rC_partNodes rC_weights rC_weightSums rC_toldWorths rC_steps rC_below rC_above rC_unsureWords rC_unsureWorths), (arI rC_kind kC_kind 18 fC_kind), (arI rC_weightSums kC_weightSums 18 fC_weightSums), (arI rC_toldWorths kC_toldWorths 18 fC_toldWorths)] s.heap.size = A at hD hE ⊢
  have hA : ∀ q : Nat, s.heap.size ≤ q → A q := fun q h => by rw [← hAe]; exact Or.inr h
  have hS : va_S A s.heap s.heap [] := va_S.rf
  have hl := lv_entry ([.ref oR, .long p0, .int p1]) (n := 4) (Nat.le_of_ble_eq_true rfl)
  rw [lg_entry_eq]
  generalize (lg_sl ([.ref oR, .long p0, .int p1]) ++ List.replicate (4 - (lg_sl ([.ref oR, .long p0, .int p1])).length) Slot.unset).toArray = ls at hl ⊢
  have hl : lv_has ls 4 [(0, .ref oR), (1, .long p0), (3, .int p1)] := hl
  have hG := PX3_endNode_eq fR_names iC_nodes iC_words iC_chances iC_unit fC_kind fC_weightSums fC_toldWorths p0 p1
  refine lv_aload_n hx hb dX3_endNode_0 rfl (lv_at hl 0 rfl) ?_
  refine va_get (D := (dC, dI)) (ci := 3) (v := .ref oC) (C := RX3) (T := TX3) (N := 15) hx hb hts inX3 hown hK hP 0 rfl rfl 11 (by decide) (hts _ wd_46) (fun _ h9 => h9) rfl dX3_endNode_1 ?_
  refine va_get (D := (dC, dI)) (ci := 1) (v := .int iC_nodes) (C := RX1) (T := TX1) (N := 19) hx hb hts inX1 hown hK hP 2 rfl rfl 0 (by decide) (hts _ wd_287) (fun _ h9 => h9) rfl dX3_endNode_4 ?_
  refine lv_bipush (v := 18) hx hb dX3_endNode_7 (by decide) ?_
  refine lv_icmp_ge (tgt := 25) hx hb dX3_endNode_9 (by decide) (fun c_1239 => ?_) (fun c_1239 => ?_)
  · skip
    have hG := hG.trans (if_pos c_1239)
    have gc_1239 := ti_le c_1239 kc_18 rfl
    refine lv_aload_n hx hb dX3_endNode_25 rfl (lv_at hl 0 rfl) ?_
    refine va_get (D := (dC, dI)) (ci := 3) (v := .ref oC) (C := RX3) (T := TX3) (N := 15) hx hb hts inX3 hown hK hP 0 rfl rfl 11 (by decide) (hts _ wd_46) (fun _ h9 => h9) rfl dX3_endNode_26 ?_
    refine lv_iload_n hx hb dX3_endNode_29 rfl (lv_at hl 2 rfl) ?_
    have hMs := ml_of hD [false, false, true, true, true, true] (wc := [(oc1 oC iC_nodes iC_words iC_chances iC_unsures iC_slips iC_throneNode iC_saidWorth iC_unit rC_kind rC_parts rC_partNodes rC_weights rC_weightSums rC_toldWorths rC_steps rC_below rC_above rC_unsureWords rC_unsureWorths), (arI rC_kind kC_kind 18 fC_kind), (arI rC_weightSums kC_weightSums 18 fC_weightSums), (arI rC_toldWorths kC_toldWorths 18 fC_toldWorths)]) rfl
    have hFc := va_freeM hD hS hA _ hMs
    refine va_callv (va_runV (As := [.int p1]) (rest := []) ⟨hx, hb, hml, hown, hts⟩ (tX1_endNode l dC dI _ oC iC_nodes iC_words iC_chances iC_unsures iC_slips iC_throneNode iC_saidWorth iC_unit rC_kind fC_kind kC_kind rC_parts rC_partNodes rC_weights rC_weightSums fC_weightSums kC_weightSums rC_toldWorths fC_toldWorths kC_toldWorths rC_steps rC_below rC_above rC_unsureWords rC_unsureWorths p1 b_iC_nodes b_iC_unsures b_iC_throneNode) (cwV 1 hts (wd_V wd_292 wd_293 wd_294 wd_19 (wd_c wd_295)) rfl rfl rfl dv_yX1_endNode_1 ⟨Nat.le_of_ble_eq_true rfl, Nat.le_of_ble_eq_true rfl⟩) ⟨Pw.fb, recvX1 hK hP (q0 := 2) rfl, fun U hU hW => Pw.to (hP.ms _ hMs) (hD.ms _ hMs) (hK.ms [false, true, true, true] rfl) hE hS hFc hU hW⟩ rfl rfl hl.1 rfl (lv_room (Nat.le_of_ble_eq_true rfl)) dX3_endNode_30 ⟨Nat.le_of_ble_eq_true rfl, Nat.le_of_ble_eq_true rfl⟩) hS (fun q _ h => hFc q h) hFc (fun u t H locs ht hvm hw hB hz1 hk1 hS => ?_)
    refine ex_5_2 hB (fun x_1240 x_1241 x_1242 x_1243 f_1244 b_x_1240 e_x_1240_0 hB => ?_)
    obtain ⟨hP, hD⟩ := Bw.goN (ws' := [(oc3 oR iR_faultNumber iR_faultPlace iR_tapeSize rR_tape iR_end iR_tokenKind iR_tokenFrom iR_tokenTo iR_tokenName iR_tokenKey iR_tokenWhole oC iR_courtTold rR_names rR_keys), (arL rR_names kR_names 18 fR_names), (oc1 oC x_1240 x_1241 x_1242 iC_unsures iC_slips iC_throneNode iC_saidWorth x_1243 rC_kind rC_parts rC_partNodes rC_weights rC_weightSums rC_toldWorths rC_steps rC_below rC_above rC_unsureWords rC_unsureWorths), (arI rC_kind kC_kind 18 fC_kind), (arI rC_weightSums kC_weightSums 18 fC_weightSums), (arI rC_toldWorths kC_toldWorths 18 f_1244)]) hB rfl ht hP hD _ hMs hk1 hFc rfl
    clear hz1 hk1 hvm ht hB hMs
    have hG := hG.trans (un5_eq e_x_1240_0)
    exact wq_v hx hb hr 0 trivial (fun t ht hW => ⟨fR_names, x_1240, x_1241, x_1242, x_1243, f_1244, b_x_1240, hG, Bw.to hP hD hK ht hW⟩) hS dX3_endNode_33 hlocks
  · skip
    have hG := hG.trans (if_neg c_1239)
    have gc_1239 := ti_nle c_1239 kc_18 rfl
    refine lv_aload_n hx hb dX3_endNode_12 rfl (lv_at hl 0 rfl) ?_
    refine va_get (D := (dC, dI)) (ci := 3) (v := .ref rR_names) (C := RX3) (T := TX3) (N := 15) hx hb hts inX3 hown hK hP 0 rfl rfl 13 (by decide) (hts _ wd_47) (fun _ h9 => h9) rfl dX3_endNode_13 ?_
    refine lv_aload_n hx hb dX3_endNode_16 rfl (lv_at hl 0 rfl) ?_
    refine va_get (D := (dC, dI)) (ci := 3) (v := .ref oC) (C := RX3) (T := TX3) (N := 15) hx hb hts inX3 hown hK hP 0 rfl rfl 11 (by decide) (hts _ wd_46) (fun _ h9 => h9) rfl dX3_endNode_17 ?_
    refine va_get (D := (dC, dI)) (ci := 1) (v := .int iC_nodes) (C := RX1) (T := TX1) (N := 19) hx hb hts inX1 hown hK hP 2 rfl rfl 0 (by decide) (hts _ wd_287) (fun _ h9 => h9) rfl dX3_endNode_20 ?_
    refine lv_lload_n hx hb dX3_endNode_23 rfl (lv_at hl 1 rfl) ?_
    refine va_last hx hb hK hP hD hS 1 0 rfl rfl (ti_in rfl b_iC_nodes.1 (om_c3e6050f gc_1239)) dX3_endNode_24 (fun H locs hP hD hS => ?_)
    obtain ⟨f_1246, ef_1246⟩ : ∃ g : Nat → Int64, g = vp_updL fR_names iC_nodes.toNatClampNeg p0 := ⟨_, rfl⟩
    rw [← ef_1246] at hP hD
    have hG := hG.trans (lt_eq ef_1246)
    obtain ⟨hP, hD⟩ := wl2 (ws' := [(oc3 oR iR_faultNumber iR_faultPlace iR_tapeSize rR_tape iR_end iR_tokenKind iR_tokenFrom iR_tokenTo iR_tokenName iR_tokenKey iR_tokenWhole oC iR_courtTold rR_names rR_keys), (arL rR_names kR_names 18 f_1246), (oc1 oC iC_nodes iC_words iC_chances iC_unsures iC_slips iC_throneNode iC_saidWorth iC_unit rC_kind rC_parts rC_partNodes rC_weights rC_weightSums rC_toldWorths rC_steps rC_below rC_above rC_unsureWords rC_unsureWorths), (arI rC_kind kC_kind 18 fC_kind), (arI rC_weightSums kC_weightSums 18 fC_weightSums), (arI rC_toldWorths kC_toldWorths 18 fC_toldWorths)]) hP hD rfl
    refine lv_aload_n hx hb dX3_endNode_25 rfl (lv_at hl 0 rfl) ?_
    refine va_get (D := (dC, dI)) (ci := 3) (v := .ref oC) (C := RX3) (T := TX3) (N := 15) hx hb hts inX3 hown hK hP 0 rfl rfl 11 (by decide) (hts _ wd_46) (fun _ h9 => h9) rfl dX3_endNode_26 ?_
    refine lv_iload_n hx hb dX3_endNode_29 rfl (lv_at hl 2 rfl) ?_
    have hMs := ml_of hD [false, false, true, true, true, true] (wc := [(oc1 oC iC_nodes iC_words iC_chances iC_unsures iC_slips iC_throneNode iC_saidWorth iC_unit rC_kind rC_parts rC_partNodes rC_weights rC_weightSums rC_toldWorths rC_steps rC_below rC_above rC_unsureWords rC_unsureWorths), (arI rC_kind kC_kind 18 fC_kind), (arI rC_weightSums kC_weightSums 18 fC_weightSums), (arI rC_toldWorths kC_toldWorths 18 fC_toldWorths)]) rfl
    have hFc := va_freeM hD hS hA _ hMs
    refine va_callv (va_runV (As := [.int p1]) (rest := []) ⟨hx, hb, hml, hown, hts⟩ (tX1_endNode l dC dI _ oC iC_nodes iC_words iC_chances iC_unsures iC_slips iC_throneNode iC_saidWorth iC_unit rC_kind fC_kind kC_kind rC_parts rC_partNodes rC_weights rC_weightSums fC_weightSums kC_weightSums rC_toldWorths fC_toldWorths kC_toldWorths rC_steps rC_below rC_above rC_unsureWords rC_unsureWorths p1 b_iC_nodes b_iC_unsures b_iC_throneNode) (cwV 1 hts (wd_V wd_292 wd_293 wd_294 wd_19 (wd_c wd_295)) rfl rfl rfl dv_yX1_endNode_1 ⟨Nat.le_of_ble_eq_true rfl, Nat.le_of_ble_eq_true rfl⟩) ⟨Pw.fb, recvX1 hK hP (q0 := 2) rfl, fun U hU hW => Pw.to (hP.ms _ hMs) (hD.ms _ hMs) (hK.ms [false, true, true, true] rfl) hE hS hFc hU hW⟩ rfl rfl hl.1 rfl (lv_room (Nat.le_of_ble_eq_true rfl)) dX3_endNode_30 ⟨Nat.le_of_ble_eq_true rfl, Nat.le_of_ble_eq_true rfl⟩) hS (fun q _ h => hFc q h) hFc (fun u t H locs ht hvm hw hB hz1 hk1 hS => ?_)
    refine ex_5_2 hB (fun x_1247 x_1248 x_1249 x_1250 f_1251 b_x_1247 e_x_1247_0 hB => ?_)
    obtain ⟨hP, hD⟩ := Bw.goN (ws' := [(oc3 oR iR_faultNumber iR_faultPlace iR_tapeSize rR_tape iR_end iR_tokenKind iR_tokenFrom iR_tokenTo iR_tokenName iR_tokenKey iR_tokenWhole oC iR_courtTold rR_names rR_keys), (arL rR_names kR_names 18 f_1246), (oc1 oC x_1247 x_1248 x_1249 iC_unsures iC_slips iC_throneNode iC_saidWorth x_1250 rC_kind rC_parts rC_partNodes rC_weights rC_weightSums rC_toldWorths rC_steps rC_below rC_above rC_unsureWords rC_unsureWorths), (arI rC_kind kC_kind 18 fC_kind), (arI rC_weightSums kC_weightSums 18 fC_weightSums), (arI rC_toldWorths kC_toldWorths 18 f_1251)]) hB rfl ht hP hD _ hMs hk1 hFc rfl
    clear hz1 hk1 hvm ht hB hMs
    have hG := hG.trans (un5_eq e_x_1247_0)
    exact wq_v hx hb hr 0 trivial (fun t ht hW => ⟨f_1246, x_1247, x_1248, x_1249, x_1250, f_1251, b_x_1247, hG, Bw.to hP hD hK ht hW⟩) hS dX3_endNode_33 hlocks
set_option maxHeartbeats 4000000 in
set_option maxRecDepth 100000 in
theorem tX3_putBytes (l : Launch) (dC : Nat → ClassId) (dI : Nat → Nat → Nat) (sz : Nat) (oR : Nat) (iR_faultNumber : Int32) (iR_faultPlace : Int32) (iR_tapeSize : Int32) (rR_tape : Nat) (fR_tape : Nat → Int32) (kR_tape : ClassId) (iR_end : Int32) (iR_tokenKind : Int32) (iR_tokenFrom : Int32) (iR_tokenTo : Int32) (iR_tokenName : Int64) (iR_tokenKey : Int32) (iR_tokenWhole : Int32) (oC : Nat) (iR_courtTold : Int32) (rR_names : Nat) (rR_keys : Nat) (p0 : Int32) (b_iR_tapeSize : 0 ≤ iR_tapeSize.toInt ∧ iR_tapeSize.toInt ≤ 900) (b_iR_courtTold : 0 ≤ iR_courtTold.toInt ∧ iR_courtTold.toInt ≤ 1) (htp : iR_tapeSize.toInt ≤ 896) : Met l yX3_putBytes (Cond.code yX3_putBytes cX3_putBytes 3 none :: wG) ({ frames := 0, cells := 0, slots := 0, locals := 0 }) (va_Pc [.ref oR, .int p0] (Pw dC dI sz [(oc3 oR iR_faultNumber iR_faultPlace iR_tapeSize rR_tape iR_end iR_tokenKind iR_tokenFrom iR_tokenTo iR_tokenName iR_tokenKey iR_tokenWhole oC iR_courtTold rR_names rR_keys), (arI rR_tape kR_tape 900 fR_tape)] [(kR_tape, .byte)])) (va_Qv (fun (_ : Nat) => True) (fun (_ : Nat) (t : State) => ∃ (niR_tapeSize : Int32) (nfR_tape : Nat → Int32), (0 ≤ niR_tapeSize.toInt ∧ niR_tapeSize.toInt ≤ 900) ∧ (niR_tapeSize.toInt = iR_tapeSize.toInt + 4) ∧ (PX3_putBytes iR_tapeSize fR_tape p0 = (niR_tapeSize, nfR_tape)) ∧ Bw dC dI (va_A [(oc3 oR iR_faultNumber iR_faultPlace iR_tapeSize rR_tape iR_end iR_tokenKind iR_tokenFrom iR_tokenTo iR_tokenName iR_tokenKey iR_tokenWhole oC iR_courtTold rR_names rR_keys), (arI rR_tape kR_tape 900 fR_tape)] sz) [(oc3 oR iR_faultNumber iR_faultPlace niR_tapeSize rR_tape iR_end iR_tokenKind iR_tokenFrom iR_tokenTo iR_tokenName iR_tokenKey iR_tokenWhole oC iR_courtTold rR_names rR_keys), (arI rR_tape kR_tape 900 nfR_tape)] [(kR_tape, .byte)] t) (va_A [(oc3 oR iR_faultNumber iR_faultPlace iR_tapeSize rR_tape iR_end iR_tokenKind iR_tokenFrom iR_tokenTo iR_tokenName iR_tokenKey iR_tokenWhole oC iR_courtTold rR_names rR_keys), (arI rR_tape kR_tape 900 fR_tape)] sz)) 0 0 (va_A [(oc3 oR iR_faultNumber iR_faultPlace iR_tapeSize rR_tape iR_end iR_tokenKind iR_tokenFrom iR_tokenTo iR_tokenName iR_tokenKey iR_tokenWhole oC iR_courtTold rR_names rR_keys), (arI rR_tape kR_tape 900 fR_tape)] sz) := by
  refine Met.ofW (cc := cX3_putBytes) (maxL := 3) (ret := none) pnX3 rfl ?_
  intro p e s m args below meth c s₁ B hml hv
  obtain ⟨rfl, hsz, hP, hK, hD0, hE⟩ := hv
  have hx := B.exec
  have hb := B.bytes
  have hr := B.returns
  have hts : ∀ w ∈ wG, w.before ([.ref oR, .int p0] : List Value).toArray s = true := fun w h => atoms_spec (ws := Cond.code yX3_putBytes cX3_putBytes 3 none :: wG) B.pre w (List.mem_cons_of_mem _ h)
  have hown : s.vm.findClass RX3 = some m.cls := own_of B.named rfl
  have hlocks := B.notSynchronized
  subst hsz
  have hD := hD0.self (sz := s.heap.size)
  generalize hAe : va_A [(oc3 oR iR_faultNumber iR_faultPlace iR_tapeSize rR_tape iR_end iR_tokenKind iR_tokenFrom iR_tokenTo iR_tokenName iR_tokenKey iR_tokenWhole oC iR_courtTold rR_names rR_keys), (arI rR_tape kR_tape 900 fR_tape)] s.heap.size = A at hD hE ⊢
  have hA : ∀ q : Nat, s.heap.size ≤ q → A q := fun q h => by rw [← hAe]; exact Or.inr h
  have hS : va_S A s.heap s.heap [] := va_S.rf
  have hl := lv_entry ([.ref oR, .int p0]) (n := 3) (Nat.le_of_ble_eq_true rfl)
  rw [lg_entry_eq]
  generalize (lg_sl ([.ref oR, .int p0]) ++ List.replicate (3 - (lg_sl ([.ref oR, .int p0])).length) Slot.unset).toArray = ls at hl ⊢
  have hl : lv_has ls 3 [(0, .ref oR), (1, .int p0)] := hl
  have hG := PX3_putBytes_eq iR_tapeSize fR_tape p0
  refine lv_bipush (v := 24) hx hb dX3_putBytes_0 (by decide) ?_
  refine lv_istore_n (lv' := [(2, .int 24), (0, .ref oR), (1, .int p0)]) hx hb dX3_putBytes_2 rfl hl (by decide) rfl (fun ls hl => ?_)
  have hl := lv_sub hl (l' := [(2, .int 24), (0, .ref oR), (1, .int p0)]) [0, 1, 2] rfl
  have key_n_1266 : ∀ (n_1266 : Nat) (z_1263 : Int32) (z_1264 : Int32) (f_1265 : Nat → Int32) (H : Heap) (locs : List Loc) (ls : Array Slot), (0 ≤ z_1264.toInt ∧ z_1264.toInt ≤ 900) → (-8 ≤ z_1263.toInt ∧ z_1263.toInt ≤ 24) → (8 * z_1264.toInt + z_1263.toInt = 8 * iR_tapeSize.toInt + 24) → (z_1263.toInt + 8).toNat < n_1266 → (PX3_putBytes iR_tapeSize fR_tape p0 = HX3_putBytes_0 p0 n_1266 z_1263 z_1264 f_1265) → va_P (dC, dI) vwCl [(oc3 oR iR_faultNumber iR_faultPlace z_1264 rR_tape iR_end iR_tokenKind iR_tokenFrom iR_tokenTo iR_tokenName iR_tokenKey iR_tokenWhole oC iR_courtTold rR_names rR_keys), (arI rR_tape kR_tape 900 f_1265)] H → va_D A [(oc3 oR iR_faultNumber iR_faultPlace z_1264 rR_tape iR_end iR_tokenKind iR_tokenFrom iR_tokenTo iR_tokenName iR_tokenKey iR_tokenWhole oC iR_courtTold rR_names rR_keys), (arI rR_tape kR_tape 900 f_1265)] → va_S A s.heap H locs → lv_has ls 3 [(2, .int z_1263), (0, .ref oR), (1, .int p0)] → W p l e (headSpec (Cond.code yX3_putBytes cX3_putBytes 3 none :: wG) ({ frames := 0, cells := 0, slots := 0, locals := 0 })).room s m ([.ref oR, .int p0] : List Value).toArray below meth c H locs 0 0 (MQ below (va_Qv (fun (_ : Nat) => True) (fun (_ : Nat) (t : State) => ∃ (niR_tapeSize : Int32) (nfR_tape : Nat → Int32), (0 ≤ niR_tapeSize.toInt ∧ niR_tapeSize.toInt ≤ 900) ∧ (niR_tapeSize.toInt = iR_tapeSize.toInt + 4) ∧ (PX3_putBytes iR_tapeSize fR_tape p0 = (niR_tapeSize, nfR_tape)) ∧ Bw dC dI A [(oc3 oR iR_faultNumber iR_faultPlace niR_tapeSize rR_tape iR_end iR_tokenKind iR_tokenFrom iR_tokenTo iR_tokenName iR_tokenKey iR_tokenWhole oC iR_courtTold rR_names rR_keys), (arI rR_tape kR_tape 900 nfR_tape)] [(kR_tape, .byte)] t) A) ([.ref oR, .int p0] : List Value).toArray s 0 0 A) (F0 m 3 ls []) := by
    intro n_1266
    induction n_1266 with
    | zero => intro z_1263 z_1264 f_1265 H locs ls b_z_1264 hi0_n_1266 hi1_n_1266 hm; exact absurd hm (Nat.not_lt_zero _)
    | succ n_1266 ih_n_1266 =>
      intro z_1263 z_1264 f_1265 H locs ls b_z_1264 hi0_n_1266 hi1_n_1266 hm_n_1266 hG hP hD hS hl
      have hG := hG.trans (HX3_putBytes_0_eq _ _ _ _ _)
      refine lv_iload_n hx hb dX3_putBytes_3 rfl (lv_at hl 0 rfl) ?_
      refine lv_if_lt (tgt := 46) hx hb dX3_putBytes_4 (by decide) (fun c_1267 => ?_) (fun c_1267 => ?_)
      · skip
        have hG := hG.trans (if_pos c_1267)
        have gc_1267 := ti_lt c_1267 rfl kc_0
        exact wq_v hx hb hr 0 trivial (fun t ht hW => ⟨z_1264, f_1265, b_z_1264, (om_d56d0531 hi0_n_1266.1 hi1_n_1266 gc_1267), hG, Bw.to hP hD hK ht hW⟩) hS dX3_putBytes_46 hlocks
      · skip
        have hG := hG.trans (if_neg c_1267)
        have gc_1267 := ti_nlt c_1267 rfl kc_0
        refine lv_aload_n hx hb dX3_putBytes_7 rfl (lv_at hl 1 rfl) ?_
        refine va_get (D := (dC, dI)) (ci := 3) (v := .int z_1264) (C := RX3) (T := TX3) (N := 15) hx hb hts inX3 hown hK hP 0 rfl rfl 2 (by decide) (hts _ wd_179) (fun _ h9 => h9) rfl dX3_putBytes_8 ?_
        refine lv_sipush (v := 900) hx hb dX3_putBytes_11 (by decide) ?_
        refine lv_icmp_ge (tgt := 40) hx hb dX3_putBytes_14 (by decide) (fun c_1268 => ?_) (fun c_1268 => ?_)
        · skip
          have hG := hG.trans (if_pos c_1268)
          have gc_1268 := ti_le c_1268 kc_900 rfl
          exact ((om_b094b61d htp hi1_n_1266 gc_1267 gc_1268)).elim
        · skip
          have hG := hG.trans (if_neg c_1268)
          have gc_1268 := ti_nle c_1268 kc_900 rfl
          refine lv_aload_n hx hb dX3_putBytes_17 rfl (lv_at hl 1 rfl) ?_
          refine va_get (D := (dC, dI)) (ci := 3) (v := .ref rR_tape) (C := RX3) (T := TX3) (N := 15) hx hb hts inX3 hown hK hP 0 rfl rfl 3 (by decide) (hts _ wd_44) (fun _ h9 => h9) rfl dX3_putBytes_18 ?_
          refine lv_aload_n hx hb dX3_putBytes_21 rfl (lv_at hl 1 rfl) ?_
          refine va_get (D := (dC, dI)) (ci := 3) (v := .int z_1264) (C := RX3) (T := TX3) (N := 15) hx hb hts inX3 hown hK hP 0 rfl rfl 2 (by decide) (hts _ wd_179) (fun _ h9 => h9) rfl dX3_putBytes_22 ?_
          refine lv_iload_n hx hb dX3_putBytes_25 rfl (lv_at hl 2 rfl) ?_
          refine lv_iload_n hx hb dX3_putBytes_26 rfl (lv_at hl 0 rfl) ?_
          refine lv_ishr hx hb dX3_putBytes_27 ?_
          refine lv_topi (fun x_1269 ex_1269 => ?_)
          have hG := hG.trans (lt_eq ex_1269)
          obtain ⟨x_1270, ex_1270⟩ : ∃ z : Int32, z = (x_1269 : Int32).toInt8.toInt32 := ⟨_, rfl⟩
          have hG := hG.trans (lt_eq ex_1270)
          refine lv_i2b (v := x_1270) hx hb dX3_putBytes_28 ex_1270.symm ?_
          refine va_bast hx hb hK hP hD hS 1 0 rfl rfl (ti_in rfl b_z_1264.1 (om_f01a954b gc_1268)) dX3_putBytes_29 (fun H locs hP hD hS => ?_)
          obtain ⟨f_1272, ef_1272⟩ : ∃ g : Nat → Int32, g = upd f_1265 z_1264.toNatClampNeg (vp_nar .byte x_1270) := ⟨_, rfl⟩
          rw [← ef_1272] at hP hD
          have hG := hG.trans (lt_eq ef_1272)
          obtain ⟨hP, hD⟩ := wl2 (ws' := [(oc3 oR iR_faultNumber iR_faultPlace z_1264 rR_tape iR_end iR_tokenKind iR_tokenFrom iR_tokenTo iR_tokenName iR_tokenKey iR_tokenWhole oC iR_courtTold rR_names rR_keys), (arI rR_tape kR_tape 900 f_1272)]) hP hD rfl
          refine lv_aload_n hx hb dX3_putBytes_30 rfl (lv_at hl 1 rfl) ?_
          refine lv_dup hx hb dX3_putBytes_31 rfl ?_
          refine va_get (D := (dC, dI)) (ci := 3) (v := .int z_1264) (C := RX3) (T := TX3) (N := 15) hx hb hts inX3 hown hK hP 0 rfl rfl 2 (by decide) (hts _ wd_179) (fun _ h9 => h9) rfl dX3_putBytes_32 ?_
          refine lv_iconst (v := 1) hx hb dX3_putBytes_35 (by decide) ?_
          refine lv_iadd hx hb dX3_putBytes_36 ?_
          refine lv_topi (fun x_1273 ex_1273 => ?_)
          have hG := hG.trans (lt_eq ex_1273)
          have vx_1273 : x_1273.toInt = z_1264.toInt + 1 := ti_add ex_1273 rfl kc_1 (om_4e4fce7e b_z_1264.1) (om_a4907767 b_z_1264.2)
          refine va_put (D := (dC, dI)) (ci := 3) (v := .int x_1273) (ty := .int) (C := RX3) (T := TX3) (N := 15) hx hb hts inX3 tyX3 tyX3_ok nmX3 hown hK hP hD hS 0 rfl rfl 2 (by decide) (hts _ wd_179) (fun _ h9 => h9) rfl (by decide +kernel) rfl rfl (Nat.le_of_ble_eq_true rfl) dX3_putBytes_37 (fun H locs hP hD hS => ?_)
          obtain ⟨hP, hD⟩ := wl2 (ws' := [(oc3 oR iR_faultNumber iR_faultPlace x_1273 rR_tape iR_end iR_tokenKind iR_tokenFrom iR_tokenTo iR_tokenName iR_tokenKey iR_tokenWhole oC iR_courtTold rR_names rR_keys), (arI rR_tape kR_tape 900 f_1272)]) hP hD rfl
          obtain ⟨x_1274, ex_1274⟩ : ∃ z : Int32, z = z_1263 + Int32.ofInt (-8) := ⟨_, rfl⟩
          have hG := hG.trans (lt_eq ex_1274)
          have vx_1274 : x_1274.toInt = z_1263.toInt + (-8) := ti_add (y := (-8)) ex_1274 rfl kc_m8 (om_a9f9605f hi0_n_1266.1) (om_b84346af hi0_n_1266.2)
          refine lv_iinc (v := x_1274) (lv' := [(2, .int x_1274), (0, .ref oR), (1, .int p0)]) hx hb dX3_putBytes_40 hl (k := 0) rfl ex_1274.symm (by decide) rfl (fun ls hl => ?_)
          refine lv_goto (tgt := 3) hx hb dX3_putBytes_43 (by decide) ?_
          exact ih_n_1266 x_1274 x_1273 f_1272 _ _ _ ⟨(om_83b90de5 b_z_1264.1 vx_1273), (om_b49cbcdc gc_1268 vx_1273)⟩ ⟨(om_22b8c60f gc_1267 vx_1274), (om_c1b5ee39 hi0_n_1266.2 vx_1274)⟩ (om_97041ec6 hi1_n_1266 vx_1273 vx_1274) (ms_lt hm_n_1266 (om_1e3f52a0 vx_1274) (om_aa9b3c6d gc_1267)) hG hP hD hS (lv_sub hl [0, 1, 2] rfl)
  exact key_n_1266 ((((24 : Int32).toInt + 8).toNat) + 1) 24 iR_tapeSize fR_tape _ _ _ b_iR_tapeSize ⟨(om_60e51bf8 kc_24), (om_0a841fa4 kc_24)⟩ (om_cc067026 kc_24) (Nat.lt_add_one _) hG hP hD hS hl
set_option maxHeartbeats 4000000 in
set_option maxRecDepth 100000 in
theorem tX3_exchanged (l : Launch) (dC : Nat → ClassId) (dI : Nat → Nat → Nat) (sz : Nat) (oR : Nat) (iR_faultNumber : Int32) (iR_faultPlace : Int32) (iR_tapeSize : Int32) (rR_tape : Nat) (iR_end : Int32) (iR_tokenKind : Int32) (iR_tokenFrom : Int32) (iR_tokenTo : Int32) (iR_tokenName : Int64) (iR_tokenKey : Int32) (iR_tokenWhole : Int32) (oC : Nat) (iR_courtTold : Int32) (rR_names : Nat) (rR_keys : Nat) (oX : Nat) (b_iR_tapeSize : 0 ≤ iR_tapeSize.toInt ∧ iR_tapeSize.toInt ≤ 900) (b_iR_courtTold : 0 ≤ iR_courtTold.toInt ∧ iR_courtTold.toInt ≤ 1)  : Met l yX3_exchanged (Cond.code yX3_exchanged cX3_exchanged 3 (some (.object "KingHears$Court")) :: wG) ({ frames := 0, cells := 0, slots := 0, locals := 0 }) (va_Pc [.ref oR, .ref oX] (Pw dC dI sz [(oc3 oR iR_faultNumber iR_faultPlace iR_tapeSize rR_tape iR_end iR_tokenKind iR_tokenFrom iR_tokenTo iR_tokenName iR_tokenKey iR_tokenWhole oC iR_courtTold rR_names rR_keys)] [])) (va_Qr (fun (_ : Nat) => True) (fun (_ : Nat) (ra : Nat) (t : State) => oC = ra ∧ Bw dC dI (va_A [(oc3 oR iR_faultNumber iR_faultPlace iR_tapeSize rR_tape iR_end iR_tokenKind iR_tokenFrom iR_tokenTo iR_tokenName iR_tokenKey iR_tokenWhole oC iR_courtTold rR_names rR_keys)] sz) [(oc3 oR iR_faultNumber iR_faultPlace iR_tapeSize rR_tape iR_end iR_tokenKind iR_tokenFrom iR_tokenTo iR_tokenName iR_tokenKey iR_tokenWhole oX iR_courtTold rR_names rR_keys)] [] t) (va_A [(oc3 oR iR_faultNumber iR_faultPlace iR_tapeSize rR_tape iR_end iR_tokenKind iR_tokenFrom iR_tokenTo iR_tokenName iR_tokenKey iR_tokenWhole oC iR_courtTold rR_names rR_keys)] sz)) 0 0 (va_A [(oc3 oR iR_faultNumber iR_faultPlace iR_tapeSize rR_tape iR_end iR_tokenKind iR_tokenFrom iR_tokenTo iR_tokenName iR_tokenKey iR_tokenWhole oC iR_courtTold rR_names rR_keys)] sz) := by
  refine Met.ofW (cc := cX3_exchanged) (maxL := 3) (ret := (some (.object "KingHears$Court"))) pnX3 rfl ?_
  intro p e s m args below meth c s₁ B hml hv
  obtain ⟨rfl, hsz, hP, hK, hD0, hE⟩ := hv
  have hx := B.exec
  have hb := B.bytes
  have hr := B.returns
  have hts : ∀ w ∈ wG, w.before ([.ref oR, .ref oX] : List Value).toArray s = true := fun w h => atoms_spec (ws := Cond.code yX3_exchanged cX3_exchanged 3 (some (.object "KingHears$Court")) :: wG) B.pre w (List.mem_cons_of_mem _ h)
  have hown : s.vm.findClass RX3 = some m.cls := own_of B.named rfl
  have hlocks := B.notSynchronized
  subst hsz
  have hD := hD0.self (sz := s.heap.size)
  generalize hAe : va_A [(oc3 oR iR_faultNumber iR_faultPlace iR_tapeSize rR_tape iR_end iR_tokenKind iR_tokenFrom iR_tokenTo iR_tokenName iR_tokenKey iR_tokenWhole oC iR_courtTold rR_names rR_keys)] s.heap.size = A at hD hE ⊢
  have hA : ∀ q : Nat, s.heap.size ≤ q → A q := fun q h => by rw [← hAe]; exact Or.inr h
  have hS : va_S A s.heap s.heap [] := va_S.rf
  have hl := lv_entry ([.ref oR, .ref oX]) (n := 3) (Nat.le_of_ble_eq_true rfl)
  rw [lg_entry_eq]
  generalize (lg_sl ([.ref oR, .ref oX]) ++ List.replicate (3 - (lg_sl ([.ref oR, .ref oX])).length) Slot.unset).toArray = ls at hl ⊢
  have hl : lv_has ls 3 [(0, .ref oR), (1, .ref oX)] := hl
  refine lv_aload_n hx hb dX3_exchanged_0 rfl (lv_at hl 0 rfl) ?_
  refine va_get (D := (dC, dI)) (ci := 3) (v := .ref oC) (C := RX3) (T := TX3) (N := 15) hx hb hts inX3 hown hK hP 0 rfl rfl 11 (by decide) (hts _ wd_46) (fun _ h9 => h9) rfl dX3_exchanged_1 ?_
  refine lv_astore_n (lv' := [(2, .ref oC), (0, .ref oR), (1, .ref oX)]) hx hb dX3_exchanged_4 rfl hl (by decide) rfl (fun ls hl => ?_)
  refine lv_aload_n hx hb dX3_exchanged_5 rfl (lv_at hl 1 rfl) ?_
  refine lv_aload_n hx hb dX3_exchanged_6 rfl (lv_at hl 2 rfl) ?_
  refine va_put (D := (dC, dI)) (ci := 3) (v := .ref oX) (ty := .object "KingHears$Court") (C := RX3) (T := TX3) (N := 15) hx hb hts inX3 tyX3 tyX3_ok nmX3 hown hK hP hD hS 0 rfl rfl 11 (by decide) (hts _ wd_46) (fun _ h9 => h9) rfl (by decide +kernel) rfl rfl (Nat.le_of_ble_eq_true rfl) dX3_exchanged_7 (fun H locs hP hD hS => ?_)
  obtain ⟨hP, hD⟩ := wl2 (ws' := [(oc3 oR iR_faultNumber iR_faultPlace iR_tapeSize rR_tape iR_end iR_tokenKind iR_tokenFrom iR_tokenTo iR_tokenName iR_tokenKey iR_tokenWhole oX iR_courtTold rR_names rR_keys)]) hP hD rfl
  refine lv_aload_n hx hb dX3_exchanged_10 rfl (lv_at hl 0 rfl) ?_
  exact W.aret hx hb hr (Or.inl ⟨_, rfl⟩) (Or.inr ⟨_, rfl⟩) (fun t ht hW => ⟨⟨0, _, rfl, trivial, ⟨rfl, Bw.to hP hD hK ht hW⟩⟩, hS.F ht⟩) hS.2.2 dX3_exchanged_11
set_option maxHeartbeats 4000000 in
set_option maxRecDepth 100000 in
theorem tX3_readSaid (l : Launch) (dC : Nat → ClassId) (dI : Nat → Nat → Nat) (sz : Nat) (oR : Nat) (iR_faultNumber : Int32) (iR_faultPlace : Int32) (iR_tapeSize : Int32) (rR_tape : Nat) (fR_tape : Nat → Int32) (kR_tape : ClassId) (iR_end : Int32) (iR_tokenKind : Int32) (iR_tokenFrom : Int32) (iR_tokenTo : Int32) (iR_tokenName : Int64) (iR_tokenKey : Int32) (iR_tokenWhole : Int32) (oC : Nat) (iR_courtTold : Int32) (rR_names : Nat) (rR_keys : Nat) (fR_keys : Nat → Int64) (kR_keys : ClassId) (iC_nodes : Int32) (iC_words : Int32) (iC_chances : Int32) (iC_unsures : Int32) (iC_slips : Int32) (iC_throneNode : Int32) (iC_saidWorth : Int32) (iC_unit : Int32) (rC_kind : Nat) (rC_parts : Nat) (rC_partNodes : Nat) (rC_weights : Nat) (rC_weightSums : Nat) (rC_toldWorths : Nat) (rC_steps : Nat) (rC_below : Nat) (rC_above : Nat) (rC_unsureWords : Nat) (rC_unsureWorths : Nat) (b_iR_tapeSize : 0 ≤ iR_tapeSize.toInt ∧ iR_tapeSize.toInt ≤ 900) (b_iR_courtTold : 0 ≤ iR_courtTold.toInt ∧ iR_courtTold.toInt ≤ 1) (b_iC_nodes : 0 ≤ iC_nodes.toInt ∧ iC_nodes.toInt ≤ 18) (b_iC_unsures : 0 ≤ iC_unsures.toInt ∧ iC_unsures.toInt ≤ 4) (b_iC_throneNode : (-1) ≤ iC_throneNode.toInt ∧ iC_throneNode.toInt ≤ 17)  : Met l yX3_readSaid (Cond.code yX3_readSaid cX3_readSaid 1 (some .boolean) :: wG) ({ frames := 3, cells := 0, slots := 0, locals := 66 }) (va_Pc [.ref oR] (Pw dC dI sz [(oc3 oR iR_faultNumber iR_faultPlace iR_tapeSize rR_tape iR_end iR_tokenKind iR_tokenFrom iR_tokenTo iR_tokenName iR_tokenKey iR_tokenWhole oC iR_courtTold rR_names rR_keys), (arI rR_tape kR_tape 900 fR_tape), (arL rR_keys kR_keys 10 fR_keys), (oc1 oC iC_nodes iC_words iC_chances iC_unsures iC_slips iC_throneNode iC_saidWorth iC_unit rC_kind rC_parts rC_partNodes rC_weights rC_weightSums rC_toldWorths rC_steps rC_below rC_above rC_unsureWords rC_unsureWorths)] [(kR_tape, .byte), (kR_keys, .long)])) (va_Qi (fun (r : Int32) (u : Nat) => ((r = 0 ∨ r = 1) ∧ True) ∧ r = Int32.ofNat u) (fun (u : Nat) (t : State) => ∃ (niR_faultNumber : Int32) (niR_faultPlace : Int32) (niR_tokenKind : Int32) (niR_tokenFrom : Int32) (niR_tokenTo : Int32) (niR_tokenName : Int64) (niR_tokenKey : Int32) (niR_tokenWhole : Int32) (niC_saidWorth : Int32), (PX3_readSaid iR_faultNumber iR_faultPlace fR_tape iR_end iR_tokenKind iR_tokenFrom iR_tokenTo iR_tokenName iR_tokenKey iR_tokenWhole fR_keys iC_saidWorth = (Int32.ofNat u, niR_faultNumber, niR_faultPlace, niR_tokenKind, niR_tokenFrom, niR_tokenTo, niR_tokenName, niR_tokenKey, niR_tokenWhole, niC_saidWorth)) ∧ Bw dC dI (va_A [(oc3 oR iR_faultNumber iR_faultPlace iR_tapeSize rR_tape iR_end iR_tokenKind iR_tokenFrom iR_tokenTo iR_tokenName iR_tokenKey iR_tokenWhole oC iR_courtTold rR_names rR_keys), (arI rR_tape kR_tape 900 fR_tape), (arL rR_keys kR_keys 10 fR_keys), (oc1 oC iC_nodes iC_words iC_chances iC_unsures iC_slips iC_throneNode iC_saidWorth iC_unit rC_kind rC_parts rC_partNodes rC_weights rC_weightSums rC_toldWorths rC_steps rC_below rC_above rC_unsureWords rC_unsureWorths)] sz) [(oc3 oR niR_faultNumber niR_faultPlace iR_tapeSize rR_tape iR_end niR_tokenKind niR_tokenFrom niR_tokenTo niR_tokenName niR_tokenKey niR_tokenWhole oC iR_courtTold rR_names rR_keys), (arI rR_tape kR_tape 900 fR_tape), (arL rR_keys kR_keys 10 fR_keys), (oc1 oC iC_nodes iC_words iC_chances iC_unsures iC_slips iC_throneNode niC_saidWorth iC_unit rC_kind rC_parts rC_partNodes rC_weights rC_weightSums rC_toldWorths rC_steps rC_below rC_above rC_unsureWords rC_unsureWorths)] [(kR_tape, .byte), (kR_keys, .long)] t) (va_A [(oc3 oR iR_faultNumber iR_faultPlace iR_tapeSize rR_tape iR_end iR_tokenKind iR_tokenFrom iR_tokenTo iR_tokenName iR_tokenKey iR_tokenWhole oC iR_courtTold rR_names rR_keys), (arI rR_tape kR_tape 900 fR_tape), (arL rR_keys kR_keys 10 fR_keys), (oc1 oC iC_nodes iC_words iC_chances iC_unsures iC_slips iC_throneNode iC_saidWorth iC_unit rC_kind rC_parts rC_partNodes rC_weights rC_weightSums rC_toldWorths rC_steps rC_below rC_above rC_unsureWords rC_unsureWorths)] sz)) 0 0 (va_A [(oc3 oR iR_faultNumber iR_faultPlace iR_tapeSize rR_tape iR_end iR_tokenKind iR_tokenFrom iR_tokenTo iR_tokenName iR_tokenKey iR_tokenWhole oC iR_courtTold rR_names rR_keys), (arI rR_tape kR_tape 900 fR_tape), (arL rR_keys kR_keys 10 fR_keys), (oc1 oC iC_nodes iC_words iC_chances iC_unsures iC_slips iC_throneNode iC_saidWorth iC_unit rC_kind rC_parts rC_partNodes rC_weights rC_weightSums rC_toldWorths rC_steps rC_below rC_above rC_unsureWords rC_unsureWorths)] sz) := by
  refine Met.ofW (cc := cX3_readSaid) (maxL := 1) (ret := (some .boolean)) pnX3 rfl ?_
  intro p e s m args below meth c s₁ B hml hv
  obtain ⟨rfl, hsz, hP, hK, hD0, hE⟩ := hv
  have hx := B.exec
  have hb := B.bytes
  have hr := B.returns
  have hts : ∀ w ∈ wG, w.before ([.ref oR] : List Value).toArray s = true := fun w h => atoms_spec (ws := Cond.code yX3_readSaid cX3_readSaid 1 (some .boolean) :: wG) B.pre w (List.mem_cons_of_mem _ h)
  have hown : s.vm.findClass RX3 = some m.cls := own_of B.named rfl
  have hlocks := B.notSynchronized
  subst hsz
  have hD := hD0.self (sz := s.heap.size)
  generalize hAe : va_A [(oc3 oR iR_faultNumber iR_faultPlace iR_tapeSize rR_tape iR_end iR_tokenKind iR_tokenFrom iR_tokenTo iR_tokenName iR_tokenKey iR_tokenWhole oC iR_courtTold rR_names rR_keys), (arI rR_tape kR_tape 900 fR_tape), (arL rR_keys kR_keys 10 fR_keys), (oc1 oC iC_nodes iC_words iC_chances iC_unsures iC_slips iC_throneNode iC_saidWorth iC_unit rC_kind rC_parts rC_partNodes rC_weights rC_weightSums rC_toldWorths rC_steps rC_below rC_above rC_unsureWords rC_unsureWorths)] s.heap.size = A at hD hE ⊢
  have hA : ∀ q : Nat, s.heap.size ≤ q → A q := fun q h => by rw [← hAe]; exact Or.inr h
  have hS : va_S A s.heap s.heap [] := va_S.rf
  have hl := lv_entry ([.ref oR]) (n := 1) (Nat.le_of_ble_eq_true rfl)
  rw [lg_entry_eq]
  generalize (lg_sl ([.ref oR]) ++ List.replicate (1 - (lg_sl ([.ref oR])).length) Slot.unset).toArray = ls at hl ⊢
  have hl : lv_has ls 1 [(0, .ref oR)] := hl
  have hG := PX3_readSaid_eq iR_faultNumber iR_faultPlace fR_tape iR_end iR_tokenKind iR_tokenFrom iR_tokenTo iR_tokenName iR_tokenKey iR_tokenWhole fR_keys iC_saidWorth
  refine lv_aload_n hx hb dX3_readSaid_0 rfl (lv_at hl 0 rfl) ?_
  refine va_get (D := (dC, dI)) (ci := 3) (v := .ref oC) (C := RX3) (T := TX3) (N := 15) hx hb hts inX3 hown hK hP 0 rfl rfl 11 (by decide) (hts _ wd_46) (fun _ h9 => h9) rfl dX3_readSaid_1 ?_
  refine va_get (D := (dC, dI)) (ci := 1) (v := .int iC_saidWorth) (C := RX1) (T := TX1) (N := 19) hx hb hts inX1 hown hK hP 3 rfl rfl 6 (by decide) (hts _ wd_355) (fun _ h9 => h9) rfl dX3_readSaid_4 ?_
  refine lv_if_lt (tgt := 16) hx hb dX3_readSaid_7 (by decide) (fun c_1295 => ?_) (fun c_1295 => ?_)
  · skip
    have hG := hG.trans (if_pos c_1295)
    have gc_1295 := ti_lt c_1295 rfl kc_0
    refine lv_aload_n hx hb dX3_readSaid_16 rfl (lv_at hl 0 rfl) ?_
    have hMs := ml_of hD [true, true, true, false] (wc := [(oc3 oR iR_faultNumber iR_faultPlace iR_tapeSize rR_tape iR_end iR_tokenKind iR_tokenFrom iR_tokenTo iR_tokenName iR_tokenKey iR_tokenWhole oC iR_courtTold rR_names rR_keys), (arI rR_tape kR_tape 900 fR_tape), (arL rR_keys kR_keys 10 fR_keys)]) rfl
    have hFc := va_freeM hD hS hA _ hMs
    refine va_callv (va_runV (As := []) (rest := []) ⟨hx, hb, hml, hown, hts⟩ (tX3_nextToken l dC dI _ oR iR_faultNumber iR_faultPlace iR_tapeSize rR_tape fR_tape kR_tape iR_end iR_tokenKind iR_tokenFrom iR_tokenTo iR_tokenName iR_tokenKey iR_tokenWhole oC iR_courtTold rR_names rR_keys fR_keys kR_keys b_iR_tapeSize b_iR_courtTold) (cwV 0 hts (wd_V wd_220 wd_221 wd_222 wd_15 (wd_c wd_223)) rfl rfl rfl dv_yX3_nextToken_0 ⟨Nat.le_of_ble_eq_true rfl, Nat.le_of_ble_eq_true rfl⟩) ⟨Pw.fb, recvX3 hK hP (q0 := 0) rfl, fun U hU hW => Pw.to (hP.ms _ hMs) (hD.ms _ hMs) hK hE hS hFc hU hW⟩ rfl rfl hl.1 rfl (lv_room (Nat.le_of_ble_eq_true rfl)) dX3_readSaid_17 ⟨Nat.le_of_ble_eq_true rfl, Nat.le_of_ble_eq_true rfl⟩) hS (fun q _ h => hFc q h) hFc (fun u t H locs ht hvm hw hB hz1 hk1 hS => ?_)
    refine ex_6_1 hB (fun x_1296 x_1297 x_1298 y_1299 x_1300 x_1301 e_x_1296_0 hB => ?_)
    obtain ⟨hP, hD⟩ := Bw.goN (ws' := [(oc3 oR iR_faultNumber iR_faultPlace iR_tapeSize rR_tape iR_end x_1296 x_1297 x_1298 y_1299 x_1300 x_1301 oC iR_courtTold rR_names rR_keys), (arI rR_tape kR_tape 900 fR_tape), (arL rR_keys kR_keys 10 fR_keys), (oc1 oC iC_nodes iC_words iC_chances iC_unsures iC_slips iC_throneNode iC_saidWorth iC_unit rC_kind rC_parts rC_partNodes rC_weights rC_weightSums rC_toldWorths rC_steps rC_below rC_above rC_unsureWords rC_unsureWorths)]) hB rfl ht hP hD _ hMs hk1 hFc rfl
    clear hz1 hk1 hvm ht hB hMs
    have hG := hG.trans (un6_eq e_x_1296_0)
    refine lv_aload_n hx hb dX3_readSaid_20 rfl (lv_at hl 0 rfl) ?_
    refine lv_iconst (v := 0) hx hb dX3_readSaid_21 (by decide) ?_
    refine lv_bipush (v := 99) hx hb dX3_readSaid_22 (by decide) ?_
    have hMs := ml_of hD [true, false, false, false] (wc := [(oc3 oR iR_faultNumber iR_faultPlace iR_tapeSize rR_tape iR_end x_1296 x_1297 x_1298 y_1299 x_1300 x_1301 oC iR_courtTold rR_names rR_keys)]) rfl
    have hFc := va_freeM hD hS hA _ hMs
    refine va_calli (va_runV (As := [.int 0, .int 99]) (rest := []) ⟨hx, hb, hml, hown, hts⟩ (tX3_isWholeWithin l dC dI _ oR iR_faultNumber iR_faultPlace iR_tapeSize rR_tape iR_end x_1296 x_1297 x_1298 y_1299 x_1300 x_1301 oC iR_courtTold rR_names rR_keys 0 99 b_iR_tapeSize b_iR_courtTold) (cwV 2 hts (wd_V wd_263 wd_264 wd_265 wd_15 (wd_c wd_266)) rfl rfl rfl dv_yX3_isWholeWithin_2 ⟨Nat.le_of_ble_eq_true rfl, Nat.le_of_ble_eq_true rfl⟩) ⟨Pw.fb, recvX3 hK hP (q0 := 0) rfl, fun U hU hW => Pw.to (hP.ms _ hMs) (hD.ms _ hMs) (hK.ms [false, false] rfl) hE hS hFc hU hW⟩ rfl rfl hl.1 rfl (lv_room (Nat.le_of_ble_eq_true rfl)) dX3_readSaid_24 ⟨Nat.le_of_ble_eq_true rfl, Nat.le_of_ble_eq_true rfl⟩) hS (fun q _ h => hFc q h) hFc (fun r u t H locs ht hvm hw hB hz1 hk1 hS => ?_)
    have hru9 := hw.2
    have hw := hw.1
    refine ex_2_1 hB (fun x_1302 x_1303 e_x_1302_0 hB => ?_)
    obtain ⟨hP, hD⟩ := Bw.goN (ws' := [(oc3 oR x_1302 x_1303 iR_tapeSize rR_tape iR_end x_1296 x_1297 x_1298 y_1299 x_1300 x_1301 oC iR_courtTold rR_names rR_keys), (arI rR_tape kR_tape 900 fR_tape), (arL rR_keys kR_keys 10 fR_keys), (oc1 oC iC_nodes iC_words iC_chances iC_unsures iC_slips iC_throneNode iC_saidWorth iC_unit rC_kind rC_parts rC_partNodes rC_weights rC_weightSums rC_toldWorths rC_steps rC_below rC_above rC_unsureWords rC_unsureWorths)]) hB rfl ht hP hD _ hMs hk1 hFc rfl
    clear hz1 hk1 hvm ht hB hMs
    rw [← hru9] at e_x_1302_0
    obtain ⟨x_1304, rfl⟩ : ∃ z, z = r := ⟨_, rfl⟩
    have hG := hG.trans (un3_eq e_x_1302_0)
    have bx_1304 := hw.1
    have dx_1304 := bz_tb bx_1304
    refine lv_if_ne (tgt := 32) hx hb dX3_readSaid_27 (by decide) (fun c_1305 => ?_) (fun c_1305 => ?_)
    · skip
      have hG := hG.trans (if_neg c_1305)
      have gc_1305 := ti_ne c_1305 rfl kc_0
      refine lv_aload_n hx hb dX3_readSaid_32 rfl (lv_at hl 0 rfl) ?_
      refine va_get (D := (dC, dI)) (ci := 3) (v := .ref oC) (C := RX3) (T := TX3) (N := 15) hx hb hts inX3 hown hK hP 0 rfl rfl 11 (by decide) (hts _ wd_46) (fun _ h9 => h9) rfl dX3_readSaid_33 ?_
      refine lv_aload_n hx hb dX3_readSaid_36 rfl (lv_at hl 0 rfl) ?_
      refine va_get (D := (dC, dI)) (ci := 3) (v := .int x_1301) (C := RX3) (T := TX3) (N := 15) hx hb hts inX3 hown hK hP 0 rfl rfl 10 (by decide) (hts _ wd_245) (fun _ h9 => h9) rfl dX3_readSaid_37 ?_
      refine va_put (D := (dC, dI)) (ci := 1) (v := .int x_1301) (ty := .int) (C := RX1) (T := TX1) (N := 19) hx hb hts inX1 tyX1 tyX1_ok nmX1 hown hK hP hD hS 3 rfl rfl 6 (by decide) (hts _ wd_355) (fun _ h9 => h9) rfl (by decide +kernel) rfl rfl (Nat.le_of_ble_eq_true rfl) dX3_readSaid_40 (fun H locs hP hD hS => ?_)
      obtain ⟨hP, hD⟩ := wl2 (ws' := [(oc3 oR x_1302 x_1303 iR_tapeSize rR_tape iR_end x_1296 x_1297 x_1298 y_1299 x_1300 x_1301 oC iR_courtTold rR_names rR_keys), (arI rR_tape kR_tape 900 fR_tape), (arL rR_keys kR_keys 10 fR_keys), (oc1 oC iC_nodes iC_words iC_chances iC_unsures iC_slips iC_throneNode x_1301 iC_unit rC_kind rC_parts rC_partNodes rC_weights rC_weightSums rC_toldWorths rC_steps rC_below rC_above rC_unsureWords rC_unsureWorths)]) hP hD rfl
      refine lv_aload_n hx hb dX3_readSaid_43 rfl (lv_at hl 0 rfl) ?_
      have hMs := ml_of hD [true, true, true, false] (wc := [(oc3 oR x_1302 x_1303 iR_tapeSize rR_tape iR_end x_1296 x_1297 x_1298 y_1299 x_1300 x_1301 oC iR_courtTold rR_names rR_keys), (arI rR_tape kR_tape 900 fR_tape), (arL rR_keys kR_keys 10 fR_keys)]) rfl
      have hFc := va_freeM hD hS hA _ hMs
      refine va_callv (va_runV (As := []) (rest := []) ⟨hx, hb, hml, hown, hts⟩ (tX3_nextToken l dC dI _ oR x_1302 x_1303 iR_tapeSize rR_tape fR_tape kR_tape iR_end x_1296 x_1297 x_1298 y_1299 x_1300 x_1301 oC iR_courtTold rR_names rR_keys fR_keys kR_keys b_iR_tapeSize b_iR_courtTold) (cwV 0 hts (wd_V wd_220 wd_221 wd_222 wd_15 (wd_c wd_223)) rfl rfl rfl dv_yX3_nextToken_0 ⟨Nat.le_of_ble_eq_true rfl, Nat.le_of_ble_eq_true rfl⟩) ⟨Pw.fb, recvX3 hK hP (q0 := 0) rfl, fun U hU hW => Pw.to (hP.ms _ hMs) (hD.ms _ hMs) hK hE hS hFc hU hW⟩ rfl rfl hl.1 rfl (lv_room (Nat.le_of_ble_eq_true rfl)) dX3_readSaid_44 ⟨Nat.le_of_ble_eq_true rfl, Nat.le_of_ble_eq_true rfl⟩) hS (fun q _ h => hFc q h) hFc (fun u t H locs ht hvm hw hB hz1 hk1 hS => ?_)
      refine ex_6_1 hB (fun x_1306 x_1307 x_1308 y_1309 x_1310 x_1311 e_x_1306_0 hB => ?_)
      obtain ⟨hP, hD⟩ := Bw.goN (ws' := [(oc3 oR x_1302 x_1303 iR_tapeSize rR_tape iR_end x_1306 x_1307 x_1308 y_1309 x_1310 x_1311 oC iR_courtTold rR_names rR_keys), (arI rR_tape kR_tape 900 fR_tape), (arL rR_keys kR_keys 10 fR_keys), (oc1 oC iC_nodes iC_words iC_chances iC_unsures iC_slips iC_throneNode x_1301 iC_unit rC_kind rC_parts rC_partNodes rC_weights rC_weightSums rC_toldWorths rC_steps rC_below rC_above rC_unsureWords rC_unsureWorths)]) hB rfl ht hP hD _ hMs hk1 hFc rfl
      clear hz1 hk1 hvm ht hB hMs
      have hG := hG.trans (un6_eq e_x_1306_0)
      refine lv_iconst (v := 1) hx hb dX3_readSaid_47 (by decide) ?_
      exact wq_z (v := 1) hx hb hr rfl (cI 1) ⟨⟨Or.inr rfl, trivial⟩, (cI_of 1)⟩ (fun t ht hW => ⟨x_1302, x_1303, x_1306, x_1307, x_1308, y_1309, x_1310, x_1311, x_1301, (cI_tup hG), Bw.to hP hD hK ht hW⟩) hS dX3_readSaid_48 hlocks
    · skip
      have hG := hG.trans (if_pos c_1305)
      have gc_1305 := ti_eq c_1305 rfl kc_0
      refine lv_iconst (v := 0) hx hb dX3_readSaid_30 (by decide) ?_
      exact wq_z (v := 0) hx hb hr rfl (cI 0) ⟨⟨Or.inl rfl, trivial⟩, (cI_of 0)⟩ (fun t ht hW => ⟨x_1302, x_1303, x_1296, x_1297, x_1298, y_1299, x_1300, x_1301, iC_saidWorth, (cI_tup hG), Bw.to hP hD hK ht hW⟩) hS dX3_readSaid_31 hlocks
  · skip
    have hG := hG.trans (if_neg c_1295)
    have gc_1295 := ti_nlt c_1295 rfl kc_0
    refine lv_aload_n hx hb dX3_readSaid_10 rfl (lv_at hl 0 rfl) ?_
    refine lv_iconst (v := 3) hx hb dX3_readSaid_11 (by decide) ?_
    have hMs := ml_of hD [true, false, false, false] (wc := [(oc3 oR iR_faultNumber iR_faultPlace iR_tapeSize rR_tape iR_end iR_tokenKind iR_tokenFrom iR_tokenTo iR_tokenName iR_tokenKey iR_tokenWhole oC iR_courtTold rR_names rR_keys)]) rfl
    have hFc := va_freeM hD hS hA _ hMs
    refine va_calli (va_runV (As := [.int 3]) (rest := []) ⟨hx, hb, hml, hown, hts⟩ (tX3_faulty l dC dI _ oR iR_faultNumber iR_faultPlace iR_tapeSize rR_tape iR_end iR_tokenKind iR_tokenFrom iR_tokenTo iR_tokenName iR_tokenKey iR_tokenWhole oC iR_courtTold rR_names rR_keys 3 b_iR_tapeSize b_iR_courtTold) (cwV 1 hts (wd_V wd_254 wd_255 wd_256 wd_15 (wd_c wd_257)) rfl rfl rfl dv_yX3_faulty_1 ⟨Nat.le_of_ble_eq_true rfl, Nat.le_of_ble_eq_true rfl⟩) ⟨Pw.fb, recvX3 hK hP (q0 := 0) rfl, fun U hU hW => Pw.to (hP.ms _ hMs) (hD.ms _ hMs) (hK.ms [false, false] rfl) hE hS hFc hU hW⟩ rfl rfl hl.1 rfl (lv_room (Nat.le_of_ble_eq_true rfl)) dX3_readSaid_12 ⟨Nat.le_of_ble_eq_true rfl, Nat.le_of_ble_eq_true rfl⟩) hS (fun q _ h => hFc q h) hFc (fun r u t H locs ht hvm hw hB hz1 hk1 hS => ?_)
    have hru9 := hw.2
    have hw := hw.1
    refine ex_2_1 hB (fun x_1312 x_1313 e_x_1312_0 hB => ?_)
    obtain ⟨hP, hD⟩ := Bw.goN (ws' := [(oc3 oR x_1312 x_1313 iR_tapeSize rR_tape iR_end iR_tokenKind iR_tokenFrom iR_tokenTo iR_tokenName iR_tokenKey iR_tokenWhole oC iR_courtTold rR_names rR_keys), (arI rR_tape kR_tape 900 fR_tape), (arL rR_keys kR_keys 10 fR_keys), (oc1 oC iC_nodes iC_words iC_chances iC_unsures iC_slips iC_throneNode iC_saidWorth iC_unit rC_kind rC_parts rC_partNodes rC_weights rC_weightSums rC_toldWorths rC_steps rC_below rC_above rC_unsureWords rC_unsureWorths)]) hB rfl ht hP hD _ hMs hk1 hFc rfl
    clear hz1 hk1 hvm ht hB hMs
    rw [← hru9] at e_x_1312_0
    rcases hw.2 with ⟨rfl, hc_1314⟩
    · skip
      have hG := hG.trans (un3_eq e_x_1312_0)
      exact wq_z (v := 0) hx hb hr rfl (cI 0) ⟨⟨Or.inl rfl, trivial⟩, (cI_of 0)⟩ (fun t ht hW => ⟨x_1312, x_1313, iR_tokenKind, iR_tokenFrom, iR_tokenTo, iR_tokenName, iR_tokenKey, iR_tokenWhole, iC_saidWorth, (cI_tup hG), Bw.to hP hD hK ht hW⟩) hS dX3_readSaid_15 hlocks
set_option maxHeartbeats 4000000 in
set_option maxRecDepth 100000 in
theorem tX3_readUnsure (l : Launch) (dC : Nat → ClassId) (dI : Nat → Nat → Nat) (sz : Nat) (oR : Nat) (iR_faultNumber : Int32) (iR_faultPlace : Int32) (iR_tapeSize : Int32) (rR_tape : Nat) (fR_tape : Nat → Int32) (kR_tape : ClassId) (iR_end : Int32) (iR_tokenKind : Int32) (iR_tokenFrom : Int32) (iR_tokenTo : Int32) (iR_tokenName : Int64) (iR_tokenKey : Int32) (iR_tokenWhole : Int32) (oC : Nat) (iR_courtTold : Int32) (rR_names : Nat) (fR_names : Nat → Int64) (kR_names : ClassId) (rR_keys : Nat) (fR_keys : Nat → Int64) (kR_keys : ClassId) (iC_nodes : Int32) (iC_words : Int32) (iC_chances : Int32) (iC_unsures : Int32) (iC_slips : Int32) (iC_throneNode : Int32) (iC_saidWorth : Int32) (iC_unit : Int32) (rC_kind : Nat) (fC_kind : Nat → Int32) (kC_kind : ClassId) (rC_parts : Nat) (rC_partNodes : Nat) (rC_weights : Nat) (rC_weightSums : Nat) (rC_toldWorths : Nat) (rC_steps : Nat) (rC_below : Nat) (rC_above : Nat) (rC_unsureWords : Nat) (fC_unsureWords : Nat → Int32) (kC_unsureWords : ClassId) (rC_unsureWorths : Nat) (fC_unsureWorths : Nat → Int32) (kC_unsureWorths : ClassId) (b_iR_tapeSize : 0 ≤ iR_tapeSize.toInt ∧ iR_tapeSize.toInt ≤ 900) (b_iR_courtTold : 0 ≤ iR_courtTold.toInt ∧ iR_courtTold.toInt ≤ 1) (b_iC_nodes : 0 ≤ iC_nodes.toInt ∧ iC_nodes.toInt ≤ 18) (b_iC_unsures : 0 ≤ iC_unsures.toInt ∧ iC_unsures.toInt ≤ 4) (b_iC_throneNode : (-1) ≤ iC_throneNode.toInt ∧ iC_throneNode.toInt ≤ 17) (a_fC_unsureWords : ∀ j : Nat, j < 4 → 0 ≤ (fC_unsureWords j).toInt ∧ (fC_unsureWords j).toInt ≤ 17)  : Met l yX3_readUnsure (Cond.code yX3_readUnsure cX3_readUnsure 2 (some .boolean) :: wG) ({ frames := 3, cells := 0, slots := 0, locals := 66 }) (va_Pc [.ref oR] (Pw dC dI sz [(oc3 oR iR_faultNumber iR_faultPlace iR_tapeSize rR_tape iR_end iR_tokenKind iR_tokenFrom iR_tokenTo iR_tokenName iR_tokenKey iR_tokenWhole oC iR_courtTold rR_names rR_keys), (arI rR_tape kR_tape 900 fR_tape), (arL rR_names kR_names 18 fR_names), (arL rR_keys kR_keys 10 fR_keys), (oc1 oC iC_nodes iC_words iC_chances iC_unsures iC_slips iC_throneNode iC_saidWorth iC_unit rC_kind rC_parts rC_partNodes rC_weights rC_weightSums rC_toldWorths rC_steps rC_below rC_above rC_unsureWords rC_unsureWorths), (arI rC_kind kC_kind 18 fC_kind), (arI rC_unsureWords kC_unsureWords 4 fC_unsureWords), (arI rC_unsureWorths kC_unsureWorths 4 fC_unsureWorths)] [(kR_tape, .byte), (kR_names, .long), (kR_keys, .long), (kC_kind, .int), (kC_unsureWords, .int), (kC_unsureWorths, .int)])) (va_Qi (fun (r : Int32) (u : Nat) => ((r = 0 ∨ r = 1) ∧ True) ∧ r = Int32.ofNat u) (fun (u : Nat) (t : State) => ∃ (niR_faultNumber : Int32) (niR_faultPlace : Int32) (niR_tokenKind : Int32) (niR_tokenFrom : Int32) (niR_tokenTo : Int32) (niR_tokenName : Int64) (niR_tokenKey : Int32) (niR_tokenWhole : Int32) (niC_unsures : Int32) (nfC_unsureWords : Nat → Int32) (nfC_unsureWorths : Nat → Int32), (0 ≤ niC_unsures.toInt ∧ niC_unsures.toInt ≤ 4) ∧ (∀ j : Nat, j < 4 → 0 ≤ (nfC_unsureWords j).toInt ∧ (nfC_unsureWords j).toInt ≤ 17) ∧ (PX3_readUnsure iR_faultNumber iR_faultPlace fR_tape iR_end iR_tokenKind iR_tokenFrom iR_tokenTo iR_tokenName iR_tokenKey iR_tokenWhole fR_names fR_keys iC_nodes iC_unsures fC_kind fC_unsureWords fC_unsureWorths = (Int32.ofNat u, niR_faultNumber, niR_faultPlace, niR_tokenKind, niR_tokenFrom, niR_tokenTo, niR_tokenName, niR_tokenKey, niR_tokenWhole, niC_unsures, nfC_unsureWords, nfC_unsureWorths)) ∧ Bw dC dI (va_A [(oc3 oR iR_faultNumber iR_faultPlace iR_tapeSize rR_tape iR_end iR_tokenKind iR_tokenFrom iR_tokenTo iR_tokenName iR_tokenKey iR_tokenWhole oC iR_courtTold rR_names rR_keys), (arI rR_tape kR_tape 900 fR_tape), (arL rR_names kR_names 18 fR_names), (arL rR_keys kR_keys 10 fR_keys), (oc1 oC iC_nodes iC_words iC_chances iC_unsures iC_slips iC_throneNode iC_saidWorth iC_unit rC_kind rC_parts rC_partNodes rC_weights rC_weightSums rC_toldWorths rC_steps rC_below rC_above rC_unsureWords rC_unsureWorths), (arI rC_kind kC_kind 18 fC_kind), (arI rC_unsureWords kC_unsureWords 4 fC_unsureWords), (arI rC_unsureWorths kC_unsureWorths 4 fC_unsureWorths)] sz) [(oc3 oR niR_faultNumber niR_faultPlace iR_tapeSize rR_tape iR_end niR_tokenKind niR_tokenFrom niR_tokenTo niR_tokenName niR_tokenKey niR_tokenWhole oC iR_courtTold rR_names rR_keys), (arI rR_tape kR_tape 900 fR_tape), (arL rR_names kR_names 18 fR_names), (arL rR_keys kR_keys 10 fR_keys), (oc1 oC iC_nodes iC_words iC_chances niC_unsures iC_slips iC_throneNode iC_saidWorth iC_unit rC_kind rC_parts rC_partNodes rC_weights rC_weightSums rC_toldWorths rC_steps rC_below rC_above rC_unsureWords rC_unsureWorths), (arI rC_kind kC_kind 18 fC_kind), (arI rC_unsureWords kC_unsureWords 4 nfC_unsureWords), (arI rC_unsureWorths kC_unsureWorths 4 nfC_unsureWorths)] [(kR_tape, .byte), (kR_names, .long), (kR_keys, .long), (kC_kind, .int), (kC_unsureWords, .int), (kC_unsureWorths, .int)] t) (va_A [(oc3 oR iR_faultNumber iR_faultPlace iR_tapeSize rR_tape iR_end iR_tokenKind iR_tokenFrom iR_tokenTo iR_tokenName iR_tokenKey iR_tokenWhole oC iR_courtTold rR_names rR_keys), (arI rR_tape kR_tape 900 fR_tape), (arL rR_names kR_names 18 fR_names), (arL rR_keys kR_keys 10 fR_keys), (oc1 oC iC_nodes iC_words iC_chances iC_unsures iC_slips iC_throneNode iC_saidWorth iC_unit rC_kind rC_parts rC_partNodes rC_weights rC_weightSums rC_toldWorths rC_steps rC_below rC_above rC_unsureWords rC_unsureWorths), (arI rC_kind kC_kind 18 fC_kind), (arI rC_unsureWords kC_unsureWords 4 fC_unsureWords), (arI rC_unsureWorths kC_unsureWorths 4 fC_unsureWorths)] sz)) 0 0 (va_A [(oc3 oR iR_faultNumber iR_faultPlace iR_tapeSize rR_tape iR_end iR_tokenKind iR_tokenFrom iR_tokenTo iR_tokenName iR_tokenKey iR_tokenWhole oC iR_courtTold rR_names rR_keys), (arI rR_tape kR_tape 900 fR_tape), (arL rR_names kR_names 18 fR_names), (arL rR_keys kR_keys 10 fR_keys), (oc1 oC iC_nodes iC_words iC_chances iC_unsures iC_slips iC_throneNode iC_saidWorth iC_unit rC_kind rC_parts rC_partNodes rC_weights rC_weightSums rC_toldWorths rC_steps rC_below rC_above rC_unsureWords rC_unsureWorths), (arI rC_kind kC_kind 18 fC_kind), (arI rC_unsureWords kC_unsureWords 4 fC_unsureWords), (arI rC_unsureWorths kC_unsureWorths 4 fC_unsureWorths)] sz) := by
  refine Met.ofW (cc := cX3_readUnsure) (maxL := 2) (ret := (some .boolean)) pnX3 rfl ?_
  intro p e s m args below meth c s₁ B hml hv
  obtain ⟨rfl, hsz, hP, hK, hD0, hE⟩ := hv
  have hx := B.exec
  have hb := B.bytes
  have hr := B.returns
  have hts : ∀ w ∈ wG, w.before ([.ref oR] : List Value).toArray s = true := fun w h => atoms_spec (ws := Cond.code yX3_readUnsure cX3_readUnsure 2 (some .boolean) :: wG) B.pre w (List.mem_cons_of_mem _ h)
  have hown : s.vm.findClass RX3 = some m.cls := own_of B.named rfl
  have hlocks := B.notSynchronized
  subst hsz
  have hD := hD0.self (sz := s.heap.size)
  generalize hAe : va_A [(oc3 oR iR_faultNumber iR_faultPlace iR_tapeSize rR_tape iR_end iR_tokenKind iR_tokenFrom iR_tokenTo iR_tokenName iR_tokenKey iR_tokenWhole oC iR_courtTold rR_names rR_keys), (arI rR_tape kR_tape 900 fR_tape), (arL rR_names kR_names 18 fR_names), (arL rR_keys kR_keys 10 fR_keys), (oc1 oC iC_nodes iC_words iC_chances iC_unsures iC_slips iC_throneNode iC_saidWorth iC_unit rC_kind rC_parts rC_partNodes rC_weights rC_weightSums rC_toldWorths rC_steps rC_below rC_above rC_unsureWords rC_unsureWorths), (arI rC_kind kC_kind 18 fC_kind), (arI rC_unsureWords kC_unsureWords 4 fC_unsureWords), (arI rC_unsureWorths kC_unsureWorths 4 fC_unsureWorths)] s.heap.size = A at hD hE ⊢
  have hA : ∀ q : Nat, s.heap.size ≤ q → A q := fun q h => by rw [← hAe]; exact Or.inr h
  have hS : va_S A s.heap s.heap [] := va_S.rf
  have hl := lv_entry ([.ref oR]) (n := 2) (Nat.le_of_ble_eq_true rfl)
  rw [lg_entry_eq]
  generalize (lg_sl ([.ref oR]) ++ List.replicate (2 - (lg_sl ([.ref oR])).length) Slot.unset).toArray = ls at hl ⊢
  have hl : lv_has ls 2 [(0, .ref oR)] := hl
  have hG := PX3_readUnsure_eq iR_faultNumber iR_faultPlace fR_tape iR_end iR_tokenKind iR_tokenFrom iR_tokenTo iR_tokenName iR_tokenKey iR_tokenWhole fR_names fR_keys iC_nodes iC_unsures fC_kind fC_unsureWords fC_unsureWorths
  refine lv_aload_n hx hb dX3_readUnsure_0 rfl (lv_at hl 0 rfl) ?_
  refine va_get (D := (dC, dI)) (ci := 3) (v := .ref oC) (C := RX3) (T := TX3) (N := 15) hx hb hts inX3 hown hK hP 0 rfl rfl 11 (by decide) (hts _ wd_46) (fun _ h9 => h9) rfl dX3_readUnsure_1 ?_
  refine va_get (D := (dC, dI)) (ci := 1) (v := .int iC_unsures) (C := RX1) (T := TX1) (N := 19) hx hb hts inX1 hown hK hP 4 rfl rfl 3 (by decide) (hts _ wd_338) (fun _ h9 => h9) rfl dX3_readUnsure_4 ?_
  refine lv_iconst (v := 4) hx hb dX3_readUnsure_7 (by decide) ?_
  refine lv_icmp_lt (tgt := 17) hx hb dX3_readUnsure_8 (by decide) (fun c_1361 => ?_) (fun c_1361 => ?_)
  · skip
    have hG := hG.trans (if_pos c_1361)
    have gc_1361 := ti_lt c_1361 rfl kc_4
    refine lv_aload_n hx hb dX3_readUnsure_17 rfl (lv_at hl 0 rfl) ?_
    have hMs := ml_of hD [true, true, false, true, false, false, false, false] (wc := [(oc3 oR iR_faultNumber iR_faultPlace iR_tapeSize rR_tape iR_end iR_tokenKind iR_tokenFrom iR_tokenTo iR_tokenName iR_tokenKey iR_tokenWhole oC iR_courtTold rR_names rR_keys), (arI rR_tape kR_tape 900 fR_tape), (arL rR_keys kR_keys 10 fR_keys)]) rfl
    have hFc := va_freeM hD hS hA _ hMs
    refine va_callv (va_runV (As := []) (rest := []) ⟨hx, hb, hml, hown, hts⟩ (tX3_nextToken l dC dI _ oR iR_faultNumber iR_faultPlace iR_tapeSize rR_tape fR_tape kR_tape iR_end iR_tokenKind iR_tokenFrom iR_tokenTo iR_tokenName iR_tokenKey iR_tokenWhole oC iR_courtTold rR_names rR_keys fR_keys kR_keys b_iR_tapeSize b_iR_courtTold) (cwV 0 hts (wd_V wd_220 wd_221 wd_222 wd_15 (wd_c wd_223)) rfl rfl rfl dv_yX3_nextToken_0 ⟨Nat.le_of_ble_eq_true rfl, Nat.le_of_ble_eq_true rfl⟩) ⟨Pw.fb, recvX3 hK hP (q0 := 0) rfl, fun U hU hW => Pw.to (hP.ms _ hMs) (hD.ms _ hMs) (hK.ms [true, false, true, false, false, false] rfl) hE hS hFc hU hW⟩ rfl rfl hl.1 rfl (lv_room (Nat.le_of_ble_eq_true rfl)) dX3_readUnsure_18 ⟨Nat.le_of_ble_eq_true rfl, Nat.le_of_ble_eq_true rfl⟩) hS (fun q _ h => hFc q h) hFc (fun u t H locs ht hvm hw hB hz1 hk1 hS => ?_)
    refine ex_6_1 hB (fun x_1362 x_1363 x_1364 y_1365 x_1366 x_1367 e_x_1362_0 hB => ?_)
    obtain ⟨hP, hD⟩ := Bw.goN (ws' := [(oc3 oR iR_faultNumber iR_faultPlace iR_tapeSize rR_tape iR_end x_1362 x_1363 x_1364 y_1365 x_1366 x_1367 oC iR_courtTold rR_names rR_keys), (arI rR_tape kR_tape 900 fR_tape), (arL rR_names kR_names 18 fR_names), (arL rR_keys kR_keys 10 fR_keys), (oc1 oC iC_nodes iC_words iC_chances iC_unsures iC_slips iC_throneNode iC_saidWorth iC_unit rC_kind rC_parts rC_partNodes rC_weights rC_weightSums rC_toldWorths rC_steps rC_below rC_above rC_unsureWords rC_unsureWorths), (arI rC_kind kC_kind 18 fC_kind), (arI rC_unsureWords kC_unsureWords 4 fC_unsureWords), (arI rC_unsureWorths kC_unsureWorths 4 fC_unsureWorths)]) hB rfl ht hP hD _ hMs hk1 hFc rfl
    clear hz1 hk1 hvm ht hB hMs
    have hG := hG.trans (un6_eq e_x_1362_0)
    refine lv_aload_n hx hb dX3_readUnsure_21 rfl (lv_at hl 0 rfl) ?_
    have hMs := ml_of hD [true, false, true, false, true, false, false, false] (wc := [(oc3 oR iR_faultNumber iR_faultPlace iR_tapeSize rR_tape iR_end x_1362 x_1363 x_1364 y_1365 x_1366 x_1367 oC iR_courtTold rR_names rR_keys), (arL rR_names kR_names 18 fR_names), (oc1 oC iC_nodes iC_words iC_chances iC_unsures iC_slips iC_throneNode iC_saidWorth iC_unit rC_kind rC_parts rC_partNodes rC_weights rC_weightSums rC_toldWorths rC_steps rC_below rC_above rC_unsureWords rC_unsureWorths)]) rfl
    have hFc := va_freeM hD hS hA _ hMs
    refine va_calli (va_runV (As := []) (rest := []) ⟨hx, hb, hml, hown, hts⟩ (tX3_isToldName l dC dI _ oR iR_faultNumber iR_faultPlace iR_tapeSize rR_tape iR_end x_1362 x_1363 x_1364 y_1365 x_1366 x_1367 oC iR_courtTold rR_names fR_names kR_names rR_keys iC_nodes iC_words iC_chances iC_unsures iC_slips iC_throneNode iC_saidWorth iC_unit rC_kind rC_parts rC_partNodes rC_weights rC_weightSums rC_toldWorths rC_steps rC_below rC_above rC_unsureWords rC_unsureWorths b_iR_tapeSize b_iR_courtTold b_iC_nodes b_iC_unsures b_iC_throneNode) (cwV 0 hts (wd_V wd_304 wd_305 wd_306 wd_15 (wd_c wd_307)) rfl rfl rfl dv_yX3_isToldName_0 ⟨Nat.le_of_ble_eq_true rfl, Nat.le_of_ble_eq_true rfl⟩) ⟨Pw.fb, recvX3 hK hP (q0 := 0) rfl, fun U hU hW => Pw.to (hP.ms _ hMs) (hD.ms _ hMs) (hK.ms [false, true, false, false, false, false] rfl) hE hS hFc hU hW⟩ rfl rfl hl.1 rfl (lv_room (Nat.le_of_ble_eq_true rfl)) dX3_readUnsure_22 ⟨Nat.le_of_ble_eq_true rfl, Nat.le_of_ble_eq_true rfl⟩) hS (fun q _ h => hFc q h) hFc (fun r u t H locs ht hvm hw hB hz1 hk1 hS => ?_)
    have hru9 := hw.2
    have hw := hw.1
    refine ex_2_1 hB (fun x_1368 x_1369 e_x_1368_0 hB => ?_)
    obtain ⟨hP, hD⟩ := Bw.goN (ws' := [(oc3 oR x_1368 x_1369 iR_tapeSize rR_tape iR_end x_1362 x_1363 x_1364 y_1365 x_1366 x_1367 oC iR_courtTold rR_names rR_keys), (arI rR_tape kR_tape 900 fR_tape), (arL rR_names kR_names 18 fR_names), (arL rR_keys kR_keys 10 fR_keys), (oc1 oC iC_nodes iC_words iC_chances iC_unsures iC_slips iC_throneNode iC_saidWorth iC_unit rC_kind rC_parts rC_partNodes rC_weights rC_weightSums rC_toldWorths rC_steps rC_below rC_above rC_unsureWords rC_unsureWorths), (arI rC_kind kC_kind 18 fC_kind), (arI rC_unsureWords kC_unsureWords 4 fC_unsureWords), (arI rC_unsureWorths kC_unsureWorths 4 fC_unsureWorths)]) hB rfl ht hP hD _ hMs hk1 hFc rfl
    clear hz1 hk1 hvm ht hB hMs
    rw [← hru9] at e_x_1368_0
    obtain ⟨x_1370, rfl⟩ : ∃ z, z = r := ⟨_, rfl⟩
    have hG := hG.trans (un3_eq e_x_1368_0)
    have bx_1370 := hw.1
    have dx_1370 := bz_tb bx_1370
    refine lv_if_ne (tgt := 30) hx hb dX3_readUnsure_25 (by decide) (fun c_1371 => ?_) (fun c_1371 => ?_)
    · skip
      have hG := hG.trans (if_neg c_1371)
      have gc_1371 := ti_ne c_1371 rfl kc_0
      refine lv_aload_n hx hb dX3_readUnsure_30 rfl (lv_at hl 0 rfl) ?_
      have hMs := ml_of hD [true, false, true, false, true, false, false, false] (wc := [(oc3 oR x_1368 x_1369 iR_tapeSize rR_tape iR_end x_1362 x_1363 x_1364 y_1365 x_1366 x_1367 oC iR_courtTold rR_names rR_keys), (arL rR_names kR_names 18 fR_names), (oc1 oC iC_nodes iC_words iC_chances iC_unsures iC_slips iC_throneNode iC_saidWorth iC_unit rC_kind rC_parts rC_partNodes rC_weights rC_weightSums rC_toldWorths rC_steps rC_below rC_above rC_unsureWords rC_unsureWorths)]) rfl
      have hFc := va_freeM hD hS hA _ hMs
      refine va_calli (va_runV (As := []) (rest := []) ⟨hx, hb, hml, hown, hts⟩ (tX3_toldNode l dC dI _ oR x_1368 x_1369 iR_tapeSize rR_tape iR_end x_1362 x_1363 x_1364 y_1365 x_1366 x_1367 oC iR_courtTold rR_names fR_names kR_names rR_keys iC_nodes iC_words iC_chances iC_unsures iC_slips iC_throneNode iC_saidWorth iC_unit rC_kind rC_parts rC_partNodes rC_weights rC_weightSums rC_toldWorths rC_steps rC_below rC_above rC_unsureWords rC_unsureWorths b_iR_tapeSize b_iR_courtTold b_iC_nodes b_iC_unsures b_iC_throneNode) (cwV 0 hts (wd_V wd_283 wd_284 wd_285 wd_15 (wd_c wd_286)) rfl rfl rfl dv_yX3_toldNode_0 ⟨Nat.le_of_ble_eq_true rfl, Nat.le_of_ble_eq_true rfl⟩) ⟨Pw.fb, recvX3 hK hP (q0 := 0) rfl, fun U hU hW => Pw.to (hP.ms _ hMs) (hD.ms _ hMs) (hK.ms [false, true, false, false, false, false] rfl) hE hS hFc hU hW⟩ rfl rfl hl.1 rfl (lv_room (Nat.le_of_ble_eq_true rfl)) dX3_readUnsure_31 ⟨Nat.le_of_ble_eq_true rfl, Nat.le_of_ble_eq_true rfl⟩) hS (fun q _ h => hFc q h) hFc (fun r u t H locs ht hvm hw hB hz1 hk1 hS => ?_)
      have hru9 := hw.2
      have hw := hw.1
      obtain ⟨hP, hD⟩ := Bw.goN (ws' := [(oc3 oR x_1368 x_1369 iR_tapeSize rR_tape iR_end x_1362 x_1363 x_1364 y_1365 x_1366 x_1367 oC iR_courtTold rR_names rR_keys), (arI rR_tape kR_tape 900 fR_tape), (arL rR_names kR_names 18 fR_names), (arL rR_keys kR_keys 10 fR_keys), (oc1 oC iC_nodes iC_words iC_chances iC_unsures iC_slips iC_throneNode iC_saidWorth iC_unit rC_kind rC_parts rC_partNodes rC_weights rC_weightSums rC_toldWorths rC_steps rC_below rC_above rC_unsureWords rC_unsureWorths), (arI rC_kind kC_kind 18 fC_kind), (arI rC_unsureWords kC_unsureWords 4 fC_unsureWords), (arI rC_unsureWorths kC_unsureWorths 4 fC_unsureWorths)]) hB rfl ht hP hD _ hMs hk1 hFc rfl
      clear hz1 hk1 hvm ht hB hMs
      obtain ⟨x_1372, rfl⟩ : ∃ z, z = r := ⟨_, rfl⟩
      have hG := hG.trans (lt_eq hru9.symm)
      have ux_1372 := hw.2
      refine lv_istore_n (lv' := [(1, .int x_1372), (0, .ref oR)]) hx hb dX3_readUnsure_34 rfl hl (by decide) rfl (fun ls hl => ?_)
      refine lv_aload_n hx hb dX3_readUnsure_35 rfl (lv_at hl 1 rfl) ?_
      refine va_get (D := (dC, dI)) (ci := 3) (v := .ref oC) (C := RX3) (T := TX3) (N := 15) hx hb hts inX3 hown hK hP 0 rfl rfl 11 (by decide) (hts _ wd_46) (fun _ h9 => h9) rfl dX3_readUnsure_36 ?_
      refine lv_iload_n hx hb dX3_readUnsure_39 rfl (lv_at hl 0 rfl) ?_
      have hMs := ml_of hD [false, false, false, false, true, true, false, false] (wc := [(oc1 oC iC_nodes iC_words iC_chances iC_unsures iC_slips iC_throneNode iC_saidWorth iC_unit rC_kind rC_parts rC_partNodes rC_weights rC_weightSums rC_toldWorths rC_steps rC_below rC_above rC_unsureWords rC_unsureWorths), (arI rC_kind kC_kind 18 fC_kind)]) rfl
      have hFc := va_freeM hD hS hA _ hMs
      refine va_calli (va_runV (As := [.int x_1372]) (rest := []) ⟨hx, hb, hml, hown, hts⟩ (tX1_hasWord l dC dI _ oC iC_nodes iC_words iC_chances iC_unsures iC_slips iC_throneNode iC_saidWorth iC_unit rC_kind fC_kind kC_kind rC_parts rC_partNodes rC_weights rC_weightSums rC_toldWorths rC_steps rC_below rC_above rC_unsureWords rC_unsureWorths x_1372 b_iC_nodes b_iC_unsures b_iC_throneNode) (cwV 1 hts (wd_V wd_339 wd_340 wd_341 wd_19 (wd_c wd_342)) rfl rfl rfl dv_yX1_hasWord_1 ⟨Nat.le_of_ble_eq_true rfl, Nat.le_of_ble_eq_true rfl⟩) ⟨Pw.fb, recvX1 hK hP (q0 := 4) rfl, fun U hU hW => Pw.to (hP.ms _ hMs) (hD.ms _ hMs) (hK.ms [false, false, false, true, false, false] rfl) hE hS hFc hU hW⟩ rfl rfl hl.1 rfl (lv_room (Nat.le_of_ble_eq_true rfl)) dX3_readUnsure_40 ⟨Nat.le_of_ble_eq_true rfl, Nat.le_of_ble_eq_true rfl⟩) hS (fun q _ h => hFc q h) hFc (fun r u t H locs ht hvm hw hB hz1 hk1 hS => ?_)
      have hru9 := hw.2
      have hw := hw.1
      obtain ⟨hP, hD⟩ := Bw.goN (ws' := [(oc3 oR x_1368 x_1369 iR_tapeSize rR_tape iR_end x_1362 x_1363 x_1364 y_1365 x_1366 x_1367 oC iR_courtTold rR_names rR_keys), (arI rR_tape kR_tape 900 fR_tape), (arL rR_names kR_names 18 fR_names), (arL rR_keys kR_keys 10 fR_keys), (oc1 oC iC_nodes iC_words iC_chances iC_unsures iC_slips iC_throneNode iC_saidWorth iC_unit rC_kind rC_parts rC_partNodes rC_weights rC_weightSums rC_toldWorths rC_steps rC_below rC_above rC_unsureWords rC_unsureWorths), (arI rC_kind kC_kind 18 fC_kind), (arI rC_unsureWords kC_unsureWords 4 fC_unsureWords), (arI rC_unsureWorths kC_unsureWorths 4 fC_unsureWorths)]) hB rfl ht hP hD _ hMs hk1 hFc rfl
      clear hz1 hk1 hvm ht hB hMs
      rcases hw.2 with ⟨rfl, hc_1373⟩ | ⟨rfl, hc_1373⟩
      · skip
        have hG := hG.trans (lt_eq hru9.symm)
        have hG := hG.trans (if_pos rfl)
        refine lv_if_ne (tgt := 52) hx hb dX3_readUnsure_43 (by decide) (fun _ => ?_) (fun c => absurd c (by decide))
        refine lv_aload_n hx hb dX3_readUnsure_52 rfl (lv_at hl 1 rfl) ?_
        refine va_get (D := (dC, dI)) (ci := 3) (v := .ref oC) (C := RX3) (T := TX3) (N := 15) hx hb hts inX3 hown hK hP 0 rfl rfl 11 (by decide) (hts _ wd_46) (fun _ h9 => h9) rfl dX3_readUnsure_53 ?_
        refine lv_iload_n hx hb dX3_readUnsure_56 rfl (lv_at hl 0 rfl) ?_
        have hMs := ml_of hD [false, false, false, false, true, false, true, false] (wc := [(oc1 oC iC_nodes iC_words iC_chances iC_unsures iC_slips iC_throneNode iC_saidWorth iC_unit rC_kind rC_parts rC_partNodes rC_weights rC_weightSums rC_toldWorths rC_steps rC_below rC_above rC_unsureWords rC_unsureWorths), (arI rC_unsureWords kC_unsureWords 4 fC_unsureWords)]) rfl
        have hFc := va_freeM hD hS hA _ hMs
        refine va_calli (va_runV (As := [.int x_1372]) (rest := []) ⟨hx, hb, hml, hown, hts⟩ (tX1_isUnsure l dC dI _ oC iC_nodes iC_words iC_chances iC_unsures iC_slips iC_throneNode iC_saidWorth iC_unit rC_kind rC_parts rC_partNodes rC_weights rC_weightSums rC_toldWorths rC_steps rC_below rC_above rC_unsureWords fC_unsureWords kC_unsureWords rC_unsureWorths x_1372 b_iC_nodes b_iC_unsures b_iC_throneNode a_fC_unsureWords) (cwV 1 hts (wd_V wd_343 wd_344 wd_345 wd_19 (wd_c wd_346)) rfl rfl rfl dv_yX1_isUnsure_1 ⟨Nat.le_of_ble_eq_true rfl, Nat.le_of_ble_eq_true rfl⟩) ⟨Pw.fb, recvX1 hK hP (q0 := 4) rfl, fun U hU hW => Pw.to (hP.ms _ hMs) (hD.ms _ hMs) (hK.ms [false, false, false, false, true, false] rfl) hE hS hFc hU hW⟩ rfl rfl hl.1 rfl (lv_room (Nat.le_of_ble_eq_true rfl)) dX3_readUnsure_57 ⟨Nat.le_of_ble_eq_true rfl, Nat.le_of_ble_eq_true rfl⟩) hS (fun q _ h => hFc q h) hFc (fun r u t H locs ht hvm hw hB hz1 hk1 hS => ?_)
        have hru9 := hw.2
        have hw := hw.1
        obtain ⟨hP, hD⟩ := Bw.goN (ws' := [(oc3 oR x_1368 x_1369 iR_tapeSize rR_tape iR_end x_1362 x_1363 x_1364 y_1365 x_1366 x_1367 oC iR_courtTold rR_names rR_keys), (arI rR_tape kR_tape 900 fR_tape), (arL rR_names kR_names 18 fR_names), (arL rR_keys kR_keys 10 fR_keys), (oc1 oC iC_nodes iC_words iC_chances iC_unsures iC_slips iC_throneNode iC_saidWorth iC_unit rC_kind rC_parts rC_partNodes rC_weights rC_weightSums rC_toldWorths rC_steps rC_below rC_above rC_unsureWords rC_unsureWorths), (arI rC_kind kC_kind 18 fC_kind), (arI rC_unsureWords kC_unsureWords 4 fC_unsureWords), (arI rC_unsureWorths kC_unsureWorths 4 fC_unsureWorths)]) hB rfl ht hP hD _ hMs hk1 hFc rfl
        clear hz1 hk1 hvm ht hB hMs
        obtain ⟨x_1376, rfl⟩ : ∃ z, z = r := ⟨_, rfl⟩
        have hG := hG.trans (lt_eq hru9.symm)
        have bx_1376 := hw.1
        have dx_1376 := bz_tb bx_1376
        refine lv_if_eq (tgt := 69) hx hb dX3_readUnsure_60 (by decide) (fun c_1377 => ?_) (fun c_1377 => ?_)
        · skip
          have hG := hG.trans (if_pos c_1377)
          have gc_1377 := ti_eq c_1377 rfl kc_0
          refine lv_aload_n hx hb dX3_readUnsure_69 rfl (lv_at hl 1 rfl) ?_
          have hMs := ml_of hD [true, true, false, true, false, false, false, false] (wc := [(oc3 oR x_1368 x_1369 iR_tapeSize rR_tape iR_end x_1362 x_1363 x_1364 y_1365 x_1366 x_1367 oC iR_courtTold rR_names rR_keys), (arI rR_tape kR_tape 900 fR_tape), (arL rR_keys kR_keys 10 fR_keys)]) rfl
          have hFc := va_freeM hD hS hA _ hMs
          refine va_callv (va_runV (As := []) (rest := []) ⟨hx, hb, hml, hown, hts⟩ (tX3_nextToken l dC dI _ oR x_1368 x_1369 iR_tapeSize rR_tape fR_tape kR_tape iR_end x_1362 x_1363 x_1364 y_1365 x_1366 x_1367 oC iR_courtTold rR_names rR_keys fR_keys kR_keys b_iR_tapeSize b_iR_courtTold) (cwV 0 hts (wd_V wd_220 wd_221 wd_222 wd_15 (wd_c wd_223)) rfl rfl rfl dv_yX3_nextToken_0 ⟨Nat.le_of_ble_eq_true rfl, Nat.le_of_ble_eq_true rfl⟩) ⟨Pw.fb, recvX3 hK hP (q0 := 0) rfl, fun U hU hW => Pw.to (hP.ms _ hMs) (hD.ms _ hMs) (hK.ms [true, false, true, false, false, false] rfl) hE hS hFc hU hW⟩ rfl rfl hl.1 rfl (lv_room (Nat.le_of_ble_eq_true rfl)) dX3_readUnsure_70 ⟨Nat.le_of_ble_eq_true rfl, Nat.le_of_ble_eq_true rfl⟩) hS (fun q _ h => hFc q h) hFc (fun u t H locs ht hvm hw hB hz1 hk1 hS => ?_)
          refine ex_6_1 hB (fun x_1378 x_1379 x_1380 y_1381 x_1382 x_1383 e_x_1378_0 hB => ?_)
          obtain ⟨hP, hD⟩ := Bw.goN (ws' := [(oc3 oR x_1368 x_1369 iR_tapeSize rR_tape iR_end x_1378 x_1379 x_1380 y_1381 x_1382 x_1383 oC iR_courtTold rR_names rR_keys), (arI rR_tape kR_tape 900 fR_tape), (arL rR_names kR_names 18 fR_names), (arL rR_keys kR_keys 10 fR_keys), (oc1 oC iC_nodes iC_words iC_chances iC_unsures iC_slips iC_throneNode iC_saidWorth iC_unit rC_kind rC_parts rC_partNodes rC_weights rC_weightSums rC_toldWorths rC_steps rC_below rC_above rC_unsureWords rC_unsureWorths), (arI rC_kind kC_kind 18 fC_kind), (arI rC_unsureWords kC_unsureWords 4 fC_unsureWords), (arI rC_unsureWorths kC_unsureWorths 4 fC_unsureWorths)]) hB rfl ht hP hD _ hMs hk1 hFc rfl
          clear hz1 hk1 hvm ht hB hMs
          have hG := hG.trans (un6_eq e_x_1378_0)
          refine lv_aload_n hx hb dX3_readUnsure_73 rfl (lv_at hl 1 rfl) ?_
          refine lv_iconst (v := 0) hx hb dX3_readUnsure_74 (by decide) ?_
          refine lv_bipush (v := 99) hx hb dX3_readUnsure_75 (by decide) ?_
          have hMs := ml_of hD [true, false, false, false, false, false, false, false] (wc := [(oc3 oR x_1368 x_1369 iR_tapeSize rR_tape iR_end x_1378 x_1379 x_1380 y_1381 x_1382 x_1383 oC iR_courtTold rR_names rR_keys)]) rfl
          have hFc := va_freeM hD hS hA _ hMs
          refine va_calli (va_runV (As := [.int 0, .int 99]) (rest := []) ⟨hx, hb, hml, hown, hts⟩ (tX3_isWholeWithin l dC dI _ oR x_1368 x_1369 iR_tapeSize rR_tape iR_end x_1378 x_1379 x_1380 y_1381 x_1382 x_1383 oC iR_courtTold rR_names rR_keys 0 99 b_iR_tapeSize b_iR_courtTold) (cwV 2 hts (wd_V wd_263 wd_264 wd_265 wd_15 (wd_c wd_266)) rfl rfl rfl dv_yX3_isWholeWithin_2 ⟨Nat.le_of_ble_eq_true rfl, Nat.le_of_ble_eq_true rfl⟩) ⟨Pw.fb, recvX3 hK hP (q0 := 0) rfl, fun U hU hW => Pw.to (hP.ms _ hMs) (hD.ms _ hMs) (hK.ms [false, false, false, false, false, false] rfl) hE hS hFc hU hW⟩ rfl rfl hl.1 rfl (lv_room (Nat.le_of_ble_eq_true rfl)) dX3_readUnsure_77 ⟨Nat.le_of_ble_eq_true rfl, Nat.le_of_ble_eq_true rfl⟩) hS (fun q _ h => hFc q h) hFc (fun r u t H locs ht hvm hw hB hz1 hk1 hS => ?_)
          have hru9 := hw.2
          have hw := hw.1
          refine ex_2_1 hB (fun x_1384 x_1385 e_x_1384_0 hB => ?_)
          obtain ⟨hP, hD⟩ := Bw.goN (ws' := [(oc3 oR x_1384 x_1385 iR_tapeSize rR_tape iR_end x_1378 x_1379 x_1380 y_1381 x_1382 x_1383 oC iR_courtTold rR_names rR_keys), (arI rR_tape kR_tape 900 fR_tape), (arL rR_names kR_names 18 fR_names), (arL rR_keys kR_keys 10 fR_keys), (oc1 oC iC_nodes iC_words iC_chances iC_unsures iC_slips iC_throneNode iC_saidWorth iC_unit rC_kind rC_parts rC_partNodes rC_weights rC_weightSums rC_toldWorths rC_steps rC_below rC_above rC_unsureWords rC_unsureWorths), (arI rC_kind kC_kind 18 fC_kind), (arI rC_unsureWords kC_unsureWords 4 fC_unsureWords), (arI rC_unsureWorths kC_unsureWorths 4 fC_unsureWorths)]) hB rfl ht hP hD _ hMs hk1 hFc rfl
          clear hz1 hk1 hvm ht hB hMs
          rw [← hru9] at e_x_1384_0
          obtain ⟨x_1386, rfl⟩ : ∃ z, z = r := ⟨_, rfl⟩
          have hG := hG.trans (un3_eq e_x_1384_0)
          have bx_1386 := hw.1
          have dx_1386 := bz_tb bx_1386
          refine lv_if_ne (tgt := 85) hx hb dX3_readUnsure_80 (by decide) (fun c_1387 => ?_) (fun c_1387 => ?_)
          · skip
            have hG := hG.trans (if_neg c_1387)
            have gc_1387 := ti_ne c_1387 rfl kc_0
            refine lv_aload_n hx hb dX3_readUnsure_85 rfl (lv_at hl 1 rfl) ?_
            refine va_get (D := (dC, dI)) (ci := 3) (v := .ref oC) (C := RX3) (T := TX3) (N := 15) hx hb hts inX3 hown hK hP 0 rfl rfl 11 (by decide) (hts _ wd_46) (fun _ h9 => h9) rfl dX3_readUnsure_86 ?_
            refine lv_iload_n hx hb dX3_readUnsure_89 rfl (lv_at hl 0 rfl) ?_
            refine lv_aload_n hx hb dX3_readUnsure_90 rfl (lv_at hl 1 rfl) ?_
            refine va_get (D := (dC, dI)) (ci := 3) (v := .int x_1383) (C := RX3) (T := TX3) (N := 15) hx hb hts inX3 hown hK hP 0 rfl rfl 10 (by decide) (hts _ wd_245) (fun _ h9 => h9) rfl dX3_readUnsure_91 ?_
            have hMs := ml_of hD [false, false, false, false, true, false, true, true] (wc := [(oc1 oC iC_nodes iC_words iC_chances iC_unsures iC_slips iC_throneNode iC_saidWorth iC_unit rC_kind rC_parts rC_partNodes rC_weights rC_weightSums rC_toldWorths rC_steps rC_below rC_above rC_unsureWords rC_unsureWorths), (arI rC_unsureWords kC_unsureWords 4 fC_unsureWords), (arI rC_unsureWorths kC_unsureWorths 4 fC_unsureWorths)]) rfl
            have hFc := va_freeM hD hS hA _ hMs
            refine va_callv (va_runV (As := [.int x_1372, .int x_1383]) (rest := []) ⟨hx, hb, hml, hown, hts⟩ (tX1_addUnsure l dC dI _ oC iC_nodes iC_words iC_chances iC_unsures iC_slips iC_throneNode iC_saidWorth iC_unit rC_kind rC_parts rC_partNodes rC_weights rC_weightSums rC_toldWorths rC_steps rC_below rC_above rC_unsureWords fC_unsureWords kC_unsureWords rC_unsureWorths fC_unsureWorths kC_unsureWorths x_1372 x_1383 b_iC_nodes b_iC_unsures b_iC_throneNode a_fC_unsureWords ⟨hc_1373.1, ux_1372.2⟩) (cwV 2 hts (wd_V wd_347 wd_348 wd_349 wd_19 (wd_c wd_350)) rfl rfl rfl dv_yX1_addUnsure_2 ⟨Nat.le_of_ble_eq_true rfl, Nat.le_of_ble_eq_true rfl⟩) ⟨Pw.fb, recvX1 hK hP (q0 := 4) rfl, fun U hU hW => Pw.to (hP.ms _ hMs) (hD.ms _ hMs) (hK.ms [false, false, false, false, true, true] rfl) hE hS hFc hU hW⟩ rfl rfl hl.1 rfl (lv_room (Nat.le_of_ble_eq_true rfl)) dX3_readUnsure_94 ⟨Nat.le_of_ble_eq_true rfl, Nat.le_of_ble_eq_true rfl⟩) hS (fun q _ h => hFc q h) hFc (fun u t H locs ht hvm hw hB hz1 hk1 hS => ?_)
            refine ex_3_3 hB (fun x_1388 f_1389 f_1390 b_x_1388 a_f_1389 e_x_1388_0 hB => ?_)
            obtain ⟨hP, hD⟩ := Bw.goN (ws' := [(oc3 oR x_1384 x_1385 iR_tapeSize rR_tape iR_end x_1378 x_1379 x_1380 y_1381 x_1382 x_1383 oC iR_courtTold rR_names rR_keys), (arI rR_tape kR_tape 900 fR_tape), (arL rR_names kR_names 18 fR_names), (arL rR_keys kR_keys 10 fR_keys), (oc1 oC iC_nodes iC_words iC_chances x_1388 iC_slips iC_throneNode iC_saidWorth iC_unit rC_kind rC_parts rC_partNodes rC_weights rC_weightSums rC_toldWorths rC_steps rC_below rC_above rC_unsureWords rC_unsureWorths), (arI rC_kind kC_kind 18 fC_kind), (arI rC_unsureWords kC_unsureWords 4 f_1389), (arI rC_unsureWorths kC_unsureWorths 4 f_1390)]) hB rfl ht hP hD _ hMs hk1 hFc rfl
            clear hz1 hk1 hvm ht hB hMs
            have hG := hG.trans (un3_eq e_x_1388_0)
            refine lv_aload_n hx hb dX3_readUnsure_97 rfl (lv_at hl 1 rfl) ?_
            have hMs := ml_of hD [true, true, false, true, false, false, false, false] (wc := [(oc3 oR x_1384 x_1385 iR_tapeSize rR_tape iR_end x_1378 x_1379 x_1380 y_1381 x_1382 x_1383 oC iR_courtTold rR_names rR_keys), (arI rR_tape kR_tape 900 fR_tape), (arL rR_keys kR_keys 10 fR_keys)]) rfl
            have hFc := va_freeM hD hS hA _ hMs
            refine va_callv (va_runV (As := []) (rest := []) ⟨hx, hb, hml, hown, hts⟩ (tX3_nextToken l dC dI _ oR x_1384 x_1385 iR_tapeSize rR_tape fR_tape kR_tape iR_end x_1378 x_1379 x_1380 y_1381 x_1382 x_1383 oC iR_courtTold rR_names rR_keys fR_keys kR_keys b_iR_tapeSize b_iR_courtTold) (cwV 0 hts (wd_V wd_220 wd_221 wd_222 wd_15 (wd_c wd_223)) rfl rfl rfl dv_yX3_nextToken_0 ⟨Nat.le_of_ble_eq_true rfl, Nat.le_of_ble_eq_true rfl⟩) ⟨Pw.fb, recvX3 hK hP (q0 := 0) rfl, fun U hU hW => Pw.to (hP.ms _ hMs) (hD.ms _ hMs) (hK.ms [true, false, true, false, false, false] rfl) hE hS hFc hU hW⟩ rfl rfl hl.1 rfl (lv_room (Nat.le_of_ble_eq_true rfl)) dX3_readUnsure_98 ⟨Nat.le_of_ble_eq_true rfl, Nat.le_of_ble_eq_true rfl⟩) hS (fun q _ h => hFc q h) hFc (fun u t H locs ht hvm hw hB hz1 hk1 hS => ?_)
            refine ex_6_1 hB (fun x_1391 x_1392 x_1393 y_1394 x_1395 x_1396 e_x_1391_0 hB => ?_)
            obtain ⟨hP, hD⟩ := Bw.goN (ws' := [(oc3 oR x_1384 x_1385 iR_tapeSize rR_tape iR_end x_1391 x_1392 x_1393 y_1394 x_1395 x_1396 oC iR_courtTold rR_names rR_keys), (arI rR_tape kR_tape 900 fR_tape), (arL rR_names kR_names 18 fR_names), (arL rR_keys kR_keys 10 fR_keys), (oc1 oC iC_nodes iC_words iC_chances x_1388 iC_slips iC_throneNode iC_saidWorth iC_unit rC_kind rC_parts rC_partNodes rC_weights rC_weightSums rC_toldWorths rC_steps rC_below rC_above rC_unsureWords rC_unsureWorths), (arI rC_kind kC_kind 18 fC_kind), (arI rC_unsureWords kC_unsureWords 4 f_1389), (arI rC_unsureWorths kC_unsureWorths 4 f_1390)]) hB rfl ht hP hD _ hMs hk1 hFc rfl
            clear hz1 hk1 hvm ht hB hMs
            have hG := hG.trans (un6_eq e_x_1391_0)
            refine lv_iconst (v := 1) hx hb dX3_readUnsure_101 (by decide) ?_
            exact wq_z (v := 1) hx hb hr rfl (cI 1) ⟨⟨Or.inr rfl, trivial⟩, (cI_of 1)⟩ (fun t ht hW => ⟨x_1384, x_1385, x_1391, x_1392, x_1393, y_1394, x_1395, x_1396, x_1388, f_1389, f_1390, b_x_1388, a_f_1389, (cI_tup hG), Bw.to hP hD hK ht hW⟩) hS dX3_readUnsure_102 hlocks
          · skip
            have hG := hG.trans (if_pos c_1387)
            have gc_1387 := ti_eq c_1387 rfl kc_0
            refine lv_iconst (v := 0) hx hb dX3_readUnsure_83 (by decide) ?_
            exact wq_z (v := 0) hx hb hr rfl (cI 0) ⟨⟨Or.inl rfl, trivial⟩, (cI_of 0)⟩ (fun t ht hW => ⟨x_1384, x_1385, x_1378, x_1379, x_1380, y_1381, x_1382, x_1383, iC_unsures, fC_unsureWords, fC_unsureWorths, b_iC_unsures, a_fC_unsureWords, (cI_tup hG), Bw.to hP hD hK ht hW⟩) hS dX3_readUnsure_84 hlocks
        · skip
          have hG := hG.trans (if_neg c_1377)
          have gc_1377 := ti_ne c_1377 rfl kc_0
          refine lv_aload_n hx hb dX3_readUnsure_63 rfl (lv_at hl 1 rfl) ?_
          refine lv_iconst (v := 3) hx hb dX3_readUnsure_64 (by decide) ?_
          have hMs := ml_of hD [true, false, false, false, false, false, false, false] (wc := [(oc3 oR x_1368 x_1369 iR_tapeSize rR_tape iR_end x_1362 x_1363 x_1364 y_1365 x_1366 x_1367 oC iR_courtTold rR_names rR_keys)]) rfl
          have hFc := va_freeM hD hS hA _ hMs
          refine va_calli (va_runV (As := [.int 3]) (rest := []) ⟨hx, hb, hml, hown, hts⟩ (tX3_faulty l dC dI _ oR x_1368 x_1369 iR_tapeSize rR_tape iR_end x_1362 x_1363 x_1364 y_1365 x_1366 x_1367 oC iR_courtTold rR_names rR_keys 3 b_iR_tapeSize b_iR_courtTold) (cwV 1 hts (wd_V wd_254 wd_255 wd_256 wd_15 (wd_c wd_257)) rfl rfl rfl dv_yX3_faulty_1 ⟨Nat.le_of_ble_eq_true rfl, Nat.le_of_ble_eq_true rfl⟩) ⟨Pw.fb, recvX3 hK hP (q0 := 0) rfl, fun U hU hW => Pw.to (hP.ms _ hMs) (hD.ms _ hMs) (hK.ms [false, false, false, false, false, false] rfl) hE hS hFc hU hW⟩ rfl rfl hl.1 rfl (lv_room (Nat.le_of_ble_eq_true rfl)) dX3_readUnsure_65 ⟨Nat.le_of_ble_eq_true rfl, Nat.le_of_ble_eq_true rfl⟩) hS (fun q _ h => hFc q h) hFc (fun r u t H locs ht hvm hw hB hz1 hk1 hS => ?_)
          have hru9 := hw.2
          have hw := hw.1
          refine ex_2_1 hB (fun x_1397 x_1398 e_x_1397_0 hB => ?_)
          obtain ⟨hP, hD⟩ := Bw.goN (ws' := [(oc3 oR x_1397 x_1398 iR_tapeSize rR_tape iR_end x_1362 x_1363 x_1364 y_1365 x_1366 x_1367 oC iR_courtTold rR_names rR_keys), (arI rR_tape kR_tape 900 fR_tape), (arL rR_names kR_names 18 fR_names), (arL rR_keys kR_keys 10 fR_keys), (oc1 oC iC_nodes iC_words iC_chances iC_unsures iC_slips iC_throneNode iC_saidWorth iC_unit rC_kind rC_parts rC_partNodes rC_weights rC_weightSums rC_toldWorths rC_steps rC_below rC_above rC_unsureWords rC_unsureWorths), (arI rC_kind kC_kind 18 fC_kind), (arI rC_unsureWords kC_unsureWords 4 fC_unsureWords), (arI rC_unsureWorths kC_unsureWorths 4 fC_unsureWorths)]) hB rfl ht hP hD _ hMs hk1 hFc rfl
          clear hz1 hk1 hvm ht hB hMs
          rw [← hru9] at e_x_1397_0
          rcases hw.2 with ⟨rfl, hc_1399⟩
          · skip
            have hG := hG.trans (un3_eq e_x_1397_0)
            exact wq_z (v := 0) hx hb hr rfl (cI 0) ⟨⟨Or.inl rfl, trivial⟩, (cI_of 0)⟩ (fun t ht hW => ⟨x_1397, x_1398, x_1362, x_1363, x_1364, y_1365, x_1366, x_1367, iC_unsures, fC_unsureWords, fC_unsureWorths, b_iC_unsures, a_fC_unsureWords, (cI_tup hG), Bw.to hP hD hK ht hW⟩) hS dX3_readUnsure_68 hlocks
      · skip
        have hG := hG.trans (lt_eq hru9.symm)
        have hG := hG.trans (if_neg (by decide))
        refine lv_if_ne (tgt := 52) hx hb dX3_readUnsure_43 (by decide) (fun c => absurd c (by decide)) (fun _ => ?_)
        refine lv_aload_n hx hb dX3_readUnsure_46 rfl (lv_at hl 1 rfl) ?_
        refine lv_iconst (v := 2) hx hb dX3_readUnsure_47 (by decide) ?_
        have hMs := ml_of hD [true, false, false, false, false, false, false, false] (wc := [(oc3 oR x_1368 x_1369 iR_tapeSize rR_tape iR_end x_1362 x_1363 x_1364 y_1365 x_1366 x_1367 oC iR_courtTold rR_names rR_keys)]) rfl
        have hFc := va_freeM hD hS hA _ hMs
        refine va_calli (va_runV (As := [.int 2]) (rest := []) ⟨hx, hb, hml, hown, hts⟩ (tX3_faulty l dC dI _ oR x_1368 x_1369 iR_tapeSize rR_tape iR_end x_1362 x_1363 x_1364 y_1365 x_1366 x_1367 oC iR_courtTold rR_names rR_keys 2 b_iR_tapeSize b_iR_courtTold) (cwV 1 hts (wd_V wd_254 wd_255 wd_256 wd_15 (wd_c wd_257)) rfl rfl rfl dv_yX3_faulty_1 ⟨Nat.le_of_ble_eq_true rfl, Nat.le_of_ble_eq_true rfl⟩) ⟨Pw.fb, recvX3 hK hP (q0 := 0) rfl, fun U hU hW => Pw.to (hP.ms _ hMs) (hD.ms _ hMs) (hK.ms [false, false, false, false, false, false] rfl) hE hS hFc hU hW⟩ rfl rfl hl.1 rfl (lv_room (Nat.le_of_ble_eq_true rfl)) dX3_readUnsure_48 ⟨Nat.le_of_ble_eq_true rfl, Nat.le_of_ble_eq_true rfl⟩) hS (fun q _ h => hFc q h) hFc (fun r u t H locs ht hvm hw hB hz1 hk1 hS => ?_)
        have hru9 := hw.2
        have hw := hw.1
        refine ex_2_1 hB (fun x_1402 x_1403 e_x_1402_0 hB => ?_)
        obtain ⟨hP, hD⟩ := Bw.goN (ws' := [(oc3 oR x_1402 x_1403 iR_tapeSize rR_tape iR_end x_1362 x_1363 x_1364 y_1365 x_1366 x_1367 oC iR_courtTold rR_names rR_keys), (arI rR_tape kR_tape 900 fR_tape), (arL rR_names kR_names 18 fR_names), (arL rR_keys kR_keys 10 fR_keys), (oc1 oC iC_nodes iC_words iC_chances iC_unsures iC_slips iC_throneNode iC_saidWorth iC_unit rC_kind rC_parts rC_partNodes rC_weights rC_weightSums rC_toldWorths rC_steps rC_below rC_above rC_unsureWords rC_unsureWorths), (arI rC_kind kC_kind 18 fC_kind), (arI rC_unsureWords kC_unsureWords 4 fC_unsureWords), (arI rC_unsureWorths kC_unsureWorths 4 fC_unsureWorths)]) hB rfl ht hP hD _ hMs hk1 hFc rfl
        clear hz1 hk1 hvm ht hB hMs
        rw [← hru9] at e_x_1402_0
        rcases hw.2 with ⟨rfl, hc_1404⟩
        · skip
          have hG := hG.trans (un3_eq e_x_1402_0)
          exact wq_z (v := 0) hx hb hr rfl (cI 0) ⟨⟨Or.inl rfl, trivial⟩, (cI_of 0)⟩ (fun t ht hW => ⟨x_1402, x_1403, x_1362, x_1363, x_1364, y_1365, x_1366, x_1367, iC_unsures, fC_unsureWords, fC_unsureWorths, b_iC_unsures, a_fC_unsureWords, (cI_tup hG), Bw.to hP hD hK ht hW⟩) hS dX3_readUnsure_51 hlocks
    · skip
      have hG := hG.trans (if_pos c_1371)
      have gc_1371 := ti_eq c_1371 rfl kc_0
      refine lv_iconst (v := 0) hx hb dX3_readUnsure_28 (by decide) ?_
      exact wq_z (v := 0) hx hb hr rfl (cI 0) ⟨⟨Or.inl rfl, trivial⟩, (cI_of 0)⟩ (fun t ht hW => ⟨x_1368, x_1369, x_1362, x_1363, x_1364, y_1365, x_1366, x_1367, iC_unsures, fC_unsureWords, fC_unsureWorths, b_iC_unsures, a_fC_unsureWords, (cI_tup hG), Bw.to hP hD hK ht hW⟩) hS dX3_readUnsure_29 hlocks
  · skip
    have hG := hG.trans (if_neg c_1361)
    have gc_1361 := ti_nlt c_1361 rfl kc_4
    refine lv_aload_n hx hb dX3_readUnsure_11 rfl (lv_at hl 0 rfl) ?_
    refine lv_iconst (v := 5) hx hb dX3_readUnsure_12 (by decide) ?_
    have hMs := ml_of hD [true, false, false, false, false, false, false, false] (wc := [(oc3 oR iR_faultNumber iR_faultPlace iR_tapeSize rR_tape iR_end iR_tokenKind iR_tokenFrom iR_tokenTo iR_tokenName iR_tokenKey iR_tokenWhole oC iR_courtTold rR_names rR_keys)]) rfl
    have hFc := va_freeM hD hS hA _ hMs
    refine va_calli (va_runV (As := [.int 5]) (rest := []) ⟨hx, hb, hml, hown, hts⟩ (tX3_faulty l dC dI _ oR iR_faultNumber iR_faultPlace iR_tapeSize rR_tape iR_end iR_tokenKind iR_tokenFrom iR_tokenTo iR_tokenName iR_tokenKey iR_tokenWhole oC iR_courtTold rR_names rR_keys 5 b_iR_tapeSize b_iR_courtTold) (cwV 1 hts (wd_V wd_254 wd_255 wd_256 wd_15 (wd_c wd_257)) rfl rfl rfl dv_yX3_faulty_1 ⟨Nat.le_of_ble_eq_true rfl, Nat.le_of_ble_eq_true rfl⟩) ⟨Pw.fb, recvX3 hK hP (q0 := 0) rfl, fun U hU hW => Pw.to (hP.ms _ hMs) (hD.ms _ hMs) (hK.ms [false, false, false, false, false, false] rfl) hE hS hFc hU hW⟩ rfl rfl hl.1 rfl (lv_room (Nat.le_of_ble_eq_true rfl)) dX3_readUnsure_13 ⟨Nat.le_of_ble_eq_true rfl, Nat.le_of_ble_eq_true rfl⟩) hS (fun q _ h => hFc q h) hFc (fun r u t H locs ht hvm hw hB hz1 hk1 hS => ?_)
    have hru9 := hw.2
    have hw := hw.1
    refine ex_2_1 hB (fun x_1406 x_1407 e_x_1406_0 hB => ?_)
    obtain ⟨hP, hD⟩ := Bw.goN (ws' := [(oc3 oR x_1406 x_1407 iR_tapeSize rR_tape iR_end iR_tokenKind iR_tokenFrom iR_tokenTo iR_tokenName iR_tokenKey iR_tokenWhole oC iR_courtTold rR_names rR_keys), (arI rR_tape kR_tape 900 fR_tape), (arL rR_names kR_names 18 fR_names), (arL rR_keys kR_keys 10 fR_keys), (oc1 oC iC_nodes iC_words iC_chances iC_unsures iC_slips iC_throneNode iC_saidWorth iC_unit rC_kind rC_parts rC_partNodes rC_weights rC_weightSums rC_toldWorths rC_steps rC_below rC_above rC_unsureWords rC_unsureWorths), (arI rC_kind kC_kind 18 fC_kind), (arI rC_unsureWords kC_unsureWords 4 fC_unsureWords), (arI rC_unsureWorths kC_unsureWorths 4 fC_unsureWorths)]) hB rfl ht hP hD _ hMs hk1 hFc rfl
    clear hz1 hk1 hvm ht hB hMs
    rw [← hru9] at e_x_1406_0
    rcases hw.2 with ⟨rfl, hc_1408⟩
    · skip
      have hG := hG.trans (un3_eq e_x_1406_0)
      exact wq_z (v := 0) hx hb hr rfl (cI 0) ⟨⟨Or.inl rfl, trivial⟩, (cI_of 0)⟩ (fun t ht hW => ⟨x_1406, x_1407, iR_tokenKind, iR_tokenFrom, iR_tokenTo, iR_tokenName, iR_tokenKey, iR_tokenWhole, iC_unsures, fC_unsureWords, fC_unsureWorths, b_iC_unsures, a_fC_unsureWords, (cI_tup hG), Bw.to hP hD hK ht hW⟩) hS dX3_readUnsure_16 hlocks
set_option maxHeartbeats 4000000 in
set_option maxRecDepth 100000 in
theorem tX3_readThrone (l : Launch) (dC : Nat → ClassId) (dI : Nat → Nat → Nat) (sz : Nat) (oR : Nat) (iR_faultNumber : Int32) (iR_faultPlace : Int32) (iR_tapeSize : Int32) (rR_tape : Nat) (fR_tape : Nat → Int32) (kR_tape : ClassId) (iR_end : Int32) (iR_tokenKind : Int32) (iR_tokenFrom : Int32) (iR_tokenTo : Int32) (iR_tokenName : Int64) (iR_tokenKey : Int32) (iR_tokenWhole : Int32) (oC : Nat) (iR_courtTold : Int32) (rR_names : Nat) (fR_names : Nat → Int64) (kR_names : ClassId) (rR_keys : Nat) (fR_keys : Nat → Int64) (kR_keys : ClassId) (iC_nodes : Int32) (iC_words : Int32) (iC_chances : Int32) (iC_unsures : Int32) (iC_slips : Int32) (iC_throneNode : Int32) (iC_saidWorth : Int32) (iC_unit : Int32) (rC_kind : Nat) (rC_parts : Nat) (rC_partNodes : Nat) (rC_weights : Nat) (rC_weightSums : Nat) (rC_toldWorths : Nat) (rC_steps : Nat) (rC_below : Nat) (rC_above : Nat) (rC_unsureWords : Nat) (rC_unsureWorths : Nat) (b_iR_tapeSize : 0 ≤ iR_tapeSize.toInt ∧ iR_tapeSize.toInt ≤ 900) (b_iR_courtTold : 0 ≤ iR_courtTold.toInt ∧ iR_courtTold.toInt ≤ 1) (b_iC_nodes : 0 ≤ iC_nodes.toInt ∧ iC_nodes.toInt ≤ 18) (b_iC_unsures : 0 ≤ iC_unsures.toInt ∧ iC_unsures.toInt ≤ 4) (b_iC_throneNode : (-1) ≤ iC_throneNode.toInt ∧ iC_throneNode.toInt ≤ 17)  : Met l yX3_readThrone (Cond.code yX3_readThrone cX3_readThrone 1 (some .boolean) :: wG) ({ frames := 3, cells := 0, slots := 0, locals := 66 }) (va_Pc [.ref oR] (Pw dC dI sz [(oc3 oR iR_faultNumber iR_faultPlace iR_tapeSize rR_tape iR_end iR_tokenKind iR_tokenFrom iR_tokenTo iR_tokenName iR_tokenKey iR_tokenWhole oC iR_courtTold rR_names rR_keys), (arI rR_tape kR_tape 900 fR_tape), (arL rR_names kR_names 18 fR_names), (arL rR_keys kR_keys 10 fR_keys), (oc1 oC iC_nodes iC_words iC_chances iC_unsures iC_slips iC_throneNode iC_saidWorth iC_unit rC_kind rC_parts rC_partNodes rC_weights rC_weightSums rC_toldWorths rC_steps rC_below rC_above rC_unsureWords rC_unsureWorths)] [(kR_tape, .byte), (kR_names, .long), (kR_keys, .long)])) (va_Qi (fun (r : Int32) (u : Nat) => ((r = 0 ∨ r = 1) ∧ True) ∧ r = Int32.ofNat u) (fun (u : Nat) (t : State) => ∃ (niR_faultNumber : Int32) (niR_faultPlace : Int32) (niR_tokenKind : Int32) (niR_tokenFrom : Int32) (niR_tokenTo : Int32) (niR_tokenName : Int64) (niR_tokenKey : Int32) (niR_tokenWhole : Int32) (niC_throneNode : Int32), ((-1) ≤ niC_throneNode.toInt ∧ niC_throneNode.toInt ≤ 17) ∧ (PX3_readThrone iR_faultNumber iR_faultPlace fR_tape iR_end iR_tokenKind iR_tokenFrom iR_tokenTo iR_tokenName iR_tokenKey iR_tokenWhole fR_names fR_keys iC_nodes iC_throneNode = (Int32.ofNat u, niR_faultNumber, niR_faultPlace, niR_tokenKind, niR_tokenFrom, niR_tokenTo, niR_tokenName, niR_tokenKey, niR_tokenWhole, niC_throneNode)) ∧ Bw dC dI (va_A [(oc3 oR iR_faultNumber iR_faultPlace iR_tapeSize rR_tape iR_end iR_tokenKind iR_tokenFrom iR_tokenTo iR_tokenName iR_tokenKey iR_tokenWhole oC iR_courtTold rR_names rR_keys), (arI rR_tape kR_tape 900 fR_tape), (arL rR_names kR_names 18 fR_names), (arL rR_keys kR_keys 10 fR_keys), (oc1 oC iC_nodes iC_words iC_chances iC_unsures iC_slips iC_throneNode iC_saidWorth iC_unit rC_kind rC_parts rC_partNodes rC_weights rC_weightSums rC_toldWorths rC_steps rC_below rC_above rC_unsureWords rC_unsureWorths)] sz) [(oc3 oR niR_faultNumber niR_faultPlace iR_tapeSize rR_tape iR_end niR_tokenKind niR_tokenFrom niR_tokenTo niR_tokenName niR_tokenKey niR_tokenWhole oC iR_courtTold rR_names rR_keys), (arI rR_tape kR_tape 900 fR_tape), (arL rR_names kR_names 18 fR_names), (arL rR_keys kR_keys 10 fR_keys), (oc1 oC iC_nodes iC_words iC_chances iC_unsures iC_slips niC_throneNode iC_saidWorth iC_unit rC_kind rC_parts rC_partNodes rC_weights rC_weightSums rC_toldWorths rC_steps rC_below rC_above rC_unsureWords rC_unsureWorths)] [(kR_tape, .byte), (kR_names, .long), (kR_keys, .long)] t) (va_A [(oc3 oR iR_faultNumber iR_faultPlace iR_tapeSize rR_tape iR_end iR_tokenKind iR_tokenFrom iR_tokenTo iR_tokenName iR_tokenKey iR_tokenWhole oC iR_courtTold rR_names rR_keys), (arI rR_tape kR_tape 900 fR_tape), (arL rR_names kR_names 18 fR_names), (arL rR_keys kR_keys 10 fR_keys), (oc1 oC iC_nodes iC_words iC_chances iC_unsures iC_slips iC_throneNode iC_saidWorth iC_unit rC_kind rC_parts rC_partNodes rC_weights rC_weightSums rC_toldWorths rC_steps rC_below rC_above rC_unsureWords rC_unsureWorths)] sz)) 0 0 (va_A [(oc3 oR iR_faultNumber iR_faultPlace iR_tapeSize rR_tape iR_end iR_tokenKind iR_tokenFrom iR_tokenTo iR_tokenName iR_tokenKey iR_tokenWhole oC iR_courtTold rR_names rR_keys), (arI rR_tape kR_tape 900 fR_tape), (arL rR_names kR_names 18 fR_names), (arL rR_keys kR_keys 10 fR_keys), (oc1 oC iC_nodes iC_words iC_chances iC_unsures iC_slips iC_throneNode iC_saidWorth iC_unit rC_kind rC_parts rC_partNodes rC_weights rC_weightSums rC_toldWorths rC_steps rC_below rC_above rC_unsureWords rC_unsureWorths)] sz) := by
  refine Met.ofW (cc := cX3_readThrone) (maxL := 1) (ret := (some .boolean)) pnX3 rfl ?_
  intro p e s m args below meth c s₁ B hml hv
  obtain ⟨rfl, hsz, hP, hK, hD0, hE⟩ := hv
  have hx := B.exec
  have hb := B.bytes
  have hr := B.returns
  have hts : ∀ w ∈ wG, w.before ([.ref oR] : List Value).toArray s = true := fun w h => atoms_spec (ws := Cond.code yX3_readThrone cX3_readThrone 1 (some .boolean) :: wG) B.pre w (List.mem_cons_of_mem _ h)
  have hown : s.vm.findClass RX3 = some m.cls := own_of B.named rfl
  have hlocks := B.notSynchronized
  subst hsz
  have hD := hD0.self (sz := s.heap.size)
  generalize hAe : va_A [(oc3 oR iR_faultNumber iR_faultPlace iR_tapeSize rR_tape iR_end iR_tokenKind iR_tokenFrom iR_tokenTo iR_tokenName iR_tokenKey iR_tokenWhole oC iR_courtTold rR_names rR_keys), (arI rR_tape kR_tape 900 fR_tape), (arL rR_names kR_names 18 fR_names), (arL rR_keys kR_keys 10 fR_keys), (oc1 oC iC_nodes iC_words iC_chances iC_unsures iC_slips iC_throneNode iC_saidWorth iC_unit rC_kind rC_parts rC_partNodes rC_weights rC_weightSums rC_toldWorths rC_steps rC_below rC_above rC_unsureWords rC_unsureWorths)] s.heap.size = A at hD hE ⊢
  have hA : ∀ q : Nat, s.heap.size ≤ q → A q := fun q h => by rw [← hAe]; exact Or.inr h
  have hS : va_S A s.heap s.heap [] := va_S.rf
  have hl := lv_entry ([.ref oR]) (n := 1) (Nat.le_of_ble_eq_true rfl)
  rw [lg_entry_eq]
  generalize (lg_sl ([.ref oR]) ++ List.replicate (1 - (lg_sl ([.ref oR])).length) Slot.unset).toArray = ls at hl ⊢
  have hl : lv_has ls 1 [(0, .ref oR)] := hl
  have hG := PX3_readThrone_eq iR_faultNumber iR_faultPlace fR_tape iR_end iR_tokenKind iR_tokenFrom iR_tokenTo iR_tokenName iR_tokenKey iR_tokenWhole fR_names fR_keys iC_nodes iC_throneNode
  refine lv_aload_n hx hb dX3_readThrone_0 rfl (lv_at hl 0 rfl) ?_
  refine va_get (D := (dC, dI)) (ci := 3) (v := .ref oC) (C := RX3) (T := TX3) (N := 15) hx hb hts inX3 hown hK hP 0 rfl rfl 11 (by decide) (hts _ wd_46) (fun _ h9 => h9) rfl dX3_readThrone_1 ?_
  refine va_get (D := (dC, dI)) (ci := 1) (v := .int iC_throneNode) (C := RX1) (T := TX1) (N := 19) hx hb hts inX1 hown hK hP 4 rfl rfl 5 (by decide) (hts _ wd_333) (fun _ h9 => h9) rfl dX3_readThrone_4 ?_
  refine lv_if_lt (tgt := 16) hx hb dX3_readThrone_7 (by decide) (fun c_1431 => ?_) (fun c_1431 => ?_)
  · skip
    have hG := hG.trans (if_pos c_1431)
    have gc_1431 := ti_lt c_1431 rfl kc_0
    refine lv_aload_n hx hb dX3_readThrone_16 rfl (lv_at hl 0 rfl) ?_
    have hMs := ml_of hD [true, true, false, true, false] (wc := [(oc3 oR iR_faultNumber iR_faultPlace iR_tapeSize rR_tape iR_end iR_tokenKind iR_tokenFrom iR_tokenTo iR_tokenName iR_tokenKey iR_tokenWhole oC iR_courtTold rR_names rR_keys), (arI rR_tape kR_tape 900 fR_tape), (arL rR_keys kR_keys 10 fR_keys)]) rfl
    have hFc := va_freeM hD hS hA _ hMs
    refine va_callv (va_runV (As := []) (rest := []) ⟨hx, hb, hml, hown, hts⟩ (tX3_nextToken l dC dI _ oR iR_faultNumber iR_faultPlace iR_tapeSize rR_tape fR_tape kR_tape iR_end iR_tokenKind iR_tokenFrom iR_tokenTo iR_tokenName iR_tokenKey iR_tokenWhole oC iR_courtTold rR_names rR_keys fR_keys kR_keys b_iR_tapeSize b_iR_courtTold) (cwV 0 hts (wd_V wd_220 wd_221 wd_222 wd_15 (wd_c wd_223)) rfl rfl rfl dv_yX3_nextToken_0 ⟨Nat.le_of_ble_eq_true rfl, Nat.le_of_ble_eq_true rfl⟩) ⟨Pw.fb, recvX3 hK hP (q0 := 0) rfl, fun U hU hW => Pw.to (hP.ms _ hMs) (hD.ms _ hMs) (hK.ms [true, false, true] rfl) hE hS hFc hU hW⟩ rfl rfl hl.1 rfl (lv_room (Nat.le_of_ble_eq_true rfl)) dX3_readThrone_17 ⟨Nat.le_of_ble_eq_true rfl, Nat.le_of_ble_eq_true rfl⟩) hS (fun q _ h => hFc q h) hFc (fun u t H locs ht hvm hw hB hz1 hk1 hS => ?_)
    refine ex_6_1 hB (fun x_1432 x_1433 x_1434 y_1435 x_1436 x_1437 e_x_1432_0 hB => ?_)
    obtain ⟨hP, hD⟩ := Bw.goN (ws' := [(oc3 oR iR_faultNumber iR_faultPlace iR_tapeSize rR_tape iR_end x_1432 x_1433 x_1434 y_1435 x_1436 x_1437 oC iR_courtTold rR_names rR_keys), (arI rR_tape kR_tape 900 fR_tape), (arL rR_names kR_names 18 fR_names), (arL rR_keys kR_keys 10 fR_keys), (oc1 oC iC_nodes iC_words iC_chances iC_unsures iC_slips iC_throneNode iC_saidWorth iC_unit rC_kind rC_parts rC_partNodes rC_weights rC_weightSums rC_toldWorths rC_steps rC_below rC_above rC_unsureWords rC_unsureWorths)]) hB rfl ht hP hD _ hMs hk1 hFc rfl
    clear hz1 hk1 hvm ht hB hMs
    have hG := hG.trans (un6_eq e_x_1432_0)
    refine lv_aload_n hx hb dX3_readThrone_20 rfl (lv_at hl 0 rfl) ?_
    have hMs := ml_of hD [true, false, true, false, true] (wc := [(oc3 oR iR_faultNumber iR_faultPlace iR_tapeSize rR_tape iR_end x_1432 x_1433 x_1434 y_1435 x_1436 x_1437 oC iR_courtTold rR_names rR_keys), (arL rR_names kR_names 18 fR_names), (oc1 oC iC_nodes iC_words iC_chances iC_unsures iC_slips iC_throneNode iC_saidWorth iC_unit rC_kind rC_parts rC_partNodes rC_weights rC_weightSums rC_toldWorths rC_steps rC_below rC_above rC_unsureWords rC_unsureWorths)]) rfl
    have hFc := va_freeM hD hS hA _ hMs
    refine va_calli (va_runV (As := []) (rest := []) ⟨hx, hb, hml, hown, hts⟩ (tX3_isToldName l dC dI _ oR iR_faultNumber iR_faultPlace iR_tapeSize rR_tape iR_end x_1432 x_1433 x_1434 y_1435 x_1436 x_1437 oC iR_courtTold rR_names fR_names kR_names rR_keys iC_nodes iC_words iC_chances iC_unsures iC_slips iC_throneNode iC_saidWorth iC_unit rC_kind rC_parts rC_partNodes rC_weights rC_weightSums rC_toldWorths rC_steps rC_below rC_above rC_unsureWords rC_unsureWorths b_iR_tapeSize b_iR_courtTold b_iC_nodes b_iC_unsures b_iC_throneNode) (cwV 0 hts (wd_V wd_304 wd_305 wd_306 wd_15 (wd_c wd_307)) rfl rfl rfl dv_yX3_isToldName_0 ⟨Nat.le_of_ble_eq_true rfl, Nat.le_of_ble_eq_true rfl⟩) ⟨Pw.fb, recvX3 hK hP (q0 := 0) rfl, fun U hU hW => Pw.to (hP.ms _ hMs) (hD.ms _ hMs) (hK.ms [false, true, false] rfl) hE hS hFc hU hW⟩ rfl rfl hl.1 rfl (lv_room (Nat.le_of_ble_eq_true rfl)) dX3_readThrone_21 ⟨Nat.le_of_ble_eq_true rfl, Nat.le_of_ble_eq_true rfl⟩) hS (fun q _ h => hFc q h) hFc (fun r u t H locs ht hvm hw hB hz1 hk1 hS => ?_)
    have hru9 := hw.2
    have hw := hw.1
    refine ex_2_1 hB (fun x_1438 x_1439 e_x_1438_0 hB => ?_)
    obtain ⟨hP, hD⟩ := Bw.goN (ws' := [(oc3 oR x_1438 x_1439 iR_tapeSize rR_tape iR_end x_1432 x_1433 x_1434 y_1435 x_1436 x_1437 oC iR_courtTold rR_names rR_keys), (arI rR_tape kR_tape 900 fR_tape), (arL rR_names kR_names 18 fR_names), (arL rR_keys kR_keys 10 fR_keys), (oc1 oC iC_nodes iC_words iC_chances iC_unsures iC_slips iC_throneNode iC_saidWorth iC_unit rC_kind rC_parts rC_partNodes rC_weights rC_weightSums rC_toldWorths rC_steps rC_below rC_above rC_unsureWords rC_unsureWorths)]) hB rfl ht hP hD _ hMs hk1 hFc rfl
    clear hz1 hk1 hvm ht hB hMs
    rw [← hru9] at e_x_1438_0
    obtain ⟨x_1440, rfl⟩ : ∃ z, z = r := ⟨_, rfl⟩
    have hG := hG.trans (un3_eq e_x_1438_0)
    have bx_1440 := hw.1
    have dx_1440 := bz_tb bx_1440
    refine lv_if_ne (tgt := 29) hx hb dX3_readThrone_24 (by decide) (fun c_1441 => ?_) (fun c_1441 => ?_)
    · skip
      have hG := hG.trans (if_neg c_1441)
      have gc_1441 := ti_ne c_1441 rfl kc_0
      refine lv_aload_n hx hb dX3_readThrone_29 rfl (lv_at hl 0 rfl) ?_
      refine va_get (D := (dC, dI)) (ci := 3) (v := .ref oC) (C := RX3) (T := TX3) (N := 15) hx hb hts inX3 hown hK hP 0 rfl rfl 11 (by decide) (hts _ wd_46) (fun _ h9 => h9) rfl dX3_readThrone_30 ?_
      refine lv_aload_n hx hb dX3_readThrone_33 rfl (lv_at hl 0 rfl) ?_
      have hMs := ml_of hD [true, false, true, false, true] (wc := [(oc3 oR x_1438 x_1439 iR_tapeSize rR_tape iR_end x_1432 x_1433 x_1434 y_1435 x_1436 x_1437 oC iR_courtTold rR_names rR_keys), (arL rR_names kR_names 18 fR_names), (oc1 oC iC_nodes iC_words iC_chances iC_unsures iC_slips iC_throneNode iC_saidWorth iC_unit rC_kind rC_parts rC_partNodes rC_weights rC_weightSums rC_toldWorths rC_steps rC_below rC_above rC_unsureWords rC_unsureWorths)]) rfl
      have hFc := va_freeM hD hS hA _ hMs
      refine va_calli (va_runV (As := []) (rest := [.ref oC]) ⟨hx, hb, hml, hown, hts⟩ (tX3_toldNode l dC dI _ oR x_1438 x_1439 iR_tapeSize rR_tape iR_end x_1432 x_1433 x_1434 y_1435 x_1436 x_1437 oC iR_courtTold rR_names fR_names kR_names rR_keys iC_nodes iC_words iC_chances iC_unsures iC_slips iC_throneNode iC_saidWorth iC_unit rC_kind rC_parts rC_partNodes rC_weights rC_weightSums rC_toldWorths rC_steps rC_below rC_above rC_unsureWords rC_unsureWorths b_iR_tapeSize b_iR_courtTold b_iC_nodes b_iC_unsures b_iC_throneNode) (cwV 0 hts (wd_V wd_283 wd_284 wd_285 wd_15 (wd_c wd_286)) rfl rfl rfl dv_yX3_toldNode_0 ⟨Nat.le_of_ble_eq_true rfl, Nat.le_of_ble_eq_true rfl⟩) ⟨Pw.fb, recvX3 hK hP (q0 := 0) rfl, fun U hU hW => Pw.to (hP.ms _ hMs) (hD.ms _ hMs) (hK.ms [false, true, false] rfl) hE hS hFc hU hW⟩ rfl rfl hl.1 rfl (lv_room (Nat.le_of_ble_eq_true rfl)) dX3_readThrone_34 ⟨Nat.le_of_ble_eq_true rfl, Nat.le_of_ble_eq_true rfl⟩) hS (fun q _ h => hFc q h) hFc (fun r u t H locs ht hvm hw hB hz1 hk1 hS => ?_)
      have hru9 := hw.2
      have hw := hw.1
      obtain ⟨hP, hD⟩ := Bw.goN (ws' := [(oc3 oR x_1438 x_1439 iR_tapeSize rR_tape iR_end x_1432 x_1433 x_1434 y_1435 x_1436 x_1437 oC iR_courtTold rR_names rR_keys), (arI rR_tape kR_tape 900 fR_tape), (arL rR_names kR_names 18 fR_names), (arL rR_keys kR_keys 10 fR_keys), (oc1 oC iC_nodes iC_words iC_chances iC_unsures iC_slips iC_throneNode iC_saidWorth iC_unit rC_kind rC_parts rC_partNodes rC_weights rC_weightSums rC_toldWorths rC_steps rC_below rC_above rC_unsureWords rC_unsureWorths)]) hB rfl ht hP hD _ hMs hk1 hFc rfl
      clear hz1 hk1 hvm ht hB hMs
      obtain ⟨x_1442, rfl⟩ : ∃ z, z = r := ⟨_, rfl⟩
      have hG := hG.trans (lt_eq hru9.symm)
      have ux_1442 := hw.2
      refine va_put (D := (dC, dI)) (ci := 1) (v := .int x_1442) (ty := .int) (C := RX1) (T := TX1) (N := 19) hx hb hts inX1 tyX1 tyX1_ok nmX1 hown hK hP hD hS 4 rfl rfl 5 (by decide) (hts _ wd_333) (fun _ h9 => h9) rfl (by decide +kernel) rfl rfl (Nat.le_of_ble_eq_true rfl) dX3_readThrone_37 (fun H locs hP hD hS => ?_)
      obtain ⟨hP, hD⟩ := wl2 (ws' := [(oc3 oR x_1438 x_1439 iR_tapeSize rR_tape iR_end x_1432 x_1433 x_1434 y_1435 x_1436 x_1437 oC iR_courtTold rR_names rR_keys), (arI rR_tape kR_tape 900 fR_tape), (arL rR_names kR_names 18 fR_names), (arL rR_keys kR_keys 10 fR_keys), (oc1 oC iC_nodes iC_words iC_chances iC_unsures iC_slips x_1442 iC_saidWorth iC_unit rC_kind rC_parts rC_partNodes rC_weights rC_weightSums rC_toldWorths rC_steps rC_below rC_above rC_unsureWords rC_unsureWorths)]) hP hD rfl
      refine lv_aload_n hx hb dX3_readThrone_40 rfl (lv_at hl 0 rfl) ?_
      have hMs := ml_of hD [true, true, false, true, false] (wc := [(oc3 oR x_1438 x_1439 iR_tapeSize rR_tape iR_end x_1432 x_1433 x_1434 y_1435 x_1436 x_1437 oC iR_courtTold rR_names rR_keys), (arI rR_tape kR_tape 900 fR_tape), (arL rR_keys kR_keys 10 fR_keys)]) rfl
      have hFc := va_freeM hD hS hA _ hMs
      refine va_callv (va_runV (As := []) (rest := []) ⟨hx, hb, hml, hown, hts⟩ (tX3_nextToken l dC dI _ oR x_1438 x_1439 iR_tapeSize rR_tape fR_tape kR_tape iR_end x_1432 x_1433 x_1434 y_1435 x_1436 x_1437 oC iR_courtTold rR_names rR_keys fR_keys kR_keys b_iR_tapeSize b_iR_courtTold) (cwV 0 hts (wd_V wd_220 wd_221 wd_222 wd_15 (wd_c wd_223)) rfl rfl rfl dv_yX3_nextToken_0 ⟨Nat.le_of_ble_eq_true rfl, Nat.le_of_ble_eq_true rfl⟩) ⟨Pw.fb, recvX3 hK hP (q0 := 0) rfl, fun U hU hW => Pw.to (hP.ms _ hMs) (hD.ms _ hMs) (hK.ms [true, false, true] rfl) hE hS hFc hU hW⟩ rfl rfl hl.1 rfl (lv_room (Nat.le_of_ble_eq_true rfl)) dX3_readThrone_41 ⟨Nat.le_of_ble_eq_true rfl, Nat.le_of_ble_eq_true rfl⟩) hS (fun q _ h => hFc q h) hFc (fun u t H locs ht hvm hw hB hz1 hk1 hS => ?_)
      refine ex_6_1 hB (fun x_1443 x_1444 x_1445 y_1446 x_1447 x_1448 e_x_1443_0 hB => ?_)
      obtain ⟨hP, hD⟩ := Bw.goN (ws' := [(oc3 oR x_1438 x_1439 iR_tapeSize rR_tape iR_end x_1443 x_1444 x_1445 y_1446 x_1447 x_1448 oC iR_courtTold rR_names rR_keys), (arI rR_tape kR_tape 900 fR_tape), (arL rR_names kR_names 18 fR_names), (arL rR_keys kR_keys 10 fR_keys), (oc1 oC iC_nodes iC_words iC_chances iC_unsures iC_slips x_1442 iC_saidWorth iC_unit rC_kind rC_parts rC_partNodes rC_weights rC_weightSums rC_toldWorths rC_steps rC_below rC_above rC_unsureWords rC_unsureWorths)]) hB rfl ht hP hD _ hMs hk1 hFc rfl
      clear hz1 hk1 hvm ht hB hMs
      have hG := hG.trans (un6_eq e_x_1443_0)
      refine lv_iconst (v := 1) hx hb dX3_readThrone_44 (by decide) ?_
      exact wq_z (v := 1) hx hb hr rfl (cI 1) ⟨⟨Or.inr rfl, trivial⟩, (cI_of 1)⟩ (fun t ht hW => ⟨x_1438, x_1439, x_1443, x_1444, x_1445, y_1446, x_1447, x_1448, x_1442, ux_1442, (cI_tup hG), Bw.to hP hD hK ht hW⟩) hS dX3_readThrone_45 hlocks
    · skip
      have hG := hG.trans (if_pos c_1441)
      have gc_1441 := ti_eq c_1441 rfl kc_0
      refine lv_iconst (v := 0) hx hb dX3_readThrone_27 (by decide) ?_
      exact wq_z (v := 0) hx hb hr rfl (cI 0) ⟨⟨Or.inl rfl, trivial⟩, (cI_of 0)⟩ (fun t ht hW => ⟨x_1438, x_1439, x_1432, x_1433, x_1434, y_1435, x_1436, x_1437, iC_throneNode, b_iC_throneNode, (cI_tup hG), Bw.to hP hD hK ht hW⟩) hS dX3_readThrone_28 hlocks
  · skip
    have hG := hG.trans (if_neg c_1431)
    have gc_1431 := ti_nlt c_1431 rfl kc_0
    refine lv_aload_n hx hb dX3_readThrone_10 rfl (lv_at hl 0 rfl) ?_
    refine lv_iconst (v := 3) hx hb dX3_readThrone_11 (by decide) ?_
    have hMs := ml_of hD [true, false, false, false, false] (wc := [(oc3 oR iR_faultNumber iR_faultPlace iR_tapeSize rR_tape iR_end iR_tokenKind iR_tokenFrom iR_tokenTo iR_tokenName iR_tokenKey iR_tokenWhole oC iR_courtTold rR_names rR_keys)]) rfl
    have hFc := va_freeM hD hS hA _ hMs
    refine va_calli (va_runV (As := [.int 3]) (rest := []) ⟨hx, hb, hml, hown, hts⟩ (tX3_faulty l dC dI _ oR iR_faultNumber iR_faultPlace iR_tapeSize rR_tape iR_end iR_tokenKind iR_tokenFrom iR_tokenTo iR_tokenName iR_tokenKey iR_tokenWhole oC iR_courtTold rR_names rR_keys 3 b_iR_tapeSize b_iR_courtTold) (cwV 1 hts (wd_V wd_254 wd_255 wd_256 wd_15 (wd_c wd_257)) rfl rfl rfl dv_yX3_faulty_1 ⟨Nat.le_of_ble_eq_true rfl, Nat.le_of_ble_eq_true rfl⟩) ⟨Pw.fb, recvX3 hK hP (q0 := 0) rfl, fun U hU hW => Pw.to (hP.ms _ hMs) (hD.ms _ hMs) (hK.ms [false, false, false] rfl) hE hS hFc hU hW⟩ rfl rfl hl.1 rfl (lv_room (Nat.le_of_ble_eq_true rfl)) dX3_readThrone_12 ⟨Nat.le_of_ble_eq_true rfl, Nat.le_of_ble_eq_true rfl⟩) hS (fun q _ h => hFc q h) hFc (fun r u t H locs ht hvm hw hB hz1 hk1 hS => ?_)
    have hru9 := hw.2
    have hw := hw.1
    refine ex_2_1 hB (fun x_1449 x_1450 e_x_1449_0 hB => ?_)
    obtain ⟨hP, hD⟩ := Bw.goN (ws' := [(oc3 oR x_1449 x_1450 iR_tapeSize rR_tape iR_end iR_tokenKind iR_tokenFrom iR_tokenTo iR_tokenName iR_tokenKey iR_tokenWhole oC iR_courtTold rR_names rR_keys), (arI rR_tape kR_tape 900 fR_tape), (arL rR_names kR_names 18 fR_names), (arL rR_keys kR_keys 10 fR_keys), (oc1 oC iC_nodes iC_words iC_chances iC_unsures iC_slips iC_throneNode iC_saidWorth iC_unit rC_kind rC_parts rC_partNodes rC_weights rC_weightSums rC_toldWorths rC_steps rC_below rC_above rC_unsureWords rC_unsureWorths)]) hB rfl ht hP hD _ hMs hk1 hFc rfl
    clear hz1 hk1 hvm ht hB hMs
    rw [← hru9] at e_x_1449_0
    rcases hw.2 with ⟨rfl, hc_1451⟩
    · skip
      have hG := hG.trans (un3_eq e_x_1449_0)
      exact wq_z (v := 0) hx hb hr rfl (cI 0) ⟨⟨Or.inl rfl, trivial⟩, (cI_of 0)⟩ (fun t ht hW => ⟨x_1449, x_1450, iR_tokenKind, iR_tokenFrom, iR_tokenTo, iR_tokenName, iR_tokenKey, iR_tokenWhole, iC_throneNode, b_iC_throneNode, (cI_tup hG), Bw.to hP hD hK ht hW⟩) hS dX3_readThrone_15 hlocks
set_option maxHeartbeats 4000000 in
set_option maxRecDepth 100000 in
theorem tX3_readPart (l : Launch) (dC : Nat → ClassId) (dI : Nat → Nat → Nat) (sz : Nat) (oR : Nat) (iR_faultNumber : Int32) (iR_faultPlace : Int32) (iR_tapeSize : Int32) (rR_tape : Nat) (fR_tape : Nat → Int32) (kR_tape : ClassId) (iR_end : Int32) (iR_tokenKind : Int32) (iR_tokenFrom : Int32) (iR_tokenTo : Int32) (iR_tokenName : Int64) (iR_tokenKey : Int32) (iR_tokenWhole : Int32) (oC : Nat) (iR_courtTold : Int32) (rR_names : Nat) (fR_names : Nat → Int64) (kR_names : ClassId) (rR_keys : Nat) (fR_keys : Nat → Int64) (kR_keys : ClassId) (iC_nodes : Int32) (iC_words : Int32) (iC_chances : Int32) (iC_unsures : Int32) (iC_slips : Int32) (iC_throneNode : Int32) (iC_saidWorth : Int32) (iC_unit : Int32) (rC_kind : Nat) (rC_parts : Nat) (fC_parts : Nat → Int32) (kC_parts : ClassId) (rC_partNodes : Nat) (fC_partNodes : Nat → Int32) (kC_partNodes : ClassId) (rC_weights : Nat) (fC_weights : Nat → Int32) (kC_weights : ClassId) (rC_weightSums : Nat) (fC_weightSums : Nat → Int32) (kC_weightSums : ClassId) (rC_toldWorths : Nat) (rC_steps : Nat) (fC_steps : Nat → Int32) (kC_steps : ClassId) (rC_below : Nat) (fC_below : Nat → Int32) (kC_below : ClassId) (rC_above : Nat) (fC_above : Nat → Int32) (kC_above : ClassId) (rC_unsureWords : Nat) (rC_unsureWorths : Nat) (p0 : Int32) (b_iR_tapeSize : 0 ≤ iR_tapeSize.toInt ∧ iR_tapeSize.toInt ≤ 900) (b_iR_courtTold : 0 ≤ iR_courtTold.toInt ∧ iR_courtTold.toInt ≤ 1) (b_iC_nodes : 0 ≤ iC_nodes.toInt ∧ iC_nodes.toInt ≤ 18) (b_iC_unsures : 0 ≤ iC_unsures.toInt ∧ iC_unsures.toInt ≤ 4) (b_iC_throneNode : (-1) ≤ iC_throneNode.toInt ∧ iC_throneNode.toInt ≤ 17) (a_fC_parts : ∀ j : Nat, j < 18 → 0 ≤ (fC_parts j).toInt ∧ (fC_parts j).toInt ≤ 4) (a_fC_partNodes : ∀ j : Nat, j < 72 → 0 ≤ (fC_partNodes j).toInt ∧ (fC_partNodes j).toInt ≤ 17)  : Met l yX3_readPart (Cond.code yX3_readPart cX3_readPart 4 (some .boolean) :: wG) ({ frames := 3, cells := 0, slots := 0, locals := 66 }) (va_Pc [.ref oR, .int p0] (Pw dC dI sz [(oc3 oR iR_faultNumber iR_faultPlace iR_tapeSize rR_tape iR_end iR_tokenKind iR_tokenFrom iR_tokenTo iR_tokenName iR_tokenKey iR_tokenWhole oC iR_courtTold rR_names rR_keys), (arI rR_tape kR_tape 900 fR_tape), (arL rR_names kR_names 18 fR_names), (arL rR_keys kR_keys 10 fR_keys), (oc1 oC iC_nodes iC_words iC_chances iC_unsures iC_slips iC_throneNode iC_saidWorth iC_unit rC_kind rC_parts rC_partNodes rC_weights rC_weightSums rC_toldWorths rC_steps rC_below rC_above rC_unsureWords rC_unsureWorths), (arI rC_parts kC_parts 18 fC_parts), (arI rC_partNodes kC_partNodes 72 fC_partNodes), (arI rC_weights kC_weights 72 fC_weights), (arI rC_weightSums kC_weightSums 18 fC_weightSums), (arI rC_steps kC_steps 18 fC_steps), (arI rC_below kC_below 18 fC_below), (arI rC_above kC_above 18 fC_above)] [(kR_tape, .byte), (kR_names, .long), (kR_keys, .long), (kC_parts, .int), (kC_partNodes, .int), (kC_weights, .int), (kC_weightSums, .int), (kC_steps, .int), (kC_below, .int), (kC_above, .int)])) (va_Qi (fun (r : Int32) (u : Nat) => ((r = 0 ∨ r = 1) ∧ True) ∧ r = Int32.ofNat u) (fun (u : Nat) (t : State) => ∃ (niR_faultNumber : Int32) (niR_faultPlace : Int32) (niR_tokenKind : Int32) (niR_tokenFrom : Int32) (niR_tokenTo : Int32) (niR_tokenName : Int64) (niR_tokenKey : Int32) (niR_tokenWhole : Int32) (nfC_parts : Nat → Int32) (nfC_partNodes : Nat → Int32) (nfC_weights : Nat → Int32) (nfC_weightSums : Nat → Int32) (nfC_steps : Nat → Int32) (nfC_below : Nat → Int32) (nfC_above : Nat → Int32), (∀ j : Nat, j < 18 → 0 ≤ (nfC_parts j).toInt ∧ (nfC_parts j).toInt ≤ 4) ∧ (∀ j : Nat, j < 72 → 0 ≤ (nfC_partNodes j).toInt ∧ (nfC_partNodes j).toInt ≤ 17) ∧ (PX3_readPart iR_faultNumber iR_faultPlace fR_tape iR_end iR_tokenKind iR_tokenFrom iR_tokenTo iR_tokenName iR_tokenKey iR_tokenWhole fR_names fR_keys iC_nodes fC_parts fC_partNodes fC_weights fC_weightSums fC_steps fC_below fC_above p0 = (Int32.ofNat u, niR_faultNumber, niR_faultPlace, niR_tokenKind, niR_tokenFrom, niR_tokenTo, niR_tokenName, niR_tokenKey, niR_tokenWhole, nfC_parts, nfC_partNodes, nfC_weights, nfC_weightSums, nfC_steps, nfC_below, nfC_above)) ∧ Bw dC dI (va_A [(oc3 oR iR_faultNumber iR_faultPlace iR_tapeSize rR_tape iR_end iR_tokenKind iR_tokenFrom iR_tokenTo iR_tokenName iR_tokenKey iR_tokenWhole oC iR_courtTold rR_names rR_keys), (arI rR_tape kR_tape 900 fR_tape), (arL rR_names kR_names 18 fR_names), (arL rR_keys kR_keys 10 fR_keys), (oc1 oC iC_nodes iC_words iC_chances iC_unsures iC_slips iC_throneNode iC_saidWorth iC_unit rC_kind rC_parts rC_partNodes rC_weights rC_weightSums rC_toldWorths rC_steps rC_below rC_above rC_unsureWords rC_unsureWorths), (arI rC_parts kC_parts 18 fC_parts), (arI rC_partNodes kC_partNodes 72 fC_partNodes), (arI rC_weights kC_weights 72 fC_weights), (arI rC_weightSums kC_weightSums 18 fC_weightSums), (arI rC_steps kC_steps 18 fC_steps), (arI rC_below kC_below 18 fC_below), (arI rC_above kC_above 18 fC_above)] sz) [(oc3 oR niR_faultNumber niR_faultPlace iR_tapeSize rR_tape iR_end niR_tokenKind niR_tokenFrom niR_tokenTo niR_tokenName niR_tokenKey niR_tokenWhole oC iR_courtTold rR_names rR_keys), (arI rR_tape kR_tape 900 fR_tape), (arL rR_names kR_names 18 fR_names), (arL rR_keys kR_keys 10 fR_keys), (oc1 oC iC_nodes iC_words iC_chances iC_unsures iC_slips iC_throneNode iC_saidWorth iC_unit rC_kind rC_parts rC_partNodes rC_weights rC_weightSums rC_toldWorths rC_steps rC_below rC_above rC_unsureWords rC_unsureWorths), (arI rC_parts kC_parts 18 nfC_parts), (arI rC_partNodes kC_partNodes 72 nfC_partNodes), (arI rC_weights kC_weights 72 nfC_weights), (arI rC_weightSums kC_weightSums 18 nfC_weightSums), (arI rC_steps kC_steps 18 nfC_steps), (arI rC_below kC_below 18 nfC_below), (arI rC_above kC_above 18 nfC_above)] [(kR_tape, .byte), (kR_names, .long), (kR_keys, .long), (kC_parts, .int), (kC_partNodes, .int), (kC_weights, .int), (kC_weightSums, .int), (kC_steps, .int), (kC_below, .int), (kC_above, .int)] t) (va_A [(oc3 oR iR_faultNumber iR_faultPlace iR_tapeSize rR_tape iR_end iR_tokenKind iR_tokenFrom iR_tokenTo iR_tokenName iR_tokenKey iR_tokenWhole oC iR_courtTold rR_names rR_keys), (arI rR_tape kR_tape 900 fR_tape), (arL rR_names kR_names 18 fR_names), (arL rR_keys kR_keys 10 fR_keys), (oc1 oC iC_nodes iC_words iC_chances iC_unsures iC_slips iC_throneNode iC_saidWorth iC_unit rC_kind rC_parts rC_partNodes rC_weights rC_weightSums rC_toldWorths rC_steps rC_below rC_above rC_unsureWords rC_unsureWorths), (arI rC_parts kC_parts 18 fC_parts), (arI rC_partNodes kC_partNodes 72 fC_partNodes), (arI rC_weights kC_weights 72 fC_weights), (arI rC_weightSums kC_weightSums 18 fC_weightSums), (arI rC_steps kC_steps 18 fC_steps), (arI rC_below kC_below 18 fC_below), (arI rC_above kC_above 18 fC_above)] sz)) 0 0 (va_A [(oc3 oR iR_faultNumber iR_faultPlace iR_tapeSize rR_tape iR_end iR_tokenKind iR_tokenFrom iR_tokenTo iR_tokenName iR_tokenKey iR_tokenWhole oC iR_courtTold rR_names rR_keys), (arI rR_tape kR_tape 900 fR_tape), (arL rR_names kR_names 18 fR_names), (arL rR_keys kR_keys 10 fR_keys), (oc1 oC iC_nodes iC_words iC_chances iC_unsures iC_slips iC_throneNode iC_saidWorth iC_unit rC_kind rC_parts rC_partNodes rC_weights rC_weightSums rC_toldWorths rC_steps rC_below rC_above rC_unsureWords rC_unsureWorths), (arI rC_parts kC_parts 18 fC_parts), (arI rC_partNodes kC_partNodes 72 fC_partNodes), (arI rC_weights kC_weights 72 fC_weights), (arI rC_weightSums kC_weightSums 18 fC_weightSums), (arI rC_steps kC_steps 18 fC_steps), (arI rC_below kC_below 18 fC_below), (arI rC_above kC_above 18 fC_above)] sz) := by
  refine Met.ofW (cc := cX3_readPart) (maxL := 4) (ret := (some .boolean)) pnX3 rfl ?_
  intro p e s m args below meth c s₁ B hml hv
  obtain ⟨rfl, hsz, hP, hK, hD0, hE⟩ := hv
  have hx := B.exec
  have hb := B.bytes
  have hr := B.returns
  have hts : ∀ w ∈ wG, w.before ([.ref oR, .int p0] : List Value).toArray s = true := fun w h => atoms_spec (ws := Cond.code yX3_readPart cX3_readPart 4 (some .boolean) :: wG) B.pre w (List.mem_cons_of_mem _ h)
  have hown : s.vm.findClass RX3 = some m.cls := own_of B.named rfl
  have hlocks := B.notSynchronized
  subst hsz
  have hD := hD0.self (sz := s.heap.size)
  generalize hAe : va_A [(oc3 oR iR_faultNumber iR_faultPlace iR_tapeSize rR_tape iR_end iR_tokenKind iR_tokenFrom iR_tokenTo iR_tokenName iR_tokenKey iR_tokenWhole oC iR_courtTold rR_names rR_keys), (arI rR_tape kR_tape 900 fR_tape), (arL rR_names kR_names 18 fR_names), (arL rR_keys kR_keys 10 fR_keys), (oc1 oC iC_nodes iC_words iC_chances iC_unsures iC_slips iC_throneNode iC_saidWorth iC_unit rC_kind rC_parts rC_partNodes rC_weights rC_weightSums rC_toldWorths rC_steps rC_below rC_above rC_unsureWords rC_unsureWorths), (arI rC_parts kC_parts 18 fC_parts), (arI rC_partNodes kC_partNodes 72 fC_partNodes), (arI rC_weights kC_weights 72 fC_weights), (arI rC_weightSums kC_weightSums 18 fC_weightSums), (arI rC_steps kC_steps 18 fC_steps), (arI rC_below kC_below 18 fC_below), (arI rC_above kC_above 18 fC_above)] s.heap.size = A at hD hE ⊢
  have hA : ∀ q : Nat, s.heap.size ≤ q → A q := fun q h => by rw [← hAe]; exact Or.inr h
  have hS : va_S A s.heap s.heap [] := va_S.rf
  have hl := lv_entry ([.ref oR, .int p0]) (n := 4) (Nat.le_of_ble_eq_true rfl)
  rw [lg_entry_eq]
  generalize (lg_sl ([.ref oR, .int p0]) ++ List.replicate (4 - (lg_sl ([.ref oR, .int p0])).length) Slot.unset).toArray = ls at hl ⊢
  have hl : lv_has ls 4 [(0, .ref oR), (1, .int p0)] := hl
  have hG := PX3_readPart_eq iR_faultNumber iR_faultPlace fR_tape iR_end iR_tokenKind iR_tokenFrom iR_tokenTo iR_tokenName iR_tokenKey iR_tokenWhole fR_names fR_keys iC_nodes fC_parts fC_partNodes fC_weights fC_weightSums fC_steps fC_below fC_above p0
  refine lv_aload_n hx hb dX3_readPart_0 rfl (lv_at hl 0 rfl) ?_
  have hMs := ml_of hD [true, false, true, false, true, false, false, false, false, false, false, false] (wc := [(oc3 oR iR_faultNumber iR_faultPlace iR_tapeSize rR_tape iR_end iR_tokenKind iR_tokenFrom iR_tokenTo iR_tokenName iR_tokenKey iR_tokenWhole oC iR_courtTold rR_names rR_keys), (arL rR_names kR_names 18 fR_names), (oc1 oC iC_nodes iC_words iC_chances iC_unsures iC_slips iC_throneNode iC_saidWorth iC_unit rC_kind rC_parts rC_partNodes rC_weights rC_weightSums rC_toldWorths rC_steps rC_below rC_above rC_unsureWords rC_unsureWorths)]) rfl
  have hFc := va_freeM hD hS hA _ hMs
  refine va_calli (va_runV (As := []) (rest := []) ⟨hx, hb, hml, hown, hts⟩ (tX3_isToldName l dC dI _ oR iR_faultNumber iR_faultPlace iR_tapeSize rR_tape iR_end iR_tokenKind iR_tokenFrom iR_tokenTo iR_tokenName iR_tokenKey iR_tokenWhole oC iR_courtTold rR_names fR_names kR_names rR_keys iC_nodes iC_words iC_chances iC_unsures iC_slips iC_throneNode iC_saidWorth iC_unit rC_kind rC_parts rC_partNodes rC_weights rC_weightSums rC_toldWorths rC_steps rC_below rC_above rC_unsureWords rC_unsureWorths b_iR_tapeSize b_iR_courtTold b_iC_nodes b_iC_unsures b_iC_throneNode) (cwV 0 hts (wd_V wd_304 wd_305 wd_306 wd_15 (wd_c wd_307)) rfl rfl rfl dv_yX3_isToldName_0 ⟨Nat.le_of_ble_eq_true rfl, Nat.le_of_ble_eq_true rfl⟩) ⟨Pw.fb, recvX3 hK hP (q0 := 0) rfl, fun U hU hW => Pw.to (hP.ms _ hMs) (hD.ms _ hMs) (hK.ms [false, true, false, false, false, false, false, false, false, false] rfl) hE hS hFc hU hW⟩ rfl rfl hl.1 rfl (lv_room (Nat.le_of_ble_eq_true rfl)) dX3_readPart_1 ⟨Nat.le_of_ble_eq_true rfl, Nat.le_of_ble_eq_true rfl⟩) hS (fun q _ h => hFc q h) hFc (fun r u t H locs ht hvm hw hB hz1 hk1 hS => ?_)
  have hru9 := hw.2
  have hw := hw.1
  refine ex_2_1 hB (fun x_1500 x_1501 e_x_1500_0 hB => ?_)
  obtain ⟨hP, hD⟩ := Bw.goN (ws' := [(oc3 oR x_1500 x_1501 iR_tapeSize rR_tape iR_end iR_tokenKind iR_tokenFrom iR_tokenTo iR_tokenName iR_tokenKey iR_tokenWhole oC iR_courtTold rR_names rR_keys), (arI rR_tape kR_tape 900 fR_tape), (arL rR_names kR_names 18 fR_names), (arL rR_keys kR_keys 10 fR_keys), (oc1 oC iC_nodes iC_words iC_chances iC_unsures iC_slips iC_throneNode iC_saidWorth iC_unit rC_kind rC_parts rC_partNodes rC_weights rC_weightSums rC_toldWorths rC_steps rC_below rC_above rC_unsureWords rC_unsureWorths), (arI rC_parts kC_parts 18 fC_parts), (arI rC_partNodes kC_partNodes 72 fC_partNodes), (arI rC_weights kC_weights 72 fC_weights), (arI rC_weightSums kC_weightSums 18 fC_weightSums), (arI rC_steps kC_steps 18 fC_steps), (arI rC_below kC_below 18 fC_below), (arI rC_above kC_above 18 fC_above)]) hB rfl ht hP hD _ hMs hk1 hFc rfl
  clear hz1 hk1 hvm ht hB hMs
  rw [← hru9] at e_x_1500_0
  obtain ⟨x_1502, rfl⟩ : ∃ z, z = r := ⟨_, rfl⟩
  have hG := hG.trans (un3_eq e_x_1500_0)
  have bx_1502 := hw.1
  have dx_1502 := bz_tb bx_1502
  refine lv_if_ne (tgt := 9) hx hb dX3_readPart_4 (by decide) (fun c_1503 => ?_) (fun c_1503 => ?_)
  · skip
    have hG := hG.trans (if_neg c_1503)
    have gc_1503 := ti_ne c_1503 rfl kc_0
    refine lv_aload_n hx hb dX3_readPart_9 rfl (lv_at hl 0 rfl) ?_
    have hMs := ml_of hD [true, false, true, false, true, false, false, false, false, false, false, false] (wc := [(oc3 oR x_1500 x_1501 iR_tapeSize rR_tape iR_end iR_tokenKind iR_tokenFrom iR_tokenTo iR_tokenName iR_tokenKey iR_tokenWhole oC iR_courtTold rR_names rR_keys), (arL rR_names kR_names 18 fR_names), (oc1 oC iC_nodes iC_words iC_chances iC_unsures iC_slips iC_throneNode iC_saidWorth iC_unit rC_kind rC_parts rC_partNodes rC_weights rC_weightSums rC_toldWorths rC_steps rC_below rC_above rC_unsureWords rC_unsureWorths)]) rfl
    have hFc := va_freeM hD hS hA _ hMs
    refine va_calli (va_runV (As := []) (rest := []) ⟨hx, hb, hml, hown, hts⟩ (tX3_toldNode l dC dI _ oR x_1500 x_1501 iR_tapeSize rR_tape iR_end iR_tokenKind iR_tokenFrom iR_tokenTo iR_tokenName iR_tokenKey iR_tokenWhole oC iR_courtTold rR_names fR_names kR_names rR_keys iC_nodes iC_words iC_chances iC_unsures iC_slips iC_throneNode iC_saidWorth iC_unit rC_kind rC_parts rC_partNodes rC_weights rC_weightSums rC_toldWorths rC_steps rC_below rC_above rC_unsureWords rC_unsureWorths b_iR_tapeSize b_iR_courtTold b_iC_nodes b_iC_unsures b_iC_throneNode) (cwV 0 hts (wd_V wd_283 wd_284 wd_285 wd_15 (wd_c wd_286)) rfl rfl rfl dv_yX3_toldNode_0 ⟨Nat.le_of_ble_eq_true rfl, Nat.le_of_ble_eq_true rfl⟩) ⟨Pw.fb, recvX3 hK hP (q0 := 0) rfl, fun U hU hW => Pw.to (hP.ms _ hMs) (hD.ms _ hMs) (hK.ms [false, true, false, false, false, false, false, false, false, false] rfl) hE hS hFc hU hW⟩ rfl rfl hl.1 rfl (lv_room (Nat.le_of_ble_eq_true rfl)) dX3_readPart_10 ⟨Nat.le_of_ble_eq_true rfl, Nat.le_of_ble_eq_true rfl⟩) hS (fun q _ h => hFc q h) hFc (fun r u t H locs ht hvm hw hB hz1 hk1 hS => ?_)
    have hru9 := hw.2
    have hw := hw.1
    obtain ⟨hP, hD⟩ := Bw.goN (ws' := [(oc3 oR x_1500 x_1501 iR_tapeSize rR_tape iR_end iR_tokenKind iR_tokenFrom iR_tokenTo iR_tokenName iR_tokenKey iR_tokenWhole oC iR_courtTold rR_names rR_keys), (arI rR_tape kR_tape 900 fR_tape), (arL rR_names kR_names 18 fR_names), (arL rR_keys kR_keys 10 fR_keys), (oc1 oC iC_nodes iC_words iC_chances iC_unsures iC_slips iC_throneNode iC_saidWorth iC_unit rC_kind rC_parts rC_partNodes rC_weights rC_weightSums rC_toldWorths rC_steps rC_below rC_above rC_unsureWords rC_unsureWorths), (arI rC_parts kC_parts 18 fC_parts), (arI rC_partNodes kC_partNodes 72 fC_partNodes), (arI rC_weights kC_weights 72 fC_weights), (arI rC_weightSums kC_weightSums 18 fC_weightSums), (arI rC_steps kC_steps 18 fC_steps), (arI rC_below kC_below 18 fC_below), (arI rC_above kC_above 18 fC_above)]) hB rfl ht hP hD _ hMs hk1 hFc rfl
    clear hz1 hk1 hvm ht hB hMs
    obtain ⟨x_1504, rfl⟩ : ∃ z, z = r := ⟨_, rfl⟩
    have hG := hG.trans (lt_eq hru9.symm)
    have ux_1504 := hw.2
    refine lv_istore_n (lv' := [(2, .int x_1504), (0, .ref oR), (1, .int p0)]) hx hb dX3_readPart_13 rfl hl (by decide) rfl (fun ls hl => ?_)
    refine lv_aload_n hx hb dX3_readPart_14 rfl (lv_at hl 1 rfl) ?_
    refine va_get (D := (dC, dI)) (ci := 3) (v := .ref oC) (C := RX3) (T := TX3) (N := 15) hx hb hts inX3 hown hK hP 0 rfl rfl 11 (by decide) (hts _ wd_46) (fun _ h9 => h9) rfl dX3_readPart_15 ?_
    refine lv_aload_n hx hb dX3_readPart_18 rfl (lv_at hl 1 rfl) ?_
    refine va_get (D := (dC, dI)) (ci := 3) (v := .ref oC) (C := RX3) (T := TX3) (N := 15) hx hb hts inX3 hown hK hP 0 rfl rfl 11 (by decide) (hts _ wd_46) (fun _ h9 => h9) rfl dX3_readPart_19 ?_
    refine va_get (D := (dC, dI)) (ci := 1) (v := .int iC_nodes) (C := RX1) (T := TX1) (N := 19) hx hb hts inX1 hown hK hP 4 rfl rfl 0 (by decide) (hts _ wd_287) (fun _ h9 => h9) rfl dX3_readPart_22 ?_
    refine lv_iload_n hx hb dX3_readPart_25 rfl (lv_at hl 0 rfl) ?_
    have hMs := ml_of hD [false, false, false, false, true, true, true, false, false, false, false, false] (wc := [(oc1 oC iC_nodes iC_words iC_chances iC_unsures iC_slips iC_throneNode iC_saidWorth iC_unit rC_kind rC_parts rC_partNodes rC_weights rC_weightSums rC_toldWorths rC_steps rC_below rC_above rC_unsureWords rC_unsureWorths), (arI rC_parts kC_parts 18 fC_parts), (arI rC_partNodes kC_partNodes 72 fC_partNodes)]) rfl
    have hFc := va_freeM hD hS hA _ hMs
    refine va_calli (va_runV (As := [.int iC_nodes, .int x_1504]) (rest := []) ⟨hx, hb, hml, hown, hts⟩ (tX1_placeOfPart l dC dI _ oC iC_nodes iC_words iC_chances iC_unsures iC_slips iC_throneNode iC_saidWorth iC_unit rC_kind rC_parts fC_parts kC_parts rC_partNodes fC_partNodes kC_partNodes rC_weights rC_weightSums rC_toldWorths rC_steps rC_below rC_above rC_unsureWords rC_unsureWorths iC_nodes x_1504 b_iC_nodes b_iC_unsures b_iC_throneNode a_fC_parts a_fC_partNodes) (cwV 2 hts (wd_V wd_308 wd_309 wd_310 wd_19 (wd_c wd_311)) rfl rfl rfl dv_yX1_placeOfPart_2 ⟨Nat.le_of_ble_eq_true rfl, Nat.le_of_ble_eq_true rfl⟩) ⟨Pw.fb, recvX1 hK hP (q0 := 4) rfl, fun U hU hW => Pw.to (hP.ms _ hMs) (hD.ms _ hMs) (hK.ms [false, false, false, true, true, false, false, false, false, false] rfl) hE hS hFc hU hW⟩ rfl rfl hl.1 rfl (lv_room (Nat.le_of_ble_eq_true rfl)) dX3_readPart_26 ⟨Nat.le_of_ble_eq_true rfl, Nat.le_of_ble_eq_true rfl⟩) hS (fun q _ h => hFc q h) hFc (fun r u t H locs ht hvm hw hB hz1 hk1 hS => ?_)
    have hru9 := hw.2
    have hw := hw.1
    obtain ⟨hP, hD⟩ := Bw.goN (ws' := [(oc3 oR x_1500 x_1501 iR_tapeSize rR_tape iR_end iR_tokenKind iR_tokenFrom iR_tokenTo iR_tokenName iR_tokenKey iR_tokenWhole oC iR_courtTold rR_names rR_keys), (arI rR_tape kR_tape 900 fR_tape), (arL rR_names kR_names 18 fR_names), (arL rR_keys kR_keys 10 fR_keys), (oc1 oC iC_nodes iC_words iC_chances iC_unsures iC_slips iC_throneNode iC_saidWorth iC_unit rC_kind rC_parts rC_partNodes rC_weights rC_weightSums rC_toldWorths rC_steps rC_below rC_above rC_unsureWords rC_unsureWorths), (arI rC_parts kC_parts 18 fC_parts), (arI rC_partNodes kC_partNodes 72 fC_partNodes), (arI rC_weights kC_weights 72 fC_weights), (arI rC_weightSums kC_weightSums 18 fC_weightSums), (arI rC_steps kC_steps 18 fC_steps), (arI rC_below kC_below 18 fC_below), (arI rC_above kC_above 18 fC_above)]) hB rfl ht hP hD _ hMs hk1 hFc rfl
    clear hz1 hk1 hvm ht hB hMs
    obtain ⟨x_1505, rfl⟩ : ∃ z, z = r := ⟨_, rfl⟩
    have hG := hG.trans (lt_eq hru9.symm)
    have ux_1505 := hw.2
    refine lv_if_lt (tgt := 38) hx hb dX3_readPart_29 (by decide) (fun c_1506 => ?_) (fun c_1506 => ?_)
    · skip
      have hG := hG.trans (if_pos c_1506)
      have gc_1506 := ti_lt c_1506 rfl kc_0
      refine lv_aload_n hx hb dX3_readPart_38 rfl (lv_at hl 1 rfl) ?_
      refine va_get (D := (dC, dI)) (ci := 3) (v := .ref oC) (C := RX3) (T := TX3) (N := 15) hx hb hts inX3 hown hK hP 0 rfl rfl 11 (by decide) (hts _ wd_46) (fun _ h9 => h9) rfl dX3_readPart_39 ?_
      have hMs := ml_of hD [false, false, false, false, true, true, false, false, false, false, false, false] (wc := [(oc1 oC iC_nodes iC_words iC_chances iC_unsures iC_slips iC_throneNode iC_saidWorth iC_unit rC_kind rC_parts rC_partNodes rC_weights rC_weightSums rC_toldWorths rC_steps rC_below rC_above rC_unsureWords rC_unsureWorths), (arI rC_parts kC_parts 18 fC_parts)]) rfl
      have hFc := va_freeM hD hS hA _ hMs
      refine va_calli (va_runV (As := []) (rest := []) ⟨hx, hb, hml, hown, hts⟩ (tX1_hasRoomForPart l dC dI _ oC iC_nodes iC_words iC_chances iC_unsures iC_slips iC_throneNode iC_saidWorth iC_unit rC_kind rC_parts fC_parts kC_parts rC_partNodes rC_weights rC_weightSums rC_toldWorths rC_steps rC_below rC_above rC_unsureWords rC_unsureWorths b_iC_nodes b_iC_unsures b_iC_throneNode a_fC_parts) (cwV 0 hts (wd_V wd_312 wd_313 wd_314 wd_19 (wd_c wd_315)) rfl rfl rfl dv_yX1_hasRoomForPart_0 ⟨Nat.le_of_ble_eq_true rfl, Nat.le_of_ble_eq_true rfl⟩) ⟨Pw.fb, recvX1 hK hP (q0 := 4) rfl, fun U hU hW => Pw.to (hP.ms _ hMs) (hD.ms _ hMs) (hK.ms [false, false, false, true, false, false, false, false, false, false] rfl) hE hS hFc hU hW⟩ rfl rfl hl.1 rfl (lv_room (Nat.le_of_ble_eq_true rfl)) dX3_readPart_42 ⟨Nat.le_of_ble_eq_true rfl, Nat.le_of_ble_eq_true rfl⟩) hS (fun q _ h => hFc q h) hFc (fun r u t H locs ht hvm hw hB hz1 hk1 hS => ?_)
      have hru9 := hw.2
      have hw := hw.1
      obtain ⟨hP, hD⟩ := Bw.goN (ws' := [(oc3 oR x_1500 x_1501 iR_tapeSize rR_tape iR_end iR_tokenKind iR_tokenFrom iR_tokenTo iR_tokenName iR_tokenKey iR_tokenWhole oC iR_courtTold rR_names rR_keys), (arI rR_tape kR_tape 900 fR_tape), (arL rR_names kR_names 18 fR_names), (arL rR_keys kR_keys 10 fR_keys), (oc1 oC iC_nodes iC_words iC_chances iC_unsures iC_slips iC_throneNode iC_saidWorth iC_unit rC_kind rC_parts rC_partNodes rC_weights rC_weightSums rC_toldWorths rC_steps rC_below rC_above rC_unsureWords rC_unsureWorths), (arI rC_parts kC_parts 18 fC_parts), (arI rC_partNodes kC_partNodes 72 fC_partNodes), (arI rC_weights kC_weights 72 fC_weights), (arI rC_weightSums kC_weightSums 18 fC_weightSums), (arI rC_steps kC_steps 18 fC_steps), (arI rC_below kC_below 18 fC_below), (arI rC_above kC_above 18 fC_above)]) hB rfl ht hP hD _ hMs hk1 hFc rfl
      clear hz1 hk1 hvm ht hB hMs
      rcases hw.2 with ⟨rfl, hc_1507⟩ | ⟨rfl, hc_1507⟩
      · skip
        have hG := hG.trans (lt_eq hru9.symm)
        have hG := hG.trans (if_pos rfl)
        refine lv_if_ne (tgt := 54) hx hb dX3_readPart_45 (by decide) (fun _ => ?_) (fun c => absurd c (by decide))
        refine lv_aload_n hx hb dX3_readPart_54 rfl (lv_at hl 1 rfl) ?_
        have hMs := ml_of hD [true, true, false, true, false, false, false, false, false, false, false, false] (wc := [(oc3 oR x_1500 x_1501 iR_tapeSize rR_tape iR_end iR_tokenKind iR_tokenFrom iR_tokenTo iR_tokenName iR_tokenKey iR_tokenWhole oC iR_courtTold rR_names rR_keys), (arI rR_tape kR_tape 900 fR_tape), (arL rR_keys kR_keys 10 fR_keys)]) rfl
        have hFc := va_freeM hD hS hA _ hMs
        refine va_callv (va_runV (As := []) (rest := []) ⟨hx, hb, hml, hown, hts⟩ (tX3_nextToken l dC dI _ oR x_1500 x_1501 iR_tapeSize rR_tape fR_tape kR_tape iR_end iR_tokenKind iR_tokenFrom iR_tokenTo iR_tokenName iR_tokenKey iR_tokenWhole oC iR_courtTold rR_names rR_keys fR_keys kR_keys b_iR_tapeSize b_iR_courtTold) (cwV 0 hts (wd_V wd_220 wd_221 wd_222 wd_15 (wd_c wd_223)) rfl rfl rfl dv_yX3_nextToken_0 ⟨Nat.le_of_ble_eq_true rfl, Nat.le_of_ble_eq_true rfl⟩) ⟨Pw.fb, recvX3 hK hP (q0 := 0) rfl, fun U hU hW => Pw.to (hP.ms _ hMs) (hD.ms _ hMs) (hK.ms [true, false, true, false, false, false, false, false, false, false] rfl) hE hS hFc hU hW⟩ rfl rfl hl.1 rfl (lv_room (Nat.le_of_ble_eq_true rfl)) dX3_readPart_55 ⟨Nat.le_of_ble_eq_true rfl, Nat.le_of_ble_eq_true rfl⟩) hS (fun q _ h => hFc q h) hFc (fun u t H locs ht hvm hw hB hz1 hk1 hS => ?_)
        refine ex_6_1 hB (fun x_1510 x_1511 x_1512 y_1513 x_1514 x_1515 e_x_1510_0 hB => ?_)
        obtain ⟨hP, hD⟩ := Bw.goN (ws' := [(oc3 oR x_1500 x_1501 iR_tapeSize rR_tape iR_end x_1510 x_1511 x_1512 y_1513 x_1514 x_1515 oC iR_courtTold rR_names rR_keys), (arI rR_tape kR_tape 900 fR_tape), (arL rR_names kR_names 18 fR_names), (arL rR_keys kR_keys 10 fR_keys), (oc1 oC iC_nodes iC_words iC_chances iC_unsures iC_slips iC_throneNode iC_saidWorth iC_unit rC_kind rC_parts rC_partNodes rC_weights rC_weightSums rC_toldWorths rC_steps rC_below rC_above rC_unsureWords rC_unsureWorths), (arI rC_parts kC_parts 18 fC_parts), (arI rC_partNodes kC_partNodes 72 fC_partNodes), (arI rC_weights kC_weights 72 fC_weights), (arI rC_weightSums kC_weightSums 18 fC_weightSums), (arI rC_steps kC_steps 18 fC_steps), (arI rC_below kC_below 18 fC_below), (arI rC_above kC_above 18 fC_above)]) hB rfl ht hP hD _ hMs hk1 hFc rfl
        clear hz1 hk1 hvm ht hB hMs
        have hG := hG.trans (un6_eq e_x_1510_0)
        refine lv_iconst (v := 0) hx hb dX3_readPart_58 (by decide) ?_
        refine lv_istore_n (lv' := [(3, .int 0), (2, .int x_1504), (0, .ref oR), (1, .int p0)]) hx hb dX3_readPart_59 rfl hl (by decide) rfl (fun ls hl => ?_)
        refine lv_iload_n hx hb dX3_readPart_60 rfl (lv_at hl 3 rfl) ?_
        refine lv_iconst (v := 3) hx hb dX3_readPart_61 (by decide) ?_
        refine lv_icmp_ne (tgt := 86) hx hb dX3_readPart_62 (by decide) (fun c_1516 => ?_) (fun c_1516 => ?_)
        · skip
          have hG := hG.trans (if_neg c_1516)
          have gc_1516 := ti_ne c_1516 rfl kc_3
          refine lv_aload_n hx hb dX3_readPart_86 rfl (lv_at hl 2 rfl) ?_
          refine va_get (D := (dC, dI)) (ci := 3) (v := .ref oC) (C := RX3) (T := TX3) (N := 15) hx hb hts inX3 hown hK hP 0 rfl rfl 11 (by decide) (hts _ wd_46) (fun _ h9 => h9) rfl dX3_readPart_87 ?_
          refine lv_iload_n hx hb dX3_readPart_90 rfl (lv_at hl 1 rfl) ?_
          refine lv_iload_n hx hb dX3_readPart_91 rfl (lv_at hl 0 rfl) ?_
          have hMs := ml_of hD [false, false, false, false, true, true, true, true, true, true, true, true] (wc := [(oc1 oC iC_nodes iC_words iC_chances iC_unsures iC_slips iC_throneNode iC_saidWorth iC_unit rC_kind rC_parts rC_partNodes rC_weights rC_weightSums rC_toldWorths rC_steps rC_below rC_above rC_unsureWords rC_unsureWorths), (arI rC_parts kC_parts 18 fC_parts), (arI rC_partNodes kC_partNodes 72 fC_partNodes), (arI rC_weights kC_weights 72 fC_weights), (arI rC_weightSums kC_weightSums 18 fC_weightSums), (arI rC_steps kC_steps 18 fC_steps), (arI rC_below kC_below 18 fC_below), (arI rC_above kC_above 18 fC_above)]) rfl
          have hFc := va_freeM hD hS hA _ hMs
          refine va_callv (va_runV (As := [.int x_1504, .int 0]) (rest := []) ⟨hx, hb, hml, hown, hts⟩ (tX1_addPart l dC dI _ oC iC_nodes iC_words iC_chances iC_unsures iC_slips iC_throneNode iC_saidWorth iC_unit rC_kind rC_parts fC_parts kC_parts rC_partNodes fC_partNodes kC_partNodes rC_weights fC_weights kC_weights rC_weightSums fC_weightSums kC_weightSums rC_toldWorths rC_steps fC_steps kC_steps rC_below fC_below kC_below rC_above fC_above kC_above rC_unsureWords rC_unsureWorths x_1504 0 b_iC_nodes b_iC_unsures b_iC_throneNode a_fC_parts a_fC_partNodes) (cwV 2 hts (wd_V wd_316 wd_317 wd_318 wd_19 (wd_c wd_319)) rfl rfl rfl dv_yX1_addPart_2 ⟨Nat.le_of_ble_eq_true rfl, Nat.le_of_ble_eq_true rfl⟩) ⟨Pw.fb, recvX1 hK hP (q0 := 4) rfl, fun U hU hW => Pw.to (hP.ms _ hMs) (hD.ms _ hMs) (hK.ms [false, false, false, true, true, true, true, true, true, true] rfl) hE hS hFc hU hW⟩ rfl rfl hl.1 rfl (lv_room (Nat.le_of_ble_eq_true rfl)) dX3_readPart_92 ⟨Nat.le_of_ble_eq_true rfl, Nat.le_of_ble_eq_true rfl⟩) hS (fun q _ h => hFc q h) hFc (fun u t H locs ht hvm hw hB hz1 hk1 hS => ?_)
          refine ex_7_3 hB (fun f_1517 f_1518 f_1519 f_1520 f_1521 f_1522 f_1523 a_f_1517 a_f_1518 e_f_1517_0 hB => ?_)
          obtain ⟨hP, hD⟩ := Bw.goN (ws' := [(oc3 oR x_1500 x_1501 iR_tapeSize rR_tape iR_end x_1510 x_1511 x_1512 y_1513 x_1514 x_1515 oC iR_courtTold rR_names rR_keys), (arI rR_tape kR_tape 900 fR_tape), (arL rR_names kR_names 18 fR_names), (arL rR_keys kR_keys 10 fR_keys), (oc1 oC iC_nodes iC_words iC_chances iC_unsures iC_slips iC_throneNode iC_saidWorth iC_unit rC_kind rC_parts rC_partNodes rC_weights rC_weightSums rC_toldWorths rC_steps rC_below rC_above rC_unsureWords rC_unsureWorths), (arI rC_parts kC_parts 18 f_1517), (arI rC_partNodes kC_partNodes 72 f_1518), (arI rC_weights kC_weights 72 f_1519), (arI rC_weightSums kC_weightSums 18 f_1520), (arI rC_steps kC_steps 18 f_1521), (arI rC_below kC_below 18 f_1522), (arI rC_above kC_above 18 f_1523)]) hB rfl ht hP hD _ hMs hk1 hFc rfl
          clear hz1 hk1 hvm ht hB hMs
          have hG := hG.trans (un7_eq e_f_1517_0)
          refine lv_iconst (v := 1) hx hb dX3_readPart_95 (by decide) ?_
          exact wq_z (v := 1) hx hb hr rfl (cI 1) ⟨⟨Or.inr rfl, trivial⟩, (cI_of 1)⟩ (fun t ht hW => ⟨x_1500, x_1501, x_1510, x_1511, x_1512, y_1513, x_1514, x_1515, f_1517, f_1518, f_1519, f_1520, f_1521, f_1522, f_1523, a_f_1517, a_f_1518, (cI_tup hG), Bw.to hP hD hK ht hW⟩) hS dX3_readPart_96 hlocks
        · skip
          have hG := hG.trans (if_pos c_1516)
          have gc_1516 := ti_eq c_1516 rfl kc_3
          refine lv_aload_n hx hb dX3_readPart_65 rfl (lv_at hl 2 rfl) ?_
          refine lv_iconst (v := 1) hx hb dX3_readPart_66 (by decide) ?_
          refine lv_bipush (v := 9) hx hb dX3_readPart_67 (by decide) ?_
          have hMs := ml_of hD [true, false, false, false, false, false, false, false, false, false, false, false] (wc := [(oc3 oR x_1500 x_1501 iR_tapeSize rR_tape iR_end x_1510 x_1511 x_1512 y_1513 x_1514 x_1515 oC iR_courtTold rR_names rR_keys)]) rfl
          have hFc := va_freeM hD hS hA _ hMs
          refine va_calli (va_runV (As := [.int 1, .int 9]) (rest := []) ⟨hx, hb, hml, hown, hts⟩ (tX3_isWholeWithin l dC dI _ oR x_1500 x_1501 iR_tapeSize rR_tape iR_end x_1510 x_1511 x_1512 y_1513 x_1514 x_1515 oC iR_courtTold rR_names rR_keys 1 9 b_iR_tapeSize b_iR_courtTold) (cwV 2 hts (wd_V wd_263 wd_264 wd_265 wd_15 (wd_c wd_266)) rfl rfl rfl dv_yX3_isWholeWithin_2 ⟨Nat.le_of_ble_eq_true rfl, Nat.le_of_ble_eq_true rfl⟩) ⟨Pw.fb, recvX3 hK hP (q0 := 0) rfl, fun U hU hW => Pw.to (hP.ms _ hMs) (hD.ms _ hMs) (hK.ms [false, false, false, false, false, false, false, false, false, false] rfl) hE hS hFc hU hW⟩ rfl rfl hl.1 rfl (lv_room (Nat.le_of_ble_eq_true rfl)) dX3_readPart_69 ⟨Nat.le_of_ble_eq_true rfl, Nat.le_of_ble_eq_true rfl⟩) hS (fun q _ h => hFc q h) hFc (fun r u t H locs ht hvm hw hB hz1 hk1 hS => ?_)
          have hru9 := hw.2
          have hw := hw.1
          refine ex_2_1 hB (fun x_1524 x_1525 e_x_1524_0 hB => ?_)
          obtain ⟨hP, hD⟩ := Bw.goN (ws' := [(oc3 oR x_1524 x_1525 iR_tapeSize rR_tape iR_end x_1510 x_1511 x_1512 y_1513 x_1514 x_1515 oC iR_courtTold rR_names rR_keys), (arI rR_tape kR_tape 900 fR_tape), (arL rR_names kR_names 18 fR_names), (arL rR_keys kR_keys 10 fR_keys), (oc1 oC iC_nodes iC_words iC_chances iC_unsures iC_slips iC_throneNode iC_saidWorth iC_unit rC_kind rC_parts rC_partNodes rC_weights rC_weightSums rC_toldWorths rC_steps rC_below rC_above rC_unsureWords rC_unsureWorths), (arI rC_parts kC_parts 18 fC_parts), (arI rC_partNodes kC_partNodes 72 fC_partNodes), (arI rC_weights kC_weights 72 fC_weights), (arI rC_weightSums kC_weightSums 18 fC_weightSums), (arI rC_steps kC_steps 18 fC_steps), (arI rC_below kC_below 18 fC_below), (arI rC_above kC_above 18 fC_above)]) hB rfl ht hP hD _ hMs hk1 hFc rfl
          clear hz1 hk1 hvm ht hB hMs
          rw [← hru9] at e_x_1524_0
          obtain ⟨x_1526, rfl⟩ : ∃ z, z = r := ⟨_, rfl⟩
          have hG := hG.trans (un3_eq e_x_1524_0)
          have bx_1526 := hw.1
          have dx_1526 := bz_tb bx_1526
          refine lv_if_ne (tgt := 77) hx hb dX3_readPart_72 (by decide) (fun c_1527 => ?_) (fun c_1527 => ?_)
          · skip
            have hG := hG.trans (if_neg c_1527)
            have gc_1527 := ti_ne c_1527 rfl kc_0
            refine lv_aload_n hx hb dX3_readPart_77 rfl (lv_at hl 2 rfl) ?_
            refine va_get (D := (dC, dI)) (ci := 3) (v := .int x_1515) (C := RX3) (T := TX3) (N := 15) hx hb hts inX3 hown hK hP 0 rfl rfl 10 (by decide) (hts _ wd_245) (fun _ h9 => h9) rfl dX3_readPart_78 ?_
            refine lv_istore_n (lv' := [(3, .int x_1515), (2, .int x_1504), (0, .ref oR), (1, .int p0)]) hx hb dX3_readPart_81 rfl hl (by decide) rfl (fun ls hl => ?_)
            refine lv_aload_n hx hb dX3_readPart_82 rfl (lv_at hl 2 rfl) ?_
            have hMs := ml_of hD [true, true, false, true, false, false, false, false, false, false, false, false] (wc := [(oc3 oR x_1524 x_1525 iR_tapeSize rR_tape iR_end x_1510 x_1511 x_1512 y_1513 x_1514 x_1515 oC iR_courtTold rR_names rR_keys), (arI rR_tape kR_tape 900 fR_tape), (arL rR_keys kR_keys 10 fR_keys)]) rfl
            have hFc := va_freeM hD hS hA _ hMs
            refine va_callv (va_runV (As := []) (rest := []) ⟨hx, hb, hml, hown, hts⟩ (tX3_nextToken l dC dI _ oR x_1524 x_1525 iR_tapeSize rR_tape fR_tape kR_tape iR_end x_1510 x_1511 x_1512 y_1513 x_1514 x_1515 oC iR_courtTold rR_names rR_keys fR_keys kR_keys b_iR_tapeSize b_iR_courtTold) (cwV 0 hts (wd_V wd_220 wd_221 wd_222 wd_15 (wd_c wd_223)) rfl rfl rfl dv_yX3_nextToken_0 ⟨Nat.le_of_ble_eq_true rfl, Nat.le_of_ble_eq_true rfl⟩) ⟨Pw.fb, recvX3 hK hP (q0 := 0) rfl, fun U hU hW => Pw.to (hP.ms _ hMs) (hD.ms _ hMs) (hK.ms [true, false, true, false, false, false, false, false, false, false] rfl) hE hS hFc hU hW⟩ rfl rfl hl.1 rfl (lv_room (Nat.le_of_ble_eq_true rfl)) dX3_readPart_83 ⟨Nat.le_of_ble_eq_true rfl, Nat.le_of_ble_eq_true rfl⟩) hS (fun q _ h => hFc q h) hFc (fun u t H locs ht hvm hw hB hz1 hk1 hS => ?_)
            refine ex_6_1 hB (fun x_1528 x_1529 x_1530 y_1531 x_1532 x_1533 e_x_1528_0 hB => ?_)
            obtain ⟨hP, hD⟩ := Bw.goN (ws' := [(oc3 oR x_1524 x_1525 iR_tapeSize rR_tape iR_end x_1528 x_1529 x_1530 y_1531 x_1532 x_1533 oC iR_courtTold rR_names rR_keys), (arI rR_tape kR_tape 900 fR_tape), (arL rR_names kR_names 18 fR_names), (arL rR_keys kR_keys 10 fR_keys), (oc1 oC iC_nodes iC_words iC_chances iC_unsures iC_slips iC_throneNode iC_saidWorth iC_unit rC_kind rC_parts rC_partNodes rC_weights rC_weightSums rC_toldWorths rC_steps rC_below rC_above rC_unsureWords rC_unsureWorths), (arI rC_parts kC_parts 18 fC_parts), (arI rC_partNodes kC_partNodes 72 fC_partNodes), (arI rC_weights kC_weights 72 fC_weights), (arI rC_weightSums kC_weightSums 18 fC_weightSums), (arI rC_steps kC_steps 18 fC_steps), (arI rC_below kC_below 18 fC_below), (arI rC_above kC_above 18 fC_above)]) hB rfl ht hP hD _ hMs hk1 hFc rfl
            clear hz1 hk1 hvm ht hB hMs
            have hG := hG.trans (un6_eq e_x_1528_0)
            refine lv_aload_n hx hb dX3_readPart_86 rfl (lv_at hl 2 rfl) ?_
            refine va_get (D := (dC, dI)) (ci := 3) (v := .ref oC) (C := RX3) (T := TX3) (N := 15) hx hb hts inX3 hown hK hP 0 rfl rfl 11 (by decide) (hts _ wd_46) (fun _ h9 => h9) rfl dX3_readPart_87 ?_
            refine lv_iload_n hx hb dX3_readPart_90 rfl (lv_at hl 1 rfl) ?_
            refine lv_iload_n hx hb dX3_readPart_91 rfl (lv_at hl 0 rfl) ?_
            have hMs := ml_of hD [false, false, false, false, true, true, true, true, true, true, true, true] (wc := [(oc1 oC iC_nodes iC_words iC_chances iC_unsures iC_slips iC_throneNode iC_saidWorth iC_unit rC_kind rC_parts rC_partNodes rC_weights rC_weightSums rC_toldWorths rC_steps rC_below rC_above rC_unsureWords rC_unsureWorths), (arI rC_parts kC_parts 18 fC_parts), (arI rC_partNodes kC_partNodes 72 fC_partNodes), (arI rC_weights kC_weights 72 fC_weights), (arI rC_weightSums kC_weightSums 18 fC_weightSums), (arI rC_steps kC_steps 18 fC_steps), (arI rC_below kC_below 18 fC_below), (arI rC_above kC_above 18 fC_above)]) rfl
            have hFc := va_freeM hD hS hA _ hMs
            refine va_callv (va_runV (As := [.int x_1504, .int x_1515]) (rest := []) ⟨hx, hb, hml, hown, hts⟩ (tX1_addPart l dC dI _ oC iC_nodes iC_words iC_chances iC_unsures iC_slips iC_throneNode iC_saidWorth iC_unit rC_kind rC_parts fC_parts kC_parts rC_partNodes fC_partNodes kC_partNodes rC_weights fC_weights kC_weights rC_weightSums fC_weightSums kC_weightSums rC_toldWorths rC_steps fC_steps kC_steps rC_below fC_below kC_below rC_above fC_above kC_above rC_unsureWords rC_unsureWorths x_1504 x_1515 b_iC_nodes b_iC_unsures b_iC_throneNode a_fC_parts a_fC_partNodes) (cwV 2 hts (wd_V wd_316 wd_317 wd_318 wd_19 (wd_c wd_319)) rfl rfl rfl dv_yX1_addPart_2 ⟨Nat.le_of_ble_eq_true rfl, Nat.le_of_ble_eq_true rfl⟩) ⟨Pw.fb, recvX1 hK hP (q0 := 4) rfl, fun U hU hW => Pw.to (hP.ms _ hMs) (hD.ms _ hMs) (hK.ms [false, false, false, true, true, true, true, true, true, true] rfl) hE hS hFc hU hW⟩ rfl rfl hl.1 rfl (lv_room (Nat.le_of_ble_eq_true rfl)) dX3_readPart_92 ⟨Nat.le_of_ble_eq_true rfl, Nat.le_of_ble_eq_true rfl⟩) hS (fun q _ h => hFc q h) hFc (fun u t H locs ht hvm hw hB hz1 hk1 hS => ?_)
            refine ex_7_3 hB (fun f_1534 f_1535 f_1536 f_1537 f_1538 f_1539 f_1540 a_f_1534 a_f_1535 e_f_1534_0 hB => ?_)
            obtain ⟨hP, hD⟩ := Bw.goN (ws' := [(oc3 oR x_1524 x_1525 iR_tapeSize rR_tape iR_end x_1528 x_1529 x_1530 y_1531 x_1532 x_1533 oC iR_courtTold rR_names rR_keys), (arI rR_tape kR_tape 900 fR_tape), (arL rR_names kR_names 18 fR_names), (arL rR_keys kR_keys 10 fR_keys), (oc1 oC iC_nodes iC_words iC_chances iC_unsures iC_slips iC_throneNode iC_saidWorth iC_unit rC_kind rC_parts rC_partNodes rC_weights rC_weightSums rC_toldWorths rC_steps rC_below rC_above rC_unsureWords rC_unsureWorths), (arI rC_parts kC_parts 18 f_1534), (arI rC_partNodes kC_partNodes 72 f_1535), (arI rC_weights kC_weights 72 f_1536), (arI rC_weightSums kC_weightSums 18 f_1537), (arI rC_steps kC_steps 18 f_1538), (arI rC_below kC_below 18 f_1539), (arI rC_above kC_above 18 f_1540)]) hB rfl ht hP hD _ hMs hk1 hFc rfl
            clear hz1 hk1 hvm ht hB hMs
            have hG := hG.trans (un7_eq e_f_1534_0)
            refine lv_iconst (v := 1) hx hb dX3_readPart_95 (by decide) ?_
            exact wq_z (v := 1) hx hb hr rfl (cI 1) ⟨⟨Or.inr rfl, trivial⟩, (cI_of 1)⟩ (fun t ht hW => ⟨x_1524, x_1525, x_1528, x_1529, x_1530, y_1531, x_1532, x_1533, f_1534, f_1535, f_1536, f_1537, f_1538, f_1539, f_1540, a_f_1534, a_f_1535, (cI_tup hG), Bw.to hP hD hK ht hW⟩) hS dX3_readPart_96 hlocks
          · skip
            have hG := hG.trans (if_pos c_1527)
            have gc_1527 := ti_eq c_1527 rfl kc_0
            refine lv_iconst (v := 0) hx hb dX3_readPart_75 (by decide) ?_
            exact wq_z (v := 0) hx hb hr rfl (cI 0) ⟨⟨Or.inl rfl, trivial⟩, (cI_of 0)⟩ (fun t ht hW => ⟨x_1524, x_1525, x_1510, x_1511, x_1512, y_1513, x_1514, x_1515, fC_parts, fC_partNodes, fC_weights, fC_weightSums, fC_steps, fC_below, fC_above, a_fC_parts, a_fC_partNodes, (cI_tup hG), Bw.to hP hD hK ht hW⟩) hS dX3_readPart_76 hlocks
      · skip
        have hG := hG.trans (lt_eq hru9.symm)
        have hG := hG.trans (if_neg (by decide))
        refine lv_if_ne (tgt := 54) hx hb dX3_readPart_45 (by decide) (fun c => absurd c (by decide)) (fun _ => ?_)
        refine lv_aload_n hx hb dX3_readPart_48 rfl (lv_at hl 1 rfl) ?_
        refine lv_iconst (v := 5) hx hb dX3_readPart_49 (by decide) ?_
        have hMs := ml_of hD [true, false, false, false, false, false, false, false, false, false, false, false] (wc := [(oc3 oR x_1500 x_1501 iR_tapeSize rR_tape iR_end iR_tokenKind iR_tokenFrom iR_tokenTo iR_tokenName iR_tokenKey iR_tokenWhole oC iR_courtTold rR_names rR_keys)]) rfl
        have hFc := va_freeM hD hS hA _ hMs
        refine va_calli (va_runV (As := [.int 5]) (rest := []) ⟨hx, hb, hml, hown, hts⟩ (tX3_faulty l dC dI _ oR x_1500 x_1501 iR_tapeSize rR_tape iR_end iR_tokenKind iR_tokenFrom iR_tokenTo iR_tokenName iR_tokenKey iR_tokenWhole oC iR_courtTold rR_names rR_keys 5 b_iR_tapeSize b_iR_courtTold) (cwV 1 hts (wd_V wd_254 wd_255 wd_256 wd_15 (wd_c wd_257)) rfl rfl rfl dv_yX3_faulty_1 ⟨Nat.le_of_ble_eq_true rfl, Nat.le_of_ble_eq_true rfl⟩) ⟨Pw.fb, recvX3 hK hP (q0 := 0) rfl, fun U hU hW => Pw.to (hP.ms _ hMs) (hD.ms _ hMs) (hK.ms [false, false, false, false, false, false, false, false, false, false] rfl) hE hS hFc hU hW⟩ rfl rfl hl.1 rfl (lv_room (Nat.le_of_ble_eq_true rfl)) dX3_readPart_50 ⟨Nat.le_of_ble_eq_true rfl, Nat.le_of_ble_eq_true rfl⟩) hS (fun q _ h => hFc q h) hFc (fun r u t H locs ht hvm hw hB hz1 hk1 hS => ?_)
        have hru9 := hw.2
        have hw := hw.1
        refine ex_2_1 hB (fun x_1542 x_1543 e_x_1542_0 hB => ?_)
        obtain ⟨hP, hD⟩ := Bw.goN (ws' := [(oc3 oR x_1542 x_1543 iR_tapeSize rR_tape iR_end iR_tokenKind iR_tokenFrom iR_tokenTo iR_tokenName iR_tokenKey iR_tokenWhole oC iR_courtTold rR_names rR_keys), (arI rR_tape kR_tape 900 fR_tape), (arL rR_names kR_names 18 fR_names), (arL rR_keys kR_keys 10 fR_keys), (oc1 oC iC_nodes iC_words iC_chances iC_unsures iC_slips iC_throneNode iC_saidWorth iC_unit rC_kind rC_parts rC_partNodes rC_weights rC_weightSums rC_toldWorths rC_steps rC_below rC_above rC_unsureWords rC_unsureWorths), (arI rC_parts kC_parts 18 fC_parts), (arI rC_partNodes kC_partNodes 72 fC_partNodes), (arI rC_weights kC_weights 72 fC_weights), (arI rC_weightSums kC_weightSums 18 fC_weightSums), (arI rC_steps kC_steps 18 fC_steps), (arI rC_below kC_below 18 fC_below), (arI rC_above kC_above 18 fC_above)]) hB rfl ht hP hD _ hMs hk1 hFc rfl
        clear hz1 hk1 hvm ht hB hMs
        rw [← hru9] at e_x_1542_0
        rcases hw.2 with ⟨rfl, hc_1544⟩
        · skip
          have hG := hG.trans (un3_eq e_x_1542_0)
          exact wq_z (v := 0) hx hb hr rfl (cI 0) ⟨⟨Or.inl rfl, trivial⟩, (cI_of 0)⟩ (fun t ht hW => ⟨x_1542, x_1543, iR_tokenKind, iR_tokenFrom, iR_tokenTo, iR_tokenName, iR_tokenKey, iR_tokenWhole, fC_parts, fC_partNodes, fC_weights, fC_weightSums, fC_steps, fC_below, fC_above, a_fC_parts, a_fC_partNodes, (cI_tup hG), Bw.to hP hD hK ht hW⟩) hS dX3_readPart_53 hlocks
    · skip
      have hG := hG.trans (if_neg c_1506)
      have gc_1506 := ti_nlt c_1506 rfl kc_0
      refine lv_aload_n hx hb dX3_readPart_32 rfl (lv_at hl 1 rfl) ?_
      refine lv_iconst (v := 3) hx hb dX3_readPart_33 (by decide) ?_
      have hMs := ml_of hD [true, false, false, false, false, false, false, false, false, false, false, false] (wc := [(oc3 oR x_1500 x_1501 iR_tapeSize rR_tape iR_end iR_tokenKind iR_tokenFrom iR_tokenTo iR_tokenName iR_tokenKey iR_tokenWhole oC iR_courtTold rR_names rR_keys)]) rfl
      have hFc := va_freeM hD hS hA _ hMs
      refine va_calli (va_runV (As := [.int 3]) (rest := []) ⟨hx, hb, hml, hown, hts⟩ (tX3_faulty l dC dI _ oR x_1500 x_1501 iR_tapeSize rR_tape iR_end iR_tokenKind iR_tokenFrom iR_tokenTo iR_tokenName iR_tokenKey iR_tokenWhole oC iR_courtTold rR_names rR_keys 3 b_iR_tapeSize b_iR_courtTold) (cwV 1 hts (wd_V wd_254 wd_255 wd_256 wd_15 (wd_c wd_257)) rfl rfl rfl dv_yX3_faulty_1 ⟨Nat.le_of_ble_eq_true rfl, Nat.le_of_ble_eq_true rfl⟩) ⟨Pw.fb, recvX3 hK hP (q0 := 0) rfl, fun U hU hW => Pw.to (hP.ms _ hMs) (hD.ms _ hMs) (hK.ms [false, false, false, false, false, false, false, false, false, false] rfl) hE hS hFc hU hW⟩ rfl rfl hl.1 rfl (lv_room (Nat.le_of_ble_eq_true rfl)) dX3_readPart_34 ⟨Nat.le_of_ble_eq_true rfl, Nat.le_of_ble_eq_true rfl⟩) hS (fun q _ h => hFc q h) hFc (fun r u t H locs ht hvm hw hB hz1 hk1 hS => ?_)
      have hru9 := hw.2
      have hw := hw.1
      refine ex_2_1 hB (fun x_1546 x_1547 e_x_1546_0 hB => ?_)
      obtain ⟨hP, hD⟩ := Bw.goN (ws' := [(oc3 oR x_1546 x_1547 iR_tapeSize rR_tape iR_end iR_tokenKind iR_tokenFrom iR_tokenTo iR_tokenName iR_tokenKey iR_tokenWhole oC iR_courtTold rR_names rR_keys), (arI rR_tape kR_tape 900 fR_tape), (arL rR_names kR_names 18 fR_names), (arL rR_keys kR_keys 10 fR_keys), (oc1 oC iC_nodes iC_words iC_chances iC_unsures iC_slips iC_throneNode iC_saidWorth iC_unit rC_kind rC_parts rC_partNodes rC_weights rC_weightSums rC_toldWorths rC_steps rC_below rC_above rC_unsureWords rC_unsureWorths), (arI rC_parts kC_parts 18 fC_parts), (arI rC_partNodes kC_partNodes 72 fC_partNodes), (arI rC_weights kC_weights 72 fC_weights), (arI rC_weightSums kC_weightSums 18 fC_weightSums), (arI rC_steps kC_steps 18 fC_steps), (arI rC_below kC_below 18 fC_below), (arI rC_above kC_above 18 fC_above)]) hB rfl ht hP hD _ hMs hk1 hFc rfl
      clear hz1 hk1 hvm ht hB hMs
      rw [← hru9] at e_x_1546_0
      rcases hw.2 with ⟨rfl, hc_1548⟩
      · skip
        have hG := hG.trans (un3_eq e_x_1546_0)
        exact wq_z (v := 0) hx hb hr rfl (cI 0) ⟨⟨Or.inl rfl, trivial⟩, (cI_of 0)⟩ (fun t ht hW => ⟨x_1546, x_1547, iR_tokenKind, iR_tokenFrom, iR_tokenTo, iR_tokenName, iR_tokenKey, iR_tokenWhole, fC_parts, fC_partNodes, fC_weights, fC_weightSums, fC_steps, fC_below, fC_above, a_fC_parts, a_fC_partNodes, (cI_tup hG), Bw.to hP hD hK ht hW⟩) hS dX3_readPart_37 hlocks
  · skip
    have hG := hG.trans (if_pos c_1503)
    have gc_1503 := ti_eq c_1503 rfl kc_0
    refine lv_iconst (v := 0) hx hb dX3_readPart_7 (by decide) ?_
    exact wq_z (v := 0) hx hb hr rfl (cI 0) ⟨⟨Or.inl rfl, trivial⟩, (cI_of 0)⟩ (fun t ht hW => ⟨x_1500, x_1501, iR_tokenKind, iR_tokenFrom, iR_tokenTo, iR_tokenName, iR_tokenKey, iR_tokenWhole, fC_parts, fC_partNodes, fC_weights, fC_weightSums, fC_steps, fC_below, fC_above, a_fC_parts, a_fC_partNodes, (cI_tup hG), Bw.to hP hD hK ht hW⟩) hS dX3_readPart_8 hlocks
set_option maxHeartbeats 4000000 in
set_option maxRecDepth 100000 in
theorem tX3_readRuler (l : Launch) (dC : Nat → ClassId) (dI : Nat → Nat → Nat) (sz : Nat) (oR : Nat) (iR_faultNumber : Int32) (iR_faultPlace : Int32) (iR_tapeSize : Int32) (rR_tape : Nat) (fR_tape : Nat → Int32) (kR_tape : ClassId) (iR_end : Int32) (iR_tokenKind : Int32) (iR_tokenFrom : Int32) (iR_tokenTo : Int32) (iR_tokenName : Int64) (iR_tokenKey : Int32) (iR_tokenWhole : Int32) (oC : Nat) (iR_courtTold : Int32) (rR_names : Nat) (fR_names : Nat → Int64) (kR_names : ClassId) (rR_keys : Nat) (fR_keys : Nat → Int64) (kR_keys : ClassId) (iC_nodes : Int32) (iC_words : Int32) (iC_chances : Int32) (iC_unsures : Int32) (iC_slips : Int32) (iC_throneNode : Int32) (iC_saidWorth : Int32) (iC_unit : Int32) (rC_kind : Nat) (fC_kind : Nat → Int32) (kC_kind : ClassId) (rC_parts : Nat) (fC_parts : Nat → Int32) (kC_parts : ClassId) (rC_partNodes : Nat) (fC_partNodes : Nat → Int32) (kC_partNodes : ClassId) (rC_weights : Nat) (fC_weights : Nat → Int32) (kC_weights : ClassId) (rC_weightSums : Nat) (fC_weightSums : Nat → Int32) (kC_weightSums : ClassId) (rC_toldWorths : Nat) (fC_toldWorths : Nat → Int32) (kC_toldWorths : ClassId) (rC_steps : Nat) (fC_steps : Nat → Int32) (kC_steps : ClassId) (rC_below : Nat) (fC_below : Nat → Int32) (kC_below : ClassId) (rC_above : Nat) (fC_above : Nat → Int32) (kC_above : ClassId) (rC_unsureWords : Nat) (rC_unsureWorths : Nat) (p0 : Int32) (b_iR_tapeSize : 0 ≤ iR_tapeSize.toInt ∧ iR_tapeSize.toInt ≤ 900) (b_iR_courtTold : 0 ≤ iR_courtTold.toInt ∧ iR_courtTold.toInt ≤ 1) (b_iC_nodes : 0 ≤ iC_nodes.toInt ∧ iC_nodes.toInt ≤ 18) (b_iC_unsures : 0 ≤ iC_unsures.toInt ∧ iC_unsures.toInt ≤ 4) (b_iC_throneNode : (-1) ≤ iC_throneNode.toInt ∧ iC_throneNode.toInt ≤ 17) (a_fC_parts : ∀ j : Nat, j < 18 → 0 ≤ (fC_parts j).toInt ∧ (fC_parts j).toInt ≤ 4) (a_fC_partNodes : ∀ j : Nat, j < 72 → 0 ≤ (fC_partNodes j).toInt ∧ (fC_partNodes j).toInt ≤ 17)  : Met l yX3_readRuler (Cond.code yX3_readRuler cX3_readRuler 6 (some .boolean) :: wG) ({ frames := 4, cells := 0, slots := 0, locals := 89 }) (va_Pc [.ref oR, .int p0] (Pw dC dI sz [(oc3 oR iR_faultNumber iR_faultPlace iR_tapeSize rR_tape iR_end iR_tokenKind iR_tokenFrom iR_tokenTo iR_tokenName iR_tokenKey iR_tokenWhole oC iR_courtTold rR_names rR_keys), (arI rR_tape kR_tape 900 fR_tape), (arL rR_names kR_names 18 fR_names), (arL rR_keys kR_keys 10 fR_keys), (oc1 oC iC_nodes iC_words iC_chances iC_unsures iC_slips iC_throneNode iC_saidWorth iC_unit rC_kind rC_parts rC_partNodes rC_weights rC_weightSums rC_toldWorths rC_steps rC_below rC_above rC_unsureWords rC_unsureWorths), (arI rC_kind kC_kind 18 fC_kind), (arI rC_parts kC_parts 18 fC_parts), (arI rC_partNodes kC_partNodes 72 fC_partNodes), (arI rC_weights kC_weights 72 fC_weights), (arI rC_weightSums kC_weightSums 18 fC_weightSums), (arI rC_toldWorths kC_toldWorths 18 fC_toldWorths), (arI rC_steps kC_steps 18 fC_steps), (arI rC_below kC_below 18 fC_below), (arI rC_above kC_above 18 fC_above)] [(kR_tape, .byte), (kR_names, .long), (kR_keys, .long), (kC_kind, .int), (kC_parts, .int), (kC_partNodes, .int), (kC_weights, .int), (kC_weightSums, .int), (kC_toldWorths, .int), (kC_steps, .int), (kC_below, .int), (kC_above, .int)])) (va_Qi (fun (r : Int32) (u : Nat) => ((r = 0 ∨ r = 1) ∧ True) ∧ r = Int32.ofNat u) (fun (u : Nat) (t : State) => ∃ (niR_faultNumber : Int32) (niR_faultPlace : Int32) (niR_tokenKind : Int32) (niR_tokenFrom : Int32) (niR_tokenTo : Int32) (niR_tokenName : Int64) (niR_tokenKey : Int32) (niR_tokenWhole : Int32) (nfR_names : Nat → Int64) (niC_nodes : Int32) (niC_words : Int32) (niC_chances : Int32) (niC_unit : Int32) (nfC_kind : Nat → Int32) (nfC_parts : Nat → Int32) (nfC_partNodes : Nat → Int32) (nfC_weights : Nat → Int32) (nfC_weightSums : Nat → Int32) (nfC_toldWorths : Nat → Int32) (nfC_steps : Nat → Int32) (nfC_below : Nat → Int32) (nfC_above : Nat → Int32), (0 ≤ niC_nodes.toInt ∧ niC_nodes.toInt ≤ 18) ∧ (∀ j : Nat, j < 18 → 0 ≤ (nfC_parts j).toInt ∧ (nfC_parts j).toInt ≤ 4) ∧ (∀ j : Nat, j < 72 → 0 ≤ (nfC_partNodes j).toInt ∧ (nfC_partNodes j).toInt ≤ 17) ∧ (PX3_readRuler iR_faultNumber iR_faultPlace fR_tape iR_end iR_tokenKind iR_tokenFrom iR_tokenTo iR_tokenName iR_tokenKey iR_tokenWhole fR_names fR_keys iC_nodes iC_words iC_chances iC_unit fC_kind fC_parts fC_partNodes fC_weights fC_weightSums fC_toldWorths fC_steps fC_below fC_above p0 = (Int32.ofNat u, niR_faultNumber, niR_faultPlace, niR_tokenKind, niR_tokenFrom, niR_tokenTo, niR_tokenName, niR_tokenKey, niR_tokenWhole, nfR_names, niC_nodes, niC_words, niC_chances, niC_unit, nfC_kind, nfC_parts, nfC_partNodes, nfC_weights, nfC_weightSums, nfC_toldWorths, nfC_steps, nfC_below, nfC_above)) ∧ Bw dC dI (va_A [(oc3 oR iR_faultNumber iR_faultPlace iR_tapeSize rR_tape iR_end iR_tokenKind iR_tokenFrom iR_tokenTo iR_tokenName iR_tokenKey iR_tokenWhole oC iR_courtTold rR_names rR_keys), (arI rR_tape kR_tape 900 fR_tape), (arL rR_names kR_names 18 fR_names), (arL rR_keys kR_keys 10 fR_keys), (oc1 oC iC_nodes iC_words iC_chances iC_unsures iC_slips iC_throneNode iC_saidWorth iC_unit rC_kind rC_parts rC_partNodes rC_weights rC_weightSums rC_toldWorths rC_steps rC_below rC_above rC_unsureWords rC_unsureWorths), (arI rC_kind kC_kind 18 fC_kind), (arI rC_parts kC_parts 18 fC_parts), (arI rC_partNodes kC_partNodes 72 fC_partNodes), (arI rC_weights kC_weights 72 fC_weights), (arI rC_weightSums kC_weightSums 18 fC_weightSums), (arI rC_toldWorths kC_toldWorths 18 fC_toldWorths), (arI rC_steps kC_steps 18 fC_steps), (arI rC_below kC_below 18 fC_below), (arI rC_above kC_above 18 fC_above)] sz) [(oc3 oR niR_faultNumber niR_faultPlace iR_tapeSize rR_tape iR_end niR_tokenKind niR_tokenFrom niR_tokenTo niR_tokenName niR_tokenKey niR_tokenWhole oC iR_courtTold rR_names rR_keys), (arI rR_tape kR_tape 900 fR_tape), (arL rR_names kR_names 18 nfR_names), (arL rR_keys kR_keys 10 fR_keys), (oc1 oC niC_nodes niC_words niC_chances iC_unsures iC_slips iC_throneNode iC_saidWorth niC_unit rC_kind rC_parts rC_partNodes rC_weights rC_weightSums rC_toldWorths rC_steps rC_below rC_above rC_unsureWords rC_unsureWorths), (arI rC_kind kC_kind 18 nfC_kind), (arI rC_parts kC_parts 18 nfC_parts), (arI rC_partNodes kC_partNodes 72 nfC_partNodes), (arI rC_weights kC_weights 72 nfC_weights), (arI rC_weightSums kC_weightSums 18 nfC_weightSums), (arI rC_toldWorths kC_toldWorths 18 nfC_toldWorths), (arI rC_steps kC_steps 18 nfC_steps), (arI rC_below kC_below 18 nfC_below), (arI rC_above kC_above 18 nfC_above)] [(kR_tape, .byte), (kR_names, .long), (kR_keys, .long), (kC_kind, .int), (kC_parts, .int), (kC_partNodes, .int), (kC_weights, .int), (kC_weightSums, .int), (kC_toldWorths, .int), (kC_steps, .int), (kC_below, .int), (kC_above, .int)] t) (va_A [(oc3 oR iR_faultNumber iR_faultPlace iR_tapeSize rR_tape iR_end iR_tokenKind iR_tokenFrom iR_tokenTo iR_tokenName iR_tokenKey iR_tokenWhole oC iR_courtTold rR_names rR_keys), (arI rR_tape kR_tape 900 fR_tape), (arL rR_names kR_names 18 fR_names), (arL rR_keys kR_keys 10 fR_keys), (oc1 oC iC_nodes iC_words iC_chances iC_unsures iC_slips iC_throneNode iC_saidWorth iC_unit rC_kind rC_parts rC_partNodes rC_weights rC_weightSums rC_toldWorths rC_steps rC_below rC_above rC_unsureWords rC_unsureWorths), (arI rC_kind kC_kind 18 fC_kind), (arI rC_parts kC_parts 18 fC_parts), (arI rC_partNodes kC_partNodes 72 fC_partNodes), (arI rC_weights kC_weights 72 fC_weights), (arI rC_weightSums kC_weightSums 18 fC_weightSums), (arI rC_toldWorths kC_toldWorths 18 fC_toldWorths), (arI rC_steps kC_steps 18 fC_steps), (arI rC_below kC_below 18 fC_below), (arI rC_above kC_above 18 fC_above)] sz)) 0 0 (va_A [(oc3 oR iR_faultNumber iR_faultPlace iR_tapeSize rR_tape iR_end iR_tokenKind iR_tokenFrom iR_tokenTo iR_tokenName iR_tokenKey iR_tokenWhole oC iR_courtTold rR_names rR_keys), (arI rR_tape kR_tape 900 fR_tape), (arL rR_names kR_names 18 fR_names), (arL rR_keys kR_keys 10 fR_keys), (oc1 oC iC_nodes iC_words iC_chances iC_unsures iC_slips iC_throneNode iC_saidWorth iC_unit rC_kind rC_parts rC_partNodes rC_weights rC_weightSums rC_toldWorths rC_steps rC_below rC_above rC_unsureWords rC_unsureWorths), (arI rC_kind kC_kind 18 fC_kind), (arI rC_parts kC_parts 18 fC_parts), (arI rC_partNodes kC_partNodes 72 fC_partNodes), (arI rC_weights kC_weights 72 fC_weights), (arI rC_weightSums kC_weightSums 18 fC_weightSums), (arI rC_toldWorths kC_toldWorths 18 fC_toldWorths), (arI rC_steps kC_steps 18 fC_steps), (arI rC_below kC_below 18 fC_below), (arI rC_above kC_above 18 fC_above)] sz) := by
  refine Met.ofW (cc := cX3_readRuler) (maxL := 6) (ret := (some .boolean)) pnX3 rfl ?_
  intro p e s m args below meth c s₁ B hml hv
  obtain ⟨rfl, hsz, hP, hK, hD0, hE⟩ := hv
  have hx := B.exec
  have hb := B.bytes
  have hr := B.returns
  have hts : ∀ w ∈ wG, w.before ([.ref oR, .int p0] : List Value).toArray s = true := fun w h => atoms_spec (ws := Cond.code yX3_readRuler cX3_readRuler 6 (some .boolean) :: wG) B.pre w (List.mem_cons_of_mem _ h)
  have hown : s.vm.findClass RX3 = some m.cls := own_of B.named rfl
  have hlocks := B.notSynchronized
  subst hsz
  have hD := hD0.self (sz := s.heap.size)
  generalize hAe : va_A [(oc3 oR iR_faultNumber iR_faultPlace iR_tapeSize rR_tape iR_end iR_tokenKind iR_tokenFrom iR_tokenTo iR_tokenName iR_tokenKey iR_tokenWhole oC iR_courtTold rR_names rR_keys), (arI rR_tape kR_tape 900 fR_tape), (arL rR_names kR_names 18 fR_names), (arL rR_keys kR_keys 10 fR_keys), (oc1 oC iC_nodes iC_words iC_chances iC_unsures iC_slips iC_throneNode iC_saidWorth iC_unit rC_kind rC_parts rC_partNodes rC_weights rC_weightSums rC_toldWorths rC_steps rC_below rC_above rC_unsureWords rC_unsureWorths), (arI rC_kind kC_kind 18 fC_kind), (arI rC_parts kC_parts 18 fC_parts), (arI rC_partNodes kC_partNodes 72 fC_partNodes), (arI rC_weights kC_weights 72 fC_weights), (arI rC_weightSums kC_weightSums 18 fC_weightSums), (arI rC_toldWorths kC_toldWorths 18 fC_toldWorths), (arI rC_steps kC_steps 18 fC_steps), (arI rC_below kC_below 18 fC_below), (arI rC_above kC_above 18 fC_above)] s.heap.size = A at hD hE ⊢
  have hA : ∀ q : Nat, s.heap.size ≤ q → A q := fun q h => by rw [← hAe]; exact Or.inr h
  have hS : va_S A s.heap s.heap [] := va_S.rf
  have hl := lv_entry ([.ref oR, .int p0]) (n := 6) (Nat.le_of_ble_eq_true rfl)
  rw [lg_entry_eq]
  generalize (lg_sl ([.ref oR, .int p0]) ++ List.replicate (6 - (lg_sl ([.ref oR, .int p0])).length) Slot.unset).toArray = ls at hl ⊢
  have hl : lv_has ls 6 [(0, .ref oR), (1, .int p0)] := hl
  have hG := PX3_readRuler_eq iR_faultNumber iR_faultPlace fR_tape iR_end iR_tokenKind iR_tokenFrom iR_tokenTo iR_tokenName iR_tokenKey iR_tokenWhole fR_names fR_keys iC_nodes iC_words iC_chances iC_unit fC_kind fC_parts fC_partNodes fC_weights fC_weightSums fC_toldWorths fC_steps fC_below fC_above p0
  refine lv_aload_n hx hb dX3_readRuler_0 rfl (lv_at hl 0 rfl) ?_
  refine va_get (D := (dC, dI)) (ci := 3) (v := .ref oC) (C := RX3) (T := TX3) (N := 15) hx hb hts inX3 hown hK hP 0 rfl rfl 11 (by decide) (hts _ wd_46) (fun _ h9 => h9) rfl dX3_readRuler_1 ?_
  refine lv_iload_n hx hb dX3_readRuler_4 rfl (lv_at hl 1 rfl) ?_
  have hMs := ml_of hD [false, false, false, false, true, false, false, false, false, false, false, false, false, false] (wc := [(oc1 oC iC_nodes iC_words iC_chances iC_unsures iC_slips iC_throneNode iC_saidWorth iC_unit rC_kind rC_parts rC_partNodes rC_weights rC_weightSums rC_toldWorths rC_steps rC_below rC_above rC_unsureWords rC_unsureWorths)]) rfl
  have hFc := va_freeM hD hS hA _ hMs
  refine va_calli (va_runV (As := [.int p0]) (rest := []) ⟨hx, hb, hml, hown, hts⟩ (tX1_hasRoomFor l dC dI _ oC iC_nodes iC_words iC_chances iC_unsures iC_slips iC_throneNode iC_saidWorth iC_unit rC_kind rC_parts rC_partNodes rC_weights rC_weightSums rC_toldWorths rC_steps rC_below rC_above rC_unsureWords rC_unsureWorths p0 b_iC_nodes b_iC_unsures b_iC_throneNode) (cwV 1 hts (wd_V wd_271 wd_272 wd_273 wd_19 (wd_c wd_274)) rfl rfl rfl dv_yX1_hasRoomFor_1 ⟨Nat.le_of_ble_eq_true rfl, Nat.le_of_ble_eq_true rfl⟩) ⟨Pw.fb, recvX1 hK hP (q0 := 4) rfl, fun U hU hW => Pw.to (hP.ms _ hMs) (hD.ms _ hMs) (hK.ms [false, false, false, false, false, false, false, false, false, false, false, false] rfl) hE hS hFc hU hW⟩ rfl rfl hl.1 rfl (lv_room (Nat.le_of_ble_eq_true rfl)) dX3_readRuler_5 ⟨Nat.le_of_ble_eq_true rfl, Nat.le_of_ble_eq_true rfl⟩) hS (fun q _ h => hFc q h) hFc (fun r u t H locs ht hvm hw hB hz1 hk1 hS => ?_)
  have hru9 := hw.2
  have hw := hw.1
  obtain ⟨hP, hD⟩ := Bw.goN (ws' := [(oc3 oR iR_faultNumber iR_faultPlace iR_tapeSize rR_tape iR_end iR_tokenKind iR_tokenFrom iR_tokenTo iR_tokenName iR_tokenKey iR_tokenWhole oC iR_courtTold rR_names rR_keys), (arI rR_tape kR_tape 900 fR_tape), (arL rR_names kR_names 18 fR_names), (arL rR_keys kR_keys 10 fR_keys), (oc1 oC iC_nodes iC_words iC_chances iC_unsures iC_slips iC_throneNode iC_saidWorth iC_unit rC_kind rC_parts rC_partNodes rC_weights rC_weightSums rC_toldWorths rC_steps rC_below rC_above rC_unsureWords rC_unsureWorths), (arI rC_kind kC_kind 18 fC_kind), (arI rC_parts kC_parts 18 fC_parts), (arI rC_partNodes kC_partNodes 72 fC_partNodes), (arI rC_weights kC_weights 72 fC_weights), (arI rC_weightSums kC_weightSums 18 fC_weightSums), (arI rC_toldWorths kC_toldWorths 18 fC_toldWorths), (arI rC_steps kC_steps 18 fC_steps), (arI rC_below kC_below 18 fC_below), (arI rC_above kC_above 18 fC_above)]) hB rfl ht hP hD _ hMs hk1 hFc rfl
  clear hz1 hk1 hvm ht hB hMs
  rcases hw.2 with ⟨rfl, hc_1739⟩ | ⟨rfl, hc_1739⟩
  · skip
    have hG := hG.trans (lt_eq hru9.symm)
    have hG := hG.trans (if_pos rfl)
    refine lv_if_ne (tgt := 17) hx hb dX3_readRuler_8 (by decide) (fun _ => ?_) (fun c => absurd c (by decide))
    refine lv_aload_n hx hb dX3_readRuler_17 rfl (lv_at hl 0 rfl) ?_
    refine va_get (D := (dC, dI)) (ci := 3) (v := .ref oC) (C := RX3) (T := TX3) (N := 15) hx hb hts inX3 hown hK hP 0 rfl rfl 11 (by decide) (hts _ wd_46) (fun _ h9 => h9) rfl dX3_readRuler_18 ?_
    refine lv_iload_n hx hb dX3_readRuler_21 rfl (lv_at hl 1 rfl) ?_
    have hMs := ml_of hD [false, false, false, false, true, true, true, false, false, true, true, true, true, true] (wc := [(oc1 oC iC_nodes iC_words iC_chances iC_unsures iC_slips iC_throneNode iC_saidWorth iC_unit rC_kind rC_parts rC_partNodes rC_weights rC_weightSums rC_toldWorths rC_steps rC_below rC_above rC_unsureWords rC_unsureWorths), (arI rC_kind kC_kind 18 fC_kind), (arI rC_parts kC_parts 18 fC_parts), (arI rC_weightSums kC_weightSums 18 fC_weightSums), (arI rC_toldWorths kC_toldWorths 18 fC_toldWorths), (arI rC_steps kC_steps 18 fC_steps), (arI rC_below kC_below 18 fC_below), (arI rC_above kC_above 18 fC_above)]) rfl
    have hFc := va_freeM hD hS hA _ hMs
    refine va_callv (va_runV (As := [.int p0]) (rest := []) ⟨hx, hb, hml, hown, hts⟩ (tX1_beginNode l dC dI _ oC iC_nodes iC_words iC_chances iC_unsures iC_slips iC_throneNode iC_saidWorth iC_unit rC_kind fC_kind kC_kind rC_parts fC_parts kC_parts rC_partNodes rC_weights rC_weightSums fC_weightSums kC_weightSums rC_toldWorths fC_toldWorths kC_toldWorths rC_steps fC_steps kC_steps rC_below fC_below kC_below rC_above fC_above kC_above rC_unsureWords rC_unsureWorths p0 b_iC_nodes b_iC_unsures b_iC_throneNode a_fC_parts) (cwV 1 hts (wd_V wd_275 wd_276 wd_277 wd_19 (wd_c wd_278)) rfl rfl rfl dv_yX1_beginNode_1 ⟨Nat.le_of_ble_eq_true rfl, Nat.le_of_ble_eq_true rfl⟩) ⟨Pw.fb, recvX1 hK hP (q0 := 4) rfl, fun U hU hW => Pw.to (hP.ms _ hMs) (hD.ms _ hMs) (hK.ms [false, false, false, true, true, false, false, true, true, true, true, true] rfl) hE hS hFc hU hW⟩ rfl rfl hl.1 rfl (lv_room (Nat.le_of_ble_eq_true rfl)) dX3_readRuler_22 ⟨Nat.le_of_ble_eq_true rfl, Nat.le_of_ble_eq_true rfl⟩) hS (fun q _ h => hFc q h) hFc (fun u t H locs ht hvm hw hB hz1 hk1 hS => ?_)
    refine ex_7_2 hB (fun f_1742 f_1743 f_1744 f_1745 f_1746 f_1747 f_1748 a_f_1743 e_f_1742_0 hB => ?_)
    obtain ⟨hP, hD⟩ := Bw.goN (ws' := [(oc3 oR iR_faultNumber iR_faultPlace iR_tapeSize rR_tape iR_end iR_tokenKind iR_tokenFrom iR_tokenTo iR_tokenName iR_tokenKey iR_tokenWhole oC iR_courtTold rR_names rR_keys), (arI rR_tape kR_tape 900 fR_tape), (arL rR_names kR_names 18 fR_names), (arL rR_keys kR_keys 10 fR_keys), (oc1 oC iC_nodes iC_words iC_chances iC_unsures iC_slips iC_throneNode iC_saidWorth iC_unit rC_kind rC_parts rC_partNodes rC_weights rC_weightSums rC_toldWorths rC_steps rC_below rC_above rC_unsureWords rC_unsureWorths), (arI rC_kind kC_kind 18 f_1742), (arI rC_parts kC_parts 18 f_1743), (arI rC_partNodes kC_partNodes 72 fC_partNodes), (arI rC_weights kC_weights 72 fC_weights), (arI rC_weightSums kC_weightSums 18 f_1744), (arI rC_toldWorths kC_toldWorths 18 f_1745), (arI rC_steps kC_steps 18 f_1746), (arI rC_below kC_below 18 f_1747), (arI rC_above kC_above 18 f_1748)]) hB rfl ht hP hD _ hMs hk1 hFc rfl
    clear hz1 hk1 hvm ht hB hMs
    have hG := hG.trans (un7_eq e_f_1742_0)
    refine lv_aload_n hx hb dX3_readRuler_25 rfl (lv_at hl 0 rfl) ?_
    have hMs := ml_of hD [true, true, false, true, false, false, false, false, false, false, false, false, false, false] (wc := [(oc3 oR iR_faultNumber iR_faultPlace iR_tapeSize rR_tape iR_end iR_tokenKind iR_tokenFrom iR_tokenTo iR_tokenName iR_tokenKey iR_tokenWhole oC iR_courtTold rR_names rR_keys), (arI rR_tape kR_tape 900 fR_tape), (arL rR_keys kR_keys 10 fR_keys)]) rfl
    have hFc := va_freeM hD hS hA _ hMs
    refine va_callv (va_runV (As := []) (rest := []) ⟨hx, hb, hml, hown, hts⟩ (tX3_nextToken l dC dI _ oR iR_faultNumber iR_faultPlace iR_tapeSize rR_tape fR_tape kR_tape iR_end iR_tokenKind iR_tokenFrom iR_tokenTo iR_tokenName iR_tokenKey iR_tokenWhole oC iR_courtTold rR_names rR_keys fR_keys kR_keys b_iR_tapeSize b_iR_courtTold) (cwV 0 hts (wd_V wd_220 wd_221 wd_222 wd_15 (wd_c wd_223)) rfl rfl rfl dv_yX3_nextToken_0 ⟨Nat.le_of_ble_eq_true rfl, Nat.le_of_ble_eq_true rfl⟩) ⟨Pw.fb, recvX3 hK hP (q0 := 0) rfl, fun U hU hW => Pw.to (hP.ms _ hMs) (hD.ms _ hMs) (hK.ms [true, false, true, false, false, false, false, false, false, false, false, false] rfl) hE hS hFc hU hW⟩ rfl rfl hl.1 rfl (lv_room (Nat.le_of_ble_eq_true rfl)) dX3_readRuler_26 ⟨Nat.le_of_ble_eq_true rfl, Nat.le_of_ble_eq_true rfl⟩) hS (fun q _ h => hFc q h) hFc (fun u t H locs ht hvm hw hB hz1 hk1 hS => ?_)
    refine ex_6_1 hB (fun x_1749 x_1750 x_1751 y_1752 x_1753 x_1754 e_x_1749_0 hB => ?_)
    obtain ⟨hP, hD⟩ := Bw.goN (ws' := [(oc3 oR iR_faultNumber iR_faultPlace iR_tapeSize rR_tape iR_end x_1749 x_1750 x_1751 y_1752 x_1753 x_1754 oC iR_courtTold rR_names rR_keys), (arI rR_tape kR_tape 900 fR_tape), (arL rR_names kR_names 18 fR_names), (arL rR_keys kR_keys 10 fR_keys), (oc1 oC iC_nodes iC_words iC_chances iC_unsures iC_slips iC_throneNode iC_saidWorth iC_unit rC_kind rC_parts rC_partNodes rC_weights rC_weightSums rC_toldWorths rC_steps rC_below rC_above rC_unsureWords rC_unsureWorths), (arI rC_kind kC_kind 18 f_1742), (arI rC_parts kC_parts 18 f_1743), (arI rC_partNodes kC_partNodes 72 fC_partNodes), (arI rC_weights kC_weights 72 fC_weights), (arI rC_weightSums kC_weightSums 18 f_1744), (arI rC_toldWorths kC_toldWorths 18 f_1745), (arI rC_steps kC_steps 18 f_1746), (arI rC_below kC_below 18 f_1747), (arI rC_above kC_above 18 f_1748)]) hB rfl ht hP hD _ hMs hk1 hFc rfl
    clear hz1 hk1 hvm ht hB hMs
    have hG := hG.trans (un6_eq e_x_1749_0)
    refine lv_aload_n hx hb dX3_readRuler_29 rfl (lv_at hl 0 rfl) ?_
    have hMs := ml_of hD [true, false, true, false, true, false, false, false, false, false, false, false, false, false] (wc := [(oc3 oR iR_faultNumber iR_faultPlace iR_tapeSize rR_tape iR_end x_1749 x_1750 x_1751 y_1752 x_1753 x_1754 oC iR_courtTold rR_names rR_keys), (arL rR_names kR_names 18 fR_names), (oc1 oC iC_nodes iC_words iC_chances iC_unsures iC_slips iC_throneNode iC_saidWorth iC_unit rC_kind rC_parts rC_partNodes rC_weights rC_weightSums rC_toldWorths rC_steps rC_below rC_above rC_unsureWords rC_unsureWorths)]) rfl
    have hFc := va_freeM hD hS hA _ hMs
    refine va_calli (va_runV (As := []) (rest := []) ⟨hx, hb, hml, hown, hts⟩ (tX3_isNewName l dC dI _ oR iR_faultNumber iR_faultPlace iR_tapeSize rR_tape iR_end x_1749 x_1750 x_1751 y_1752 x_1753 x_1754 oC iR_courtTold rR_names fR_names kR_names rR_keys iC_nodes iC_words iC_chances iC_unsures iC_slips iC_throneNode iC_saidWorth iC_unit rC_kind rC_parts rC_partNodes rC_weights rC_weightSums rC_toldWorths rC_steps rC_below rC_above rC_unsureWords rC_unsureWorths b_iR_tapeSize b_iR_courtTold b_iC_nodes b_iC_unsures b_iC_throneNode) (cwV 0 hts (wd_V wd_279 wd_280 wd_281 wd_15 (wd_c wd_282)) rfl rfl rfl dv_yX3_isNewName_0 ⟨Nat.le_of_ble_eq_true rfl, Nat.le_of_ble_eq_true rfl⟩) ⟨Pw.fb, recvX3 hK hP (q0 := 0) rfl, fun U hU hW => Pw.to (hP.ms _ hMs) (hD.ms _ hMs) (hK.ms [false, true, false, false, false, false, false, false, false, false, false, false] rfl) hE hS hFc hU hW⟩ rfl rfl hl.1 rfl (lv_room (Nat.le_of_ble_eq_true rfl)) dX3_readRuler_30 ⟨Nat.le_of_ble_eq_true rfl, Nat.le_of_ble_eq_true rfl⟩) hS (fun q _ h => hFc q h) hFc (fun r u t H locs ht hvm hw hB hz1 hk1 hS => ?_)
    have hru9 := hw.2
    have hw := hw.1
    refine ex_2_1 hB (fun x_1755 x_1756 e_x_1755_0 hB => ?_)
    obtain ⟨hP, hD⟩ := Bw.goN (ws' := [(oc3 oR x_1755 x_1756 iR_tapeSize rR_tape iR_end x_1749 x_1750 x_1751 y_1752 x_1753 x_1754 oC iR_courtTold rR_names rR_keys), (arI rR_tape kR_tape 900 fR_tape), (arL rR_names kR_names 18 fR_names), (arL rR_keys kR_keys 10 fR_keys), (oc1 oC iC_nodes iC_words iC_chances iC_unsures iC_slips iC_throneNode iC_saidWorth iC_unit rC_kind rC_parts rC_partNodes rC_weights rC_weightSums rC_toldWorths rC_steps rC_below rC_above rC_unsureWords rC_unsureWorths), (arI rC_kind kC_kind 18 f_1742), (arI rC_parts kC_parts 18 f_1743), (arI rC_partNodes kC_partNodes 72 fC_partNodes), (arI rC_weights kC_weights 72 fC_weights), (arI rC_weightSums kC_weightSums 18 f_1744), (arI rC_toldWorths kC_toldWorths 18 f_1745), (arI rC_steps kC_steps 18 f_1746), (arI rC_below kC_below 18 f_1747), (arI rC_above kC_above 18 f_1748)]) hB rfl ht hP hD _ hMs hk1 hFc rfl
    clear hz1 hk1 hvm ht hB hMs
    rw [← hru9] at e_x_1755_0
    obtain ⟨x_1757, rfl⟩ : ∃ z, z = r := ⟨_, rfl⟩
    have hG := hG.trans (un3_eq e_x_1755_0)
    have bx_1757 := hw.1
    have dx_1757 := bz_tb bx_1757
    refine lv_if_ne (tgt := 38) hx hb dX3_readRuler_33 (by decide) (fun c_1758 => ?_) (fun c_1758 => ?_)
    · skip
      have hG := hG.trans (if_neg c_1758)
      have gc_1758 := ti_ne c_1758 rfl kc_0
      refine lv_aload_n hx hb dX3_readRuler_38 rfl (lv_at hl 0 rfl) ?_
      refine va_get (D := (dC, dI)) (ci := 3) (v := .long y_1752) (C := RX3) (T := TX3) (N := 15) hx hb hts inX3 hown hK hP 0 rfl rfl 8 (by decide) (hts _ wd_237) (fun _ h9 => h9) rfl dX3_readRuler_39 ?_
      refine lv_lstore_n (lv' := [(2, .long y_1752), (0, .ref oR), (1, .int p0)]) hx hb dX3_readRuler_42 rfl hl (by decide) rfl (fun ls hl => ?_)
      refine lv_aload_n hx hb dX3_readRuler_43 rfl (lv_at hl 1 rfl) ?_
      have hMs := ml_of hD [true, true, false, true, false, false, false, false, false, false, false, false, false, false] (wc := [(oc3 oR x_1755 x_1756 iR_tapeSize rR_tape iR_end x_1749 x_1750 x_1751 y_1752 x_1753 x_1754 oC iR_courtTold rR_names rR_keys), (arI rR_tape kR_tape 900 fR_tape), (arL rR_keys kR_keys 10 fR_keys)]) rfl
      have hFc := va_freeM hD hS hA _ hMs
      refine va_callv (va_runV (As := []) (rest := []) ⟨hx, hb, hml, hown, hts⟩ (tX3_nextToken l dC dI _ oR x_1755 x_1756 iR_tapeSize rR_tape fR_tape kR_tape iR_end x_1749 x_1750 x_1751 y_1752 x_1753 x_1754 oC iR_courtTold rR_names rR_keys fR_keys kR_keys b_iR_tapeSize b_iR_courtTold) (cwV 0 hts (wd_V wd_220 wd_221 wd_222 wd_15 (wd_c wd_223)) rfl rfl rfl dv_yX3_nextToken_0 ⟨Nat.le_of_ble_eq_true rfl, Nat.le_of_ble_eq_true rfl⟩) ⟨Pw.fb, recvX3 hK hP (q0 := 0) rfl, fun U hU hW => Pw.to (hP.ms _ hMs) (hD.ms _ hMs) (hK.ms [true, false, true, false, false, false, false, false, false, false, false, false] rfl) hE hS hFc hU hW⟩ rfl rfl hl.1 rfl (lv_room (Nat.le_of_ble_eq_true rfl)) dX3_readRuler_44 ⟨Nat.le_of_ble_eq_true rfl, Nat.le_of_ble_eq_true rfl⟩) hS (fun q _ h => hFc q h) hFc (fun u t H locs ht hvm hw hB hz1 hk1 hS => ?_)
      refine ex_6_1 hB (fun x_1759 x_1760 x_1761 y_1762 x_1763 x_1764 e_x_1759_0 hB => ?_)
      obtain ⟨hP, hD⟩ := Bw.goN (ws' := [(oc3 oR x_1755 x_1756 iR_tapeSize rR_tape iR_end x_1759 x_1760 x_1761 y_1762 x_1763 x_1764 oC iR_courtTold rR_names rR_keys), (arI rR_tape kR_tape 900 fR_tape), (arL rR_names kR_names 18 fR_names), (arL rR_keys kR_keys 10 fR_keys), (oc1 oC iC_nodes iC_words iC_chances iC_unsures iC_slips iC_throneNode iC_saidWorth iC_unit rC_kind rC_parts rC_partNodes rC_weights rC_weightSums rC_toldWorths rC_steps rC_below rC_above rC_unsureWords rC_unsureWorths), (arI rC_kind kC_kind 18 f_1742), (arI rC_parts kC_parts 18 f_1743), (arI rC_partNodes kC_partNodes 72 fC_partNodes), (arI rC_weights kC_weights 72 fC_weights), (arI rC_weightSums kC_weightSums 18 f_1744), (arI rC_toldWorths kC_toldWorths 18 f_1745), (arI rC_steps kC_steps 18 f_1746), (arI rC_below kC_below 18 f_1747), (arI rC_above kC_above 18 f_1748)]) hB rfl ht hP hD _ hMs hk1 hFc rfl
      clear hz1 hk1 hvm ht hB hMs
      have hG := hG.trans (un6_eq e_x_1759_0)
      refine lv_aload_n hx hb dX3_readRuler_47 rfl (lv_at hl 1 rfl) ?_
      refine lv_iload_n hx hb dX3_readRuler_48 rfl (lv_at hl 2 rfl) ?_
      have hMs := ml_of hD [true, true, true, true, true, false, true, true, true, true, false, true, true, true] (wc := [(oc3 oR x_1755 x_1756 iR_tapeSize rR_tape iR_end x_1759 x_1760 x_1761 y_1762 x_1763 x_1764 oC iR_courtTold rR_names rR_keys), (arI rR_tape kR_tape 900 fR_tape), (arL rR_names kR_names 18 fR_names), (arL rR_keys kR_keys 10 fR_keys), (oc1 oC iC_nodes iC_words iC_chances iC_unsures iC_slips iC_throneNode iC_saidWorth iC_unit rC_kind rC_parts rC_partNodes rC_weights rC_weightSums rC_toldWorths rC_steps rC_below rC_above rC_unsureWords rC_unsureWorths), (arI rC_parts kC_parts 18 f_1743), (arI rC_partNodes kC_partNodes 72 fC_partNodes), (arI rC_weights kC_weights 72 fC_weights), (arI rC_weightSums kC_weightSums 18 f_1744), (arI rC_steps kC_steps 18 f_1746), (arI rC_below kC_below 18 f_1747), (arI rC_above kC_above 18 f_1748)]) rfl
      have hFc := va_freeM hD hS hA _ hMs
      refine va_calli (va_runV (As := [.int p0]) (rest := []) ⟨hx, hb, hml, hown, hts⟩ (tX3_readPart l dC dI _ oR x_1755 x_1756 iR_tapeSize rR_tape fR_tape kR_tape iR_end x_1759 x_1760 x_1761 y_1762 x_1763 x_1764 oC iR_courtTold rR_names fR_names kR_names rR_keys fR_keys kR_keys iC_nodes iC_words iC_chances iC_unsures iC_slips iC_throneNode iC_saidWorth iC_unit rC_kind rC_parts f_1743 kC_parts rC_partNodes fC_partNodes kC_partNodes rC_weights fC_weights kC_weights rC_weightSums f_1744 kC_weightSums rC_toldWorths rC_steps f_1746 kC_steps rC_below f_1747 kC_below rC_above f_1748 kC_above rC_unsureWords rC_unsureWorths p0 b_iR_tapeSize b_iR_courtTold b_iC_nodes b_iC_unsures b_iC_throneNode a_f_1743 a_fC_partNodes) (cwV 1 hts (wd_V wd_300 wd_301 wd_302 wd_15 (wd_c wd_303)) rfl rfl rfl dv_yX3_readPart_1 ⟨Nat.le_of_ble_eq_true rfl, Nat.le_of_ble_eq_true rfl⟩) ⟨Pw.fb, recvX3 hK hP (q0 := 0) rfl, fun U hU hW => Pw.to (hP.ms _ hMs) (hD.ms _ hMs) (hK.ms [true, true, true, false, true, true, true, true, false, true, true, true] rfl) hE hS hFc hU hW⟩ rfl rfl hl.1 rfl (lv_room (Nat.le_of_ble_eq_true rfl)) dX3_readRuler_49 ⟨Nat.le_of_ble_eq_true rfl, Nat.le_of_ble_eq_true rfl⟩) hS (fun q _ h => hFc q h) hFc (fun r u t H locs ht hvm hw hB hz1 hk1 hS => ?_)
      have hru9 := hw.2
      have hw := hw.1
      refine ex_15_3 hB (fun x_1765 x_1766 x_1767 x_1768 x_1769 y_1770 x_1771 x_1772 f_1773 f_1774 f_1775 f_1776 f_1777 f_1778 f_1779 a_f_1773 a_f_1774 e_x_1765_0 hB => ?_)
      obtain ⟨hP, hD⟩ := Bw.goN (ws' := [(oc3 oR x_1765 x_1766 iR_tapeSize rR_tape iR_end x_1767 x_1768 x_1769 y_1770 x_1771 x_1772 oC iR_courtTold rR_names rR_keys), (arI rR_tape kR_tape 900 fR_tape), (arL rR_names kR_names 18 fR_names), (arL rR_keys kR_keys 10 fR_keys), (oc1 oC iC_nodes iC_words iC_chances iC_unsures iC_slips iC_throneNode iC_saidWorth iC_unit rC_kind rC_parts rC_partNodes rC_weights rC_weightSums rC_toldWorths rC_steps rC_below rC_above rC_unsureWords rC_unsureWorths), (arI rC_kind kC_kind 18 f_1742), (arI rC_parts kC_parts 18 f_1773), (arI rC_partNodes kC_partNodes 72 f_1774), (arI rC_weights kC_weights 72 f_1775), (arI rC_weightSums kC_weightSums 18 f_1776), (arI rC_toldWorths kC_toldWorths 18 f_1745), (arI rC_steps kC_steps 18 f_1777), (arI rC_below kC_below 18 f_1778), (arI rC_above kC_above 18 f_1779)]) hB rfl ht hP hD _ hMs hk1 hFc rfl
      clear hz1 hk1 hvm ht hB hMs
      rw [← hru9] at e_x_1765_0
      obtain ⟨x_1780, rfl⟩ : ∃ z, z = r := ⟨_, rfl⟩
      have hG := hG.trans (un16_eq e_x_1765_0)
      have bx_1780 := hw.1
      have dx_1780 := bz_tb bx_1780
      refine lv_istore (lv' := [(4, .int x_1780), (2, .long y_1752), (0, .ref oR), (1, .int p0)]) hx hb dX3_readRuler_52 hl (by decide) rfl (fun ls hl => ?_)
      refine lv_iconst (v := 0) hx hb dX3_readRuler_54 (by decide) ?_
      refine lv_istore (lv' := [(5, .int 0), (4, .int x_1780), (2, .long y_1752), (0, .ref oR), (1, .int p0)]) hx hb dX3_readRuler_55 hl (by decide) rfl (fun ls hl => ?_)
      have hl := lv_sub hl (l' := [(5, .int 0), (4, .int x_1780), (2, .long y_1752), (0, .ref oR), (1, .int p0)]) [0, 1, 2, 3, 4] rfl
      have key_n_1798 : ∀ (n_1798 : Nat) (z_1781 : Int32) (z_1782 : Int32) (z_1783 : Int32) (z_1784 : Int32) (z_1785 : Int32) (z_1786 : Int32) (z_1787 : Int32) (z_1788 : Int64) (z_1789 : Int32) (z_1790 : Int32) (f_1791 : Nat → Int32) (f_1792 : Nat → Int32) (f_1793 : Nat → Int32) (f_1794 : Nat → Int32) (f_1795 : Nat → Int32) (f_1796 : Nat → Int32) (f_1797 : Nat → Int32) (H : Heap) (locs : List Loc) (ls : Array Slot), (∀ j : Nat, j < 18 → 0 ≤ (f_1791 j).toInt ∧ (f_1791 j).toInt ≤ 4) → (∀ j : Nat, j < 72 → 0 ≤ (f_1792 j).toInt ∧ (f_1792 j).toInt ≤ 17) → (0 ≤ z_1781.toInt ∧ z_1781.toInt ≤ 5) → (0 ≤ z_1782.toInt ∧ z_1782.toInt ≤ 1) → (5 - z_1781.toInt).toNat < n_1798 → (PX3_readRuler iR_faultNumber iR_faultPlace fR_tape iR_end iR_tokenKind iR_tokenFrom iR_tokenTo iR_tokenName iR_tokenKey iR_tokenWhole fR_names fR_keys iC_nodes iC_words iC_chances iC_unit fC_kind fC_parts fC_partNodes fC_weights fC_weightSums fC_toldWorths fC_steps fC_below fC_above p0 = HX3_readRuler_0 fR_tape iR_end fR_names fR_keys iC_nodes iC_words iC_chances iC_unit p0 f_1742 f_1745 y_1752 n_1798 z_1781 z_1782 z_1783 z_1784 z_1785 z_1786 z_1787 z_1788 z_1789 z_1790 f_1791 f_1792 f_1793 f_1794 f_1795 f_1796 f_1797) → va_P (dC, dI) vwCl [(oc3 oR z_1783 z_1784 iR_tapeSize rR_tape iR_end z_1785 z_1786 z_1787 z_1788 z_1789 z_1790 oC iR_courtTold rR_names rR_keys), (arI rR_tape kR_tape 900 fR_tape), (arL rR_names kR_names 18 fR_names), (arL rR_keys kR_keys 10 fR_keys), (oc1 oC iC_nodes iC_words iC_chances iC_unsures iC_slips iC_throneNode iC_saidWorth iC_unit rC_kind rC_parts rC_partNodes rC_weights rC_weightSums rC_toldWorths rC_steps rC_below rC_above rC_unsureWords rC_unsureWorths), (arI rC_kind kC_kind 18 f_1742), (arI rC_parts kC_parts 18 f_1791), (arI rC_partNodes kC_partNodes 72 f_1792), (arI rC_weights kC_weights 72 f_1793), (arI rC_weightSums kC_weightSums 18 f_1794), (arI rC_toldWorths kC_toldWorths 18 f_1745), (arI rC_steps kC_steps 18 f_1795), (arI rC_below kC_below 18 f_1796), (arI rC_above kC_above 18 f_1797)] H → va_D A [(oc3 oR z_1783 z_1784 iR_tapeSize rR_tape iR_end z_1785 z_1786 z_1787 z_1788 z_1789 z_1790 oC iR_courtTold rR_names rR_keys), (arI rR_tape kR_tape 900 fR_tape), (arL rR_names kR_names 18 fR_names), (arL rR_keys kR_keys 10 fR_keys), (oc1 oC iC_nodes iC_words iC_chances iC_unsures iC_slips iC_throneNode iC_saidWorth iC_unit rC_kind rC_parts rC_partNodes rC_weights rC_weightSums rC_toldWorths rC_steps rC_below rC_above rC_unsureWords rC_unsureWorths), (arI rC_kind kC_kind 18 f_1742), (arI rC_parts kC_parts 18 f_1791), (arI rC_partNodes kC_partNodes 72 f_1792), (arI rC_weights kC_weights 72 f_1793), (arI rC_weightSums kC_weightSums 18 f_1794), (arI rC_toldWorths kC_toldWorths 18 f_1745), (arI rC_steps kC_steps 18 f_1795), (arI rC_below kC_below 18 f_1796), (arI rC_above kC_above 18 f_1797)] → va_S A s.heap H locs → lv_has ls 6 [(5, .int z_1781), (4, .int z_1782), (2, .long y_1752), (0, .ref oR), (1, .int p0)] → W p l e (headSpec (Cond.code yX3_readRuler cX3_readRuler 6 (some .boolean) :: wG) ({ frames := 4, cells := 0, slots := 0, locals := 89 })).room s m ([.ref oR, .int p0] : List Value).toArray below meth c H locs 0 0 (MQ below (va_Qi (fun (r : Int32) (u : Nat) => ((r = 0 ∨ r = 1) ∧ True) ∧ r = Int32.ofNat u) (fun (u : Nat) (t : State) => ∃ (niR_faultNumber : Int32) (niR_faultPlace : Int32) (niR_tokenKind : Int32) (niR_tokenFrom : Int32) (niR_tokenTo : Int32) (niR_tokenName : Int64) (niR_tokenKey : Int32) (niR_tokenWhole : Int32) (nfR_names : Nat → Int64) (niC_nodes : Int32) (niC_words : Int32) (niC_chances : Int32) (niC_unit : Int32) (nfC_kind : Nat → Int32) (nfC_parts : Nat → Int32) (nfC_partNodes : Nat → Int32) (nfC_weights : Nat → Int32) (nfC_weightSums : Nat → Int32) (nfC_toldWorths : Nat → Int32) (nfC_steps : Nat → Int32) (nfC_below : Nat → Int32) (nfC_above : Nat → Int32), (0 ≤ niC_nodes.toInt ∧ niC_nodes.toInt ≤ 18) ∧ (∀ j : Nat, j < 18 → 0 ≤ (nfC_parts j).toInt ∧ (nfC_parts j).toInt ≤ 4) ∧ (∀ j : Nat, j < 72 → 0 ≤ (nfC_partNodes j).toInt ∧ (nfC_partNodes j).toInt ≤ 17) ∧ (PX3_readRuler iR_faultNumber iR_faultPlace fR_tape iR_end iR_tokenKind iR_tokenFrom iR_tokenTo iR_tokenName iR_tokenKey iR_tokenWhole fR_names fR_keys iC_nodes iC_words iC_chances iC_unit fC_kind fC_parts fC_partNodes fC_weights fC_weightSums fC_toldWorths fC_steps fC_below fC_above p0 = (Int32.ofNat u, niR_faultNumber, niR_faultPlace, niR_tokenKind, niR_tokenFrom, niR_tokenTo, niR_tokenName, niR_tokenKey, niR_tokenWhole, nfR_names, niC_nodes, niC_words, niC_chances, niC_unit, nfC_kind, nfC_parts, nfC_partNodes, nfC_weights, nfC_weightSums, nfC_toldWorths, nfC_steps, nfC_below, nfC_above)) ∧ Bw dC dI A [(oc3 oR niR_faultNumber niR_faultPlace iR_tapeSize rR_tape iR_end niR_tokenKind niR_tokenFrom niR_tokenTo niR_tokenName niR_tokenKey niR_tokenWhole oC iR_courtTold rR_names rR_keys), (arI rR_tape kR_tape 900 fR_tape), (arL rR_names kR_names 18 nfR_names), (arL rR_keys kR_keys 10 fR_keys), (oc1 oC niC_nodes niC_words niC_chances iC_unsures iC_slips iC_throneNode iC_saidWorth niC_unit rC_kind rC_parts rC_partNodes rC_weights rC_weightSums rC_toldWorths rC_steps rC_below rC_above rC_unsureWords rC_unsureWorths), (arI rC_kind kC_kind 18 nfC_kind), (arI rC_parts kC_parts 18 nfC_parts), (arI rC_partNodes kC_partNodes 72 nfC_partNodes), (arI rC_weights kC_weights 72 nfC_weights), (arI rC_weightSums kC_weightSums 18 nfC_weightSums), (arI rC_toldWorths kC_toldWorths 18 nfC_toldWorths), (arI rC_steps kC_steps 18 nfC_steps), (arI rC_below kC_below 18 nfC_below), (arI rC_above kC_above 18 nfC_above)] [(kR_tape, .byte), (kR_names, .long), (kR_keys, .long), (kC_kind, .int), (kC_parts, .int), (kC_partNodes, .int), (kC_weights, .int), (kC_weightSums, .int), (kC_toldWorths, .int), (kC_steps, .int), (kC_below, .int), (kC_above, .int)] t) A) ([.ref oR, .int p0] : List Value).toArray s 0 0 A) (F0 m 57 ls []) := by
        intro n_1798
        induction n_1798 with
        | zero => intro z_1781 z_1782 z_1783 z_1784 z_1785 z_1786 z_1787 z_1788 z_1789 z_1790 f_1791 f_1792 f_1793 f_1794 f_1795 f_1796 f_1797 H locs ls a_f_1791 a_f_1792 hi0_n_1798 hi1_n_1798 hm; exact absurd hm (Nat.not_lt_zero _)
        | succ n_1798 ih_n_1798 =>
          intro z_1781 z_1782 z_1783 z_1784 z_1785 z_1786 z_1787 z_1788 z_1789 z_1790 f_1791 f_1792 f_1793 f_1794 f_1795 f_1796 f_1797 H locs ls a_f_1791 a_f_1792 hi0_n_1798 hi1_n_1798 hm_n_1798 hG hP hD hS hl
          have hG := hG.trans (HX3_readRuler_0_eq _ _ _ _ _ _ _ _ _ _ _ _ _ _ _ _ _ _ _ _ _ _ _ _ _ _ _ _ _ _)
          refine lv_iload hx hb dX3_readRuler_57 (lv_at hl 0 rfl) ?_
          refine lv_iconst (v := 4) hx hb dX3_readRuler_59 (by decide) ?_
          refine lv_icmp_gt (tgt := 93) hx hb dX3_readRuler_60 (by decide) (fun c_1799 => ?_) (fun c_1799 => ?_)
          · skip
            have hG := hG.trans (if_pos c_1799)
            have gc_1799 := ti_lt c_1799 kc_4 rfl
            refine lv_iload hx hb dX3_readRuler_93 (lv_at hl 1 rfl) ?_
            refine lv_if_eq (tgt := 104) hx hb dX3_readRuler_95 (by decide) (fun c_1800 => ?_) (fun c_1800 => ?_)
            · skip
              have hG := hG.trans (if_pos c_1800)
              have gc_1800 := ti_eq c_1800 rfl kc_0
              refine lv_iload hx hb dX3_readRuler_104 (lv_at hl 1 rfl) ?_
              exact wq_z (v := z_1782) hx hb hr (bz_nar (bz_of (by omega))) (cI z_1782) ⟨⟨(bz_of (by omega)), trivial⟩, (cI_of z_1782)⟩ (fun t ht hW => ⟨z_1783, z_1784, z_1785, z_1786, z_1787, z_1788, z_1789, z_1790, fR_names, iC_nodes, iC_words, iC_chances, iC_unit, f_1742, f_1791, f_1792, f_1793, f_1794, f_1745, f_1795, f_1796, f_1797, b_iC_nodes, a_f_1791, a_f_1792, (cI_tup hG), Bw.to hP hD hK ht hW⟩) hS dX3_readRuler_106 hlocks
            · skip
              have hG := hG.trans (if_neg c_1800)
              have gc_1800 := ti_ne c_1800 rfl kc_0
              refine lv_aload_n hx hb dX3_readRuler_98 rfl (lv_at hl 3 rfl) ?_
              refine lv_lload_n hx hb dX3_readRuler_99 rfl (lv_at hl 2 rfl) ?_
              refine lv_iconst (v := 0) hx hb dX3_readRuler_100 (by decide) ?_
              have hMs := ml_of hD [true, false, true, false, true, true, false, false, false, true, true, false, false, false] (wc := [(oc3 oR z_1783 z_1784 iR_tapeSize rR_tape iR_end z_1785 z_1786 z_1787 z_1788 z_1789 z_1790 oC iR_courtTold rR_names rR_keys), (arL rR_names kR_names 18 fR_names), (oc1 oC iC_nodes iC_words iC_chances iC_unsures iC_slips iC_throneNode iC_saidWorth iC_unit rC_kind rC_parts rC_partNodes rC_weights rC_weightSums rC_toldWorths rC_steps rC_below rC_above rC_unsureWords rC_unsureWorths), (arI rC_kind kC_kind 18 f_1742), (arI rC_weightSums kC_weightSums 18 f_1794), (arI rC_toldWorths kC_toldWorths 18 f_1745)]) rfl
              have hFc := va_freeM hD hS hA _ hMs
              refine va_callv (va_runV (As := [.long y_1752, .int 0]) (rest := []) ⟨hx, hb, hml, hown, hts⟩ (tX3_endNode l dC dI _ oR z_1783 z_1784 iR_tapeSize rR_tape iR_end z_1785 z_1786 z_1787 z_1788 z_1789 z_1790 oC iR_courtTold rR_names fR_names kR_names rR_keys iC_nodes iC_words iC_chances iC_unsures iC_slips iC_throneNode iC_saidWorth iC_unit rC_kind f_1742 kC_kind rC_parts rC_partNodes rC_weights rC_weightSums f_1794 kC_weightSums rC_toldWorths f_1745 kC_toldWorths rC_steps rC_below rC_above rC_unsureWords rC_unsureWorths y_1752 0 b_iR_tapeSize b_iR_courtTold b_iC_nodes b_iC_unsures b_iC_throneNode) (cwV 2 hts (wd_V wd_288 wd_289 wd_290 wd_15 (wd_c wd_291)) rfl rfl rfl dv_yX3_endNode_2 ⟨Nat.le_of_ble_eq_true rfl, Nat.le_of_ble_eq_true rfl⟩) ⟨Pw.fb, recvX3 hK hP (q0 := 0) rfl, fun U hU hW => Pw.to (hP.ms _ hMs) (hD.ms _ hMs) (hK.ms [false, true, false, true, false, false, false, true, true, false, false, false] rfl) hE hS hFc hU hW⟩ rfl rfl hl.1 rfl (lv_room (Nat.le_of_ble_eq_true rfl)) dX3_readRuler_101 ⟨Nat.le_of_ble_eq_true rfl, Nat.le_of_ble_eq_true rfl⟩) hS (fun q _ h => hFc q h) hFc (fun u t H locs ht hvm hw hB hz1 hk1 hS => ?_)
              refine ex_6_2 hB (fun f_1801 x_1802 x_1803 x_1804 x_1805 f_1806 b_x_1802 e_f_1801_0 hB => ?_)
              obtain ⟨hP, hD⟩ := Bw.goN (ws' := [(oc3 oR z_1783 z_1784 iR_tapeSize rR_tape iR_end z_1785 z_1786 z_1787 z_1788 z_1789 z_1790 oC iR_courtTold rR_names rR_keys), (arI rR_tape kR_tape 900 fR_tape), (arL rR_names kR_names 18 f_1801), (arL rR_keys kR_keys 10 fR_keys), (oc1 oC x_1802 x_1803 x_1804 iC_unsures iC_slips iC_throneNode iC_saidWorth x_1805 rC_kind rC_parts rC_partNodes rC_weights rC_weightSums rC_toldWorths rC_steps rC_below rC_above rC_unsureWords rC_unsureWorths), (arI rC_kind kC_kind 18 f_1742), (arI rC_parts kC_parts 18 f_1791), (arI rC_partNodes kC_partNodes 72 f_1792), (arI rC_weights kC_weights 72 f_1793), (arI rC_weightSums kC_weightSums 18 f_1794), (arI rC_toldWorths kC_toldWorths 18 f_1806), (arI rC_steps kC_steps 18 f_1795), (arI rC_below kC_below 18 f_1796), (arI rC_above kC_above 18 f_1797)]) hB rfl ht hP hD _ hMs hk1 hFc rfl
              clear hz1 hk1 hvm ht hB hMs
              have hG := hG.trans (un6_eq e_f_1801_0)
              refine lv_iload hx hb dX3_readRuler_104 (lv_at hl 1 rfl) ?_
              exact wq_z (v := z_1782) hx hb hr (bz_nar (bz_of (by omega))) (cI z_1782) ⟨⟨(bz_of (by omega)), trivial⟩, (cI_of z_1782)⟩ (fun t ht hW => ⟨z_1783, z_1784, z_1785, z_1786, z_1787, z_1788, z_1789, z_1790, f_1801, x_1802, x_1803, x_1804, x_1805, f_1742, f_1791, f_1792, f_1793, f_1794, f_1806, f_1795, f_1796, f_1797, b_x_1802, a_f_1791, a_f_1792, (cI_tup hG), Bw.to hP hD hK ht hW⟩) hS dX3_readRuler_106 hlocks
          · skip
            have hG := hG.trans (if_neg c_1799)
            have gc_1799 := ti_nlt c_1799 kc_4 rfl
            refine lv_iload hx hb dX3_readRuler_63 (lv_at hl 1 rfl) ?_
            refine lv_if_eq (tgt := 93) hx hb dX3_readRuler_65 (by decide) (fun c_1807 => ?_) (fun c_1807 => ?_)
            · skip
              have hG := hG.trans (if_pos c_1807)
              have gc_1807 := ti_eq c_1807 rfl kc_0
              refine lv_iload hx hb dX3_readRuler_93 (lv_at hl 1 rfl) ?_
              refine lv_if_eq (tgt := 104) hx hb dX3_readRuler_95 (by decide) (fun c_1808 => ?_) (fun c_1808 => ?_)
              · skip
                have hG := hG.trans (if_pos c_1808)
                have gc_1808 := ti_eq c_1808 rfl kc_0
                refine lv_iload hx hb dX3_readRuler_104 (lv_at hl 1 rfl) ?_
                exact wq_z (v := z_1782) hx hb hr (bz_nar (bz_of (by omega))) (cI z_1782) ⟨⟨(bz_of (by omega)), trivial⟩, (cI_of z_1782)⟩ (fun t ht hW => ⟨z_1783, z_1784, z_1785, z_1786, z_1787, z_1788, z_1789, z_1790, fR_names, iC_nodes, iC_words, iC_chances, iC_unit, f_1742, f_1791, f_1792, f_1793, f_1794, f_1745, f_1795, f_1796, f_1797, b_iC_nodes, a_f_1791, a_f_1792, (cI_tup hG), Bw.to hP hD hK ht hW⟩) hS dX3_readRuler_106 hlocks
              · skip
                have hG := hG.trans (if_neg c_1808)
                have gc_1808 := ti_ne c_1808 rfl kc_0
                exact (om_3299cc9d gc_1808 gc_1807 hi1_n_1798.1).elim
            · skip
              have hG := hG.trans (if_neg c_1807)
              have gc_1807 := ti_ne c_1807 rfl kc_0
              refine lv_aload_n hx hb dX3_readRuler_68 rfl (lv_at hl 3 rfl) ?_
              refine va_get (D := (dC, dI)) (ci := 3) (v := .int z_1785) (C := RX3) (T := TX3) (N := 15) hx hb hts inX3 hown hK hP 0 rfl rfl 5 (by decide) (hts _ wd_210) (fun _ h9 => h9) rfl dX3_readRuler_69 ?_
              refine lv_iconst (v := 4) hx hb dX3_readRuler_72 (by decide) ?_
              refine lv_icmp_ne (tgt := 93) hx hb dX3_readRuler_73 (by decide) (fun c_1809 => ?_) (fun c_1809 => ?_)
              · skip
                have hG := hG.trans (if_neg c_1809)
                have gc_1809 := ti_ne c_1809 rfl kc_4
                refine lv_iload hx hb dX3_readRuler_93 (lv_at hl 1 rfl) ?_
                refine lv_if_eq (tgt := 104) hx hb dX3_readRuler_95 (by decide) (fun c_1810 => ?_) (fun c_1810 => ?_)
                · skip
                  have hG := hG.trans (if_pos c_1810)
                  have gc_1810 := ti_eq c_1810 rfl kc_0
                  exfalso; clear hG; omega
                · skip
                  have hG := hG.trans (if_neg c_1810)
                  have gc_1810 := ti_ne c_1810 rfl kc_0
                  refine lv_aload_n hx hb dX3_readRuler_98 rfl (lv_at hl 3 rfl) ?_
                  refine lv_lload_n hx hb dX3_readRuler_99 rfl (lv_at hl 2 rfl) ?_
                  refine lv_iconst (v := 0) hx hb dX3_readRuler_100 (by decide) ?_
                  have hMs := ml_of hD [true, false, true, false, true, true, false, false, false, true, true, false, false, false] (wc := [(oc3 oR z_1783 z_1784 iR_tapeSize rR_tape iR_end z_1785 z_1786 z_1787 z_1788 z_1789 z_1790 oC iR_courtTold rR_names rR_keys), (arL rR_names kR_names 18 fR_names), (oc1 oC iC_nodes iC_words iC_chances iC_unsures iC_slips iC_throneNode iC_saidWorth iC_unit rC_kind rC_parts rC_partNodes rC_weights rC_weightSums rC_toldWorths rC_steps rC_below rC_above rC_unsureWords rC_unsureWorths), (arI rC_kind kC_kind 18 f_1742), (arI rC_weightSums kC_weightSums 18 f_1794), (arI rC_toldWorths kC_toldWorths 18 f_1745)]) rfl
                  have hFc := va_freeM hD hS hA _ hMs
                  refine va_callv (va_runV (As := [.long y_1752, .int 0]) (rest := []) ⟨hx, hb, hml, hown, hts⟩ (tX3_endNode l dC dI _ oR z_1783 z_1784 iR_tapeSize rR_tape iR_end z_1785 z_1786 z_1787 z_1788 z_1789 z_1790 oC iR_courtTold rR_names fR_names kR_names rR_keys iC_nodes iC_words iC_chances iC_unsures iC_slips iC_throneNode iC_saidWorth iC_unit rC_kind f_1742 kC_kind rC_parts rC_partNodes rC_weights rC_weightSums f_1794 kC_weightSums rC_toldWorths f_1745 kC_toldWorths rC_steps rC_below rC_above rC_unsureWords rC_unsureWorths y_1752 0 b_iR_tapeSize b_iR_courtTold b_iC_nodes b_iC_unsures b_iC_throneNode) (cwV 2 hts (wd_V wd_288 wd_289 wd_290 wd_15 (wd_c wd_291)) rfl rfl rfl dv_yX3_endNode_2 ⟨Nat.le_of_ble_eq_true rfl, Nat.le_of_ble_eq_true rfl⟩) ⟨Pw.fb, recvX3 hK hP (q0 := 0) rfl, fun U hU hW => Pw.to (hP.ms _ hMs) (hD.ms _ hMs) (hK.ms [false, true, false, true, false, false, false, true, true, false, false, false] rfl) hE hS hFc hU hW⟩ rfl rfl hl.1 rfl (lv_room (Nat.le_of_ble_eq_true rfl)) dX3_readRuler_101 ⟨Nat.le_of_ble_eq_true rfl, Nat.le_of_ble_eq_true rfl⟩) hS (fun q _ h => hFc q h) hFc (fun u t H locs ht hvm hw hB hz1 hk1 hS => ?_)
                  refine ex_6_2 hB (fun f_1811 x_1812 x_1813 x_1814 x_1815 f_1816 b_x_1812 e_f_1811_0 hB => ?_)
                  obtain ⟨hP, hD⟩ := Bw.goN (ws' := [(oc3 oR z_1783 z_1784 iR_tapeSize rR_tape iR_end z_1785 z_1786 z_1787 z_1788 z_1789 z_1790 oC iR_courtTold rR_names rR_keys), (arI rR_tape kR_tape 900 fR_tape), (arL rR_names kR_names 18 f_1811), (arL rR_keys kR_keys 10 fR_keys), (oc1 oC x_1812 x_1813 x_1814 iC_unsures iC_slips iC_throneNode iC_saidWorth x_1815 rC_kind rC_parts rC_partNodes rC_weights rC_weightSums rC_toldWorths rC_steps rC_below rC_above rC_unsureWords rC_unsureWorths), (arI rC_kind kC_kind 18 f_1742), (arI rC_parts kC_parts 18 f_1791), (arI rC_partNodes kC_partNodes 72 f_1792), (arI rC_weights kC_weights 72 f_1793), (arI rC_weightSums kC_weightSums 18 f_1794), (arI rC_toldWorths kC_toldWorths 18 f_1816), (arI rC_steps kC_steps 18 f_1795), (arI rC_below kC_below 18 f_1796), (arI rC_above kC_above 18 f_1797)]) hB rfl ht hP hD _ hMs hk1 hFc rfl
                  clear hz1 hk1 hvm ht hB hMs
                  have hG := hG.trans (un6_eq e_f_1811_0)
                  refine lv_iload hx hb dX3_readRuler_104 (lv_at hl 1 rfl) ?_
                  exact wq_z (v := z_1782) hx hb hr (bz_nar (bz_of (by omega))) (cI z_1782) ⟨⟨(bz_of (by omega)), trivial⟩, (cI_of z_1782)⟩ (fun t ht hW => ⟨z_1783, z_1784, z_1785, z_1786, z_1787, z_1788, z_1789, z_1790, f_1811, x_1812, x_1813, x_1814, x_1815, f_1742, f_1791, f_1792, f_1793, f_1794, f_1816, f_1795, f_1796, f_1797, b_x_1812, a_f_1791, a_f_1792, (cI_tup hG), Bw.to hP hD hK ht hW⟩) hS dX3_readRuler_106 hlocks
              · skip
                have hG := hG.trans (if_pos c_1809)
                have gc_1809 := ti_eq c_1809 rfl kc_4
                refine lv_aload_n hx hb dX3_readRuler_76 rfl (lv_at hl 3 rfl) ?_
                have hMs := ml_of hD [true, true, false, true, false, false, false, false, false, false, false, false, false, false] (wc := [(oc3 oR z_1783 z_1784 iR_tapeSize rR_tape iR_end z_1785 z_1786 z_1787 z_1788 z_1789 z_1790 oC iR_courtTold rR_names rR_keys), (arI rR_tape kR_tape 900 fR_tape), (arL rR_keys kR_keys 10 fR_keys)]) rfl
                have hFc := va_freeM hD hS hA _ hMs
                refine va_callv (va_runV (As := []) (rest := []) ⟨hx, hb, hml, hown, hts⟩ (tX3_nextToken l dC dI _ oR z_1783 z_1784 iR_tapeSize rR_tape fR_tape kR_tape iR_end z_1785 z_1786 z_1787 z_1788 z_1789 z_1790 oC iR_courtTold rR_names rR_keys fR_keys kR_keys b_iR_tapeSize b_iR_courtTold) (cwV 0 hts (wd_V wd_220 wd_221 wd_222 wd_15 (wd_c wd_223)) rfl rfl rfl dv_yX3_nextToken_0 ⟨Nat.le_of_ble_eq_true rfl, Nat.le_of_ble_eq_true rfl⟩) ⟨Pw.fb, recvX3 hK hP (q0 := 0) rfl, fun U hU hW => Pw.to (hP.ms _ hMs) (hD.ms _ hMs) (hK.ms [true, false, true, false, false, false, false, false, false, false, false, false] rfl) hE hS hFc hU hW⟩ rfl rfl hl.1 rfl (lv_room (Nat.le_of_ble_eq_true rfl)) dX3_readRuler_77 ⟨Nat.le_of_ble_eq_true rfl, Nat.le_of_ble_eq_true rfl⟩) hS (fun q _ h => hFc q h) hFc (fun u t H locs ht hvm hw hB hz1 hk1 hS => ?_)
                refine ex_6_1 hB (fun x_1817 x_1818 x_1819 y_1820 x_1821 x_1822 e_x_1817_0 hB => ?_)
                obtain ⟨hP, hD⟩ := Bw.goN (ws' := [(oc3 oR z_1783 z_1784 iR_tapeSize rR_tape iR_end x_1817 x_1818 x_1819 y_1820 x_1821 x_1822 oC iR_courtTold rR_names rR_keys), (arI rR_tape kR_tape 900 fR_tape), (arL rR_names kR_names 18 fR_names), (arL rR_keys kR_keys 10 fR_keys), (oc1 oC iC_nodes iC_words iC_chances iC_unsures iC_slips iC_throneNode iC_saidWorth iC_unit rC_kind rC_parts rC_partNodes rC_weights rC_weightSums rC_toldWorths rC_steps rC_below rC_above rC_unsureWords rC_unsureWorths), (arI rC_kind kC_kind 18 f_1742), (arI rC_parts kC_parts 18 f_1791), (arI rC_partNodes kC_partNodes 72 f_1792), (arI rC_weights kC_weights 72 f_1793), (arI rC_weightSums kC_weightSums 18 f_1794), (arI rC_toldWorths kC_toldWorths 18 f_1745), (arI rC_steps kC_steps 18 f_1795), (arI rC_below kC_below 18 f_1796), (arI rC_above kC_above 18 f_1797)]) hB rfl ht hP hD _ hMs hk1 hFc rfl
                clear hz1 hk1 hvm ht hB hMs
                have hG := hG.trans (un6_eq e_x_1817_0)
                refine lv_aload_n hx hb dX3_readRuler_80 rfl (lv_at hl 3 rfl) ?_
                refine lv_iload_n hx hb dX3_readRuler_81 rfl (lv_at hl 4 rfl) ?_
                have hMs := ml_of hD [true, true, true, true, true, false, true, true, true, true, false, true, true, true] (wc := [(oc3 oR z_1783 z_1784 iR_tapeSize rR_tape iR_end x_1817 x_1818 x_1819 y_1820 x_1821 x_1822 oC iR_courtTold rR_names rR_keys), (arI rR_tape kR_tape 900 fR_tape), (arL rR_names kR_names 18 fR_names), (arL rR_keys kR_keys 10 fR_keys), (oc1 oC iC_nodes iC_words iC_chances iC_unsures iC_slips iC_throneNode iC_saidWorth iC_unit rC_kind rC_parts rC_partNodes rC_weights rC_weightSums rC_toldWorths rC_steps rC_below rC_above rC_unsureWords rC_unsureWorths), (arI rC_parts kC_parts 18 f_1791), (arI rC_partNodes kC_partNodes 72 f_1792), (arI rC_weights kC_weights 72 f_1793), (arI rC_weightSums kC_weightSums 18 f_1794), (arI rC_steps kC_steps 18 f_1795), (arI rC_below kC_below 18 f_1796), (arI rC_above kC_above 18 f_1797)]) rfl
                have hFc := va_freeM hD hS hA _ hMs
                refine va_calli (va_runV (As := [.int p0]) (rest := []) ⟨hx, hb, hml, hown, hts⟩ (tX3_readPart l dC dI _ oR z_1783 z_1784 iR_tapeSize rR_tape fR_tape kR_tape iR_end x_1817 x_1818 x_1819 y_1820 x_1821 x_1822 oC iR_courtTold rR_names fR_names kR_names rR_keys fR_keys kR_keys iC_nodes iC_words iC_chances iC_unsures iC_slips iC_throneNode iC_saidWorth iC_unit rC_kind rC_parts f_1791 kC_parts rC_partNodes f_1792 kC_partNodes rC_weights f_1793 kC_weights rC_weightSums f_1794 kC_weightSums rC_toldWorths rC_steps f_1795 kC_steps rC_below f_1796 kC_below rC_above f_1797 kC_above rC_unsureWords rC_unsureWorths p0 b_iR_tapeSize b_iR_courtTold b_iC_nodes b_iC_unsures b_iC_throneNode a_f_1791 a_f_1792) (cwV 1 hts (wd_V wd_300 wd_301 wd_302 wd_15 (wd_c wd_303)) rfl rfl rfl dv_yX3_readPart_1 ⟨Nat.le_of_ble_eq_true rfl, Nat.le_of_ble_eq_true rfl⟩) ⟨Pw.fb, recvX3 hK hP (q0 := 0) rfl, fun U hU hW => Pw.to (hP.ms _ hMs) (hD.ms _ hMs) (hK.ms [true, true, true, false, true, true, true, true, false, true, true, true] rfl) hE hS hFc hU hW⟩ rfl rfl hl.1 rfl (lv_room (Nat.le_of_ble_eq_true rfl)) dX3_readRuler_82 ⟨Nat.le_of_ble_eq_true rfl, Nat.le_of_ble_eq_true rfl⟩) hS (fun q _ h => hFc q h) hFc (fun r u t H locs ht hvm hw hB hz1 hk1 hS => ?_)
                have hru9 := hw.2
                have hw := hw.1
                refine ex_15_3 hB (fun x_1823 x_1824 x_1825 x_1826 x_1827 y_1828 x_1829 x_1830 f_1831 f_1832 f_1833 f_1834 f_1835 f_1836 f_1837 a_f_1831 a_f_1832 e_x_1823_0 hB => ?_)
                obtain ⟨hP, hD⟩ := Bw.goN (ws' := [(oc3 oR x_1823 x_1824 iR_tapeSize rR_tape iR_end x_1825 x_1826 x_1827 y_1828 x_1829 x_1830 oC iR_courtTold rR_names rR_keys), (arI rR_tape kR_tape 900 fR_tape), (arL rR_names kR_names 18 fR_names), (arL rR_keys kR_keys 10 fR_keys), (oc1 oC iC_nodes iC_words iC_chances iC_unsures iC_slips iC_throneNode iC_saidWorth iC_unit rC_kind rC_parts rC_partNodes rC_weights rC_weightSums rC_toldWorths rC_steps rC_below rC_above rC_unsureWords rC_unsureWorths), (arI rC_kind kC_kind 18 f_1742), (arI rC_parts kC_parts 18 f_1831), (arI rC_partNodes kC_partNodes 72 f_1832), (arI rC_weights kC_weights 72 f_1833), (arI rC_weightSums kC_weightSums 18 f_1834), (arI rC_toldWorths kC_toldWorths 18 f_1745), (arI rC_steps kC_steps 18 f_1835), (arI rC_below kC_below 18 f_1836), (arI rC_above kC_above 18 f_1837)]) hB rfl ht hP hD _ hMs hk1 hFc rfl
                clear hz1 hk1 hvm ht hB hMs
                rw [← hru9] at e_x_1823_0
                obtain ⟨x_1838, rfl⟩ : ∃ z, z = r := ⟨_, rfl⟩
                have hG := hG.trans (un16_eq e_x_1823_0)
                have bx_1838 := hw.1
                have dx_1838 := bz_tb bx_1838
                refine lv_istore (lv' := [(4, .int x_1838), (5, .int z_1781), (2, .long y_1752), (0, .ref oR), (1, .int p0)]) hx hb dX3_readRuler_85 hl (by decide) rfl (fun ls hl => ?_)
                obtain ⟨x_1839, ex_1839⟩ : ∃ z : Int32, z = z_1781 + Int32.ofInt 1 := ⟨_, rfl⟩
                have hG := hG.trans (lt_eq ex_1839)
                have vx_1839 : x_1839.toInt = z_1781.toInt + 1 := ti_add (y := 1) ex_1839 rfl kc_1 (om_4e4fce7e hi0_n_1798.1) (om_434bffb5 hi0_n_1798.2)
                refine lv_iinc (v := x_1839) (lv' := [(5, .int x_1839), (4, .int x_1838), (2, .long y_1752), (0, .ref oR), (1, .int p0)]) hx hb dX3_readRuler_87 hl (k := 1) rfl ex_1839.symm (by decide) rfl (fun ls hl => ?_)
                refine lv_goto (tgt := 57) hx hb dX3_readRuler_90 (by decide) ?_
                exact ih_n_1798 x_1839 x_1838 x_1823 x_1824 x_1825 x_1826 x_1827 y_1828 x_1829 x_1830 f_1831 f_1832 f_1833 f_1834 f_1835 f_1836 f_1837 _ _ _ a_f_1831 a_f_1832 ⟨(om_83b90de5 hi0_n_1798.1 vx_1839), (om_e30c89be gc_1799 vx_1839)⟩ ⟨dx_1838.1, dx_1838.2⟩ (ms_lt hm_n_1798 (om_a7399cb8 vx_1839) (om_cb3828ca gc_1799)) hG hP hD hS (lv_sub hl [0, 1, 2, 3, 4] rfl)
      exact key_n_1798 (((5 - (0 : Int32).toInt).toNat) + 1) 0 x_1780 x_1765 x_1766 x_1767 x_1768 x_1769 y_1770 x_1771 x_1772 f_1773 f_1774 f_1775 f_1776 f_1777 f_1778 f_1779 _ _ _ a_f_1773 a_f_1774 ⟨(om_b1de7dbe kc_0), (om_e0faef24 kc_0)⟩ ⟨dx_1780.1, dx_1780.2⟩ (Nat.lt_add_one _) hG hP hD hS hl
    · skip
      have hG := hG.trans (if_pos c_1758)
      have gc_1758 := ti_eq c_1758 rfl kc_0
      refine lv_iconst (v := 0) hx hb dX3_readRuler_36 (by decide) ?_
      exact wq_z (v := 0) hx hb hr rfl (cI 0) ⟨⟨Or.inl rfl, trivial⟩, (cI_of 0)⟩ (fun t ht hW => ⟨x_1755, x_1756, x_1749, x_1750, x_1751, y_1752, x_1753, x_1754, fR_names, iC_nodes, iC_words, iC_chances, iC_unit, f_1742, f_1743, fC_partNodes, fC_weights, f_1744, f_1745, f_1746, f_1747, f_1748, b_iC_nodes, a_f_1743, a_fC_partNodes, (cI_tup hG), Bw.to hP hD hK ht hW⟩) hS dX3_readRuler_37 hlocks
  · skip
    have hG := hG.trans (lt_eq hru9.symm)
    have hG := hG.trans (if_neg (by decide))
    refine lv_if_ne (tgt := 17) hx hb dX3_readRuler_8 (by decide) (fun c => absurd c (by decide)) (fun _ => ?_)
    refine lv_aload_n hx hb dX3_readRuler_11 rfl (lv_at hl 0 rfl) ?_
    refine lv_iconst (v := 5) hx hb dX3_readRuler_12 (by decide) ?_
    have hMs := ml_of hD [true, false, false, false, false, false, false, false, false, false, false, false, false, false] (wc := [(oc3 oR iR_faultNumber iR_faultPlace iR_tapeSize rR_tape iR_end iR_tokenKind iR_tokenFrom iR_tokenTo iR_tokenName iR_tokenKey iR_tokenWhole oC iR_courtTold rR_names rR_keys)]) rfl
    have hFc := va_freeM hD hS hA _ hMs
    refine va_calli (va_runV (As := [.int 5]) (rest := []) ⟨hx, hb, hml, hown, hts⟩ (tX3_faulty l dC dI _ oR iR_faultNumber iR_faultPlace iR_tapeSize rR_tape iR_end iR_tokenKind iR_tokenFrom iR_tokenTo iR_tokenName iR_tokenKey iR_tokenWhole oC iR_courtTold rR_names rR_keys 5 b_iR_tapeSize b_iR_courtTold) (cwV 1 hts (wd_V wd_254 wd_255 wd_256 wd_15 (wd_c wd_257)) rfl rfl rfl dv_yX3_faulty_1 ⟨Nat.le_of_ble_eq_true rfl, Nat.le_of_ble_eq_true rfl⟩) ⟨Pw.fb, recvX3 hK hP (q0 := 0) rfl, fun U hU hW => Pw.to (hP.ms _ hMs) (hD.ms _ hMs) (hK.ms [false, false, false, false, false, false, false, false, false, false, false, false] rfl) hE hS hFc hU hW⟩ rfl rfl hl.1 rfl (lv_room (Nat.le_of_ble_eq_true rfl)) dX3_readRuler_13 ⟨Nat.le_of_ble_eq_true rfl, Nat.le_of_ble_eq_true rfl⟩) hS (fun q _ h => hFc q h) hFc (fun r u t H locs ht hvm hw hB hz1 hk1 hS => ?_)
    have hru9 := hw.2
    have hw := hw.1
    refine ex_2_1 hB (fun x_1841 x_1842 e_x_1841_0 hB => ?_)
    obtain ⟨hP, hD⟩ := Bw.goN (ws' := [(oc3 oR x_1841 x_1842 iR_tapeSize rR_tape iR_end iR_tokenKind iR_tokenFrom iR_tokenTo iR_tokenName iR_tokenKey iR_tokenWhole oC iR_courtTold rR_names rR_keys), (arI rR_tape kR_tape 900 fR_tape), (arL rR_names kR_names 18 fR_names), (arL rR_keys kR_keys 10 fR_keys), (oc1 oC iC_nodes iC_words iC_chances iC_unsures iC_slips iC_throneNode iC_saidWorth iC_unit rC_kind rC_parts rC_partNodes rC_weights rC_weightSums rC_toldWorths rC_steps rC_below rC_above rC_unsureWords rC_unsureWorths), (arI rC_kind kC_kind 18 fC_kind), (arI rC_parts kC_parts 18 fC_parts), (arI rC_partNodes kC_partNodes 72 fC_partNodes), (arI rC_weights kC_weights 72 fC_weights), (arI rC_weightSums kC_weightSums 18 fC_weightSums), (arI rC_toldWorths kC_toldWorths 18 fC_toldWorths), (arI rC_steps kC_steps 18 fC_steps), (arI rC_below kC_below 18 fC_below), (arI rC_above kC_above 18 fC_above)]) hB rfl ht hP hD _ hMs hk1 hFc rfl
    clear hz1 hk1 hvm ht hB hMs
    rw [← hru9] at e_x_1841_0
    rcases hw.2 with ⟨rfl, hc_1843⟩
    · skip
      have hG := hG.trans (un3_eq e_x_1841_0)
      exact wq_z (v := 0) hx hb hr rfl (cI 0) ⟨⟨Or.inl rfl, trivial⟩, (cI_of 0)⟩ (fun t ht hW => ⟨x_1841, x_1842, iR_tokenKind, iR_tokenFrom, iR_tokenTo, iR_tokenName, iR_tokenKey, iR_tokenWhole, fR_names, iC_nodes, iC_words, iC_chances, iC_unit, fC_kind, fC_parts, fC_partNodes, fC_weights, fC_weightSums, fC_toldWorths, fC_steps, fC_below, fC_above, b_iC_nodes, a_fC_parts, a_fC_partNodes, (cI_tup hG), Bw.to hP hD hK ht hW⟩) hS dX3_readRuler_16 hlocks
set_option maxHeartbeats 4000000 in
set_option maxRecDepth 100000 in
theorem tX3_readWord (l : Launch) (dC : Nat → ClassId) (dI : Nat → Nat → Nat) (sz : Nat) (oR : Nat) (iR_faultNumber : Int32) (iR_faultPlace : Int32) (iR_tapeSize : Int32) (rR_tape : Nat) (fR_tape : Nat → Int32) (kR_tape : ClassId) (iR_end : Int32) (iR_tokenKind : Int32) (iR_tokenFrom : Int32) (iR_tokenTo : Int32) (iR_tokenName : Int64) (iR_tokenKey : Int32) (iR_tokenWhole : Int32) (oC : Nat) (iR_courtTold : Int32) (rR_names : Nat) (fR_names : Nat → Int64) (kR_names : ClassId) (rR_keys : Nat) (fR_keys : Nat → Int64) (kR_keys : ClassId) (iC_nodes : Int32) (iC_words : Int32) (iC_chances : Int32) (iC_unsures : Int32) (iC_slips : Int32) (iC_throneNode : Int32) (iC_saidWorth : Int32) (iC_unit : Int32) (rC_kind : Nat) (fC_kind : Nat → Int32) (kC_kind : ClassId) (rC_parts : Nat) (fC_parts : Nat → Int32) (kC_parts : ClassId) (rC_partNodes : Nat) (rC_weights : Nat) (rC_weightSums : Nat) (fC_weightSums : Nat → Int32) (kC_weightSums : ClassId) (rC_toldWorths : Nat) (fC_toldWorths : Nat → Int32) (kC_toldWorths : ClassId) (rC_steps : Nat) (fC_steps : Nat → Int32) (kC_steps : ClassId) (rC_below : Nat) (fC_below : Nat → Int32) (kC_below : ClassId) (rC_above : Nat) (fC_above : Nat → Int32) (kC_above : ClassId) (rC_unsureWords : Nat) (rC_unsureWorths : Nat) (b_iR_tapeSize : 0 ≤ iR_tapeSize.toInt ∧ iR_tapeSize.toInt ≤ 900) (b_iR_courtTold : 0 ≤ iR_courtTold.toInt ∧ iR_courtTold.toInt ≤ 1) (b_iC_nodes : 0 ≤ iC_nodes.toInt ∧ iC_nodes.toInt ≤ 18) (b_iC_unsures : 0 ≤ iC_unsures.toInt ∧ iC_unsures.toInt ≤ 4) (b_iC_throneNode : (-1) ≤ iC_throneNode.toInt ∧ iC_throneNode.toInt ≤ 17) (a_fC_parts : ∀ j : Nat, j < 18 → 0 ≤ (fC_parts j).toInt ∧ (fC_parts j).toInt ≤ 4)  : Met l yX3_readWord (Cond.code yX3_readWord cX3_readWord 3 (some .boolean) :: wG) ({ frames := 3, cells := 0, slots := 0, locals := 66 }) (va_Pc [.ref oR] (Pw dC dI sz [(oc3 oR iR_faultNumber iR_faultPlace iR_tapeSize rR_tape iR_end iR_tokenKind iR_tokenFrom iR_tokenTo iR_tokenName iR_tokenKey iR_tokenWhole oC iR_courtTold rR_names rR_keys), (arI rR_tape kR_tape 900 fR_tape), (arL rR_names kR_names 18 fR_names), (arL rR_keys kR_keys 10 fR_keys), (oc1 oC iC_nodes iC_words iC_chances iC_unsures iC_slips iC_throneNode iC_saidWorth iC_unit rC_kind rC_parts rC_partNodes rC_weights rC_weightSums rC_toldWorths rC_steps rC_below rC_above rC_unsureWords rC_unsureWorths), (arI rC_kind kC_kind 18 fC_kind), (arI rC_parts kC_parts 18 fC_parts), (arI rC_weightSums kC_weightSums 18 fC_weightSums), (arI rC_toldWorths kC_toldWorths 18 fC_toldWorths), (arI rC_steps kC_steps 18 fC_steps), (arI rC_below kC_below 18 fC_below), (arI rC_above kC_above 18 fC_above)] [(kR_tape, .byte), (kR_names, .long), (kR_keys, .long), (kC_kind, .int), (kC_parts, .int), (kC_weightSums, .int), (kC_toldWorths, .int), (kC_steps, .int), (kC_below, .int), (kC_above, .int)])) (va_Qi (fun (r : Int32) (u : Nat) => ((r = 0 ∨ r = 1) ∧ True) ∧ r = Int32.ofNat u) (fun (u : Nat) (t : State) => ∃ (niR_faultNumber : Int32) (niR_faultPlace : Int32) (niR_tokenKind : Int32) (niR_tokenFrom : Int32) (niR_tokenTo : Int32) (niR_tokenName : Int64) (niR_tokenKey : Int32) (niR_tokenWhole : Int32) (nfR_names : Nat → Int64) (niC_nodes : Int32) (niC_words : Int32) (niC_chances : Int32) (niC_unit : Int32) (nfC_kind : Nat → Int32) (nfC_parts : Nat → Int32) (nfC_weightSums : Nat → Int32) (nfC_toldWorths : Nat → Int32) (nfC_steps : Nat → Int32) (nfC_below : Nat → Int32) (nfC_above : Nat → Int32), (0 ≤ niC_nodes.toInt ∧ niC_nodes.toInt ≤ 18) ∧ (∀ j : Nat, j < 18 → 0 ≤ (nfC_parts j).toInt ∧ (nfC_parts j).toInt ≤ 4) ∧ (PX3_readWord iR_faultNumber iR_faultPlace fR_tape iR_end iR_tokenKind iR_tokenFrom iR_tokenTo iR_tokenName iR_tokenKey iR_tokenWhole fR_names fR_keys iC_nodes iC_words iC_chances iC_unit fC_kind fC_parts fC_weightSums fC_toldWorths fC_steps fC_below fC_above = (Int32.ofNat u, niR_faultNumber, niR_faultPlace, niR_tokenKind, niR_tokenFrom, niR_tokenTo, niR_tokenName, niR_tokenKey, niR_tokenWhole, nfR_names, niC_nodes, niC_words, niC_chances, niC_unit, nfC_kind, nfC_parts, nfC_weightSums, nfC_toldWorths, nfC_steps, nfC_below, nfC_above)) ∧ Bw dC dI (va_A [(oc3 oR iR_faultNumber iR_faultPlace iR_tapeSize rR_tape iR_end iR_tokenKind iR_tokenFrom iR_tokenTo iR_tokenName iR_tokenKey iR_tokenWhole oC iR_courtTold rR_names rR_keys), (arI rR_tape kR_tape 900 fR_tape), (arL rR_names kR_names 18 fR_names), (arL rR_keys kR_keys 10 fR_keys), (oc1 oC iC_nodes iC_words iC_chances iC_unsures iC_slips iC_throneNode iC_saidWorth iC_unit rC_kind rC_parts rC_partNodes rC_weights rC_weightSums rC_toldWorths rC_steps rC_below rC_above rC_unsureWords rC_unsureWorths), (arI rC_kind kC_kind 18 fC_kind), (arI rC_parts kC_parts 18 fC_parts), (arI rC_weightSums kC_weightSums 18 fC_weightSums), (arI rC_toldWorths kC_toldWorths 18 fC_toldWorths), (arI rC_steps kC_steps 18 fC_steps), (arI rC_below kC_below 18 fC_below), (arI rC_above kC_above 18 fC_above)] sz) [(oc3 oR niR_faultNumber niR_faultPlace iR_tapeSize rR_tape iR_end niR_tokenKind niR_tokenFrom niR_tokenTo niR_tokenName niR_tokenKey niR_tokenWhole oC iR_courtTold rR_names rR_keys), (arI rR_tape kR_tape 900 fR_tape), (arL rR_names kR_names 18 nfR_names), (arL rR_keys kR_keys 10 fR_keys), (oc1 oC niC_nodes niC_words niC_chances iC_unsures iC_slips iC_throneNode iC_saidWorth niC_unit rC_kind rC_parts rC_partNodes rC_weights rC_weightSums rC_toldWorths rC_steps rC_below rC_above rC_unsureWords rC_unsureWorths), (arI rC_kind kC_kind 18 nfC_kind), (arI rC_parts kC_parts 18 nfC_parts), (arI rC_weightSums kC_weightSums 18 nfC_weightSums), (arI rC_toldWorths kC_toldWorths 18 nfC_toldWorths), (arI rC_steps kC_steps 18 nfC_steps), (arI rC_below kC_below 18 nfC_below), (arI rC_above kC_above 18 nfC_above)] [(kR_tape, .byte), (kR_names, .long), (kR_keys, .long), (kC_kind, .int), (kC_parts, .int), (kC_weightSums, .int), (kC_toldWorths, .int), (kC_steps, .int), (kC_below, .int), (kC_above, .int)] t) (va_A [(oc3 oR iR_faultNumber iR_faultPlace iR_tapeSize rR_tape iR_end iR_tokenKind iR_tokenFrom iR_tokenTo iR_tokenName iR_tokenKey iR_tokenWhole oC iR_courtTold rR_names rR_keys), (arI rR_tape kR_tape 900 fR_tape), (arL rR_names kR_names 18 fR_names), (arL rR_keys kR_keys 10 fR_keys), (oc1 oC iC_nodes iC_words iC_chances iC_unsures iC_slips iC_throneNode iC_saidWorth iC_unit rC_kind rC_parts rC_partNodes rC_weights rC_weightSums rC_toldWorths rC_steps rC_below rC_above rC_unsureWords rC_unsureWorths), (arI rC_kind kC_kind 18 fC_kind), (arI rC_parts kC_parts 18 fC_parts), (arI rC_weightSums kC_weightSums 18 fC_weightSums), (arI rC_toldWorths kC_toldWorths 18 fC_toldWorths), (arI rC_steps kC_steps 18 fC_steps), (arI rC_below kC_below 18 fC_below), (arI rC_above kC_above 18 fC_above)] sz)) 0 0 (va_A [(oc3 oR iR_faultNumber iR_faultPlace iR_tapeSize rR_tape iR_end iR_tokenKind iR_tokenFrom iR_tokenTo iR_tokenName iR_tokenKey iR_tokenWhole oC iR_courtTold rR_names rR_keys), (arI rR_tape kR_tape 900 fR_tape), (arL rR_names kR_names 18 fR_names), (arL rR_keys kR_keys 10 fR_keys), (oc1 oC iC_nodes iC_words iC_chances iC_unsures iC_slips iC_throneNode iC_saidWorth iC_unit rC_kind rC_parts rC_partNodes rC_weights rC_weightSums rC_toldWorths rC_steps rC_below rC_above rC_unsureWords rC_unsureWorths), (arI rC_kind kC_kind 18 fC_kind), (arI rC_parts kC_parts 18 fC_parts), (arI rC_weightSums kC_weightSums 18 fC_weightSums), (arI rC_toldWorths kC_toldWorths 18 fC_toldWorths), (arI rC_steps kC_steps 18 fC_steps), (arI rC_below kC_below 18 fC_below), (arI rC_above kC_above 18 fC_above)] sz) := by
  refine Met.ofW (cc := cX3_readWord) (maxL := 3) (ret := (some .boolean)) pnX3 rfl ?_
  intro p e s m args below meth c s₁ B hml hv
  obtain ⟨rfl, hsz, hP, hK, hD0, hE⟩ := hv
  have hx := B.exec
  have hb := B.bytes
  have hr := B.returns
  have hts : ∀ w ∈ wG, w.before ([.ref oR] : List Value).toArray s = true := fun w h => atoms_spec (ws := Cond.code yX3_readWord cX3_readWord 3 (some .boolean) :: wG) B.pre w (List.mem_cons_of_mem _ h)
  have hown : s.vm.findClass RX3 = some m.cls := own_of B.named rfl
  have hlocks := B.notSynchronized
  subst hsz
  have hD := hD0.self (sz := s.heap.size)
  generalize hAe : va_A [(oc3 oR iR_faultNumber iR_faultPlace iR_tapeSize rR_tape iR_end iR_tokenKind iR_tokenFrom iR_tokenTo iR_tokenName iR_tokenKey iR_tokenWhole oC iR_courtTold rR_names rR_keys), (arI rR_tape kR_tape 900 fR_tape), (arL rR_names kR_names 18 fR_names), (arL rR_keys kR_keys 10 fR_keys), (oc1 oC iC_nodes iC_words iC_chances iC_unsures iC_slips iC_throneNode iC_saidWorth iC_unit rC_kind rC_parts rC_partNodes rC_weights rC_weightSums rC_toldWorths rC_steps rC_below rC_above rC_unsureWords rC_unsureWorths), (arI rC_kind kC_kind 18 fC_kind), (arI rC_parts kC_parts 18 fC_parts), (arI rC_weightSums kC_weightSums 18 fC_weightSums), (arI rC_toldWorths kC_toldWorths 18 fC_toldWorths), (arI rC_steps kC_steps 18 fC_steps), (arI rC_below kC_below 18 fC_below), (arI rC_above kC_above 18 fC_above)] s.heap.size = A at hD hE ⊢
  have hA : ∀ q : Nat, s.heap.size ≤ q → A q := fun q h => by rw [← hAe]; exact Or.inr h
  have hS : va_S A s.heap s.heap [] := va_S.rf
  have hl := lv_entry ([.ref oR]) (n := 3) (Nat.le_of_ble_eq_true rfl)
  rw [lg_entry_eq]
  generalize (lg_sl ([.ref oR]) ++ List.replicate (3 - (lg_sl ([.ref oR])).length) Slot.unset).toArray = ls at hl ⊢
  have hl : lv_has ls 3 [(0, .ref oR)] := hl
  have hG := PX3_readWord_eq iR_faultNumber iR_faultPlace fR_tape iR_end iR_tokenKind iR_tokenFrom iR_tokenTo iR_tokenName iR_tokenKey iR_tokenWhole fR_names fR_keys iC_nodes iC_words iC_chances iC_unit fC_kind fC_parts fC_weightSums fC_toldWorths fC_steps fC_below fC_above
  refine lv_aload_n hx hb dX3_readWord_0 rfl (lv_at hl 0 rfl) ?_
  refine va_get (D := (dC, dI)) (ci := 3) (v := .ref oC) (C := RX3) (T := TX3) (N := 15) hx hb hts inX3 hown hK hP 0 rfl rfl 11 (by decide) (hts _ wd_46) (fun _ h9 => h9) rfl dX3_readWord_1 ?_
  refine lv_iconst (v := 0) hx hb dX3_readWord_4 (by decide) ?_
  have hMs := ml_of hD [false, false, false, false, true, false, false, false, false, false, false, false] (wc := [(oc1 oC iC_nodes iC_words iC_chances iC_unsures iC_slips iC_throneNode iC_saidWorth iC_unit rC_kind rC_parts rC_partNodes rC_weights rC_weightSums rC_toldWorths rC_steps rC_below rC_above rC_unsureWords rC_unsureWorths)]) rfl
  have hFc := va_freeM hD hS hA _ hMs
  refine va_calli (va_runV (As := [.int 0]) (rest := []) ⟨hx, hb, hml, hown, hts⟩ (tX1_hasRoomFor l dC dI _ oC iC_nodes iC_words iC_chances iC_unsures iC_slips iC_throneNode iC_saidWorth iC_unit rC_kind rC_parts rC_partNodes rC_weights rC_weightSums rC_toldWorths rC_steps rC_below rC_above rC_unsureWords rC_unsureWorths 0 b_iC_nodes b_iC_unsures b_iC_throneNode) (cwV 1 hts (wd_V wd_271 wd_272 wd_273 wd_19 (wd_c wd_274)) rfl rfl rfl dv_yX1_hasRoomFor_1 ⟨Nat.le_of_ble_eq_true rfl, Nat.le_of_ble_eq_true rfl⟩) ⟨Pw.fb, recvX1 hK hP (q0 := 4) rfl, fun U hU hW => Pw.to (hP.ms _ hMs) (hD.ms _ hMs) (hK.ms [false, false, false, false, false, false, false, false, false, false] rfl) hE hS hFc hU hW⟩ rfl rfl hl.1 rfl (lv_room (Nat.le_of_ble_eq_true rfl)) dX3_readWord_5 ⟨Nat.le_of_ble_eq_true rfl, Nat.le_of_ble_eq_true rfl⟩) hS (fun q _ h => hFc q h) hFc (fun r u t H locs ht hvm hw hB hz1 hk1 hS => ?_)
  have hru9 := hw.2
  have hw := hw.1
  obtain ⟨hP, hD⟩ := Bw.goN (ws' := [(oc3 oR iR_faultNumber iR_faultPlace iR_tapeSize rR_tape iR_end iR_tokenKind iR_tokenFrom iR_tokenTo iR_tokenName iR_tokenKey iR_tokenWhole oC iR_courtTold rR_names rR_keys), (arI rR_tape kR_tape 900 fR_tape), (arL rR_names kR_names 18 fR_names), (arL rR_keys kR_keys 10 fR_keys), (oc1 oC iC_nodes iC_words iC_chances iC_unsures iC_slips iC_throneNode iC_saidWorth iC_unit rC_kind rC_parts rC_partNodes rC_weights rC_weightSums rC_toldWorths rC_steps rC_below rC_above rC_unsureWords rC_unsureWorths), (arI rC_kind kC_kind 18 fC_kind), (arI rC_parts kC_parts 18 fC_parts), (arI rC_weightSums kC_weightSums 18 fC_weightSums), (arI rC_toldWorths kC_toldWorths 18 fC_toldWorths), (arI rC_steps kC_steps 18 fC_steps), (arI rC_below kC_below 18 fC_below), (arI rC_above kC_above 18 fC_above)]) hB rfl ht hP hD _ hMs hk1 hFc rfl
  clear hz1 hk1 hvm ht hB hMs
  rcases hw.2 with ⟨rfl, hc_1900⟩ | ⟨rfl, hc_1900⟩
  · skip
    have hG := hG.trans (lt_eq hru9.symm)
    have hG := hG.trans (if_pos rfl)
    refine lv_if_ne (tgt := 17) hx hb dX3_readWord_8 (by decide) (fun _ => ?_) (fun c => absurd c (by decide))
    refine lv_aload_n hx hb dX3_readWord_17 rfl (lv_at hl 0 rfl) ?_
    refine va_get (D := (dC, dI)) (ci := 3) (v := .ref oC) (C := RX3) (T := TX3) (N := 15) hx hb hts inX3 hown hK hP 0 rfl rfl 11 (by decide) (hts _ wd_46) (fun _ h9 => h9) rfl dX3_readWord_18 ?_
    refine lv_iconst (v := 0) hx hb dX3_readWord_21 (by decide) ?_
    have hMs := ml_of hD [false, false, false, false, true, true, true, true, true, true, true, true] (wc := [(oc1 oC iC_nodes iC_words iC_chances iC_unsures iC_slips iC_throneNode iC_saidWorth iC_unit rC_kind rC_parts rC_partNodes rC_weights rC_weightSums rC_toldWorths rC_steps rC_below rC_above rC_unsureWords rC_unsureWorths), (arI rC_kind kC_kind 18 fC_kind), (arI rC_parts kC_parts 18 fC_parts), (arI rC_weightSums kC_weightSums 18 fC_weightSums), (arI rC_toldWorths kC_toldWorths 18 fC_toldWorths), (arI rC_steps kC_steps 18 fC_steps), (arI rC_below kC_below 18 fC_below), (arI rC_above kC_above 18 fC_above)]) rfl
    have hFc := va_freeM hD hS hA _ hMs
    refine va_callv (va_runV (As := [.int 0]) (rest := []) ⟨hx, hb, hml, hown, hts⟩ (tX1_beginNode l dC dI _ oC iC_nodes iC_words iC_chances iC_unsures iC_slips iC_throneNode iC_saidWorth iC_unit rC_kind fC_kind kC_kind rC_parts fC_parts kC_parts rC_partNodes rC_weights rC_weightSums fC_weightSums kC_weightSums rC_toldWorths fC_toldWorths kC_toldWorths rC_steps fC_steps kC_steps rC_below fC_below kC_below rC_above fC_above kC_above rC_unsureWords rC_unsureWorths 0 b_iC_nodes b_iC_unsures b_iC_throneNode a_fC_parts) (cwV 1 hts (wd_V wd_275 wd_276 wd_277 wd_19 (wd_c wd_278)) rfl rfl rfl dv_yX1_beginNode_1 ⟨Nat.le_of_ble_eq_true rfl, Nat.le_of_ble_eq_true rfl⟩) ⟨Pw.fb, recvX1 hK hP (q0 := 4) rfl, fun U hU hW => Pw.to (hP.ms _ hMs) (hD.ms _ hMs) (hK.ms [false, false, false, true, true, true, true, true, true, true] rfl) hE hS hFc hU hW⟩ rfl rfl hl.1 rfl (lv_room (Nat.le_of_ble_eq_true rfl)) dX3_readWord_22 ⟨Nat.le_of_ble_eq_true rfl, Nat.le_of_ble_eq_true rfl⟩) hS (fun q _ h => hFc q h) hFc (fun u t H locs ht hvm hw hB hz1 hk1 hS => ?_)
    refine ex_7_2 hB (fun f_1903 f_1904 f_1905 f_1906 f_1907 f_1908 f_1909 a_f_1904 e_f_1903_0 hB => ?_)
    obtain ⟨hP, hD⟩ := Bw.goN (ws' := [(oc3 oR iR_faultNumber iR_faultPlace iR_tapeSize rR_tape iR_end iR_tokenKind iR_tokenFrom iR_tokenTo iR_tokenName iR_tokenKey iR_tokenWhole oC iR_courtTold rR_names rR_keys), (arI rR_tape kR_tape 900 fR_tape), (arL rR_names kR_names 18 fR_names), (arL rR_keys kR_keys 10 fR_keys), (oc1 oC iC_nodes iC_words iC_chances iC_unsures iC_slips iC_throneNode iC_saidWorth iC_unit rC_kind rC_parts rC_partNodes rC_weights rC_weightSums rC_toldWorths rC_steps rC_below rC_above rC_unsureWords rC_unsureWorths), (arI rC_kind kC_kind 18 f_1903), (arI rC_parts kC_parts 18 f_1904), (arI rC_weightSums kC_weightSums 18 f_1905), (arI rC_toldWorths kC_toldWorths 18 f_1906), (arI rC_steps kC_steps 18 f_1907), (arI rC_below kC_below 18 f_1908), (arI rC_above kC_above 18 f_1909)]) hB rfl ht hP hD _ hMs hk1 hFc rfl
    clear hz1 hk1 hvm ht hB hMs
    have hG := hG.trans (un7_eq e_f_1903_0)
    refine lv_aload_n hx hb dX3_readWord_25 rfl (lv_at hl 0 rfl) ?_
    have hMs := ml_of hD [true, true, false, true, false, false, false, false, false, false, false, false] (wc := [(oc3 oR iR_faultNumber iR_faultPlace iR_tapeSize rR_tape iR_end iR_tokenKind iR_tokenFrom iR_tokenTo iR_tokenName iR_tokenKey iR_tokenWhole oC iR_courtTold rR_names rR_keys), (arI rR_tape kR_tape 900 fR_tape), (arL rR_keys kR_keys 10 fR_keys)]) rfl
    have hFc := va_freeM hD hS hA _ hMs
    refine va_callv (va_runV (As := []) (rest := []) ⟨hx, hb, hml, hown, hts⟩ (tX3_nextToken l dC dI _ oR iR_faultNumber iR_faultPlace iR_tapeSize rR_tape fR_tape kR_tape iR_end iR_tokenKind iR_tokenFrom iR_tokenTo iR_tokenName iR_tokenKey iR_tokenWhole oC iR_courtTold rR_names rR_keys fR_keys kR_keys b_iR_tapeSize b_iR_courtTold) (cwV 0 hts (wd_V wd_220 wd_221 wd_222 wd_15 (wd_c wd_223)) rfl rfl rfl dv_yX3_nextToken_0 ⟨Nat.le_of_ble_eq_true rfl, Nat.le_of_ble_eq_true rfl⟩) ⟨Pw.fb, recvX3 hK hP (q0 := 0) rfl, fun U hU hW => Pw.to (hP.ms _ hMs) (hD.ms _ hMs) (hK.ms [true, false, true, false, false, false, false, false, false, false] rfl) hE hS hFc hU hW⟩ rfl rfl hl.1 rfl (lv_room (Nat.le_of_ble_eq_true rfl)) dX3_readWord_26 ⟨Nat.le_of_ble_eq_true rfl, Nat.le_of_ble_eq_true rfl⟩) hS (fun q _ h => hFc q h) hFc (fun u t H locs ht hvm hw hB hz1 hk1 hS => ?_)
    refine ex_6_1 hB (fun x_1910 x_1911 x_1912 y_1913 x_1914 x_1915 e_x_1910_0 hB => ?_)
    obtain ⟨hP, hD⟩ := Bw.goN (ws' := [(oc3 oR iR_faultNumber iR_faultPlace iR_tapeSize rR_tape iR_end x_1910 x_1911 x_1912 y_1913 x_1914 x_1915 oC iR_courtTold rR_names rR_keys), (arI rR_tape kR_tape 900 fR_tape), (arL rR_names kR_names 18 fR_names), (arL rR_keys kR_keys 10 fR_keys), (oc1 oC iC_nodes iC_words iC_chances iC_unsures iC_slips iC_throneNode iC_saidWorth iC_unit rC_kind rC_parts rC_partNodes rC_weights rC_weightSums rC_toldWorths rC_steps rC_below rC_above rC_unsureWords rC_unsureWorths), (arI rC_kind kC_kind 18 f_1903), (arI rC_parts kC_parts 18 f_1904), (arI rC_weightSums kC_weightSums 18 f_1905), (arI rC_toldWorths kC_toldWorths 18 f_1906), (arI rC_steps kC_steps 18 f_1907), (arI rC_below kC_below 18 f_1908), (arI rC_above kC_above 18 f_1909)]) hB rfl ht hP hD _ hMs hk1 hFc rfl
    clear hz1 hk1 hvm ht hB hMs
    have hG := hG.trans (un6_eq e_x_1910_0)
    refine lv_aload_n hx hb dX3_readWord_29 rfl (lv_at hl 0 rfl) ?_
    have hMs := ml_of hD [true, false, true, false, true, false, false, false, false, false, false, false] (wc := [(oc3 oR iR_faultNumber iR_faultPlace iR_tapeSize rR_tape iR_end x_1910 x_1911 x_1912 y_1913 x_1914 x_1915 oC iR_courtTold rR_names rR_keys), (arL rR_names kR_names 18 fR_names), (oc1 oC iC_nodes iC_words iC_chances iC_unsures iC_slips iC_throneNode iC_saidWorth iC_unit rC_kind rC_parts rC_partNodes rC_weights rC_weightSums rC_toldWorths rC_steps rC_below rC_above rC_unsureWords rC_unsureWorths)]) rfl
    have hFc := va_freeM hD hS hA _ hMs
    refine va_calli (va_runV (As := []) (rest := []) ⟨hx, hb, hml, hown, hts⟩ (tX3_isNewName l dC dI _ oR iR_faultNumber iR_faultPlace iR_tapeSize rR_tape iR_end x_1910 x_1911 x_1912 y_1913 x_1914 x_1915 oC iR_courtTold rR_names fR_names kR_names rR_keys iC_nodes iC_words iC_chances iC_unsures iC_slips iC_throneNode iC_saidWorth iC_unit rC_kind rC_parts rC_partNodes rC_weights rC_weightSums rC_toldWorths rC_steps rC_below rC_above rC_unsureWords rC_unsureWorths b_iR_tapeSize b_iR_courtTold b_iC_nodes b_iC_unsures b_iC_throneNode) (cwV 0 hts (wd_V wd_279 wd_280 wd_281 wd_15 (wd_c wd_282)) rfl rfl rfl dv_yX3_isNewName_0 ⟨Nat.le_of_ble_eq_true rfl, Nat.le_of_ble_eq_true rfl⟩) ⟨Pw.fb, recvX3 hK hP (q0 := 0) rfl, fun U hU hW => Pw.to (hP.ms _ hMs) (hD.ms _ hMs) (hK.ms [false, true, false, false, false, false, false, false, false, false] rfl) hE hS hFc hU hW⟩ rfl rfl hl.1 rfl (lv_room (Nat.le_of_ble_eq_true rfl)) dX3_readWord_30 ⟨Nat.le_of_ble_eq_true rfl, Nat.le_of_ble_eq_true rfl⟩) hS (fun q _ h => hFc q h) hFc (fun r u t H locs ht hvm hw hB hz1 hk1 hS => ?_)
    have hru9 := hw.2
    have hw := hw.1
    refine ex_2_1 hB (fun x_1916 x_1917 e_x_1916_0 hB => ?_)
    obtain ⟨hP, hD⟩ := Bw.goN (ws' := [(oc3 oR x_1916 x_1917 iR_tapeSize rR_tape iR_end x_1910 x_1911 x_1912 y_1913 x_1914 x_1915 oC iR_courtTold rR_names rR_keys), (arI rR_tape kR_tape 900 fR_tape), (arL rR_names kR_names 18 fR_names), (arL rR_keys kR_keys 10 fR_keys), (oc1 oC iC_nodes iC_words iC_chances iC_unsures iC_slips iC_throneNode iC_saidWorth iC_unit rC_kind rC_parts rC_partNodes rC_weights rC_weightSums rC_toldWorths rC_steps rC_below rC_above rC_unsureWords rC_unsureWorths), (arI rC_kind kC_kind 18 f_1903), (arI rC_parts kC_parts 18 f_1904), (arI rC_weightSums kC_weightSums 18 f_1905), (arI rC_toldWorths kC_toldWorths 18 f_1906), (arI rC_steps kC_steps 18 f_1907), (arI rC_below kC_below 18 f_1908), (arI rC_above kC_above 18 f_1909)]) hB rfl ht hP hD _ hMs hk1 hFc rfl
    clear hz1 hk1 hvm ht hB hMs
    rw [← hru9] at e_x_1916_0
    obtain ⟨x_1918, rfl⟩ : ∃ z, z = r := ⟨_, rfl⟩
    have hG := hG.trans (un3_eq e_x_1916_0)
    have bx_1918 := hw.1
    have dx_1918 := bz_tb bx_1918
    refine lv_if_ne (tgt := 38) hx hb dX3_readWord_33 (by decide) (fun c_1919 => ?_) (fun c_1919 => ?_)
    · skip
      have hG := hG.trans (if_neg c_1919)
      have gc_1919 := ti_ne c_1919 rfl kc_0
      refine lv_aload_n hx hb dX3_readWord_38 rfl (lv_at hl 0 rfl) ?_
      refine va_get (D := (dC, dI)) (ci := 3) (v := .long y_1913) (C := RX3) (T := TX3) (N := 15) hx hb hts inX3 hown hK hP 0 rfl rfl 8 (by decide) (hts _ wd_237) (fun _ h9 => h9) rfl dX3_readWord_39 ?_
      refine lv_lstore_n (lv' := [(1, .long y_1913), (0, .ref oR)]) hx hb dX3_readWord_42 rfl hl (by decide) rfl (fun ls hl => ?_)
      refine lv_aload_n hx hb dX3_readWord_43 rfl (lv_at hl 1 rfl) ?_
      have hMs := ml_of hD [true, true, false, true, false, false, false, false, false, false, false, false] (wc := [(oc3 oR x_1916 x_1917 iR_tapeSize rR_tape iR_end x_1910 x_1911 x_1912 y_1913 x_1914 x_1915 oC iR_courtTold rR_names rR_keys), (arI rR_tape kR_tape 900 fR_tape), (arL rR_keys kR_keys 10 fR_keys)]) rfl
      have hFc := va_freeM hD hS hA _ hMs
      refine va_callv (va_runV (As := []) (rest := []) ⟨hx, hb, hml, hown, hts⟩ (tX3_nextToken l dC dI _ oR x_1916 x_1917 iR_tapeSize rR_tape fR_tape kR_tape iR_end x_1910 x_1911 x_1912 y_1913 x_1914 x_1915 oC iR_courtTold rR_names rR_keys fR_keys kR_keys b_iR_tapeSize b_iR_courtTold) (cwV 0 hts (wd_V wd_220 wd_221 wd_222 wd_15 (wd_c wd_223)) rfl rfl rfl dv_yX3_nextToken_0 ⟨Nat.le_of_ble_eq_true rfl, Nat.le_of_ble_eq_true rfl⟩) ⟨Pw.fb, recvX3 hK hP (q0 := 0) rfl, fun U hU hW => Pw.to (hP.ms _ hMs) (hD.ms _ hMs) (hK.ms [true, false, true, false, false, false, false, false, false, false] rfl) hE hS hFc hU hW⟩ rfl rfl hl.1 rfl (lv_room (Nat.le_of_ble_eq_true rfl)) dX3_readWord_44 ⟨Nat.le_of_ble_eq_true rfl, Nat.le_of_ble_eq_true rfl⟩) hS (fun q _ h => hFc q h) hFc (fun u t H locs ht hvm hw hB hz1 hk1 hS => ?_)
      refine ex_6_1 hB (fun x_1920 x_1921 x_1922 y_1923 x_1924 x_1925 e_x_1920_0 hB => ?_)
      obtain ⟨hP, hD⟩ := Bw.goN (ws' := [(oc3 oR x_1916 x_1917 iR_tapeSize rR_tape iR_end x_1920 x_1921 x_1922 y_1923 x_1924 x_1925 oC iR_courtTold rR_names rR_keys), (arI rR_tape kR_tape 900 fR_tape), (arL rR_names kR_names 18 fR_names), (arL rR_keys kR_keys 10 fR_keys), (oc1 oC iC_nodes iC_words iC_chances iC_unsures iC_slips iC_throneNode iC_saidWorth iC_unit rC_kind rC_parts rC_partNodes rC_weights rC_weightSums rC_toldWorths rC_steps rC_below rC_above rC_unsureWords rC_unsureWorths), (arI rC_kind kC_kind 18 f_1903), (arI rC_parts kC_parts 18 f_1904), (arI rC_weightSums kC_weightSums 18 f_1905), (arI rC_toldWorths kC_toldWorths 18 f_1906), (arI rC_steps kC_steps 18 f_1907), (arI rC_below kC_below 18 f_1908), (arI rC_above kC_above 18 f_1909)]) hB rfl ht hP hD _ hMs hk1 hFc rfl
      clear hz1 hk1 hvm ht hB hMs
      have hG := hG.trans (un6_eq e_x_1920_0)
      refine lv_aload_n hx hb dX3_readWord_47 rfl (lv_at hl 1 rfl) ?_
      refine va_get (D := (dC, dI)) (ci := 3) (v := .int x_1924) (C := RX3) (T := TX3) (N := 15) hx hb hts inX3 hown hK hP 0 rfl rfl 9 (by decide) (hts _ wd_225) (fun _ h9 => h9) rfl dX3_readWord_48 ?_
      refine lv_bipush (v := 9) hx hb dX3_readWord_51 (by decide) ?_
      refine lv_icmp_eq (tgt := 62) hx hb dX3_readWord_53 (by decide) (fun c_1926 => ?_) (fun c_1926 => ?_)
      · skip
        have hG := hG.trans (if_pos c_1926)
        have gc_1926 := ti_eq c_1926 rfl kc_9
        refine lv_aload_n hx hb dX3_readWord_62 rfl (lv_at hl 1 rfl) ?_
        have hMs := ml_of hD [true, true, false, true, false, false, false, false, false, false, false, false] (wc := [(oc3 oR x_1916 x_1917 iR_tapeSize rR_tape iR_end x_1920 x_1921 x_1922 y_1923 x_1924 x_1925 oC iR_courtTold rR_names rR_keys), (arI rR_tape kR_tape 900 fR_tape), (arL rR_keys kR_keys 10 fR_keys)]) rfl
        have hFc := va_freeM hD hS hA _ hMs
        refine va_callv (va_runV (As := []) (rest := []) ⟨hx, hb, hml, hown, hts⟩ (tX3_nextToken l dC dI _ oR x_1916 x_1917 iR_tapeSize rR_tape fR_tape kR_tape iR_end x_1920 x_1921 x_1922 y_1923 x_1924 x_1925 oC iR_courtTold rR_names rR_keys fR_keys kR_keys b_iR_tapeSize b_iR_courtTold) (cwV 0 hts (wd_V wd_220 wd_221 wd_222 wd_15 (wd_c wd_223)) rfl rfl rfl dv_yX3_nextToken_0 ⟨Nat.le_of_ble_eq_true rfl, Nat.le_of_ble_eq_true rfl⟩) ⟨Pw.fb, recvX3 hK hP (q0 := 0) rfl, fun U hU hW => Pw.to (hP.ms _ hMs) (hD.ms _ hMs) (hK.ms [true, false, true, false, false, false, false, false, false, false] rfl) hE hS hFc hU hW⟩ rfl rfl hl.1 rfl (lv_room (Nat.le_of_ble_eq_true rfl)) dX3_readWord_63 ⟨Nat.le_of_ble_eq_true rfl, Nat.le_of_ble_eq_true rfl⟩) hS (fun q _ h => hFc q h) hFc (fun u t H locs ht hvm hw hB hz1 hk1 hS => ?_)
        refine ex_6_1 hB (fun x_1927 x_1928 x_1929 y_1930 x_1931 x_1932 e_x_1927_0 hB => ?_)
        obtain ⟨hP, hD⟩ := Bw.goN (ws' := [(oc3 oR x_1916 x_1917 iR_tapeSize rR_tape iR_end x_1927 x_1928 x_1929 y_1930 x_1931 x_1932 oC iR_courtTold rR_names rR_keys), (arI rR_tape kR_tape 900 fR_tape), (arL rR_names kR_names 18 fR_names), (arL rR_keys kR_keys 10 fR_keys), (oc1 oC iC_nodes iC_words iC_chances iC_unsures iC_slips iC_throneNode iC_saidWorth iC_unit rC_kind rC_parts rC_partNodes rC_weights rC_weightSums rC_toldWorths rC_steps rC_below rC_above rC_unsureWords rC_unsureWorths), (arI rC_kind kC_kind 18 f_1903), (arI rC_parts kC_parts 18 f_1904), (arI rC_weightSums kC_weightSums 18 f_1905), (arI rC_toldWorths kC_toldWorths 18 f_1906), (arI rC_steps kC_steps 18 f_1907), (arI rC_below kC_below 18 f_1908), (arI rC_above kC_above 18 f_1909)]) hB rfl ht hP hD _ hMs hk1 hFc rfl
        clear hz1 hk1 hvm ht hB hMs
        have hG := hG.trans (un6_eq e_x_1927_0)
        refine lv_aload_n hx hb dX3_readWord_66 rfl (lv_at hl 1 rfl) ?_
        refine lv_iconst (v := 0) hx hb dX3_readWord_67 (by decide) ?_
        refine lv_bipush (v := 99) hx hb dX3_readWord_68 (by decide) ?_
        have hMs := ml_of hD [true, false, false, false, false, false, false, false, false, false, false, false] (wc := [(oc3 oR x_1916 x_1917 iR_tapeSize rR_tape iR_end x_1927 x_1928 x_1929 y_1930 x_1931 x_1932 oC iR_courtTold rR_names rR_keys)]) rfl
        have hFc := va_freeM hD hS hA _ hMs
        refine va_calli (va_runV (As := [.int 0, .int 99]) (rest := []) ⟨hx, hb, hml, hown, hts⟩ (tX3_isWholeWithin l dC dI _ oR x_1916 x_1917 iR_tapeSize rR_tape iR_end x_1927 x_1928 x_1929 y_1930 x_1931 x_1932 oC iR_courtTold rR_names rR_keys 0 99 b_iR_tapeSize b_iR_courtTold) (cwV 2 hts (wd_V wd_263 wd_264 wd_265 wd_15 (wd_c wd_266)) rfl rfl rfl dv_yX3_isWholeWithin_2 ⟨Nat.le_of_ble_eq_true rfl, Nat.le_of_ble_eq_true rfl⟩) ⟨Pw.fb, recvX3 hK hP (q0 := 0) rfl, fun U hU hW => Pw.to (hP.ms _ hMs) (hD.ms _ hMs) (hK.ms [false, false, false, false, false, false, false, false, false, false] rfl) hE hS hFc hU hW⟩ rfl rfl hl.1 rfl (lv_room (Nat.le_of_ble_eq_true rfl)) dX3_readWord_70 ⟨Nat.le_of_ble_eq_true rfl, Nat.le_of_ble_eq_true rfl⟩) hS (fun q _ h => hFc q h) hFc (fun r u t H locs ht hvm hw hB hz1 hk1 hS => ?_)
        have hru9 := hw.2
        have hw := hw.1
        refine ex_2_1 hB (fun x_1933 x_1934 e_x_1933_0 hB => ?_)
        obtain ⟨hP, hD⟩ := Bw.goN (ws' := [(oc3 oR x_1933 x_1934 iR_tapeSize rR_tape iR_end x_1927 x_1928 x_1929 y_1930 x_1931 x_1932 oC iR_courtTold rR_names rR_keys), (arI rR_tape kR_tape 900 fR_tape), (arL rR_names kR_names 18 fR_names), (arL rR_keys kR_keys 10 fR_keys), (oc1 oC iC_nodes iC_words iC_chances iC_unsures iC_slips iC_throneNode iC_saidWorth iC_unit rC_kind rC_parts rC_partNodes rC_weights rC_weightSums rC_toldWorths rC_steps rC_below rC_above rC_unsureWords rC_unsureWorths), (arI rC_kind kC_kind 18 f_1903), (arI rC_parts kC_parts 18 f_1904), (arI rC_weightSums kC_weightSums 18 f_1905), (arI rC_toldWorths kC_toldWorths 18 f_1906), (arI rC_steps kC_steps 18 f_1907), (arI rC_below kC_below 18 f_1908), (arI rC_above kC_above 18 f_1909)]) hB rfl ht hP hD _ hMs hk1 hFc rfl
        clear hz1 hk1 hvm ht hB hMs
        rw [← hru9] at e_x_1933_0
        obtain ⟨x_1935, rfl⟩ : ∃ z, z = r := ⟨_, rfl⟩
        have hG := hG.trans (un3_eq e_x_1933_0)
        have bx_1935 := hw.1
        have dx_1935 := bz_tb bx_1935
        refine lv_if_ne (tgt := 78) hx hb dX3_readWord_73 (by decide) (fun c_1936 => ?_) (fun c_1936 => ?_)
        · skip
          have hG := hG.trans (if_neg c_1936)
          have gc_1936 := ti_ne c_1936 rfl kc_0
          refine lv_aload_n hx hb dX3_readWord_78 rfl (lv_at hl 1 rfl) ?_
          refine lv_lload_n hx hb dX3_readWord_79 rfl (lv_at hl 0 rfl) ?_
          refine lv_aload_n hx hb dX3_readWord_80 rfl (lv_at hl 1 rfl) ?_
          refine va_get (D := (dC, dI)) (ci := 3) (v := .int x_1932) (C := RX3) (T := TX3) (N := 15) hx hb hts inX3 hown hK hP 0 rfl rfl 10 (by decide) (hts _ wd_245) (fun _ h9 => h9) rfl dX3_readWord_81 ?_
          have hMs := ml_of hD [true, false, true, false, true, true, false, true, true, false, false, false] (wc := [(oc3 oR x_1933 x_1934 iR_tapeSize rR_tape iR_end x_1927 x_1928 x_1929 y_1930 x_1931 x_1932 oC iR_courtTold rR_names rR_keys), (arL rR_names kR_names 18 fR_names), (oc1 oC iC_nodes iC_words iC_chances iC_unsures iC_slips iC_throneNode iC_saidWorth iC_unit rC_kind rC_parts rC_partNodes rC_weights rC_weightSums rC_toldWorths rC_steps rC_below rC_above rC_unsureWords rC_unsureWorths), (arI rC_kind kC_kind 18 f_1903), (arI rC_weightSums kC_weightSums 18 f_1905), (arI rC_toldWorths kC_toldWorths 18 f_1906)]) rfl
          have hFc := va_freeM hD hS hA _ hMs
          refine va_callv (va_runV (As := [.long y_1913, .int x_1932]) (rest := []) ⟨hx, hb, hml, hown, hts⟩ (tX3_endNode l dC dI _ oR x_1933 x_1934 iR_tapeSize rR_tape iR_end x_1927 x_1928 x_1929 y_1930 x_1931 x_1932 oC iR_courtTold rR_names fR_names kR_names rR_keys iC_nodes iC_words iC_chances iC_unsures iC_slips iC_throneNode iC_saidWorth iC_unit rC_kind f_1903 kC_kind rC_parts rC_partNodes rC_weights rC_weightSums f_1905 kC_weightSums rC_toldWorths f_1906 kC_toldWorths rC_steps rC_below rC_above rC_unsureWords rC_unsureWorths y_1913 x_1932 b_iR_tapeSize b_iR_courtTold b_iC_nodes b_iC_unsures b_iC_throneNode) (cwV 2 hts (wd_V wd_288 wd_289 wd_290 wd_15 (wd_c wd_291)) rfl rfl rfl dv_yX3_endNode_2 ⟨Nat.le_of_ble_eq_true rfl, Nat.le_of_ble_eq_true rfl⟩) ⟨Pw.fb, recvX3 hK hP (q0 := 0) rfl, fun U hU hW => Pw.to (hP.ms _ hMs) (hD.ms _ hMs) (hK.ms [false, true, false, true, false, true, true, false, false, false] rfl) hE hS hFc hU hW⟩ rfl rfl hl.1 rfl (lv_room (Nat.le_of_ble_eq_true rfl)) dX3_readWord_84 ⟨Nat.le_of_ble_eq_true rfl, Nat.le_of_ble_eq_true rfl⟩) hS (fun q _ h => hFc q h) hFc (fun u t H locs ht hvm hw hB hz1 hk1 hS => ?_)
          refine ex_6_2 hB (fun f_1937 x_1938 x_1939 x_1940 x_1941 f_1942 b_x_1938 e_f_1937_0 hB => ?_)
          obtain ⟨hP, hD⟩ := Bw.goN (ws' := [(oc3 oR x_1933 x_1934 iR_tapeSize rR_tape iR_end x_1927 x_1928 x_1929 y_1930 x_1931 x_1932 oC iR_courtTold rR_names rR_keys), (arI rR_tape kR_tape 900 fR_tape), (arL rR_names kR_names 18 f_1937), (arL rR_keys kR_keys 10 fR_keys), (oc1 oC x_1938 x_1939 x_1940 iC_unsures iC_slips iC_throneNode iC_saidWorth x_1941 rC_kind rC_parts rC_partNodes rC_weights rC_weightSums rC_toldWorths rC_steps rC_below rC_above rC_unsureWords rC_unsureWorths), (arI rC_kind kC_kind 18 f_1903), (arI rC_parts kC_parts 18 f_1904), (arI rC_weightSums kC_weightSums 18 f_1905), (arI rC_toldWorths kC_toldWorths 18 f_1942), (arI rC_steps kC_steps 18 f_1907), (arI rC_below kC_below 18 f_1908), (arI rC_above kC_above 18 f_1909)]) hB rfl ht hP hD _ hMs hk1 hFc rfl
          clear hz1 hk1 hvm ht hB hMs
          have hG := hG.trans (un6_eq e_f_1937_0)
          refine lv_aload_n hx hb dX3_readWord_87 rfl (lv_at hl 1 rfl) ?_
          have hMs := ml_of hD [true, true, false, true, false, false, false, false, false, false, false, false] (wc := [(oc3 oR x_1933 x_1934 iR_tapeSize rR_tape iR_end x_1927 x_1928 x_1929 y_1930 x_1931 x_1932 oC iR_courtTold rR_names rR_keys), (arI rR_tape kR_tape 900 fR_tape), (arL rR_keys kR_keys 10 fR_keys)]) rfl
          have hFc := va_freeM hD hS hA _ hMs
          refine va_callv (va_runV (As := []) (rest := []) ⟨hx, hb, hml, hown, hts⟩ (tX3_nextToken l dC dI _ oR x_1933 x_1934 iR_tapeSize rR_tape fR_tape kR_tape iR_end x_1927 x_1928 x_1929 y_1930 x_1931 x_1932 oC iR_courtTold rR_names rR_keys fR_keys kR_keys b_iR_tapeSize b_iR_courtTold) (cwV 0 hts (wd_V wd_220 wd_221 wd_222 wd_15 (wd_c wd_223)) rfl rfl rfl dv_yX3_nextToken_0 ⟨Nat.le_of_ble_eq_true rfl, Nat.le_of_ble_eq_true rfl⟩) ⟨Pw.fb, recvX3 hK hP (q0 := 0) rfl, fun U hU hW => Pw.to (hP.ms _ hMs) (hD.ms _ hMs) (hK.ms [true, false, true, false, false, false, false, false, false, false] rfl) hE hS hFc hU hW⟩ rfl rfl hl.1 rfl (lv_room (Nat.le_of_ble_eq_true rfl)) dX3_readWord_88 ⟨Nat.le_of_ble_eq_true rfl, Nat.le_of_ble_eq_true rfl⟩) hS (fun q _ h => hFc q h) hFc (fun u t H locs ht hvm hw hB hz1 hk1 hS => ?_)
          refine ex_6_1 hB (fun x_1943 x_1944 x_1945 y_1946 x_1947 x_1948 e_x_1943_0 hB => ?_)
          obtain ⟨hP, hD⟩ := Bw.goN (ws' := [(oc3 oR x_1933 x_1934 iR_tapeSize rR_tape iR_end x_1943 x_1944 x_1945 y_1946 x_1947 x_1948 oC iR_courtTold rR_names rR_keys), (arI rR_tape kR_tape 900 fR_tape), (arL rR_names kR_names 18 f_1937), (arL rR_keys kR_keys 10 fR_keys), (oc1 oC x_1938 x_1939 x_1940 iC_unsures iC_slips iC_throneNode iC_saidWorth x_1941 rC_kind rC_parts rC_partNodes rC_weights rC_weightSums rC_toldWorths rC_steps rC_below rC_above rC_unsureWords rC_unsureWorths), (arI rC_kind kC_kind 18 f_1903), (arI rC_parts kC_parts 18 f_1904), (arI rC_weightSums kC_weightSums 18 f_1905), (arI rC_toldWorths kC_toldWorths 18 f_1942), (arI rC_steps kC_steps 18 f_1907), (arI rC_below kC_below 18 f_1908), (arI rC_above kC_above 18 f_1909)]) hB rfl ht hP hD _ hMs hk1 hFc rfl
          clear hz1 hk1 hvm ht hB hMs
          have hG := hG.trans (un6_eq e_x_1943_0)
          refine lv_iconst (v := 1) hx hb dX3_readWord_91 (by decide) ?_
          exact wq_z (v := 1) hx hb hr rfl (cI 1) ⟨⟨Or.inr rfl, trivial⟩, (cI_of 1)⟩ (fun t ht hW => ⟨x_1933, x_1934, x_1943, x_1944, x_1945, y_1946, x_1947, x_1948, f_1937, x_1938, x_1939, x_1940, x_1941, f_1903, f_1904, f_1905, f_1942, f_1907, f_1908, f_1909, b_x_1938, a_f_1904, (cI_tup hG), Bw.to hP hD hK ht hW⟩) hS dX3_readWord_92 hlocks
        · skip
          have hG := hG.trans (if_pos c_1936)
          have gc_1936 := ti_eq c_1936 rfl kc_0
          refine lv_iconst (v := 0) hx hb dX3_readWord_76 (by decide) ?_
          exact wq_z (v := 0) hx hb hr rfl (cI 0) ⟨⟨Or.inl rfl, trivial⟩, (cI_of 0)⟩ (fun t ht hW => ⟨x_1933, x_1934, x_1927, x_1928, x_1929, y_1930, x_1931, x_1932, fR_names, iC_nodes, iC_words, iC_chances, iC_unit, f_1903, f_1904, f_1905, f_1906, f_1907, f_1908, f_1909, b_iC_nodes, a_f_1904, (cI_tup hG), Bw.to hP hD hK ht hW⟩) hS dX3_readWord_77 hlocks
      · skip
        have hG := hG.trans (if_neg c_1926)
        have gc_1926 := ti_ne c_1926 rfl kc_9
        refine lv_aload_n hx hb dX3_readWord_56 rfl (lv_at hl 1 rfl) ?_
        refine lv_iconst (v := 1) hx hb dX3_readWord_57 (by decide) ?_
        have hMs := ml_of hD [true, false, false, false, false, false, false, false, false, false, false, false] (wc := [(oc3 oR x_1916 x_1917 iR_tapeSize rR_tape iR_end x_1920 x_1921 x_1922 y_1923 x_1924 x_1925 oC iR_courtTold rR_names rR_keys)]) rfl
        have hFc := va_freeM hD hS hA _ hMs
        refine va_calli (va_runV (As := [.int 1]) (rest := []) ⟨hx, hb, hml, hown, hts⟩ (tX3_faulty l dC dI _ oR x_1916 x_1917 iR_tapeSize rR_tape iR_end x_1920 x_1921 x_1922 y_1923 x_1924 x_1925 oC iR_courtTold rR_names rR_keys 1 b_iR_tapeSize b_iR_courtTold) (cwV 1 hts (wd_V wd_254 wd_255 wd_256 wd_15 (wd_c wd_257)) rfl rfl rfl dv_yX3_faulty_1 ⟨Nat.le_of_ble_eq_true rfl, Nat.le_of_ble_eq_true rfl⟩) ⟨Pw.fb, recvX3 hK hP (q0 := 0) rfl, fun U hU hW => Pw.to (hP.ms _ hMs) (hD.ms _ hMs) (hK.ms [false, false, false, false, false, false, false, false, false, false] rfl) hE hS hFc hU hW⟩ rfl rfl hl.1 rfl (lv_room (Nat.le_of_ble_eq_true rfl)) dX3_readWord_58 ⟨Nat.le_of_ble_eq_true rfl, Nat.le_of_ble_eq_true rfl⟩) hS (fun q _ h => hFc q h) hFc (fun r u t H locs ht hvm hw hB hz1 hk1 hS => ?_)
        have hru9 := hw.2
        have hw := hw.1
        refine ex_2_1 hB (fun x_1949 x_1950 e_x_1949_0 hB => ?_)
        obtain ⟨hP, hD⟩ := Bw.goN (ws' := [(oc3 oR x_1949 x_1950 iR_tapeSize rR_tape iR_end x_1920 x_1921 x_1922 y_1923 x_1924 x_1925 oC iR_courtTold rR_names rR_keys), (arI rR_tape kR_tape 900 fR_tape), (arL rR_names kR_names 18 fR_names), (arL rR_keys kR_keys 10 fR_keys), (oc1 oC iC_nodes iC_words iC_chances iC_unsures iC_slips iC_throneNode iC_saidWorth iC_unit rC_kind rC_parts rC_partNodes rC_weights rC_weightSums rC_toldWorths rC_steps rC_below rC_above rC_unsureWords rC_unsureWorths), (arI rC_kind kC_kind 18 f_1903), (arI rC_parts kC_parts 18 f_1904), (arI rC_weightSums kC_weightSums 18 f_1905), (arI rC_toldWorths kC_toldWorths 18 f_1906), (arI rC_steps kC_steps 18 f_1907), (arI rC_below kC_below 18 f_1908), (arI rC_above kC_above 18 f_1909)]) hB rfl ht hP hD _ hMs hk1 hFc rfl
        clear hz1 hk1 hvm ht hB hMs
        rw [← hru9] at e_x_1949_0
        rcases hw.2 with ⟨rfl, hc_1951⟩
        · skip
          have hG := hG.trans (un3_eq e_x_1949_0)
          exact wq_z (v := 0) hx hb hr rfl (cI 0) ⟨⟨Or.inl rfl, trivial⟩, (cI_of 0)⟩ (fun t ht hW => ⟨x_1949, x_1950, x_1920, x_1921, x_1922, y_1923, x_1924, x_1925, fR_names, iC_nodes, iC_words, iC_chances, iC_unit, f_1903, f_1904, f_1905, f_1906, f_1907, f_1908, f_1909, b_iC_nodes, a_f_1904, (cI_tup hG), Bw.to hP hD hK ht hW⟩) hS dX3_readWord_61 hlocks
    · skip
      have hG := hG.trans (if_pos c_1919)
      have gc_1919 := ti_eq c_1919 rfl kc_0
      refine lv_iconst (v := 0) hx hb dX3_readWord_36 (by decide) ?_
      exact wq_z (v := 0) hx hb hr rfl (cI 0) ⟨⟨Or.inl rfl, trivial⟩, (cI_of 0)⟩ (fun t ht hW => ⟨x_1916, x_1917, x_1910, x_1911, x_1912, y_1913, x_1914, x_1915, fR_names, iC_nodes, iC_words, iC_chances, iC_unit, f_1903, f_1904, f_1905, f_1906, f_1907, f_1908, f_1909, b_iC_nodes, a_f_1904, (cI_tup hG), Bw.to hP hD hK ht hW⟩) hS dX3_readWord_37 hlocks
  · skip
    have hG := hG.trans (lt_eq hru9.symm)
    have hG := hG.trans (if_neg (by decide))
    refine lv_if_ne (tgt := 17) hx hb dX3_readWord_8 (by decide) (fun c => absurd c (by decide)) (fun _ => ?_)
    refine lv_aload_n hx hb dX3_readWord_11 rfl (lv_at hl 0 rfl) ?_
    refine lv_iconst (v := 5) hx hb dX3_readWord_12 (by decide) ?_
    have hMs := ml_of hD [true, false, false, false, false, false, false, false, false, false, false, false] (wc := [(oc3 oR iR_faultNumber iR_faultPlace iR_tapeSize rR_tape iR_end iR_tokenKind iR_tokenFrom iR_tokenTo iR_tokenName iR_tokenKey iR_tokenWhole oC iR_courtTold rR_names rR_keys)]) rfl
    have hFc := va_freeM hD hS hA _ hMs
    refine va_calli (va_runV (As := [.int 5]) (rest := []) ⟨hx, hb, hml, hown, hts⟩ (tX3_faulty l dC dI _ oR iR_faultNumber iR_faultPlace iR_tapeSize rR_tape iR_end iR_tokenKind iR_tokenFrom iR_tokenTo iR_tokenName iR_tokenKey iR_tokenWhole oC iR_courtTold rR_names rR_keys 5 b_iR_tapeSize b_iR_courtTold) (cwV 1 hts (wd_V wd_254 wd_255 wd_256 wd_15 (wd_c wd_257)) rfl rfl rfl dv_yX3_faulty_1 ⟨Nat.le_of_ble_eq_true rfl, Nat.le_of_ble_eq_true rfl⟩) ⟨Pw.fb, recvX3 hK hP (q0 := 0) rfl, fun U hU hW => Pw.to (hP.ms _ hMs) (hD.ms _ hMs) (hK.ms [false, false, false, false, false, false, false, false, false, false] rfl) hE hS hFc hU hW⟩ rfl rfl hl.1 rfl (lv_room (Nat.le_of_ble_eq_true rfl)) dX3_readWord_13 ⟨Nat.le_of_ble_eq_true rfl, Nat.le_of_ble_eq_true rfl⟩) hS (fun q _ h => hFc q h) hFc (fun r u t H locs ht hvm hw hB hz1 hk1 hS => ?_)
    have hru9 := hw.2
    have hw := hw.1
    refine ex_2_1 hB (fun x_1954 x_1955 e_x_1954_0 hB => ?_)
    obtain ⟨hP, hD⟩ := Bw.goN (ws' := [(oc3 oR x_1954 x_1955 iR_tapeSize rR_tape iR_end iR_tokenKind iR_tokenFrom iR_tokenTo iR_tokenName iR_tokenKey iR_tokenWhole oC iR_courtTold rR_names rR_keys), (arI rR_tape kR_tape 900 fR_tape), (arL rR_names kR_names 18 fR_names), (arL rR_keys kR_keys 10 fR_keys), (oc1 oC iC_nodes iC_words iC_chances iC_unsures iC_slips iC_throneNode iC_saidWorth iC_unit rC_kind rC_parts rC_partNodes rC_weights rC_weightSums rC_toldWorths rC_steps rC_below rC_above rC_unsureWords rC_unsureWorths), (arI rC_kind kC_kind 18 fC_kind), (arI rC_parts kC_parts 18 fC_parts), (arI rC_weightSums kC_weightSums 18 fC_weightSums), (arI rC_toldWorths kC_toldWorths 18 fC_toldWorths), (arI rC_steps kC_steps 18 fC_steps), (arI rC_below kC_below 18 fC_below), (arI rC_above kC_above 18 fC_above)]) hB rfl ht hP hD _ hMs hk1 hFc rfl
    clear hz1 hk1 hvm ht hB hMs
    rw [← hru9] at e_x_1954_0
    rcases hw.2 with ⟨rfl, hc_1956⟩
    · skip
      have hG := hG.trans (un3_eq e_x_1954_0)
      exact wq_z (v := 0) hx hb hr rfl (cI 0) ⟨⟨Or.inl rfl, trivial⟩, (cI_of 0)⟩ (fun t ht hW => ⟨x_1954, x_1955, iR_tokenKind, iR_tokenFrom, iR_tokenTo, iR_tokenName, iR_tokenKey, iR_tokenWhole, fR_names, iC_nodes, iC_words, iC_chances, iC_unit, fC_kind, fC_parts, fC_weightSums, fC_toldWorths, fC_steps, fC_below, fC_above, b_iC_nodes, a_fC_parts, (cI_tup hG), Bw.to hP hD hK ht hW⟩) hS dX3_readWord_16 hlocks
set_option maxHeartbeats 4000000 in
set_option maxRecDepth 100000 in
theorem tX3_readCourt (l : Launch) (dC : Nat → ClassId) (dI : Nat → Nat → Nat) (sz : Nat) (oR : Nat) (iR_faultNumber : Int32) (iR_faultPlace : Int32) (iR_tapeSize : Int32) (rR_tape : Nat) (fR_tape : Nat → Int32) (kR_tape : ClassId) (iR_end : Int32) (iR_tokenKind : Int32) (iR_tokenFrom : Int32) (iR_tokenTo : Int32) (iR_tokenName : Int64) (iR_tokenKey : Int32) (iR_tokenWhole : Int32) (oC : Nat) (iR_courtTold : Int32) (rR_names : Nat) (rR_keys : Nat) (fR_keys : Nat → Int64) (kR_keys : ClassId) (iC_nodes : Int32) (iC_words : Int32) (iC_chances : Int32) (iC_unsures : Int32) (iC_slips : Int32) (iC_throneNode : Int32) (iC_saidWorth : Int32) (iC_unit : Int32) (rC_kind : Nat) (rC_parts : Nat) (rC_partNodes : Nat) (rC_weights : Nat) (rC_weightSums : Nat) (rC_toldWorths : Nat) (rC_steps : Nat) (rC_below : Nat) (rC_above : Nat) (rC_unsureWords : Nat) (rC_unsureWorths : Nat) (b_iR_tapeSize : 0 ≤ iR_tapeSize.toInt ∧ iR_tapeSize.toInt ≤ 900) (b_iR_courtTold : 0 ≤ iR_courtTold.toInt ∧ iR_courtTold.toInt ≤ 1) (b_iC_nodes : 0 ≤ iC_nodes.toInt ∧ iC_nodes.toInt ≤ 18) (b_iC_unsures : 0 ≤ iC_unsures.toInt ∧ iC_unsures.toInt ≤ 4) (b_iC_throneNode : (-1) ≤ iC_throneNode.toInt ∧ iC_throneNode.toInt ≤ 17)  : Met l yX3_readCourt (Cond.code yX3_readCourt cX3_readCourt 1 (some .boolean) :: wG) ({ frames := 3, cells := 0, slots := 0, locals := 66 }) (va_Pc [.ref oR] (Pw dC dI sz [(oc3 oR iR_faultNumber iR_faultPlace iR_tapeSize rR_tape iR_end iR_tokenKind iR_tokenFrom iR_tokenTo iR_tokenName iR_tokenKey iR_tokenWhole oC iR_courtTold rR_names rR_keys), (arI rR_tape kR_tape 900 fR_tape), (arL rR_keys kR_keys 10 fR_keys), (oc1 oC iC_nodes iC_words iC_chances iC_unsures iC_slips iC_throneNode iC_saidWorth iC_unit rC_kind rC_parts rC_partNodes rC_weights rC_weightSums rC_toldWorths rC_steps rC_below rC_above rC_unsureWords rC_unsureWorths)] [(kR_tape, .byte), (kR_keys, .long)])) (va_Qi (fun (r : Int32) (u : Nat) => ((r = 0 ∨ r = 1) ∧ True) ∧ r = Int32.ofNat u) (fun (u : Nat) (t : State) => ∃ (niR_faultNumber : Int32) (niR_faultPlace : Int32) (niR_tokenKind : Int32) (niR_tokenFrom : Int32) (niR_tokenTo : Int32) (niR_tokenName : Int64) (niR_tokenKey : Int32) (niR_tokenWhole : Int32) (niR_courtTold : Int32) (niC_slips : Int32), (0 ≤ niR_courtTold.toInt ∧ niR_courtTold.toInt ≤ 1) ∧ (PX3_readCourt iR_faultNumber iR_faultPlace fR_tape iR_end iR_tokenKind iR_tokenFrom iR_tokenTo iR_tokenName iR_tokenKey iR_tokenWhole iR_courtTold fR_keys iC_slips = (Int32.ofNat u, niR_faultNumber, niR_faultPlace, niR_tokenKind, niR_tokenFrom, niR_tokenTo, niR_tokenName, niR_tokenKey, niR_tokenWhole, niR_courtTold, niC_slips)) ∧ Bw dC dI (va_A [(oc3 oR iR_faultNumber iR_faultPlace iR_tapeSize rR_tape iR_end iR_tokenKind iR_tokenFrom iR_tokenTo iR_tokenName iR_tokenKey iR_tokenWhole oC iR_courtTold rR_names rR_keys), (arI rR_tape kR_tape 900 fR_tape), (arL rR_keys kR_keys 10 fR_keys), (oc1 oC iC_nodes iC_words iC_chances iC_unsures iC_slips iC_throneNode iC_saidWorth iC_unit rC_kind rC_parts rC_partNodes rC_weights rC_weightSums rC_toldWorths rC_steps rC_below rC_above rC_unsureWords rC_unsureWorths)] sz) [(oc3 oR niR_faultNumber niR_faultPlace iR_tapeSize rR_tape iR_end niR_tokenKind niR_tokenFrom niR_tokenTo niR_tokenName niR_tokenKey niR_tokenWhole oC niR_courtTold rR_names rR_keys), (arI rR_tape kR_tape 900 fR_tape), (arL rR_keys kR_keys 10 fR_keys), (oc1 oC iC_nodes iC_words iC_chances iC_unsures niC_slips iC_throneNode iC_saidWorth iC_unit rC_kind rC_parts rC_partNodes rC_weights rC_weightSums rC_toldWorths rC_steps rC_below rC_above rC_unsureWords rC_unsureWorths)] [(kR_tape, .byte), (kR_keys, .long)] t) (va_A [(oc3 oR iR_faultNumber iR_faultPlace iR_tapeSize rR_tape iR_end iR_tokenKind iR_tokenFrom iR_tokenTo iR_tokenName iR_tokenKey iR_tokenWhole oC iR_courtTold rR_names rR_keys), (arI rR_tape kR_tape 900 fR_tape), (arL rR_keys kR_keys 10 fR_keys), (oc1 oC iC_nodes iC_words iC_chances iC_unsures iC_slips iC_throneNode iC_saidWorth iC_unit rC_kind rC_parts rC_partNodes rC_weights rC_weightSums rC_toldWorths rC_steps rC_below rC_above rC_unsureWords rC_unsureWorths)] sz)) 0 0 (va_A [(oc3 oR iR_faultNumber iR_faultPlace iR_tapeSize rR_tape iR_end iR_tokenKind iR_tokenFrom iR_tokenTo iR_tokenName iR_tokenKey iR_tokenWhole oC iR_courtTold rR_names rR_keys), (arI rR_tape kR_tape 900 fR_tape), (arL rR_keys kR_keys 10 fR_keys), (oc1 oC iC_nodes iC_words iC_chances iC_unsures iC_slips iC_throneNode iC_saidWorth iC_unit rC_kind rC_parts rC_partNodes rC_weights rC_weightSums rC_toldWorths rC_steps rC_below rC_above rC_unsureWords rC_unsureWorths)] sz) := by
  refine Met.ofW (cc := cX3_readCourt) (maxL := 1) (ret := (some .boolean)) pnX3 rfl ?_
  intro p e s m args below meth c s₁ B hml hv
  obtain ⟨rfl, hsz, hP, hK, hD0, hE⟩ := hv
  have hx := B.exec
  have hb := B.bytes
  have hr := B.returns
  have hts : ∀ w ∈ wG, w.before ([.ref oR] : List Value).toArray s = true := fun w h => atoms_spec (ws := Cond.code yX3_readCourt cX3_readCourt 1 (some .boolean) :: wG) B.pre w (List.mem_cons_of_mem _ h)
  have hown : s.vm.findClass RX3 = some m.cls := own_of B.named rfl
  have hlocks := B.notSynchronized
  subst hsz
  have hD := hD0.self (sz := s.heap.size)
  generalize hAe : va_A [(oc3 oR iR_faultNumber iR_faultPlace iR_tapeSize rR_tape iR_end iR_tokenKind iR_tokenFrom iR_tokenTo iR_tokenName iR_tokenKey iR_tokenWhole oC iR_courtTold rR_names rR_keys), (arI rR_tape kR_tape 900 fR_tape), (arL rR_keys kR_keys 10 fR_keys), (oc1 oC iC_nodes iC_words iC_chances iC_unsures iC_slips iC_throneNode iC_saidWorth iC_unit rC_kind rC_parts rC_partNodes rC_weights rC_weightSums rC_toldWorths rC_steps rC_below rC_above rC_unsureWords rC_unsureWorths)] s.heap.size = A at hD hE ⊢
  have hA : ∀ q : Nat, s.heap.size ≤ q → A q := fun q h => by rw [← hAe]; exact Or.inr h
  have hS : va_S A s.heap s.heap [] := va_S.rf
  have hl := lv_entry ([.ref oR]) (n := 1) (Nat.le_of_ble_eq_true rfl)
  rw [lg_entry_eq]
  generalize (lg_sl ([.ref oR]) ++ List.replicate (1 - (lg_sl ([.ref oR])).length) Slot.unset).toArray = ls at hl ⊢
  have hl : lv_has ls 1 [(0, .ref oR)] := hl
  have hG := PX3_readCourt_eq iR_faultNumber iR_faultPlace fR_tape iR_end iR_tokenKind iR_tokenFrom iR_tokenTo iR_tokenName iR_tokenKey iR_tokenWhole iR_courtTold fR_keys iC_slips
  refine lv_aload_n hx hb dX3_readCourt_0 rfl (lv_at hl 0 rfl) ?_
  refine va_get (D := (dC, dI)) (ci := 3) (v := .int iR_courtTold) (C := RX3) (T := TX3) (N := 15) hx hb hts inX3 hown hK hP 0 rfl rfl 12 (by decide) (hts _ wd_206) (fun _ h9 => h9) rfl dX3_readCourt_1 ?_
  refine lv_if_eq (tgt := 13) hx hb dX3_readCourt_4 (by decide) (fun c_1988 => ?_) (fun c_1988 => ?_)
  · skip
    have hG := hG.trans (if_pos c_1988)
    have gc_1988 := ti_eq c_1988 rfl kc_0
    refine lv_aload_n hx hb dX3_readCourt_13 rfl (lv_at hl 0 rfl) ?_
    refine lv_iconst (v := 1) hx hb dX3_readCourt_14 (by decide) ?_
    refine va_put (D := (dC, dI)) (ci := 3) (v := .int 1) (ty := .boolean) (C := RX3) (T := TX3) (N := 15) hx hb hts inX3 tyX3 tyX3_ok nmX3 hown hK hP hD hS 0 rfl rfl 12 (by decide) (hts _ wd_206) (fun _ h9 => h9) rfl (by decide +kernel) rfl rfl (Nat.le_of_ble_eq_true rfl) dX3_readCourt_15 (fun H locs hP hD hS => ?_)
    obtain ⟨hP, hD⟩ := wl2 (ws' := [(oc3 oR iR_faultNumber iR_faultPlace iR_tapeSize rR_tape iR_end iR_tokenKind iR_tokenFrom iR_tokenTo iR_tokenName iR_tokenKey iR_tokenWhole oC 1 rR_names rR_keys), (arI rR_tape kR_tape 900 fR_tape), (arL rR_keys kR_keys 10 fR_keys), (oc1 oC iC_nodes iC_words iC_chances iC_unsures iC_slips iC_throneNode iC_saidWorth iC_unit rC_kind rC_parts rC_partNodes rC_weights rC_weightSums rC_toldWorths rC_steps rC_below rC_above rC_unsureWords rC_unsureWorths)]) hP hD rfl
    refine lv_aload_n hx hb dX3_readCourt_18 rfl (lv_at hl 0 rfl) ?_
    have hMs := ml_of hD [true, true, true, false] (wc := [(oc3 oR iR_faultNumber iR_faultPlace iR_tapeSize rR_tape iR_end iR_tokenKind iR_tokenFrom iR_tokenTo iR_tokenName iR_tokenKey iR_tokenWhole oC 1 rR_names rR_keys), (arI rR_tape kR_tape 900 fR_tape), (arL rR_keys kR_keys 10 fR_keys)]) rfl
    have hFc := va_freeM hD hS hA _ hMs
    refine va_callv (va_runV (As := []) (rest := []) ⟨hx, hb, hml, hown, hts⟩ (tX3_nextToken l dC dI _ oR iR_faultNumber iR_faultPlace iR_tapeSize rR_tape fR_tape kR_tape iR_end iR_tokenKind iR_tokenFrom iR_tokenTo iR_tokenName iR_tokenKey iR_tokenWhole oC 1 rR_names rR_keys fR_keys kR_keys b_iR_tapeSize (by first | decide | omega)) (cwV 0 hts (wd_V wd_220 wd_221 wd_222 wd_15 (wd_c wd_223)) rfl rfl rfl dv_yX3_nextToken_0 ⟨Nat.le_of_ble_eq_true rfl, Nat.le_of_ble_eq_true rfl⟩) ⟨Pw.fb, recvX3 hK hP (q0 := 0) rfl, fun U hU hW => Pw.to (hP.ms _ hMs) (hD.ms _ hMs) hK hE hS hFc hU hW⟩ rfl rfl hl.1 rfl (lv_room (Nat.le_of_ble_eq_true rfl)) dX3_readCourt_19 ⟨Nat.le_of_ble_eq_true rfl, Nat.le_of_ble_eq_true rfl⟩) hS (fun q _ h => hFc q h) hFc (fun u t H locs ht hvm hw hB hz1 hk1 hS => ?_)
    refine ex_6_1 hB (fun x_1989 x_1990 x_1991 y_1992 x_1993 x_1994 e_x_1989_0 hB => ?_)
    obtain ⟨hP, hD⟩ := Bw.goN (ws' := [(oc3 oR iR_faultNumber iR_faultPlace iR_tapeSize rR_tape iR_end x_1989 x_1990 x_1991 y_1992 x_1993 x_1994 oC 1 rR_names rR_keys), (arI rR_tape kR_tape 900 fR_tape), (arL rR_keys kR_keys 10 fR_keys), (oc1 oC iC_nodes iC_words iC_chances iC_unsures iC_slips iC_throneNode iC_saidWorth iC_unit rC_kind rC_parts rC_partNodes rC_weights rC_weightSums rC_toldWorths rC_steps rC_below rC_above rC_unsureWords rC_unsureWorths)]) hB rfl ht hP hD _ hMs hk1 hFc rfl
    clear hz1 hk1 hvm ht hB hMs
    have hG := hG.trans (un6_eq e_x_1989_0)
    refine lv_aload_n hx hb dX3_readCourt_22 rfl (lv_at hl 0 rfl) ?_
    refine va_get (D := (dC, dI)) (ci := 3) (v := .int x_1993) (C := RX3) (T := TX3) (N := 15) hx hb hts inX3 hown hK hP 0 rfl rfl 9 (by decide) (hts _ wd_225) (fun _ h9 => h9) rfl dX3_readCourt_23 ?_
    refine lv_bipush (v := 8) hx hb dX3_readCourt_26 (by decide) ?_
    refine lv_icmp_eq (tgt := 37) hx hb dX3_readCourt_28 (by decide) (fun c_1995 => ?_) (fun c_1995 => ?_)
    · skip
      have hG := hG.trans (if_pos c_1995)
      have gc_1995 := ti_eq c_1995 rfl kc_8
      refine lv_aload_n hx hb dX3_readCourt_37 rfl (lv_at hl 0 rfl) ?_
      have hMs := ml_of hD [true, true, true, false] (wc := [(oc3 oR iR_faultNumber iR_faultPlace iR_tapeSize rR_tape iR_end x_1989 x_1990 x_1991 y_1992 x_1993 x_1994 oC 1 rR_names rR_keys), (arI rR_tape kR_tape 900 fR_tape), (arL rR_keys kR_keys 10 fR_keys)]) rfl
      have hFc := va_freeM hD hS hA _ hMs
      refine va_callv (va_runV (As := []) (rest := []) ⟨hx, hb, hml, hown, hts⟩ (tX3_nextToken l dC dI _ oR iR_faultNumber iR_faultPlace iR_tapeSize rR_tape fR_tape kR_tape iR_end x_1989 x_1990 x_1991 y_1992 x_1993 x_1994 oC 1 rR_names rR_keys fR_keys kR_keys b_iR_tapeSize (by first | decide | omega)) (cwV 0 hts (wd_V wd_220 wd_221 wd_222 wd_15 (wd_c wd_223)) rfl rfl rfl dv_yX3_nextToken_0 ⟨Nat.le_of_ble_eq_true rfl, Nat.le_of_ble_eq_true rfl⟩) ⟨Pw.fb, recvX3 hK hP (q0 := 0) rfl, fun U hU hW => Pw.to (hP.ms _ hMs) (hD.ms _ hMs) hK hE hS hFc hU hW⟩ rfl rfl hl.1 rfl (lv_room (Nat.le_of_ble_eq_true rfl)) dX3_readCourt_38 ⟨Nat.le_of_ble_eq_true rfl, Nat.le_of_ble_eq_true rfl⟩) hS (fun q _ h => hFc q h) hFc (fun u t H locs ht hvm hw hB hz1 hk1 hS => ?_)
      refine ex_6_1 hB (fun x_1996 x_1997 x_1998 y_1999 x_2000 x_2001 e_x_1996_0 hB => ?_)
      obtain ⟨hP, hD⟩ := Bw.goN (ws' := [(oc3 oR iR_faultNumber iR_faultPlace iR_tapeSize rR_tape iR_end x_1996 x_1997 x_1998 y_1999 x_2000 x_2001 oC 1 rR_names rR_keys), (arI rR_tape kR_tape 900 fR_tape), (arL rR_keys kR_keys 10 fR_keys), (oc1 oC iC_nodes iC_words iC_chances iC_unsures iC_slips iC_throneNode iC_saidWorth iC_unit rC_kind rC_parts rC_partNodes rC_weights rC_weightSums rC_toldWorths rC_steps rC_below rC_above rC_unsureWords rC_unsureWorths)]) hB rfl ht hP hD _ hMs hk1 hFc rfl
      clear hz1 hk1 hvm ht hB hMs
      have hG := hG.trans (un6_eq e_x_1996_0)
      refine lv_aload_n hx hb dX3_readCourt_41 rfl (lv_at hl 0 rfl) ?_
      refine lv_iconst (v := 0) hx hb dX3_readCourt_42 (by decide) ?_
      refine lv_bipush (v := 100) hx hb dX3_readCourt_43 (by decide) ?_
      have hMs := ml_of hD [true, false, false, false] (wc := [(oc3 oR iR_faultNumber iR_faultPlace iR_tapeSize rR_tape iR_end x_1996 x_1997 x_1998 y_1999 x_2000 x_2001 oC 1 rR_names rR_keys)]) rfl
      have hFc := va_freeM hD hS hA _ hMs
      refine va_calli (va_runV (As := [.int 0, .int 100]) (rest := []) ⟨hx, hb, hml, hown, hts⟩ (tX3_isWholeWithin l dC dI _ oR iR_faultNumber iR_faultPlace iR_tapeSize rR_tape iR_end x_1996 x_1997 x_1998 y_1999 x_2000 x_2001 oC 1 rR_names rR_keys 0 100 b_iR_tapeSize (by first | decide | omega)) (cwV 2 hts (wd_V wd_263 wd_264 wd_265 wd_15 (wd_c wd_266)) rfl rfl rfl dv_yX3_isWholeWithin_2 ⟨Nat.le_of_ble_eq_true rfl, Nat.le_of_ble_eq_true rfl⟩) ⟨Pw.fb, recvX3 hK hP (q0 := 0) rfl, fun U hU hW => Pw.to (hP.ms _ hMs) (hD.ms _ hMs) (hK.ms [false, false] rfl) hE hS hFc hU hW⟩ rfl rfl hl.1 rfl (lv_room (Nat.le_of_ble_eq_true rfl)) dX3_readCourt_45 ⟨Nat.le_of_ble_eq_true rfl, Nat.le_of_ble_eq_true rfl⟩) hS (fun q _ h => hFc q h) hFc (fun r u t H locs ht hvm hw hB hz1 hk1 hS => ?_)
      have hru9 := hw.2
      have hw := hw.1
      refine ex_2_1 hB (fun x_2002 x_2003 e_x_2002_0 hB => ?_)
      obtain ⟨hP, hD⟩ := Bw.goN (ws' := [(oc3 oR x_2002 x_2003 iR_tapeSize rR_tape iR_end x_1996 x_1997 x_1998 y_1999 x_2000 x_2001 oC 1 rR_names rR_keys), (arI rR_tape kR_tape 900 fR_tape), (arL rR_keys kR_keys 10 fR_keys), (oc1 oC iC_nodes iC_words iC_chances iC_unsures iC_slips iC_throneNode iC_saidWorth iC_unit rC_kind rC_parts rC_partNodes rC_weights rC_weightSums rC_toldWorths rC_steps rC_below rC_above rC_unsureWords rC_unsureWorths)]) hB rfl ht hP hD _ hMs hk1 hFc rfl
      clear hz1 hk1 hvm ht hB hMs
      rw [← hru9] at e_x_2002_0
      obtain ⟨x_2004, rfl⟩ : ∃ z, z = r := ⟨_, rfl⟩
      have hG := hG.trans (un3_eq e_x_2002_0)
      have bx_2004 := hw.1
      have dx_2004 := bz_tb bx_2004
      refine lv_if_ne (tgt := 53) hx hb dX3_readCourt_48 (by decide) (fun c_2005 => ?_) (fun c_2005 => ?_)
      · skip
        have hG := hG.trans (if_neg c_2005)
        have gc_2005 := ti_ne c_2005 rfl kc_0
        refine lv_aload_n hx hb dX3_readCourt_53 rfl (lv_at hl 0 rfl) ?_
        refine va_get (D := (dC, dI)) (ci := 3) (v := .ref oC) (C := RX3) (T := TX3) (N := 15) hx hb hts inX3 hown hK hP 0 rfl rfl 11 (by decide) (hts _ wd_46) (fun _ h9 => h9) rfl dX3_readCourt_54 ?_
        refine lv_aload_n hx hb dX3_readCourt_57 rfl (lv_at hl 0 rfl) ?_
        refine va_get (D := (dC, dI)) (ci := 3) (v := .int x_2001) (C := RX3) (T := TX3) (N := 15) hx hb hts inX3 hown hK hP 0 rfl rfl 10 (by decide) (hts _ wd_245) (fun _ h9 => h9) rfl dX3_readCourt_58 ?_
        refine va_put (D := (dC, dI)) (ci := 1) (v := .int x_2001) (ty := .int) (C := RX1) (T := TX1) (N := 19) hx hb hts inX1 tyX1 tyX1_ok nmX1 hown hK hP hD hS 3 rfl rfl 4 (by decide) (hts _ wd_262) (fun _ h9 => h9) rfl (by decide +kernel) rfl rfl (Nat.le_of_ble_eq_true rfl) dX3_readCourt_61 (fun H locs hP hD hS => ?_)
        obtain ⟨hP, hD⟩ := wl2 (ws' := [(oc3 oR x_2002 x_2003 iR_tapeSize rR_tape iR_end x_1996 x_1997 x_1998 y_1999 x_2000 x_2001 oC 1 rR_names rR_keys), (arI rR_tape kR_tape 900 fR_tape), (arL rR_keys kR_keys 10 fR_keys), (oc1 oC iC_nodes iC_words iC_chances iC_unsures x_2001 iC_throneNode iC_saidWorth iC_unit rC_kind rC_parts rC_partNodes rC_weights rC_weightSums rC_toldWorths rC_steps rC_below rC_above rC_unsureWords rC_unsureWorths)]) hP hD rfl
        refine lv_aload_n hx hb dX3_readCourt_64 rfl (lv_at hl 0 rfl) ?_
        have hMs := ml_of hD [true, true, true, false] (wc := [(oc3 oR x_2002 x_2003 iR_tapeSize rR_tape iR_end x_1996 x_1997 x_1998 y_1999 x_2000 x_2001 oC 1 rR_names rR_keys), (arI rR_tape kR_tape 900 fR_tape), (arL rR_keys kR_keys 10 fR_keys)]) rfl
        have hFc := va_freeM hD hS hA _ hMs
        refine va_callv (va_runV (As := []) (rest := []) ⟨hx, hb, hml, hown, hts⟩ (tX3_nextToken l dC dI _ oR x_2002 x_2003 iR_tapeSize rR_tape fR_tape kR_tape iR_end x_1996 x_1997 x_1998 y_1999 x_2000 x_2001 oC 1 rR_names rR_keys fR_keys kR_keys b_iR_tapeSize (by first | decide | omega)) (cwV 0 hts (wd_V wd_220 wd_221 wd_222 wd_15 (wd_c wd_223)) rfl rfl rfl dv_yX3_nextToken_0 ⟨Nat.le_of_ble_eq_true rfl, Nat.le_of_ble_eq_true rfl⟩) ⟨Pw.fb, recvX3 hK hP (q0 := 0) rfl, fun U hU hW => Pw.to (hP.ms _ hMs) (hD.ms _ hMs) hK hE hS hFc hU hW⟩ rfl rfl hl.1 rfl (lv_room (Nat.le_of_ble_eq_true rfl)) dX3_readCourt_65 ⟨Nat.le_of_ble_eq_true rfl, Nat.le_of_ble_eq_true rfl⟩) hS (fun q _ h => hFc q h) hFc (fun u t H locs ht hvm hw hB hz1 hk1 hS => ?_)
        refine ex_6_1 hB (fun x_2006 x_2007 x_2008 y_2009 x_2010 x_2011 e_x_2006_0 hB => ?_)
        obtain ⟨hP, hD⟩ := Bw.goN (ws' := [(oc3 oR x_2002 x_2003 iR_tapeSize rR_tape iR_end x_2006 x_2007 x_2008 y_2009 x_2010 x_2011 oC 1 rR_names rR_keys), (arI rR_tape kR_tape 900 fR_tape), (arL rR_keys kR_keys 10 fR_keys), (oc1 oC iC_nodes iC_words iC_chances iC_unsures x_2001 iC_throneNode iC_saidWorth iC_unit rC_kind rC_parts rC_partNodes rC_weights rC_weightSums rC_toldWorths rC_steps rC_below rC_above rC_unsureWords rC_unsureWorths)]) hB rfl ht hP hD _ hMs hk1 hFc rfl
        clear hz1 hk1 hvm ht hB hMs
        have hG := hG.trans (un6_eq e_x_2006_0)
        refine lv_iconst (v := 1) hx hb dX3_readCourt_68 (by decide) ?_
        exact wq_z (v := 1) hx hb hr rfl (cI 1) ⟨⟨Or.inr rfl, trivial⟩, (cI_of 1)⟩ (fun t ht hW => ⟨x_2002, x_2003, x_2006, x_2007, x_2008, y_2009, x_2010, x_2011, 1, x_2001, (by decide), (cI_tup hG), Bw.to hP hD hK ht hW⟩) hS dX3_readCourt_69 hlocks
      · skip
        have hG := hG.trans (if_pos c_2005)
        have gc_2005 := ti_eq c_2005 rfl kc_0
        refine lv_iconst (v := 0) hx hb dX3_readCourt_51 (by decide) ?_
        exact wq_z (v := 0) hx hb hr rfl (cI 0) ⟨⟨Or.inl rfl, trivial⟩, (cI_of 0)⟩ (fun t ht hW => ⟨x_2002, x_2003, x_1996, x_1997, x_1998, y_1999, x_2000, x_2001, 1, iC_slips, (by decide), (cI_tup hG), Bw.to hP hD hK ht hW⟩) hS dX3_readCourt_52 hlocks
    · skip
      have hG := hG.trans (if_neg c_1995)
      have gc_1995 := ti_ne c_1995 rfl kc_8
      refine lv_aload_n hx hb dX3_readCourt_31 rfl (lv_at hl 0 rfl) ?_
      refine lv_iconst (v := 1) hx hb dX3_readCourt_32 (by decide) ?_
      have hMs := ml_of hD [true, false, false, false] (wc := [(oc3 oR iR_faultNumber iR_faultPlace iR_tapeSize rR_tape iR_end x_1989 x_1990 x_1991 y_1992 x_1993 x_1994 oC 1 rR_names rR_keys)]) rfl
      have hFc := va_freeM hD hS hA _ hMs
      refine va_calli (va_runV (As := [.int 1]) (rest := []) ⟨hx, hb, hml, hown, hts⟩ (tX3_faulty l dC dI _ oR iR_faultNumber iR_faultPlace iR_tapeSize rR_tape iR_end x_1989 x_1990 x_1991 y_1992 x_1993 x_1994 oC 1 rR_names rR_keys 1 b_iR_tapeSize (by first | decide | omega)) (cwV 1 hts (wd_V wd_254 wd_255 wd_256 wd_15 (wd_c wd_257)) rfl rfl rfl dv_yX3_faulty_1 ⟨Nat.le_of_ble_eq_true rfl, Nat.le_of_ble_eq_true rfl⟩) ⟨Pw.fb, recvX3 hK hP (q0 := 0) rfl, fun U hU hW => Pw.to (hP.ms _ hMs) (hD.ms _ hMs) (hK.ms [false, false] rfl) hE hS hFc hU hW⟩ rfl rfl hl.1 rfl (lv_room (Nat.le_of_ble_eq_true rfl)) dX3_readCourt_33 ⟨Nat.le_of_ble_eq_true rfl, Nat.le_of_ble_eq_true rfl⟩) hS (fun q _ h => hFc q h) hFc (fun r u t H locs ht hvm hw hB hz1 hk1 hS => ?_)
      have hru9 := hw.2
      have hw := hw.1
      refine ex_2_1 hB (fun x_2012 x_2013 e_x_2012_0 hB => ?_)
      obtain ⟨hP, hD⟩ := Bw.goN (ws' := [(oc3 oR x_2012 x_2013 iR_tapeSize rR_tape iR_end x_1989 x_1990 x_1991 y_1992 x_1993 x_1994 oC 1 rR_names rR_keys), (arI rR_tape kR_tape 900 fR_tape), (arL rR_keys kR_keys 10 fR_keys), (oc1 oC iC_nodes iC_words iC_chances iC_unsures iC_slips iC_throneNode iC_saidWorth iC_unit rC_kind rC_parts rC_partNodes rC_weights rC_weightSums rC_toldWorths rC_steps rC_below rC_above rC_unsureWords rC_unsureWorths)]) hB rfl ht hP hD _ hMs hk1 hFc rfl
      clear hz1 hk1 hvm ht hB hMs
      rw [← hru9] at e_x_2012_0
      rcases hw.2 with ⟨rfl, hc_2014⟩
      · skip
        have hG := hG.trans (un3_eq e_x_2012_0)
        exact wq_z (v := 0) hx hb hr rfl (cI 0) ⟨⟨Or.inl rfl, trivial⟩, (cI_of 0)⟩ (fun t ht hW => ⟨x_2012, x_2013, x_1989, x_1990, x_1991, y_1992, x_1993, x_1994, 1, iC_slips, (by decide), (cI_tup hG), Bw.to hP hD hK ht hW⟩) hS dX3_readCourt_36 hlocks
  · skip
    have hG := hG.trans (if_neg c_1988)
    have gc_1988 := ti_ne c_1988 rfl kc_0
    refine lv_aload_n hx hb dX3_readCourt_7 rfl (lv_at hl 0 rfl) ?_
    refine lv_iconst (v := 3) hx hb dX3_readCourt_8 (by decide) ?_
    have hMs := ml_of hD [true, false, false, false] (wc := [(oc3 oR iR_faultNumber iR_faultPlace iR_tapeSize rR_tape iR_end iR_tokenKind iR_tokenFrom iR_tokenTo iR_tokenName iR_tokenKey iR_tokenWhole oC iR_courtTold rR_names rR_keys)]) rfl
    have hFc := va_freeM hD hS hA _ hMs
    refine va_calli (va_runV (As := [.int 3]) (rest := []) ⟨hx, hb, hml, hown, hts⟩ (tX3_faulty l dC dI _ oR iR_faultNumber iR_faultPlace iR_tapeSize rR_tape iR_end iR_tokenKind iR_tokenFrom iR_tokenTo iR_tokenName iR_tokenKey iR_tokenWhole oC iR_courtTold rR_names rR_keys 3 b_iR_tapeSize b_iR_courtTold) (cwV 1 hts (wd_V wd_254 wd_255 wd_256 wd_15 (wd_c wd_257)) rfl rfl rfl dv_yX3_faulty_1 ⟨Nat.le_of_ble_eq_true rfl, Nat.le_of_ble_eq_true rfl⟩) ⟨Pw.fb, recvX3 hK hP (q0 := 0) rfl, fun U hU hW => Pw.to (hP.ms _ hMs) (hD.ms _ hMs) (hK.ms [false, false] rfl) hE hS hFc hU hW⟩ rfl rfl hl.1 rfl (lv_room (Nat.le_of_ble_eq_true rfl)) dX3_readCourt_9 ⟨Nat.le_of_ble_eq_true rfl, Nat.le_of_ble_eq_true rfl⟩) hS (fun q _ h => hFc q h) hFc (fun r u t H locs ht hvm hw hB hz1 hk1 hS => ?_)
    have hru9 := hw.2
    have hw := hw.1
    refine ex_2_1 hB (fun x_2016 x_2017 e_x_2016_0 hB => ?_)
    obtain ⟨hP, hD⟩ := Bw.goN (ws' := [(oc3 oR x_2016 x_2017 iR_tapeSize rR_tape iR_end iR_tokenKind iR_tokenFrom iR_tokenTo iR_tokenName iR_tokenKey iR_tokenWhole oC iR_courtTold rR_names rR_keys), (arI rR_tape kR_tape 900 fR_tape), (arL rR_keys kR_keys 10 fR_keys), (oc1 oC iC_nodes iC_words iC_chances iC_unsures iC_slips iC_throneNode iC_saidWorth iC_unit rC_kind rC_parts rC_partNodes rC_weights rC_weightSums rC_toldWorths rC_steps rC_below rC_above rC_unsureWords rC_unsureWorths)]) hB rfl ht hP hD _ hMs hk1 hFc rfl
    clear hz1 hk1 hvm ht hB hMs
    rw [← hru9] at e_x_2016_0
    rcases hw.2 with ⟨rfl, hc_2018⟩
    · skip
      have hG := hG.trans (un3_eq e_x_2016_0)
      exact wq_z (v := 0) hx hb hr rfl (cI 0) ⟨⟨Or.inl rfl, trivial⟩, (cI_of 0)⟩ (fun t ht hW => ⟨x_2016, x_2017, iR_tokenKind, iR_tokenFrom, iR_tokenTo, iR_tokenName, iR_tokenKey, iR_tokenWhole, iR_courtTold, iC_slips, b_iR_courtTold, (cI_tup hG), Bw.to hP hD hK ht hW⟩) hS dX3_readCourt_12 hlocks
set_option maxHeartbeats 4000000 in
set_option maxRecDepth 100000 in
theorem tX3_readLine (l : Launch) (dC : Nat → ClassId) (dI : Nat → Nat → Nat) (sz : Nat) (oR : Nat) (iR_faultNumber : Int32) (iR_faultPlace : Int32) (iR_tapeSize : Int32) (rR_tape : Nat) (fR_tape : Nat → Int32) (kR_tape : ClassId) (iR_end : Int32) (iR_tokenKind : Int32) (iR_tokenFrom : Int32) (iR_tokenTo : Int32) (iR_tokenName : Int64) (iR_tokenKey : Int32) (iR_tokenWhole : Int32) (oC : Nat) (iR_courtTold : Int32) (rR_names : Nat) (fR_names : Nat → Int64) (kR_names : ClassId) (rR_keys : Nat) (fR_keys : Nat → Int64) (kR_keys : ClassId) (iC_nodes : Int32) (iC_words : Int32) (iC_chances : Int32) (iC_unsures : Int32) (iC_slips : Int32) (iC_throneNode : Int32) (iC_saidWorth : Int32) (iC_unit : Int32) (rC_kind : Nat) (fC_kind : Nat → Int32) (kC_kind : ClassId) (rC_parts : Nat) (fC_parts : Nat → Int32) (kC_parts : ClassId) (rC_partNodes : Nat) (fC_partNodes : Nat → Int32) (kC_partNodes : ClassId) (rC_weights : Nat) (fC_weights : Nat → Int32) (kC_weights : ClassId) (rC_weightSums : Nat) (fC_weightSums : Nat → Int32) (kC_weightSums : ClassId) (rC_toldWorths : Nat) (fC_toldWorths : Nat → Int32) (kC_toldWorths : ClassId) (rC_steps : Nat) (fC_steps : Nat → Int32) (kC_steps : ClassId) (rC_below : Nat) (fC_below : Nat → Int32) (kC_below : ClassId) (rC_above : Nat) (fC_above : Nat → Int32) (kC_above : ClassId) (rC_unsureWords : Nat) (fC_unsureWords : Nat → Int32) (kC_unsureWords : ClassId) (rC_unsureWorths : Nat) (fC_unsureWorths : Nat → Int32) (kC_unsureWorths : ClassId) (b_iR_tapeSize : 0 ≤ iR_tapeSize.toInt ∧ iR_tapeSize.toInt ≤ 900) (b_iR_courtTold : 0 ≤ iR_courtTold.toInt ∧ iR_courtTold.toInt ≤ 1) (b_iC_nodes : 0 ≤ iC_nodes.toInt ∧ iC_nodes.toInt ≤ 18) (b_iC_unsures : 0 ≤ iC_unsures.toInt ∧ iC_unsures.toInt ≤ 4) (b_iC_throneNode : (-1) ≤ iC_throneNode.toInt ∧ iC_throneNode.toInt ≤ 17) (a_fC_parts : ∀ j : Nat, j < 18 → 0 ≤ (fC_parts j).toInt ∧ (fC_parts j).toInt ≤ 4) (a_fC_partNodes : ∀ j : Nat, j < 72 → 0 ≤ (fC_partNodes j).toInt ∧ (fC_partNodes j).toInt ≤ 17) (a_fC_unsureWords : ∀ j : Nat, j < 4 → 0 ≤ (fC_unsureWords j).toInt ∧ (fC_unsureWords j).toInt ≤ 17)  : Met l yX3_readLine (Cond.code yX3_readLine cX3_readLine 1 (some .boolean) :: wG) ({ frames := 5, cells := 0, slots := 0, locals := 114 }) (va_Pc [.ref oR] (Pw dC dI sz [(oc3 oR iR_faultNumber iR_faultPlace iR_tapeSize rR_tape iR_end iR_tokenKind iR_tokenFrom iR_tokenTo iR_tokenName iR_tokenKey iR_tokenWhole oC iR_courtTold rR_names rR_keys), (arI rR_tape kR_tape 900 fR_tape), (arL rR_names kR_names 18 fR_names), (arL rR_keys kR_keys 10 fR_keys), (oc1 oC iC_nodes iC_words iC_chances iC_unsures iC_slips iC_throneNode iC_saidWorth iC_unit rC_kind rC_parts rC_partNodes rC_weights rC_weightSums rC_toldWorths rC_steps rC_below rC_above rC_unsureWords rC_unsureWorths), (arI rC_kind kC_kind 18 fC_kind), (arI rC_parts kC_parts 18 fC_parts), (arI rC_partNodes kC_partNodes 72 fC_partNodes), (arI rC_weights kC_weights 72 fC_weights), (arI rC_weightSums kC_weightSums 18 fC_weightSums), (arI rC_toldWorths kC_toldWorths 18 fC_toldWorths), (arI rC_steps kC_steps 18 fC_steps), (arI rC_below kC_below 18 fC_below), (arI rC_above kC_above 18 fC_above), (arI rC_unsureWords kC_unsureWords 4 fC_unsureWords), (arI rC_unsureWorths kC_unsureWorths 4 fC_unsureWorths)] [(kR_tape, .byte), (kR_names, .long), (kR_keys, .long), (kC_kind, .int), (kC_parts, .int), (kC_partNodes, .int), (kC_weights, .int), (kC_weightSums, .int), (kC_toldWorths, .int), (kC_steps, .int), (kC_below, .int), (kC_above, .int), (kC_unsureWords, .int), (kC_unsureWorths, .int)])) (va_Qi (fun (r : Int32) (u : Nat) => ((r = 0 ∨ r = 1) ∧ True) ∧ r = Int32.ofNat u) (fun (u : Nat) (t : State) => ∃ (niR_faultNumber : Int32) (niR_faultPlace : Int32) (niR_tokenKind : Int32) (niR_tokenFrom : Int32) (niR_tokenTo : Int32) (niR_tokenName : Int64) (niR_tokenKey : Int32) (niR_tokenWhole : Int32) (niR_courtTold : Int32) (nfR_names : Nat → Int64) (niC_nodes : Int32) (niC_words : Int32) (niC_chances : Int32) (niC_unsures : Int32) (niC_slips : Int32) (niC_throneNode : Int32) (niC_saidWorth : Int32) (niC_unit : Int32) (nfC_kind : Nat → Int32) (nfC_parts : Nat → Int32) (nfC_partNodes : Nat → Int32) (nfC_weights : Nat → Int32) (nfC_weightSums : Nat → Int32) (nfC_toldWorths : Nat → Int32) (nfC_steps : Nat → Int32) (nfC_below : Nat → Int32) (nfC_above : Nat → Int32) (nfC_unsureWords : Nat → Int32) (nfC_unsureWorths : Nat → Int32), (0 ≤ niR_courtTold.toInt ∧ niR_courtTold.toInt ≤ 1) ∧ (0 ≤ niC_nodes.toInt ∧ niC_nodes.toInt ≤ 18) ∧ (0 ≤ niC_unsures.toInt ∧ niC_unsures.toInt ≤ 4) ∧ ((-1) ≤ niC_throneNode.toInt ∧ niC_throneNode.toInt ≤ 17) ∧ (∀ j : Nat, j < 18 → 0 ≤ (nfC_parts j).toInt ∧ (nfC_parts j).toInt ≤ 4) ∧ (∀ j : Nat, j < 72 → 0 ≤ (nfC_partNodes j).toInt ∧ (nfC_partNodes j).toInt ≤ 17) ∧ (∀ j : Nat, j < 4 → 0 ≤ (nfC_unsureWords j).toInt ∧ (nfC_unsureWords j).toInt ≤ 17) ∧ (PX3_readLine iR_faultNumber iR_faultPlace fR_tape iR_end iR_tokenKind iR_tokenFrom iR_tokenTo iR_tokenName iR_tokenKey iR_tokenWhole iR_courtTold fR_names fR_keys iC_nodes iC_words iC_chances iC_unsures iC_slips iC_throneNode iC_saidWorth iC_unit fC_kind fC_parts fC_partNodes fC_weights fC_weightSums fC_toldWorths fC_steps fC_below fC_above fC_unsureWords fC_unsureWorths = (Int32.ofNat u, niR_faultNumber, niR_faultPlace, niR_tokenKind, niR_tokenFrom, niR_tokenTo, niR_tokenName, niR_tokenKey, niR_tokenWhole, niR_courtTold, nfR_names, niC_nodes, niC_words, niC_chances, niC_unsures, niC_slips, niC_throneNode, niC_saidWorth, niC_unit, nfC_kind, nfC_parts, nfC_partNodes, nfC_weights, nfC_weightSums, nfC_toldWorths, nfC_steps, nfC_below, nfC_above, nfC_unsureWords, nfC_unsureWorths)) ∧ Bw dC dI (va_A [(oc3 oR iR_faultNumber iR_faultPlace iR_tapeSize rR_tape iR_end iR_tokenKind iR_tokenFrom iR_tokenTo iR_tokenName iR_tokenKey iR_tokenWhole oC iR_courtTold rR_names rR_keys), (arI rR_tape kR_tape 900 fR_tape), (arL rR_names kR_names 18 fR_names), (arL rR_keys kR_keys 10 fR_keys), (oc1 oC iC_nodes iC_words iC_chances iC_unsures iC_slips iC_throneNode iC_saidWorth iC_unit rC_kind rC_parts rC_partNodes rC_weights rC_weightSums rC_toldWorths rC_steps rC_below rC_above rC_unsureWords rC_unsureWorths), (arI rC_kind kC_kind 18 fC_kind), (arI rC_parts kC_parts 18 fC_parts), (arI rC_partNodes kC_partNodes 72 fC_partNodes), (arI rC_weights kC_weights 72 fC_weights), (arI rC_weightSums kC_weightSums 18 fC_weightSums), (arI rC_toldWorths kC_toldWorths 18 fC_toldWorths), (arI rC_steps kC_steps 18 fC_steps), (arI rC_below kC_below 18 fC_below), (arI rC_above kC_above 18 fC_above), (arI rC_unsureWords kC_unsureWords 4 fC_unsureWords), (arI rC_unsureWorths kC_unsureWorths 4 fC_unsureWorths)] sz) [(oc3 oR niR_faultNumber niR_faultPlace iR_tapeSize rR_tape iR_end niR_tokenKind niR_tokenFrom niR_tokenTo niR_tokenName niR_tokenKey niR_tokenWhole oC niR_courtTold rR_names rR_keys), (arI rR_tape kR_tape 900 fR_tape), (arL rR_names kR_names 18 nfR_names), (arL rR_keys kR_keys 10 fR_keys), (oc1 oC niC_nodes niC_words niC_chances niC_unsures niC_slips niC_throneNode niC_saidWorth niC_unit rC_kind rC_parts rC_partNodes rC_weights rC_weightSums rC_toldWorths rC_steps rC_below rC_above rC_unsureWords rC_unsureWorths), (arI rC_kind kC_kind 18 nfC_kind), (arI rC_parts kC_parts 18 nfC_parts), (arI rC_partNodes kC_partNodes 72 nfC_partNodes), (arI rC_weights kC_weights 72 nfC_weights), (arI rC_weightSums kC_weightSums 18 nfC_weightSums), (arI rC_toldWorths kC_toldWorths 18 nfC_toldWorths), (arI rC_steps kC_steps 18 nfC_steps), (arI rC_below kC_below 18 nfC_below), (arI rC_above kC_above 18 nfC_above), (arI rC_unsureWords kC_unsureWords 4 nfC_unsureWords), (arI rC_unsureWorths kC_unsureWorths 4 nfC_unsureWorths)] [(kR_tape, .byte), (kR_names, .long), (kR_keys, .long), (kC_kind, .int), (kC_parts, .int), (kC_partNodes, .int), (kC_weights, .int), (kC_weightSums, .int), (kC_toldWorths, .int), (kC_steps, .int), (kC_below, .int), (kC_above, .int), (kC_unsureWords, .int), (kC_unsureWorths, .int)] t) (va_A [(oc3 oR iR_faultNumber iR_faultPlace iR_tapeSize rR_tape iR_end iR_tokenKind iR_tokenFrom iR_tokenTo iR_tokenName iR_tokenKey iR_tokenWhole oC iR_courtTold rR_names rR_keys), (arI rR_tape kR_tape 900 fR_tape), (arL rR_names kR_names 18 fR_names), (arL rR_keys kR_keys 10 fR_keys), (oc1 oC iC_nodes iC_words iC_chances iC_unsures iC_slips iC_throneNode iC_saidWorth iC_unit rC_kind rC_parts rC_partNodes rC_weights rC_weightSums rC_toldWorths rC_steps rC_below rC_above rC_unsureWords rC_unsureWorths), (arI rC_kind kC_kind 18 fC_kind), (arI rC_parts kC_parts 18 fC_parts), (arI rC_partNodes kC_partNodes 72 fC_partNodes), (arI rC_weights kC_weights 72 fC_weights), (arI rC_weightSums kC_weightSums 18 fC_weightSums), (arI rC_toldWorths kC_toldWorths 18 fC_toldWorths), (arI rC_steps kC_steps 18 fC_steps), (arI rC_below kC_below 18 fC_below), (arI rC_above kC_above 18 fC_above), (arI rC_unsureWords kC_unsureWords 4 fC_unsureWords), (arI rC_unsureWorths kC_unsureWorths 4 fC_unsureWorths)] sz)) 0 0 (va_A [(oc3 oR iR_faultNumber iR_faultPlace iR_tapeSize rR_tape iR_end iR_tokenKind iR_tokenFrom iR_tokenTo iR_tokenName iR_tokenKey iR_tokenWhole oC iR_courtTold rR_names rR_keys), (arI rR_tape kR_tape 900 fR_tape), (arL rR_names kR_names 18 fR_names), (arL rR_keys kR_keys 10 fR_keys), (oc1 oC iC_nodes iC_words iC_chances iC_unsures iC_slips iC_throneNode iC_saidWorth iC_unit rC_kind rC_parts rC_partNodes rC_weights rC_weightSums rC_toldWorths rC_steps rC_below rC_above rC_unsureWords rC_unsureWorths), (arI rC_kind kC_kind 18 fC_kind), (arI rC_parts kC_parts 18 fC_parts), (arI rC_partNodes kC_partNodes 72 fC_partNodes), (arI rC_weights kC_weights 72 fC_weights), (arI rC_weightSums kC_weightSums 18 fC_weightSums), (arI rC_toldWorths kC_toldWorths 18 fC_toldWorths), (arI rC_steps kC_steps 18 fC_steps), (arI rC_below kC_below 18 fC_below), (arI rC_above kC_above 18 fC_above), (arI rC_unsureWords kC_unsureWords 4 fC_unsureWords), (arI rC_unsureWorths kC_unsureWorths 4 fC_unsureWorths)] sz) := by
  refine Met.ofW (cc := cX3_readLine) (maxL := 1) (ret := (some .boolean)) pnX3 rfl ?_
  intro p e s m args below meth c s₁ B hml hv
  obtain ⟨rfl, hsz, hP, hK, hD0, hE⟩ := hv
  have hx := B.exec
  have hb := B.bytes
  have hr := B.returns
  have hts : ∀ w ∈ wG, w.before ([.ref oR] : List Value).toArray s = true := fun w h => atoms_spec (ws := Cond.code yX3_readLine cX3_readLine 1 (some .boolean) :: wG) B.pre w (List.mem_cons_of_mem _ h)
  have hown : s.vm.findClass RX3 = some m.cls := own_of B.named rfl
  have hlocks := B.notSynchronized
  subst hsz
  have hD := hD0.self (sz := s.heap.size)
  generalize hAe : va_A [(oc3 oR iR_faultNumber iR_faultPlace iR_tapeSize rR_tape iR_end iR_tokenKind iR_tokenFrom iR_tokenTo iR_tokenName iR_tokenKey iR_tokenWhole oC iR_courtTold rR_names rR_keys), (arI rR_tape kR_tape 900 fR_tape), (arL rR_names kR_names 18 fR_names), (arL rR_keys kR_keys 10 fR_keys), (oc1 oC iC_nodes iC_words iC_chances iC_unsures iC_slips iC_throneNode iC_saidWorth iC_unit rC_kind rC_parts rC_partNodes rC_weights rC_weightSums rC_toldWorths rC_steps rC_below rC_above rC_unsureWords rC_unsureWorths), (arI rC_kind kC_kind 18 fC_kind), (arI rC_parts kC_parts 18 fC_parts), (arI rC_partNodes kC_partNodes 72 fC_partNodes), (arI rC_weights kC_weights 72 fC_weights), (arI rC_weightSums kC_weightSums 18 fC_weightSums), (arI rC_toldWorths kC_toldWorths 18 fC_toldWorths), (arI rC_steps kC_steps 18 fC_steps), (arI rC_below kC_below 18 fC_below), (arI rC_above kC_above 18 fC_above), (arI rC_unsureWords kC_unsureWords 4 fC_unsureWords), (arI rC_unsureWorths kC_unsureWorths 4 fC_unsureWorths)] s.heap.size = A at hD hE ⊢
  have hA : ∀ q : Nat, s.heap.size ≤ q → A q := fun q h => by rw [← hAe]; exact Or.inr h
  have hS : va_S A s.heap s.heap [] := va_S.rf
  have hl := lv_entry ([.ref oR]) (n := 1) (Nat.le_of_ble_eq_true rfl)
  rw [lg_entry_eq]
  generalize (lg_sl ([.ref oR]) ++ List.replicate (1 - (lg_sl ([.ref oR])).length) Slot.unset).toArray = ls at hl ⊢
  have hl : lv_has ls 1 [(0, .ref oR)] := hl
  have hG := PX3_readLine_eq iR_faultNumber iR_faultPlace fR_tape iR_end iR_tokenKind iR_tokenFrom iR_tokenTo iR_tokenName iR_tokenKey iR_tokenWhole iR_courtTold fR_names fR_keys iC_nodes iC_words iC_chances iC_unsures iC_slips iC_throneNode iC_saidWorth iC_unit fC_kind fC_parts fC_partNodes fC_weights fC_weightSums fC_toldWorths fC_steps fC_below fC_above fC_unsureWords fC_unsureWorths
  refine lv_aload_n hx hb dX3_readLine_0 rfl (lv_at hl 0 rfl) ?_
  have hMs := ml_of hD [true, false, false, false, false, false, false, false, false, false, false, false, false, false, false, false] (wc := [(oc3 oR iR_faultNumber iR_faultPlace iR_tapeSize rR_tape iR_end iR_tokenKind iR_tokenFrom iR_tokenTo iR_tokenName iR_tokenKey iR_tokenWhole oC iR_courtTold rR_names rR_keys)]) rfl
  have hFc := va_freeM hD hS hA _ hMs
  refine va_calli (va_runV (As := []) (rest := []) ⟨hx, hb, hml, hown, hts⟩ (tX3_isLineKey l dC dI _ oR iR_faultNumber iR_faultPlace iR_tapeSize rR_tape iR_end iR_tokenKind iR_tokenFrom iR_tokenTo iR_tokenName iR_tokenKey iR_tokenWhole oC iR_courtTold rR_names rR_keys b_iR_tapeSize b_iR_courtTold) (cwV 0 hts (wd_V wd_250 wd_251 wd_252 wd_15 (wd_c wd_253)) rfl rfl rfl dv_yX3_isLineKey_0 ⟨Nat.le_of_ble_eq_true rfl, Nat.le_of_ble_eq_true rfl⟩) ⟨Pw.fb, recvX3 hK hP (q0 := 0) rfl, fun U hU hW => Pw.to (hP.ms _ hMs) (hD.ms _ hMs) (hK.ms [false, false, false, false, false, false, false, false, false, false, false, false, false, false] rfl) hE hS hFc hU hW⟩ rfl rfl hl.1 rfl (lv_room (Nat.le_of_ble_eq_true rfl)) dX3_readLine_1 ⟨Nat.le_of_ble_eq_true rfl, Nat.le_of_ble_eq_true rfl⟩) hS (fun q _ h => hFc q h) hFc (fun r u t H locs ht hvm hw hB hz1 hk1 hS => ?_)
  have hru9 := hw.2
  have hw := hw.1
  obtain ⟨hP, hD⟩ := Bw.goN (ws' := [(oc3 oR iR_faultNumber iR_faultPlace iR_tapeSize rR_tape iR_end iR_tokenKind iR_tokenFrom iR_tokenTo iR_tokenName iR_tokenKey iR_tokenWhole oC iR_courtTold rR_names rR_keys), (arI rR_tape kR_tape 900 fR_tape), (arL rR_names kR_names 18 fR_names), (arL rR_keys kR_keys 10 fR_keys), (oc1 oC iC_nodes iC_words iC_chances iC_unsures iC_slips iC_throneNode iC_saidWorth iC_unit rC_kind rC_parts rC_partNodes rC_weights rC_weightSums rC_toldWorths rC_steps rC_below rC_above rC_unsureWords rC_unsureWorths), (arI rC_kind kC_kind 18 fC_kind), (arI rC_parts kC_parts 18 fC_parts), (arI rC_partNodes kC_partNodes 72 fC_partNodes), (arI rC_weights kC_weights 72 fC_weights), (arI rC_weightSums kC_weightSums 18 fC_weightSums), (arI rC_toldWorths kC_toldWorths 18 fC_toldWorths), (arI rC_steps kC_steps 18 fC_steps), (arI rC_below kC_below 18 fC_below), (arI rC_above kC_above 18 fC_above), (arI rC_unsureWords kC_unsureWords 4 fC_unsureWords), (arI rC_unsureWorths kC_unsureWorths 4 fC_unsureWorths)]) hB rfl ht hP hD _ hMs hk1 hFc rfl
  clear hz1 hk1 hvm ht hB hMs
  obtain ⟨x_2316, rfl⟩ : ∃ z, z = r := ⟨_, rfl⟩
  have hG := hG.trans (lt_eq hru9.symm)
  have bx_2316 := hw.1
  have dx_2316 := bz_tb bx_2316
  refine lv_if_ne (tgt := 13) hx hb dX3_readLine_4 (by decide) (fun c_2317 => ?_) (fun c_2317 => ?_)
  · skip
    have hG := hG.trans (if_neg c_2317)
    have gc_2317 := ti_ne c_2317 rfl kc_0
    refine lv_aload_n hx hb dX3_readLine_13 rfl (lv_at hl 0 rfl) ?_
    refine va_get (D := (dC, dI)) (ci := 3) (v := .int iR_courtTold) (C := RX3) (T := TX3) (N := 15) hx hb hts inX3 hown hK hP 0 rfl rfl 12 (by decide) (hts _ wd_206) (fun _ h9 => h9) rfl dX3_readLine_14 ?_
    refine lv_if_ne (tgt := 35) hx hb dX3_readLine_17 (by decide) (fun c_2318 => ?_) (fun c_2318 => ?_)
    · skip
      have hG := hG.trans (if_neg c_2318)
      have gc_2318 := ti_ne c_2318 rfl kc_0
      refine lv_aload_n hx hb dX3_readLine_35 rfl (lv_at hl 0 rfl) ?_
      refine va_get (D := (dC, dI)) (ci := 3) (v := .int iR_tokenKey) (C := RX3) (T := TX3) (N := 15) hx hb hts inX3 hown hK hP 0 rfl rfl 9 (by decide) (hts _ wd_225) (fun _ h9 => h9) rfl dX3_readLine_36 ?_
      rcases (show iR_tokenKey.toInt < 0 ∨ 6 < iR_tokenKey.toInt ∨ iR_tokenKey.toInt = 0 ∨ iR_tokenKey.toInt = 1 ∨ iR_tokenKey.toInt = 2 ∨ iR_tokenKey.toInt = 3 ∨ iR_tokenKey.toInt = 4 ∨ iR_tokenKey.toInt = 5 ∨ iR_tokenKey.toInt = 6 by omega) with h_s | h_s | h_s | h_s | h_s | h_s | h_s | h_s | h_s
      · skip
        have hG := hG.trans (sw_out (by first | exact Or.inl h_s | exact Or.inr (by show ((0 : Int) + (7 : Nat) ≤ _); omega)))
        refine lv_tableOut (tgt := 118) hx hb dX3_readLine_39 (Or.inl h_s) (by decide) ?_
        refine lv_aload_n hx hb dX3_readLine_118 rfl (lv_at hl 0 rfl) ?_
        have hMs := ml_of hD [true, true, false, true, true, false, false, false, false, false, false, false, false, false, false, false] (wc := [(oc3 oR iR_faultNumber iR_faultPlace iR_tapeSize rR_tape iR_end iR_tokenKind iR_tokenFrom iR_tokenTo iR_tokenName iR_tokenKey iR_tokenWhole oC iR_courtTold rR_names rR_keys), (arI rR_tape kR_tape 900 fR_tape), (arL rR_keys kR_keys 10 fR_keys), (oc1 oC iC_nodes iC_words iC_chances iC_unsures iC_slips iC_throneNode iC_saidWorth iC_unit rC_kind rC_parts rC_partNodes rC_weights rC_weightSums rC_toldWorths rC_steps rC_below rC_above rC_unsureWords rC_unsureWorths)]) rfl
        have hFc := va_freeM hD hS hA _ hMs
        refine va_calli (va_runV (As := []) (rest := []) ⟨hx, hb, hml, hown, hts⟩ (tX3_readSaid l dC dI _ oR iR_faultNumber iR_faultPlace iR_tapeSize rR_tape fR_tape kR_tape iR_end iR_tokenKind iR_tokenFrom iR_tokenTo iR_tokenName iR_tokenKey iR_tokenWhole oC iR_courtTold rR_names rR_keys fR_keys kR_keys iC_nodes iC_words iC_chances iC_unsures iC_slips iC_throneNode iC_saidWorth iC_unit rC_kind rC_parts rC_partNodes rC_weights rC_weightSums rC_toldWorths rC_steps rC_below rC_above rC_unsureWords rC_unsureWorths b_iR_tapeSize b_iR_courtTold b_iC_nodes b_iC_unsures b_iC_throneNode) (cwV 0 hts (wd_V wd_351 wd_352 wd_353 wd_15 (wd_c wd_354)) rfl rfl rfl dv_yX3_readSaid_0 ⟨Nat.le_of_ble_eq_true rfl, Nat.le_of_ble_eq_true rfl⟩) ⟨Pw.fb, recvX3 hK hP (q0 := 0) rfl, fun U hU hW => Pw.to (hP.ms _ hMs) (hD.ms _ hMs) (hK.ms [true, false, true, false, false, false, false, false, false, false, false, false, false, false] rfl) hE hS hFc hU hW⟩ rfl rfl hl.1 rfl (lv_room (Nat.le_of_ble_eq_true rfl)) dX3_readLine_119 ⟨Nat.le_of_ble_eq_true rfl, Nat.le_of_ble_eq_true rfl⟩) hS (fun q _ h => hFc q h) hFc (fun r u t H locs ht hvm hw hB hz1 hk1 hS => ?_)
        have hru9 := hw.2
        have hw := hw.1
        refine ex_9_1 hB (fun x_2319 x_2320 x_2321 x_2322 x_2323 y_2324 x_2325 x_2326 x_2327 e_x_2319_0 hB => ?_)
        obtain ⟨hP, hD⟩ := Bw.goN (ws' := [(oc3 oR x_2319 x_2320 iR_tapeSize rR_tape iR_end x_2321 x_2322 x_2323 y_2324 x_2325 x_2326 oC iR_courtTold rR_names rR_keys), (arI rR_tape kR_tape 900 fR_tape), (arL rR_names kR_names 18 fR_names), (arL rR_keys kR_keys 10 fR_keys), (oc1 oC iC_nodes iC_words iC_chances iC_unsures iC_slips iC_throneNode x_2327 iC_unit rC_kind rC_parts rC_partNodes rC_weights rC_weightSums rC_toldWorths rC_steps rC_below rC_above rC_unsureWords rC_unsureWorths), (arI rC_kind kC_kind 18 fC_kind), (arI rC_parts kC_parts 18 fC_parts), (arI rC_partNodes kC_partNodes 72 fC_partNodes), (arI rC_weights kC_weights 72 fC_weights), (arI rC_weightSums kC_weightSums 18 fC_weightSums), (arI rC_toldWorths kC_toldWorths 18 fC_toldWorths), (arI rC_steps kC_steps 18 fC_steps), (arI rC_below kC_below 18 fC_below), (arI rC_above kC_above 18 fC_above), (arI rC_unsureWords kC_unsureWords 4 fC_unsureWords), (arI rC_unsureWorths kC_unsureWorths 4 fC_unsureWorths)]) hB rfl ht hP hD _ hMs hk1 hFc rfl
        clear hz1 hk1 hvm ht hB hMs
        rw [← hru9] at e_x_2319_0
        obtain ⟨x_2328, rfl⟩ : ∃ z, z = r := ⟨_, rfl⟩
        have hG := hG.trans (un10_eq e_x_2319_0)
        have bx_2328 := hw.1
        have dx_2328 := bz_tb bx_2328
        exact wq_z (v := x_2328) hx hb hr (bz_nar bx_2328) (cI x_2328) ⟨⟨bx_2328, trivial⟩, (cI_of x_2328)⟩ (fun t ht hW => ⟨x_2319, x_2320, x_2321, x_2322, x_2323, y_2324, x_2325, x_2326, iR_courtTold, fR_names, iC_nodes, iC_words, iC_chances, iC_unsures, iC_slips, iC_throneNode, x_2327, iC_unit, fC_kind, fC_parts, fC_partNodes, fC_weights, fC_weightSums, fC_toldWorths, fC_steps, fC_below, fC_above, fC_unsureWords, fC_unsureWorths, b_iR_courtTold, b_iC_nodes, b_iC_unsures, b_iC_throneNode, a_fC_parts, a_fC_partNodes, a_fC_unsureWords, (cI_tup hG), Bw.to hP hD hK ht hW⟩) hS dX3_readLine_122 hlocks
      · skip
        have hG := hG.trans (sw_out (by first | exact Or.inl h_s | exact Or.inr (by show ((0 : Int) + (7 : Nat) ≤ _); omega)))
        refine lv_tableOut (tgt := 118) hx hb dX3_readLine_39 (Or.inr h_s) (by decide) ?_
        refine lv_aload_n hx hb dX3_readLine_118 rfl (lv_at hl 0 rfl) ?_
        have hMs := ml_of hD [true, true, false, true, true, false, false, false, false, false, false, false, false, false, false, false] (wc := [(oc3 oR iR_faultNumber iR_faultPlace iR_tapeSize rR_tape iR_end iR_tokenKind iR_tokenFrom iR_tokenTo iR_tokenName iR_tokenKey iR_tokenWhole oC iR_courtTold rR_names rR_keys), (arI rR_tape kR_tape 900 fR_tape), (arL rR_keys kR_keys 10 fR_keys), (oc1 oC iC_nodes iC_words iC_chances iC_unsures iC_slips iC_throneNode iC_saidWorth iC_unit rC_kind rC_parts rC_partNodes rC_weights rC_weightSums rC_toldWorths rC_steps rC_below rC_above rC_unsureWords rC_unsureWorths)]) rfl
        have hFc := va_freeM hD hS hA _ hMs
        refine va_calli (va_runV (As := []) (rest := []) ⟨hx, hb, hml, hown, hts⟩ (tX3_readSaid l dC dI _ oR iR_faultNumber iR_faultPlace iR_tapeSize rR_tape fR_tape kR_tape iR_end iR_tokenKind iR_tokenFrom iR_tokenTo iR_tokenName iR_tokenKey iR_tokenWhole oC iR_courtTold rR_names rR_keys fR_keys kR_keys iC_nodes iC_words iC_chances iC_unsures iC_slips iC_throneNode iC_saidWorth iC_unit rC_kind rC_parts rC_partNodes rC_weights rC_weightSums rC_toldWorths rC_steps rC_below rC_above rC_unsureWords rC_unsureWorths b_iR_tapeSize b_iR_courtTold b_iC_nodes b_iC_unsures b_iC_throneNode) (cwV 0 hts (wd_V wd_351 wd_352 wd_353 wd_15 (wd_c wd_354)) rfl rfl rfl dv_yX3_readSaid_0 ⟨Nat.le_of_ble_eq_true rfl, Nat.le_of_ble_eq_true rfl⟩) ⟨Pw.fb, recvX3 hK hP (q0 := 0) rfl, fun U hU hW => Pw.to (hP.ms _ hMs) (hD.ms _ hMs) (hK.ms [true, false, true, false, false, false, false, false, false, false, false, false, false, false] rfl) hE hS hFc hU hW⟩ rfl rfl hl.1 rfl (lv_room (Nat.le_of_ble_eq_true rfl)) dX3_readLine_119 ⟨Nat.le_of_ble_eq_true rfl, Nat.le_of_ble_eq_true rfl⟩) hS (fun q _ h => hFc q h) hFc (fun r u t H locs ht hvm hw hB hz1 hk1 hS => ?_)
        have hru9 := hw.2
        have hw := hw.1
        refine ex_9_1 hB (fun x_2329 x_2330 x_2331 x_2332 x_2333 y_2334 x_2335 x_2336 x_2337 e_x_2329_0 hB => ?_)
        obtain ⟨hP, hD⟩ := Bw.goN (ws' := [(oc3 oR x_2329 x_2330 iR_tapeSize rR_tape iR_end x_2331 x_2332 x_2333 y_2334 x_2335 x_2336 oC iR_courtTold rR_names rR_keys), (arI rR_tape kR_tape 900 fR_tape), (arL rR_names kR_names 18 fR_names), (arL rR_keys kR_keys 10 fR_keys), (oc1 oC iC_nodes iC_words iC_chances iC_unsures iC_slips iC_throneNode x_2337 iC_unit rC_kind rC_parts rC_partNodes rC_weights rC_weightSums rC_toldWorths rC_steps rC_below rC_above rC_unsureWords rC_unsureWorths), (arI rC_kind kC_kind 18 fC_kind), (arI rC_parts kC_parts 18 fC_parts), (arI rC_partNodes kC_partNodes 72 fC_partNodes), (arI rC_weights kC_weights 72 fC_weights), (arI rC_weightSums kC_weightSums 18 fC_weightSums), (arI rC_toldWorths kC_toldWorths 18 fC_toldWorths), (arI rC_steps kC_steps 18 fC_steps), (arI rC_below kC_below 18 fC_below), (arI rC_above kC_above 18 fC_above), (arI rC_unsureWords kC_unsureWords 4 fC_unsureWords), (arI rC_unsureWorths kC_unsureWorths 4 fC_unsureWorths)]) hB rfl ht hP hD _ hMs hk1 hFc rfl
        clear hz1 hk1 hvm ht hB hMs
        rw [← hru9] at e_x_2329_0
        obtain ⟨x_2338, rfl⟩ : ∃ z, z = r := ⟨_, rfl⟩
        have hG := hG.trans (un10_eq e_x_2329_0)
        have bx_2338 := hw.1
        have dx_2338 := bz_tb bx_2338
        exact wq_z (v := x_2338) hx hb hr (bz_nar bx_2338) (cI x_2338) ⟨⟨bx_2338, trivial⟩, (cI_of x_2338)⟩ (fun t ht hW => ⟨x_2329, x_2330, x_2331, x_2332, x_2333, y_2334, x_2335, x_2336, iR_courtTold, fR_names, iC_nodes, iC_words, iC_chances, iC_unsures, iC_slips, iC_throneNode, x_2337, iC_unit, fC_kind, fC_parts, fC_partNodes, fC_weights, fC_weightSums, fC_toldWorths, fC_steps, fC_below, fC_above, fC_unsureWords, fC_unsureWorths, b_iR_courtTold, b_iC_nodes, b_iC_unsures, b_iC_throneNode, a_fC_parts, a_fC_partNodes, a_fC_unsureWords, (cI_tup hG), Bw.to hP hD hK ht hW⟩) hS dX3_readLine_122 hlocks
      · skip
        have hG := hG.trans (sw_in (j := 0) (h_s.trans (by decide)) rfl)
        refine lv_tableIn (off := 46) (tgt := 85) hx hb dX3_readLine_39 (by rw [h_s]; decide) (by rw [h_s]; decide) (by rw [h_s]; rfl) (by decide) ?_
        refine lv_aload_n hx hb dX3_readLine_85 rfl (lv_at hl 0 rfl) ?_
        have hMs := ml_of hD [true, true, true, true, true, true, true, false, false, true, true, true, true, true, false, false] (wc := [(oc3 oR iR_faultNumber iR_faultPlace iR_tapeSize rR_tape iR_end iR_tokenKind iR_tokenFrom iR_tokenTo iR_tokenName iR_tokenKey iR_tokenWhole oC iR_courtTold rR_names rR_keys), (arI rR_tape kR_tape 900 fR_tape), (arL rR_names kR_names 18 fR_names), (arL rR_keys kR_keys 10 fR_keys), (oc1 oC iC_nodes iC_words iC_chances iC_unsures iC_slips iC_throneNode iC_saidWorth iC_unit rC_kind rC_parts rC_partNodes rC_weights rC_weightSums rC_toldWorths rC_steps rC_below rC_above rC_unsureWords rC_unsureWorths), (arI rC_kind kC_kind 18 fC_kind), (arI rC_parts kC_parts 18 fC_parts), (arI rC_weightSums kC_weightSums 18 fC_weightSums), (arI rC_toldWorths kC_toldWorths 18 fC_toldWorths), (arI rC_steps kC_steps 18 fC_steps), (arI rC_below kC_below 18 fC_below), (arI rC_above kC_above 18 fC_above)]) rfl
        have hFc := va_freeM hD hS hA _ hMs
        refine va_calli (va_runV (As := []) (rest := []) ⟨hx, hb, hml, hown, hts⟩ (tX3_readWord l dC dI _ oR iR_faultNumber iR_faultPlace iR_tapeSize rR_tape fR_tape kR_tape iR_end iR_tokenKind iR_tokenFrom iR_tokenTo iR_tokenName iR_tokenKey iR_tokenWhole oC iR_courtTold rR_names fR_names kR_names rR_keys fR_keys kR_keys iC_nodes iC_words iC_chances iC_unsures iC_slips iC_throneNode iC_saidWorth iC_unit rC_kind fC_kind kC_kind rC_parts fC_parts kC_parts rC_partNodes rC_weights rC_weightSums fC_weightSums kC_weightSums rC_toldWorths fC_toldWorths kC_toldWorths rC_steps fC_steps kC_steps rC_below fC_below kC_below rC_above fC_above kC_above rC_unsureWords rC_unsureWorths b_iR_tapeSize b_iR_courtTold b_iC_nodes b_iC_unsures b_iC_throneNode a_fC_parts) (cwV 0 hts (wd_V wd_267 wd_268 wd_269 wd_15 (wd_c wd_270)) rfl rfl rfl dv_yX3_readWord_0 ⟨Nat.le_of_ble_eq_true rfl, Nat.le_of_ble_eq_true rfl⟩) ⟨Pw.fb, recvX3 hK hP (q0 := 0) rfl, fun U hU hW => Pw.to (hP.ms _ hMs) (hD.ms _ hMs) (hK.ms [true, true, true, true, true, false, false, true, true, true, true, true, false, false] rfl) hE hS hFc hU hW⟩ rfl rfl hl.1 rfl (lv_room (Nat.le_of_ble_eq_true rfl)) dX3_readLine_86 ⟨Nat.le_of_ble_eq_true rfl, Nat.le_of_ble_eq_true rfl⟩) hS (fun q _ h => hFc q h) hFc (fun r u t H locs ht hvm hw hB hz1 hk1 hS => ?_)
        have hru9 := hw.2
        have hw := hw.1
        refine ex_20_3 hB (fun x_2339 x_2340 x_2341 x_2342 x_2343 y_2344 x_2345 x_2346 f_2347 x_2348 x_2349 x_2350 x_2351 f_2352 f_2353 f_2354 f_2355 f_2356 f_2357 f_2358 b_x_2348 a_f_2353 e_x_2339_0 hB => ?_)
        obtain ⟨hP, hD⟩ := Bw.goN (ws' := [(oc3 oR x_2339 x_2340 iR_tapeSize rR_tape iR_end x_2341 x_2342 x_2343 y_2344 x_2345 x_2346 oC iR_courtTold rR_names rR_keys), (arI rR_tape kR_tape 900 fR_tape), (arL rR_names kR_names 18 f_2347), (arL rR_keys kR_keys 10 fR_keys), (oc1 oC x_2348 x_2349 x_2350 iC_unsures iC_slips iC_throneNode iC_saidWorth x_2351 rC_kind rC_parts rC_partNodes rC_weights rC_weightSums rC_toldWorths rC_steps rC_below rC_above rC_unsureWords rC_unsureWorths), (arI rC_kind kC_kind 18 f_2352), (arI rC_parts kC_parts 18 f_2353), (arI rC_partNodes kC_partNodes 72 fC_partNodes), (arI rC_weights kC_weights 72 fC_weights), (arI rC_weightSums kC_weightSums 18 f_2354), (arI rC_toldWorths kC_toldWorths 18 f_2355), (arI rC_steps kC_steps 18 f_2356), (arI rC_below kC_below 18 f_2357), (arI rC_above kC_above 18 f_2358), (arI rC_unsureWords kC_unsureWords 4 fC_unsureWords), (arI rC_unsureWorths kC_unsureWorths 4 fC_unsureWorths)]) hB rfl ht hP hD _ hMs hk1 hFc rfl
        clear hz1 hk1 hvm ht hB hMs
        rw [← hru9] at e_x_2339_0
        obtain ⟨x_2359, rfl⟩ : ∃ z, z = r := ⟨_, rfl⟩
        have hG := hG.trans (un21_eq e_x_2339_0)
        have bx_2359 := hw.1
        have dx_2359 := bz_tb bx_2359
        exact wq_z (v := x_2359) hx hb hr (bz_nar bx_2359) (cI x_2359) ⟨⟨bx_2359, trivial⟩, (cI_of x_2359)⟩ (fun t ht hW => ⟨x_2339, x_2340, x_2341, x_2342, x_2343, y_2344, x_2345, x_2346, iR_courtTold, f_2347, x_2348, x_2349, x_2350, iC_unsures, iC_slips, iC_throneNode, iC_saidWorth, x_2351, f_2352, f_2353, fC_partNodes, fC_weights, f_2354, f_2355, f_2356, f_2357, f_2358, fC_unsureWords, fC_unsureWorths, b_iR_courtTold, b_x_2348, b_iC_unsures, b_iC_throneNode, a_f_2353, a_fC_partNodes, a_fC_unsureWords, (cI_tup hG), Bw.to hP hD hK ht hW⟩) hS dX3_readLine_89 hlocks
      · skip
        have hG := hG.trans (sw_in (j := 1) (h_s.trans (by decide)) rfl)
        refine lv_tableIn (off := 51) (tgt := 90) hx hb dX3_readLine_39 (by rw [h_s]; decide) (by rw [h_s]; decide) (by rw [h_s]; rfl) (by decide) ?_
        refine lv_aload_n hx hb dX3_readLine_90 rfl (lv_at hl 0 rfl) ?_
        refine lv_iconst (v := 1) hx hb dX3_readLine_91 (by decide) ?_
        have hMs := ml_of hD [true, true, true, true, true, true, true, true, true, true, true, true, true, true, false, false] (wc := [(oc3 oR iR_faultNumber iR_faultPlace iR_tapeSize rR_tape iR_end iR_tokenKind iR_tokenFrom iR_tokenTo iR_tokenName iR_tokenKey iR_tokenWhole oC iR_courtTold rR_names rR_keys), (arI rR_tape kR_tape 900 fR_tape), (arL rR_names kR_names 18 fR_names), (arL rR_keys kR_keys 10 fR_keys), (oc1 oC iC_nodes iC_words iC_chances iC_unsures iC_slips iC_throneNode iC_saidWorth iC_unit rC_kind rC_parts rC_partNodes rC_weights rC_weightSums rC_toldWorths rC_steps rC_below rC_above rC_unsureWords rC_unsureWorths), (arI rC_kind kC_kind 18 fC_kind), (arI rC_parts kC_parts 18 fC_parts), (arI rC_partNodes kC_partNodes 72 fC_partNodes), (arI rC_weights kC_weights 72 fC_weights), (arI rC_weightSums kC_weightSums 18 fC_weightSums), (arI rC_toldWorths kC_toldWorths 18 fC_toldWorths), (arI rC_steps kC_steps 18 fC_steps), (arI rC_below kC_below 18 fC_below), (arI rC_above kC_above 18 fC_above)]) rfl
        have hFc := va_freeM hD hS hA _ hMs
        refine va_calli (va_runV (As := [.int 1]) (rest := []) ⟨hx, hb, hml, hown, hts⟩ (tX3_readRuler l dC dI _ oR iR_faultNumber iR_faultPlace iR_tapeSize rR_tape fR_tape kR_tape iR_end iR_tokenKind iR_tokenFrom iR_tokenTo iR_tokenName iR_tokenKey iR_tokenWhole oC iR_courtTold rR_names fR_names kR_names rR_keys fR_keys kR_keys iC_nodes iC_words iC_chances iC_unsures iC_slips iC_throneNode iC_saidWorth iC_unit rC_kind fC_kind kC_kind rC_parts fC_parts kC_parts rC_partNodes fC_partNodes kC_partNodes rC_weights fC_weights kC_weights rC_weightSums fC_weightSums kC_weightSums rC_toldWorths fC_toldWorths kC_toldWorths rC_steps fC_steps kC_steps rC_below fC_below kC_below rC_above fC_above kC_above rC_unsureWords rC_unsureWorths 1 b_iR_tapeSize b_iR_courtTold b_iC_nodes b_iC_unsures b_iC_throneNode a_fC_parts a_fC_partNodes) (cwV 1 hts (wd_V wd_296 wd_297 wd_298 wd_15 (wd_c wd_299)) rfl rfl rfl dv_yX3_readRuler_1 ⟨Nat.le_of_ble_eq_true rfl, Nat.le_of_ble_eq_true rfl⟩) ⟨Pw.fb, recvX3 hK hP (q0 := 0) rfl, fun U hU hW => Pw.to (hP.ms _ hMs) (hD.ms _ hMs) (hK.ms [true, true, true, true, true, true, true, true, true, true, true, true, false, false] rfl) hE hS hFc hU hW⟩ rfl rfl hl.1 rfl (lv_room (Nat.le_of_ble_eq_true rfl)) dX3_readLine_92 ⟨Nat.le_of_ble_eq_true rfl, Nat.le_of_ble_eq_true rfl⟩) hS (fun q _ h => hFc q h) hFc (fun r u t H locs ht hvm hw hB hz1 hk1 hS => ?_)
        have hru9 := hw.2
        have hw := hw.1
        refine ex_22_4 hB (fun x_2360 x_2361 x_2362 x_2363 x_2364 y_2365 x_2366 x_2367 f_2368 x_2369 x_2370 x_2371 x_2372 f_2373 f_2374 f_2375 f_2376 f_2377 f_2378 f_2379 f_2380 f_2381 b_x_2369 a_f_2374 a_f_2375 e_x_2360_0 hB => ?_)
        obtain ⟨hP, hD⟩ := Bw.goN (ws' := [(oc3 oR x_2360 x_2361 iR_tapeSize rR_tape iR_end x_2362 x_2363 x_2364 y_2365 x_2366 x_2367 oC iR_courtTold rR_names rR_keys), (arI rR_tape kR_tape 900 fR_tape), (arL rR_names kR_names 18 f_2368), (arL rR_keys kR_keys 10 fR_keys), (oc1 oC x_2369 x_2370 x_2371 iC_unsures iC_slips iC_throneNode iC_saidWorth x_2372 rC_kind rC_parts rC_partNodes rC_weights rC_weightSums rC_toldWorths rC_steps rC_below rC_above rC_unsureWords rC_unsureWorths), (arI rC_kind kC_kind 18 f_2373), (arI rC_parts kC_parts 18 f_2374), (arI rC_partNodes kC_partNodes 72 f_2375), (arI rC_weights kC_weights 72 f_2376), (arI rC_weightSums kC_weightSums 18 f_2377), (arI rC_toldWorths kC_toldWorths 18 f_2378), (arI rC_steps kC_steps 18 f_2379), (arI rC_below kC_below 18 f_2380), (arI rC_above kC_above 18 f_2381), (arI rC_unsureWords kC_unsureWords 4 fC_unsureWords), (arI rC_unsureWorths kC_unsureWorths 4 fC_unsureWorths)]) hB rfl ht hP hD _ hMs hk1 hFc rfl
        clear hz1 hk1 hvm ht hB hMs
        rw [← hru9] at e_x_2360_0
        obtain ⟨x_2382, rfl⟩ : ∃ z, z = r := ⟨_, rfl⟩
        have hG := hG.trans (un23_eq e_x_2360_0)
        have bx_2382 := hw.1
        have dx_2382 := bz_tb bx_2382
        exact wq_z (v := x_2382) hx hb hr (bz_nar bx_2382) (cI x_2382) ⟨⟨bx_2382, trivial⟩, (cI_of x_2382)⟩ (fun t ht hW => ⟨x_2360, x_2361, x_2362, x_2363, x_2364, y_2365, x_2366, x_2367, iR_courtTold, f_2368, x_2369, x_2370, x_2371, iC_unsures, iC_slips, iC_throneNode, iC_saidWorth, x_2372, f_2373, f_2374, f_2375, f_2376, f_2377, f_2378, f_2379, f_2380, f_2381, fC_unsureWords, fC_unsureWorths, b_iR_courtTold, b_x_2369, b_iC_unsures, b_iC_throneNode, a_f_2374, a_f_2375, a_fC_unsureWords, (cI_tup hG), Bw.to hP hD hK ht hW⟩) hS dX3_readLine_95 hlocks
      · skip
        have hG := hG.trans (sw_in (j := 2) (h_s.trans (by decide)) rfl)
        refine lv_tableIn (off := 57) (tgt := 96) hx hb dX3_readLine_39 (by rw [h_s]; decide) (by rw [h_s]; decide) (by rw [h_s]; rfl) (by decide) ?_
        refine lv_aload_n hx hb dX3_readLine_96 rfl (lv_at hl 0 rfl) ?_
        refine lv_iconst (v := 2) hx hb dX3_readLine_97 (by decide) ?_
        have hMs := ml_of hD [true, true, true, true, true, true, true, true, true, true, true, true, true, true, false, false] (wc := [(oc3 oR iR_faultNumber iR_faultPlace iR_tapeSize rR_tape iR_end iR_tokenKind iR_tokenFrom iR_tokenTo iR_tokenName iR_tokenKey iR_tokenWhole oC iR_courtTold rR_names rR_keys), (arI rR_tape kR_tape 900 fR_tape), (arL rR_names kR_names 18 fR_names), (arL rR_keys kR_keys 10 fR_keys), (oc1 oC iC_nodes iC_words iC_chances iC_unsures iC_slips iC_throneNode iC_saidWorth iC_unit rC_kind rC_parts rC_partNodes rC_weights rC_weightSums rC_toldWorths rC_steps rC_below rC_above rC_unsureWords rC_unsureWorths), (arI rC_kind kC_kind 18 fC_kind), (arI rC_parts kC_parts 18 fC_parts), (arI rC_partNodes kC_partNodes 72 fC_partNodes), (arI rC_weights kC_weights 72 fC_weights), (arI rC_weightSums kC_weightSums 18 fC_weightSums), (arI rC_toldWorths kC_toldWorths 18 fC_toldWorths), (arI rC_steps kC_steps 18 fC_steps), (arI rC_below kC_below 18 fC_below), (arI rC_above kC_above 18 fC_above)]) rfl
        have hFc := va_freeM hD hS hA _ hMs
        refine va_calli (va_runV (As := [.int 2]) (rest := []) ⟨hx, hb, hml, hown, hts⟩ (tX3_readRuler l dC dI _ oR iR_faultNumber iR_faultPlace iR_tapeSize rR_tape fR_tape kR_tape iR_end iR_tokenKind iR_tokenFrom iR_tokenTo iR_tokenName iR_tokenKey iR_tokenWhole oC iR_courtTold rR_names fR_names kR_names rR_keys fR_keys kR_keys iC_nodes iC_words iC_chances iC_unsures iC_slips iC_throneNode iC_saidWorth iC_unit rC_kind fC_kind kC_kind rC_parts fC_parts kC_parts rC_partNodes fC_partNodes kC_partNodes rC_weights fC_weights kC_weights rC_weightSums fC_weightSums kC_weightSums rC_toldWorths fC_toldWorths kC_toldWorths rC_steps fC_steps kC_steps rC_below fC_below kC_below rC_above fC_above kC_above rC_unsureWords rC_unsureWorths 2 b_iR_tapeSize b_iR_courtTold b_iC_nodes b_iC_unsures b_iC_throneNode a_fC_parts a_fC_partNodes) (cwV 1 hts (wd_V wd_296 wd_297 wd_298 wd_15 (wd_c wd_299)) rfl rfl rfl dv_yX3_readRuler_1 ⟨Nat.le_of_ble_eq_true rfl, Nat.le_of_ble_eq_true rfl⟩) ⟨Pw.fb, recvX3 hK hP (q0 := 0) rfl, fun U hU hW => Pw.to (hP.ms _ hMs) (hD.ms _ hMs) (hK.ms [true, true, true, true, true, true, true, true, true, true, true, true, false, false] rfl) hE hS hFc hU hW⟩ rfl rfl hl.1 rfl (lv_room (Nat.le_of_ble_eq_true rfl)) dX3_readLine_98 ⟨Nat.le_of_ble_eq_true rfl, Nat.le_of_ble_eq_true rfl⟩) hS (fun q _ h => hFc q h) hFc (fun r u t H locs ht hvm hw hB hz1 hk1 hS => ?_)
        have hru9 := hw.2
        have hw := hw.1
        refine ex_22_4 hB (fun x_2383 x_2384 x_2385 x_2386 x_2387 y_2388 x_2389 x_2390 f_2391 x_2392 x_2393 x_2394 x_2395 f_2396 f_2397 f_2398 f_2399 f_2400 f_2401 f_2402 f_2403 f_2404 b_x_2392 a_f_2397 a_f_2398 e_x_2383_0 hB => ?_)
        obtain ⟨hP, hD⟩ := Bw.goN (ws' := [(oc3 oR x_2383 x_2384 iR_tapeSize rR_tape iR_end x_2385 x_2386 x_2387 y_2388 x_2389 x_2390 oC iR_courtTold rR_names rR_keys), (arI rR_tape kR_tape 900 fR_tape), (arL rR_names kR_names 18 f_2391), (arL rR_keys kR_keys 10 fR_keys), (oc1 oC x_2392 x_2393 x_2394 iC_unsures iC_slips iC_throneNode iC_saidWorth x_2395 rC_kind rC_parts rC_partNodes rC_weights rC_weightSums rC_toldWorths rC_steps rC_below rC_above rC_unsureWords rC_unsureWorths), (arI rC_kind kC_kind 18 f_2396), (arI rC_parts kC_parts 18 f_2397), (arI rC_partNodes kC_partNodes 72 f_2398), (arI rC_weights kC_weights 72 f_2399), (arI rC_weightSums kC_weightSums 18 f_2400), (arI rC_toldWorths kC_toldWorths 18 f_2401), (arI rC_steps kC_steps 18 f_2402), (arI rC_below kC_below 18 f_2403), (arI rC_above kC_above 18 f_2404), (arI rC_unsureWords kC_unsureWords 4 fC_unsureWords), (arI rC_unsureWorths kC_unsureWorths 4 fC_unsureWorths)]) hB rfl ht hP hD _ hMs hk1 hFc rfl
        clear hz1 hk1 hvm ht hB hMs
        rw [← hru9] at e_x_2383_0
        obtain ⟨x_2405, rfl⟩ : ∃ z, z = r := ⟨_, rfl⟩
        have hG := hG.trans (un23_eq e_x_2383_0)
        have bx_2405 := hw.1
        have dx_2405 := bz_tb bx_2405
        exact wq_z (v := x_2405) hx hb hr (bz_nar bx_2405) (cI x_2405) ⟨⟨bx_2405, trivial⟩, (cI_of x_2405)⟩ (fun t ht hW => ⟨x_2383, x_2384, x_2385, x_2386, x_2387, y_2388, x_2389, x_2390, iR_courtTold, f_2391, x_2392, x_2393, x_2394, iC_unsures, iC_slips, iC_throneNode, iC_saidWorth, x_2395, f_2396, f_2397, f_2398, f_2399, f_2400, f_2401, f_2402, f_2403, f_2404, fC_unsureWords, fC_unsureWorths, b_iR_courtTold, b_x_2392, b_iC_unsures, b_iC_throneNode, a_f_2397, a_f_2398, a_fC_unsureWords, (cI_tup hG), Bw.to hP hD hK ht hW⟩) hS dX3_readLine_101 hlocks
      · skip
        have hG := hG.trans (sw_in (j := 3) (h_s.trans (by decide)) rfl)
        refine lv_tableIn (off := 63) (tgt := 102) hx hb dX3_readLine_39 (by rw [h_s]; decide) (by rw [h_s]; decide) (by rw [h_s]; rfl) (by decide) ?_
        refine lv_aload_n hx hb dX3_readLine_102 rfl (lv_at hl 0 rfl) ?_
        refine lv_iconst (v := 3) hx hb dX3_readLine_103 (by decide) ?_
        have hMs := ml_of hD [true, true, true, true, true, true, true, true, true, true, true, true, true, true, false, false] (wc := [(oc3 oR iR_faultNumber iR_faultPlace iR_tapeSize rR_tape iR_end iR_tokenKind iR_tokenFrom iR_tokenTo iR_tokenName iR_tokenKey iR_tokenWhole oC iR_courtTold rR_names rR_keys), (arI rR_tape kR_tape 900 fR_tape), (arL rR_names kR_names 18 fR_names), (arL rR_keys kR_keys 10 fR_keys), (oc1 oC iC_nodes iC_words iC_chances iC_unsures iC_slips iC_throneNode iC_saidWorth iC_unit rC_kind rC_parts rC_partNodes rC_weights rC_weightSums rC_toldWorths rC_steps rC_below rC_above rC_unsureWords rC_unsureWorths), (arI rC_kind kC_kind 18 fC_kind), (arI rC_parts kC_parts 18 fC_parts), (arI rC_partNodes kC_partNodes 72 fC_partNodes), (arI rC_weights kC_weights 72 fC_weights), (arI rC_weightSums kC_weightSums 18 fC_weightSums), (arI rC_toldWorths kC_toldWorths 18 fC_toldWorths), (arI rC_steps kC_steps 18 fC_steps), (arI rC_below kC_below 18 fC_below), (arI rC_above kC_above 18 fC_above)]) rfl
        have hFc := va_freeM hD hS hA _ hMs
        refine va_calli (va_runV (As := [.int 3]) (rest := []) ⟨hx, hb, hml, hown, hts⟩ (tX3_readRuler l dC dI _ oR iR_faultNumber iR_faultPlace iR_tapeSize rR_tape fR_tape kR_tape iR_end iR_tokenKind iR_tokenFrom iR_tokenTo iR_tokenName iR_tokenKey iR_tokenWhole oC iR_courtTold rR_names fR_names kR_names rR_keys fR_keys kR_keys iC_nodes iC_words iC_chances iC_unsures iC_slips iC_throneNode iC_saidWorth iC_unit rC_kind fC_kind kC_kind rC_parts fC_parts kC_parts rC_partNodes fC_partNodes kC_partNodes rC_weights fC_weights kC_weights rC_weightSums fC_weightSums kC_weightSums rC_toldWorths fC_toldWorths kC_toldWorths rC_steps fC_steps kC_steps rC_below fC_below kC_below rC_above fC_above kC_above rC_unsureWords rC_unsureWorths 3 b_iR_tapeSize b_iR_courtTold b_iC_nodes b_iC_unsures b_iC_throneNode a_fC_parts a_fC_partNodes) (cwV 1 hts (wd_V wd_296 wd_297 wd_298 wd_15 (wd_c wd_299)) rfl rfl rfl dv_yX3_readRuler_1 ⟨Nat.le_of_ble_eq_true rfl, Nat.le_of_ble_eq_true rfl⟩) ⟨Pw.fb, recvX3 hK hP (q0 := 0) rfl, fun U hU hW => Pw.to (hP.ms _ hMs) (hD.ms _ hMs) (hK.ms [true, true, true, true, true, true, true, true, true, true, true, true, false, false] rfl) hE hS hFc hU hW⟩ rfl rfl hl.1 rfl (lv_room (Nat.le_of_ble_eq_true rfl)) dX3_readLine_104 ⟨Nat.le_of_ble_eq_true rfl, Nat.le_of_ble_eq_true rfl⟩) hS (fun q _ h => hFc q h) hFc (fun r u t H locs ht hvm hw hB hz1 hk1 hS => ?_)
        have hru9 := hw.2
        have hw := hw.1
        refine ex_22_4 hB (fun x_2406 x_2407 x_2408 x_2409 x_2410 y_2411 x_2412 x_2413 f_2414 x_2415 x_2416 x_2417 x_2418 f_2419 f_2420 f_2421 f_2422 f_2423 f_2424 f_2425 f_2426 f_2427 b_x_2415 a_f_2420 a_f_2421 e_x_2406_0 hB => ?_)
        obtain ⟨hP, hD⟩ := Bw.goN (ws' := [(oc3 oR x_2406 x_2407 iR_tapeSize rR_tape iR_end x_2408 x_2409 x_2410 y_2411 x_2412 x_2413 oC iR_courtTold rR_names rR_keys), (arI rR_tape kR_tape 900 fR_tape), (arL rR_names kR_names 18 f_2414), (arL rR_keys kR_keys 10 fR_keys), (oc1 oC x_2415 x_2416 x_2417 iC_unsures iC_slips iC_throneNode iC_saidWorth x_2418 rC_kind rC_parts rC_partNodes rC_weights rC_weightSums rC_toldWorths rC_steps rC_below rC_above rC_unsureWords rC_unsureWorths), (arI rC_kind kC_kind 18 f_2419), (arI rC_parts kC_parts 18 f_2420), (arI rC_partNodes kC_partNodes 72 f_2421), (arI rC_weights kC_weights 72 f_2422), (arI rC_weightSums kC_weightSums 18 f_2423), (arI rC_toldWorths kC_toldWorths 18 f_2424), (arI rC_steps kC_steps 18 f_2425), (arI rC_below kC_below 18 f_2426), (arI rC_above kC_above 18 f_2427), (arI rC_unsureWords kC_unsureWords 4 fC_unsureWords), (arI rC_unsureWorths kC_unsureWorths 4 fC_unsureWorths)]) hB rfl ht hP hD _ hMs hk1 hFc rfl
        clear hz1 hk1 hvm ht hB hMs
        rw [← hru9] at e_x_2406_0
        obtain ⟨x_2428, rfl⟩ : ∃ z, z = r := ⟨_, rfl⟩
        have hG := hG.trans (un23_eq e_x_2406_0)
        have bx_2428 := hw.1
        have dx_2428 := bz_tb bx_2428
        exact wq_z (v := x_2428) hx hb hr (bz_nar bx_2428) (cI x_2428) ⟨⟨bx_2428, trivial⟩, (cI_of x_2428)⟩ (fun t ht hW => ⟨x_2406, x_2407, x_2408, x_2409, x_2410, y_2411, x_2412, x_2413, iR_courtTold, f_2414, x_2415, x_2416, x_2417, iC_unsures, iC_slips, iC_throneNode, iC_saidWorth, x_2418, f_2419, f_2420, f_2421, f_2422, f_2423, f_2424, f_2425, f_2426, f_2427, fC_unsureWords, fC_unsureWorths, b_iR_courtTold, b_x_2415, b_iC_unsures, b_iC_throneNode, a_f_2420, a_f_2421, a_fC_unsureWords, (cI_tup hG), Bw.to hP hD hK ht hW⟩) hS dX3_readLine_107 hlocks
      · skip
        have hG := hG.trans (sw_in (j := 4) (h_s.trans (by decide)) rfl)
        refine lv_tableIn (off := 41) (tgt := 80) hx hb dX3_readLine_39 (by rw [h_s]; decide) (by rw [h_s]; decide) (by rw [h_s]; rfl) (by decide) ?_
        refine lv_aload_n hx hb dX3_readLine_80 rfl (lv_at hl 0 rfl) ?_
        have hMs := ml_of hD [true, true, false, true, true, false, false, false, false, false, false, false, false, false, false, false] (wc := [(oc3 oR iR_faultNumber iR_faultPlace iR_tapeSize rR_tape iR_end iR_tokenKind iR_tokenFrom iR_tokenTo iR_tokenName iR_tokenKey iR_tokenWhole oC iR_courtTold rR_names rR_keys), (arI rR_tape kR_tape 900 fR_tape), (arL rR_keys kR_keys 10 fR_keys), (oc1 oC iC_nodes iC_words iC_chances iC_unsures iC_slips iC_throneNode iC_saidWorth iC_unit rC_kind rC_parts rC_partNodes rC_weights rC_weightSums rC_toldWorths rC_steps rC_below rC_above rC_unsureWords rC_unsureWorths)]) rfl
        have hFc := va_freeM hD hS hA _ hMs
        refine va_calli (va_runV (As := []) (rest := []) ⟨hx, hb, hml, hown, hts⟩ (tX3_readCourt l dC dI _ oR iR_faultNumber iR_faultPlace iR_tapeSize rR_tape fR_tape kR_tape iR_end iR_tokenKind iR_tokenFrom iR_tokenTo iR_tokenName iR_tokenKey iR_tokenWhole oC iR_courtTold rR_names rR_keys fR_keys kR_keys iC_nodes iC_words iC_chances iC_unsures iC_slips iC_throneNode iC_saidWorth iC_unit rC_kind rC_parts rC_partNodes rC_weights rC_weightSums rC_toldWorths rC_steps rC_below rC_above rC_unsureWords rC_unsureWorths b_iR_tapeSize b_iR_courtTold b_iC_nodes b_iC_unsures b_iC_throneNode) (cwV 0 hts (wd_V wd_258 wd_259 wd_260 wd_15 (wd_c wd_261)) rfl rfl rfl dv_yX3_readCourt_0 ⟨Nat.le_of_ble_eq_true rfl, Nat.le_of_ble_eq_true rfl⟩) ⟨Pw.fb, recvX3 hK hP (q0 := 0) rfl, fun U hU hW => Pw.to (hP.ms _ hMs) (hD.ms _ hMs) (hK.ms [true, false, true, false, false, false, false, false, false, false, false, false, false, false] rfl) hE hS hFc hU hW⟩ rfl rfl hl.1 rfl (lv_room (Nat.le_of_ble_eq_true rfl)) dX3_readLine_81 ⟨Nat.le_of_ble_eq_true rfl, Nat.le_of_ble_eq_true rfl⟩) hS (fun q _ h => hFc q h) hFc (fun r u t H locs ht hvm hw hB hz1 hk1 hS => ?_)
        have hru9 := hw.2
        have hw := hw.1
        refine ex_10_2 hB (fun x_2429 x_2430 x_2431 x_2432 x_2433 y_2434 x_2435 x_2436 x_2437 x_2438 b_x_2437 e_x_2429_0 hB => ?_)
        obtain ⟨hP, hD⟩ := Bw.goN (ws' := [(oc3 oR x_2429 x_2430 iR_tapeSize rR_tape iR_end x_2431 x_2432 x_2433 y_2434 x_2435 x_2436 oC x_2437 rR_names rR_keys), (arI rR_tape kR_tape 900 fR_tape), (arL rR_names kR_names 18 fR_names), (arL rR_keys kR_keys 10 fR_keys), (oc1 oC iC_nodes iC_words iC_chances iC_unsures x_2438 iC_throneNode iC_saidWorth iC_unit rC_kind rC_parts rC_partNodes rC_weights rC_weightSums rC_toldWorths rC_steps rC_below rC_above rC_unsureWords rC_unsureWorths), (arI rC_kind kC_kind 18 fC_kind), (arI rC_parts kC_parts 18 fC_parts), (arI rC_partNodes kC_partNodes 72 fC_partNodes), (arI rC_weights kC_weights 72 fC_weights), (arI rC_weightSums kC_weightSums 18 fC_weightSums), (arI rC_toldWorths kC_toldWorths 18 fC_toldWorths), (arI rC_steps kC_steps 18 fC_steps), (arI rC_below kC_below 18 fC_below), (arI rC_above kC_above 18 fC_above), (arI rC_unsureWords kC_unsureWords 4 fC_unsureWords), (arI rC_unsureWorths kC_unsureWorths 4 fC_unsureWorths)]) hB rfl ht hP hD _ hMs hk1 hFc rfl
        clear hz1 hk1 hvm ht hB hMs
        rw [← hru9] at e_x_2429_0
        obtain ⟨x_2439, rfl⟩ : ∃ z, z = r := ⟨_, rfl⟩
        have hG := hG.trans (un11_eq e_x_2429_0)
        have bx_2439 := hw.1
        have dx_2439 := bz_tb bx_2439
        exact wq_z (v := x_2439) hx hb hr (bz_nar bx_2439) (cI x_2439) ⟨⟨bx_2439, trivial⟩, (cI_of x_2439)⟩ (fun t ht hW => ⟨x_2429, x_2430, x_2431, x_2432, x_2433, y_2434, x_2435, x_2436, x_2437, fR_names, iC_nodes, iC_words, iC_chances, iC_unsures, x_2438, iC_throneNode, iC_saidWorth, iC_unit, fC_kind, fC_parts, fC_partNodes, fC_weights, fC_weightSums, fC_toldWorths, fC_steps, fC_below, fC_above, fC_unsureWords, fC_unsureWorths, b_x_2437, b_iC_nodes, b_iC_unsures, b_iC_throneNode, a_fC_parts, a_fC_partNodes, a_fC_unsureWords, (cI_tup hG), Bw.to hP hD hK ht hW⟩) hS dX3_readLine_84 hlocks
      · skip
        have hG := hG.trans (sw_in (j := 5) (h_s.trans (by decide)) rfl)
        refine lv_tableIn (off := 69) (tgt := 108) hx hb dX3_readLine_39 (by rw [h_s]; decide) (by rw [h_s]; decide) (by rw [h_s]; rfl) (by decide) ?_
        refine lv_aload_n hx hb dX3_readLine_108 rfl (lv_at hl 0 rfl) ?_
        have hMs := ml_of hD [true, true, true, true, true, false, false, false, false, false, false, false, false, false, false, false] (wc := [(oc3 oR iR_faultNumber iR_faultPlace iR_tapeSize rR_tape iR_end iR_tokenKind iR_tokenFrom iR_tokenTo iR_tokenName iR_tokenKey iR_tokenWhole oC iR_courtTold rR_names rR_keys), (arI rR_tape kR_tape 900 fR_tape), (arL rR_names kR_names 18 fR_names), (arL rR_keys kR_keys 10 fR_keys), (oc1 oC iC_nodes iC_words iC_chances iC_unsures iC_slips iC_throneNode iC_saidWorth iC_unit rC_kind rC_parts rC_partNodes rC_weights rC_weightSums rC_toldWorths rC_steps rC_below rC_above rC_unsureWords rC_unsureWorths)]) rfl
        have hFc := va_freeM hD hS hA _ hMs
        refine va_calli (va_runV (As := []) (rest := []) ⟨hx, hb, hml, hown, hts⟩ (tX3_readThrone l dC dI _ oR iR_faultNumber iR_faultPlace iR_tapeSize rR_tape fR_tape kR_tape iR_end iR_tokenKind iR_tokenFrom iR_tokenTo iR_tokenName iR_tokenKey iR_tokenWhole oC iR_courtTold rR_names fR_names kR_names rR_keys fR_keys kR_keys iC_nodes iC_words iC_chances iC_unsures iC_slips iC_throneNode iC_saidWorth iC_unit rC_kind rC_parts rC_partNodes rC_weights rC_weightSums rC_toldWorths rC_steps rC_below rC_above rC_unsureWords rC_unsureWorths b_iR_tapeSize b_iR_courtTold b_iC_nodes b_iC_unsures b_iC_throneNode) (cwV 0 hts (wd_V wd_329 wd_330 wd_331 wd_15 (wd_c wd_332)) rfl rfl rfl dv_yX3_readThrone_0 ⟨Nat.le_of_ble_eq_true rfl, Nat.le_of_ble_eq_true rfl⟩) ⟨Pw.fb, recvX3 hK hP (q0 := 0) rfl, fun U hU hW => Pw.to (hP.ms _ hMs) (hD.ms _ hMs) (hK.ms [true, true, true, false, false, false, false, false, false, false, false, false, false, false] rfl) hE hS hFc hU hW⟩ rfl rfl hl.1 rfl (lv_room (Nat.le_of_ble_eq_true rfl)) dX3_readLine_109 ⟨Nat.le_of_ble_eq_true rfl, Nat.le_of_ble_eq_true rfl⟩) hS (fun q _ h => hFc q h) hFc (fun r u t H locs ht hvm hw hB hz1 hk1 hS => ?_)
        have hru9 := hw.2
        have hw := hw.1
        refine ex_9_2 hB (fun x_2440 x_2441 x_2442 x_2443 x_2444 y_2445 x_2446 x_2447 x_2448 b_x_2448 e_x_2440_0 hB => ?_)
        obtain ⟨hP, hD⟩ := Bw.goN (ws' := [(oc3 oR x_2440 x_2441 iR_tapeSize rR_tape iR_end x_2442 x_2443 x_2444 y_2445 x_2446 x_2447 oC iR_courtTold rR_names rR_keys), (arI rR_tape kR_tape 900 fR_tape), (arL rR_names kR_names 18 fR_names), (arL rR_keys kR_keys 10 fR_keys), (oc1 oC iC_nodes iC_words iC_chances iC_unsures iC_slips x_2448 iC_saidWorth iC_unit rC_kind rC_parts rC_partNodes rC_weights rC_weightSums rC_toldWorths rC_steps rC_below rC_above rC_unsureWords rC_unsureWorths), (arI rC_kind kC_kind 18 fC_kind), (arI rC_parts kC_parts 18 fC_parts), (arI rC_partNodes kC_partNodes 72 fC_partNodes), (arI rC_weights kC_weights 72 fC_weights), (arI rC_weightSums kC_weightSums 18 fC_weightSums), (arI rC_toldWorths kC_toldWorths 18 fC_toldWorths), (arI rC_steps kC_steps 18 fC_steps), (arI rC_below kC_below 18 fC_below), (arI rC_above kC_above 18 fC_above), (arI rC_unsureWords kC_unsureWords 4 fC_unsureWords), (arI rC_unsureWorths kC_unsureWorths 4 fC_unsureWorths)]) hB rfl ht hP hD _ hMs hk1 hFc rfl
        clear hz1 hk1 hvm ht hB hMs
        rw [← hru9] at e_x_2440_0
        obtain ⟨x_2449, rfl⟩ : ∃ z, z = r := ⟨_, rfl⟩
        have hG := hG.trans (un10_eq e_x_2440_0)
        have bx_2449 := hw.1
        have dx_2449 := bz_tb bx_2449
        exact wq_z (v := x_2449) hx hb hr (bz_nar bx_2449) (cI x_2449) ⟨⟨bx_2449, trivial⟩, (cI_of x_2449)⟩ (fun t ht hW => ⟨x_2440, x_2441, x_2442, x_2443, x_2444, y_2445, x_2446, x_2447, iR_courtTold, fR_names, iC_nodes, iC_words, iC_chances, iC_unsures, iC_slips, x_2448, iC_saidWorth, iC_unit, fC_kind, fC_parts, fC_partNodes, fC_weights, fC_weightSums, fC_toldWorths, fC_steps, fC_below, fC_above, fC_unsureWords, fC_unsureWorths, b_iR_courtTold, b_iC_nodes, b_iC_unsures, b_x_2448, a_fC_parts, a_fC_partNodes, a_fC_unsureWords, (cI_tup hG), Bw.to hP hD hK ht hW⟩) hS dX3_readLine_112 hlocks
      · skip
        have hG := hG.trans (sw_in (j := 6) (h_s.trans (by decide)) rfl)
        refine lv_tableIn (off := 74) (tgt := 113) hx hb dX3_readLine_39 (by rw [h_s]; decide) (by rw [h_s]; decide) (by rw [h_s]; rfl) (by decide) ?_
        refine lv_aload_n hx hb dX3_readLine_113 rfl (lv_at hl 0 rfl) ?_
        have hMs := ml_of hD [true, true, true, true, true, true, false, false, false, false, false, false, false, false, true, true] (wc := [(oc3 oR iR_faultNumber iR_faultPlace iR_tapeSize rR_tape iR_end iR_tokenKind iR_tokenFrom iR_tokenTo iR_tokenName iR_tokenKey iR_tokenWhole oC iR_courtTold rR_names rR_keys), (arI rR_tape kR_tape 900 fR_tape), (arL rR_names kR_names 18 fR_names), (arL rR_keys kR_keys 10 fR_keys), (oc1 oC iC_nodes iC_words iC_chances iC_unsures iC_slips iC_throneNode iC_saidWorth iC_unit rC_kind rC_parts rC_partNodes rC_weights rC_weightSums rC_toldWorths rC_steps rC_below rC_above rC_unsureWords rC_unsureWorths), (arI rC_kind kC_kind 18 fC_kind), (arI rC_unsureWords kC_unsureWords 4 fC_unsureWords), (arI rC_unsureWorths kC_unsureWorths 4 fC_unsureWorths)]) rfl
        have hFc := va_freeM hD hS hA _ hMs
        refine va_calli (va_runV (As := []) (rest := []) ⟨hx, hb, hml, hown, hts⟩ (tX3_readUnsure l dC dI _ oR iR_faultNumber iR_faultPlace iR_tapeSize rR_tape fR_tape kR_tape iR_end iR_tokenKind iR_tokenFrom iR_tokenTo iR_tokenName iR_tokenKey iR_tokenWhole oC iR_courtTold rR_names fR_names kR_names rR_keys fR_keys kR_keys iC_nodes iC_words iC_chances iC_unsures iC_slips iC_throneNode iC_saidWorth iC_unit rC_kind fC_kind kC_kind rC_parts rC_partNodes rC_weights rC_weightSums rC_toldWorths rC_steps rC_below rC_above rC_unsureWords fC_unsureWords kC_unsureWords rC_unsureWorths fC_unsureWorths kC_unsureWorths b_iR_tapeSize b_iR_courtTold b_iC_nodes b_iC_unsures b_iC_throneNode a_fC_unsureWords) (cwV 0 hts (wd_V wd_334 wd_335 wd_336 wd_15 (wd_c wd_337)) rfl rfl rfl dv_yX3_readUnsure_0 ⟨Nat.le_of_ble_eq_true rfl, Nat.le_of_ble_eq_true rfl⟩) ⟨Pw.fb, recvX3 hK hP (q0 := 0) rfl, fun U hU hW => Pw.to (hP.ms _ hMs) (hD.ms _ hMs) (hK.ms [true, true, true, true, false, false, false, false, false, false, false, false, true, true] rfl) hE hS hFc hU hW⟩ rfl rfl hl.1 rfl (lv_room (Nat.le_of_ble_eq_true rfl)) dX3_readLine_114 ⟨Nat.le_of_ble_eq_true rfl, Nat.le_of_ble_eq_true rfl⟩) hS (fun q _ h => hFc q h) hFc (fun r u t H locs ht hvm hw hB hz1 hk1 hS => ?_)
        have hru9 := hw.2
        have hw := hw.1
        refine ex_11_3 hB (fun x_2450 x_2451 x_2452 x_2453 x_2454 y_2455 x_2456 x_2457 x_2458 f_2459 f_2460 b_x_2458 a_f_2459 e_x_2450_0 hB => ?_)
        obtain ⟨hP, hD⟩ := Bw.goN (ws' := [(oc3 oR x_2450 x_2451 iR_tapeSize rR_tape iR_end x_2452 x_2453 x_2454 y_2455 x_2456 x_2457 oC iR_courtTold rR_names rR_keys), (arI rR_tape kR_tape 900 fR_tape), (arL rR_names kR_names 18 fR_names), (arL rR_keys kR_keys 10 fR_keys), (oc1 oC iC_nodes iC_words iC_chances x_2458 iC_slips iC_throneNode iC_saidWorth iC_unit rC_kind rC_parts rC_partNodes rC_weights rC_weightSums rC_toldWorths rC_steps rC_below rC_above rC_unsureWords rC_unsureWorths), (arI rC_kind kC_kind 18 fC_kind), (arI rC_parts kC_parts 18 fC_parts), (arI rC_partNodes kC_partNodes 72 fC_partNodes), (arI rC_weights kC_weights 72 fC_weights), (arI rC_weightSums kC_weightSums 18 fC_weightSums), (arI rC_toldWorths kC_toldWorths 18 fC_toldWorths), (arI rC_steps kC_steps 18 fC_steps), (arI rC_below kC_below 18 fC_below), (arI rC_above kC_above 18 fC_above), (arI rC_unsureWords kC_unsureWords 4 f_2459), (arI rC_unsureWorths kC_unsureWorths 4 f_2460)]) hB rfl ht hP hD _ hMs hk1 hFc rfl
        clear hz1 hk1 hvm ht hB hMs
        rw [← hru9] at e_x_2450_0
        obtain ⟨x_2461, rfl⟩ : ∃ z, z = r := ⟨_, rfl⟩
        have hG := hG.trans (un12_eq e_x_2450_0)
        have bx_2461 := hw.1
        have dx_2461 := bz_tb bx_2461
        exact wq_z (v := x_2461) hx hb hr (bz_nar bx_2461) (cI x_2461) ⟨⟨bx_2461, trivial⟩, (cI_of x_2461)⟩ (fun t ht hW => ⟨x_2450, x_2451, x_2452, x_2453, x_2454, y_2455, x_2456, x_2457, iR_courtTold, fR_names, iC_nodes, iC_words, iC_chances, x_2458, iC_slips, iC_throneNode, iC_saidWorth, iC_unit, fC_kind, fC_parts, fC_partNodes, fC_weights, fC_weightSums, fC_toldWorths, fC_steps, fC_below, fC_above, f_2459, f_2460, b_iR_courtTold, b_iC_nodes, b_x_2458, b_iC_throneNode, a_fC_parts, a_fC_partNodes, a_f_2459, (cI_tup hG), Bw.to hP hD hK ht hW⟩) hS dX3_readLine_117 hlocks
    · skip
      have hG := hG.trans (if_pos c_2318)
      have gc_2318 := ti_eq c_2318 rfl kc_0
      refine lv_aload_n hx hb dX3_readLine_20 rfl (lv_at hl 0 rfl) ?_
      refine va_get (D := (dC, dI)) (ci := 3) (v := .int iR_tokenKey) (C := RX3) (T := TX3) (N := 15) hx hb hts inX3 hown hK hP 0 rfl rfl 9 (by decide) (hts _ wd_225) (fun _ h9 => h9) rfl dX3_readLine_21 ?_
      refine lv_iconst (v := 4) hx hb dX3_readLine_24 (by decide) ?_
      refine lv_icmp_eq (tgt := 35) hx hb dX3_readLine_25 (by decide) (fun c_2462 => ?_) (fun c_2462 => ?_)
      · skip
        have hG := hG.trans (if_pos c_2462)
        have gc_2462 := ti_eq c_2462 rfl kc_4
        refine lv_aload_n hx hb dX3_readLine_35 rfl (lv_at hl 0 rfl) ?_
        refine va_get (D := (dC, dI)) (ci := 3) (v := .int iR_tokenKey) (C := RX3) (T := TX3) (N := 15) hx hb hts inX3 hown hK hP 0 rfl rfl 9 (by decide) (hts _ wd_225) (fun _ h9 => h9) rfl dX3_readLine_36 ?_
        rcases (show iR_tokenKey.toInt < 0 ∨ 6 < iR_tokenKey.toInt ∨ iR_tokenKey.toInt = 0 ∨ iR_tokenKey.toInt = 1 ∨ iR_tokenKey.toInt = 2 ∨ iR_tokenKey.toInt = 3 ∨ iR_tokenKey.toInt = 4 ∨ iR_tokenKey.toInt = 5 ∨ iR_tokenKey.toInt = 6 by omega) with h_s | h_s | h_s | h_s | h_s | h_s | h_s | h_s | h_s
        · skip
          have hG := hG.trans (sw_out (by first | exact Or.inl h_s | exact Or.inr (by show ((0 : Int) + (7 : Nat) ≤ _); omega)))
          refine lv_tableOut (tgt := 118) hx hb dX3_readLine_39 (Or.inl h_s) (by decide) ?_
          refine lv_aload_n hx hb dX3_readLine_118 rfl (lv_at hl 0 rfl) ?_
          have hMs := ml_of hD [true, true, false, true, true, false, false, false, false, false, false, false, false, false, false, false] (wc := [(oc3 oR iR_faultNumber iR_faultPlace iR_tapeSize rR_tape iR_end iR_tokenKind iR_tokenFrom iR_tokenTo iR_tokenName iR_tokenKey iR_tokenWhole oC iR_courtTold rR_names rR_keys), (arI rR_tape kR_tape 900 fR_tape), (arL rR_keys kR_keys 10 fR_keys), (oc1 oC iC_nodes iC_words iC_chances iC_unsures iC_slips iC_throneNode iC_saidWorth iC_unit rC_kind rC_parts rC_partNodes rC_weights rC_weightSums rC_toldWorths rC_steps rC_below rC_above rC_unsureWords rC_unsureWorths)]) rfl
          have hFc := va_freeM hD hS hA _ hMs
          refine va_calli (va_runV (As := []) (rest := []) ⟨hx, hb, hml, hown, hts⟩ (tX3_readSaid l dC dI _ oR iR_faultNumber iR_faultPlace iR_tapeSize rR_tape fR_tape kR_tape iR_end iR_tokenKind iR_tokenFrom iR_tokenTo iR_tokenName iR_tokenKey iR_tokenWhole oC iR_courtTold rR_names rR_keys fR_keys kR_keys iC_nodes iC_words iC_chances iC_unsures iC_slips iC_throneNode iC_saidWorth iC_unit rC_kind rC_parts rC_partNodes rC_weights rC_weightSums rC_toldWorths rC_steps rC_below rC_above rC_unsureWords rC_unsureWorths b_iR_tapeSize b_iR_courtTold b_iC_nodes b_iC_unsures b_iC_throneNode) (cwV 0 hts (wd_V wd_351 wd_352 wd_353 wd_15 (wd_c wd_354)) rfl rfl rfl dv_yX3_readSaid_0 ⟨Nat.le_of_ble_eq_true rfl, Nat.le_of_ble_eq_true rfl⟩) ⟨Pw.fb, recvX3 hK hP (q0 := 0) rfl, fun U hU hW => Pw.to (hP.ms _ hMs) (hD.ms _ hMs) (hK.ms [true, false, true, false, false, false, false, false, false, false, false, false, false, false] rfl) hE hS hFc hU hW⟩ rfl rfl hl.1 rfl (lv_room (Nat.le_of_ble_eq_true rfl)) dX3_readLine_119 ⟨Nat.le_of_ble_eq_true rfl, Nat.le_of_ble_eq_true rfl⟩) hS (fun q _ h => hFc q h) hFc (fun r u t H locs ht hvm hw hB hz1 hk1 hS => ?_)
          have hru9 := hw.2
          have hw := hw.1
          refine ex_9_1 hB (fun x_2463 x_2464 x_2465 x_2466 x_2467 y_2468 x_2469 x_2470 x_2471 e_x_2463_0 hB => ?_)
          obtain ⟨hP, hD⟩ := Bw.goN (ws' := [(oc3 oR x_2463 x_2464 iR_tapeSize rR_tape iR_end x_2465 x_2466 x_2467 y_2468 x_2469 x_2470 oC iR_courtTold rR_names rR_keys), (arI rR_tape kR_tape 900 fR_tape), (arL rR_names kR_names 18 fR_names), (arL rR_keys kR_keys 10 fR_keys), (oc1 oC iC_nodes iC_words iC_chances iC_unsures iC_slips iC_throneNode x_2471 iC_unit rC_kind rC_parts rC_partNodes rC_weights rC_weightSums rC_toldWorths rC_steps rC_below rC_above rC_unsureWords rC_unsureWorths), (arI rC_kind kC_kind 18 fC_kind), (arI rC_parts kC_parts 18 fC_parts), (arI rC_partNodes kC_partNodes 72 fC_partNodes), (arI rC_weights kC_weights 72 fC_weights), (arI rC_weightSums kC_weightSums 18 fC_weightSums), (arI rC_toldWorths kC_toldWorths 18 fC_toldWorths), (arI rC_steps kC_steps 18 fC_steps), (arI rC_below kC_below 18 fC_below), (arI rC_above kC_above 18 fC_above), (arI rC_unsureWords kC_unsureWords 4 fC_unsureWords), (arI rC_unsureWorths kC_unsureWorths 4 fC_unsureWorths)]) hB rfl ht hP hD _ hMs hk1 hFc rfl
          clear hz1 hk1 hvm ht hB hMs
          rw [← hru9] at e_x_2463_0
          obtain ⟨x_2472, rfl⟩ : ∃ z, z = r := ⟨_, rfl⟩
          have hG := hG.trans (un10_eq e_x_2463_0)
          have bx_2472 := hw.1
          have dx_2472 := bz_tb bx_2472
          exact wq_z (v := x_2472) hx hb hr (bz_nar bx_2472) (cI x_2472) ⟨⟨bx_2472, trivial⟩, (cI_of x_2472)⟩ (fun t ht hW => ⟨x_2463, x_2464, x_2465, x_2466, x_2467, y_2468, x_2469, x_2470, iR_courtTold, fR_names, iC_nodes, iC_words, iC_chances, iC_unsures, iC_slips, iC_throneNode, x_2471, iC_unit, fC_kind, fC_parts, fC_partNodes, fC_weights, fC_weightSums, fC_toldWorths, fC_steps, fC_below, fC_above, fC_unsureWords, fC_unsureWorths, b_iR_courtTold, b_iC_nodes, b_iC_unsures, b_iC_throneNode, a_fC_parts, a_fC_partNodes, a_fC_unsureWords, (cI_tup hG), Bw.to hP hD hK ht hW⟩) hS dX3_readLine_122 hlocks
        · skip
          have hG := hG.trans (sw_out (by first | exact Or.inl h_s | exact Or.inr (by show ((0 : Int) + (7 : Nat) ≤ _); omega)))
          refine lv_tableOut (tgt := 118) hx hb dX3_readLine_39 (Or.inr h_s) (by decide) ?_
          refine lv_aload_n hx hb dX3_readLine_118 rfl (lv_at hl 0 rfl) ?_
          have hMs := ml_of hD [true, true, false, true, true, false, false, false, false, false, false, false, false, false, false, false] (wc := [(oc3 oR iR_faultNumber iR_faultPlace iR_tapeSize rR_tape iR_end iR_tokenKind iR_tokenFrom iR_tokenTo iR_tokenName iR_tokenKey iR_tokenWhole oC iR_courtTold rR_names rR_keys), (arI rR_tape kR_tape 900 fR_tape), (arL rR_keys kR_keys 10 fR_keys), (oc1 oC iC_nodes iC_words iC_chances iC_unsures iC_slips iC_throneNode iC_saidWorth iC_unit rC_kind rC_parts rC_partNodes rC_weights rC_weightSums rC_toldWorths rC_steps rC_below rC_above rC_unsureWords rC_unsureWorths)]) rfl
          have hFc := va_freeM hD hS hA _ hMs
          refine va_calli (va_runV (As := []) (rest := []) ⟨hx, hb, hml, hown, hts⟩ (tX3_readSaid l dC dI _ oR iR_faultNumber iR_faultPlace iR_tapeSize rR_tape fR_tape kR_tape iR_end iR_tokenKind iR_tokenFrom iR_tokenTo iR_tokenName iR_tokenKey iR_tokenWhole oC iR_courtTold rR_names rR_keys fR_keys kR_keys iC_nodes iC_words iC_chances iC_unsures iC_slips iC_throneNode iC_saidWorth iC_unit rC_kind rC_parts rC_partNodes rC_weights rC_weightSums rC_toldWorths rC_steps rC_below rC_above rC_unsureWords rC_unsureWorths b_iR_tapeSize b_iR_courtTold b_iC_nodes b_iC_unsures b_iC_throneNode) (cwV 0 hts (wd_V wd_351 wd_352 wd_353 wd_15 (wd_c wd_354)) rfl rfl rfl dv_yX3_readSaid_0 ⟨Nat.le_of_ble_eq_true rfl, Nat.le_of_ble_eq_true rfl⟩) ⟨Pw.fb, recvX3 hK hP (q0 := 0) rfl, fun U hU hW => Pw.to (hP.ms _ hMs) (hD.ms _ hMs) (hK.ms [true, false, true, false, false, false, false, false, false, false, false, false, false, false] rfl) hE hS hFc hU hW⟩ rfl rfl hl.1 rfl (lv_room (Nat.le_of_ble_eq_true rfl)) dX3_readLine_119 ⟨Nat.le_of_ble_eq_true rfl, Nat.le_of_ble_eq_true rfl⟩) hS (fun q _ h => hFc q h) hFc (fun r u t H locs ht hvm hw hB hz1 hk1 hS => ?_)
          have hru9 := hw.2
          have hw := hw.1
          refine ex_9_1 hB (fun x_2473 x_2474 x_2475 x_2476 x_2477 y_2478 x_2479 x_2480 x_2481 e_x_2473_0 hB => ?_)
          obtain ⟨hP, hD⟩ := Bw.goN (ws' := [(oc3 oR x_2473 x_2474 iR_tapeSize rR_tape iR_end x_2475 x_2476 x_2477 y_2478 x_2479 x_2480 oC iR_courtTold rR_names rR_keys), (arI rR_tape kR_tape 900 fR_tape), (arL rR_names kR_names 18 fR_names), (arL rR_keys kR_keys 10 fR_keys), (oc1 oC iC_nodes iC_words iC_chances iC_unsures iC_slips iC_throneNode x_2481 iC_unit rC_kind rC_parts rC_partNodes rC_weights rC_weightSums rC_toldWorths rC_steps rC_below rC_above rC_unsureWords rC_unsureWorths), (arI rC_kind kC_kind 18 fC_kind), (arI rC_parts kC_parts 18 fC_parts), (arI rC_partNodes kC_partNodes 72 fC_partNodes), (arI rC_weights kC_weights 72 fC_weights), (arI rC_weightSums kC_weightSums 18 fC_weightSums), (arI rC_toldWorths kC_toldWorths 18 fC_toldWorths), (arI rC_steps kC_steps 18 fC_steps), (arI rC_below kC_below 18 fC_below), (arI rC_above kC_above 18 fC_above), (arI rC_unsureWords kC_unsureWords 4 fC_unsureWords), (arI rC_unsureWorths kC_unsureWorths 4 fC_unsureWorths)]) hB rfl ht hP hD _ hMs hk1 hFc rfl
          clear hz1 hk1 hvm ht hB hMs
          rw [← hru9] at e_x_2473_0
          obtain ⟨x_2482, rfl⟩ : ∃ z, z = r := ⟨_, rfl⟩
          have hG := hG.trans (un10_eq e_x_2473_0)
          have bx_2482 := hw.1
          have dx_2482 := bz_tb bx_2482
          exact wq_z (v := x_2482) hx hb hr (bz_nar bx_2482) (cI x_2482) ⟨⟨bx_2482, trivial⟩, (cI_of x_2482)⟩ (fun t ht hW => ⟨x_2473, x_2474, x_2475, x_2476, x_2477, y_2478, x_2479, x_2480, iR_courtTold, fR_names, iC_nodes, iC_words, iC_chances, iC_unsures, iC_slips, iC_throneNode, x_2481, iC_unit, fC_kind, fC_parts, fC_partNodes, fC_weights, fC_weightSums, fC_toldWorths, fC_steps, fC_below, fC_above, fC_unsureWords, fC_unsureWorths, b_iR_courtTold, b_iC_nodes, b_iC_unsures, b_iC_throneNode, a_fC_parts, a_fC_partNodes, a_fC_unsureWords, (cI_tup hG), Bw.to hP hD hK ht hW⟩) hS dX3_readLine_122 hlocks
        · skip
          have hG := hG.trans (sw_in (j := 0) (h_s.trans (by decide)) rfl)
          refine lv_tableIn (off := 46) (tgt := 85) hx hb dX3_readLine_39 (by rw [h_s]; decide) (by rw [h_s]; decide) (by rw [h_s]; rfl) (by decide) ?_
          refine lv_aload_n hx hb dX3_readLine_85 rfl (lv_at hl 0 rfl) ?_
          have hMs := ml_of hD [true, true, true, true, true, true, true, false, false, true, true, true, true, true, false, false] (wc := [(oc3 oR iR_faultNumber iR_faultPlace iR_tapeSize rR_tape iR_end iR_tokenKind iR_tokenFrom iR_tokenTo iR_tokenName iR_tokenKey iR_tokenWhole oC iR_courtTold rR_names rR_keys), (arI rR_tape kR_tape 900 fR_tape), (arL rR_names kR_names 18 fR_names), (arL rR_keys kR_keys 10 fR_keys), (oc1 oC iC_nodes iC_words iC_chances iC_unsures iC_slips iC_throneNode iC_saidWorth iC_unit rC_kind rC_parts rC_partNodes rC_weights rC_weightSums rC_toldWorths rC_steps rC_below rC_above rC_unsureWords rC_unsureWorths), (arI rC_kind kC_kind 18 fC_kind), (arI rC_parts kC_parts 18 fC_parts), (arI rC_weightSums kC_weightSums 18 fC_weightSums), (arI rC_toldWorths kC_toldWorths 18 fC_toldWorths), (arI rC_steps kC_steps 18 fC_steps), (arI rC_below kC_below 18 fC_below), (arI rC_above kC_above 18 fC_above)]) rfl
          have hFc := va_freeM hD hS hA _ hMs
          refine va_calli (va_runV (As := []) (rest := []) ⟨hx, hb, hml, hown, hts⟩ (tX3_readWord l dC dI _ oR iR_faultNumber iR_faultPlace iR_tapeSize rR_tape fR_tape kR_tape iR_end iR_tokenKind iR_tokenFrom iR_tokenTo iR_tokenName iR_tokenKey iR_tokenWhole oC iR_courtTold rR_names fR_names kR_names rR_keys fR_keys kR_keys iC_nodes iC_words iC_chances iC_unsures iC_slips iC_throneNode iC_saidWorth iC_unit rC_kind fC_kind kC_kind rC_parts fC_parts kC_parts rC_partNodes rC_weights rC_weightSums fC_weightSums kC_weightSums rC_toldWorths fC_toldWorths kC_toldWorths rC_steps fC_steps kC_steps rC_below fC_below kC_below rC_above fC_above kC_above rC_unsureWords rC_unsureWorths b_iR_tapeSize b_iR_courtTold b_iC_nodes b_iC_unsures b_iC_throneNode a_fC_parts) (cwV 0 hts (wd_V wd_267 wd_268 wd_269 wd_15 (wd_c wd_270)) rfl rfl rfl dv_yX3_readWord_0 ⟨Nat.le_of_ble_eq_true rfl, Nat.le_of_ble_eq_true rfl⟩) ⟨Pw.fb, recvX3 hK hP (q0 := 0) rfl, fun U hU hW => Pw.to (hP.ms _ hMs) (hD.ms _ hMs) (hK.ms [true, true, true, true, true, false, false, true, true, true, true, true, false, false] rfl) hE hS hFc hU hW⟩ rfl rfl hl.1 rfl (lv_room (Nat.le_of_ble_eq_true rfl)) dX3_readLine_86 ⟨Nat.le_of_ble_eq_true rfl, Nat.le_of_ble_eq_true rfl⟩) hS (fun q _ h => hFc q h) hFc (fun r u t H locs ht hvm hw hB hz1 hk1 hS => ?_)
          have hru9 := hw.2
          have hw := hw.1
          refine ex_20_3 hB (fun x_2483 x_2484 x_2485 x_2486 x_2487 y_2488 x_2489 x_2490 f_2491 x_2492 x_2493 x_2494 x_2495 f_2496 f_2497 f_2498 f_2499 f_2500 f_2501 f_2502 b_x_2492 a_f_2497 e_x_2483_0 hB => ?_)
          obtain ⟨hP, hD⟩ := Bw.goN (ws' := [(oc3 oR x_2483 x_2484 iR_tapeSize rR_tape iR_end x_2485 x_2486 x_2487 y_2488 x_2489 x_2490 oC iR_courtTold rR_names rR_keys), (arI rR_tape kR_tape 900 fR_tape), (arL rR_names kR_names 18 f_2491), (arL rR_keys kR_keys 10 fR_keys), (oc1 oC x_2492 x_2493 x_2494 iC_unsures iC_slips iC_throneNode iC_saidWorth x_2495 rC_kind rC_parts rC_partNodes rC_weights rC_weightSums rC_toldWorths rC_steps rC_below rC_above rC_unsureWords rC_unsureWorths), (arI rC_kind kC_kind 18 f_2496), (arI rC_parts kC_parts 18 f_2497), (arI rC_partNodes kC_partNodes 72 fC_partNodes), (arI rC_weights kC_weights 72 fC_weights), (arI rC_weightSums kC_weightSums 18 f_2498), (arI rC_toldWorths kC_toldWorths 18 f_2499), (arI rC_steps kC_steps 18 f_2500), (arI rC_below kC_below 18 f_2501), (arI rC_above kC_above 18 f_2502), (arI rC_unsureWords kC_unsureWords 4 fC_unsureWords), (arI rC_unsureWorths kC_unsureWorths 4 fC_unsureWorths)]) hB rfl ht hP hD _ hMs hk1 hFc rfl
          clear hz1 hk1 hvm ht hB hMs
          rw [← hru9] at e_x_2483_0
          obtain ⟨x_2503, rfl⟩ : ∃ z, z = r := ⟨_, rfl⟩
          have hG := hG.trans (un21_eq e_x_2483_0)
          have bx_2503 := hw.1
          have dx_2503 := bz_tb bx_2503
          exact wq_z (v := x_2503) hx hb hr (bz_nar bx_2503) (cI x_2503) ⟨⟨bx_2503, trivial⟩, (cI_of x_2503)⟩ (fun t ht hW => ⟨x_2483, x_2484, x_2485, x_2486, x_2487, y_2488, x_2489, x_2490, iR_courtTold, f_2491, x_2492, x_2493, x_2494, iC_unsures, iC_slips, iC_throneNode, iC_saidWorth, x_2495, f_2496, f_2497, fC_partNodes, fC_weights, f_2498, f_2499, f_2500, f_2501, f_2502, fC_unsureWords, fC_unsureWorths, b_iR_courtTold, b_x_2492, b_iC_unsures, b_iC_throneNode, a_f_2497, a_fC_partNodes, a_fC_unsureWords, (cI_tup hG), Bw.to hP hD hK ht hW⟩) hS dX3_readLine_89 hlocks
        · skip
          have hG := hG.trans (sw_in (j := 1) (h_s.trans (by decide)) rfl)
          refine lv_tableIn (off := 51) (tgt := 90) hx hb dX3_readLine_39 (by rw [h_s]; decide) (by rw [h_s]; decide) (by rw [h_s]; rfl) (by decide) ?_
          refine lv_aload_n hx hb dX3_readLine_90 rfl (lv_at hl 0 rfl) ?_
          refine lv_iconst (v := 1) hx hb dX3_readLine_91 (by decide) ?_
          have hMs := ml_of hD [true, true, true, true, true, true, true, true, true, true, true, true, true, true, false, false] (wc := [(oc3 oR iR_faultNumber iR_faultPlace iR_tapeSize rR_tape iR_end iR_tokenKind iR_tokenFrom iR_tokenTo iR_tokenName iR_tokenKey iR_tokenWhole oC iR_courtTold rR_names rR_keys), (arI rR_tape kR_tape 900 fR_tape), (arL rR_names kR_names 18 fR_names), (arL rR_keys kR_keys 10 fR_keys), (oc1 oC iC_nodes iC_words iC_chances iC_unsures iC_slips iC_throneNode iC_saidWorth iC_unit rC_kind rC_parts rC_partNodes rC_weights rC_weightSums rC_toldWorths rC_steps rC_below rC_above rC_unsureWords rC_unsureWorths), (arI rC_kind kC_kind 18 fC_kind), (arI rC_parts kC_parts 18 fC_parts), (arI rC_partNodes kC_partNodes 72 fC_partNodes), (arI rC_weights kC_weights 72 fC_weights), (arI rC_weightSums kC_weightSums 18 fC_weightSums), (arI rC_toldWorths kC_toldWorths 18 fC_toldWorths), (arI rC_steps kC_steps 18 fC_steps), (arI rC_below kC_below 18 fC_below), (arI rC_above kC_above 18 fC_above)]) rfl
          have hFc := va_freeM hD hS hA _ hMs
          refine va_calli (va_runV (As := [.int 1]) (rest := []) ⟨hx, hb, hml, hown, hts⟩ (tX3_readRuler l dC dI _ oR iR_faultNumber iR_faultPlace iR_tapeSize rR_tape fR_tape kR_tape iR_end iR_tokenKind iR_tokenFrom iR_tokenTo iR_tokenName iR_tokenKey iR_tokenWhole oC iR_courtTold rR_names fR_names kR_names rR_keys fR_keys kR_keys iC_nodes iC_words iC_chances iC_unsures iC_slips iC_throneNode iC_saidWorth iC_unit rC_kind fC_kind kC_kind rC_parts fC_parts kC_parts rC_partNodes fC_partNodes kC_partNodes rC_weights fC_weights kC_weights rC_weightSums fC_weightSums kC_weightSums rC_toldWorths fC_toldWorths kC_toldWorths rC_steps fC_steps kC_steps rC_below fC_below kC_below rC_above fC_above kC_above rC_unsureWords rC_unsureWorths 1 b_iR_tapeSize b_iR_courtTold b_iC_nodes b_iC_unsures b_iC_throneNode a_fC_parts a_fC_partNodes) (cwV 1 hts (wd_V wd_296 wd_297 wd_298 wd_15 (wd_c wd_299)) rfl rfl rfl dv_yX3_readRuler_1 ⟨Nat.le_of_ble_eq_true rfl, Nat.le_of_ble_eq_true rfl⟩) ⟨Pw.fb, recvX3 hK hP (q0 := 0) rfl, fun U hU hW => Pw.to (hP.ms _ hMs) (hD.ms _ hMs) (hK.ms [true, true, true, true, true, true, true, true, true, true, true, true, false, false] rfl) hE hS hFc hU hW⟩ rfl rfl hl.1 rfl (lv_room (Nat.le_of_ble_eq_true rfl)) dX3_readLine_92 ⟨Nat.le_of_ble_eq_true rfl, Nat.le_of_ble_eq_true rfl⟩) hS (fun q _ h => hFc q h) hFc (fun r u t H locs ht hvm hw hB hz1 hk1 hS => ?_)
          have hru9 := hw.2
          have hw := hw.1
          refine ex_22_4 hB (fun x_2504 x_2505 x_2506 x_2507 x_2508 y_2509 x_2510 x_2511 f_2512 x_2513 x_2514 x_2515 x_2516 f_2517 f_2518 f_2519 f_2520 f_2521 f_2522 f_2523 f_2524 f_2525 b_x_2513 a_f_2518 a_f_2519 e_x_2504_0 hB => ?_)
          obtain ⟨hP, hD⟩ := Bw.goN (ws' := [(oc3 oR x_2504 x_2505 iR_tapeSize rR_tape iR_end x_2506 x_2507 x_2508 y_2509 x_2510 x_2511 oC iR_courtTold rR_names rR_keys), (arI rR_tape kR_tape 900 fR_tape), (arL rR_names kR_names 18 f_2512), (arL rR_keys kR_keys 10 fR_keys), (oc1 oC x_2513 x_2514 x_2515 iC_unsures iC_slips iC_throneNode iC_saidWorth x_2516 rC_kind rC_parts rC_partNodes rC_weights rC_weightSums rC_toldWorths rC_steps rC_below rC_above rC_unsureWords rC_unsureWorths), (arI rC_kind kC_kind 18 f_2517), (arI rC_parts kC_parts 18 f_2518), (arI rC_partNodes kC_partNodes 72 f_2519), (arI rC_weights kC_weights 72 f_2520), (arI rC_weightSums kC_weightSums 18 f_2521), (arI rC_toldWorths kC_toldWorths 18 f_2522), (arI rC_steps kC_steps 18 f_2523), (arI rC_below kC_below 18 f_2524), (arI rC_above kC_above 18 f_2525), (arI rC_unsureWords kC_unsureWords 4 fC_unsureWords), (arI rC_unsureWorths kC_unsureWorths 4 fC_unsureWorths)]) hB rfl ht hP hD _ hMs hk1 hFc rfl
          clear hz1 hk1 hvm ht hB hMs
          rw [← hru9] at e_x_2504_0
          obtain ⟨x_2526, rfl⟩ : ∃ z, z = r := ⟨_, rfl⟩
          have hG := hG.trans (un23_eq e_x_2504_0)
          have bx_2526 := hw.1
          have dx_2526 := bz_tb bx_2526
          exact wq_z (v := x_2526) hx hb hr (bz_nar bx_2526) (cI x_2526) ⟨⟨bx_2526, trivial⟩, (cI_of x_2526)⟩ (fun t ht hW => ⟨x_2504, x_2505, x_2506, x_2507, x_2508, y_2509, x_2510, x_2511, iR_courtTold, f_2512, x_2513, x_2514, x_2515, iC_unsures, iC_slips, iC_throneNode, iC_saidWorth, x_2516, f_2517, f_2518, f_2519, f_2520, f_2521, f_2522, f_2523, f_2524, f_2525, fC_unsureWords, fC_unsureWorths, b_iR_courtTold, b_x_2513, b_iC_unsures, b_iC_throneNode, a_f_2518, a_f_2519, a_fC_unsureWords, (cI_tup hG), Bw.to hP hD hK ht hW⟩) hS dX3_readLine_95 hlocks
        · skip
          have hG := hG.trans (sw_in (j := 2) (h_s.trans (by decide)) rfl)
          refine lv_tableIn (off := 57) (tgt := 96) hx hb dX3_readLine_39 (by rw [h_s]; decide) (by rw [h_s]; decide) (by rw [h_s]; rfl) (by decide) ?_
          refine lv_aload_n hx hb dX3_readLine_96 rfl (lv_at hl 0 rfl) ?_
          refine lv_iconst (v := 2) hx hb dX3_readLine_97 (by decide) ?_
          have hMs := ml_of hD [true, true, true, true, true, true, true, true, true, true, true, true, true, true, false, false] (wc := [(oc3 oR iR_faultNumber iR_faultPlace iR_tapeSize rR_tape iR_end iR_tokenKind iR_tokenFrom iR_tokenTo iR_tokenName iR_tokenKey iR_tokenWhole oC iR_courtTold rR_names rR_keys), (arI rR_tape kR_tape 900 fR_tape), (arL rR_names kR_names 18 fR_names), (arL rR_keys kR_keys 10 fR_keys), (oc1 oC iC_nodes iC_words iC_chances iC_unsures iC_slips iC_throneNode iC_saidWorth iC_unit rC_kind rC_parts rC_partNodes rC_weights rC_weightSums rC_toldWorths rC_steps rC_below rC_above rC_unsureWords rC_unsureWorths), (arI rC_kind kC_kind 18 fC_kind), (arI rC_parts kC_parts 18 fC_parts), (arI rC_partNodes kC_partNodes 72 fC_partNodes), (arI rC_weights kC_weights 72 fC_weights), (arI rC_weightSums kC_weightSums 18 fC_weightSums), (arI rC_toldWorths kC_toldWorths 18 fC_toldWorths), (arI rC_steps kC_steps 18 fC_steps), (arI rC_below kC_below 18 fC_below), (arI rC_above kC_above 18 fC_above)]) rfl
          have hFc := va_freeM hD hS hA _ hMs
          refine va_calli (va_runV (As := [.int 2]) (rest := []) ⟨hx, hb, hml, hown, hts⟩ (tX3_readRuler l dC dI _ oR iR_faultNumber iR_faultPlace iR_tapeSize rR_tape fR_tape kR_tape iR_end iR_tokenKind iR_tokenFrom iR_tokenTo iR_tokenName iR_tokenKey iR_tokenWhole oC iR_courtTold rR_names fR_names kR_names rR_keys fR_keys kR_keys iC_nodes iC_words iC_chances iC_unsures iC_slips iC_throneNode iC_saidWorth iC_unit rC_kind fC_kind kC_kind rC_parts fC_parts kC_parts rC_partNodes fC_partNodes kC_partNodes rC_weights fC_weights kC_weights rC_weightSums fC_weightSums kC_weightSums rC_toldWorths fC_toldWorths kC_toldWorths rC_steps fC_steps kC_steps rC_below fC_below kC_below rC_above fC_above kC_above rC_unsureWords rC_unsureWorths 2 b_iR_tapeSize b_iR_courtTold b_iC_nodes b_iC_unsures b_iC_throneNode a_fC_parts a_fC_partNodes) (cwV 1 hts (wd_V wd_296 wd_297 wd_298 wd_15 (wd_c wd_299)) rfl rfl rfl dv_yX3_readRuler_1 ⟨Nat.le_of_ble_eq_true rfl, Nat.le_of_ble_eq_true rfl⟩) ⟨Pw.fb, recvX3 hK hP (q0 := 0) rfl, fun U hU hW => Pw.to (hP.ms _ hMs) (hD.ms _ hMs) (hK.ms [true, true, true, true, true, true, true, true, true, true, true, true, false, false] rfl) hE hS hFc hU hW⟩ rfl rfl hl.1 rfl (lv_room (Nat.le_of_ble_eq_true rfl)) dX3_readLine_98 ⟨Nat.le_of_ble_eq_true rfl, Nat.le_of_ble_eq_true rfl⟩) hS (fun q _ h => hFc q h) hFc (fun r u t H locs ht hvm hw hB hz1 hk1 hS => ?_)
          have hru9 := hw.2
          have hw := hw.1
          refine ex_22_4 hB (fun x_2527 x_2528 x_2529 x_2530 x_2531 y_2532 x_2533 x_2534 f_2535 x_2536 x_2537 x_2538 x_2539 f_2540 f_2541 f_2542 f_2543 f_2544 f_2545 f_2546 f_2547 f_2548 b_x_2536 a_f_2541 a_f_2542 e_x_2527_0 hB => ?_)
          obtain ⟨hP, hD⟩ := Bw.goN (ws' := [(oc3 oR x_2527 x_2528 iR_tapeSize rR_tape iR_end x_2529 x_2530 x_2531 y_2532 x_2533 x_2534 oC iR_courtTold rR_names rR_keys), (arI rR_tape kR_tape 900 fR_tape), (arL rR_names kR_names 18 f_2535), (arL rR_keys kR_keys 10 fR_keys), (oc1 oC x_2536 x_2537 x_2538 iC_unsures iC_slips iC_throneNode iC_saidWorth x_2539 rC_kind rC_parts rC_partNodes rC_weights rC_weightSums rC_toldWorths rC_steps rC_below rC_above rC_unsureWords rC_unsureWorths), (arI rC_kind kC_kind 18 f_2540), (arI rC_parts kC_parts 18 f_2541), (arI rC_partNodes kC_partNodes 72 f_2542), (arI rC_weights kC_weights 72 f_2543), (arI rC_weightSums kC_weightSums 18 f_2544), (arI rC_toldWorths kC_toldWorths 18 f_2545), (arI rC_steps kC_steps 18 f_2546), (arI rC_below kC_below 18 f_2547), (arI rC_above kC_above 18 f_2548), (arI rC_unsureWords kC_unsureWords 4 fC_unsureWords), (arI rC_unsureWorths kC_unsureWorths 4 fC_unsureWorths)]) hB rfl ht hP hD _ hMs hk1 hFc rfl
          clear hz1 hk1 hvm ht hB hMs
          rw [← hru9] at e_x_2527_0
          obtain ⟨x_2549, rfl⟩ : ∃ z, z = r := ⟨_, rfl⟩
          have hG := hG.trans (un23_eq e_x_2527_0)
          have bx_2549 := hw.1
          have dx_2549 := bz_tb bx_2549
          exact wq_z (v := x_2549) hx hb hr (bz_nar bx_2549) (cI x_2549) ⟨⟨bx_2549, trivial⟩, (cI_of x_2549)⟩ (fun t ht hW => ⟨x_2527, x_2528, x_2529, x_2530, x_2531, y_2532, x_2533, x_2534, iR_courtTold, f_2535, x_2536, x_2537, x_2538, iC_unsures, iC_slips, iC_throneNode, iC_saidWorth, x_2539, f_2540, f_2541, f_2542, f_2543, f_2544, f_2545, f_2546, f_2547, f_2548, fC_unsureWords, fC_unsureWorths, b_iR_courtTold, b_x_2536, b_iC_unsures, b_iC_throneNode, a_f_2541, a_f_2542, a_fC_unsureWords, (cI_tup hG), Bw.to hP hD hK ht hW⟩) hS dX3_readLine_101 hlocks
        · skip
          have hG := hG.trans (sw_in (j := 3) (h_s.trans (by decide)) rfl)
          refine lv_tableIn (off := 63) (tgt := 102) hx hb dX3_readLine_39 (by rw [h_s]; decide) (by rw [h_s]; decide) (by rw [h_s]; rfl) (by decide) ?_
          refine lv_aload_n hx hb dX3_readLine_102 rfl (lv_at hl 0 rfl) ?_
          refine lv_iconst (v := 3) hx hb dX3_readLine_103 (by decide) ?_
          have hMs := ml_of hD [true, true, true, true, true, true, true, true, true, true, true, true, true, true, false, false] (wc := [(oc3 oR iR_faultNumber iR_faultPlace iR_tapeSize rR_tape iR_end iR_tokenKind iR_tokenFrom iR_tokenTo iR_tokenName iR_tokenKey iR_tokenWhole oC iR_courtTold rR_names rR_keys), (arI rR_tape kR_tape 900 fR_tape), (arL rR_names kR_names 18 fR_names), (arL rR_keys kR_keys 10 fR_keys), (oc1 oC iC_nodes iC_words iC_chances iC_unsures iC_slips iC_throneNode iC_saidWorth iC_unit rC_kind rC_parts rC_partNodes rC_weights rC_weightSums rC_toldWorths rC_steps rC_below rC_above rC_unsureWords rC_unsureWorths), (arI rC_kind kC_kind 18 fC_kind), (arI rC_parts kC_parts 18 fC_parts), (arI rC_partNodes kC_partNodes 72 fC_partNodes), (arI rC_weights kC_weights 72 fC_weights), (arI rC_weightSums kC_weightSums 18 fC_weightSums), (arI rC_toldWorths kC_toldWorths 18 fC_toldWorths), (arI rC_steps kC_steps 18 fC_steps), (arI rC_below kC_below 18 fC_below), (arI rC_above kC_above 18 fC_above)]) rfl
          have hFc := va_freeM hD hS hA _ hMs
          refine va_calli (va_runV (As := [.int 3]) (rest := []) ⟨hx, hb, hml, hown, hts⟩ (tX3_readRuler l dC dI _ oR iR_faultNumber iR_faultPlace iR_tapeSize rR_tape fR_tape kR_tape iR_end iR_tokenKind iR_tokenFrom iR_tokenTo iR_tokenName iR_tokenKey iR_tokenWhole oC iR_courtTold rR_names fR_names kR_names rR_keys fR_keys kR_keys iC_nodes iC_words iC_chances iC_unsures iC_slips iC_throneNode iC_saidWorth iC_unit rC_kind fC_kind kC_kind rC_parts fC_parts kC_parts rC_partNodes fC_partNodes kC_partNodes rC_weights fC_weights kC_weights rC_weightSums fC_weightSums kC_weightSums rC_toldWorths fC_toldWorths kC_toldWorths rC_steps fC_steps kC_steps rC_below fC_below kC_below rC_above fC_above kC_above rC_unsureWords rC_unsureWorths 3 b_iR_tapeSize b_iR_courtTold b_iC_nodes b_iC_unsures b_iC_throneNode a_fC_parts a_fC_partNodes) (cwV 1 hts (wd_V wd_296 wd_297 wd_298 wd_15 (wd_c wd_299)) rfl rfl rfl dv_yX3_readRuler_1 ⟨Nat.le_of_ble_eq_true rfl, Nat.le_of_ble_eq_true rfl⟩) ⟨Pw.fb, recvX3 hK hP (q0 := 0) rfl, fun U hU hW => Pw.to (hP.ms _ hMs) (hD.ms _ hMs) (hK.ms [true, true, true, true, true, true, true, true, true, true, true, true, false, false] rfl) hE hS hFc hU hW⟩ rfl rfl hl.1 rfl (lv_room (Nat.le_of_ble_eq_true rfl)) dX3_readLine_104 ⟨Nat.le_of_ble_eq_true rfl, Nat.le_of_ble_eq_true rfl⟩) hS (fun q _ h => hFc q h) hFc (fun r u t H locs ht hvm hw hB hz1 hk1 hS => ?_)
          have hru9 := hw.2
          have hw := hw.1
          refine ex_22_4 hB (fun x_2550 x_2551 x_2552 x_2553 x_2554 y_2555 x_2556 x_2557 f_2558 x_2559 x_2560 x_2561 x_2562 f_2563 f_2564 f_2565 f_2566 f_2567 f_2568 f_2569 f_2570 f_2571 b_x_2559 a_f_2564 a_f_2565 e_x_2550_0 hB => ?_)
          obtain ⟨hP, hD⟩ := Bw.goN (ws' := [(oc3 oR x_2550 x_2551 iR_tapeSize rR_tape iR_end x_2552 x_2553 x_2554 y_2555 x_2556 x_2557 oC iR_courtTold rR_names rR_keys), (arI rR_tape kR_tape 900 fR_tape), (arL rR_names kR_names 18 f_2558), (arL rR_keys kR_keys 10 fR_keys), (oc1 oC x_2559 x_2560 x_2561 iC_unsures iC_slips iC_throneNode iC_saidWorth x_2562 rC_kind rC_parts rC_partNodes rC_weights rC_weightSums rC_toldWorths rC_steps rC_below rC_above rC_unsureWords rC_unsureWorths), (arI rC_kind kC_kind 18 f_2563), (arI rC_parts kC_parts 18 f_2564), (arI rC_partNodes kC_partNodes 72 f_2565), (arI rC_weights kC_weights 72 f_2566), (arI rC_weightSums kC_weightSums 18 f_2567), (arI rC_toldWorths kC_toldWorths 18 f_2568), (arI rC_steps kC_steps 18 f_2569), (arI rC_below kC_below 18 f_2570), (arI rC_above kC_above 18 f_2571), (arI rC_unsureWords kC_unsureWords 4 fC_unsureWords), (arI rC_unsureWorths kC_unsureWorths 4 fC_unsureWorths)]) hB rfl ht hP hD _ hMs hk1 hFc rfl
          clear hz1 hk1 hvm ht hB hMs
          rw [← hru9] at e_x_2550_0
          obtain ⟨x_2572, rfl⟩ : ∃ z, z = r := ⟨_, rfl⟩
          have hG := hG.trans (un23_eq e_x_2550_0)
          have bx_2572 := hw.1
          have dx_2572 := bz_tb bx_2572
          exact wq_z (v := x_2572) hx hb hr (bz_nar bx_2572) (cI x_2572) ⟨⟨bx_2572, trivial⟩, (cI_of x_2572)⟩ (fun t ht hW => ⟨x_2550, x_2551, x_2552, x_2553, x_2554, y_2555, x_2556, x_2557, iR_courtTold, f_2558, x_2559, x_2560, x_2561, iC_unsures, iC_slips, iC_throneNode, iC_saidWorth, x_2562, f_2563, f_2564, f_2565, f_2566, f_2567, f_2568, f_2569, f_2570, f_2571, fC_unsureWords, fC_unsureWorths, b_iR_courtTold, b_x_2559, b_iC_unsures, b_iC_throneNode, a_f_2564, a_f_2565, a_fC_unsureWords, (cI_tup hG), Bw.to hP hD hK ht hW⟩) hS dX3_readLine_107 hlocks
        · skip
          have hG := hG.trans (sw_in (j := 4) (h_s.trans (by decide)) rfl)
          refine lv_tableIn (off := 41) (tgt := 80) hx hb dX3_readLine_39 (by rw [h_s]; decide) (by rw [h_s]; decide) (by rw [h_s]; rfl) (by decide) ?_
          refine lv_aload_n hx hb dX3_readLine_80 rfl (lv_at hl 0 rfl) ?_
          have hMs := ml_of hD [true, true, false, true, true, false, false, false, false, false, false, false, false, false, false, false] (wc := [(oc3 oR iR_faultNumber iR_faultPlace iR_tapeSize rR_tape iR_end iR_tokenKind iR_tokenFrom iR_tokenTo iR_tokenName iR_tokenKey iR_tokenWhole oC iR_courtTold rR_names rR_keys), (arI rR_tape kR_tape 900 fR_tape), (arL rR_keys kR_keys 10 fR_keys), (oc1 oC iC_nodes iC_words iC_chances iC_unsures iC_slips iC_throneNode iC_saidWorth iC_unit rC_kind rC_parts rC_partNodes rC_weights rC_weightSums rC_toldWorths rC_steps rC_below rC_above rC_unsureWords rC_unsureWorths)]) rfl
          have hFc := va_freeM hD hS hA _ hMs
          refine va_calli (va_runV (As := []) (rest := []) ⟨hx, hb, hml, hown, hts⟩ (tX3_readCourt l dC dI _ oR iR_faultNumber iR_faultPlace iR_tapeSize rR_tape fR_tape kR_tape iR_end iR_tokenKind iR_tokenFrom iR_tokenTo iR_tokenName iR_tokenKey iR_tokenWhole oC iR_courtTold rR_names rR_keys fR_keys kR_keys iC_nodes iC_words iC_chances iC_unsures iC_slips iC_throneNode iC_saidWorth iC_unit rC_kind rC_parts rC_partNodes rC_weights rC_weightSums rC_toldWorths rC_steps rC_below rC_above rC_unsureWords rC_unsureWorths b_iR_tapeSize b_iR_courtTold b_iC_nodes b_iC_unsures b_iC_throneNode) (cwV 0 hts (wd_V wd_258 wd_259 wd_260 wd_15 (wd_c wd_261)) rfl rfl rfl dv_yX3_readCourt_0 ⟨Nat.le_of_ble_eq_true rfl, Nat.le_of_ble_eq_true rfl⟩) ⟨Pw.fb, recvX3 hK hP (q0 := 0) rfl, fun U hU hW => Pw.to (hP.ms _ hMs) (hD.ms _ hMs) (hK.ms [true, false, true, false, false, false, false, false, false, false, false, false, false, false] rfl) hE hS hFc hU hW⟩ rfl rfl hl.1 rfl (lv_room (Nat.le_of_ble_eq_true rfl)) dX3_readLine_81 ⟨Nat.le_of_ble_eq_true rfl, Nat.le_of_ble_eq_true rfl⟩) hS (fun q _ h => hFc q h) hFc (fun r u t H locs ht hvm hw hB hz1 hk1 hS => ?_)
          have hru9 := hw.2
          have hw := hw.1
          refine ex_10_2 hB (fun x_2573 x_2574 x_2575 x_2576 x_2577 y_2578 x_2579 x_2580 x_2581 x_2582 b_x_2581 e_x_2573_0 hB => ?_)
          obtain ⟨hP, hD⟩ := Bw.goN (ws' := [(oc3 oR x_2573 x_2574 iR_tapeSize rR_tape iR_end x_2575 x_2576 x_2577 y_2578 x_2579 x_2580 oC x_2581 rR_names rR_keys), (arI rR_tape kR_tape 900 fR_tape), (arL rR_names kR_names 18 fR_names), (arL rR_keys kR_keys 10 fR_keys), (oc1 oC iC_nodes iC_words iC_chances iC_unsures x_2582 iC_throneNode iC_saidWorth iC_unit rC_kind rC_parts rC_partNodes rC_weights rC_weightSums rC_toldWorths rC_steps rC_below rC_above rC_unsureWords rC_unsureWorths), (arI rC_kind kC_kind 18 fC_kind), (arI rC_parts kC_parts 18 fC_parts), (arI rC_partNodes kC_partNodes 72 fC_partNodes), (arI rC_weights kC_weights 72 fC_weights), (arI rC_weightSums kC_weightSums 18 fC_weightSums), (arI rC_toldWorths kC_toldWorths 18 fC_toldWorths), (arI rC_steps kC_steps 18 fC_steps), (arI rC_below kC_below 18 fC_below), (arI rC_above kC_above 18 fC_above), (arI rC_unsureWords kC_unsureWords 4 fC_unsureWords), (arI rC_unsureWorths kC_unsureWorths 4 fC_unsureWorths)]) hB rfl ht hP hD _ hMs hk1 hFc rfl
          clear hz1 hk1 hvm ht hB hMs
          rw [← hru9] at e_x_2573_0
          obtain ⟨x_2583, rfl⟩ : ∃ z, z = r := ⟨_, rfl⟩
          have hG := hG.trans (un11_eq e_x_2573_0)
          have bx_2583 := hw.1
          have dx_2583 := bz_tb bx_2583
          exact wq_z (v := x_2583) hx hb hr (bz_nar bx_2583) (cI x_2583) ⟨⟨bx_2583, trivial⟩, (cI_of x_2583)⟩ (fun t ht hW => ⟨x_2573, x_2574, x_2575, x_2576, x_2577, y_2578, x_2579, x_2580, x_2581, fR_names, iC_nodes, iC_words, iC_chances, iC_unsures, x_2582, iC_throneNode, iC_saidWorth, iC_unit, fC_kind, fC_parts, fC_partNodes, fC_weights, fC_weightSums, fC_toldWorths, fC_steps, fC_below, fC_above, fC_unsureWords, fC_unsureWorths, b_x_2581, b_iC_nodes, b_iC_unsures, b_iC_throneNode, a_fC_parts, a_fC_partNodes, a_fC_unsureWords, (cI_tup hG), Bw.to hP hD hK ht hW⟩) hS dX3_readLine_84 hlocks
        · skip
          have hG := hG.trans (sw_in (j := 5) (h_s.trans (by decide)) rfl)
          refine lv_tableIn (off := 69) (tgt := 108) hx hb dX3_readLine_39 (by rw [h_s]; decide) (by rw [h_s]; decide) (by rw [h_s]; rfl) (by decide) ?_
          refine lv_aload_n hx hb dX3_readLine_108 rfl (lv_at hl 0 rfl) ?_
          have hMs := ml_of hD [true, true, true, true, true, false, false, false, false, false, false, false, false, false, false, false] (wc := [(oc3 oR iR_faultNumber iR_faultPlace iR_tapeSize rR_tape iR_end iR_tokenKind iR_tokenFrom iR_tokenTo iR_tokenName iR_tokenKey iR_tokenWhole oC iR_courtTold rR_names rR_keys), (arI rR_tape kR_tape 900 fR_tape), (arL rR_names kR_names 18 fR_names), (arL rR_keys kR_keys 10 fR_keys), (oc1 oC iC_nodes iC_words iC_chances iC_unsures iC_slips iC_throneNode iC_saidWorth iC_unit rC_kind rC_parts rC_partNodes rC_weights rC_weightSums rC_toldWorths rC_steps rC_below rC_above rC_unsureWords rC_unsureWorths)]) rfl
          have hFc := va_freeM hD hS hA _ hMs
          refine va_calli (va_runV (As := []) (rest := []) ⟨hx, hb, hml, hown, hts⟩ (tX3_readThrone l dC dI _ oR iR_faultNumber iR_faultPlace iR_tapeSize rR_tape fR_tape kR_tape iR_end iR_tokenKind iR_tokenFrom iR_tokenTo iR_tokenName iR_tokenKey iR_tokenWhole oC iR_courtTold rR_names fR_names kR_names rR_keys fR_keys kR_keys iC_nodes iC_words iC_chances iC_unsures iC_slips iC_throneNode iC_saidWorth iC_unit rC_kind rC_parts rC_partNodes rC_weights rC_weightSums rC_toldWorths rC_steps rC_below rC_above rC_unsureWords rC_unsureWorths b_iR_tapeSize b_iR_courtTold b_iC_nodes b_iC_unsures b_iC_throneNode) (cwV 0 hts (wd_V wd_329 wd_330 wd_331 wd_15 (wd_c wd_332)) rfl rfl rfl dv_yX3_readThrone_0 ⟨Nat.le_of_ble_eq_true rfl, Nat.le_of_ble_eq_true rfl⟩) ⟨Pw.fb, recvX3 hK hP (q0 := 0) rfl, fun U hU hW => Pw.to (hP.ms _ hMs) (hD.ms _ hMs) (hK.ms [true, true, true, false, false, false, false, false, false, false, false, false, false, false] rfl) hE hS hFc hU hW⟩ rfl rfl hl.1 rfl (lv_room (Nat.le_of_ble_eq_true rfl)) dX3_readLine_109 ⟨Nat.le_of_ble_eq_true rfl, Nat.le_of_ble_eq_true rfl⟩) hS (fun q _ h => hFc q h) hFc (fun r u t H locs ht hvm hw hB hz1 hk1 hS => ?_)
          have hru9 := hw.2
          have hw := hw.1
          refine ex_9_2 hB (fun x_2584 x_2585 x_2586 x_2587 x_2588 y_2589 x_2590 x_2591 x_2592 b_x_2592 e_x_2584_0 hB => ?_)
          obtain ⟨hP, hD⟩ := Bw.goN (ws' := [(oc3 oR x_2584 x_2585 iR_tapeSize rR_tape iR_end x_2586 x_2587 x_2588 y_2589 x_2590 x_2591 oC iR_courtTold rR_names rR_keys), (arI rR_tape kR_tape 900 fR_tape), (arL rR_names kR_names 18 fR_names), (arL rR_keys kR_keys 10 fR_keys), (oc1 oC iC_nodes iC_words iC_chances iC_unsures iC_slips x_2592 iC_saidWorth iC_unit rC_kind rC_parts rC_partNodes rC_weights rC_weightSums rC_toldWorths rC_steps rC_below rC_above rC_unsureWords rC_unsureWorths), (arI rC_kind kC_kind 18 fC_kind), (arI rC_parts kC_parts 18 fC_parts), (arI rC_partNodes kC_partNodes 72 fC_partNodes), (arI rC_weights kC_weights 72 fC_weights), (arI rC_weightSums kC_weightSums 18 fC_weightSums), (arI rC_toldWorths kC_toldWorths 18 fC_toldWorths), (arI rC_steps kC_steps 18 fC_steps), (arI rC_below kC_below 18 fC_below), (arI rC_above kC_above 18 fC_above), (arI rC_unsureWords kC_unsureWords 4 fC_unsureWords), (arI rC_unsureWorths kC_unsureWorths 4 fC_unsureWorths)]) hB rfl ht hP hD _ hMs hk1 hFc rfl
          clear hz1 hk1 hvm ht hB hMs
          rw [← hru9] at e_x_2584_0
          obtain ⟨x_2593, rfl⟩ : ∃ z, z = r := ⟨_, rfl⟩
          have hG := hG.trans (un10_eq e_x_2584_0)
          have bx_2593 := hw.1
          have dx_2593 := bz_tb bx_2593
          exact wq_z (v := x_2593) hx hb hr (bz_nar bx_2593) (cI x_2593) ⟨⟨bx_2593, trivial⟩, (cI_of x_2593)⟩ (fun t ht hW => ⟨x_2584, x_2585, x_2586, x_2587, x_2588, y_2589, x_2590, x_2591, iR_courtTold, fR_names, iC_nodes, iC_words, iC_chances, iC_unsures, iC_slips, x_2592, iC_saidWorth, iC_unit, fC_kind, fC_parts, fC_partNodes, fC_weights, fC_weightSums, fC_toldWorths, fC_steps, fC_below, fC_above, fC_unsureWords, fC_unsureWorths, b_iR_courtTold, b_iC_nodes, b_iC_unsures, b_x_2592, a_fC_parts, a_fC_partNodes, a_fC_unsureWords, (cI_tup hG), Bw.to hP hD hK ht hW⟩) hS dX3_readLine_112 hlocks
        · skip
          have hG := hG.trans (sw_in (j := 6) (h_s.trans (by decide)) rfl)
          refine lv_tableIn (off := 74) (tgt := 113) hx hb dX3_readLine_39 (by rw [h_s]; decide) (by rw [h_s]; decide) (by rw [h_s]; rfl) (by decide) ?_
          refine lv_aload_n hx hb dX3_readLine_113 rfl (lv_at hl 0 rfl) ?_
          have hMs := ml_of hD [true, true, true, true, true, true, false, false, false, false, false, false, false, false, true, true] (wc := [(oc3 oR iR_faultNumber iR_faultPlace iR_tapeSize rR_tape iR_end iR_tokenKind iR_tokenFrom iR_tokenTo iR_tokenName iR_tokenKey iR_tokenWhole oC iR_courtTold rR_names rR_keys), (arI rR_tape kR_tape 900 fR_tape), (arL rR_names kR_names 18 fR_names), (arL rR_keys kR_keys 10 fR_keys), (oc1 oC iC_nodes iC_words iC_chances iC_unsures iC_slips iC_throneNode iC_saidWorth iC_unit rC_kind rC_parts rC_partNodes rC_weights rC_weightSums rC_toldWorths rC_steps rC_below rC_above rC_unsureWords rC_unsureWorths), (arI rC_kind kC_kind 18 fC_kind), (arI rC_unsureWords kC_unsureWords 4 fC_unsureWords), (arI rC_unsureWorths kC_unsureWorths 4 fC_unsureWorths)]) rfl
          have hFc := va_freeM hD hS hA _ hMs
          refine va_calli (va_runV (As := []) (rest := []) ⟨hx, hb, hml, hown, hts⟩ (tX3_readUnsure l dC dI _ oR iR_faultNumber iR_faultPlace iR_tapeSize rR_tape fR_tape kR_tape iR_end iR_tokenKind iR_tokenFrom iR_tokenTo iR_tokenName iR_tokenKey iR_tokenWhole oC iR_courtTold rR_names fR_names kR_names rR_keys fR_keys kR_keys iC_nodes iC_words iC_chances iC_unsures iC_slips iC_throneNode iC_saidWorth iC_unit rC_kind fC_kind kC_kind rC_parts rC_partNodes rC_weights rC_weightSums rC_toldWorths rC_steps rC_below rC_above rC_unsureWords fC_unsureWords kC_unsureWords rC_unsureWorths fC_unsureWorths kC_unsureWorths b_iR_tapeSize b_iR_courtTold b_iC_nodes b_iC_unsures b_iC_throneNode a_fC_unsureWords) (cwV 0 hts (wd_V wd_334 wd_335 wd_336 wd_15 (wd_c wd_337)) rfl rfl rfl dv_yX3_readUnsure_0 ⟨Nat.le_of_ble_eq_true rfl, Nat.le_of_ble_eq_true rfl⟩) ⟨Pw.fb, recvX3 hK hP (q0 := 0) rfl, fun U hU hW => Pw.to (hP.ms _ hMs) (hD.ms _ hMs) (hK.ms [true, true, true, true, false, false, false, false, false, false, false, false, true, true] rfl) hE hS hFc hU hW⟩ rfl rfl hl.1 rfl (lv_room (Nat.le_of_ble_eq_true rfl)) dX3_readLine_114 ⟨Nat.le_of_ble_eq_true rfl, Nat.le_of_ble_eq_true rfl⟩) hS (fun q _ h => hFc q h) hFc (fun r u t H locs ht hvm hw hB hz1 hk1 hS => ?_)
          have hru9 := hw.2
          have hw := hw.1
          refine ex_11_3 hB (fun x_2594 x_2595 x_2596 x_2597 x_2598 y_2599 x_2600 x_2601 x_2602 f_2603 f_2604 b_x_2602 a_f_2603 e_x_2594_0 hB => ?_)
          obtain ⟨hP, hD⟩ := Bw.goN (ws' := [(oc3 oR x_2594 x_2595 iR_tapeSize rR_tape iR_end x_2596 x_2597 x_2598 y_2599 x_2600 x_2601 oC iR_courtTold rR_names rR_keys), (arI rR_tape kR_tape 900 fR_tape), (arL rR_names kR_names 18 fR_names), (arL rR_keys kR_keys 10 fR_keys), (oc1 oC iC_nodes iC_words iC_chances x_2602 iC_slips iC_throneNode iC_saidWorth iC_unit rC_kind rC_parts rC_partNodes rC_weights rC_weightSums rC_toldWorths rC_steps rC_below rC_above rC_unsureWords rC_unsureWorths), (arI rC_kind kC_kind 18 fC_kind), (arI rC_parts kC_parts 18 fC_parts), (arI rC_partNodes kC_partNodes 72 fC_partNodes), (arI rC_weights kC_weights 72 fC_weights), (arI rC_weightSums kC_weightSums 18 fC_weightSums), (arI rC_toldWorths kC_toldWorths 18 fC_toldWorths), (arI rC_steps kC_steps 18 fC_steps), (arI rC_below kC_below 18 fC_below), (arI rC_above kC_above 18 fC_above), (arI rC_unsureWords kC_unsureWords 4 f_2603), (arI rC_unsureWorths kC_unsureWorths 4 f_2604)]) hB rfl ht hP hD _ hMs hk1 hFc rfl
          clear hz1 hk1 hvm ht hB hMs
          rw [← hru9] at e_x_2594_0
          obtain ⟨x_2605, rfl⟩ : ∃ z, z = r := ⟨_, rfl⟩
          have hG := hG.trans (un12_eq e_x_2594_0)
          have bx_2605 := hw.1
          have dx_2605 := bz_tb bx_2605
          exact wq_z (v := x_2605) hx hb hr (bz_nar bx_2605) (cI x_2605) ⟨⟨bx_2605, trivial⟩, (cI_of x_2605)⟩ (fun t ht hW => ⟨x_2594, x_2595, x_2596, x_2597, x_2598, y_2599, x_2600, x_2601, iR_courtTold, fR_names, iC_nodes, iC_words, iC_chances, x_2602, iC_slips, iC_throneNode, iC_saidWorth, iC_unit, fC_kind, fC_parts, fC_partNodes, fC_weights, fC_weightSums, fC_toldWorths, fC_steps, fC_below, fC_above, f_2603, f_2604, b_iR_courtTold, b_iC_nodes, b_x_2602, b_iC_throneNode, a_fC_parts, a_fC_partNodes, a_f_2603, (cI_tup hG), Bw.to hP hD hK ht hW⟩) hS dX3_readLine_117 hlocks
      · skip
        have hG := hG.trans (if_neg c_2462)
        have gc_2462 := ti_ne c_2462 rfl kc_4
        refine lv_aload_n hx hb dX3_readLine_28 rfl (lv_at hl 0 rfl) ?_
        refine lv_bipush (v := 6) hx hb dX3_readLine_29 (by decide) ?_
        have hMs := ml_of hD [true, false, false, false, false, false, false, false, false, false, false, false, false, false, false, false] (wc := [(oc3 oR iR_faultNumber iR_faultPlace iR_tapeSize rR_tape iR_end iR_tokenKind iR_tokenFrom iR_tokenTo iR_tokenName iR_tokenKey iR_tokenWhole oC iR_courtTold rR_names rR_keys)]) rfl
        have hFc := va_freeM hD hS hA _ hMs
        refine va_calli (va_runV (As := [.int 6]) (rest := []) ⟨hx, hb, hml, hown, hts⟩ (tX3_faulty l dC dI _ oR iR_faultNumber iR_faultPlace iR_tapeSize rR_tape iR_end iR_tokenKind iR_tokenFrom iR_tokenTo iR_tokenName iR_tokenKey iR_tokenWhole oC iR_courtTold rR_names rR_keys 6 b_iR_tapeSize b_iR_courtTold) (cwV 1 hts (wd_V wd_254 wd_255 wd_256 wd_15 (wd_c wd_257)) rfl rfl rfl dv_yX3_faulty_1 ⟨Nat.le_of_ble_eq_true rfl, Nat.le_of_ble_eq_true rfl⟩) ⟨Pw.fb, recvX3 hK hP (q0 := 0) rfl, fun U hU hW => Pw.to (hP.ms _ hMs) (hD.ms _ hMs) (hK.ms [false, false, false, false, false, false, false, false, false, false, false, false, false, false] rfl) hE hS hFc hU hW⟩ rfl rfl hl.1 rfl (lv_room (Nat.le_of_ble_eq_true rfl)) dX3_readLine_31 ⟨Nat.le_of_ble_eq_true rfl, Nat.le_of_ble_eq_true rfl⟩) hS (fun q _ h => hFc q h) hFc (fun r u t H locs ht hvm hw hB hz1 hk1 hS => ?_)
        have hru9 := hw.2
        have hw := hw.1
        refine ex_2_1 hB (fun x_2606 x_2607 e_x_2606_0 hB => ?_)
        obtain ⟨hP, hD⟩ := Bw.goN (ws' := [(oc3 oR x_2606 x_2607 iR_tapeSize rR_tape iR_end iR_tokenKind iR_tokenFrom iR_tokenTo iR_tokenName iR_tokenKey iR_tokenWhole oC iR_courtTold rR_names rR_keys), (arI rR_tape kR_tape 900 fR_tape), (arL rR_names kR_names 18 fR_names), (arL rR_keys kR_keys 10 fR_keys), (oc1 oC iC_nodes iC_words iC_chances iC_unsures iC_slips iC_throneNode iC_saidWorth iC_unit rC_kind rC_parts rC_partNodes rC_weights rC_weightSums rC_toldWorths rC_steps rC_below rC_above rC_unsureWords rC_unsureWorths), (arI rC_kind kC_kind 18 fC_kind), (arI rC_parts kC_parts 18 fC_parts), (arI rC_partNodes kC_partNodes 72 fC_partNodes), (arI rC_weights kC_weights 72 fC_weights), (arI rC_weightSums kC_weightSums 18 fC_weightSums), (arI rC_toldWorths kC_toldWorths 18 fC_toldWorths), (arI rC_steps kC_steps 18 fC_steps), (arI rC_below kC_below 18 fC_below), (arI rC_above kC_above 18 fC_above), (arI rC_unsureWords kC_unsureWords 4 fC_unsureWords), (arI rC_unsureWorths kC_unsureWorths 4 fC_unsureWorths)]) hB rfl ht hP hD _ hMs hk1 hFc rfl
        clear hz1 hk1 hvm ht hB hMs
        rw [← hru9] at e_x_2606_0
        rcases hw.2 with ⟨rfl, hc_2608⟩
        · skip
          have hG := hG.trans (un3_eq e_x_2606_0)
          exact wq_z (v := 0) hx hb hr rfl (cI 0) ⟨⟨Or.inl rfl, trivial⟩, (cI_of 0)⟩ (fun t ht hW => ⟨x_2606, x_2607, iR_tokenKind, iR_tokenFrom, iR_tokenTo, iR_tokenName, iR_tokenKey, iR_tokenWhole, iR_courtTold, fR_names, iC_nodes, iC_words, iC_chances, iC_unsures, iC_slips, iC_throneNode, iC_saidWorth, iC_unit, fC_kind, fC_parts, fC_partNodes, fC_weights, fC_weightSums, fC_toldWorths, fC_steps, fC_below, fC_above, fC_unsureWords, fC_unsureWorths, b_iR_courtTold, b_iC_nodes, b_iC_unsures, b_iC_throneNode, a_fC_parts, a_fC_partNodes, a_fC_unsureWords, (cI_tup hG), Bw.to hP hD hK ht hW⟩) hS dX3_readLine_34 hlocks
  · skip
    have hG := hG.trans (if_pos c_2317)
    have gc_2317 := ti_eq c_2317 rfl kc_0
    refine lv_aload_n hx hb dX3_readLine_7 rfl (lv_at hl 0 rfl) ?_
    refine lv_iconst (v := 1) hx hb dX3_readLine_8 (by decide) ?_
    have hMs := ml_of hD [true, false, false, false, false, false, false, false, false, false, false, false, false, false, false, false] (wc := [(oc3 oR iR_faultNumber iR_faultPlace iR_tapeSize rR_tape iR_end iR_tokenKind iR_tokenFrom iR_tokenTo iR_tokenName iR_tokenKey iR_tokenWhole oC iR_courtTold rR_names rR_keys)]) rfl
    have hFc := va_freeM hD hS hA _ hMs
    refine va_calli (va_runV (As := [.int 1]) (rest := []) ⟨hx, hb, hml, hown, hts⟩ (tX3_faulty l dC dI _ oR iR_faultNumber iR_faultPlace iR_tapeSize rR_tape iR_end iR_tokenKind iR_tokenFrom iR_tokenTo iR_tokenName iR_tokenKey iR_tokenWhole oC iR_courtTold rR_names rR_keys 1 b_iR_tapeSize b_iR_courtTold) (cwV 1 hts (wd_V wd_254 wd_255 wd_256 wd_15 (wd_c wd_257)) rfl rfl rfl dv_yX3_faulty_1 ⟨Nat.le_of_ble_eq_true rfl, Nat.le_of_ble_eq_true rfl⟩) ⟨Pw.fb, recvX3 hK hP (q0 := 0) rfl, fun U hU hW => Pw.to (hP.ms _ hMs) (hD.ms _ hMs) (hK.ms [false, false, false, false, false, false, false, false, false, false, false, false, false, false] rfl) hE hS hFc hU hW⟩ rfl rfl hl.1 rfl (lv_room (Nat.le_of_ble_eq_true rfl)) dX3_readLine_9 ⟨Nat.le_of_ble_eq_true rfl, Nat.le_of_ble_eq_true rfl⟩) hS (fun q _ h => hFc q h) hFc (fun r u t H locs ht hvm hw hB hz1 hk1 hS => ?_)
    have hru9 := hw.2
    have hw := hw.1
    refine ex_2_1 hB (fun x_2610 x_2611 e_x_2610_0 hB => ?_)
    obtain ⟨hP, hD⟩ := Bw.goN (ws' := [(oc3 oR x_2610 x_2611 iR_tapeSize rR_tape iR_end iR_tokenKind iR_tokenFrom iR_tokenTo iR_tokenName iR_tokenKey iR_tokenWhole oC iR_courtTold rR_names rR_keys), (arI rR_tape kR_tape 900 fR_tape), (arL rR_names kR_names 18 fR_names), (arL rR_keys kR_keys 10 fR_keys), (oc1 oC iC_nodes iC_words iC_chances iC_unsures iC_slips iC_throneNode iC_saidWorth iC_unit rC_kind rC_parts rC_partNodes rC_weights rC_weightSums rC_toldWorths rC_steps rC_below rC_above rC_unsureWords rC_unsureWorths), (arI rC_kind kC_kind 18 fC_kind), (arI rC_parts kC_parts 18 fC_parts), (arI rC_partNodes kC_partNodes 72 fC_partNodes), (arI rC_weights kC_weights 72 fC_weights), (arI rC_weightSums kC_weightSums 18 fC_weightSums), (arI rC_toldWorths kC_toldWorths 18 fC_toldWorths), (arI rC_steps kC_steps 18 fC_steps), (arI rC_below kC_below 18 fC_below), (arI rC_above kC_above 18 fC_above), (arI rC_unsureWords kC_unsureWords 4 fC_unsureWords), (arI rC_unsureWorths kC_unsureWorths 4 fC_unsureWorths)]) hB rfl ht hP hD _ hMs hk1 hFc rfl
    clear hz1 hk1 hvm ht hB hMs
    rw [← hru9] at e_x_2610_0
    rcases hw.2 with ⟨rfl, hc_2612⟩
    · skip
      have hG := hG.trans (un3_eq e_x_2610_0)
      exact wq_z (v := 0) hx hb hr rfl (cI 0) ⟨⟨Or.inl rfl, trivial⟩, (cI_of 0)⟩ (fun t ht hW => ⟨x_2610, x_2611, iR_tokenKind, iR_tokenFrom, iR_tokenTo, iR_tokenName, iR_tokenKey, iR_tokenWhole, iR_courtTold, fR_names, iC_nodes, iC_words, iC_chances, iC_unsures, iC_slips, iC_throneNode, iC_saidWorth, iC_unit, fC_kind, fC_parts, fC_partNodes, fC_weights, fC_weightSums, fC_toldWorths, fC_steps, fC_below, fC_above, fC_unsureWords, fC_unsureWorths, b_iR_courtTold, b_iC_nodes, b_iC_unsures, b_iC_throneNode, a_fC_parts, a_fC_partNodes, a_fC_unsureWords, (cI_tup hG), Bw.to hP hD hK ht hW⟩) hS dX3_readLine_12 hlocks
set_option maxHeartbeats 4000000 in
set_option maxRecDepth 100000 in
theorem tX3_readEnd (l : Launch) (dC : Nat → ClassId) (dI : Nat → Nat → Nat) (sz : Nat) (oR : Nat) (iR_faultNumber : Int32) (iR_faultPlace : Int32) (iR_tapeSize : Int32) (rR_tape : Nat) (iR_end : Int32) (iR_tokenKind : Int32) (iR_tokenFrom : Int32) (iR_tokenTo : Int32) (iR_tokenName : Int64) (iR_tokenKey : Int32) (iR_tokenWhole : Int32) (oC : Nat) (iR_courtTold : Int32) (rR_names : Nat) (rR_keys : Nat) (iC_nodes : Int32) (iC_words : Int32) (iC_chances : Int32) (iC_unsures : Int32) (iC_slips : Int32) (iC_throneNode : Int32) (iC_saidWorth : Int32) (iC_unit : Int32) (rC_kind : Nat) (rC_parts : Nat) (rC_partNodes : Nat) (rC_weights : Nat) (rC_weightSums : Nat) (rC_toldWorths : Nat) (rC_steps : Nat) (rC_below : Nat) (rC_above : Nat) (rC_unsureWords : Nat) (rC_unsureWorths : Nat) (b_iR_tapeSize : 0 ≤ iR_tapeSize.toInt ∧ iR_tapeSize.toInt ≤ 900) (b_iR_courtTold : 0 ≤ iR_courtTold.toInt ∧ iR_courtTold.toInt ≤ 1) (b_iC_nodes : 0 ≤ iC_nodes.toInt ∧ iC_nodes.toInt ≤ 18) (b_iC_unsures : 0 ≤ iC_unsures.toInt ∧ iC_unsures.toInt ≤ 4) (b_iC_throneNode : (-1) ≤ iC_throneNode.toInt ∧ iC_throneNode.toInt ≤ 17)  : Met l yX3_readEnd (Cond.code yX3_readEnd cX3_readEnd 1 (some .boolean) :: wG) ({ frames := 1, cells := 0, slots := 0, locals := 21 }) (va_Pc [.ref oR] (Pw dC dI sz [(oc3 oR iR_faultNumber iR_faultPlace iR_tapeSize rR_tape iR_end iR_tokenKind iR_tokenFrom iR_tokenTo iR_tokenName iR_tokenKey iR_tokenWhole oC iR_courtTold rR_names rR_keys), (oc1 oC iC_nodes iC_words iC_chances iC_unsures iC_slips iC_throneNode iC_saidWorth iC_unit rC_kind rC_parts rC_partNodes rC_weights rC_weightSums rC_toldWorths rC_steps rC_below rC_above rC_unsureWords rC_unsureWorths)] [])) (va_Qi (fun (r : Int32) (u : Nat) => ((r = 0 ∨ r = 1) ∧ (r.toInt = (u : Int))) ∧ r = Int32.ofNat u) (fun (u : Nat) (t : State) => ∃ (niR_faultNumber : Int32) (niR_faultPlace : Int32) (niC_throneNode : Int32), ((-1) ≤ niC_throneNode.toInt ∧ niC_throneNode.toInt ≤ 17) ∧ (u = 1 → iC_nodes.toInt ≤ 0 ∨ 0 ≤ niC_throneNode.toInt) ∧ (PX3_readEnd iR_faultNumber iR_faultPlace iR_tokenKind iR_tokenFrom iC_nodes iC_words iC_throneNode = (Int32.ofNat u, niR_faultNumber, niR_faultPlace, niC_throneNode)) ∧ Bw dC dI (va_A [(oc3 oR iR_faultNumber iR_faultPlace iR_tapeSize rR_tape iR_end iR_tokenKind iR_tokenFrom iR_tokenTo iR_tokenName iR_tokenKey iR_tokenWhole oC iR_courtTold rR_names rR_keys), (oc1 oC iC_nodes iC_words iC_chances iC_unsures iC_slips iC_throneNode iC_saidWorth iC_unit rC_kind rC_parts rC_partNodes rC_weights rC_weightSums rC_toldWorths rC_steps rC_below rC_above rC_unsureWords rC_unsureWorths)] sz) [(oc3 oR niR_faultNumber niR_faultPlace iR_tapeSize rR_tape iR_end iR_tokenKind iR_tokenFrom iR_tokenTo iR_tokenName iR_tokenKey iR_tokenWhole oC iR_courtTold rR_names rR_keys), (oc1 oC iC_nodes iC_words iC_chances iC_unsures iC_slips niC_throneNode iC_saidWorth iC_unit rC_kind rC_parts rC_partNodes rC_weights rC_weightSums rC_toldWorths rC_steps rC_below rC_above rC_unsureWords rC_unsureWorths)] [] t) (va_A [(oc3 oR iR_faultNumber iR_faultPlace iR_tapeSize rR_tape iR_end iR_tokenKind iR_tokenFrom iR_tokenTo iR_tokenName iR_tokenKey iR_tokenWhole oC iR_courtTold rR_names rR_keys), (oc1 oC iC_nodes iC_words iC_chances iC_unsures iC_slips iC_throneNode iC_saidWorth iC_unit rC_kind rC_parts rC_partNodes rC_weights rC_weightSums rC_toldWorths rC_steps rC_below rC_above rC_unsureWords rC_unsureWorths)] sz)) 0 0 (va_A [(oc3 oR iR_faultNumber iR_faultPlace iR_tapeSize rR_tape iR_end iR_tokenKind iR_tokenFrom iR_tokenTo iR_tokenName iR_tokenKey iR_tokenWhole oC iR_courtTold rR_names rR_keys), (oc1 oC iC_nodes iC_words iC_chances iC_unsures iC_slips iC_throneNode iC_saidWorth iC_unit rC_kind rC_parts rC_partNodes rC_weights rC_weightSums rC_toldWorths rC_steps rC_below rC_above rC_unsureWords rC_unsureWorths)] sz) := by
  refine Met.ofW (cc := cX3_readEnd) (maxL := 1) (ret := (some .boolean)) pnX3 rfl ?_
  intro p e s m args below meth c s₁ B hml hv
  obtain ⟨rfl, hsz, hP, hK, hD0, hE⟩ := hv
  have hx := B.exec
  have hb := B.bytes
  have hr := B.returns
  have hts : ∀ w ∈ wG, w.before ([.ref oR] : List Value).toArray s = true := fun w h => atoms_spec (ws := Cond.code yX3_readEnd cX3_readEnd 1 (some .boolean) :: wG) B.pre w (List.mem_cons_of_mem _ h)
  have hown : s.vm.findClass RX3 = some m.cls := own_of B.named rfl
  have hlocks := B.notSynchronized
  subst hsz
  have hD := hD0.self (sz := s.heap.size)
  generalize hAe : va_A [(oc3 oR iR_faultNumber iR_faultPlace iR_tapeSize rR_tape iR_end iR_tokenKind iR_tokenFrom iR_tokenTo iR_tokenName iR_tokenKey iR_tokenWhole oC iR_courtTold rR_names rR_keys), (oc1 oC iC_nodes iC_words iC_chances iC_unsures iC_slips iC_throneNode iC_saidWorth iC_unit rC_kind rC_parts rC_partNodes rC_weights rC_weightSums rC_toldWorths rC_steps rC_below rC_above rC_unsureWords rC_unsureWorths)] s.heap.size = A at hD hE ⊢
  have hA : ∀ q : Nat, s.heap.size ≤ q → A q := fun q h => by rw [← hAe]; exact Or.inr h
  have hS : va_S A s.heap s.heap [] := va_S.rf
  have hl := lv_entry ([.ref oR]) (n := 1) (Nat.le_of_ble_eq_true rfl)
  rw [lg_entry_eq]
  generalize (lg_sl ([.ref oR]) ++ List.replicate (1 - (lg_sl ([.ref oR])).length) Slot.unset).toArray = ls at hl ⊢
  have hl : lv_has ls 1 [(0, .ref oR)] := hl
  have hG := PX3_readEnd_eq iR_faultNumber iR_faultPlace iR_tokenKind iR_tokenFrom iC_nodes iC_words iC_throneNode
  refine lv_aload_n hx hb dX3_readEnd_0 rfl (lv_at hl 0 rfl) ?_
  refine va_get (D := (dC, dI)) (ci := 3) (v := .int iR_tokenKind) (C := RX3) (T := TX3) (N := 15) hx hb hts inX3 hown hK hP 0 rfl rfl 5 (by decide) (hts _ wd_210) (fun _ h9 => h9) rfl dX3_readEnd_1 ?_
  refine lv_if_eq (tgt := 13) hx hb dX3_readEnd_4 (by decide) (fun c_2624 => ?_) (fun c_2624 => ?_)
  · skip
    have hG := hG.trans (if_pos c_2624)
    have gc_2624 := ti_eq c_2624 rfl kc_0
    refine lv_aload_n hx hb dX3_readEnd_13 rfl (lv_at hl 0 rfl) ?_
    refine va_get (D := (dC, dI)) (ci := 3) (v := .ref oC) (C := RX3) (T := TX3) (N := 15) hx hb hts inX3 hown hK hP 0 rfl rfl 11 (by decide) (hts _ wd_46) (fun _ h9 => h9) rfl dX3_readEnd_14 ?_
    refine va_get (D := (dC, dI)) (ci := 1) (v := .int iC_words) (C := RX1) (T := TX1) (N := 19) hx hb hts inX1 hown hK hP 1 rfl rfl 1 (by decide) (hts _ wd_360) (fun _ h9 => h9) rfl dX3_readEnd_17 ?_
    refine lv_if_ne (tgt := 30) hx hb dX3_readEnd_20 (by decide) (fun c_2625 => ?_) (fun c_2625 => ?_)
    · skip
      have hG := hG.trans (if_neg c_2625)
      have gc_2625 := ti_ne c_2625 rfl kc_0
      refine lv_aload_n hx hb dX3_readEnd_30 rfl (lv_at hl 0 rfl) ?_
      refine va_get (D := (dC, dI)) (ci := 3) (v := .ref oC) (C := RX3) (T := TX3) (N := 15) hx hb hts inX3 hown hK hP 0 rfl rfl 11 (by decide) (hts _ wd_46) (fun _ h9 => h9) rfl dX3_readEnd_31 ?_
      refine va_get (D := (dC, dI)) (ci := 1) (v := .int iC_throneNode) (C := RX1) (T := TX1) (N := 19) hx hb hts inX1 hown hK hP 1 rfl rfl 5 (by decide) (hts _ wd_333) (fun _ h9 => h9) rfl dX3_readEnd_34 ?_
      refine lv_if_ge (tgt := 56) hx hb dX3_readEnd_37 (by decide) (fun c_2626 => ?_) (fun c_2626 => ?_)
      · skip
        have hG := hG.trans (if_pos c_2626)
        have gc_2626 := ti_le c_2626 kc_0 rfl
        refine lv_iconst (v := 1) hx hb dX3_readEnd_56 (by decide) ?_
        exact wq_z (v := 1) hx hb hr rfl 1 ⟨⟨Or.inr rfl, (by decide)⟩, (by decide)⟩ (fun t ht hW => ⟨iR_faultNumber, iR_faultPlace, iC_throneNode, b_iC_throneNode, (by first | omega | decide | assumption), hG, Bw.to hP hD hK ht hW⟩) hS dX3_readEnd_57 hlocks
      · skip
        have hG := hG.trans (if_neg c_2626)
        have gc_2626 := ti_nle c_2626 kc_0 rfl
        refine lv_aload_n hx hb dX3_readEnd_40 rfl (lv_at hl 0 rfl) ?_
        refine va_get (D := (dC, dI)) (ci := 3) (v := .ref oC) (C := RX3) (T := TX3) (N := 15) hx hb hts inX3 hown hK hP 0 rfl rfl 11 (by decide) (hts _ wd_46) (fun _ h9 => h9) rfl dX3_readEnd_41 ?_
        refine lv_aload_n hx hb dX3_readEnd_44 rfl (lv_at hl 0 rfl) ?_
        refine va_get (D := (dC, dI)) (ci := 3) (v := .ref oC) (C := RX3) (T := TX3) (N := 15) hx hb hts inX3 hown hK hP 0 rfl rfl 11 (by decide) (hts _ wd_46) (fun _ h9 => h9) rfl dX3_readEnd_45 ?_
        refine va_get (D := (dC, dI)) (ci := 1) (v := .int iC_nodes) (C := RX1) (T := TX1) (N := 19) hx hb hts inX1 hown hK hP 1 rfl rfl 0 (by decide) (hts _ wd_287) (fun _ h9 => h9) rfl dX3_readEnd_48 ?_
        refine lv_iconst (v := 1) hx hb dX3_readEnd_51 (by decide) ?_
        refine lv_isub hx hb dX3_readEnd_52 ?_
        refine lv_topi (fun x_2627 ex_2627 => ?_)
        have hG := hG.trans (lt_eq ex_2627)
        have vx_2627 : x_2627.toInt = iC_nodes.toInt + (-1) := om_89646172 (ti_sub ex_2627 rfl kc_1 (om_e65a73c2 b_iC_nodes.1) (om_6178c2cd b_iC_nodes.2))
        refine va_put (D := (dC, dI)) (ci := 1) (v := .int x_2627) (ty := .int) (C := RX1) (T := TX1) (N := 19) hx hb hts inX1 tyX1 tyX1_ok nmX1 hown hK hP hD hS 1 rfl rfl 5 (by decide) (hts _ wd_333) (fun _ h9 => h9) rfl (by decide +kernel) rfl rfl (Nat.le_of_ble_eq_true rfl) dX3_readEnd_53 (fun H locs hP hD hS => ?_)
        obtain ⟨hP, hD⟩ := wl2 (ws' := [(oc3 oR iR_faultNumber iR_faultPlace iR_tapeSize rR_tape iR_end iR_tokenKind iR_tokenFrom iR_tokenTo iR_tokenName iR_tokenKey iR_tokenWhole oC iR_courtTold rR_names rR_keys), (oc1 oC iC_nodes iC_words iC_chances iC_unsures iC_slips x_2627 iC_saidWorth iC_unit rC_kind rC_parts rC_partNodes rC_weights rC_weightSums rC_toldWorths rC_steps rC_below rC_above rC_unsureWords rC_unsureWorths)]) hP hD rfl
        refine lv_iconst (v := 1) hx hb dX3_readEnd_56 (by decide) ?_
        exact wq_z (v := 1) hx hb hr rfl 1 ⟨⟨Or.inr rfl, (by decide)⟩, (by decide)⟩ (fun t ht hW => ⟨iR_faultNumber, iR_faultPlace, x_2627, ⟨(om_73d763a0 b_iC_nodes.1 vx_2627), (om_18eccbe9 b_iC_nodes.2 vx_2627)⟩, (by first | omega | decide | assumption), hG, Bw.to hP hD hK ht hW⟩) hS dX3_readEnd_57 hlocks
    · skip
      have hG := hG.trans (if_pos c_2625)
      have gc_2625 := ti_eq c_2625 rfl kc_0
      refine lv_aload_n hx hb dX3_readEnd_23 rfl (lv_at hl 0 rfl) ?_
      refine lv_bipush (v := 6) hx hb dX3_readEnd_24 (by decide) ?_
      have hMs := ml_of hD [true, false] (wc := [(oc3 oR iR_faultNumber iR_faultPlace iR_tapeSize rR_tape iR_end iR_tokenKind iR_tokenFrom iR_tokenTo iR_tokenName iR_tokenKey iR_tokenWhole oC iR_courtTold rR_names rR_keys)]) rfl
      have hFc := va_freeM hD hS hA _ hMs
      refine va_calli (va_runV (As := [.int 6]) (rest := []) ⟨hx, hb, hml, hown, hts⟩ (tX3_faulty l dC dI _ oR iR_faultNumber iR_faultPlace iR_tapeSize rR_tape iR_end iR_tokenKind iR_tokenFrom iR_tokenTo iR_tokenName iR_tokenKey iR_tokenWhole oC iR_courtTold rR_names rR_keys 6 b_iR_tapeSize b_iR_courtTold) (cwV 1 hts (wd_V wd_254 wd_255 wd_256 wd_15 (wd_c wd_257)) rfl rfl rfl dv_yX3_faulty_1 ⟨Nat.le_of_ble_eq_true rfl, Nat.le_of_ble_eq_true rfl⟩) ⟨Pw.fb, recvX3 hK hP (q0 := 0) rfl, fun U hU hW => Pw.to (hP.ms _ hMs) (hD.ms _ hMs) hK hE hS hFc hU hW⟩ rfl rfl hl.1 rfl (lv_room (Nat.le_of_ble_eq_true rfl)) dX3_readEnd_26 ⟨Nat.le_of_ble_eq_true rfl, Nat.le_of_ble_eq_true rfl⟩) hS (fun q _ h => hFc q h) hFc (fun r u t H locs ht hvm hw hB hz1 hk1 hS => ?_)
      have hru9 := hw.2
      have hw := hw.1
      refine ex_2_1 hB (fun x_2628 x_2629 e_x_2628_0 hB => ?_)
      obtain ⟨hP, hD⟩ := Bw.goN (ws' := [(oc3 oR x_2628 x_2629 iR_tapeSize rR_tape iR_end iR_tokenKind iR_tokenFrom iR_tokenTo iR_tokenName iR_tokenKey iR_tokenWhole oC iR_courtTold rR_names rR_keys), (oc1 oC iC_nodes iC_words iC_chances iC_unsures iC_slips iC_throneNode iC_saidWorth iC_unit rC_kind rC_parts rC_partNodes rC_weights rC_weightSums rC_toldWorths rC_steps rC_below rC_above rC_unsureWords rC_unsureWorths)]) hB rfl ht hP hD _ hMs hk1 hFc rfl
      clear hz1 hk1 hvm ht hB hMs
      rw [← hru9] at e_x_2628_0
      rcases hw.2 with ⟨rfl, hc_2630⟩
      · skip
        have hG := hG.trans (un3_eq e_x_2628_0)
        exact wq_z (v := 0) hx hb hr rfl 0 ⟨⟨Or.inl rfl, (by decide)⟩, (by decide)⟩ (fun t ht hW => ⟨x_2628, x_2629, iC_throneNode, b_iC_throneNode, (by first | omega | decide | assumption), hG, Bw.to hP hD hK ht hW⟩) hS dX3_readEnd_29 hlocks
  · skip
    have hG := hG.trans (if_neg c_2624)
    have gc_2624 := ti_ne c_2624 rfl kc_0
    refine lv_aload_n hx hb dX3_readEnd_7 rfl (lv_at hl 0 rfl) ?_
    refine lv_iconst (v := 1) hx hb dX3_readEnd_8 (by decide) ?_
    have hMs := ml_of hD [true, false] (wc := [(oc3 oR iR_faultNumber iR_faultPlace iR_tapeSize rR_tape iR_end iR_tokenKind iR_tokenFrom iR_tokenTo iR_tokenName iR_tokenKey iR_tokenWhole oC iR_courtTold rR_names rR_keys)]) rfl
    have hFc := va_freeM hD hS hA _ hMs
    refine va_calli (va_runV (As := [.int 1]) (rest := []) ⟨hx, hb, hml, hown, hts⟩ (tX3_faulty l dC dI _ oR iR_faultNumber iR_faultPlace iR_tapeSize rR_tape iR_end iR_tokenKind iR_tokenFrom iR_tokenTo iR_tokenName iR_tokenKey iR_tokenWhole oC iR_courtTold rR_names rR_keys 1 b_iR_tapeSize b_iR_courtTold) (cwV 1 hts (wd_V wd_254 wd_255 wd_256 wd_15 (wd_c wd_257)) rfl rfl rfl dv_yX3_faulty_1 ⟨Nat.le_of_ble_eq_true rfl, Nat.le_of_ble_eq_true rfl⟩) ⟨Pw.fb, recvX3 hK hP (q0 := 0) rfl, fun U hU hW => Pw.to (hP.ms _ hMs) (hD.ms _ hMs) hK hE hS hFc hU hW⟩ rfl rfl hl.1 rfl (lv_room (Nat.le_of_ble_eq_true rfl)) dX3_readEnd_9 ⟨Nat.le_of_ble_eq_true rfl, Nat.le_of_ble_eq_true rfl⟩) hS (fun q _ h => hFc q h) hFc (fun r u t H locs ht hvm hw hB hz1 hk1 hS => ?_)
    have hru9 := hw.2
    have hw := hw.1
    refine ex_2_1 hB (fun x_2632 x_2633 e_x_2632_0 hB => ?_)
    obtain ⟨hP, hD⟩ := Bw.goN (ws' := [(oc3 oR x_2632 x_2633 iR_tapeSize rR_tape iR_end iR_tokenKind iR_tokenFrom iR_tokenTo iR_tokenName iR_tokenKey iR_tokenWhole oC iR_courtTold rR_names rR_keys), (oc1 oC iC_nodes iC_words iC_chances iC_unsures iC_slips iC_throneNode iC_saidWorth iC_unit rC_kind rC_parts rC_partNodes rC_weights rC_weightSums rC_toldWorths rC_steps rC_below rC_above rC_unsureWords rC_unsureWorths)]) hB rfl ht hP hD _ hMs hk1 hFc rfl
    clear hz1 hk1 hvm ht hB hMs
    rw [← hru9] at e_x_2632_0
    rcases hw.2 with ⟨rfl, hc_2634⟩
    · skip
      have hG := hG.trans (un3_eq e_x_2632_0)
      exact wq_z (v := 0) hx hb hr rfl 0 ⟨⟨Or.inl rfl, (by decide)⟩, (by decide)⟩ (fun t ht hW => ⟨x_2632, x_2633, iC_throneNode, b_iC_throneNode, (by first | omega | decide | assumption), hG, Bw.to hP hD hK ht hW⟩) hS dX3_readEnd_12 hlocks
set_option maxHeartbeats 4000000 in
set_option maxRecDepth 100000 in
theorem tX3_reads (l : Launch) (dC : Nat → ClassId) (dI : Nat → Nat → Nat) (sz : Nat) (oR : Nat) (iR_faultNumber : Int32) (iR_faultPlace : Int32) (iR_tapeSize : Int32) (rR_tape : Nat) (fR_tape : Nat → Int32) (kR_tape : ClassId) (iR_end : Int32) (iR_tokenKind : Int32) (iR_tokenFrom : Int32) (iR_tokenTo : Int32) (iR_tokenName : Int64) (iR_tokenKey : Int32) (iR_tokenWhole : Int32) (oC : Nat) (iR_courtTold : Int32) (rR_names : Nat) (fR_names : Nat → Int64) (kR_names : ClassId) (rR_keys : Nat) (fR_keys : Nat → Int64) (kR_keys : ClassId) (iC_nodes : Int32) (iC_words : Int32) (iC_chances : Int32) (iC_unsures : Int32) (iC_slips : Int32) (iC_throneNode : Int32) (iC_saidWorth : Int32) (iC_unit : Int32) (rC_kind : Nat) (fC_kind : Nat → Int32) (kC_kind : ClassId) (rC_parts : Nat) (fC_parts : Nat → Int32) (kC_parts : ClassId) (rC_partNodes : Nat) (fC_partNodes : Nat → Int32) (kC_partNodes : ClassId) (rC_weights : Nat) (fC_weights : Nat → Int32) (kC_weights : ClassId) (rC_weightSums : Nat) (fC_weightSums : Nat → Int32) (kC_weightSums : ClassId) (rC_toldWorths : Nat) (fC_toldWorths : Nat → Int32) (kC_toldWorths : ClassId) (rC_steps : Nat) (fC_steps : Nat → Int32) (kC_steps : ClassId) (rC_below : Nat) (fC_below : Nat → Int32) (kC_below : ClassId) (rC_above : Nat) (fC_above : Nat → Int32) (kC_above : ClassId) (rC_unsureWords : Nat) (fC_unsureWords : Nat → Int32) (kC_unsureWords : ClassId) (rC_unsureWorths : Nat) (fC_unsureWorths : Nat → Int32) (kC_unsureWorths : ClassId) (p0 : Int32) (b_iR_tapeSize : 0 ≤ iR_tapeSize.toInt ∧ iR_tapeSize.toInt ≤ 900) (b_iR_courtTold : 0 ≤ iR_courtTold.toInt ∧ iR_courtTold.toInt ≤ 1) (b_iC_nodes : 0 ≤ iC_nodes.toInt ∧ iC_nodes.toInt ≤ 18) (b_iC_unsures : 0 ≤ iC_unsures.toInt ∧ iC_unsures.toInt ≤ 4) (b_iC_throneNode : (-1) ≤ iC_throneNode.toInt ∧ iC_throneNode.toInt ≤ 17) (a_fC_parts : ∀ j : Nat, j < 18 → 0 ≤ (fC_parts j).toInt ∧ (fC_parts j).toInt ≤ 4) (a_fC_partNodes : ∀ j : Nat, j < 72 → 0 ≤ (fC_partNodes j).toInt ∧ (fC_partNodes j).toInt ≤ 17) (a_fC_unsureWords : ∀ j : Nat, j < 4 → 0 ≤ (fC_unsureWords j).toInt ∧ (fC_unsureWords j).toInt ≤ 17)  : Met l yX3_reads (Cond.code yX3_reads cX3_reads 4 (some .boolean) :: wG) ({ frames := 6, cells := 0, slots := 0, locals := 134 }) (va_Pc [.ref oR, .int p0] (Pw dC dI sz [(oc3 oR iR_faultNumber iR_faultPlace iR_tapeSize rR_tape iR_end iR_tokenKind iR_tokenFrom iR_tokenTo iR_tokenName iR_tokenKey iR_tokenWhole oC iR_courtTold rR_names rR_keys), (arI rR_tape kR_tape 900 fR_tape), (arL rR_names kR_names 18 fR_names), (arL rR_keys kR_keys 10 fR_keys), (oc1 oC iC_nodes iC_words iC_chances iC_unsures iC_slips iC_throneNode iC_saidWorth iC_unit rC_kind rC_parts rC_partNodes rC_weights rC_weightSums rC_toldWorths rC_steps rC_below rC_above rC_unsureWords rC_unsureWorths), (arI rC_kind kC_kind 18 fC_kind), (arI rC_parts kC_parts 18 fC_parts), (arI rC_partNodes kC_partNodes 72 fC_partNodes), (arI rC_weights kC_weights 72 fC_weights), (arI rC_weightSums kC_weightSums 18 fC_weightSums), (arI rC_toldWorths kC_toldWorths 18 fC_toldWorths), (arI rC_steps kC_steps 18 fC_steps), (arI rC_below kC_below 18 fC_below), (arI rC_above kC_above 18 fC_above), (arI rC_unsureWords kC_unsureWords 4 fC_unsureWords), (arI rC_unsureWorths kC_unsureWorths 4 fC_unsureWorths)] [(kR_tape, .byte), (kR_names, .long), (kR_keys, .long), (kC_kind, .int), (kC_parts, .int), (kC_partNodes, .int), (kC_weights, .int), (kC_weightSums, .int), (kC_toldWorths, .int), (kC_steps, .int), (kC_below, .int), (kC_above, .int), (kC_unsureWords, .int), (kC_unsureWorths, .int)])) (va_Qi (fun (r : Int32) (u : Nat) => ((r = 0 ∨ r = 1) ∧ (r.toInt = (u : Int))) ∧ r = Int32.ofNat u) (fun (u : Nat) (t : State) => ∃ (niR_faultNumber : Int32) (niR_faultPlace : Int32) (niR_tapeSize : Int32) (niR_end : Int32) (niR_tokenKind : Int32) (niR_tokenFrom : Int32) (niR_tokenTo : Int32) (niR_tokenName : Int64) (niR_tokenKey : Int32) (niR_tokenWhole : Int32) (niR_courtTold : Int32) (nfR_names : Nat → Int64) (niC_nodes : Int32) (niC_words : Int32) (niC_chances : Int32) (niC_unsures : Int32) (niC_slips : Int32) (niC_throneNode : Int32) (niC_saidWorth : Int32) (niC_unit : Int32) (nfC_kind : Nat → Int32) (nfC_parts : Nat → Int32) (nfC_partNodes : Nat → Int32) (nfC_weights : Nat → Int32) (nfC_weightSums : Nat → Int32) (nfC_toldWorths : Nat → Int32) (nfC_steps : Nat → Int32) (nfC_below : Nat → Int32) (nfC_above : Nat → Int32) (nfC_unsureWords : Nat → Int32) (nfC_unsureWorths : Nat → Int32), (0 ≤ niR_tapeSize.toInt ∧ niR_tapeSize.toInt ≤ 0) ∧ (0 ≤ niR_courtTold.toInt ∧ niR_courtTold.toInt ≤ 1) ∧ (0 ≤ niC_nodes.toInt ∧ niC_nodes.toInt ≤ 18) ∧ (0 ≤ niC_unsures.toInt ∧ niC_unsures.toInt ≤ 4) ∧ ((-1) ≤ niC_throneNode.toInt ∧ niC_throneNode.toInt ≤ 17) ∧ (∀ j : Nat, j < 18 → 0 ≤ (nfC_parts j).toInt ∧ (nfC_parts j).toInt ≤ 4) ∧ (∀ j : Nat, j < 72 → 0 ≤ (nfC_partNodes j).toInt ∧ (nfC_partNodes j).toInt ≤ 17) ∧ (∀ j : Nat, j < 4 → 0 ≤ (nfC_unsureWords j).toInt ∧ (nfC_unsureWords j).toInt ≤ 17) ∧ (u = 1 → niC_nodes.toInt ≤ 0 ∨ 0 ≤ niC_throneNode.toInt) ∧ (PX3_reads fR_tape iR_tokenName iR_tokenWhole fR_names fR_keys fC_kind fC_parts fC_partNodes fC_weights fC_weightSums fC_toldWorths fC_steps fC_below fC_above fC_unsureWords fC_unsureWorths p0 = (Int32.ofNat u, niR_faultNumber, niR_faultPlace, niR_tapeSize, niR_end, niR_tokenKind, niR_tokenFrom, niR_tokenTo, niR_tokenName, niR_tokenKey, niR_tokenWhole, niR_courtTold, nfR_names, niC_nodes, niC_words, niC_chances, niC_unsures, niC_slips, niC_throneNode, niC_saidWorth, niC_unit, nfC_kind, nfC_parts, nfC_partNodes, nfC_weights, nfC_weightSums, nfC_toldWorths, nfC_steps, nfC_below, nfC_above, nfC_unsureWords, nfC_unsureWorths)) ∧ Bw dC dI (va_A [(oc3 oR iR_faultNumber iR_faultPlace iR_tapeSize rR_tape iR_end iR_tokenKind iR_tokenFrom iR_tokenTo iR_tokenName iR_tokenKey iR_tokenWhole oC iR_courtTold rR_names rR_keys), (arI rR_tape kR_tape 900 fR_tape), (arL rR_names kR_names 18 fR_names), (arL rR_keys kR_keys 10 fR_keys), (oc1 oC iC_nodes iC_words iC_chances iC_unsures iC_slips iC_throneNode iC_saidWorth iC_unit rC_kind rC_parts rC_partNodes rC_weights rC_weightSums rC_toldWorths rC_steps rC_below rC_above rC_unsureWords rC_unsureWorths), (arI rC_kind kC_kind 18 fC_kind), (arI rC_parts kC_parts 18 fC_parts), (arI rC_partNodes kC_partNodes 72 fC_partNodes), (arI rC_weights kC_weights 72 fC_weights), (arI rC_weightSums kC_weightSums 18 fC_weightSums), (arI rC_toldWorths kC_toldWorths 18 fC_toldWorths), (arI rC_steps kC_steps 18 fC_steps), (arI rC_below kC_below 18 fC_below), (arI rC_above kC_above 18 fC_above), (arI rC_unsureWords kC_unsureWords 4 fC_unsureWords), (arI rC_unsureWorths kC_unsureWorths 4 fC_unsureWorths)] sz) [(oc3 oR niR_faultNumber niR_faultPlace niR_tapeSize rR_tape niR_end niR_tokenKind niR_tokenFrom niR_tokenTo niR_tokenName niR_tokenKey niR_tokenWhole oC niR_courtTold rR_names rR_keys), (arI rR_tape kR_tape 900 fR_tape), (arL rR_names kR_names 18 nfR_names), (arL rR_keys kR_keys 10 fR_keys), (oc1 oC niC_nodes niC_words niC_chances niC_unsures niC_slips niC_throneNode niC_saidWorth niC_unit rC_kind rC_parts rC_partNodes rC_weights rC_weightSums rC_toldWorths rC_steps rC_below rC_above rC_unsureWords rC_unsureWorths), (arI rC_kind kC_kind 18 nfC_kind), (arI rC_parts kC_parts 18 nfC_parts), (arI rC_partNodes kC_partNodes 72 nfC_partNodes), (arI rC_weights kC_weights 72 nfC_weights), (arI rC_weightSums kC_weightSums 18 nfC_weightSums), (arI rC_toldWorths kC_toldWorths 18 nfC_toldWorths), (arI rC_steps kC_steps 18 nfC_steps), (arI rC_below kC_below 18 nfC_below), (arI rC_above kC_above 18 nfC_above), (arI rC_unsureWords kC_unsureWords 4 nfC_unsureWords), (arI rC_unsureWorths kC_unsureWorths 4 nfC_unsureWorths)] [(kR_tape, .byte), (kR_names, .long), (kR_keys, .long), (kC_kind, .int), (kC_parts, .int), (kC_partNodes, .int), (kC_weights, .int), (kC_weightSums, .int), (kC_toldWorths, .int), (kC_steps, .int), (kC_below, .int), (kC_above, .int), (kC_unsureWords, .int), (kC_unsureWorths, .int)] t) (va_A [(oc3 oR iR_faultNumber iR_faultPlace iR_tapeSize rR_tape iR_end iR_tokenKind iR_tokenFrom iR_tokenTo iR_tokenName iR_tokenKey iR_tokenWhole oC iR_courtTold rR_names rR_keys), (arI rR_tape kR_tape 900 fR_tape), (arL rR_names kR_names 18 fR_names), (arL rR_keys kR_keys 10 fR_keys), (oc1 oC iC_nodes iC_words iC_chances iC_unsures iC_slips iC_throneNode iC_saidWorth iC_unit rC_kind rC_parts rC_partNodes rC_weights rC_weightSums rC_toldWorths rC_steps rC_below rC_above rC_unsureWords rC_unsureWorths), (arI rC_kind kC_kind 18 fC_kind), (arI rC_parts kC_parts 18 fC_parts), (arI rC_partNodes kC_partNodes 72 fC_partNodes), (arI rC_weights kC_weights 72 fC_weights), (arI rC_weightSums kC_weightSums 18 fC_weightSums), (arI rC_toldWorths kC_toldWorths 18 fC_toldWorths), (arI rC_steps kC_steps 18 fC_steps), (arI rC_below kC_below 18 fC_below), (arI rC_above kC_above 18 fC_above), (arI rC_unsureWords kC_unsureWords 4 fC_unsureWords), (arI rC_unsureWorths kC_unsureWorths 4 fC_unsureWorths)] sz)) 0 0 (va_A [(oc3 oR iR_faultNumber iR_faultPlace iR_tapeSize rR_tape iR_end iR_tokenKind iR_tokenFrom iR_tokenTo iR_tokenName iR_tokenKey iR_tokenWhole oC iR_courtTold rR_names rR_keys), (arI rR_tape kR_tape 900 fR_tape), (arL rR_names kR_names 18 fR_names), (arL rR_keys kR_keys 10 fR_keys), (oc1 oC iC_nodes iC_words iC_chances iC_unsures iC_slips iC_throneNode iC_saidWorth iC_unit rC_kind rC_parts rC_partNodes rC_weights rC_weightSums rC_toldWorths rC_steps rC_below rC_above rC_unsureWords rC_unsureWorths), (arI rC_kind kC_kind 18 fC_kind), (arI rC_parts kC_parts 18 fC_parts), (arI rC_partNodes kC_partNodes 72 fC_partNodes), (arI rC_weights kC_weights 72 fC_weights), (arI rC_weightSums kC_weightSums 18 fC_weightSums), (arI rC_toldWorths kC_toldWorths 18 fC_toldWorths), (arI rC_steps kC_steps 18 fC_steps), (arI rC_below kC_below 18 fC_below), (arI rC_above kC_above 18 fC_above), (arI rC_unsureWords kC_unsureWords 4 fC_unsureWords), (arI rC_unsureWorths kC_unsureWorths 4 fC_unsureWorths)] sz) := by
  refine Met.ofW (cc := cX3_reads) (maxL := 4) (ret := (some .boolean)) pnX3 rfl ?_
  intro p e s m args below meth c s₁ B hml hv
  obtain ⟨rfl, hsz, hP, hK, hD0, hE⟩ := hv
  have hx := B.exec
  have hb := B.bytes
  have hr := B.returns
  have hts : ∀ w ∈ wG, w.before ([.ref oR, .int p0] : List Value).toArray s = true := fun w h => atoms_spec (ws := Cond.code yX3_reads cX3_reads 4 (some .boolean) :: wG) B.pre w (List.mem_cons_of_mem _ h)
  have hown : s.vm.findClass RX3 = some m.cls := own_of B.named rfl
  have hlocks := B.notSynchronized
  subst hsz
  have hD := hD0.self (sz := s.heap.size)
  generalize hAe : va_A [(oc3 oR iR_faultNumber iR_faultPlace iR_tapeSize rR_tape iR_end iR_tokenKind iR_tokenFrom iR_tokenTo iR_tokenName iR_tokenKey iR_tokenWhole oC iR_courtTold rR_names rR_keys), (arI rR_tape kR_tape 900 fR_tape), (arL rR_names kR_names 18 fR_names), (arL rR_keys kR_keys 10 fR_keys), (oc1 oC iC_nodes iC_words iC_chances iC_unsures iC_slips iC_throneNode iC_saidWorth iC_unit rC_kind rC_parts rC_partNodes rC_weights rC_weightSums rC_toldWorths rC_steps rC_below rC_above rC_unsureWords rC_unsureWorths), (arI rC_kind kC_kind 18 fC_kind), (arI rC_parts kC_parts 18 fC_parts), (arI rC_partNodes kC_partNodes 72 fC_partNodes), (arI rC_weights kC_weights 72 fC_weights), (arI rC_weightSums kC_weightSums 18 fC_weightSums), (arI rC_toldWorths kC_toldWorths 18 fC_toldWorths), (arI rC_steps kC_steps 18 fC_steps), (arI rC_below kC_below 18 fC_below), (arI rC_above kC_above 18 fC_above), (arI rC_unsureWords kC_unsureWords 4 fC_unsureWords), (arI rC_unsureWorths kC_unsureWorths 4 fC_unsureWorths)] s.heap.size = A at hD hE ⊢
  have hA : ∀ q : Nat, s.heap.size ≤ q → A q := fun q h => by rw [← hAe]; exact Or.inr h
  have hS : va_S A s.heap s.heap [] := va_S.rf
  have hl := lv_entry ([.ref oR, .int p0]) (n := 4) (Nat.le_of_ble_eq_true rfl)
  rw [lg_entry_eq]
  generalize (lg_sl ([.ref oR, .int p0]) ++ List.replicate (4 - (lg_sl ([.ref oR, .int p0])).length) Slot.unset).toArray = ls at hl ⊢
  have hl : lv_has ls 4 [(0, .ref oR), (1, .int p0)] := hl
  have hG := PX3_reads_eq fR_tape iR_tokenName iR_tokenWhole fR_names fR_keys fC_kind fC_parts fC_partNodes fC_weights fC_weightSums fC_toldWorths fC_steps fC_below fC_above fC_unsureWords fC_unsureWorths p0
  have rg_p0 := fb_rng p0
  refine lv_aload_n hx hb dX3_reads_0 rfl (lv_at hl 0 rfl) ?_
  refine lv_iconst (v := 0) hx hb dX3_reads_1 (by decide) ?_
  refine va_put (D := (dC, dI)) (ci := 3) (v := .int 0) (ty := .int) (C := RX3) (T := TX3) (N := 15) hx hb hts inX3 tyX3 tyX3_ok nmX3 hown hK hP hD hS 0 rfl rfl 2 (by decide) (hts _ wd_179) (fun _ h9 => h9) rfl (by decide +kernel) rfl rfl (Nat.le_of_ble_eq_true rfl) dX3_reads_2 (fun H locs hP hD hS => ?_)
  obtain ⟨hP, hD⟩ := wl2 (ws' := [(oc3 oR iR_faultNumber iR_faultPlace 0 rR_tape iR_end iR_tokenKind iR_tokenFrom iR_tokenTo iR_tokenName iR_tokenKey iR_tokenWhole oC iR_courtTold rR_names rR_keys), (arI rR_tape kR_tape 900 fR_tape), (arL rR_names kR_names 18 fR_names), (arL rR_keys kR_keys 10 fR_keys), (oc1 oC iC_nodes iC_words iC_chances iC_unsures iC_slips iC_throneNode iC_saidWorth iC_unit rC_kind rC_parts rC_partNodes rC_weights rC_weightSums rC_toldWorths rC_steps rC_below rC_above rC_unsureWords rC_unsureWorths), (arI rC_kind kC_kind 18 fC_kind), (arI rC_parts kC_parts 18 fC_parts), (arI rC_partNodes kC_partNodes 72 fC_partNodes), (arI rC_weights kC_weights 72 fC_weights), (arI rC_weightSums kC_weightSums 18 fC_weightSums), (arI rC_toldWorths kC_toldWorths 18 fC_toldWorths), (arI rC_steps kC_steps 18 fC_steps), (arI rC_below kC_below 18 fC_below), (arI rC_above kC_above 18 fC_above), (arI rC_unsureWords kC_unsureWords 4 fC_unsureWords), (arI rC_unsureWorths kC_unsureWorths 4 fC_unsureWorths)]) hP hD rfl
  refine lv_aload_n hx hb dX3_reads_5 rfl (lv_at hl 0 rfl) ?_
  refine lv_iload_n hx hb dX3_reads_6 rfl (lv_at hl 1 rfl) ?_
  refine va_put (D := (dC, dI)) (ci := 3) (v := .int p0) (ty := .int) (C := RX3) (T := TX3) (N := 15) hx hb hts inX3 tyX3 tyX3_ok nmX3 hown hK hP hD hS 0 rfl rfl 4 (by decide) (hts _ wd_205) (fun _ h9 => h9) rfl (by decide +kernel) rfl rfl (Nat.le_of_ble_eq_true rfl) dX3_reads_7 (fun H locs hP hD hS => ?_)
  obtain ⟨hP, hD⟩ := wl2 (ws' := [(oc3 oR iR_faultNumber iR_faultPlace 0 rR_tape p0 iR_tokenKind iR_tokenFrom iR_tokenTo iR_tokenName iR_tokenKey iR_tokenWhole oC iR_courtTold rR_names rR_keys), (arI rR_tape kR_tape 900 fR_tape), (arL rR_names kR_names 18 fR_names), (arL rR_keys kR_keys 10 fR_keys), (oc1 oC iC_nodes iC_words iC_chances iC_unsures iC_slips iC_throneNode iC_saidWorth iC_unit rC_kind rC_parts rC_partNodes rC_weights rC_weightSums rC_toldWorths rC_steps rC_below rC_above rC_unsureWords rC_unsureWorths), (arI rC_kind kC_kind 18 fC_kind), (arI rC_parts kC_parts 18 fC_parts), (arI rC_partNodes kC_partNodes 72 fC_partNodes), (arI rC_weights kC_weights 72 fC_weights), (arI rC_weightSums kC_weightSums 18 fC_weightSums), (arI rC_toldWorths kC_toldWorths 18 fC_toldWorths), (arI rC_steps kC_steps 18 fC_steps), (arI rC_below kC_below 18 fC_below), (arI rC_above kC_above 18 fC_above), (arI rC_unsureWords kC_unsureWords 4 fC_unsureWords), (arI rC_unsureWorths kC_unsureWorths 4 fC_unsureWorths)]) hP hD rfl
  refine lv_aload_n hx hb dX3_reads_10 rfl (lv_at hl 0 rfl) ?_
  refine va_get (D := (dC, dI)) (ci := 3) (v := .ref oC) (C := RX3) (T := TX3) (N := 15) hx hb hts inX3 hown hK hP 0 rfl rfl 11 (by decide) (hts _ wd_46) (fun _ h9 => h9) rfl dX3_reads_11 ?_
  have hMs := ml_of hD [false, false, false, false, true, false, false, false, false, false, false, false, false, false, false, false] (wc := [(oc1 oC iC_nodes iC_words iC_chances iC_unsures iC_slips iC_throneNode iC_saidWorth iC_unit rC_kind rC_parts rC_partNodes rC_weights rC_weightSums rC_toldWorths rC_steps rC_below rC_above rC_unsureWords rC_unsureWorths)]) rfl
  have hFc := va_freeM hD hS hA _ hMs
  refine va_callv (va_runV (As := []) (rest := []) ⟨hx, hb, hml, hown, hts⟩ (tX1_clear l dC dI _ oC iC_nodes iC_words iC_chances iC_unsures iC_slips iC_throneNode iC_saidWorth iC_unit rC_kind rC_parts rC_partNodes rC_weights rC_weightSums rC_toldWorths rC_steps rC_below rC_above rC_unsureWords rC_unsureWorths b_iC_nodes b_iC_unsures b_iC_throneNode) (cwV 0 hts (wd_V wd_211 wd_212 wd_213 wd_19 (wd_c wd_214)) rfl rfl rfl dv_yX1_clear_0 ⟨Nat.le_of_ble_eq_true rfl, Nat.le_of_ble_eq_true rfl⟩) ⟨Pw.fb, recvX1 hK hP (q0 := 4) rfl, fun U hU hW => Pw.to (hP.ms _ hMs) (hD.ms _ hMs) (hK.ms [false, false, false, false, false, false, false, false, false, false, false, false, false, false] rfl) hE hS hFc hU hW⟩ rfl rfl hl.1 rfl (lv_room (Nat.le_of_ble_eq_true rfl)) dX3_reads_14 ⟨Nat.le_of_ble_eq_true rfl, Nat.le_of_ble_eq_true rfl⟩) hS (fun q _ h => hFc q h) hFc (fun u t H locs ht hvm hw hB hz1 hk1 hS => ?_)
  refine ex_8_9 hB (fun x_2864 x_2865 x_2866 x_2867 x_2868 x_2869 x_2870 x_2871 b_x_2864 b_x_2865 b_x_2866 b_x_2867 b_x_2868 b_x_2869 b_x_2870 b_x_2871 e_x_2864_0 hB => ?_)
  obtain ⟨hP, hD⟩ := Bw.goN (ws' := [(oc3 oR iR_faultNumber iR_faultPlace 0 rR_tape p0 iR_tokenKind iR_tokenFrom iR_tokenTo iR_tokenName iR_tokenKey iR_tokenWhole oC iR_courtTold rR_names rR_keys), (arI rR_tape kR_tape 900 fR_tape), (arL rR_names kR_names 18 fR_names), (arL rR_keys kR_keys 10 fR_keys), (oc1 oC x_2864 x_2865 x_2866 x_2867 x_2868 x_2869 x_2870 x_2871 rC_kind rC_parts rC_partNodes rC_weights rC_weightSums rC_toldWorths rC_steps rC_below rC_above rC_unsureWords rC_unsureWorths), (arI rC_kind kC_kind 18 fC_kind), (arI rC_parts kC_parts 18 fC_parts), (arI rC_partNodes kC_partNodes 72 fC_partNodes), (arI rC_weights kC_weights 72 fC_weights), (arI rC_weightSums kC_weightSums 18 fC_weightSums), (arI rC_toldWorths kC_toldWorths 18 fC_toldWorths), (arI rC_steps kC_steps 18 fC_steps), (arI rC_below kC_below 18 fC_below), (arI rC_above kC_above 18 fC_above), (arI rC_unsureWords kC_unsureWords 4 fC_unsureWords), (arI rC_unsureWorths kC_unsureWorths 4 fC_unsureWorths)]) hB rfl ht hP hD _ hMs hk1 hFc rfl
  clear hz1 hk1 hvm ht hB hMs
  have rg_x_2864 := fb_rng x_2864
  have rg_x_2865 := fb_rng x_2865
  have rg_x_2866 := fb_rng x_2866
  have rg_x_2867 := fb_rng x_2867
  have rg_x_2868 := fb_rng x_2868
  have rg_x_2869 := fb_rng x_2869
  have rg_x_2870 := fb_rng x_2870
  have rg_x_2871 := fb_rng x_2871
  have hG := hG.trans (un8_eq e_x_2864_0)
  refine lv_aload_n hx hb dX3_reads_17 rfl (lv_at hl 0 rfl) ?_
  refine lv_iconst (v := 0) hx hb dX3_reads_18 (by decide) ?_
  refine va_put (D := (dC, dI)) (ci := 3) (v := .int 0) (ty := .boolean) (C := RX3) (T := TX3) (N := 15) hx hb hts inX3 tyX3 tyX3_ok nmX3 hown hK hP hD hS 0 rfl rfl 12 (by decide) (hts _ wd_206) (fun _ h9 => h9) rfl (by decide +kernel) rfl rfl (Nat.le_of_ble_eq_true rfl) dX3_reads_19 (fun H locs hP hD hS => ?_)
  obtain ⟨hP, hD⟩ := wl2 (ws' := [(oc3 oR iR_faultNumber iR_faultPlace 0 rR_tape p0 iR_tokenKind iR_tokenFrom iR_tokenTo iR_tokenName iR_tokenKey iR_tokenWhole oC 0 rR_names rR_keys), (arI rR_tape kR_tape 900 fR_tape), (arL rR_names kR_names 18 fR_names), (arL rR_keys kR_keys 10 fR_keys), (oc1 oC x_2864 x_2865 x_2866 x_2867 x_2868 x_2869 x_2870 x_2871 rC_kind rC_parts rC_partNodes rC_weights rC_weightSums rC_toldWorths rC_steps rC_below rC_above rC_unsureWords rC_unsureWorths), (arI rC_kind kC_kind 18 fC_kind), (arI rC_parts kC_parts 18 fC_parts), (arI rC_partNodes kC_partNodes 72 fC_partNodes), (arI rC_weights kC_weights 72 fC_weights), (arI rC_weightSums kC_weightSums 18 fC_weightSums), (arI rC_toldWorths kC_toldWorths 18 fC_toldWorths), (arI rC_steps kC_steps 18 fC_steps), (arI rC_below kC_below 18 fC_below), (arI rC_above kC_above 18 fC_above), (arI rC_unsureWords kC_unsureWords 4 fC_unsureWords), (arI rC_unsureWorths kC_unsureWorths 4 fC_unsureWorths)]) hP hD rfl
  refine lv_aload_n hx hb dX3_reads_22 rfl (lv_at hl 0 rfl) ?_
  refine lv_iconst (v := 0) hx hb dX3_reads_23 (by decide) ?_
  refine va_put (D := (dC, dI)) (ci := 3) (v := .int 0) (ty := .int) (C := RX3) (T := TX3) (N := 15) hx hb hts inX3 tyX3 tyX3_ok nmX3 hown hK hP hD hS 0 rfl rfl 0 (by decide) (hts _ wd_207) (fun _ h9 => h9) rfl (by decide +kernel) rfl rfl (Nat.le_of_ble_eq_true rfl) dX3_reads_24 (fun H locs hP hD hS => ?_)
  obtain ⟨hP, hD⟩ := wl2 (ws' := [(oc3 oR 0 iR_faultPlace 0 rR_tape p0 iR_tokenKind iR_tokenFrom iR_tokenTo iR_tokenName iR_tokenKey iR_tokenWhole oC 0 rR_names rR_keys), (arI rR_tape kR_tape 900 fR_tape), (arL rR_names kR_names 18 fR_names), (arL rR_keys kR_keys 10 fR_keys), (oc1 oC x_2864 x_2865 x_2866 x_2867 x_2868 x_2869 x_2870 x_2871 rC_kind rC_parts rC_partNodes rC_weights rC_weightSums rC_toldWorths rC_steps rC_below rC_above rC_unsureWords rC_unsureWorths), (arI rC_kind kC_kind 18 fC_kind), (arI rC_parts kC_parts 18 fC_parts), (arI rC_partNodes kC_partNodes 72 fC_partNodes), (arI rC_weights kC_weights 72 fC_weights), (arI rC_weightSums kC_weightSums 18 fC_weightSums), (arI rC_toldWorths kC_toldWorths 18 fC_toldWorths), (arI rC_steps kC_steps 18 fC_steps), (arI rC_below kC_below 18 fC_below), (arI rC_above kC_above 18 fC_above), (arI rC_unsureWords kC_unsureWords 4 fC_unsureWords), (arI rC_unsureWorths kC_unsureWorths 4 fC_unsureWorths)]) hP hD rfl
  refine lv_aload_n hx hb dX3_reads_27 rfl (lv_at hl 0 rfl) ?_
  refine lv_iconst (v := (-1)) hx hb dX3_reads_28 (by decide) ?_
  refine va_put (D := (dC, dI)) (ci := 3) (v := .int (-1)) (ty := .int) (C := RX3) (T := TX3) (N := 15) hx hb hts inX3 tyX3 tyX3_ok nmX3 hown hK hP hD hS 0 rfl rfl 1 (by decide) (hts _ wd_208) (fun _ h9 => h9) rfl (by decide +kernel) rfl rfl (Nat.le_of_ble_eq_true rfl) dX3_reads_29 (fun H locs hP hD hS => ?_)
  obtain ⟨hP, hD⟩ := wl2 (ws' := [(oc3 oR 0 (-1) 0 rR_tape p0 iR_tokenKind iR_tokenFrom iR_tokenTo iR_tokenName iR_tokenKey iR_tokenWhole oC 0 rR_names rR_keys), (arI rR_tape kR_tape 900 fR_tape), (arL rR_names kR_names 18 fR_names), (arL rR_keys kR_keys 10 fR_keys), (oc1 oC x_2864 x_2865 x_2866 x_2867 x_2868 x_2869 x_2870 x_2871 rC_kind rC_parts rC_partNodes rC_weights rC_weightSums rC_toldWorths rC_steps rC_below rC_above rC_unsureWords rC_unsureWorths), (arI rC_kind kC_kind 18 fC_kind), (arI rC_parts kC_parts 18 fC_parts), (arI rC_partNodes kC_partNodes 72 fC_partNodes), (arI rC_weights kC_weights 72 fC_weights), (arI rC_weightSums kC_weightSums 18 fC_weightSums), (arI rC_toldWorths kC_toldWorths 18 fC_toldWorths), (arI rC_steps kC_steps 18 fC_steps), (arI rC_below kC_below 18 fC_below), (arI rC_above kC_above 18 fC_above), (arI rC_unsureWords kC_unsureWords 4 fC_unsureWords), (arI rC_unsureWorths kC_unsureWorths 4 fC_unsureWorths)]) hP hD rfl
  refine lv_aload_n hx hb dX3_reads_32 rfl (lv_at hl 0 rfl) ?_
  refine lv_iconst (v := 0) hx hb dX3_reads_33 (by decide) ?_
  refine va_put (D := (dC, dI)) (ci := 3) (v := .int 0) (ty := .int) (C := RX3) (T := TX3) (N := 15) hx hb hts inX3 tyX3 tyX3_ok nmX3 hown hK hP hD hS 0 rfl rfl 7 (by decide) (hts _ wd_209) (fun _ h9 => h9) rfl (by decide +kernel) rfl rfl (Nat.le_of_ble_eq_true rfl) dX3_reads_34 (fun H locs hP hD hS => ?_)
  obtain ⟨hP, hD⟩ := wl2 (ws' := [(oc3 oR 0 (-1) 0 rR_tape p0 iR_tokenKind iR_tokenFrom 0 iR_tokenName iR_tokenKey iR_tokenWhole oC 0 rR_names rR_keys), (arI rR_tape kR_tape 900 fR_tape), (arL rR_names kR_names 18 fR_names), (arL rR_keys kR_keys 10 fR_keys), (oc1 oC x_2864 x_2865 x_2866 x_2867 x_2868 x_2869 x_2870 x_2871 rC_kind rC_parts rC_partNodes rC_weights rC_weightSums rC_toldWorths rC_steps rC_below rC_above rC_unsureWords rC_unsureWorths), (arI rC_kind kC_kind 18 fC_kind), (arI rC_parts kC_parts 18 fC_parts), (arI rC_partNodes kC_partNodes 72 fC_partNodes), (arI rC_weights kC_weights 72 fC_weights), (arI rC_weightSums kC_weightSums 18 fC_weightSums), (arI rC_toldWorths kC_toldWorths 18 fC_toldWorths), (arI rC_steps kC_steps 18 fC_steps), (arI rC_below kC_below 18 fC_below), (arI rC_above kC_above 18 fC_above), (arI rC_unsureWords kC_unsureWords 4 fC_unsureWords), (arI rC_unsureWorths kC_unsureWorths 4 fC_unsureWorths)]) hP hD rfl
  refine lv_aload_n hx hb dX3_reads_37 rfl (lv_at hl 0 rfl) ?_
  have hMs := ml_of hD [true, true, false, true, false, false, false, false, false, false, false, false, false, false, false, false] (wc := [(oc3 oR 0 (-1) 0 rR_tape p0 iR_tokenKind iR_tokenFrom 0 iR_tokenName iR_tokenKey iR_tokenWhole oC 0 rR_names rR_keys), (arI rR_tape kR_tape 900 fR_tape), (arL rR_keys kR_keys 10 fR_keys)]) rfl
  have hFc := va_freeM hD hS hA _ hMs
  refine va_callv (va_runV (As := []) (rest := []) ⟨hx, hb, hml, hown, hts⟩ (tX3_nextToken l dC dI _ oR 0 (-1) 0 rR_tape fR_tape kR_tape p0 iR_tokenKind iR_tokenFrom 0 iR_tokenName iR_tokenKey iR_tokenWhole oC 0 rR_names rR_keys fR_keys kR_keys (by first | decide | omega) (by first | decide | omega)) (cwV 0 hts (wd_V wd_220 wd_221 wd_222 wd_15 (wd_c wd_223)) rfl rfl rfl dv_yX3_nextToken_0 ⟨Nat.le_of_ble_eq_true rfl, Nat.le_of_ble_eq_true rfl⟩) ⟨Pw.fb, recvX3 hK hP (q0 := 0) rfl, fun U hU hW => Pw.to (hP.ms _ hMs) (hD.ms _ hMs) (hK.ms [true, false, true, false, false, false, false, false, false, false, false, false, false, false] rfl) hE hS hFc hU hW⟩ rfl rfl hl.1 rfl (lv_room (Nat.le_of_ble_eq_true rfl)) dX3_reads_38 ⟨Nat.le_of_ble_eq_true rfl, Nat.le_of_ble_eq_true rfl⟩) hS (fun q _ h => hFc q h) hFc (fun u t H locs ht hvm hw hB hz1 hk1 hS => ?_)
  refine ex_6_1 hB (fun x_2872 x_2873 x_2874 y_2875 x_2876 x_2877 e_x_2872_0 hB => ?_)
  obtain ⟨hP, hD⟩ := Bw.goN (ws' := [(oc3 oR 0 (-1) 0 rR_tape p0 x_2872 x_2873 x_2874 y_2875 x_2876 x_2877 oC 0 rR_names rR_keys), (arI rR_tape kR_tape 900 fR_tape), (arL rR_names kR_names 18 fR_names), (arL rR_keys kR_keys 10 fR_keys), (oc1 oC x_2864 x_2865 x_2866 x_2867 x_2868 x_2869 x_2870 x_2871 rC_kind rC_parts rC_partNodes rC_weights rC_weightSums rC_toldWorths rC_steps rC_below rC_above rC_unsureWords rC_unsureWorths), (arI rC_kind kC_kind 18 fC_kind), (arI rC_parts kC_parts 18 fC_parts), (arI rC_partNodes kC_partNodes 72 fC_partNodes), (arI rC_weights kC_weights 72 fC_weights), (arI rC_weightSums kC_weightSums 18 fC_weightSums), (arI rC_toldWorths kC_toldWorths 18 fC_toldWorths), (arI rC_steps kC_steps 18 fC_steps), (arI rC_below kC_below 18 fC_below), (arI rC_above kC_above 18 fC_above), (arI rC_unsureWords kC_unsureWords 4 fC_unsureWords), (arI rC_unsureWorths kC_unsureWorths 4 fC_unsureWorths)]) hB rfl ht hP hD _ hMs hk1 hFc rfl
  clear hz1 hk1 hvm ht hB hMs
  have rg_x_2872 := fb_rng x_2872
  have rg_x_2873 := fb_rng x_2873
  have rg_x_2874 := fb_rng x_2874
  have rg_x_2876 := fb_rng x_2876
  have rg_x_2877 := fb_rng x_2877
  have hG := hG.trans (un6_eq e_x_2872_0)
  refine lv_aload_n hx hb dX3_reads_41 rfl (lv_at hl 0 rfl) ?_
  have hFc := va_freeI hD hS hA
  refine va_calli (va_runV (As := []) (rest := []) ⟨hx, hb, hml, hown, hts⟩ (tX3_readLine l dC dI _ oR 0 (-1) 0 rR_tape fR_tape kR_tape p0 x_2872 x_2873 x_2874 y_2875 x_2876 x_2877 oC 0 rR_names fR_names kR_names rR_keys fR_keys kR_keys x_2864 x_2865 x_2866 x_2867 x_2868 x_2869 x_2870 x_2871 rC_kind fC_kind kC_kind rC_parts fC_parts kC_parts rC_partNodes fC_partNodes kC_partNodes rC_weights fC_weights kC_weights rC_weightSums fC_weightSums kC_weightSums rC_toldWorths fC_toldWorths kC_toldWorths rC_steps fC_steps kC_steps rC_below fC_below kC_below rC_above fC_above kC_above rC_unsureWords fC_unsureWords kC_unsureWords rC_unsureWorths fC_unsureWorths kC_unsureWorths (by first | decide | omega) (by first | decide | omega) (by first | exact b_x_2864 | omega | decide) (by first | exact b_x_2867 | omega | decide) (by first | exact b_x_2869 | omega | decide) a_fC_parts a_fC_partNodes a_fC_unsureWords) (cwV 0 hts (wd_V wd_246 wd_247 wd_248 wd_15 (wd_c wd_249)) rfl rfl rfl dv_yX3_readLine_0 ⟨Nat.le_of_ble_eq_true rfl, Nat.le_of_ble_eq_true rfl⟩) ⟨Pw.fb, recvX3 hK hP (q0 := 0) rfl, fun U hU hW => Pw.to hP hD hK hE hS hFc hU hW⟩ rfl rfl hl.1 rfl (lv_room (Nat.le_of_ble_eq_true rfl)) dX3_reads_42 ⟨Nat.le_of_ble_eq_true rfl, Nat.le_of_ble_eq_true rfl⟩) hS (fun q _ h => hFc q h) hFc (fun r u t H locs ht hvm hw hB hz1 hk1 hS => ?_)
  have hru9 := hw.2
  have hw := hw.1
  refine ex_29_8 hB (fun x_2878 x_2879 x_2880 x_2881 x_2882 y_2883 x_2884 x_2885 x_2886 f_2887 x_2888 x_2889 x_2890 x_2891 x_2892 x_2893 x_2894 x_2895 f_2896 f_2897 f_2898 f_2899 f_2900 f_2901 f_2902 f_2903 f_2904 f_2905 f_2906 b_x_2886 b_x_2888 b_x_2891 b_x_2893 a_f_2897 a_f_2898 a_f_2905 e_x_2878_0 hB => ?_)
  obtain ⟨hP, hD⟩ := Bw.goA (ws' := [(oc3 oR x_2878 x_2879 0 rR_tape p0 x_2880 x_2881 x_2882 y_2883 x_2884 x_2885 oC x_2886 rR_names rR_keys), (arI rR_tape kR_tape 900 fR_tape), (arL rR_names kR_names 18 f_2887), (arL rR_keys kR_keys 10 fR_keys), (oc1 oC x_2888 x_2889 x_2890 x_2891 x_2892 x_2893 x_2894 x_2895 rC_kind rC_parts rC_partNodes rC_weights rC_weightSums rC_toldWorths rC_steps rC_below rC_above rC_unsureWords rC_unsureWorths), (arI rC_kind kC_kind 18 f_2896), (arI rC_parts kC_parts 18 f_2897), (arI rC_partNodes kC_partNodes 72 f_2898), (arI rC_weights kC_weights 72 f_2899), (arI rC_weightSums kC_weightSums 18 f_2900), (arI rC_toldWorths kC_toldWorths 18 f_2901), (arI rC_steps kC_steps 18 f_2902), (arI rC_below kC_below 18 f_2903), (arI rC_above kC_above 18 f_2904), (arI rC_unsureWords kC_unsureWords 4 f_2905), (arI rC_unsureWorths kC_unsureWorths 4 f_2906)]) hB rfl ht hFc rfl
  clear hz1 hk1 hvm ht hB
  have rg_x_2878 := fb_rng x_2878
  have rg_x_2879 := fb_rng x_2879
  have rg_x_2880 := fb_rng x_2880
  have rg_x_2881 := fb_rng x_2881
  have rg_x_2882 := fb_rng x_2882
  have rg_x_2884 := fb_rng x_2884
  have rg_x_2885 := fb_rng x_2885
  have rg_x_2886 := fb_rng x_2886
  have rg_x_2888 := fb_rng x_2888
  have rg_x_2889 := fb_rng x_2889
  have rg_x_2890 := fb_rng x_2890
  have rg_x_2891 := fb_rng x_2891
  have rg_x_2892 := fb_rng x_2892
  have rg_x_2893 := fb_rng x_2893
  have rg_x_2894 := fb_rng x_2894
  have rg_x_2895 := fb_rng x_2895
  rw [← hru9] at e_x_2878_0
  obtain ⟨x_2907, rfl⟩ : ∃ z, z = r := ⟨_, rfl⟩
  have hG := hG.trans (un30_eq e_x_2878_0)
  have rg_x_2907 := fb_rng x_2907
  have bx_2907 := hw.1
  have dx_2907 := bz_tb bx_2907
  refine lv_istore_n (lv' := [(2, .int x_2907), (0, .ref oR), (1, .int p0)]) hx hb dX3_reads_45 rfl hl (by decide) rfl (fun ls hl => ?_)
  refine lv_iconst (v := 0) hx hb dX3_reads_46 (by decide) ?_
  refine lv_istore_n (lv' := [(3, .int 0), (2, .int x_2907), (0, .ref oR), (1, .int p0)]) hx hb dX3_reads_47 rfl hl (by decide) rfl (fun ls hl => ?_)
  have hl := lv_sub hl (l' := [(3, .int 0), (2, .int x_2907), (0, .ref oR), (1, .int p0)]) [0, 1, 2, 3] rfl
  have key_n_2939 : ∀ (n_2939 : Nat) (z_2908 : Int32) (z_2909 : Int32) (z_2910 : Int32) (z_2911 : Int32) (z_2912 : Int32) (z_2913 : Int32) (z_2914 : Int32) (z_2915 : Int64) (z_2916 : Int32) (z_2917 : Int32) (z_2918 : Int32) (z_2919 : Int32) (z_2920 : Int32) (z_2921 : Int32) (z_2922 : Int32) (z_2923 : Int32) (z_2924 : Int32) (z_2925 : Int32) (z_2926 : Int32) (f_2927 : Nat → Int64) (f_2928 : Nat → Int32) (f_2929 : Nat → Int32) (f_2930 : Nat → Int32) (f_2931 : Nat → Int32) (f_2932 : Nat → Int32) (f_2933 : Nat → Int32) (f_2934 : Nat → Int32) (f_2935 : Nat → Int32) (f_2936 : Nat → Int32) (f_2937 : Nat → Int32) (f_2938 : Nat → Int32) (H : Heap) (locs : List Loc) (ls : Array Slot), (0 ≤ z_2918.toInt ∧ z_2918.toInt ≤ 1) → (0 ≤ z_2919.toInt ∧ z_2919.toInt ≤ 18) → (0 ≤ z_2922.toInt ∧ z_2922.toInt ≤ 4) → ((-1) ≤ z_2924.toInt ∧ z_2924.toInt ≤ 17) → (∀ j : Nat, j < 18 → 0 ≤ (f_2929 j).toInt ∧ (f_2929 j).toInt ≤ 4) → (∀ j : Nat, j < 72 → 0 ≤ (f_2930 j).toInt ∧ (f_2930 j).toInt ≤ 17) → (∀ j : Nat, j < 4 → 0 ≤ (f_2937 j).toInt ∧ (f_2937 j).toInt ≤ 17) → (0 ≤ z_2908.toInt ∧ z_2908.toInt ≤ 2147483647) → (2147483647 - z_2908.toInt).toNat < n_2939 → (PX3_reads fR_tape iR_tokenName iR_tokenWhole fR_names fR_keys fC_kind fC_parts fC_partNodes fC_weights fC_weightSums fC_toldWorths fC_steps fC_below fC_above fC_unsureWords fC_unsureWorths p0 = HX3_reads_0 fR_tape fR_keys p0 n_2939 z_2908 z_2909 z_2910 z_2911 z_2912 z_2913 z_2914 z_2915 z_2916 z_2917 z_2918 z_2919 z_2920 z_2921 z_2922 z_2923 z_2924 z_2925 z_2926 f_2927 f_2928 f_2929 f_2930 f_2931 f_2932 f_2933 f_2934 f_2935 f_2936 f_2937 f_2938) → va_P (dC, dI) vwCl [(oc3 oR z_2910 z_2911 0 rR_tape p0 z_2912 z_2913 z_2914 z_2915 z_2916 z_2917 oC z_2918 rR_names rR_keys), (arI rR_tape kR_tape 900 fR_tape), (arL rR_names kR_names 18 f_2927), (arL rR_keys kR_keys 10 fR_keys), (oc1 oC z_2919 z_2920 z_2921 z_2922 z_2923 z_2924 z_2925 z_2926 rC_kind rC_parts rC_partNodes rC_weights rC_weightSums rC_toldWorths rC_steps rC_below rC_above rC_unsureWords rC_unsureWorths), (arI rC_kind kC_kind 18 f_2928), (arI rC_parts kC_parts 18 f_2929), (arI rC_partNodes kC_partNodes 72 f_2930), (arI rC_weights kC_weights 72 f_2931), (arI rC_weightSums kC_weightSums 18 f_2932), (arI rC_toldWorths kC_toldWorths 18 f_2933), (arI rC_steps kC_steps 18 f_2934), (arI rC_below kC_below 18 f_2935), (arI rC_above kC_above 18 f_2936), (arI rC_unsureWords kC_unsureWords 4 f_2937), (arI rC_unsureWorths kC_unsureWorths 4 f_2938)] H → va_D A [(oc3 oR z_2910 z_2911 0 rR_tape p0 z_2912 z_2913 z_2914 z_2915 z_2916 z_2917 oC z_2918 rR_names rR_keys), (arI rR_tape kR_tape 900 fR_tape), (arL rR_names kR_names 18 f_2927), (arL rR_keys kR_keys 10 fR_keys), (oc1 oC z_2919 z_2920 z_2921 z_2922 z_2923 z_2924 z_2925 z_2926 rC_kind rC_parts rC_partNodes rC_weights rC_weightSums rC_toldWorths rC_steps rC_below rC_above rC_unsureWords rC_unsureWorths), (arI rC_kind kC_kind 18 f_2928), (arI rC_parts kC_parts 18 f_2929), (arI rC_partNodes kC_partNodes 72 f_2930), (arI rC_weights kC_weights 72 f_2931), (arI rC_weightSums kC_weightSums 18 f_2932), (arI rC_toldWorths kC_toldWorths 18 f_2933), (arI rC_steps kC_steps 18 f_2934), (arI rC_below kC_below 18 f_2935), (arI rC_above kC_above 18 f_2936), (arI rC_unsureWords kC_unsureWords 4 f_2937), (arI rC_unsureWorths kC_unsureWorths 4 f_2938)] → va_S A s.heap H locs → lv_has ls 4 [(3, .int z_2908), (2, .int z_2909), (0, .ref oR), (1, .int p0)] → W p l e (headSpec (Cond.code yX3_reads cX3_reads 4 (some .boolean) :: wG) ({ frames := 6, cells := 0, slots := 0, locals := 134 })).room s m ([.ref oR, .int p0] : List Value).toArray below meth c H locs 0 0 (MQ below (va_Qi (fun (r : Int32) (u : Nat) => ((r = 0 ∨ r = 1) ∧ (r.toInt = (u : Int))) ∧ r = Int32.ofNat u) (fun (u : Nat) (t : State) => ∃ (niR_faultNumber : Int32) (niR_faultPlace : Int32) (niR_tapeSize : Int32) (niR_end : Int32) (niR_tokenKind : Int32) (niR_tokenFrom : Int32) (niR_tokenTo : Int32) (niR_tokenName : Int64) (niR_tokenKey : Int32) (niR_tokenWhole : Int32) (niR_courtTold : Int32) (nfR_names : Nat → Int64) (niC_nodes : Int32) (niC_words : Int32) (niC_chances : Int32) (niC_unsures : Int32) (niC_slips : Int32) (niC_throneNode : Int32) (niC_saidWorth : Int32) (niC_unit : Int32) (nfC_kind : Nat → Int32) (nfC_parts : Nat → Int32) (nfC_partNodes : Nat → Int32) (nfC_weights : Nat → Int32) (nfC_weightSums : Nat → Int32) (nfC_toldWorths : Nat → Int32) (nfC_steps : Nat → Int32) (nfC_below : Nat → Int32) (nfC_above : Nat → Int32) (nfC_unsureWords : Nat → Int32) (nfC_unsureWorths : Nat → Int32), (0 ≤ niR_tapeSize.toInt ∧ niR_tapeSize.toInt ≤ 0) ∧ (0 ≤ niR_courtTold.toInt ∧ niR_courtTold.toInt ≤ 1) ∧ (0 ≤ niC_nodes.toInt ∧ niC_nodes.toInt ≤ 18) ∧ (0 ≤ niC_unsures.toInt ∧ niC_unsures.toInt ≤ 4) ∧ ((-1) ≤ niC_throneNode.toInt ∧ niC_throneNode.toInt ≤ 17) ∧ (∀ j : Nat, j < 18 → 0 ≤ (nfC_parts j).toInt ∧ (nfC_parts j).toInt ≤ 4) ∧ (∀ j : Nat, j < 72 → 0 ≤ (nfC_partNodes j).toInt ∧ (nfC_partNodes j).toInt ≤ 17) ∧ (∀ j : Nat, j < 4 → 0 ≤ (nfC_unsureWords j).toInt ∧ (nfC_unsureWords j).toInt ≤ 17) ∧ (u = 1 → niC_nodes.toInt ≤ 0 ∨ 0 ≤ niC_throneNode.toInt) ∧ (PX3_reads fR_tape iR_tokenName iR_tokenWhole fR_names fR_keys fC_kind fC_parts fC_partNodes fC_weights fC_weightSums fC_toldWorths fC_steps fC_below fC_above fC_unsureWords fC_unsureWorths p0 = (Int32.ofNat u, niR_faultNumber, niR_faultPlace, niR_tapeSize, niR_end, niR_tokenKind, niR_tokenFrom, niR_tokenTo, niR_tokenName, niR_tokenKey, niR_tokenWhole, niR_courtTold, nfR_names, niC_nodes, niC_words, niC_chances, niC_unsures, niC_slips, niC_throneNode, niC_saidWorth, niC_unit, nfC_kind, nfC_parts, nfC_partNodes, nfC_weights, nfC_weightSums, nfC_toldWorths, nfC_steps, nfC_below, nfC_above, nfC_unsureWords, nfC_unsureWorths)) ∧ Bw dC dI A [(oc3 oR niR_faultNumber niR_faultPlace niR_tapeSize rR_tape niR_end niR_tokenKind niR_tokenFrom niR_tokenTo niR_tokenName niR_tokenKey niR_tokenWhole oC niR_courtTold rR_names rR_keys), (arI rR_tape kR_tape 900 fR_tape), (arL rR_names kR_names 18 nfR_names), (arL rR_keys kR_keys 10 fR_keys), (oc1 oC niC_nodes niC_words niC_chances niC_unsures niC_slips niC_throneNode niC_saidWorth niC_unit rC_kind rC_parts rC_partNodes rC_weights rC_weightSums rC_toldWorths rC_steps rC_below rC_above rC_unsureWords rC_unsureWorths), (arI rC_kind kC_kind 18 nfC_kind), (arI rC_parts kC_parts 18 nfC_parts), (arI rC_partNodes kC_partNodes 72 nfC_partNodes), (arI rC_weights kC_weights 72 nfC_weights), (arI rC_weightSums kC_weightSums 18 nfC_weightSums), (arI rC_toldWorths kC_toldWorths 18 nfC_toldWorths), (arI rC_steps kC_steps 18 nfC_steps), (arI rC_below kC_below 18 nfC_below), (arI rC_above kC_above 18 nfC_above), (arI rC_unsureWords kC_unsureWords 4 nfC_unsureWords), (arI rC_unsureWorths kC_unsureWorths 4 nfC_unsureWorths)] [(kR_tape, .byte), (kR_names, .long), (kR_keys, .long), (kC_kind, .int), (kC_parts, .int), (kC_partNodes, .int), (kC_weights, .int), (kC_weightSums, .int), (kC_toldWorths, .int), (kC_steps, .int), (kC_below, .int), (kC_above, .int), (kC_unsureWords, .int), (kC_unsureWorths, .int)] t) A) ([.ref oR, .int p0] : List Value).toArray s 0 0 A) (F0 m 48 ls []) := by
    intro n_2939
    induction n_2939 with
    | zero => intro z_2908 z_2909 z_2910 z_2911 z_2912 z_2913 z_2914 z_2915 z_2916 z_2917 z_2918 z_2919 z_2920 z_2921 z_2922 z_2923 z_2924 z_2925 z_2926 f_2927 f_2928 f_2929 f_2930 f_2931 f_2932 f_2933 f_2934 f_2935 f_2936 f_2937 f_2938 H locs ls b_z_2918 b_z_2919 b_z_2922 b_z_2924 a_f_2929 a_f_2930 a_f_2937 hi0_n_2939 hm; exact absurd hm (Nat.not_lt_zero _)
    | succ n_2939 ih_n_2939 =>
      intro z_2908 z_2909 z_2910 z_2911 z_2912 z_2913 z_2914 z_2915 z_2916 z_2917 z_2918 z_2919 z_2920 z_2921 z_2922 z_2923 z_2924 z_2925 z_2926 f_2927 f_2928 f_2929 f_2930 f_2931 f_2932 f_2933 f_2934 f_2935 f_2936 f_2937 f_2938 H locs ls b_z_2918 b_z_2919 b_z_2922 b_z_2924 a_f_2929 a_f_2930 a_f_2937 hi0_n_2939 hm_n_2939 hG hP hD hS hl
      have hG := hG.trans (HX3_reads_0_eq _ _ _ _ _ _ _ _ _ _ _ _ _ _ _ _ _ _ _ _ _ _ _ _ _ _ _ _ _ _ _ _ _ _ _)
      have rg_z_2908 := fb_rng z_2908
      have rg_z_2909 := fb_rng z_2909
      have rg_z_2910 := fb_rng z_2910
      have rg_z_2911 := fb_rng z_2911
      have rg_z_2912 := fb_rng z_2912
      have rg_z_2913 := fb_rng z_2913
      have rg_z_2914 := fb_rng z_2914
      have rg_z_2916 := fb_rng z_2916
      have rg_z_2917 := fb_rng z_2917
      have rg_z_2918 := fb_rng z_2918
      have rg_z_2919 := fb_rng z_2919
      have rg_z_2920 := fb_rng z_2920
      have rg_z_2921 := fb_rng z_2921
      have rg_z_2922 := fb_rng z_2922
      have rg_z_2923 := fb_rng z_2923
      have rg_z_2924 := fb_rng z_2924
      have rg_z_2925 := fb_rng z_2925
      have rg_z_2926 := fb_rng z_2926
      refine lv_iload_n hx hb dX3_reads_48 rfl (lv_at hl 0 rfl) ?_
      refine lv_sipush (v := 900) hx hb dX3_reads_49 (by decide) ?_
      refine lv_icmp_ge (tgt := 82) hx hb dX3_reads_52 (by decide) (fun c_2940 => ?_) (fun c_2940 => ?_)
      · skip
        have hG := hG.trans (if_pos c_2940)
        have gc_2940 := ti_le c_2940 kc_900 rfl
        refine lv_iload_n hx hb dX3_reads_82 rfl (lv_at hl 1 rfl) ?_
        refine lv_if_eq (tgt := 97) hx hb dX3_reads_83 (by decide) (fun c_2941 => ?_) (fun c_2941 => ?_)
        · skip
          have hG := hG.trans (if_pos c_2941)
          have gc_2941 := ti_eq c_2941 rfl kc_0
          refine lv_iconst (v := 0) hx hb dX3_reads_97 (by decide) ?_
          exact wq_z (v := 0) hx hb hr rfl 0 ⟨⟨Or.inl rfl, (by decide)⟩, (by decide)⟩ (fun t ht hW => ⟨z_2910, z_2911, 0, p0, z_2912, z_2913, z_2914, z_2915, z_2916, z_2917, z_2918, f_2927, z_2919, z_2920, z_2921, z_2922, z_2923, z_2924, z_2925, z_2926, f_2928, f_2929, f_2930, f_2931, f_2932, f_2933, f_2934, f_2935, f_2936, f_2937, f_2938, (by decide), b_z_2918, b_z_2919, b_z_2922, b_z_2924, a_f_2929, a_f_2930, a_f_2937, (by first | omega | decide | assumption), hG, Bw.to hP hD hK ht hW⟩) hS dX3_reads_98 hlocks
        · skip
          have hG := hG.trans (if_neg c_2941)
          have gc_2941 := ti_ne c_2941 rfl kc_0
          refine lv_aload_n hx hb dX3_reads_86 rfl (lv_at hl 2 rfl) ?_
          have hMs := ml_of hD [true, false, false, false, true, false, false, false, false, false, false, false, false, false, false, false] (wc := [(oc3 oR z_2910 z_2911 0 rR_tape p0 z_2912 z_2913 z_2914 z_2915 z_2916 z_2917 oC z_2918 rR_names rR_keys), (oc1 oC z_2919 z_2920 z_2921 z_2922 z_2923 z_2924 z_2925 z_2926 rC_kind rC_parts rC_partNodes rC_weights rC_weightSums rC_toldWorths rC_steps rC_below rC_above rC_unsureWords rC_unsureWorths)]) rfl
          have hFc := va_freeM hD hS hA _ hMs
          refine va_calli (va_runV (As := []) (rest := []) ⟨hx, hb, hml, hown, hts⟩ (tX3_readEnd l dC dI _ oR z_2910 z_2911 0 rR_tape p0 z_2912 z_2913 z_2914 z_2915 z_2916 z_2917 oC z_2918 rR_names rR_keys z_2919 z_2920 z_2921 z_2922 z_2923 z_2924 z_2925 z_2926 rC_kind rC_parts rC_partNodes rC_weights rC_weightSums rC_toldWorths rC_steps rC_below rC_above rC_unsureWords rC_unsureWorths (by first | decide | omega) b_z_2918 b_z_2919 b_z_2922 b_z_2924) (cwV 0 hts (wd_V wd_356 wd_357 wd_358 wd_15 (wd_c wd_359)) rfl rfl rfl dv_yX3_readEnd_0 ⟨Nat.le_of_ble_eq_true rfl, Nat.le_of_ble_eq_true rfl⟩) ⟨Pw.fb, recvX3 hK hP (q0 := 0) rfl, fun U hU hW => Pw.to (hP.ms _ hMs) (hD.ms _ hMs) (hK.ms [false, false, false, false, false, false, false, false, false, false, false, false, false, false] rfl) hE hS hFc hU hW⟩ rfl rfl hl.1 rfl (lv_room (Nat.le_of_ble_eq_true rfl)) dX3_reads_87 ⟨Nat.le_of_ble_eq_true rfl, Nat.le_of_ble_eq_true rfl⟩) hS (fun q _ h => hFc q h) hFc (fun r u t H locs ht hvm hw hB hz1 hk1 hS => ?_)
          have hru9 := hw.2
          have hw := hw.1
          refine ex_3_3 hB (fun x_2942 x_2943 x_2944 b_x_2944 e_x_2942_0 e_x_2942_1 hB => ?_)
          obtain ⟨hP, hD⟩ := Bw.goN (ws' := [(oc3 oR x_2942 x_2943 0 rR_tape p0 z_2912 z_2913 z_2914 z_2915 z_2916 z_2917 oC z_2918 rR_names rR_keys), (arI rR_tape kR_tape 900 fR_tape), (arL rR_names kR_names 18 f_2927), (arL rR_keys kR_keys 10 fR_keys), (oc1 oC z_2919 z_2920 z_2921 z_2922 z_2923 x_2944 z_2925 z_2926 rC_kind rC_parts rC_partNodes rC_weights rC_weightSums rC_toldWorths rC_steps rC_below rC_above rC_unsureWords rC_unsureWorths), (arI rC_kind kC_kind 18 f_2928), (arI rC_parts kC_parts 18 f_2929), (arI rC_partNodes kC_partNodes 72 f_2930), (arI rC_weights kC_weights 72 f_2931), (arI rC_weightSums kC_weightSums 18 f_2932), (arI rC_toldWorths kC_toldWorths 18 f_2933), (arI rC_steps kC_steps 18 f_2934), (arI rC_below kC_below 18 f_2935), (arI rC_above kC_above 18 f_2936), (arI rC_unsureWords kC_unsureWords 4 f_2937), (arI rC_unsureWorths kC_unsureWorths 4 f_2938)]) hB rfl ht hP hD _ hMs hk1 hFc rfl
          clear hz1 hk1 hvm ht hB hMs
          have rg_x_2942 := fb_rng x_2942
          have rg_x_2943 := fb_rng x_2943
          have rg_x_2944 := fb_rng x_2944
          rw [← hru9] at e_x_2942_1
          obtain ⟨x_2945, rfl⟩ : ∃ z, z = r := ⟨_, rfl⟩
          have hG := hG.trans (un4_eq e_x_2942_1)
          have rg_x_2945 := fb_rng x_2945
          have bx_2945 := hw.1
          have dx_2945 := bz_tb bx_2945
          have lx_2945 := hw.2
          refine lv_if_eq (tgt := 97) hx hb dX3_reads_90 (by decide) (fun c_2946 => ?_) (fun c_2946 => ?_)
          · skip
            have hG := hG.trans (if_pos c_2946)
            have gc_2946 := ti_eq c_2946 rfl kc_0
            refine lv_iconst (v := 0) hx hb dX3_reads_97 (by decide) ?_
            exact wq_z (v := 0) hx hb hr rfl 0 ⟨⟨Or.inl rfl, (by decide)⟩, (by decide)⟩ (fun t ht hW => ⟨x_2942, x_2943, 0, p0, z_2912, z_2913, z_2914, z_2915, z_2916, z_2917, z_2918, f_2927, z_2919, z_2920, z_2921, z_2922, z_2923, x_2944, z_2925, z_2926, f_2928, f_2929, f_2930, f_2931, f_2932, f_2933, f_2934, f_2935, f_2936, f_2937, f_2938, (by decide), b_z_2918, b_z_2919, b_z_2922, b_x_2944, a_f_2929, a_f_2930, a_f_2937, (by first | omega | decide | assumption), hG, Bw.to hP hD hK ht hW⟩) hS dX3_reads_98 hlocks
          · skip
            have hG := hG.trans (if_neg c_2946)
            have gc_2946 := ti_ne c_2946 rfl kc_0
            refine lv_iconst (v := 1) hx hb dX3_reads_93 (by decide) ?_
            refine lv_goto (tgt := 98) hx hb dX3_reads_94 (by decide) ?_
            exact wq_z (v := 1) hx hb hr rfl 1 ⟨⟨Or.inr rfl, (by decide)⟩, (by decide)⟩ (fun t ht hW => ⟨x_2942, x_2943, 0, p0, z_2912, z_2913, z_2914, z_2915, z_2916, z_2917, z_2918, f_2927, z_2919, z_2920, z_2921, z_2922, z_2923, x_2944, z_2925, z_2926, f_2928, f_2929, f_2930, f_2931, f_2932, f_2933, f_2934, f_2935, f_2936, f_2937, f_2938, (by decide), b_z_2918, b_z_2919, b_z_2922, b_x_2944, a_f_2929, a_f_2930, a_f_2937, (by first | omega | decide | assumption), hG, Bw.to hP hD hK ht hW⟩) hS dX3_reads_98 hlocks
      · skip
        have hG := hG.trans (if_neg c_2940)
        have gc_2940 := ti_nle c_2940 kc_900 rfl
        refine lv_iload_n hx hb dX3_reads_55 rfl (lv_at hl 1 rfl) ?_
        refine lv_if_eq (tgt := 82) hx hb dX3_reads_56 (by decide) (fun c_2947 => ?_) (fun c_2947 => ?_)
        · skip
          have hG := hG.trans (if_pos c_2947)
          have gc_2947 := ti_eq c_2947 rfl kc_0
          refine lv_iload_n hx hb dX3_reads_82 rfl (lv_at hl 1 rfl) ?_
          refine lv_if_eq (tgt := 97) hx hb dX3_reads_83 (by decide) (fun c_2948 => ?_) (fun c_2948 => ?_)
          · skip
            have hG := hG.trans (if_pos c_2948)
            have gc_2948 := ti_eq c_2948 rfl kc_0
            refine lv_iconst (v := 0) hx hb dX3_reads_97 (by decide) ?_
            exact wq_z (v := 0) hx hb hr rfl 0 ⟨⟨Or.inl rfl, (by decide)⟩, (by decide)⟩ (fun t ht hW => ⟨z_2910, z_2911, 0, p0, z_2912, z_2913, z_2914, z_2915, z_2916, z_2917, z_2918, f_2927, z_2919, z_2920, z_2921, z_2922, z_2923, z_2924, z_2925, z_2926, f_2928, f_2929, f_2930, f_2931, f_2932, f_2933, f_2934, f_2935, f_2936, f_2937, f_2938, (by decide), b_z_2918, b_z_2919, b_z_2922, b_z_2924, a_f_2929, a_f_2930, a_f_2937, (by first | omega | decide | assumption), hG, Bw.to hP hD hK ht hW⟩) hS dX3_reads_98 hlocks
          · skip
            have hG := hG.trans (if_neg c_2948)
            have gc_2948 := ti_ne c_2948 rfl kc_0
            exact (om_62adc1dd gc_2948 gc_2947).elim
        · skip
          have hG := hG.trans (if_neg c_2947)
          have gc_2947 := ti_ne c_2947 rfl kc_0
          refine lv_aload_n hx hb dX3_reads_59 rfl (lv_at hl 2 rfl) ?_
          refine va_get (D := (dC, dI)) (ci := 3) (v := .int z_2912) (C := RX3) (T := TX3) (N := 15) hx hb hts inX3 hown hK hP 0 rfl rfl 5 (by decide) (hts _ wd_210) (fun _ h9 => h9) rfl dX3_reads_60 ?_
          refine lv_iconst (v := 3) hx hb dX3_reads_63 (by decide) ?_
          refine lv_icmp_ne (tgt := 82) hx hb dX3_reads_64 (by decide) (fun c_2949 => ?_) (fun c_2949 => ?_)
          · skip
            have hG := hG.trans (if_neg c_2949)
            have gc_2949 := ti_ne c_2949 rfl kc_3
            refine lv_iload_n hx hb dX3_reads_82 rfl (lv_at hl 1 rfl) ?_
            refine lv_if_eq (tgt := 97) hx hb dX3_reads_83 (by decide) (fun c_2950 => ?_) (fun c_2950 => ?_)
            · skip
              have hG := hG.trans (if_pos c_2950)
              have gc_2950 := ti_eq c_2950 rfl kc_0
              refine lv_iconst (v := 0) hx hb dX3_reads_97 (by decide) ?_
              exact wq_z (v := 0) hx hb hr rfl 0 ⟨⟨Or.inl rfl, (by decide)⟩, (by decide)⟩ (fun t ht hW => ⟨z_2910, z_2911, 0, p0, z_2912, z_2913, z_2914, z_2915, z_2916, z_2917, z_2918, f_2927, z_2919, z_2920, z_2921, z_2922, z_2923, z_2924, z_2925, z_2926, f_2928, f_2929, f_2930, f_2931, f_2932, f_2933, f_2934, f_2935, f_2936, f_2937, f_2938, (by decide), b_z_2918, b_z_2919, b_z_2922, b_z_2924, a_f_2929, a_f_2930, a_f_2937, (by first | omega | decide | assumption), hG, Bw.to hP hD hK ht hW⟩) hS dX3_reads_98 hlocks
            · skip
              have hG := hG.trans (if_neg c_2950)
              have gc_2950 := ti_ne c_2950 rfl kc_0
              refine lv_aload_n hx hb dX3_reads_86 rfl (lv_at hl 2 rfl) ?_
              have hMs := ml_of hD [true, false, false, false, true, false, false, false, false, false, false, false, false, false, false, false] (wc := [(oc3 oR z_2910 z_2911 0 rR_tape p0 z_2912 z_2913 z_2914 z_2915 z_2916 z_2917 oC z_2918 rR_names rR_keys), (oc1 oC z_2919 z_2920 z_2921 z_2922 z_2923 z_2924 z_2925 z_2926 rC_kind rC_parts rC_partNodes rC_weights rC_weightSums rC_toldWorths rC_steps rC_below rC_above rC_unsureWords rC_unsureWorths)]) rfl
              have hFc := va_freeM hD hS hA _ hMs
              refine va_calli (va_runV (As := []) (rest := []) ⟨hx, hb, hml, hown, hts⟩ (tX3_readEnd l dC dI _ oR z_2910 z_2911 0 rR_tape p0 z_2912 z_2913 z_2914 z_2915 z_2916 z_2917 oC z_2918 rR_names rR_keys z_2919 z_2920 z_2921 z_2922 z_2923 z_2924 z_2925 z_2926 rC_kind rC_parts rC_partNodes rC_weights rC_weightSums rC_toldWorths rC_steps rC_below rC_above rC_unsureWords rC_unsureWorths (by first | decide | omega) b_z_2918 b_z_2919 b_z_2922 b_z_2924) (cwV 0 hts (wd_V wd_356 wd_357 wd_358 wd_15 (wd_c wd_359)) rfl rfl rfl dv_yX3_readEnd_0 ⟨Nat.le_of_ble_eq_true rfl, Nat.le_of_ble_eq_true rfl⟩) ⟨Pw.fb, recvX3 hK hP (q0 := 0) rfl, fun U hU hW => Pw.to (hP.ms _ hMs) (hD.ms _ hMs) (hK.ms [false, false, false, false, false, false, false, false, false, false, false, false, false, false] rfl) hE hS hFc hU hW⟩ rfl rfl hl.1 rfl (lv_room (Nat.le_of_ble_eq_true rfl)) dX3_reads_87 ⟨Nat.le_of_ble_eq_true rfl, Nat.le_of_ble_eq_true rfl⟩) hS (fun q _ h => hFc q h) hFc (fun r u t H locs ht hvm hw hB hz1 hk1 hS => ?_)
              have hru9 := hw.2
              have hw := hw.1
              refine ex_3_3 hB (fun x_2951 x_2952 x_2953 b_x_2953 e_x_2951_0 e_x_2951_1 hB => ?_)
              obtain ⟨hP, hD⟩ := Bw.goN (ws' := [(oc3 oR x_2951 x_2952 0 rR_tape p0 z_2912 z_2913 z_2914 z_2915 z_2916 z_2917 oC z_2918 rR_names rR_keys), (arI rR_tape kR_tape 900 fR_tape), (arL rR_names kR_names 18 f_2927), (arL rR_keys kR_keys 10 fR_keys), (oc1 oC z_2919 z_2920 z_2921 z_2922 z_2923 x_2953 z_2925 z_2926 rC_kind rC_parts rC_partNodes rC_weights rC_weightSums rC_toldWorths rC_steps rC_below rC_above rC_unsureWords rC_unsureWorths), (arI rC_kind kC_kind 18 f_2928), (arI rC_parts kC_parts 18 f_2929), (arI rC_partNodes kC_partNodes 72 f_2930), (arI rC_weights kC_weights 72 f_2931), (arI rC_weightSums kC_weightSums 18 f_2932), (arI rC_toldWorths kC_toldWorths 18 f_2933), (arI rC_steps kC_steps 18 f_2934), (arI rC_below kC_below 18 f_2935), (arI rC_above kC_above 18 f_2936), (arI rC_unsureWords kC_unsureWords 4 f_2937), (arI rC_unsureWorths kC_unsureWorths 4 f_2938)]) hB rfl ht hP hD _ hMs hk1 hFc rfl
              clear hz1 hk1 hvm ht hB hMs
              have rg_x_2951 := fb_rng x_2951
              have rg_x_2952 := fb_rng x_2952
              have rg_x_2953 := fb_rng x_2953
              rw [← hru9] at e_x_2951_1
              obtain ⟨x_2954, rfl⟩ : ∃ z, z = r := ⟨_, rfl⟩
              have hG := hG.trans (un4_eq e_x_2951_1)
              have rg_x_2954 := fb_rng x_2954
              have bx_2954 := hw.1
              have dx_2954 := bz_tb bx_2954
              have lx_2954 := hw.2
              refine lv_if_eq (tgt := 97) hx hb dX3_reads_90 (by decide) (fun c_2955 => ?_) (fun c_2955 => ?_)
              · skip
                have hG := hG.trans (if_pos c_2955)
                have gc_2955 := ti_eq c_2955 rfl kc_0
                refine lv_iconst (v := 0) hx hb dX3_reads_97 (by decide) ?_
                exact wq_z (v := 0) hx hb hr rfl 0 ⟨⟨Or.inl rfl, (by decide)⟩, (by decide)⟩ (fun t ht hW => ⟨x_2951, x_2952, 0, p0, z_2912, z_2913, z_2914, z_2915, z_2916, z_2917, z_2918, f_2927, z_2919, z_2920, z_2921, z_2922, z_2923, x_2953, z_2925, z_2926, f_2928, f_2929, f_2930, f_2931, f_2932, f_2933, f_2934, f_2935, f_2936, f_2937, f_2938, (by decide), b_z_2918, b_z_2919, b_z_2922, b_x_2953, a_f_2929, a_f_2930, a_f_2937, (by first | omega | decide | assumption), hG, Bw.to hP hD hK ht hW⟩) hS dX3_reads_98 hlocks
              · skip
                have hG := hG.trans (if_neg c_2955)
                have gc_2955 := ti_ne c_2955 rfl kc_0
                refine lv_iconst (v := 1) hx hb dX3_reads_93 (by decide) ?_
                refine lv_goto (tgt := 98) hx hb dX3_reads_94 (by decide) ?_
                exact wq_z (v := 1) hx hb hr rfl 1 ⟨⟨Or.inr rfl, (by decide)⟩, (by decide)⟩ (fun t ht hW => ⟨x_2951, x_2952, 0, p0, z_2912, z_2913, z_2914, z_2915, z_2916, z_2917, z_2918, f_2927, z_2919, z_2920, z_2921, z_2922, z_2923, x_2953, z_2925, z_2926, f_2928, f_2929, f_2930, f_2931, f_2932, f_2933, f_2934, f_2935, f_2936, f_2937, f_2938, (by decide), b_z_2918, b_z_2919, b_z_2922, b_x_2953, a_f_2929, a_f_2930, a_f_2937, (by first | omega | decide | assumption), hG, Bw.to hP hD hK ht hW⟩) hS dX3_reads_98 hlocks
          · skip
            have hG := hG.trans (if_pos c_2949)
            have gc_2949 := ti_eq c_2949 rfl kc_3
            refine lv_aload_n hx hb dX3_reads_67 rfl (lv_at hl 2 rfl) ?_
            have hMs := ml_of hD [true, true, false, true, false, false, false, false, false, false, false, false, false, false, false, false] (wc := [(oc3 oR z_2910 z_2911 0 rR_tape p0 z_2912 z_2913 z_2914 z_2915 z_2916 z_2917 oC z_2918 rR_names rR_keys), (arI rR_tape kR_tape 900 fR_tape), (arL rR_keys kR_keys 10 fR_keys)]) rfl
            have hFc := va_freeM hD hS hA _ hMs
            refine va_callv (va_runV (As := []) (rest := []) ⟨hx, hb, hml, hown, hts⟩ (tX3_nextToken l dC dI _ oR z_2910 z_2911 0 rR_tape fR_tape kR_tape p0 z_2912 z_2913 z_2914 z_2915 z_2916 z_2917 oC z_2918 rR_names rR_keys fR_keys kR_keys (by first | decide | omega) b_z_2918) (cwV 0 hts (wd_V wd_220 wd_221 wd_222 wd_15 (wd_c wd_223)) rfl rfl rfl dv_yX3_nextToken_0 ⟨Nat.le_of_ble_eq_true rfl, Nat.le_of_ble_eq_true rfl⟩) ⟨Pw.fb, recvX3 hK hP (q0 := 0) rfl, fun U hU hW => Pw.to (hP.ms _ hMs) (hD.ms _ hMs) (hK.ms [true, false, true, false, false, false, false, false, false, false, false, false, false, false] rfl) hE hS hFc hU hW⟩ rfl rfl hl.1 rfl (lv_room (Nat.le_of_ble_eq_true rfl)) dX3_reads_68 ⟨Nat.le_of_ble_eq_true rfl, Nat.le_of_ble_eq_true rfl⟩) hS (fun q _ h => hFc q h) hFc (fun u t H locs ht hvm hw hB hz1 hk1 hS => ?_)
            refine ex_6_1 hB (fun x_2956 x_2957 x_2958 y_2959 x_2960 x_2961 e_x_2956_0 hB => ?_)
            obtain ⟨hP, hD⟩ := Bw.goN (ws' := [(oc3 oR z_2910 z_2911 0 rR_tape p0 x_2956 x_2957 x_2958 y_2959 x_2960 x_2961 oC z_2918 rR_names rR_keys), (arI rR_tape kR_tape 900 fR_tape), (arL rR_names kR_names 18 f_2927), (arL rR_keys kR_keys 10 fR_keys), (oc1 oC z_2919 z_2920 z_2921 z_2922 z_2923 z_2924 z_2925 z_2926 rC_kind rC_parts rC_partNodes rC_weights rC_weightSums rC_toldWorths rC_steps rC_below rC_above rC_unsureWords rC_unsureWorths), (arI rC_kind kC_kind 18 f_2928), (arI rC_parts kC_parts 18 f_2929), (arI rC_partNodes kC_partNodes 72 f_2930), (arI rC_weights kC_weights 72 f_2931), (arI rC_weightSums kC_weightSums 18 f_2932), (arI rC_toldWorths kC_toldWorths 18 f_2933), (arI rC_steps kC_steps 18 f_2934), (arI rC_below kC_below 18 f_2935), (arI rC_above kC_above 18 f_2936), (arI rC_unsureWords kC_unsureWords 4 f_2937), (arI rC_unsureWorths kC_unsureWorths 4 f_2938)]) hB rfl ht hP hD _ hMs hk1 hFc rfl
            clear hz1 hk1 hvm ht hB hMs
            have rg_x_2956 := fb_rng x_2956
            have rg_x_2957 := fb_rng x_2957
            have rg_x_2958 := fb_rng x_2958
            have rg_x_2960 := fb_rng x_2960
            have rg_x_2961 := fb_rng x_2961
            have hG := hG.trans (un6_eq e_x_2956_0)
            refine lv_aload_n hx hb dX3_reads_71 rfl (lv_at hl 2 rfl) ?_
            have hFc := va_freeI hD hS hA
            refine va_calli (va_runV (As := []) (rest := []) ⟨hx, hb, hml, hown, hts⟩ (tX3_readLine l dC dI _ oR z_2910 z_2911 0 rR_tape fR_tape kR_tape p0 x_2956 x_2957 x_2958 y_2959 x_2960 x_2961 oC z_2918 rR_names f_2927 kR_names rR_keys fR_keys kR_keys z_2919 z_2920 z_2921 z_2922 z_2923 z_2924 z_2925 z_2926 rC_kind f_2928 kC_kind rC_parts f_2929 kC_parts rC_partNodes f_2930 kC_partNodes rC_weights f_2931 kC_weights rC_weightSums f_2932 kC_weightSums rC_toldWorths f_2933 kC_toldWorths rC_steps f_2934 kC_steps rC_below f_2935 kC_below rC_above f_2936 kC_above rC_unsureWords f_2937 kC_unsureWords rC_unsureWorths f_2938 kC_unsureWorths (by first | decide | omega) b_z_2918 b_z_2919 b_z_2922 b_z_2924 a_f_2929 a_f_2930 a_f_2937) (cwV 0 hts (wd_V wd_246 wd_247 wd_248 wd_15 (wd_c wd_249)) rfl rfl rfl dv_yX3_readLine_0 ⟨Nat.le_of_ble_eq_true rfl, Nat.le_of_ble_eq_true rfl⟩) ⟨Pw.fb, recvX3 hK hP (q0 := 0) rfl, fun U hU hW => Pw.to hP hD hK hE hS hFc hU hW⟩ rfl rfl hl.1 rfl (lv_room (Nat.le_of_ble_eq_true rfl)) dX3_reads_72 ⟨Nat.le_of_ble_eq_true rfl, Nat.le_of_ble_eq_true rfl⟩) hS (fun q _ h => hFc q h) hFc (fun r u t H locs ht hvm hw hB hz1 hk1 hS => ?_)
            have hru9 := hw.2
            have hw := hw.1
            refine ex_29_8 hB (fun x_2962 x_2963 x_2964 x_2965 x_2966 y_2967 x_2968 x_2969 x_2970 f_2971 x_2972 x_2973 x_2974 x_2975 x_2976 x_2977 x_2978 x_2979 f_2980 f_2981 f_2982 f_2983 f_2984 f_2985 f_2986 f_2987 f_2988 f_2989 f_2990 b_x_2970 b_x_2972 b_x_2975 b_x_2977 a_f_2981 a_f_2982 a_f_2989 e_x_2962_0 hB => ?_)
            obtain ⟨hP, hD⟩ := Bw.goA (ws' := [(oc3 oR x_2962 x_2963 0 rR_tape p0 x_2964 x_2965 x_2966 y_2967 x_2968 x_2969 oC x_2970 rR_names rR_keys), (arI rR_tape kR_tape 900 fR_tape), (arL rR_names kR_names 18 f_2971), (arL rR_keys kR_keys 10 fR_keys), (oc1 oC x_2972 x_2973 x_2974 x_2975 x_2976 x_2977 x_2978 x_2979 rC_kind rC_parts rC_partNodes rC_weights rC_weightSums rC_toldWorths rC_steps rC_below rC_above rC_unsureWords rC_unsureWorths), (arI rC_kind kC_kind 18 f_2980), (arI rC_parts kC_parts 18 f_2981), (arI rC_partNodes kC_partNodes 72 f_2982), (arI rC_weights kC_weights 72 f_2983), (arI rC_weightSums kC_weightSums 18 f_2984), (arI rC_toldWorths kC_toldWorths 18 f_2985), (arI rC_steps kC_steps 18 f_2986), (arI rC_below kC_below 18 f_2987), (arI rC_above kC_above 18 f_2988), (arI rC_unsureWords kC_unsureWords 4 f_2989), (arI rC_unsureWorths kC_unsureWorths 4 f_2990)]) hB rfl ht hFc rfl
            clear hz1 hk1 hvm ht hB
            have rg_x_2962 := fb_rng x_2962
            have rg_x_2963 := fb_rng x_2963
            have rg_x_2964 := fb_rng x_2964
            have rg_x_2965 := fb_rng x_2965
            have rg_x_2966 := fb_rng x_2966
            have rg_x_2968 := fb_rng x_2968
            have rg_x_2969 := fb_rng x_2969
            have rg_x_2970 := fb_rng x_2970
            have rg_x_2972 := fb_rng x_2972
            have rg_x_2973 := fb_rng x_2973
            have rg_x_2974 := fb_rng x_2974
            have rg_x_2975 := fb_rng x_2975
            have rg_x_2976 := fb_rng x_2976
            have rg_x_2977 := fb_rng x_2977
            have rg_x_2978 := fb_rng x_2978
            have rg_x_2979 := fb_rng x_2979
            rw [← hru9] at e_x_2962_0
            obtain ⟨x_2991, rfl⟩ : ∃ z, z = r := ⟨_, rfl⟩
            have hG := hG.trans (un30_eq e_x_2962_0)
            have rg_x_2991 := fb_rng x_2991
            have bx_2991 := hw.1
            have dx_2991 := bz_tb bx_2991
            refine lv_istore_n (lv' := [(2, .int x_2991), (3, .int z_2908), (0, .ref oR), (1, .int p0)]) hx hb dX3_reads_75 rfl hl (by decide) rfl (fun ls hl => ?_)
            obtain ⟨x_2992, ex_2992⟩ : ∃ z : Int32, z = z_2908 + Int32.ofInt 1 := ⟨_, rfl⟩
            have hG := hG.trans (lt_eq ex_2992)
            have vx_2992 : x_2992.toInt = z_2908.toInt + 1 := ti_add (y := 1) ex_2992 rfl kc_1 (om_4e4fce7e hi0_n_2939.1) (om_68b575cb gc_2940)
            refine lv_iinc (v := x_2992) (lv' := [(3, .int x_2992), (2, .int x_2991), (0, .ref oR), (1, .int p0)]) hx hb dX3_reads_76 hl (k := 1) rfl ex_2992.symm (by decide) rfl (fun ls hl => ?_)
            refine lv_goto (tgt := 48) hx hb dX3_reads_79 (by decide) ?_
            exact ih_n_2939 x_2992 x_2991 x_2962 x_2963 x_2964 x_2965 x_2966 y_2967 x_2968 x_2969 x_2970 x_2972 x_2973 x_2974 x_2975 x_2976 x_2977 x_2978 x_2979 f_2971 f_2980 f_2981 f_2982 f_2983 f_2984 f_2985 f_2986 f_2987 f_2988 f_2989 f_2990 _ _ _ b_x_2970 b_x_2972 b_x_2975 b_x_2977 a_f_2981 a_f_2982 a_f_2989 ⟨(om_83b90de5 hi0_n_2939.1 vx_2992), (om_ce9c42a0 gc_2940 vx_2992)⟩ (ms_lt hm_n_2939 (om_b9393183 vx_2992) (om_09c47414 gc_2940)) hG hP hD hS (lv_sub hl [0, 1, 2, 3] rfl)
  exact key_n_2939 (((2147483647 - (0 : Int32).toInt).toNat) + 1) 0 x_2907 x_2878 x_2879 x_2880 x_2881 x_2882 y_2883 x_2884 x_2885 x_2886 x_2888 x_2889 x_2890 x_2891 x_2892 x_2893 x_2894 x_2895 f_2887 f_2896 f_2897 f_2898 f_2899 f_2900 f_2901 f_2902 f_2903 f_2904 f_2905 f_2906 _ _ _ b_x_2886 b_x_2888 b_x_2891 b_x_2893 a_f_2897 a_f_2898 a_f_2905 ⟨(om_b1de7dbe kc_0), (om_daf17c64 kc_0)⟩ (Nat.lt_add_one _) hG hP hD hS hl
