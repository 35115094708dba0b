theorem bz_of {v : Int32} (h : 0 ≤ v.toInt ∧ v.toInt ≤ 1) : v = 0 ∨ v = 1 := by
  simp only [fz_eq, kc_0, kc_1]; omega
set_option maxHeartbeats 4000000 in
set_option maxRecDepth 100000 in
theorem tX3_byteAt (l : Launch) (dC : Nat → ClassId) (dI : Nat → Nat → Nat) (sz : Nat) (oR : Nat) (iR_faultNumber : Int32) (iR_faultPlace : Int32) (iR_tapeSize : Int32) (rR_tape : Nat) (fR_tape : Nat → Int32) (kR_tape : ClassId) (iR_end : Int32) (iR_tokenKind : Int32) (iR_tokenFrom : Int32) (iR_tokenTo : Int32) (iR_tokenName : Int64) (iR_tokenKey : Int32) (iR_tokenWhole : Int32) (oC : Nat) (iR_courtTold : Int32) (rR_names : Nat) (rR_keys : Nat) (p0 : Int32) (b_iR_tapeSize : 0 ≤ iR_tapeSize.toInt ∧ iR_tapeSize.toInt ≤ 900) (b_iR_courtTold : 0 ≤ iR_courtTold.toInt ∧ iR_courtTold.toInt ≤ 1)  : Met l yX3_byteAt (Cond.code yX3_byteAt cX3_byteAt 2 (some .int) :: wG) ({ frames := 0, cells := 0, slots := 0, locals := 0 }) (va_Pc [.ref oR, .int p0] (Pw dC dI sz [(oc3 oR iR_faultNumber iR_faultPlace iR_tapeSize rR_tape iR_end iR_tokenKind iR_tokenFrom iR_tokenTo iR_tokenName iR_tokenKey iR_tokenWhole oC iR_courtTold rR_names rR_keys), (arI rR_tape kR_tape 900 fR_tape)] [(kR_tape, .byte)])) (va_Qi (fun (r : Int32) (_ : Nat) => (True ∧ True) ∧ PX3_byteAt fR_tape p0 = r) (fun (_ : Nat) (t : State) => Bw dC dI (va_A [(oc3 oR iR_faultNumber iR_faultPlace iR_tapeSize rR_tape iR_end iR_tokenKind iR_tokenFrom iR_tokenTo iR_tokenName iR_tokenKey iR_tokenWhole oC iR_courtTold rR_names rR_keys), (arI rR_tape kR_tape 900 fR_tape)] sz) [(oc3 oR iR_faultNumber iR_faultPlace iR_tapeSize rR_tape iR_end iR_tokenKind iR_tokenFrom iR_tokenTo iR_tokenName iR_tokenKey iR_tokenWhole oC iR_courtTold rR_names rR_keys), (arI rR_tape kR_tape 900 fR_tape)] [(kR_tape, .byte)] t) (va_A [(oc3 oR iR_faultNumber iR_faultPlace iR_tapeSize rR_tape iR_end iR_tokenKind iR_tokenFrom iR_tokenTo iR_tokenName iR_tokenKey iR_tokenWhole oC iR_courtTold rR_names rR_keys), (arI rR_tape kR_tape 900 fR_tape)] sz)) 0 0 (va_A [(oc3 oR iR_faultNumber iR_faultPlace iR_tapeSize rR_tape iR_end iR_tokenKind iR_tokenFrom iR_tokenTo iR_tokenName iR_tokenKey iR_tokenWhole oC iR_courtTold rR_names rR_keys), (arI rR_tape kR_tape 900 fR_tape)] sz) := by
  refine Met.ofW (cc := cX3_byteAt) (maxL := 2) (ret := (some .int)) pnX3 rfl ?_
  intro p e s m args below meth c s₁ B hml hv
  obtain ⟨rfl, hsz, hP, hK, hD0, hE⟩ := hv
  have hx := B.exec
  have hb := B.bytes
  have hr := B.returns
  have hts : ∀ w ∈ wG, w.before ([.ref oR, .int p0] : List Value).toArray s = true := fun w h => atoms_spec (ws := Cond.code yX3_byteAt cX3_byteAt 2 (some .int) :: wG) B.pre w (List.mem_cons_of_mem _ h)
  have hown : s.vm.findClass RX3 = some m.cls := own_of B.named rfl
  have hlocks := B.notSynchronized
  subst hsz
  have hD := hD0.self (sz := s.heap.size)
  generalize hAe : va_A [(oc3 oR iR_faultNumber iR_faultPlace iR_tapeSize rR_tape iR_end iR_tokenKind iR_tokenFrom iR_tokenTo iR_tokenName iR_tokenKey iR_tokenWhole oC iR_courtTold rR_names rR_keys), (arI rR_tape kR_tape 900 fR_tape)] s.heap.size = A at hD hE ⊢
  have hA : ∀ q : Nat, s.heap.size ≤ q → A q := fun q h => by rw [← hAe]; exact Or.inr h
  have hS : va_S A s.heap s.heap [] := va_S.rf
  have hl := lv_entry ([.ref oR, .int p0]) (n := 2) (Nat.le_of_ble_eq_true rfl)
  rw [lg_entry_eq]
  generalize (lg_sl ([.ref oR, .int p0]) ++ List.replicate (2 - (lg_sl ([.ref oR, .int p0])).length) Slot.unset).toArray = ls at hl ⊢
  have hl : lv_has ls 2 [(0, .ref oR), (1, .int p0)] := hl
  have hG := PX3_byteAt_eq fR_tape p0
  refine lv_iload_n hx hb dX3_byteAt_0 rfl (lv_at hl 1 rfl) ?_
  refine lv_if_lt (tgt := 20) hx hb dX3_byteAt_1 (by decide) (fun c_868 => ?_) (fun c_868 => ?_)
  · skip
    have hG := hG.trans (if_pos c_868)
    have gc_868 := ti_lt c_868 rfl kc_0
    refine lv_iconst (v := 0) hx hb dX3_byteAt_20 (by decide) ?_
    exact wq_i hx hb hr 0 ⟨⟨trivial, trivial⟩, hG⟩ (fun t ht hW => Bw.to hP hD hK ht hW) hS dX3_byteAt_21 hlocks
  · skip
    have hG := hG.trans (if_neg c_868)
    have gc_868 := ti_nlt c_868 rfl kc_0
    refine lv_iload_n hx hb dX3_byteAt_4 rfl (lv_at hl 1 rfl) ?_
    refine lv_sipush (v := 900) hx hb dX3_byteAt_5 (by decide) ?_
    refine lv_icmp_ge (tgt := 20) hx hb dX3_byteAt_8 (by decide) (fun c_869 => ?_) (fun c_869 => ?_)
    · skip
      have hG := hG.trans (if_pos c_869)
      have gc_869 := ti_le c_869 kc_900 rfl
      refine lv_iconst (v := 0) hx hb dX3_byteAt_20 (by decide) ?_
      exact wq_i hx hb hr 0 ⟨⟨trivial, trivial⟩, hG⟩ (fun t ht hW => Bw.to hP hD hK ht hW) hS dX3_byteAt_21 hlocks
    · skip
      have hG := hG.trans (if_neg c_869)
      have gc_869 := ti_nle c_869 kc_900 rfl
      refine lv_aload_n hx hb dX3_byteAt_11 rfl (lv_at hl 0 rfl) ?_
      refine va_get (D := (dC, dI)) (ci := 3) (v := .ref rR_tape) (C := RX3) (T := TX3) (N := 15) hx hb hts inX3 hown hK hP 0 rfl rfl 3 (by decide) (hts _ wd_44) (fun _ h9 => h9) rfl dX3_byteAt_12 ?_
      refine lv_iload_n hx hb dX3_byteAt_15 rfl (lv_at hl 1 rfl) ?_
      refine va_bald hx hb hK hP 1 0 rfl rfl (ti_in rfl gc_868 (om_f01a954b gc_869)) dX3_byteAt_16 ?_
      refine lv_topi (fun x_870 ex_870 => ?_)
      have hG := hG.trans (lt_eq ex_870)
      have kx_870 : (fR_tape p0.toNatClampNeg).toInt = x_870.toInt := by rw [ex_870]
      refine lv_goto (tgt := 21) hx hb dX3_byteAt_17 (by decide) ?_
      exact wq_i hx hb hr 0 ⟨⟨trivial, trivial⟩, hG⟩ (fun t ht hW => Bw.to hP hD hK ht hW) hS dX3_byteAt_21 hlocks
set_option maxHeartbeats 4000000 in
set_option maxRecDepth 100000 in
theorem tX3_faulty (l : Launch) (dC : Nat → ClassId) (dI : Nat → Nat → Nat) (sz : Nat) (oR : Nat) (iR_faultNumber : Int32) (iR_faultPlace : Int32) (iR_tapeSize : Int32) (rR_tape : Nat) (iR_end : Int32) (iR_tokenKind : Int32) (iR_tokenFrom : Int32) (iR_tokenTo : Int32) (iR_tokenName : Int64) (iR_tokenKey : Int32) (iR_tokenWhole : Int32) (oC : Nat) (iR_courtTold : Int32) (rR_names : Nat) (rR_keys : Nat) (p0 : Int32) (b_iR_tapeSize : 0 ≤ iR_tapeSize.toInt ∧ iR_tapeSize.toInt ≤ 900) (b_iR_courtTold : 0 ≤ iR_courtTold.toInt ∧ iR_courtTold.toInt ≤ 1)  : Met l yX3_faulty (Cond.code yX3_faulty cX3_faulty 2 (some .boolean) :: wG) ({ frames := 0, cells := 0, slots := 0, locals := 0 }) (va_Pc [.ref oR, .int p0] (Pw dC dI sz [(oc3 oR iR_faultNumber iR_faultPlace iR_tapeSize rR_tape iR_end iR_tokenKind iR_tokenFrom iR_tokenTo iR_tokenName iR_tokenKey iR_tokenWhole oC iR_courtTold rR_names rR_keys)] [])) (va_Qi (fun (r : Int32) (u : Nat) => ((r = 0 ∨ r = 1) ∧ ((r = 0 ∧ True))) ∧ r = Int32.ofNat u) (fun (u : Nat) (t : State) => ∃ (niR_faultNumber : Int32) (niR_faultPlace : Int32), (PX3_faulty iR_tokenFrom p0 = (Int32.ofNat u, niR_faultNumber, niR_faultPlace)) ∧ Bw dC dI (va_A [(oc3 oR iR_faultNumber iR_faultPlace iR_tapeSize rR_tape iR_end iR_tokenKind iR_tokenFrom iR_tokenTo iR_tokenName iR_tokenKey iR_tokenWhole oC iR_courtTold rR_names rR_keys)] sz) [(oc3 oR niR_faultNumber niR_faultPlace iR_tapeSize rR_tape iR_end iR_tokenKind iR_tokenFrom iR_tokenTo iR_tokenName iR_tokenKey iR_tokenWhole oC iR_courtTold rR_names rR_keys)] [] t) (va_A [(oc3 oR iR_faultNumber iR_faultPlace iR_tapeSize rR_tape iR_end iR_tokenKind iR_tokenFrom iR_tokenTo iR_tokenName iR_tokenKey iR_tokenWhole oC iR_courtTold rR_names rR_keys)] sz)) 0 0 (va_A [(oc3 oR iR_faultNumber iR_faultPlace iR_tapeSize rR_tape iR_end iR_tokenKind iR_tokenFrom iR_tokenTo iR_tokenName iR_tokenKey iR_tokenWhole oC iR_courtTold rR_names rR_keys)] sz) := by
  refine Met.ofW (cc := cX3_faulty) (maxL := 2) (ret := (some .boolean)) pnX3 rfl ?_
  intro p e s m args below meth c s₁ B hml hv
  obtain ⟨rfl, hsz, hP, hK, hD0, hE⟩ := hv
  have hx := B.exec
  have hb := B.bytes
  have hr := B.returns
  have hts : ∀ w ∈ wG, w.before ([.ref oR, .int p0] : List Value).toArray s = true := fun w h => atoms_spec (ws := Cond.code yX3_faulty cX3_faulty 2 (some .boolean) :: wG) B.pre w (List.mem_cons_of_mem _ h)
  have hown : s.vm.findClass RX3 = some m.cls := own_of B.named rfl
  have hlocks := B.notSynchronized
  subst hsz
  have hD := hD0.self (sz := s.heap.size)
  generalize hAe : va_A [(oc3 oR iR_faultNumber iR_faultPlace iR_tapeSize rR_tape iR_end iR_tokenKind iR_tokenFrom iR_tokenTo iR_tokenName iR_tokenKey iR_tokenWhole oC iR_courtTold rR_names rR_keys)] s.heap.size = A at hD hE ⊢
  have hA : ∀ q : Nat, s.heap.size ≤ q → A q := fun q h => by rw [← hAe]; exact Or.inr h
  have hS : va_S A s.heap s.heap [] := va_S.rf
  have hl := lv_entry ([.ref oR, .int p0]) (n := 2) (Nat.le_of_ble_eq_true rfl)
  rw [lg_entry_eq]
  generalize (lg_sl ([.ref oR, .int p0]) ++ List.replicate (2 - (lg_sl ([.ref oR, .int p0])).length) Slot.unset).toArray = ls at hl ⊢
  have hl : lv_has ls 2 [(0, .ref oR), (1, .int p0)] := hl
  have hG := PX3_faulty_eq iR_tokenFrom p0
  refine lv_aload_n hx hb dX3_faulty_0 rfl (lv_at hl 0 rfl) ?_
  refine lv_iload_n hx hb dX3_faulty_1 rfl (lv_at hl 1 rfl) ?_
  refine va_put (D := (dC, dI)) (ci := 3) (v := .int p0) (ty := .int) (C := RX3) (T := TX3) (N := 15) hx hb hts inX3 tyX3 tyX3_ok nmX3 hown hK hP hD hS 0 rfl rfl 0 (by decide) (hts _ wd_207) (fun _ h9 => h9) rfl (by decide +kernel) rfl rfl (Nat.le_of_ble_eq_true rfl) dX3_faulty_2 (fun H locs hP hD hS => ?_)
  obtain ⟨hP, hD⟩ := wl2 (ws' := [(oc3 oR p0 iR_faultPlace iR_tapeSize rR_tape iR_end iR_tokenKind iR_tokenFrom iR_tokenTo iR_tokenName iR_tokenKey iR_tokenWhole oC iR_courtTold rR_names rR_keys)]) hP hD rfl
  refine lv_aload_n hx hb dX3_faulty_5 rfl (lv_at hl 0 rfl) ?_
  refine lv_aload_n hx hb dX3_faulty_6 rfl (lv_at hl 0 rfl) ?_
  refine va_get (D := (dC, dI)) (ci := 3) (v := .int iR_tokenFrom) (C := RX3) (T := TX3) (N := 15) hx hb hts inX3 hown hK hP 0 rfl rfl 6 (by decide) (hts _ wd_224) (fun _ h9 => h9) rfl dX3_faulty_7 ?_
  refine va_put (D := (dC, dI)) (ci := 3) (v := .int iR_tokenFrom) (ty := .int) (C := RX3) (T := TX3) (N := 15) hx hb hts inX3 tyX3 tyX3_ok nmX3 hown hK hP hD hS 0 rfl rfl 1 (by decide) (hts _ wd_208) (fun _ h9 => h9) rfl (by decide +kernel) rfl rfl (Nat.le_of_ble_eq_true rfl) dX3_faulty_10 (fun H locs hP hD hS => ?_)
  obtain ⟨hP, hD⟩ := wl2 (ws' := [(oc3 oR p0 iR_tokenFrom iR_tapeSize rR_tape iR_end iR_tokenKind iR_tokenFrom iR_tokenTo iR_tokenName iR_tokenKey iR_tokenWhole oC iR_courtTold rR_names rR_keys)]) hP hD rfl
  refine lv_iconst (v := 0) hx hb dX3_faulty_13 (by decide) ?_
  exact wq_z (v := 0) hx hb hr rfl (cI 0) ⟨⟨Or.inl rfl, (⟨rfl, trivial⟩)⟩, (cI_of 0)⟩ (fun t ht hW => ⟨p0, iR_tokenFrom, (cI_tup hG), Bw.to hP hD hK ht hW⟩) hS dX3_faulty_14 hlocks
set_option maxHeartbeats 4000000 in
set_option maxRecDepth 100000 in
theorem tX3_isLineKey (l : Launch) (dC : Nat → ClassId) (dI : Nat → Nat → Nat) (sz : Nat) (oR : Nat) (iR_faultNumber : Int32) (iR_faultPlace : Int32) (iR_tapeSize : Int32) (rR_tape : Nat) (iR_end : Int32) (iR_tokenKind : Int32) (iR_tokenFrom : Int32) (iR_tokenTo : Int32) (iR_tokenName : Int64) (iR_tokenKey : Int32) (iR_tokenWhole : Int32) (oC : Nat) (iR_courtTold : Int32) (rR_names : Nat) (rR_keys : Nat) (b_iR_tapeSize : 0 ≤ iR_tapeSize.toInt ∧ iR_tapeSize.toInt ≤ 900) (b_iR_courtTold : 0 ≤ iR_courtTold.toInt ∧ iR_courtTold.toInt ≤ 1)  : Met l yX3_isLineKey (Cond.code yX3_isLineKey cX3_isLineKey 1 (some .boolean) :: wG) ({ frames := 0, cells := 0, slots := 0, locals := 0 }) (va_Pc [.ref oR] (Pw dC dI sz [(oc3 oR iR_faultNumber iR_faultPlace iR_tapeSize rR_tape iR_end iR_tokenKind iR_tokenFrom iR_tokenTo iR_tokenName iR_tokenKey iR_tokenWhole oC iR_courtTold rR_names rR_keys)] [])) (va_Qi (fun (r : Int32) (_ : Nat) => ((r = 0 ∨ r = 1) ∧ True) ∧ PX3_isLineKey iR_tokenKey = r) (fun (_ : Nat) (t : State) => Bw dC dI (va_A [(oc3 oR iR_faultNumber iR_faultPlace iR_tapeSize rR_tape iR_end iR_tokenKind iR_tokenFrom iR_tokenTo iR_tokenName iR_tokenKey iR_tokenWhole oC iR_courtTold rR_names rR_keys)] sz) [(oc3 oR iR_faultNumber iR_faultPlace iR_tapeSize rR_tape iR_end iR_tokenKind iR_tokenFrom iR_tokenTo iR_tokenName iR_tokenKey iR_tokenWhole oC iR_courtTold rR_names rR_keys)] [] t) (va_A [(oc3 oR iR_faultNumber iR_faultPlace iR_tapeSize rR_tape iR_end iR_tokenKind iR_tokenFrom iR_tokenTo iR_tokenName iR_tokenKey iR_tokenWhole oC iR_courtTold rR_names rR_keys)] sz)) 0 0 (va_A [(oc3 oR iR_faultNumber iR_faultPlace iR_tapeSize rR_tape iR_end iR_tokenKind iR_tokenFrom iR_tokenTo iR_tokenName iR_tokenKey iR_tokenWhole oC iR_courtTold rR_names rR_keys)] sz) := by
  refine Met.ofW (cc := cX3_isLineKey) (maxL := 1) (ret := (some .boolean)) pnX3 rfl ?_
  intro p e s m args below meth c s₁ B hml hv
  obtain ⟨rfl, hsz, hP, hK, hD0, hE⟩ := hv
  have hx := B.exec
  have hb := B.bytes
  have hr := B.returns
  have hts : ∀ w ∈ wG, w.before ([.ref oR] : List Value).toArray s = true := fun w h => atoms_spec (ws := Cond.code yX3_isLineKey cX3_isLineKey 1 (some .boolean) :: wG) B.pre w (List.mem_cons_of_mem _ h)
  have hown : s.vm.findClass RX3 = some m.cls := own_of B.named rfl
  have hlocks := B.notSynchronized
  subst hsz
  have hD := hD0.self (sz := s.heap.size)
  generalize hAe : va_A [(oc3 oR iR_faultNumber iR_faultPlace iR_tapeSize rR_tape iR_end iR_tokenKind iR_tokenFrom iR_tokenTo iR_tokenName iR_tokenKey iR_tokenWhole oC iR_courtTold rR_names rR_keys)] s.heap.size = A at hD hE ⊢
  have hA : ∀ q : Nat, s.heap.size ≤ q → A q := fun q h => by rw [← hAe]; exact Or.inr h
  have hS : va_S A s.heap s.heap [] := va_S.rf
  have hl := lv_entry ([.ref oR]) (n := 1) (Nat.le_of_ble_eq_true rfl)
  rw [lg_entry_eq]
  generalize (lg_sl ([.ref oR]) ++ List.replicate (1 - (lg_sl ([.ref oR])).length) Slot.unset).toArray = ls at hl ⊢
  have hl : lv_has ls 1 [(0, .ref oR)] := hl
  have hG := PX3_isLineKey_eq iR_tokenKey
  refine lv_aload_n hx hb dX3_isLineKey_0 rfl (lv_at hl 0 rfl) ?_
  refine va_get (D := (dC, dI)) (ci := 3) (v := .int iR_tokenKey) (C := RX3) (T := TX3) (N := 15) hx hb hts inX3 hown hK hP 0 rfl rfl 9 (by decide) (hts _ wd_225) (fun _ h9 => h9) rfl dX3_isLineKey_1 ?_
  refine lv_if_lt (tgt := 20) hx hb dX3_isLineKey_4 (by decide) (fun c_873 => ?_) (fun c_873 => ?_)
  · skip
    have hG := hG.trans (if_pos c_873)
    have gc_873 := ti_lt c_873 rfl kc_0
    refine lv_iconst (v := 0) hx hb dX3_isLineKey_20 (by decide) ?_
    exact wq_z (v := 0) hx hb hr rfl 0 ⟨⟨Or.inl rfl, trivial⟩, hG⟩ (fun t ht hW => Bw.to hP hD hK ht hW) hS dX3_isLineKey_21 hlocks
  · skip
    have hG := hG.trans (if_neg c_873)
    have gc_873 := ti_nlt c_873 rfl kc_0
    refine lv_aload_n hx hb dX3_isLineKey_7 rfl (lv_at hl 0 rfl) ?_
    refine va_get (D := (dC, dI)) (ci := 3) (v := .int iR_tokenKey) (C := RX3) (T := TX3) (N := 15) hx hb hts inX3 hown hK hP 0 rfl rfl 9 (by decide) (hts _ wd_225) (fun _ h9 => h9) rfl dX3_isLineKey_8 ?_
    refine lv_bipush (v := 7) hx hb dX3_isLineKey_11 (by decide) ?_
    refine lv_icmp_gt (tgt := 20) hx hb dX3_isLineKey_13 (by decide) (fun c_874 => ?_) (fun c_874 => ?_)
    · skip
      have hG := hG.trans (if_pos c_874)
      have gc_874 := ti_lt c_874 kc_7 rfl
      refine lv_iconst (v := 0) hx hb dX3_isLineKey_20 (by decide) ?_
      exact wq_z (v := 0) hx hb hr rfl 0 ⟨⟨Or.inl rfl, trivial⟩, hG⟩ (fun t ht hW => Bw.to hP hD hK ht hW) hS dX3_isLineKey_21 hlocks
    · skip
      have hG := hG.trans (if_neg c_874)
      have gc_874 := ti_nlt c_874 kc_7 rfl
      refine lv_iconst (v := 1) hx hb dX3_isLineKey_16 (by decide) ?_
      refine lv_goto (tgt := 21) hx hb dX3_isLineKey_17 (by decide) ?_
      exact wq_z (v := 1) hx hb hr rfl 0 ⟨⟨Or.inr rfl, trivial⟩, hG⟩ (fun t ht hW => Bw.to hP hD hK ht hW) hS dX3_isLineKey_21 hlocks
set_option maxHeartbeats 4000000 in
set_option maxRecDepth 100000 in
theorem tX3_isWholeWithin (l : Launch) (dC : Nat → ClassId) (dI : Nat → Nat → Nat) (sz : Nat) (oR : Nat) (iR_faultNumber : Int32) (iR_faultPlace : Int32) (iR_tapeSize : Int32) (rR_tape : Nat) (iR_end : Int32) (iR_tokenKind : Int32) (iR_tokenFrom : Int32) (iR_tokenTo : Int32) (iR_tokenName : Int64) (iR_tokenKey : Int32) (iR_tokenWhole : Int32) (oC : Nat) (iR_courtTold : Int32) (rR_names : Nat) (rR_keys : Nat) (p0 : Int32) (p1 : Int32) (b_iR_tapeSize : 0 ≤ iR_tapeSize.toInt ∧ iR_tapeSize.toInt ≤ 900) (b_iR_courtTold : 0 ≤ iR_courtTold.toInt ∧ iR_courtTold.toInt ≤ 1)  : Met l yX3_isWholeWithin (Cond.code yX3_isWholeWithin cX3_isWholeWithin 3 (some .boolean) :: wG) ({ frames := 1, cells := 0, slots := 0, locals := 21 }) (va_Pc [.ref oR, .int p0, .int p1] (Pw dC dI sz [(oc3 oR iR_faultNumber iR_faultPlace iR_tapeSize rR_tape iR_end iR_tokenKind iR_tokenFrom iR_tokenTo iR_tokenName iR_tokenKey iR_tokenWhole oC iR_courtTold rR_names rR_keys)] [])) (va_Qi (fun (r : Int32) (u : Nat) => ((r = 0 ∨ r = 1) ∧ True) ∧ r = Int32.ofNat u) (fun (u : Nat) (t : State) => ∃ (niR_faultNumber : Int32) (niR_faultPlace : Int32), (PX3_isWholeWithin iR_faultNumber iR_faultPlace iR_tokenKind iR_tokenFrom iR_tokenWhole p0 p1 = (Int32.ofNat u, niR_faultNumber, niR_faultPlace)) ∧ Bw dC dI (va_A [(oc3 oR iR_faultNumber iR_faultPlace iR_tapeSize rR_tape iR_end iR_tokenKind iR_tokenFrom iR_tokenTo iR_tokenName iR_tokenKey iR_tokenWhole oC iR_courtTold rR_names rR_keys)] sz) [(oc3 oR niR_faultNumber niR_faultPlace iR_tapeSize rR_tape iR_end iR_tokenKind iR_tokenFrom iR_tokenTo iR_tokenName iR_tokenKey iR_tokenWhole oC iR_courtTold rR_names rR_keys)] [] t) (va_A [(oc3 oR iR_faultNumber iR_faultPlace iR_tapeSize rR_tape iR_end iR_tokenKind iR_tokenFrom iR_tokenTo iR_tokenName iR_tokenKey iR_tokenWhole oC iR_courtTold rR_names rR_keys)] sz)) 0 0 (va_A [(oc3 oR iR_faultNumber iR_faultPlace iR_tapeSize rR_tape iR_end iR_tokenKind iR_tokenFrom iR_tokenTo iR_tokenName iR_tokenKey iR_tokenWhole oC iR_courtTold rR_names rR_keys)] sz) := by
  refine Met.ofW (cc := cX3_isWholeWithin) (maxL := 3) (ret := (some .boolean)) pnX3 rfl ?_
  intro p e s m args below meth c s₁ B hml hv
  obtain ⟨rfl, hsz, hP, hK, hD0, hE⟩ := hv
  have hx := B.exec
  have hb := B.bytes
  have hr := B.returns
  have hts : ∀ w ∈ wG, w.before ([.ref oR, .int p0, .int p1] : List Value).toArray s = true := fun w h => atoms_spec (ws := Cond.code yX3_isWholeWithin cX3_isWholeWithin 3 (some .boolean) :: wG) B.pre w (List.mem_cons_of_mem _ h)
  have hown : s.vm.findClass RX3 = some m.cls := own_of B.named rfl
  have hlocks := B.notSynchronized
  subst hsz
  have hD := hD0.self (sz := s.heap.size)
  generalize hAe : va_A [(oc3 oR iR_faultNumber iR_faultPlace iR_tapeSize rR_tape iR_end iR_tokenKind iR_tokenFrom iR_tokenTo iR_tokenName iR_tokenKey iR_tokenWhole oC iR_courtTold rR_names rR_keys)] s.heap.size = A at hD hE ⊢
  have hA : ∀ q : Nat, s.heap.size ≤ q → A q := fun q h => by rw [← hAe]; exact Or.inr h
  have hS : va_S A s.heap s.heap [] := va_S.rf
  have hl := lv_entry ([.ref oR, .int p0, .int p1]) (n := 3) (Nat.le_of_ble_eq_true rfl)
  rw [lg_entry_eq]
  generalize (lg_sl ([.ref oR, .int p0, .int p1]) ++ List.replicate (3 - (lg_sl ([.ref oR, .int p0, .int p1])).length) Slot.unset).toArray = ls at hl ⊢
  have hl : lv_has ls 3 [(0, .ref oR), (1, .int p0), (2, .int p1)] := hl
  have hG := PX3_isWholeWithin_eq iR_faultNumber iR_faultPlace iR_tokenKind iR_tokenFrom iR_tokenWhole p0 p1
  refine lv_aload_n hx hb dX3_isWholeWithin_0 rfl (lv_at hl 0 rfl) ?_
  refine va_get (D := (dC, dI)) (ci := 3) (v := .int iR_tokenKind) (C := RX3) (T := TX3) (N := 15) hx hb hts inX3 hown hK hP 0 rfl rfl 5 (by decide) (hts _ wd_210) (fun _ h9 => h9) rfl dX3_isWholeWithin_1 ?_
  refine lv_iconst (v := 2) hx hb dX3_isWholeWithin_4 (by decide) ?_
  refine lv_icmp_eq (tgt := 14) hx hb dX3_isWholeWithin_5 (by decide) (fun c_889 => ?_) (fun c_889 => ?_)
  · skip
    have hG := hG.trans (if_pos c_889)
    have gc_889 := ti_eq c_889 rfl kc_2
    refine lv_aload_n hx hb dX3_isWholeWithin_14 rfl (lv_at hl 0 rfl) ?_
    refine va_get (D := (dC, dI)) (ci := 3) (v := .int iR_tokenWhole) (C := RX3) (T := TX3) (N := 15) hx hb hts inX3 hown hK hP 0 rfl rfl 10 (by decide) (hts _ wd_245) (fun _ h9 => h9) rfl dX3_isWholeWithin_15 ?_
    refine lv_iload_n hx hb dX3_isWholeWithin_18 rfl (lv_at hl 1 rfl) ?_
    refine lv_icmp_lt (tgt := 30) hx hb dX3_isWholeWithin_19 (by decide) (fun c_890 => ?_) (fun c_890 => ?_)
    · skip
      have hG := hG.trans (if_pos c_890)
      have gc_890 := ti_lt c_890 rfl rfl
      refine lv_aload_n hx hb dX3_isWholeWithin_30 rfl (lv_at hl 0 rfl) ?_
      refine lv_iconst (v := 4) hx hb dX3_isWholeWithin_31 (by decide) ?_
      have hFc := va_freeI hD hS hA
      refine va_calli (va_runV (As := [.int 4]) (rest := []) ⟨hx, hb, hml, hown, hts⟩ (tX3_faulty l dC dI _ oR iR_faultNumber iR_faultPlace iR_tapeSize rR_tape iR_end iR_tokenKind iR_tokenFrom iR_tokenTo iR_tokenName iR_tokenKey iR_tokenWhole oC iR_courtTold rR_names rR_keys 4 b_iR_tapeSize b_iR_courtTold) (cwV 1 hts (wd_V wd_254 wd_255 wd_256 wd_15 (wd_c wd_257)) rfl rfl rfl dv_yX3_faulty_1 ⟨Nat.le_of_ble_eq_true rfl, Nat.le_of_ble_eq_true rfl⟩) ⟨Pw.fb, recvX3 hK hP (q0 := 0) rfl, fun U hU hW => Pw.to hP hD hK hE hS hFc hU hW⟩ rfl rfl hl.1 rfl (lv_room (Nat.le_of_ble_eq_true rfl)) dX3_isWholeWithin_32 ⟨Nat.le_of_ble_eq_true rfl, Nat.le_of_ble_eq_true rfl⟩) hS (fun q _ h => hFc q h) hFc (fun r u t H locs ht hvm hw hB hz1 hk1 hS => ?_)
      have hru9 := hw.2
      have hw := hw.1
      refine ex_2_1 hB (fun x_891 x_892 e_x_891_0 hB => ?_)
      obtain ⟨hP, hD⟩ := Bw.goA (ws' := [(oc3 oR x_891 x_892 iR_tapeSize rR_tape iR_end iR_tokenKind iR_tokenFrom iR_tokenTo iR_tokenName iR_tokenKey iR_tokenWhole oC iR_courtTold rR_names rR_keys)]) hB rfl ht hFc rfl
      clear hz1 hk1 hvm ht hB
      rw [← hru9] at e_x_891_0
      rcases hw.2 with ⟨rfl, hc_893⟩
      · skip
        have hG := hG.trans (un3_eq e_x_891_0)
        refine lv_if_eq (tgt := 42) hx hb dX3_isWholeWithin_35 (by decide) (fun _ => ?_) (fun c => absurd c (by decide))
        refine lv_iconst (v := 0) hx hb dX3_isWholeWithin_42 (by decide) ?_
        exact wq_z (v := 0) hx hb hr rfl (cI 0) ⟨⟨Or.inl rfl, trivial⟩, (cI_of 0)⟩ (fun t ht hW => ⟨x_891, x_892, (cI_tup hG), Bw.to hP hD hK ht hW⟩) hS dX3_isWholeWithin_43 hlocks
    · skip
      have hG := hG.trans (if_neg c_890)
      have gc_890 := ti_nlt c_890 rfl rfl
      refine lv_aload_n hx hb dX3_isWholeWithin_22 rfl (lv_at hl 0 rfl) ?_
      refine va_get (D := (dC, dI)) (ci := 3) (v := .int iR_tokenWhole) (C := RX3) (T := TX3) (N := 15) hx hb hts inX3 hown hK hP 0 rfl rfl 10 (by decide) (hts _ wd_245) (fun _ h9 => h9) rfl dX3_isWholeWithin_23 ?_
      refine lv_iload_n hx hb dX3_isWholeWithin_26 rfl (lv_at hl 2 rfl) ?_
      refine lv_icmp_le (tgt := 38) hx hb dX3_isWholeWithin_27 (by decide) (fun c_896 => ?_) (fun c_896 => ?_)
      · skip
        have hG := hG.trans (if_pos c_896)
        have gc_896 := ti_le c_896 rfl rfl
        refine lv_iconst (v := 1) hx hb dX3_isWholeWithin_38 (by decide) ?_
        refine lv_goto (tgt := 43) hx hb dX3_isWholeWithin_39 (by decide) ?_
        exact wq_z (v := 1) hx hb hr rfl (cI 1) ⟨⟨Or.inr rfl, trivial⟩, (cI_of 1)⟩ (fun t ht hW => ⟨iR_faultNumber, iR_faultPlace, (cI_tup hG), Bw.to hP hD hK ht hW⟩) hS dX3_isWholeWithin_43 hlocks
      · skip
        have hG := hG.trans (if_neg c_896)
        have gc_896 := ti_nle c_896 rfl rfl
        refine lv_aload_n hx hb dX3_isWholeWithin_30 rfl (lv_at hl 0 rfl) ?_
        refine lv_iconst (v := 4) hx hb dX3_isWholeWithin_31 (by decide) ?_
        have hFc := va_freeI hD hS hA
        refine va_calli (va_runV (As := [.int 4]) (rest := []) ⟨hx, hb, hml, hown, hts⟩ (tX3_faulty l dC dI _ oR iR_faultNumber iR_faultPlace iR_tapeSize rR_tape iR_end iR_tokenKind iR_tokenFrom iR_tokenTo iR_tokenName iR_tokenKey iR_tokenWhole oC iR_courtTold rR_names rR_keys 4 b_iR_tapeSize b_iR_courtTold) (cwV 1 hts (wd_V wd_254 wd_255 wd_256 wd_15 (wd_c wd_257)) rfl rfl rfl dv_yX3_faulty_1 ⟨Nat.le_of_ble_eq_true rfl, Nat.le_of_ble_eq_true rfl⟩) ⟨Pw.fb, recvX3 hK hP (q0 := 0) rfl, fun U hU hW => Pw.to hP hD hK hE hS hFc hU hW⟩ rfl rfl hl.1 rfl (lv_room (Nat.le_of_ble_eq_true rfl)) dX3_isWholeWithin_32 ⟨Nat.le_of_ble_eq_true rfl, Nat.le_of_ble_eq_true rfl⟩) hS (fun q _ h => hFc q h) hFc (fun r u t H locs ht hvm hw hB hz1 hk1 hS => ?_)
        have hru9 := hw.2
        have hw := hw.1
        refine ex_2_1 hB (fun x_897 x_898 e_x_897_0 hB => ?_)
        obtain ⟨hP, hD⟩ := Bw.goA (ws' := [(oc3 oR x_897 x_898 iR_tapeSize rR_tape iR_end iR_tokenKind iR_tokenFrom iR_tokenTo iR_tokenName iR_tokenKey iR_tokenWhole oC iR_courtTold rR_names rR_keys)]) hB rfl ht hFc rfl
        clear hz1 hk1 hvm ht hB
        rw [← hru9] at e_x_897_0
        rcases hw.2 with ⟨rfl, hc_899⟩
        · skip
          have hG := hG.trans (un3_eq e_x_897_0)
          refine lv_if_eq (tgt := 42) hx hb dX3_isWholeWithin_35 (by decide) (fun _ => ?_) (fun c => absurd c (by decide))
          refine lv_iconst (v := 0) hx hb dX3_isWholeWithin_42 (by decide) ?_
          exact wq_z (v := 0) hx hb hr rfl (cI 0) ⟨⟨Or.inl rfl, trivial⟩, (cI_of 0)⟩ (fun t ht hW => ⟨x_897, x_898, (cI_tup hG), Bw.to hP hD hK ht hW⟩) hS dX3_isWholeWithin_43 hlocks
  · skip
    have hG := hG.trans (if_neg c_889)
    have gc_889 := ti_ne c_889 rfl kc_2
    refine lv_aload_n hx hb dX3_isWholeWithin_8 rfl (lv_at hl 0 rfl) ?_
    refine lv_iconst (v := 1) hx hb dX3_isWholeWithin_9 (by decide) ?_
    have hFc := va_freeI hD hS hA
    refine va_calli (va_runV (As := [.int 1]) (rest := []) ⟨hx, hb, hml, hown, hts⟩ (tX3_faulty l dC dI _ oR iR_faultNumber iR_faultPlace iR_tapeSize rR_tape iR_end iR_tokenKind iR_tokenFrom iR_tokenTo iR_tokenName iR_tokenKey iR_tokenWhole oC iR_courtTold rR_names rR_keys 1 b_iR_tapeSize b_iR_courtTold) (cwV 1 hts (wd_V wd_254 wd_255 wd_256 wd_15 (wd_c wd_257)) rfl rfl rfl dv_yX3_faulty_1 ⟨Nat.le_of_ble_eq_true rfl, Nat.le_of_ble_eq_true rfl⟩) ⟨Pw.fb, recvX3 hK hP (q0 := 0) rfl, fun U hU hW => Pw.to hP hD hK hE hS hFc hU hW⟩ rfl rfl hl.1 rfl (lv_room (Nat.le_of_ble_eq_true rfl)) dX3_isWholeWithin_10 ⟨Nat.le_of_ble_eq_true rfl, Nat.le_of_ble_eq_true rfl⟩) hS (fun q _ h => hFc q h) hFc (fun r u t H locs ht hvm hw hB hz1 hk1 hS => ?_)
    have hru9 := hw.2
    have hw := hw.1
    refine ex_2_1 hB (fun x_902 x_903 e_x_902_0 hB => ?_)
    obtain ⟨hP, hD⟩ := Bw.goA (ws' := [(oc3 oR x_902 x_903 iR_tapeSize rR_tape iR_end iR_tokenKind iR_tokenFrom iR_tokenTo iR_tokenName iR_tokenKey iR_tokenWhole oC iR_courtTold rR_names rR_keys)]) hB rfl ht hFc rfl
    clear hz1 hk1 hvm ht hB
    rw [← hru9] at e_x_902_0
    rcases hw.2 with ⟨rfl, hc_904⟩
    · skip
      have hG := hG.trans (un3_eq e_x_902_0)
      exact wq_z (v := 0) hx hb hr rfl (cI 0) ⟨⟨Or.inl rfl, trivial⟩, (cI_of 0)⟩ (fun t ht hW => ⟨x_902, x_903, (cI_tup hG), Bw.to hP hD hK ht hW⟩) hS dX3_isWholeWithin_13 hlocks
set_option maxHeartbeats 4000000 in
set_option maxRecDepth 100000 in
theorem tX3_toldNode (l : Launch) (dC : Nat → ClassId) (dI : Nat → Nat → Nat) (sz : Nat) (oR : Nat) (iR_faultNumber : Int32) (iR_faultPlace : Int32) (iR_tapeSize : Int32) (rR_tape : Nat) (iR_end : Int32) (iR_tokenKind : Int32) (iR_tokenFrom : Int32) (iR_tokenTo : Int32) (iR_tokenName : Int64) (iR_tokenKey : Int32) (iR_tokenWhole : Int32) (oC : Nat) (iR_courtTold : Int32) (rR_names : Nat) (fR_names : Nat → Int64) (kR_names : ClassId) (rR_keys : Nat) (iC_nodes : Int32) (iC_words : Int32) (iC_chances : Int32) (iC_unsures : Int32) (iC_slips : Int32) (iC_throneNode : Int32) (iC_saidWorth : Int32) (iC_unit : Int32) (rC_kind : Nat) (rC_parts : Nat) (rC_partNodes : Nat) (rC_weights : Nat) (rC_weightSums : Nat) (rC_toldWorths : Nat) (rC_steps : Nat) (rC_below : Nat) (rC_above : Nat) (rC_unsureWords : Nat) (rC_unsureWorths : Nat) (b_iR_tapeSize : 0 ≤ iR_tapeSize.toInt ∧ iR_tapeSize.toInt ≤ 900) (b_iR_courtTold : 0 ≤ iR_courtTold.toInt ∧ iR_courtTold.toInt ≤ 1) (b_iC_nodes : 0 ≤ iC_nodes.toInt ∧ iC_nodes.toInt ≤ 18) (b_iC_unsures : 0 ≤ iC_unsures.toInt ∧ iC_unsures.toInt ≤ 4) (b_iC_throneNode : (-1) ≤ iC_throneNode.toInt ∧ iC_throneNode.toInt ≤ 17)  : Met l yX3_toldNode (Cond.code yX3_toldNode cX3_toldNode 2 (some .int) :: wG) ({ frames := 0, cells := 0, slots := 0, locals := 0 }) (va_Pc [.ref oR] (Pw dC dI sz [(oc3 oR iR_faultNumber iR_faultPlace iR_tapeSize rR_tape iR_end iR_tokenKind iR_tokenFrom iR_tokenTo iR_tokenName iR_tokenKey iR_tokenWhole oC iR_courtTold rR_names rR_keys), (arL rR_names kR_names 18 fR_names), (oc1 oC iC_nodes iC_words iC_chances iC_unsures iC_slips iC_throneNode iC_saidWorth iC_unit rC_kind rC_parts rC_partNodes rC_weights rC_weightSums rC_toldWorths rC_steps rC_below rC_above rC_unsureWords rC_unsureWorths)] [(kR_names, .long)])) (va_Qi (fun (r : Int32) (_ : Nat) => (True ∧ ((-1) ≤ r.toInt ∧ r.toInt ≤ 17)) ∧ PX3_toldNode iR_tokenName fR_names iC_nodes = r) (fun (_ : Nat) (t : State) => Bw dC dI (va_A [(oc3 oR iR_faultNumber iR_faultPlace iR_tapeSize rR_tape iR_end iR_tokenKind iR_tokenFrom iR_tokenTo iR_tokenName iR_tokenKey iR_tokenWhole oC iR_courtTold rR_names rR_keys), (arL rR_names kR_names 18 fR_names), (oc1 oC iC_nodes iC_words iC_chances iC_unsures iC_slips iC_throneNode iC_saidWorth iC_unit rC_kind rC_parts rC_partNodes rC_weights rC_weightSums rC_toldWorths rC_steps rC_below rC_above rC_unsureWords rC_unsureWorths)] sz) [(oc3 oR iR_faultNumber iR_faultPlace iR_tapeSize rR_tape iR_end iR_tokenKind iR_tokenFrom iR_tokenTo iR_tokenName iR_tokenKey iR_tokenWhole oC iR_courtTold rR_names rR_keys), (arL rR_names kR_names 18 fR_names), (oc1 oC iC_nodes iC_words iC_chances iC_unsures iC_slips iC_throneNode iC_saidWorth iC_unit rC_kind rC_parts rC_partNodes rC_weights rC_weightSums rC_toldWorths rC_steps rC_below rC_above rC_unsureWords rC_unsureWorths)] [(kR_names, .long)] t) (va_A [(oc3 oR iR_faultNumber iR_faultPlace iR_tapeSize rR_tape iR_end iR_tokenKind iR_tokenFrom iR_tokenTo iR_tokenName iR_tokenKey iR_tokenWhole oC iR_courtTold rR_names rR_keys), (arL rR_names kR_names 18 fR_names), (oc1 oC iC_nodes iC_words iC_chances iC_unsures iC_slips iC_throneNode iC_saidWorth iC_unit rC_kind rC_parts rC_partNodes rC_weights rC_weightSums rC_toldWorths rC_steps rC_below rC_above rC_unsureWords rC_unsureWorths)] sz)) 0 0 (va_A [(oc3 oR iR_faultNumber iR_faultPlace iR_tapeSize rR_tape iR_end iR_tokenKind iR_tokenFrom iR_tokenTo iR_tokenName iR_tokenKey iR_tokenWhole oC iR_courtTold rR_names rR_keys), (arL rR_names kR_names 18 fR_names), (oc1 oC iC_nodes iC_words iC_chances iC_unsures iC_slips iC_throneNode iC_saidWorth iC_unit rC_kind rC_parts rC_partNodes rC_weights rC_weightSums rC_toldWorths rC_steps rC_below rC_above rC_unsureWords rC_unsureWorths)] sz) := by
  refine Met.ofW (cc := cX3_toldNode) (maxL := 2) (ret := (some .int)) pnX3 rfl ?_
  intro p e s m args below meth c s₁ B hml hv
  obtain ⟨rfl, hsz, hP, hK, hD0, hE⟩ := hv
  have hx := B.exec
  have hb := B.bytes
  have hr := B.returns
  have hts : ∀ w ∈ wG, w.before ([.ref oR] : List Value).toArray s = true := fun w h => atoms_spec (ws := Cond.code yX3_toldNode cX3_toldNode 2 (some .int) :: wG) B.pre w (List.mem_cons_of_mem _ h)
  have hown : s.vm.findClass RX3 = some m.cls := own_of B.named rfl
  have hlocks := B.notSynchronized
  subst hsz
  have hD := hD0.self (sz := s.heap.size)
  generalize hAe : va_A [(oc3 oR iR_faultNumber iR_faultPlace iR_tapeSize rR_tape iR_end iR_tokenKind iR_tokenFrom iR_tokenTo iR_tokenName iR_tokenKey iR_tokenWhole oC iR_courtTold rR_names rR_keys), (arL rR_names kR_names 18 fR_names), (oc1 oC iC_nodes iC_words iC_chances iC_unsures iC_slips iC_throneNode iC_saidWorth iC_unit rC_kind rC_parts rC_partNodes rC_weights rC_weightSums rC_toldWorths rC_steps rC_below rC_above rC_unsureWords rC_unsureWorths)] s.heap.size = A at hD hE ⊢
  have hA : ∀ q : Nat, s.heap.size ≤ q → A q := fun q h => by rw [← hAe]; exact Or.inr h
  have hS : va_S A s.heap s.heap [] := va_S.rf
  have hl := lv_entry ([.ref oR]) (n := 2) (Nat.le_of_ble_eq_true rfl)
  rw [lg_entry_eq]
  generalize (lg_sl ([.ref oR]) ++ List.replicate (2 - (lg_sl ([.ref oR])).length) Slot.unset).toArray = ls at hl ⊢
  have hl : lv_has ls 2 [(0, .ref oR)] := hl
  have hG := PX3_toldNode_eq iR_tokenName fR_names iC_nodes
  refine lv_iconst (v := 0) hx hb dX3_toldNode_0 (by decide) ?_
  refine lv_istore_n (lv' := [(1, .int 0), (0, .ref oR)]) hx hb dX3_toldNode_1 rfl hl (by decide) rfl (fun ls hl => ?_)
  have hl := lv_sub hl (l' := [(1, .int 0), (0, .ref oR)]) [0, 1] rfl
  have key_n_914 : ∀ (n_914 : Nat) (z_913 : Int32) (H : Heap) (locs : List Loc) (ls : Array Slot), (0 ≤ z_913.toInt ∧ z_913.toInt ≤ 2147483647) → (2147483647 - z_913.toInt).toNat < n_914 → (PX3_toldNode iR_tokenName fR_names iC_nodes = HX3_toldNode_0 iR_tokenName fR_names iC_nodes n_914 z_913) → va_P (dC, dI) vwCl [(oc3 oR iR_faultNumber iR_faultPlace iR_tapeSize rR_tape iR_end iR_tokenKind iR_tokenFrom iR_tokenTo iR_tokenName iR_tokenKey iR_tokenWhole oC iR_courtTold rR_names rR_keys), (arL rR_names kR_names 18 fR_names), (oc1 oC iC_nodes iC_words iC_chances iC_unsures iC_slips iC_throneNode iC_saidWorth iC_unit rC_kind rC_parts rC_partNodes rC_weights rC_weightSums rC_toldWorths rC_steps rC_below rC_above rC_unsureWords rC_unsureWorths)] H → va_D A [(oc3 oR iR_faultNumber iR_faultPlace iR_tapeSize rR_tape iR_end iR_tokenKind iR_tokenFrom iR_tokenTo iR_tokenName iR_tokenKey iR_tokenWhole oC iR_courtTold rR_names rR_keys), (arL rR_names kR_names 18 fR_names), (oc1 oC iC_nodes iC_words iC_chances iC_unsures iC_slips iC_throneNode iC_saidWorth iC_unit rC_kind rC_parts rC_partNodes rC_weights rC_weightSums rC_toldWorths rC_steps rC_below rC_above rC_unsureWords rC_unsureWorths)] → va_S A s.heap H locs → lv_has ls 2 [(1, .int z_913), (0, .ref oR)] → W p l e (headSpec (Cond.code yX3_toldNode cX3_toldNode 2 (some .int) :: wG) ({ frames := 0, cells := 0, slots := 0, locals := 0 })).room s m ([.ref oR] : List Value).toArray below meth c H locs 0 0 (MQ below (va_Qi (fun (r : Int32) (_ : Nat) => (True ∧ ((-1) ≤ r.toInt ∧ r.toInt ≤ 17)) ∧ PX3_toldNode iR_tokenName fR_names iC_nodes = r) (fun (_ : Nat) (t : State) => Bw dC dI A [(oc3 oR iR_faultNumber iR_faultPlace iR_tapeSize rR_tape iR_end iR_tokenKind iR_tokenFrom iR_tokenTo iR_tokenName iR_tokenKey iR_tokenWhole oC iR_courtTold rR_names rR_keys), (arL rR_names kR_names 18 fR_names), (oc1 oC iC_nodes iC_words iC_chances iC_unsures iC_slips iC_throneNode iC_saidWorth iC_unit rC_kind rC_parts rC_partNodes rC_weights rC_weightSums rC_toldWorths rC_steps rC_below rC_above rC_unsureWords rC_unsureWorths)] [(kR_names, .long)] t) A) ([.ref oR] : List Value).toArray s 0 0 A) (F0 m 2 ls []) := by
    intro n_914
    induction n_914 with
    | zero => intro z_913 H locs ls hi0_n_914 hm; exact absurd hm (Nat.not_lt_zero _)
    | succ n_914 ih_n_914 =>
      intro z_913 H locs ls hi0_n_914 hm_n_914 hG hP hD hS hl
      have hG := hG.trans (HX3_toldNode_0_eq _ _ _ _ _)
      have rg_z_913 := fb_rng z_913
      refine lv_iload_n hx hb dX3_toldNode_2 rfl (lv_at hl 0 rfl) ?_
      refine lv_aload_n hx hb dX3_toldNode_3 rfl (lv_at hl 1 rfl) ?_
      refine va_get (D := (dC, dI)) (ci := 3) (v := .ref oC) (C := RX3) (T := TX3) (N := 15) hx hb hts inX3 hown hK hP 0 rfl rfl 11 (by decide) (hts _ wd_46) (fun _ h9 => h9) rfl dX3_toldNode_4 ?_
      refine va_get (D := (dC, dI)) (ci := 1) (v := .int iC_nodes) (C := RX1) (T := TX1) (N := 19) hx hb hts inX1 hown hK hP 2 rfl rfl 0 (by decide) (hts _ wd_287) (fun _ h9 => h9) rfl dX3_toldNode_7 ?_
      have rg_iC_nodes := fb_rng iC_nodes
      refine lv_icmp_ge (tgt := 35) hx hb dX3_toldNode_10 (by decide) (fun c_915 => ?_) (fun c_915 => ?_)
      · skip
        have hG := hG.trans (if_pos c_915)
        have gc_915 := ti_le c_915 rfl rfl
        refine lv_iconst (v := (-1)) hx hb dX3_toldNode_35 (by decide) ?_
        exact wq_i hx hb hr 0 ⟨⟨trivial, (by decide)⟩, hG⟩ (fun t ht hW => Bw.to hP hD hK ht hW) hS dX3_toldNode_36 hlocks
      · skip
        have hG := hG.trans (if_neg c_915)
        have gc_915 := ti_nle c_915 rfl rfl
        refine lv_aload_n hx hb dX3_toldNode_13 rfl (lv_at hl 1 rfl) ?_
        refine va_get (D := (dC, dI)) (ci := 3) (v := .ref rR_names) (C := RX3) (T := TX3) (N := 15) hx hb hts inX3 hown hK hP 0 rfl rfl 13 (by decide) (hts _ wd_47) (fun _ h9 => h9) rfl dX3_toldNode_14 ?_
        refine lv_iload_n hx hb dX3_toldNode_17 rfl (lv_at hl 0 rfl) ?_
        refine va_lald hx hb hK hP 1 0 rfl rfl (ti_in rfl hi0_n_914.1 (om_97cd4a7c b_iC_nodes.2 gc_915)) dX3_toldNode_18 ?_
        refine lv_topl (fun y_916 ey_916 => ?_)
        have hG := hG.trans (lt_eq ey_916)
        refine lv_aload_n hx hb dX3_toldNode_19 rfl (lv_at hl 1 rfl) ?_
        refine va_get (D := (dC, dI)) (ci := 3) (v := .long iR_tokenName) (C := RX3) (T := TX3) (N := 15) hx hb hts inX3 hown hK hP 0 rfl rfl 8 (by decide) (hts _ wd_237) (fun _ h9 => h9) rfl dX3_toldNode_20 ?_
        refine W.lcmp hx hb dX3_toldNode_23 ?_
        refine lv_topi (fun x_917 ex_917 => ?_)
        have hG := hG.trans (lt_eq ex_917)
        have rg_x_917 := fb_rng x_917
        refine lv_if_ne (tgt := 29) hx hb dX3_toldNode_24 (by decide) (fun c_918 => ?_) (fun c_918 => ?_)
        · skip
          have hG := hG.trans (if_neg c_918)
          have gc_918 := ti_ne c_918 rfl kc_0
          obtain ⟨x_919, ex_919⟩ : ∃ z : Int32, z = z_913 + Int32.ofInt 1 := ⟨_, rfl⟩
          have hG := hG.trans (lt_eq ex_919)
          have vx_919 : x_919.toInt = z_913.toInt + 1 := ti_add (y := 1) ex_919 rfl kc_1 (om_4e4fce7e hi0_n_914.1) (om_a32d6481 b_iC_nodes.2 gc_915)
          refine lv_iinc (v := x_919) (lv' := [(1, .int x_919), (0, .ref oR)]) hx hb dX3_toldNode_29 hl (k := 0) rfl ex_919.symm (by decide) rfl (fun ls hl => ?_)
          refine lv_goto (tgt := 2) hx hb dX3_toldNode_32 (by decide) ?_
          exact ih_n_914 x_919 _ _ _  ⟨(om_83b90de5 hi0_n_914.1 vx_919), (om_ed8867da b_iC_nodes.2 gc_915 vx_919)⟩ (ms_lt hm_n_914 (om_b9393183 vx_919) (om_1d9fa7fb b_iC_nodes.2 gc_915)) hG hP hD hS (lv_sub hl [0, 1] rfl)
        · skip
          have hG := hG.trans (if_pos c_918)
          have gc_918 := ti_eq c_918 rfl kc_0
          refine lv_iload_n hx hb dX3_toldNode_27 rfl (lv_at hl 0 rfl) ?_
          exact wq_i hx hb hr 0 ⟨⟨trivial, ⟨(om_9b1c209f hi0_n_914.1), (om_525c5d3e b_iC_nodes.2 gc_915)⟩⟩, hG⟩ (fun t ht hW => Bw.to hP hD hK ht hW) hS dX3_toldNode_28 hlocks
  exact key_n_914 (((2147483647 - (0 : Int32).toInt).toNat) + 1) 0 _ _ _  ⟨(om_b1de7dbe kc_0), (om_daf17c64 kc_0)⟩ (Nat.lt_add_one _) hG hP hD hS hl
set_option maxHeartbeats 4000000 in
set_option maxRecDepth 100000 in
theorem tX3_isNewName (l : Launch) (dC : Nat → ClassId) (dI : Nat → Nat → Nat) (sz : Nat) (oR : Nat) (iR_faultNumber : Int32) (iR_faultPlace : Int32) (iR_tapeSize : Int32) (rR_tape : Nat) (iR_end : Int32) (iR_tokenKind : Int32) (iR_tokenFrom : Int32) (iR_tokenTo : Int32) (iR_tokenName : Int64) (iR_tokenKey : Int32) (iR_tokenWhole : Int32) (oC : Nat) (iR_courtTold : Int32) (rR_names : Nat) (fR_names : Nat → Int64) (kR_names : ClassId) (rR_keys : Nat) (iC_nodes : Int32) (iC_words : Int32) (iC_chances : Int32) (iC_unsures : Int32) (iC_slips : Int32) (iC_throneNode : Int32) (iC_saidWorth : Int32) (iC_unit : Int32) (rC_kind : Nat) (rC_parts : Nat) (rC_partNodes : Nat) (rC_weights : Nat) (rC_weightSums : Nat) (rC_toldWorths : Nat) (rC_steps : Nat) (rC_below : Nat) (rC_above : Nat) (rC_unsureWords : Nat) (rC_unsureWorths : Nat) (b_iR_tapeSize : 0 ≤ iR_tapeSize.toInt ∧ iR_tapeSize.toInt ≤ 900) (b_iR_courtTold : 0 ≤ iR_courtTold.toInt ∧ iR_courtTold.toInt ≤ 1) (b_iC_nodes : 0 ≤ iC_nodes.toInt ∧ iC_nodes.toInt ≤ 18) (b_iC_unsures : 0 ≤ iC_unsures.toInt ∧ iC_unsures.toInt ≤ 4) (b_iC_throneNode : (-1) ≤ iC_throneNode.toInt ∧ iC_throneNode.toInt ≤ 17)  : Met l yX3_isNewName (Cond.code yX3_isNewName cX3_isNewName 1 (some .boolean) :: wG) ({ frames := 1, cells := 0, slots := 0, locals := 21 }) (va_Pc [.ref oR] (Pw dC dI sz [(oc3 oR iR_faultNumber iR_faultPlace iR_tapeSize rR_tape iR_end iR_tokenKind iR_tokenFrom iR_tokenTo iR_tokenName iR_tokenKey iR_tokenWhole oC iR_courtTold rR_names rR_keys), (arL rR_names kR_names 18 fR_names), (oc1 oC iC_nodes iC_words iC_chances iC_unsures iC_slips iC_throneNode iC_saidWorth iC_unit rC_kind rC_parts rC_partNodes rC_weights rC_weightSums rC_toldWorths rC_steps rC_below rC_above rC_unsureWords rC_unsureWorths)] [(kR_names, .long)])) (va_Qi (fun (r : Int32) (u : Nat) => ((r = 0 ∨ r = 1) ∧ True) ∧ r = Int32.ofNat u) (fun (u : Nat) (t : State) => ∃ (niR_faultNumber : Int32) (niR_faultPlace : Int32), (PX3_isNewName iR_faultNumber iR_faultPlace iR_tokenKind iR_tokenFrom iR_tokenName iR_tokenKey fR_names iC_nodes = (Int32.ofNat u, niR_faultNumber, niR_faultPlace)) ∧ Bw dC dI (va_A [(oc3 oR iR_faultNumber iR_faultPlace iR_tapeSize rR_tape iR_end iR_tokenKind iR_tokenFrom iR_tokenTo iR_tokenName iR_tokenKey iR_tokenWhole oC iR_courtTold rR_names rR_keys), (arL rR_names kR_names 18 fR_names), (oc1 oC iC_nodes iC_words iC_chances iC_unsures iC_slips iC_throneNode iC_saidWorth iC_unit rC_kind rC_parts rC_partNodes rC_weights rC_weightSums rC_toldWorths rC_steps rC_below rC_above rC_unsureWords rC_unsureWorths)] sz) [(oc3 oR niR_faultNumber niR_faultPlace iR_tapeSize rR_tape iR_end iR_tokenKind iR_tokenFrom iR_tokenTo iR_tokenName iR_tokenKey iR_tokenWhole oC iR_courtTold rR_names rR_keys), (arL rR_names kR_names 18 fR_names), (oc1 oC iC_nodes iC_words iC_chances iC_unsures iC_slips iC_throneNode iC_saidWorth iC_unit rC_kind rC_parts rC_partNodes rC_weights rC_weightSums rC_toldWorths rC_steps rC_below rC_above rC_unsureWords rC_unsureWorths)] [(kR_names, .long)] t) (va_A [(oc3 oR iR_faultNumber iR_faultPlace iR_tapeSize rR_tape iR_end iR_tokenKind iR_tokenFrom iR_tokenTo iR_tokenName iR_tokenKey iR_tokenWhole oC iR_courtTold rR_names rR_keys), (arL rR_names kR_names 18 fR_names), (oc1 oC iC_nodes iC_words iC_chances iC_unsures iC_slips iC_throneNode iC_saidWorth iC_unit rC_kind rC_parts rC_partNodes rC_weights rC_weightSums rC_toldWorths rC_steps rC_below rC_above rC_unsureWords rC_unsureWorths)] sz)) 0 0 (va_A [(oc3 oR iR_faultNumber iR_faultPlace iR_tapeSize rR_tape iR_end iR_tokenKind iR_tokenFrom iR_tokenTo iR_tokenName iR_tokenKey iR_tokenWhole oC iR_courtTold rR_names rR_keys), (arL rR_names kR_names 18 fR_names), (oc1 oC iC_nodes iC_words iC_chances iC_unsures iC_slips iC_throneNode iC_saidWorth iC_unit rC_kind rC_parts rC_partNodes rC_weights rC_weightSums rC_toldWorths rC_steps rC_below rC_above rC_unsureWords rC_unsureWorths)] sz) := by
  refine Met.ofW (cc := cX3_isNewName) (maxL := 1) (ret := (some .boolean)) pnX3 rfl ?_
  intro p e s m args below meth c s₁ B hml hv
  obtain ⟨rfl, hsz, hP, hK, hD0, hE⟩ := hv
  have hx := B.exec
  have hb := B.bytes
  have hr := B.returns
  have hts : ∀ w ∈ wG, w.before ([.ref oR] : List Value).toArray s = true := fun w h => atoms_spec (ws := Cond.code yX3_isNewName cX3_isNewName 1 (some .boolean) :: wG) B.pre w (List.mem_cons_of_mem _ h)
  have hown : s.vm.findClass RX3 = some m.cls := own_of B.named rfl
  have hlocks := B.notSynchronized
  subst hsz
  have hD := hD0.self (sz := s.heap.size)
  generalize hAe : va_A [(oc3 oR iR_faultNumber iR_faultPlace iR_tapeSize rR_tape iR_end iR_tokenKind iR_tokenFrom iR_tokenTo iR_tokenName iR_tokenKey iR_tokenWhole oC iR_courtTold rR_names rR_keys), (arL rR_names kR_names 18 fR_names), (oc1 oC iC_nodes iC_words iC_chances iC_unsures iC_slips iC_throneNode iC_saidWorth iC_unit rC_kind rC_parts rC_partNodes rC_weights rC_weightSums rC_toldWorths rC_steps rC_below rC_above rC_unsureWords rC_unsureWorths)] s.heap.size = A at hD hE ⊢
  have hA : ∀ q : Nat, s.heap.size ≤ q → A q := fun q h => by rw [← hAe]; exact Or.inr h
  have hS : va_S A s.heap s.heap [] := va_S.rf
  have hl := lv_entry ([.ref oR]) (n := 1) (Nat.le_of_ble_eq_true rfl)
  rw [lg_entry_eq]
  generalize (lg_sl ([.ref oR]) ++ List.replicate (1 - (lg_sl ([.ref oR])).length) Slot.unset).toArray = ls at hl ⊢
  have hl : lv_has ls 1 [(0, .ref oR)] := hl
  have hG := PX3_isNewName_eq iR_faultNumber iR_faultPlace iR_tokenKind iR_tokenFrom iR_tokenName iR_tokenKey fR_names iC_nodes
  refine lv_aload_n hx hb dX3_isNewName_0 rfl (lv_at hl 0 rfl) ?_
  refine va_get (D := (dC, dI)) (ci := 3) (v := .int iR_tokenKind) (C := RX3) (T := TX3) (N := 15) hx hb hts inX3 hown hK hP 0 rfl rfl 5 (by decide) (hts _ wd_210) (fun _ h9 => h9) rfl dX3_isNewName_1 ?_
  refine lv_iconst (v := 1) hx hb dX3_isNewName_4 (by decide) ?_
  refine lv_icmp_ne (tgt := 15) hx hb dX3_isNewName_5 (by decide) (fun c_935 => ?_) (fun c_935 => ?_)
  · skip
    have hG := hG.trans (if_neg c_935)
    have gc_935 := ti_ne c_935 rfl kc_1
    refine lv_aload_n hx hb dX3_isNewName_15 rfl (lv_at hl 0 rfl) ?_
    refine lv_iconst (v := 1) hx hb dX3_isNewName_16 (by decide) ?_
    have hMs := ml_of hD [true, false, false] (wc := [(oc3 oR iR_faultNumber iR_faultPlace iR_tapeSize rR_tape iR_end iR_tokenKind iR_tokenFrom iR_tokenTo iR_tokenName iR_tokenKey iR_tokenWhole oC iR_courtTold rR_names rR_keys)]) rfl
    have hFc := va_freeM hD hS hA _ hMs
    refine va_calli (va_runV (As := [.int 1]) (rest := []) ⟨hx, hb, hml, hown, hts⟩ (tX3_faulty l dC dI _ oR iR_faultNumber iR_faultPlace iR_tapeSize rR_tape iR_end iR_tokenKind iR_tokenFrom iR_tokenTo iR_tokenName iR_tokenKey iR_tokenWhole oC iR_courtTold rR_names rR_keys 1 b_iR_tapeSize b_iR_courtTold) (cwV 1 hts (wd_V wd_254 wd_255 wd_256 wd_15 (wd_c wd_257)) rfl rfl rfl dv_yX3_faulty_1 ⟨Nat.le_of_ble_eq_true rfl, Nat.le_of_ble_eq_true rfl⟩) ⟨Pw.fb, recvX3 hK hP (q0 := 0) rfl, fun U hU hW => Pw.to (hP.ms _ hMs) (hD.ms _ hMs) (hK.ms [false] rfl) hE hS hFc hU hW⟩ rfl rfl hl.1 rfl (lv_room (Nat.le_of_ble_eq_true rfl)) dX3_isNewName_17 ⟨Nat.le_of_ble_eq_true rfl, Nat.le_of_ble_eq_true rfl⟩) hS (fun q _ h => hFc q h) hFc (fun r u t H locs ht hvm hw hB hz1 hk1 hS => ?_)
    have hru9 := hw.2
    have hw := hw.1
    refine ex_2_1 hB (fun x_936 x_937 e_x_936_0 hB => ?_)
    obtain ⟨hP, hD⟩ := Bw.goN (ws' := [(oc3 oR x_936 x_937 iR_tapeSize rR_tape iR_end iR_tokenKind iR_tokenFrom iR_tokenTo iR_tokenName iR_tokenKey iR_tokenWhole oC iR_courtTold rR_names rR_keys), (arL rR_names kR_names 18 fR_names), (oc1 oC iC_nodes iC_words iC_chances iC_unsures iC_slips iC_throneNode iC_saidWorth iC_unit rC_kind rC_parts rC_partNodes rC_weights rC_weightSums rC_toldWorths rC_steps rC_below rC_above rC_unsureWords rC_unsureWorths)]) hB rfl ht hP hD _ hMs hk1 hFc rfl
    clear hz1 hk1 hvm ht hB hMs
    rw [← hru9] at e_x_936_0
    rcases hw.2 with ⟨rfl, hc_938⟩
    · skip
      have hG := hG.trans (un3_eq e_x_936_0)
      exact wq_z (v := 0) hx hb hr rfl (cI 0) ⟨⟨Or.inl rfl, trivial⟩, (cI_of 0)⟩ (fun t ht hW => ⟨x_936, x_937, (cI_tup hG), Bw.to hP hD hK ht hW⟩) hS dX3_isNewName_20 hlocks
  · skip
    have hG := hG.trans (if_pos c_935)
    have gc_935 := ti_eq c_935 rfl kc_1
    refine lv_aload_n hx hb dX3_isNewName_8 rfl (lv_at hl 0 rfl) ?_
    have hMs := ml_of hD [true, false, false] (wc := [(oc3 oR iR_faultNumber iR_faultPlace iR_tapeSize rR_tape iR_end iR_tokenKind iR_tokenFrom iR_tokenTo iR_tokenName iR_tokenKey iR_tokenWhole oC iR_courtTold rR_names rR_keys)]) rfl
    have hFc := va_freeM hD hS hA _ hMs
    refine va_calli (va_runV (As := []) (rest := []) ⟨hx, hb, hml, hown, hts⟩ (tX3_isLineKey l dC dI _ oR iR_faultNumber iR_faultPlace iR_tapeSize rR_tape iR_end iR_tokenKind iR_tokenFrom iR_tokenTo iR_tokenName iR_tokenKey iR_tokenWhole oC iR_courtTold rR_names rR_keys b_iR_tapeSize b_iR_courtTold) (cwV 0 hts (wd_V wd_250 wd_251 wd_252 wd_15 (wd_c wd_253)) rfl rfl rfl dv_yX3_isLineKey_0 ⟨Nat.le_of_ble_eq_true rfl, Nat.le_of_ble_eq_true rfl⟩) ⟨Pw.fb, recvX3 hK hP (q0 := 0) rfl, fun U hU hW => Pw.to (hP.ms _ hMs) (hD.ms _ hMs) (hK.ms [false] rfl) hE hS hFc hU hW⟩ rfl rfl hl.1 rfl (lv_room (Nat.le_of_ble_eq_true rfl)) dX3_isNewName_9 ⟨Nat.le_of_ble_eq_true rfl, Nat.le_of_ble_eq_true rfl⟩) hS (fun q _ h => hFc q h) hFc (fun r u t H locs ht hvm hw hB hz1 hk1 hS => ?_)
    have hru9 := hw.2
    have hw := hw.1
    obtain ⟨hP, hD⟩ := Bw.goN (ws' := [(oc3 oR iR_faultNumber iR_faultPlace iR_tapeSize rR_tape iR_end iR_tokenKind iR_tokenFrom iR_tokenTo iR_tokenName iR_tokenKey iR_tokenWhole oC iR_courtTold rR_names rR_keys), (arL rR_names kR_names 18 fR_names), (oc1 oC iC_nodes iC_words iC_chances iC_unsures iC_slips iC_throneNode iC_saidWorth iC_unit rC_kind rC_parts rC_partNodes rC_weights rC_weightSums rC_toldWorths rC_steps rC_below rC_above rC_unsureWords rC_unsureWorths)]) hB rfl ht hP hD _ hMs hk1 hFc rfl
    clear hz1 hk1 hvm ht hB hMs
    obtain ⟨x_940, rfl⟩ : ∃ z, z = r := ⟨_, rfl⟩
    have hG := hG.trans (lt_eq hru9.symm)
    have bx_940 := hw.1
    have dx_940 := bz_tb bx_940
    refine lv_if_eq (tgt := 21) hx hb dX3_isNewName_12 (by decide) (fun c_941 => ?_) (fun c_941 => ?_)
    · skip
      have hG := hG.trans (if_pos c_941)
      have gc_941 := ti_eq c_941 rfl kc_0
      refine lv_aload_n hx hb dX3_isNewName_21 rfl (lv_at hl 0 rfl) ?_
      have hFc := va_freeI hD hS hA
      refine va_calli (va_runV (As := []) (rest := []) ⟨hx, hb, hml, hown, hts⟩ (tX3_toldNode l dC dI _ oR iR_faultNumber iR_faultPlace iR_tapeSize rR_tape iR_end iR_tokenKind iR_tokenFrom iR_tokenTo iR_tokenName iR_tokenKey iR_tokenWhole oC iR_courtTold rR_names fR_names kR_names rR_keys iC_nodes iC_words iC_chances iC_unsures iC_slips iC_throneNode iC_saidWorth iC_unit rC_kind rC_parts rC_partNodes rC_weights rC_weightSums rC_toldWorths rC_steps rC_below rC_above rC_unsureWords rC_unsureWorths b_iR_tapeSize b_iR_courtTold b_iC_nodes b_iC_unsures b_iC_throneNode) (cwV 0 hts (wd_V wd_283 wd_284 wd_285 wd_15 (wd_c wd_286)) rfl rfl rfl dv_yX3_toldNode_0 ⟨Nat.le_of_ble_eq_true rfl, Nat.le_of_ble_eq_true rfl⟩) ⟨Pw.fb, recvX3 hK hP (q0 := 0) rfl, fun U hU hW => Pw.to hP hD hK hE hS hFc hU hW⟩ rfl rfl hl.1 rfl (lv_room (Nat.le_of_ble_eq_true rfl)) dX3_isNewName_22 ⟨Nat.le_of_ble_eq_true rfl, Nat.le_of_ble_eq_true rfl⟩) hS (fun q _ h => hFc q h) hFc (fun r u t H locs ht hvm hw hB hz1 hk1 hS => ?_)
      have hru9 := hw.2
      have hw := hw.1
      obtain ⟨hP, hD⟩ := Bw.goA (ws' := [(oc3 oR iR_faultNumber iR_faultPlace iR_tapeSize rR_tape iR_end iR_tokenKind iR_tokenFrom iR_tokenTo iR_tokenName iR_tokenKey iR_tokenWhole oC iR_courtTold rR_names rR_keys), (arL rR_names kR_names 18 fR_names), (oc1 oC iC_nodes iC_words iC_chances iC_unsures iC_slips iC_throneNode iC_saidWorth iC_unit rC_kind rC_parts rC_partNodes rC_weights rC_weightSums rC_toldWorths rC_steps rC_below rC_above rC_unsureWords rC_unsureWorths)]) hB rfl ht hFc rfl
      clear hz1 hk1 hvm ht hB
      obtain ⟨x_942, rfl⟩ : ∃ z, z = r := ⟨_, rfl⟩
      have hG := hG.trans (lt_eq hru9.symm)
      have ux_942 := hw.2
      refine lv_if_lt (tgt := 36) hx hb dX3_isNewName_25 (by decide) (fun c_943 => ?_) (fun c_943 => ?_)
      · skip
        have hG := hG.trans (if_pos c_943)
        have gc_943 := ti_lt c_943 rfl kc_0
        refine lv_iconst (v := 1) hx hb dX3_isNewName_36 (by decide) ?_
        refine lv_goto (tgt := 41) hx hb dX3_isNewName_37 (by decide) ?_
        exact wq_z (v := 1) hx hb hr rfl (cI 1) ⟨⟨Or.inr rfl, trivial⟩, (cI_of 1)⟩ (fun t ht hW => ⟨iR_faultNumber, iR_faultPlace, (cI_tup hG), Bw.to hP hD hK ht hW⟩) hS dX3_isNewName_41 hlocks
      · skip
        have hG := hG.trans (if_neg c_943)
        have gc_943 := ti_nlt c_943 rfl kc_0
        refine lv_aload_n hx hb dX3_isNewName_28 rfl (lv_at hl 0 rfl) ?_
        refine lv_iconst (v := 3) hx hb dX3_isNewName_29 (by decide) ?_
        have hMs := ml_of hD [true, false, false] (wc := [(oc3 oR iR_faultNumber iR_faultPlace iR_tapeSize rR_tape iR_end iR_tokenKind iR_tokenFrom iR_tokenTo iR_tokenName iR_tokenKey iR_tokenWhole oC iR_courtTold rR_names rR_keys)]) rfl
        have hFc := va_freeM hD hS hA _ hMs
        refine va_calli (va_runV (As := [.int 3]) (rest := []) ⟨hx, hb, hml, hown, hts⟩ (tX3_faulty l dC dI _ oR iR_faultNumber iR_faultPlace iR_tapeSize rR_tape iR_end iR_tokenKind iR_tokenFrom iR_tokenTo iR_tokenName iR_tokenKey iR_tokenWhole oC iR_courtTold rR_names rR_keys 3 b_iR_tapeSize b_iR_courtTold) (cwV 1 hts (wd_V wd_254 wd_255 wd_256 wd_15 (wd_c wd_257)) rfl rfl rfl dv_yX3_faulty_1 ⟨Nat.le_of_ble_eq_true rfl, Nat.le_of_ble_eq_true rfl⟩) ⟨Pw.fb, recvX3 hK hP (q0 := 0) rfl, fun U hU hW => Pw.to (hP.ms _ hMs) (hD.ms _ hMs) (hK.ms [false] rfl) hE hS hFc hU hW⟩ rfl rfl hl.1 rfl (lv_room (Nat.le_of_ble_eq_true rfl)) dX3_isNewName_30 ⟨Nat.le_of_ble_eq_true rfl, Nat.le_of_ble_eq_true rfl⟩) hS (fun q _ h => hFc q h) hFc (fun r u t H locs ht hvm hw hB hz1 hk1 hS => ?_)
        have hru9 := hw.2
        have hw := hw.1
        refine ex_2_1 hB (fun x_944 x_945 e_x_944_0 hB => ?_)
        obtain ⟨hP, hD⟩ := Bw.goN (ws' := [(oc3 oR x_944 x_945 iR_tapeSize rR_tape iR_end iR_tokenKind iR_tokenFrom iR_tokenTo iR_tokenName iR_tokenKey iR_tokenWhole oC iR_courtTold rR_names rR_keys), (arL rR_names kR_names 18 fR_names), (oc1 oC iC_nodes iC_words iC_chances iC_unsures iC_slips iC_throneNode iC_saidWorth iC_unit rC_kind rC_parts rC_partNodes rC_weights rC_weightSums rC_toldWorths rC_steps rC_below rC_above rC_unsureWords rC_unsureWorths)]) hB rfl ht hP hD _ hMs hk1 hFc rfl
        clear hz1 hk1 hvm ht hB hMs
        rw [← hru9] at e_x_944_0
        rcases hw.2 with ⟨rfl, hc_946⟩
        · skip
          have hG := hG.trans (un3_eq e_x_944_0)
          refine lv_if_eq (tgt := 40) hx hb dX3_isNewName_33 (by decide) (fun _ => ?_) (fun c => absurd c (by decide))
          refine lv_iconst (v := 0) hx hb dX3_isNewName_40 (by decide) ?_
          exact wq_z (v := 0) hx hb hr rfl (cI 0) ⟨⟨Or.inl rfl, trivial⟩, (cI_of 0)⟩ (fun t ht hW => ⟨x_944, x_945, (cI_tup hG), Bw.to hP hD hK ht hW⟩) hS dX3_isNewName_41 hlocks
    · skip
      have hG := hG.trans (if_neg c_941)
      have gc_941 := ti_ne c_941 rfl kc_0
      refine lv_aload_n hx hb dX3_isNewName_15 rfl (lv_at hl 0 rfl) ?_
      refine lv_iconst (v := 1) hx hb dX3_isNewName_16 (by decide) ?_
      have hMs := ml_of hD [true, false, false] (wc := [(oc3 oR iR_faultNumber iR_faultPlace iR_tapeSize rR_tape iR_end iR_tokenKind iR_tokenFrom iR_tokenTo iR_tokenName iR_tokenKey iR_tokenWhole oC iR_courtTold rR_names rR_keys)]) rfl
      have hFc := va_freeM hD hS hA _ hMs
      refine va_calli (va_runV (As := [.int 1]) (rest := []) ⟨hx, hb, hml, hown, hts⟩ (tX3_faulty l dC dI _ oR iR_faultNumber iR_faultPlace iR_tapeSize rR_tape iR_end iR_tokenKind iR_tokenFrom iR_tokenTo iR_tokenName iR_tokenKey iR_tokenWhole oC iR_courtTold rR_names rR_keys 1 b_iR_tapeSize b_iR_courtTold) (cwV 1 hts (wd_V wd_254 wd_255 wd_256 wd_15 (wd_c wd_257)) rfl rfl rfl dv_yX3_faulty_1 ⟨Nat.le_of_ble_eq_true rfl, Nat.le_of_ble_eq_true rfl⟩) ⟨Pw.fb, recvX3 hK hP (q0 := 0) rfl, fun U hU hW => Pw.to (hP.ms _ hMs) (hD.ms _ hMs) (hK.ms [false] rfl) hE hS hFc hU hW⟩ rfl rfl hl.1 rfl (lv_room (Nat.le_of_ble_eq_true rfl)) dX3_isNewName_17 ⟨Nat.le_of_ble_eq_true rfl, Nat.le_of_ble_eq_true rfl⟩) hS (fun q _ h => hFc q h) hFc (fun r u t H locs ht hvm hw hB hz1 hk1 hS => ?_)
      have hru9 := hw.2
      have hw := hw.1
      refine ex_2_1 hB (fun x_949 x_950 e_x_949_0 hB => ?_)
      obtain ⟨hP, hD⟩ := Bw.goN (ws' := [(oc3 oR x_949 x_950 iR_tapeSize rR_tape iR_end iR_tokenKind iR_tokenFrom iR_tokenTo iR_tokenName iR_tokenKey iR_tokenWhole oC iR_courtTold rR_names rR_keys), (arL rR_names kR_names 18 fR_names), (oc1 oC iC_nodes iC_words iC_chances iC_unsures iC_slips iC_throneNode iC_saidWorth iC_unit rC_kind rC_parts rC_partNodes rC_weights rC_weightSums rC_toldWorths rC_steps rC_below rC_above rC_unsureWords rC_unsureWorths)]) hB rfl ht hP hD _ hMs hk1 hFc rfl
      clear hz1 hk1 hvm ht hB hMs
      rw [← hru9] at e_x_949_0
      rcases hw.2 with ⟨rfl, hc_951⟩
      · skip
        have hG := hG.trans (un3_eq e_x_949_0)
        exact wq_z (v := 0) hx hb hr rfl (cI 0) ⟨⟨Or.inl rfl, trivial⟩, (cI_of 0)⟩ (fun t ht hW => ⟨x_949, x_950, (cI_tup hG), Bw.to hP hD hK ht hW⟩) hS dX3_isNewName_20 hlocks
set_option maxHeartbeats 4000000 in
set_option maxRecDepth 100000 in
theorem tX3_isToldName (l : Launch) (dC : Nat → ClassId) (dI : Nat → Nat → Nat) (sz : Nat) (oR : Nat) (iR_faultNumber : Int32) (iR_faultPlace : Int32) (iR_tapeSize : Int32) (rR_tape : Nat) (iR_end : Int32) (iR_tokenKind : Int32) (iR_tokenFrom : Int32) (iR_tokenTo : Int32) (iR_tokenName : Int64) (iR_tokenKey : Int32) (iR_tokenWhole : Int32) (oC : Nat) (iR_courtTold : Int32) (rR_names : Nat) (fR_names : Nat → Int64) (kR_names : ClassId) (rR_keys : Nat) (iC_nodes : Int32) (iC_words : Int32) (iC_chances : Int32) (iC_unsures : Int32) (iC_slips : Int32) (iC_throneNode : Int32) (iC_saidWorth : Int32) (iC_unit : Int32) (rC_kind : Nat) (rC_parts : Nat) (rC_partNodes : Nat) (rC_weights : Nat) (rC_weightSums : Nat) (rC_toldWorths : Nat) (rC_steps : Nat) (rC_below : Nat) (rC_above : Nat) (rC_unsureWords : Nat) (rC_unsureWorths : Nat) (b_iR_tapeSize : 0 ≤ iR_tapeSize.toInt ∧ iR_tapeSize.toInt ≤ 900) (b_iR_courtTold : 0 ≤ iR_courtTold.toInt ∧ iR_courtTold.toInt ≤ 1) (b_iC_nodes : 0 ≤ iC_nodes.toInt ∧ iC_nodes.toInt ≤ 18) (b_iC_unsures : 0 ≤ iC_unsures.toInt ∧ iC_unsures.toInt ≤ 4) (b_iC_throneNode : (-1) ≤ iC_throneNode.toInt ∧ iC_throneNode.toInt ≤ 17)  : Met l yX3_isToldName (Cond.code yX3_isToldName cX3_isToldName 1 (some .boolean) :: wG) ({ frames := 1, cells := 0, slots := 0, locals := 21 }) (va_Pc [.ref oR] (Pw dC dI sz [(oc3 oR iR_faultNumber iR_faultPlace iR_tapeSize rR_tape iR_end iR_tokenKind iR_tokenFrom iR_tokenTo iR_tokenName iR_tokenKey iR_tokenWhole oC iR_courtTold rR_names rR_keys), (arL rR_names kR_names 18 fR_names), (oc1 oC iC_nodes iC_words iC_chances iC_unsures iC_slips iC_throneNode iC_saidWorth iC_unit rC_kind rC_parts rC_partNodes rC_weights rC_weightSums rC_toldWorths rC_steps rC_below rC_above rC_unsureWords rC_unsureWorths)] [(kR_names, .long)])) (va_Qi (fun (r : Int32) (u : Nat) => ((r = 0 ∨ r = 1) ∧ True) ∧ r = Int32.ofNat u) (fun (u : Nat) (t : State) => ∃ (niR_faultNumber : Int32) (niR_faultPlace : Int32), (PX3_isToldName iR_faultNumber iR_faultPlace iR_tokenKind iR_tokenFrom iR_tokenName iR_tokenKey fR_names iC_nodes = (Int32.ofNat u, niR_faultNumber, niR_faultPlace)) ∧ Bw dC dI (va_A [(oc3 oR iR_faultNumber iR_faultPlace iR_tapeSize rR_tape iR_end iR_tokenKind iR_tokenFrom iR_tokenTo iR_tokenName iR_tokenKey iR_tokenWhole oC iR_courtTold rR_names rR_keys), (arL rR_names kR_names 18 fR_names), (oc1 oC iC_nodes iC_words iC_chances iC_unsures iC_slips iC_throneNode iC_saidWorth iC_unit rC_kind rC_parts rC_partNodes rC_weights rC_weightSums rC_toldWorths rC_steps rC_below rC_above rC_unsureWords rC_unsureWorths)] sz) [(oc3 oR niR_faultNumber niR_faultPlace iR_tapeSize rR_tape iR_end iR_tokenKind iR_tokenFrom iR_tokenTo iR_tokenName iR_tokenKey iR_tokenWhole oC iR_courtTold rR_names rR_keys), (arL rR_names kR_names 18 fR_names), (oc1 oC iC_nodes iC_words iC_chances iC_unsures iC_slips iC_throneNode iC_saidWorth iC_unit rC_kind rC_parts rC_partNodes rC_weights rC_weightSums rC_toldWorths rC_steps rC_below rC_above rC_unsureWords rC_unsureWorths)] [(kR_names, .long)] t) (va_A [(oc3 oR iR_faultNumber iR_faultPlace iR_tapeSize rR_tape iR_end iR_tokenKind iR_tokenFrom iR_tokenTo iR_tokenName iR_tokenKey iR_tokenWhole oC iR_courtTold rR_names rR_keys), (arL rR_names kR_names 18 fR_names), (oc1 oC iC_nodes iC_words iC_chances iC_unsures iC_slips iC_throneNode iC_saidWorth iC_unit rC_kind rC_parts rC_partNodes rC_weights rC_weightSums rC_toldWorths rC_steps rC_below rC_above rC_unsureWords rC_unsureWorths)] sz)) 0 0 (va_A [(oc3 oR iR_faultNumber iR_faultPlace iR_tapeSize rR_tape iR_end iR_tokenKind iR_tokenFrom iR_tokenTo iR_tokenName iR_tokenKey iR_tokenWhole oC iR_courtTold rR_names rR_keys), (arL rR_names kR_names 18 fR_names), (oc1 oC iC_nodes iC_words iC_chances iC_unsures iC_slips iC_throneNode iC_saidWorth iC_unit rC_kind rC_parts rC_partNodes rC_weights rC_weightSums rC_toldWorths rC_steps rC_below rC_above rC_unsureWords rC_unsureWorths)] sz) := by
  refine Met.ofW (cc := cX3_isToldName) (maxL := 1) (ret := (some .boolean)) pnX3 rfl ?_
  intro p e s m args below meth c s₁ B hml hv
  obtain ⟨rfl, hsz, hP, hK, hD0, hE⟩ := hv
  have hx := B.exec
  have hb := B.bytes
  have hr := B.returns
  have hts : ∀ w ∈ wG, w.before ([.ref oR] : List Value).toArray s = true := fun w h => atoms_spec (ws := Cond.code yX3_isToldName cX3_isToldName 1 (some .boolean) :: wG) B.pre w (List.mem_cons_of_mem _ h)
  have hown : s.vm.findClass RX3 = some m.cls := own_of B.named rfl
  have hlocks := B.notSynchronized
  subst hsz
  have hD := hD0.self (sz := s.heap.size)
  generalize hAe : va_A [(oc3 oR iR_faultNumber iR_faultPlace iR_tapeSize rR_tape iR_end iR_tokenKind iR_tokenFrom iR_tokenTo iR_tokenName iR_tokenKey iR_tokenWhole oC iR_courtTold rR_names rR_keys), (arL rR_names kR_names 18 fR_names), (oc1 oC iC_nodes iC_words iC_chances iC_unsures iC_slips iC_throneNode iC_saidWorth iC_unit rC_kind rC_parts rC_partNodes rC_weights rC_weightSums rC_toldWorths rC_steps rC_below rC_above rC_unsureWords rC_unsureWorths)] s.heap.size = A at hD hE ⊢
  have hA : ∀ q : Nat, s.heap.size ≤ q → A q := fun q h => by rw [← hAe]; exact Or.inr h
  have hS : va_S A s.heap s.heap [] := va_S.rf
  have hl := lv_entry ([.ref oR]) (n := 1) (Nat.le_of_ble_eq_true rfl)
  rw [lg_entry_eq]
  generalize (lg_sl ([.ref oR]) ++ List.replicate (1 - (lg_sl ([.ref oR])).length) Slot.unset).toArray = ls at hl ⊢
  have hl : lv_has ls 1 [(0, .ref oR)] := hl
  have hG := PX3_isToldName_eq iR_faultNumber iR_faultPlace iR_tokenKind iR_tokenFrom iR_tokenName iR_tokenKey fR_names iC_nodes
  refine lv_aload_n hx hb dX3_isToldName_0 rfl (lv_at hl 0 rfl) ?_
  refine va_get (D := (dC, dI)) (ci := 3) (v := .int iR_tokenKind) (C := RX3) (T := TX3) (N := 15) hx hb hts inX3 hown hK hP 0 rfl rfl 5 (by decide) (hts _ wd_210) (fun _ h9 => h9) rfl dX3_isToldName_1 ?_
  refine lv_iconst (v := 1) hx hb dX3_isToldName_4 (by decide) ?_
  refine lv_icmp_ne (tgt := 15) hx hb dX3_isToldName_5 (by decide) (fun c_968 => ?_) (fun c_968 => ?_)
  · skip
    have hG := hG.trans (if_neg c_968)
    have gc_968 := ti_ne c_968 rfl kc_1
    refine lv_aload_n hx hb dX3_isToldName_15 rfl (lv_at hl 0 rfl) ?_
    refine lv_iconst (v := 1) hx hb dX3_isToldName_16 (by decide) ?_
    have hMs := ml_of hD [true, false, false] (wc := [(oc3 oR iR_faultNumber iR_faultPlace iR_tapeSize rR_tape iR_end iR_tokenKind iR_tokenFrom iR_tokenTo iR_tokenName iR_tokenKey iR_tokenWhole oC iR_courtTold rR_names rR_keys)]) rfl
    have hFc := va_freeM hD hS hA _ hMs
    refine va_calli (va_runV (As := [.int 1]) (rest := []) ⟨hx, hb, hml, hown, hts⟩ (tX3_faulty l dC dI _ oR iR_faultNumber iR_faultPlace iR_tapeSize rR_tape iR_end iR_tokenKind iR_tokenFrom iR_tokenTo iR_tokenName iR_tokenKey iR_tokenWhole oC iR_courtTold rR_names rR_keys 1 b_iR_tapeSize b_iR_courtTold) (cwV 1 hts (wd_V wd_254 wd_255 wd_256 wd_15 (wd_c wd_257)) rfl rfl rfl dv_yX3_faulty_1 ⟨Nat.le_of_ble_eq_true rfl, Nat.le_of_ble_eq_true rfl⟩) ⟨Pw.fb, recvX3 hK hP (q0 := 0) rfl, fun U hU hW => Pw.to (hP.ms _ hMs) (hD.ms _ hMs) (hK.ms [false] rfl) hE hS hFc hU hW⟩ rfl rfl hl.1 rfl (lv_room (Nat.le_of_ble_eq_true rfl)) dX3_isToldName_17 ⟨Nat.le_of_ble_eq_true rfl, Nat.le_of_ble_eq_true rfl⟩) hS (fun q _ h => hFc q h) hFc (fun r u t H locs ht hvm hw hB hz1 hk1 hS => ?_)
    have hru9 := hw.2
    have hw := hw.1
    refine ex_2_1 hB (fun x_969 x_970 e_x_969_0 hB => ?_)
    obtain ⟨hP, hD⟩ := Bw.goN (ws' := [(oc3 oR x_969 x_970 iR_tapeSize rR_tape iR_end iR_tokenKind iR_tokenFrom iR_tokenTo iR_tokenName iR_tokenKey iR_tokenWhole oC iR_courtTold rR_names rR_keys), (arL rR_names kR_names 18 fR_names), (oc1 oC iC_nodes iC_words iC_chances iC_unsures iC_slips iC_throneNode iC_saidWorth iC_unit rC_kind rC_parts rC_partNodes rC_weights rC_weightSums rC_toldWorths rC_steps rC_below rC_above rC_unsureWords rC_unsureWorths)]) hB rfl ht hP hD _ hMs hk1 hFc rfl
    clear hz1 hk1 hvm ht hB hMs
    rw [← hru9] at e_x_969_0
    rcases hw.2 with ⟨rfl, hc_971⟩
    · skip
      have hG := hG.trans (un3_eq e_x_969_0)
      exact wq_z (v := 0) hx hb hr rfl (cI 0) ⟨⟨Or.inl rfl, trivial⟩, (cI_of 0)⟩ (fun t ht hW => ⟨x_969, x_970, (cI_tup hG), Bw.to hP hD hK ht hW⟩) hS dX3_isToldName_20 hlocks
  · skip
    have hG := hG.trans (if_pos c_968)
    have gc_968 := ti_eq c_968 rfl kc_1
    refine lv_aload_n hx hb dX3_isToldName_8 rfl (lv_at hl 0 rfl) ?_
    have hMs := ml_of hD [true, false, false] (wc := [(oc3 oR iR_faultNumber iR_faultPlace iR_tapeSize rR_tape iR_end iR_tokenKind iR_tokenFrom iR_tokenTo iR_tokenName iR_tokenKey iR_tokenWhole oC iR_courtTold rR_names rR_keys)]) rfl
    have hFc := va_freeM hD hS hA _ hMs
    refine va_calli (va_runV (As := []) (rest := []) ⟨hx, hb, hml, hown, hts⟩ (tX3_isLineKey l dC dI _ oR iR_faultNumber iR_faultPlace iR_tapeSize rR_tape iR_end iR_tokenKind iR_tokenFrom iR_tokenTo iR_tokenName iR_tokenKey iR_tokenWhole oC iR_courtTold rR_names rR_keys b_iR_tapeSize b_iR_courtTold) (cwV 0 hts (wd_V wd_250 wd_251 wd_252 wd_15 (wd_c wd_253)) rfl rfl rfl dv_yX3_isLineKey_0 ⟨Nat.le_of_ble_eq_true rfl, Nat.le_of_ble_eq_true rfl⟩) ⟨Pw.fb, recvX3 hK hP (q0 := 0) rfl, fun U hU hW => Pw.to (hP.ms _ hMs) (hD.ms _ hMs) (hK.ms [false] rfl) hE hS hFc hU hW⟩ rfl rfl hl.1 rfl (lv_room (Nat.le_of_ble_eq_true rfl)) dX3_isToldName_9 ⟨Nat.le_of_ble_eq_true rfl, Nat.le_of_ble_eq_true rfl⟩) hS (fun q _ h => hFc q h) hFc (fun r u t H locs ht hvm hw hB hz1 hk1 hS => ?_)
    have hru9 := hw.2
    have hw := hw.1
    obtain ⟨hP, hD⟩ := Bw.goN (ws' := [(oc3 oR iR_faultNumber iR_faultPlace iR_tapeSize rR_tape iR_end iR_tokenKind iR_tokenFrom iR_tokenTo iR_tokenName iR_tokenKey iR_tokenWhole oC iR_courtTold rR_names rR_keys), (arL rR_names kR_names 18 fR_names), (oc1 oC iC_nodes iC_words iC_chances iC_unsures iC_slips iC_throneNode iC_saidWorth iC_unit rC_kind rC_parts rC_partNodes rC_weights rC_weightSums rC_toldWorths rC_steps rC_below rC_above rC_unsureWords rC_unsureWorths)]) hB rfl ht hP hD _ hMs hk1 hFc rfl
    clear hz1 hk1 hvm ht hB hMs
    obtain ⟨x_973, rfl⟩ : ∃ z, z = r := ⟨_, rfl⟩
    have hG := hG.trans (lt_eq hru9.symm)
    have bx_973 := hw.1
    have dx_973 := bz_tb bx_973
    refine lv_if_eq (tgt := 21) hx hb dX3_isToldName_12 (by decide) (fun c_974 => ?_) (fun c_974 => ?_)
    · skip
      have hG := hG.trans (if_pos c_974)
      have gc_974 := ti_eq c_974 rfl kc_0
      refine lv_aload_n hx hb dX3_isToldName_21 rfl (lv_at hl 0 rfl) ?_
      have hFc := va_freeI hD hS hA
      refine va_calli (va_runV (As := []) (rest := []) ⟨hx, hb, hml, hown, hts⟩ (tX3_toldNode l dC dI _ oR iR_faultNumber iR_faultPlace iR_tapeSize rR_tape iR_end iR_tokenKind iR_tokenFrom iR_tokenTo iR_tokenName iR_tokenKey iR_tokenWhole oC iR_courtTold rR_names fR_names kR_names rR_keys iC_nodes iC_words iC_chances iC_unsures iC_slips iC_throneNode iC_saidWorth iC_unit rC_kind rC_parts rC_partNodes rC_weights rC_weightSums rC_toldWorths rC_steps rC_below rC_above rC_unsureWords rC_unsureWorths b_iR_tapeSize b_iR_courtTold b_iC_nodes b_iC_unsures b_iC_throneNode) (cwV 0 hts (wd_V wd_283 wd_284 wd_285 wd_15 (wd_c wd_286)) rfl rfl rfl dv_yX3_toldNode_0 ⟨Nat.le_of_ble_eq_true rfl, Nat.le_of_ble_eq_true rfl⟩) ⟨Pw.fb, recvX3 hK hP (q0 := 0) rfl, fun U hU hW => Pw.to hP hD hK hE hS hFc hU hW⟩ rfl rfl hl.1 rfl (lv_room (Nat.le_of_ble_eq_true rfl)) dX3_isToldName_22 ⟨Nat.le_of_ble_eq_true rfl, Nat.le_of_ble_eq_true rfl⟩) hS (fun q _ h => hFc q h) hFc (fun r u t H locs ht hvm hw hB hz1 hk1 hS => ?_)
      have hru9 := hw.2
      have hw := hw.1
      obtain ⟨hP, hD⟩ := Bw.goA (ws' := [(oc3 oR iR_faultNumber iR_faultPlace iR_tapeSize rR_tape iR_end iR_tokenKind iR_tokenFrom iR_tokenTo iR_tokenName iR_tokenKey iR_tokenWhole oC iR_courtTold rR_names rR_keys), (arL rR_names kR_names 18 fR_names), (oc1 oC iC_nodes iC_words iC_chances iC_unsures iC_slips iC_throneNode iC_saidWorth iC_unit rC_kind rC_parts rC_partNodes rC_weights rC_weightSums rC_toldWorths rC_steps rC_below rC_above rC_unsureWords rC_unsureWorths)]) hB rfl ht hFc rfl
      clear hz1 hk1 hvm ht hB
      obtain ⟨x_975, rfl⟩ : ∃ z, z = r := ⟨_, rfl⟩
      have hG := hG.trans (lt_eq hru9.symm)
      have ux_975 := hw.2
      refine lv_if_ge (tgt := 36) hx hb dX3_isToldName_25 (by decide) (fun c_976 => ?_) (fun c_976 => ?_)
      · skip
        have hG := hG.trans (if_pos c_976)
        have gc_976 := ti_le c_976 kc_0 rfl
        refine lv_iconst (v := 1) hx hb dX3_isToldName_36 (by decide) ?_
        refine lv_goto (tgt := 41) hx hb dX3_isToldName_37 (by decide) ?_
        exact wq_z (v := 1) hx hb hr rfl (cI 1) ⟨⟨Or.inr rfl, trivial⟩, (cI_of 1)⟩ (fun t ht hW => ⟨iR_faultNumber, iR_faultPlace, (cI_tup hG), Bw.to hP hD hK ht hW⟩) hS dX3_isToldName_41 hlocks
      · skip
        have hG := hG.trans (if_neg c_976)
        have gc_976 := ti_nle c_976 kc_0 rfl
        refine lv_aload_n hx hb dX3_isToldName_28 rfl (lv_at hl 0 rfl) ?_
        refine lv_iconst (v := 2) hx hb dX3_isToldName_29 (by decide) ?_
        have hMs := ml_of hD [true, false, false] (wc := [(oc3 oR iR_faultNumber iR_faultPlace iR_tapeSize rR_tape iR_end iR_tokenKind iR_tokenFrom iR_tokenTo iR_tokenName iR_tokenKey iR_tokenWhole oC iR_courtTold rR_names rR_keys)]) rfl
        have hFc := va_freeM hD hS hA _ hMs
        refine va_calli (va_runV (As := [.int 2]) (rest := []) ⟨hx, hb, hml, hown, hts⟩ (tX3_faulty l dC dI _ oR iR_faultNumber iR_faultPlace iR_tapeSize rR_tape iR_end iR_tokenKind iR_tokenFrom iR_tokenTo iR_tokenName iR_tokenKey iR_tokenWhole oC iR_courtTold rR_names rR_keys 2 b_iR_tapeSize b_iR_courtTold) (cwV 1 hts (wd_V wd_254 wd_255 wd_256 wd_15 (wd_c wd_257)) rfl rfl rfl dv_yX3_faulty_1 ⟨Nat.le_of_ble_eq_true rfl, Nat.le_of_ble_eq_true rfl⟩) ⟨Pw.fb, recvX3 hK hP (q0 := 0) rfl, fun U hU hW => Pw.to (hP.ms _ hMs) (hD.ms _ hMs) (hK.ms [false] rfl) hE hS hFc hU hW⟩ rfl rfl hl.1 rfl (lv_room (Nat.le_of_ble_eq_true rfl)) dX3_isToldName_30 ⟨Nat.le_of_ble_eq_true rfl, Nat.le_of_ble_eq_true rfl⟩) hS (fun q _ h => hFc q h) hFc (fun r u t H locs ht hvm hw hB hz1 hk1 hS => ?_)
        have hru9 := hw.2
        have hw := hw.1
        refine ex_2_1 hB (fun x_977 x_978 e_x_977_0 hB => ?_)
        obtain ⟨hP, hD⟩ := Bw.goN (ws' := [(oc3 oR x_977 x_978 iR_tapeSize rR_tape iR_end iR_tokenKind iR_tokenFrom iR_tokenTo iR_tokenName iR_tokenKey iR_tokenWhole oC iR_courtTold rR_names rR_keys), (arL rR_names kR_names 18 fR_names), (oc1 oC iC_nodes iC_words iC_chances iC_unsures iC_slips iC_throneNode iC_saidWorth iC_unit rC_kind rC_parts rC_partNodes rC_weights rC_weightSums rC_toldWorths rC_steps rC_below rC_above rC_unsureWords rC_unsureWorths)]) hB rfl ht hP hD _ hMs hk1 hFc rfl
        clear hz1 hk1 hvm ht hB hMs
        rw [← hru9] at e_x_977_0
        rcases hw.2 with ⟨rfl, hc_979⟩
        · skip
          have hG := hG.trans (un3_eq e_x_977_0)
          refine lv_if_eq (tgt := 40) hx hb dX3_isToldName_33 (by decide) (fun _ => ?_) (fun c => absurd c (by decide))
          refine lv_iconst (v := 0) hx hb dX3_isToldName_40 (by decide) ?_
          exact wq_z (v := 0) hx hb hr rfl (cI 0) ⟨⟨Or.inl rfl, trivial⟩, (cI_of 0)⟩ (fun t ht hW => ⟨x_977, x_978, (cI_tup hG), Bw.to hP hD hK ht hW⟩) hS dX3_isToldName_41 hlocks
    · skip
      have hG := hG.trans (if_neg c_974)
      have gc_974 := ti_ne c_974 rfl kc_0
      refine lv_aload_n hx hb dX3_isToldName_15 rfl (lv_at hl 0 rfl) ?_
      refine lv_iconst (v := 1) hx hb dX3_isToldName_16 (by decide) ?_
      have hMs := ml_of hD [true, false, false] (wc := [(oc3 oR iR_faultNumber iR_faultPlace iR_tapeSize rR_tape iR_end iR_tokenKind iR_tokenFrom iR_tokenTo iR_tokenName iR_tokenKey iR_tokenWhole oC iR_courtTold rR_names rR_keys)]) rfl
      have hFc := va_freeM hD hS hA _ hMs
      refine va_calli (va_runV (As := [.int 1]) (rest := []) ⟨hx, hb, hml, hown, hts⟩ (tX3_faulty l dC dI _ oR iR_faultNumber iR_faultPlace iR_tapeSize rR_tape iR_end iR_tokenKind iR_tokenFrom iR_tokenTo iR_tokenName iR_tokenKey iR_tokenWhole oC iR_courtTold rR_names rR_keys 1 b_iR_tapeSize b_iR_courtTold) (cwV 1 hts (wd_V wd_254 wd_255 wd_256 wd_15 (wd_c wd_257)) rfl rfl rfl dv_yX3_faulty_1 ⟨Nat.le_of_ble_eq_true rfl, Nat.le_of_ble_eq_true rfl⟩) ⟨Pw.fb, recvX3 hK hP (q0 := 0) rfl, fun U hU hW => Pw.to (hP.ms _ hMs) (hD.ms _ hMs) (hK.ms [false] rfl) hE hS hFc hU hW⟩ rfl rfl hl.1 rfl (lv_room (Nat.le_of_ble_eq_true rfl)) dX3_isToldName_17 ⟨Nat.le_of_ble_eq_true rfl, Nat.le_of_ble_eq_true rfl⟩) hS (fun q _ h => hFc q h) hFc (fun r u t H locs ht hvm hw hB hz1 hk1 hS => ?_)
      have hru9 := hw.2
      have hw := hw.1
      refine ex_2_1 hB (fun x_982 x_983 e_x_982_0 hB => ?_)
      obtain ⟨hP, hD⟩ := Bw.goN (ws' := [(oc3 oR x_982 x_983 iR_tapeSize rR_tape iR_end iR_tokenKind iR_tokenFrom iR_tokenTo iR_tokenName iR_tokenKey iR_tokenWhole oC iR_courtTold rR_names rR_keys), (arL rR_names kR_names 18 fR_names), (oc1 oC iC_nodes iC_words iC_chances iC_unsures iC_slips iC_throneNode iC_saidWorth iC_unit rC_kind rC_parts rC_partNodes rC_weights rC_weightSums rC_toldWorths rC_steps rC_below rC_above rC_unsureWords rC_unsureWorths)]) hB rfl ht hP hD _ hMs hk1 hFc rfl
      clear hz1 hk1 hvm ht hB hMs
      rw [← hru9] at e_x_982_0
      rcases hw.2 with ⟨rfl, hc_984⟩
      · skip
        have hG := hG.trans (un3_eq e_x_982_0)
        exact wq_z (v := 0) hx hb hr rfl (cI 0) ⟨⟨Or.inl rfl, trivial⟩, (cI_of 0)⟩ (fun t ht hW => ⟨x_982, x_983, (cI_tup hG), Bw.to hP hD hK ht hW⟩) hS dX3_isToldName_20 hlocks
set_option maxHeartbeats 4000000 in
set_option maxRecDepth 100000 in
theorem tX3_takeLetters (l : Launch) (dC : Nat → ClassId) (dI : Nat → Nat → Nat) (sz : Nat) (oR : Nat) (iR_faultNumber : Int32) (iR_faultPlace : Int32) (iR_tapeSize : Int32) (rR_tape : Nat) (fR_tape : Nat → Int32) (kR_tape : ClassId) (iR_end : Int32) (iR_tokenKind : Int32) (iR_tokenFrom : Int32) (iR_tokenTo : Int32) (iR_tokenName : Int64) (iR_tokenKey : Int32) (iR_tokenWhole : Int32) (oC : Nat) (iR_courtTold : Int32) (rR_names : Nat) (rR_keys : Nat) (fR_keys : Nat → Int64) (kR_keys : ClassId) (b_iR_tapeSize : 0 ≤ iR_tapeSize.toInt ∧ iR_tapeSize.toInt ≤ 900) (b_iR_courtTold : 0 ≤ iR_courtTold.toInt ∧ iR_courtTold.toInt ≤ 1)  : Met l yX3_takeLetters (Cond.code yX3_takeLetters cX3_takeLetters 3 none :: wG) ({ frames := 1, cells := 0, slots := 0, locals := 22 }) (va_Pc [.ref oR] (Pw dC dI sz [(oc3 oR iR_faultNumber iR_faultPlace iR_tapeSize rR_tape iR_end iR_tokenKind iR_tokenFrom iR_tokenTo iR_tokenName iR_tokenKey iR_tokenWhole oC iR_courtTold rR_names rR_keys), (arI rR_tape kR_tape 900 fR_tape), (arL rR_keys kR_keys 10 fR_keys)] [(kR_tape, .byte), (kR_keys, .long)])) (va_Qv (fun (_ : Nat) => True) (fun (_ : Nat) (t : State) => ∃ (niR_tokenKind : Int32) (niR_tokenTo : Int32) (niR_tokenName : Int64) (niR_tokenKey : Int32), (1 ≤ niR_tokenKind.toInt ∧ niR_tokenKind.toInt ≤ 5) ∧ (PX3_takeLetters fR_tape iR_end iR_tokenFrom iR_tokenKey fR_keys = (niR_tokenKind, niR_tokenTo, niR_tokenName, niR_tokenKey)) ∧ Bw dC dI (va_A [(oc3 oR iR_faultNumber iR_faultPlace iR_tapeSize rR_tape iR_end iR_tokenKind iR_tokenFrom iR_tokenTo iR_tokenName iR_tokenKey iR_tokenWhole oC iR_courtTold rR_names rR_keys), (arI rR_tape kR_tape 900 fR_tape), (arL rR_keys kR_keys 10 fR_keys)] sz) [(oc3 oR iR_faultNumber iR_faultPlace iR_tapeSize rR_tape iR_end niR_tokenKind iR_tokenFrom niR_tokenTo niR_tokenName niR_tokenKey iR_tokenWhole oC iR_courtTold rR_names rR_keys), (arI rR_tape kR_tape 900 fR_tape), (arL rR_keys kR_keys 10 fR_keys)] [(kR_tape, .byte), (kR_keys, .long)] t) (va_A [(oc3 oR iR_faultNumber iR_faultPlace iR_tapeSize rR_tape iR_end iR_tokenKind iR_tokenFrom iR_tokenTo iR_tokenName iR_tokenKey iR_tokenWhole oC iR_courtTold rR_names rR_keys), (arI rR_tape kR_tape 900 fR_tape), (arL rR_keys kR_keys 10 fR_keys)] sz)) 0 0 (va_A [(oc3 oR iR_faultNumber iR_faultPlace iR_tapeSize rR_tape iR_end iR_tokenKind iR_tokenFrom iR_tokenTo iR_tokenName iR_tokenKey iR_tokenWhole oC iR_courtTold rR_names rR_keys), (arI rR_tape kR_tape 900 fR_tape), (arL rR_keys kR_keys 10 fR_keys)] sz) := by
  refine Met.ofW (cc := cX3_takeLetters) (maxL := 3) (ret := none) pnX3 rfl ?_
  intro p e s m args below meth c s₁ B hml hv
  obtain ⟨rfl, hsz, hP, hK, hD0, hE⟩ := hv
  have hx := B.exec
  have hb := B.bytes
  have hr := B.returns
  have hts : ∀ w ∈ wG, w.before ([.ref oR] : List Value).toArray s = true := fun w h => atoms_spec (ws := Cond.code yX3_takeLetters cX3_takeLetters 3 none :: wG) B.pre w (List.mem_cons_of_mem _ h)
  have hown : s.vm.findClass RX3 = some m.cls := own_of B.named rfl
  have hlocks := B.notSynchronized
  subst hsz
  have hD := hD0.self (sz := s.heap.size)
  generalize hAe : va_A [(oc3 oR iR_faultNumber iR_faultPlace iR_tapeSize rR_tape iR_end iR_tokenKind iR_tokenFrom iR_tokenTo iR_tokenName iR_tokenKey iR_tokenWhole oC iR_courtTold rR_names rR_keys), (arI rR_tape kR_tape 900 fR_tape), (arL rR_keys kR_keys 10 fR_keys)] s.heap.size = A at hD hE ⊢
  have hA : ∀ q : Nat, s.heap.size ≤ q → A q := fun q h => by rw [← hAe]; exact Or.inr h
  have hS : va_S A s.heap s.heap [] := va_S.rf
  have hl := lv_entry ([.ref oR]) (n := 3) (Nat.le_of_ble_eq_true rfl)
  rw [lg_entry_eq]
  generalize (lg_sl ([.ref oR]) ++ List.replicate (3 - (lg_sl ([.ref oR])).length) Slot.unset).toArray = ls at hl ⊢
  have hl : lv_has ls 3 [(0, .ref oR)] := hl
  have hG := PX3_takeLetters_eq fR_tape iR_end iR_tokenFrom iR_tokenKey fR_keys
  refine lv_aload_n hx hb dX3_takeLetters_0 rfl (lv_at hl 0 rfl) ?_
  refine va_get (D := (dC, dI)) (ci := 3) (v := .int iR_tokenFrom) (C := RX3) (T := TX3) (N := 15) hx hb hts inX3 hown hK hP 0 rfl rfl 6 (by decide) (hts _ wd_224) (fun _ h9 => h9) rfl dX3_takeLetters_1 ?_
  have rg_iR_tokenFrom := fb_rng iR_tokenFrom
  refine lv_istore_n (lv' := [(1, .int iR_tokenFrom), (0, .ref oR)]) hx hb dX3_takeLetters_4 rfl hl (by decide) rfl (fun ls hl => ?_)
  refine lv_aload_n hx hb dX3_takeLetters_5 rfl (lv_at hl 1 rfl) ?_
  refine lv_lconst (v := 0) hx hb dX3_takeLetters_6 (by decide) ?_
  refine va_put (D := (dC, dI)) (ci := 3) (v := .long 0) (ty := .long) (C := RX3) (T := TX3) (N := 15) hx hb hts inX3 tyX3 tyX3_ok nmX3 hown hK hP hD hS 0 rfl rfl 8 (by decide) (hts _ wd_237) (fun _ h9 => h9) rfl (by decide +kernel) rfl rfl (Nat.le_of_ble_eq_true rfl) dX3_takeLetters_7 (fun H locs hP hD hS => ?_)
  obtain ⟨hP, hD⟩ := wl2 (ws' := [(oc3 oR iR_faultNumber iR_faultPlace iR_tapeSize rR_tape iR_end iR_tokenKind iR_tokenFrom iR_tokenTo 0 iR_tokenKey iR_tokenWhole oC iR_courtTold rR_names rR_keys), (arI rR_tape kR_tape 900 fR_tape), (arL rR_keys kR_keys 10 fR_keys)]) hP hD rfl
  have hl := lv_sub hl (l' := [(1, .int iR_tokenFrom), (0, .ref oR)]) [0, 1] rfl
  have key_n_1093 : ∀ (n_1093 : Nat) (z_1091 : Int32) (z_1092 : Int64) (H : Heap) (locs : List Loc) (ls : Array Slot), ((-2147483648) ≤ z_1091.toInt ∧ z_1091.toInt ≤ 2147483647) → (2147483647 - z_1091.toInt).toNat < n_1093 → (PX3_takeLetters fR_tape iR_end iR_tokenFrom iR_tokenKey fR_keys = HX3_takeLetters_0 fR_tape iR_end iR_tokenFrom iR_tokenKey fR_keys n_1093 z_1091 z_1092) → va_P (dC, dI) vwCl [(oc3 oR iR_faultNumber iR_faultPlace iR_tapeSize rR_tape iR_end iR_tokenKind iR_tokenFrom iR_tokenTo z_1092 iR_tokenKey iR_tokenWhole oC iR_courtTold rR_names rR_keys), (arI rR_tape kR_tape 900 fR_tape), (arL rR_keys kR_keys 10 fR_keys)] H → va_D A [(oc3 oR iR_faultNumber iR_faultPlace iR_tapeSize rR_tape iR_end iR_tokenKind iR_tokenFrom iR_tokenTo z_1092 iR_tokenKey iR_tokenWhole oC iR_courtTold rR_names rR_keys), (arI rR_tape kR_tape 900 fR_tape), (arL rR_keys kR_keys 10 fR_keys)] → va_S A s.heap H locs → lv_has ls 3 [(1, .int z_1091), (0, .ref oR)] → W p l e (headSpec (Cond.code yX3_takeLetters cX3_takeLetters 3 none :: wG) ({ frames := 1, cells := 0, slots := 0, locals := 22 })).room s m ([.ref oR] : List Value).toArray below meth c H locs 0 0 (MQ below (va_Qv (fun (_ : Nat) => True) (fun (_ : Nat) (t : State) => ∃ (niR_tokenKind : Int32) (niR_tokenTo : Int32) (niR_tokenName : Int64) (niR_tokenKey : Int32), (1 ≤ niR_tokenKind.toInt ∧ niR_tokenKind.toInt ≤ 5) ∧ (PX3_takeLetters fR_tape iR_end iR_tokenFrom iR_tokenKey fR_keys = (niR_tokenKind, niR_tokenTo, niR_tokenName, niR_tokenKey)) ∧ Bw dC dI A [(oc3 oR iR_faultNumber iR_faultPlace iR_tapeSize rR_tape iR_end niR_tokenKind iR_tokenFrom niR_tokenTo niR_tokenName niR_tokenKey iR_tokenWhole oC iR_courtTold rR_names rR_keys), (arI rR_tape kR_tape 900 fR_tape), (arL rR_keys kR_keys 10 fR_keys)] [(kR_tape, .byte), (kR_keys, .long)] t) A) ([.ref oR] : List Value).toArray s 0 0 A) (F0 m 10 ls []) := by
    intro n_1093
    induction n_1093 with
    | zero => intro z_1091 z_1092 H locs ls hi0_n_1093 hm; exact absurd hm (Nat.not_lt_zero _)
    | succ n_1093 ih_n_1093 =>
      intro z_1091 z_1092 H locs ls hi0_n_1093 hm_n_1093 hG hP hD hS hl
      have hG := hG.trans (HX3_takeLetters_0_eq _ _ _ _ _ _ _ _)
      have rg_z_1091 := fb_rng z_1091
      refine lv_iload_n hx hb dX3_takeLetters_10 rfl (lv_at hl 0 rfl) ?_
      refine lv_aload_n hx hb dX3_takeLetters_11 rfl (lv_at hl 1 rfl) ?_
      refine va_get (D := (dC, dI)) (ci := 3) (v := .int iR_end) (C := RX3) (T := TX3) (N := 15) hx hb hts inX3 hown hK hP 0 rfl rfl 4 (by decide) (hts _ wd_205) (fun _ h9 => h9) rfl dX3_takeLetters_12 ?_
      have rg_iR_end := fb_rng iR_end
      refine lv_icmp_ge (tgt := 51) hx hb dX3_takeLetters_15 (by decide) (fun c_1094 => ?_) (fun c_1094 => ?_)
      · skip
        have hG := hG.trans (if_pos c_1094)
        have gc_1094 := ti_le c_1094 rfl rfl
        refine lv_aload_n hx hb dX3_takeLetters_51 rfl (lv_at hl 1 rfl) ?_
        refine lv_iload_n hx hb dX3_takeLetters_52 rfl (lv_at hl 0 rfl) ?_
        refine va_put (D := (dC, dI)) (ci := 3) (v := .int z_1091) (ty := .int) (C := RX3) (T := TX3) (N := 15) hx hb hts inX3 tyX3 tyX3_ok nmX3 hown hK hP hD hS 0 rfl rfl 7 (by decide) (hts _ wd_209) (fun _ h9 => h9) rfl (by decide +kernel) rfl rfl (Nat.le_of_ble_eq_true rfl) dX3_takeLetters_53 (fun H locs hP hD hS => ?_)
        obtain ⟨hP, hD⟩ := wl2 (ws' := [(oc3 oR iR_faultNumber iR_faultPlace iR_tapeSize rR_tape iR_end iR_tokenKind iR_tokenFrom z_1091 z_1092 iR_tokenKey iR_tokenWhole oC iR_courtTold rR_names rR_keys), (arI rR_tape kR_tape 900 fR_tape), (arL rR_keys kR_keys 10 fR_keys)]) hP hD rfl
        refine lv_aload_n hx hb dX3_takeLetters_56 rfl (lv_at hl 1 rfl) ?_
        refine lv_iload_n hx hb dX3_takeLetters_57 rfl (lv_at hl 0 rfl) ?_
        refine lv_aload_n hx hb dX3_takeLetters_58 rfl (lv_at hl 1 rfl) ?_
        refine va_get (D := (dC, dI)) (ci := 3) (v := .int iR_tokenFrom) (C := RX3) (T := TX3) (N := 15) hx hb hts inX3 hown hK hP 0 rfl rfl 6 (by decide) (hts _ wd_224) (fun _ h9 => h9) rfl dX3_takeLetters_59 ?_
        refine lv_isub hx hb dX3_takeLetters_62 ?_
        refine lv_topi (fun x_1095 ex_1095 => ?_)
        have hG := hG.trans (lt_eq ex_1095)
        have rg_x_1095 := fb_rng x_1095
        refine lv_bipush (v := 8) hx hb dX3_takeLetters_63 (by decide) ?_
        refine lv_icmp_gt (tgt := 72) hx hb dX3_takeLetters_65 (by decide) (fun c_1096 => ?_) (fun c_1096 => ?_)
        · skip
          have hG := hG.trans (if_pos c_1096)
          have gc_1096 := ti_lt c_1096 kc_8 rfl
          refine lv_iconst (v := 5) hx hb dX3_takeLetters_72 (by decide) ?_
          refine va_put (D := (dC, dI)) (ci := 3) (v := .int 5) (ty := .int) (C := RX3) (T := TX3) (N := 15) hx hb hts inX3 tyX3 tyX3_ok nmX3 hown hK hP hD hS 0 rfl rfl 5 (by decide) (hts _ wd_210) (fun _ h9 => h9) rfl (by decide +kernel) rfl rfl (Nat.le_of_ble_eq_true rfl) dX3_takeLetters_73 (fun H locs hP hD hS => ?_)
          obtain ⟨hP, hD⟩ := wl2 (ws' := [(oc3 oR iR_faultNumber iR_faultPlace iR_tapeSize rR_tape iR_end 5 iR_tokenFrom z_1091 z_1092 iR_tokenKey iR_tokenWhole oC iR_courtTold rR_names rR_keys), (arI rR_tape kR_tape 900 fR_tape), (arL rR_keys kR_keys 10 fR_keys)]) hP hD rfl
          refine lv_iconst (v := 0) hx hb dX3_takeLetters_76 (by decide) ?_
          refine lv_istore_n (lv' := [(2, .int 0), (1, .int z_1091), (0, .ref oR)]) hx hb dX3_takeLetters_77 rfl hl (by decide) rfl (fun ls hl => ?_)
          have hl := lv_sub hl (l' := [(2, .int 0), (1, .int z_1091), (0, .ref oR)]) [0, 1, 2] rfl
          have key_n_1099 : ∀ (n_1099 : Nat) (z_1097 : Int32) (z_1098 : Int32) (H : Heap) (locs : List Loc) (ls : Array Slot), (0 ≤ z_1097.toInt ∧ z_1097.toInt ≤ 2147483647) → (2147483647 - z_1097.toInt).toNat < n_1099 → (PX3_takeLetters fR_tape iR_end iR_tokenFrom iR_tokenKey fR_keys = HX3_takeLetters_1 z_1091 z_1092 n_1099 z_1097 z_1098) → va_P (dC, dI) vwCl [(oc3 oR iR_faultNumber iR_faultPlace iR_tapeSize rR_tape iR_end 5 iR_tokenFrom z_1091 z_1092 z_1098 iR_tokenWhole oC iR_courtTold rR_names rR_keys), (arI rR_tape kR_tape 900 fR_tape), (arL rR_keys kR_keys 10 fR_keys)] H → va_D A [(oc3 oR iR_faultNumber iR_faultPlace iR_tapeSize rR_tape iR_end 5 iR_tokenFrom z_1091 z_1092 z_1098 iR_tokenWhole oC iR_courtTold rR_names rR_keys), (arI rR_tape kR_tape 900 fR_tape), (arL rR_keys kR_keys 10 fR_keys)] → va_S A s.heap H locs → lv_has ls 3 [(2, .int z_1097), (1, .int z_1091), (0, .ref oR)] → W p l e (headSpec (Cond.code yX3_takeLetters cX3_takeLetters 3 none :: wG) ({ frames := 1, cells := 0, slots := 0, locals := 22 })).room s m ([.ref oR] : List Value).toArray below meth c H locs 0 0 (MQ below (va_Qv (fun (_ : Nat) => True) (fun (_ : Nat) (t : State) => ∃ (niR_tokenKind : Int32) (niR_tokenTo : Int32) (niR_tokenName : Int64) (niR_tokenKey : Int32), (1 ≤ niR_tokenKind.toInt ∧ niR_tokenKind.toInt ≤ 5) ∧ (PX3_takeLetters fR_tape iR_end iR_tokenFrom iR_tokenKey fR_keys = (niR_tokenKind, niR_tokenTo, niR_tokenName, niR_tokenKey)) ∧ Bw dC dI A [(oc3 oR iR_faultNumber iR_faultPlace iR_tapeSize rR_tape iR_end niR_tokenKind iR_tokenFrom niR_tokenTo niR_tokenName niR_tokenKey iR_tokenWhole oC iR_courtTold rR_names rR_keys), (arI rR_tape kR_tape 900 fR_tape), (arL rR_keys kR_keys 10 fR_keys)] [(kR_tape, .byte), (kR_keys, .long)] t) A) ([.ref oR] : List Value).toArray s 0 0 A) (F0 m 78 ls []) := by
            intro n_1099
            induction n_1099 with
            | zero => intro z_1097 z_1098 H locs ls hi0_n_1099 hm; exact absurd hm (Nat.not_lt_zero _)
            | succ n_1099 ih_n_1099 =>
              intro z_1097 z_1098 H locs ls hi0_n_1099 hm_n_1099 hG hP hD hS hl
              have hG := hG.trans (HX3_takeLetters_1_eq _ _ _ _ _)
              have rg_z_1097 := fb_rng z_1097
              have rg_z_1098 := fb_rng z_1098
              refine lv_iload_n hx hb dX3_takeLetters_78 rfl (lv_at hl 0 rfl) ?_
              refine lv_bipush (v := 10) hx hb dX3_takeLetters_79 (by decide) ?_
              refine lv_icmp_ge (tgt := 117) hx hb dX3_takeLetters_81 (by decide) (fun c_1100 => ?_) (fun c_1100 => ?_)
              · skip
                have hG := hG.trans (if_pos c_1100)
                have gc_1100 := ti_le c_1100 kc_10 rfl
                exact wq_v hx hb hr 0 trivial (fun t ht hW => ⟨5, z_1091, z_1092, z_1098, (by decide), hG, Bw.to hP hD hK ht hW⟩) hS dX3_takeLetters_117 hlocks
              · skip
                have hG := hG.trans (if_neg c_1100)
                have gc_1100 := ti_nle c_1100 kc_10 rfl
                refine lv_aload_n hx hb dX3_takeLetters_84 rfl (lv_at hl 2 rfl) ?_
                refine va_get (D := (dC, dI)) (ci := 3) (v := .int 5) (C := RX3) (T := TX3) (N := 15) hx hb hts inX3 hown hK hP 0 rfl rfl 5 (by decide) (hts _ wd_210) (fun _ h9 => h9) rfl dX3_takeLetters_85 ?_
                refine lv_iconst (v := 1) hx hb dX3_takeLetters_88 (by decide) ?_
                refine lv_icmp_ne (tgt := 117) hx hb dX3_takeLetters_89 (by decide) (fun _ => ?_) (fun c => absurd c (by decide))
                exact wq_v hx hb hr 0 trivial (fun t ht hW => ⟨5, z_1091, z_1092, z_1098, (by decide), hG, Bw.to hP hD hK ht hW⟩) hS dX3_takeLetters_117 hlocks
          exact key_n_1099 (((2147483647 - (0 : Int32).toInt).toNat) + 1) 0 iR_tokenKey _ _ _  ⟨(om_b1de7dbe kc_0), (om_daf17c64 kc_0)⟩ (Nat.lt_add_one _) hG hP hD hS hl
        · skip
          have hG := hG.trans (if_neg c_1096)
          have gc_1096 := ti_nlt c_1096 kc_8 rfl
          refine lv_iconst (v := 1) hx hb dX3_takeLetters_68 (by decide) ?_
          refine lv_goto (tgt := 73) hx hb dX3_takeLetters_69 (by decide) ?_
          refine va_put (D := (dC, dI)) (ci := 3) (v := .int 1) (ty := .int) (C := RX3) (T := TX3) (N := 15) hx hb hts inX3 tyX3 tyX3_ok nmX3 hown hK hP hD hS 0 rfl rfl 5 (by decide) (hts _ wd_210) (fun _ h9 => h9) rfl (by decide +kernel) rfl rfl (Nat.le_of_ble_eq_true rfl) dX3_takeLetters_73 (fun H locs hP hD hS => ?_)
          obtain ⟨hP, hD⟩ := wl2 (ws' := [(oc3 oR iR_faultNumber iR_faultPlace iR_tapeSize rR_tape iR_end 1 iR_tokenFrom z_1091 z_1092 iR_tokenKey iR_tokenWhole oC iR_courtTold rR_names rR_keys), (arI rR_tape kR_tape 900 fR_tape), (arL rR_keys kR_keys 10 fR_keys)]) hP hD rfl
          refine lv_iconst (v := 0) hx hb dX3_takeLetters_76 (by decide) ?_
          refine lv_istore_n (lv' := [(2, .int 0), (1, .int z_1091), (0, .ref oR)]) hx hb dX3_takeLetters_77 rfl hl (by decide) rfl (fun ls hl => ?_)
          have hl := lv_sub hl (l' := [(2, .int 0), (1, .int z_1091), (0, .ref oR)]) [0, 1, 2] rfl
          have key_n_1104 : ∀ (n_1104 : Nat) (z_1102 : Int32) (z_1103 : Int32) (H : Heap) (locs : List Loc) (ls : Array Slot), (0 ≤ z_1102.toInt ∧ z_1102.toInt ≤ 2147483647) → (2147483647 - z_1102.toInt).toNat < n_1104 → (PX3_takeLetters fR_tape iR_end iR_tokenFrom iR_tokenKey fR_keys = HX3_takeLetters_2 fR_keys z_1091 z_1092 n_1104 z_1102 z_1103) → va_P (dC, dI) vwCl [(oc3 oR iR_faultNumber iR_faultPlace iR_tapeSize rR_tape iR_end 1 iR_tokenFrom z_1091 z_1092 z_1103 iR_tokenWhole oC iR_courtTold rR_names rR_keys), (arI rR_tape kR_tape 900 fR_tape), (arL rR_keys kR_keys 10 fR_keys)] H → va_D A [(oc3 oR iR_faultNumber iR_faultPlace iR_tapeSize rR_tape iR_end 1 iR_tokenFrom z_1091 z_1092 z_1103 iR_tokenWhole oC iR_courtTold rR_names rR_keys), (arI rR_tape kR_tape 900 fR_tape), (arL rR_keys kR_keys 10 fR_keys)] → va_S A s.heap H locs → lv_has ls 3 [(2, .int z_1102), (1, .int z_1091), (0, .ref oR)] → W p l e (headSpec (Cond.code yX3_takeLetters cX3_takeLetters 3 none :: wG) ({ frames := 1, cells := 0, slots := 0, locals := 22 })).room s m ([.ref oR] : List Value).toArray below meth c H locs 0 0 (MQ below (va_Qv (fun (_ : Nat) => True) (fun (_ : Nat) (t : State) => ∃ (niR_tokenKind : Int32) (niR_tokenTo : Int32) (niR_tokenName : Int64) (niR_tokenKey : Int32), (1 ≤ niR_tokenKind.toInt ∧ niR_tokenKind.toInt ≤ 5) ∧ (PX3_takeLetters fR_tape iR_end iR_tokenFrom iR_tokenKey fR_keys = (niR_tokenKind, niR_tokenTo, niR_tokenName, niR_tokenKey)) ∧ Bw dC dI A [(oc3 oR iR_faultNumber iR_faultPlace iR_tapeSize rR_tape iR_end niR_tokenKind iR_tokenFrom niR_tokenTo niR_tokenName niR_tokenKey iR_tokenWhole oC iR_courtTold rR_names rR_keys), (arI rR_tape kR_tape 900 fR_tape), (arL rR_keys kR_keys 10 fR_keys)] [(kR_tape, .byte), (kR_keys, .long)] t) A) ([.ref oR] : List Value).toArray s 0 0 A) (F0 m 78 ls []) := by
            intro n_1104
            induction n_1104 with
            | zero => intro z_1102 z_1103 H locs ls hi0_n_1104 hm; exact absurd hm (Nat.not_lt_zero _)
            | succ n_1104 ih_n_1104 =>
              intro z_1102 z_1103 H locs ls hi0_n_1104 hm_n_1104 hG hP hD hS hl
              have hG := hG.trans (HX3_takeLetters_2_eq _ _ _ _ _ _)
              have rg_z_1102 := fb_rng z_1102
              have rg_z_1103 := fb_rng z_1103
              refine lv_iload_n hx hb dX3_takeLetters_78 rfl (lv_at hl 0 rfl) ?_
              refine lv_bipush (v := 10) hx hb dX3_takeLetters_79 (by decide) ?_
              refine lv_icmp_ge (tgt := 117) hx hb dX3_takeLetters_81 (by decide) (fun c_1105 => ?_) (fun c_1105 => ?_)
              · skip
                have hG := hG.trans (if_pos c_1105)
                have gc_1105 := ti_le c_1105 kc_10 rfl
                exact wq_v hx hb hr 0 trivial (fun t ht hW => ⟨1, z_1091, z_1092, z_1103, (by decide), hG, Bw.to hP hD hK ht hW⟩) hS dX3_takeLetters_117 hlocks
              · skip
                have hG := hG.trans (if_neg c_1105)
                have gc_1105 := ti_nle c_1105 kc_10 rfl
                refine lv_aload_n hx hb dX3_takeLetters_84 rfl (lv_at hl 2 rfl) ?_
                refine va_get (D := (dC, dI)) (ci := 3) (v := .int 1) (C := RX3) (T := TX3) (N := 15) hx hb hts inX3 hown hK hP 0 rfl rfl 5 (by decide) (hts _ wd_210) (fun _ h9 => h9) rfl dX3_takeLetters_85 ?_
                refine lv_iconst (v := 1) hx hb dX3_takeLetters_88 (by decide) ?_
                refine lv_icmp_ne (tgt := 117) hx hb dX3_takeLetters_89 (by decide) (fun c => absurd c (by decide)) (fun _ => ?_)
                refine lv_aload_n hx hb dX3_takeLetters_92 rfl (lv_at hl 2 rfl) ?_
                refine va_get (D := (dC, dI)) (ci := 3) (v := .ref rR_keys) (C := RX3) (T := TX3) (N := 15) hx hb hts inX3 hown hK hP 0 rfl rfl 14 (by decide) (hts _ wd_48) (fun _ h9 => h9) rfl dX3_takeLetters_93 ?_
                refine lv_iload_n hx hb dX3_takeLetters_96 rfl (lv_at hl 0 rfl) ?_
                refine va_lald hx hb hK hP 2 1 rfl rfl (ti_in rfl hi0_n_1104.1 (om_f382d077 gc_1105)) dX3_takeLetters_97 ?_
                refine lv_topl (fun y_1107 ey_1107 => ?_)
                have hG := hG.trans (lt_eq ey_1107)
                refine lv_aload_n hx hb dX3_takeLetters_98 rfl (lv_at hl 2 rfl) ?_
                refine va_get (D := (dC, dI)) (ci := 3) (v := .long z_1092) (C := RX3) (T := TX3) (N := 15) hx hb hts inX3 hown hK hP 0 rfl rfl 8 (by decide) (hts _ wd_237) (fun _ h9 => h9) rfl dX3_takeLetters_99 ?_
                refine W.lcmp hx hb dX3_takeLetters_102 ?_
                refine lv_topi (fun x_1108 ex_1108 => ?_)
                have hG := hG.trans (lt_eq ex_1108)
                have rg_x_1108 := fb_rng x_1108
                refine lv_if_ne (tgt := 111) hx hb dX3_takeLetters_103 (by decide) (fun c_1109 => ?_) (fun c_1109 => ?_)
                · skip
                  have hG := hG.trans (if_neg c_1109)
                  have gc_1109 := ti_ne c_1109 rfl kc_0
                  obtain ⟨x_1110, ex_1110⟩ : ∃ z : Int32, z = z_1102 + Int32.ofInt 1 := ⟨_, rfl⟩
                  have hG := hG.trans (lt_eq ex_1110)
                  have vx_1110 : x_1110.toInt = z_1102.toInt + 1 := ti_add (y := 1) ex_1110 rfl kc_1 (om_4e4fce7e hi0_n_1104.1) (om_32850922 gc_1105)
                  refine lv_iinc (v := x_1110) (lv' := [(2, .int x_1110), (1, .int z_1091), (0, .ref oR)]) hx hb dX3_takeLetters_111 hl (k := 0) rfl ex_1110.symm (by decide) rfl (fun ls hl => ?_)
                  refine lv_goto (tgt := 78) hx hb dX3_takeLetters_114 (by decide) ?_
                  exact ih_n_1104 x_1110 z_1103 _ _ _  ⟨(om_83b90de5 hi0_n_1104.1 vx_1110), (om_facfc055 gc_1105 vx_1110)⟩ (ms_lt hm_n_1104 (om_b9393183 vx_1110) (om_10244f99 gc_1105)) hG hP hD hS (lv_sub hl [0, 1, 2] rfl)
                · skip
                  have hG := hG.trans (if_pos c_1109)
                  have gc_1109 := ti_eq c_1109 rfl kc_0
                  refine lv_aload_n hx hb dX3_takeLetters_106 rfl (lv_at hl 2 rfl) ?_
                  refine lv_iload_n hx hb dX3_takeLetters_107 rfl (lv_at hl 0 rfl) ?_
                  refine va_put (D := (dC, dI)) (ci := 3) (v := .int z_1102) (ty := .int) (C := RX3) (T := TX3) (N := 15) hx hb hts inX3 tyX3 tyX3_ok nmX3 hown hK hP hD hS 0 rfl rfl 9 (by decide) (hts _ wd_225) (fun _ h9 => h9) rfl (by decide +kernel) rfl rfl (Nat.le_of_ble_eq_true rfl) dX3_takeLetters_108 (fun H locs hP hD hS => ?_)
                  obtain ⟨hP, hD⟩ := wl2 (ws' := [(oc3 oR iR_faultNumber iR_faultPlace iR_tapeSize rR_tape iR_end 1 iR_tokenFrom z_1091 z_1092 z_1102 iR_tokenWhole oC iR_courtTold rR_names rR_keys), (arI rR_tape kR_tape 900 fR_tape), (arL rR_keys kR_keys 10 fR_keys)]) hP hD rfl
                  obtain ⟨x_1111, ex_1111⟩ : ∃ z : Int32, z = z_1102 + Int32.ofInt 1 := ⟨_, rfl⟩
                  have hG := hG.trans (lt_eq ex_1111)
                  have vx_1111 : x_1111.toInt = z_1102.toInt + 1 := ti_add (y := 1) ex_1111 rfl kc_1 (om_4e4fce7e hi0_n_1104.1) (om_32850922 gc_1105)
                  refine lv_iinc (v := x_1111) (lv' := [(2, .int x_1111), (1, .int z_1091), (0, .ref oR)]) hx hb dX3_takeLetters_111 hl (k := 0) rfl ex_1111.symm (by decide) rfl (fun ls hl => ?_)
                  refine lv_goto (tgt := 78) hx hb dX3_takeLetters_114 (by decide) ?_
                  exact ih_n_1104 x_1111 z_1102 _ _ _  ⟨(om_83b90de5 hi0_n_1104.1 vx_1111), (om_facfc055 gc_1105 vx_1111)⟩ (ms_lt hm_n_1104 (om_b9393183 vx_1111) (om_10244f99 gc_1105)) hG hP hD hS (lv_sub hl [0, 1, 2] rfl)
          exact key_n_1104 (((2147483647 - (0 : Int32).toInt).toNat) + 1) 0 iR_tokenKey _ _ _  ⟨(om_b1de7dbe kc_0), (om_daf17c64 kc_0)⟩ (Nat.lt_add_one _) hG hP hD hS hl
      · skip
        have hG := hG.trans (if_neg c_1094)
        have gc_1094 := ti_nle c_1094 rfl rfl
        refine lv_aload_n hx hb dX3_takeLetters_18 rfl (lv_at hl 1 rfl) ?_
        refine lv_iload_n hx hb dX3_takeLetters_19 rfl (lv_at hl 0 rfl) ?_
        have hMs := ml_of hD [true, true, false] (wc := [(oc3 oR iR_faultNumber iR_faultPlace iR_tapeSize rR_tape iR_end iR_tokenKind iR_tokenFrom iR_tokenTo z_1092 iR_tokenKey iR_tokenWhole oC iR_courtTold rR_names rR_keys), (arI rR_tape kR_tape 900 fR_tape)]) rfl
        have hFc := va_freeM hD hS hA _ hMs
        refine va_calli (va_runV (As := [.int z_1091]) (rest := []) ⟨hx, hb, hml, hown, hts⟩ (tX3_byteAt l dC dI _ oR iR_faultNumber iR_faultPlace iR_tapeSize rR_tape fR_tape kR_tape iR_end iR_tokenKind iR_tokenFrom iR_tokenTo z_1092 iR_tokenKey iR_tokenWhole oC iR_courtTold rR_names rR_keys z_1091 b_iR_tapeSize b_iR_courtTold) (cwV 1 hts (wd_V wd_226 wd_227 wd_228 wd_15 (wd_c wd_229)) rfl rfl rfl dv_yX3_byteAt_1 ⟨Nat.le_of_ble_eq_true rfl, Nat.le_of_ble_eq_true rfl⟩) ⟨Pw.fb, recvX3 hK hP (q0 := 0) rfl, fun U hU hW => Pw.to (hP.ms _ hMs) (hD.ms _ hMs) (hK.ms [true, false] rfl) hE hS hFc hU hW⟩ rfl rfl hl.1 rfl (lv_room (Nat.le_of_ble_eq_true rfl)) dX3_takeLetters_20 ⟨Nat.le_of_ble_eq_true rfl, Nat.le_of_ble_eq_true rfl⟩) hS (fun q _ h => hFc q h) hFc (fun r u t H locs ht hvm hw hB hz1 hk1 hS => ?_)
        have hru9 := hw.2
        have hw := hw.1
        obtain ⟨hP, hD⟩ := Bw.goN (ws' := [(oc3 oR iR_faultNumber iR_faultPlace iR_tapeSize rR_tape iR_end iR_tokenKind iR_tokenFrom iR_tokenTo z_1092 iR_tokenKey iR_tokenWhole oC iR_courtTold rR_names rR_keys), (arI rR_tape kR_tape 900 fR_tape), (arL rR_keys kR_keys 10 fR_keys)]) hB rfl ht hP hD _ hMs hk1 hFc rfl
        clear hz1 hk1 hvm ht hB hMs
        obtain ⟨x_1112, rfl⟩ : ∃ z, z = r := ⟨_, rfl⟩
        have hG := hG.trans (lt_eq hru9.symm)
        have rg_x_1112 := fb_rng x_1112
        have hFc : ∀ q, va_A [] _ q → A q := fun q h => hA q (Nat.le_trans hS.1 (va_nilA h))
        refine va_calli (va_runS (As := [.int x_1112]) (rest := []) ⟨hx, hb, hml, hown, hts⟩ (tX3_isLetter l dC dI _ x_1112 ) (va_cwS 1 hts (wd_S wd_230 wd_231 wd_15 (wd_c wd_232)) rfl rfl rfl ds_yX3_isLetter_1 ⟨Nat.le_of_ble_eq_true rfl, Nat.le_of_ble_eq_true rfl⟩) ⟨Pw.fb, fun U hU hW => Pn.to hK hE hS hA hU hW⟩ rfl rfl hl.1 rfl (lv_room (Nat.le_of_ble_eq_true rfl)) dX3_takeLetters_23 ⟨Nat.le_of_ble_eq_true rfl, Nat.le_of_ble_eq_true rfl⟩) hS (fun q _ h => hFc q h) hFc (fun r u t H locs ht hvm hw hB hz1 hk1 hS => ?_)
        obtain ⟨hP, hD, hK⟩ := Bw.same ht hvm hP hD hK hk1 hFc
        clear hz1 hk1 hvm ht hB
        have hq9 := hw.2
        have hw := hw.1
        obtain ⟨x_1113, rfl⟩ : ∃ z, z = r := ⟨_, rfl⟩
        have hq_x_1113 := hq9
        have hG := hG.trans (lt_eq hq_x_1113.symm)
        have rg_x_1113 := fb_rng x_1113
        have bx_1113 := hw.1
        have dx_1113 := bz_tb bx_1113
        refine lv_if_eq (tgt := 51) hx hb dX3_takeLetters_26 (by decide) (fun c_1114 => ?_) (fun c_1114 => ?_)
        · skip
          have hG := hG.trans (if_pos c_1114)
          have gc_1114 := ti_eq c_1114 rfl kc_0
          refine lv_aload_n hx hb dX3_takeLetters_51 rfl (lv_at hl 1 rfl) ?_
          refine lv_iload_n hx hb dX3_takeLetters_52 rfl (lv_at hl 0 rfl) ?_
          refine va_put (D := (dC, dI)) (ci := 3) (v := .int z_1091) (ty := .int) (C := RX3) (T := TX3) (N := 15) hx hb hts inX3 tyX3 tyX3_ok nmX3 hown hK hP hD hS 0 rfl rfl 7 (by decide) (hts _ wd_209) (fun _ h9 => h9) rfl (by decide +kernel) rfl rfl (Nat.le_of_ble_eq_true rfl) dX3_takeLetters_53 (fun H locs hP hD hS => ?_)
          obtain ⟨hP, hD⟩ := wl2 (ws' := [(oc3 oR iR_faultNumber iR_faultPlace iR_tapeSize rR_tape iR_end iR_tokenKind iR_tokenFrom z_1091 z_1092 iR_tokenKey iR_tokenWhole oC iR_courtTold rR_names rR_keys), (arI rR_tape kR_tape 900 fR_tape), (arL rR_keys kR_keys 10 fR_keys)]) hP hD rfl
          refine lv_aload_n hx hb dX3_takeLetters_56 rfl (lv_at hl 1 rfl) ?_
          refine lv_iload_n hx hb dX3_takeLetters_57 rfl (lv_at hl 0 rfl) ?_
          refine lv_aload_n hx hb dX3_takeLetters_58 rfl (lv_at hl 1 rfl) ?_
          refine va_get (D := (dC, dI)) (ci := 3) (v := .int iR_tokenFrom) (C := RX3) (T := TX3) (N := 15) hx hb hts inX3 hown hK hP 0 rfl rfl 6 (by decide) (hts _ wd_224) (fun _ h9 => h9) rfl dX3_takeLetters_59 ?_
          refine lv_isub hx hb dX3_takeLetters_62 ?_
          refine lv_topi (fun x_1115 ex_1115 => ?_)
          have hG := hG.trans (lt_eq ex_1115)
          have rg_x_1115 := fb_rng x_1115
          refine lv_bipush (v := 8) hx hb dX3_takeLetters_63 (by decide) ?_
          refine lv_icmp_gt (tgt := 72) hx hb dX3_takeLetters_65 (by decide) (fun c_1116 => ?_) (fun c_1116 => ?_)
          · skip
            have hG := hG.trans (if_pos c_1116)
            have gc_1116 := ti_lt c_1116 kc_8 rfl
            refine lv_iconst (v := 5) hx hb dX3_takeLetters_72 (by decide) ?_
            refine va_put (D := (dC, dI)) (ci := 3) (v := .int 5) (ty := .int) (C := RX3) (T := TX3) (N := 15) hx hb hts inX3 tyX3 tyX3_ok nmX3 hown hK hP hD hS 0 rfl rfl 5 (by decide) (hts _ wd_210) (fun _ h9 => h9) rfl (by decide +kernel) rfl rfl (Nat.le_of_ble_eq_true rfl) dX3_takeLetters_73 (fun H locs hP hD hS => ?_)
            obtain ⟨hP, hD⟩ := wl2 (ws' := [(oc3 oR iR_faultNumber iR_faultPlace iR_tapeSize rR_tape iR_end 5 iR_tokenFrom z_1091 z_1092 iR_tokenKey iR_tokenWhole oC iR_courtTold rR_names rR_keys), (arI rR_tape kR_tape 900 fR_tape), (arL rR_keys kR_keys 10 fR_keys)]) hP hD rfl
            refine lv_iconst (v := 0) hx hb dX3_takeLetters_76 (by decide) ?_
            refine lv_istore_n (lv' := [(2, .int 0), (1, .int z_1091), (0, .ref oR)]) hx hb dX3_takeLetters_77 rfl hl (by decide) rfl (fun ls hl => ?_)
            have hl := lv_sub hl (l' := [(2, .int 0), (1, .int z_1091), (0, .ref oR)]) [0, 1, 2] rfl
            have key_n_1119 : ∀ (n_1119 : Nat) (z_1117 : Int32) (z_1118 : Int32) (H : Heap) (locs : List Loc) (ls : Array Slot), (0 ≤ z_1117.toInt ∧ z_1117.toInt ≤ 2147483647) → (2147483647 - z_1117.toInt).toNat < n_1119 → (PX3_takeLetters fR_tape iR_end iR_tokenFrom iR_tokenKey fR_keys = HX3_takeLetters_1 z_1091 z_1092 n_1119 z_1117 z_1118) → va_P (dC, dI) vwCl [(oc3 oR iR_faultNumber iR_faultPlace iR_tapeSize rR_tape iR_end 5 iR_tokenFrom z_1091 z_1092 z_1118 iR_tokenWhole oC iR_courtTold rR_names rR_keys), (arI rR_tape kR_tape 900 fR_tape), (arL rR_keys kR_keys 10 fR_keys)] H → va_D A [(oc3 oR iR_faultNumber iR_faultPlace iR_tapeSize rR_tape iR_end 5 iR_tokenFrom z_1091 z_1092 z_1118 iR_tokenWhole oC iR_courtTold rR_names rR_keys), (arI rR_tape kR_tape 900 fR_tape), (arL rR_keys kR_keys 10 fR_keys)] → va_S A s.heap H locs → lv_has ls 3 [(2, .int z_1117), (1, .int z_1091), (0, .ref oR)] → W p l e (headSpec (Cond.code yX3_takeLetters cX3_takeLetters 3 none :: wG) ({ frames := 1, cells := 0, slots := 0, locals := 22 })).room s m ([.ref oR] : List Value).toArray below meth c H locs 0 0 (MQ below (va_Qv (fun (_ : Nat) => True) (fun (_ : Nat) (t : State) => ∃ (niR_tokenKind : Int32) (niR_tokenTo : Int32) (niR_tokenName : Int64) (niR_tokenKey : Int32), (1 ≤ niR_tokenKind.toInt ∧ niR_tokenKind.toInt ≤ 5) ∧ (PX3_takeLetters fR_tape iR_end iR_tokenFrom iR_tokenKey fR_keys = (niR_tokenKind, niR_tokenTo, niR_tokenName, niR_tokenKey)) ∧ Bw dC dI A [(oc3 oR iR_faultNumber iR_faultPlace iR_tapeSize rR_tape iR_end niR_tokenKind iR_tokenFrom niR_tokenTo niR_tokenName niR_tokenKey iR_tokenWhole oC iR_courtTold rR_names rR_keys), (arI rR_tape kR_tape 900 fR_tape), (arL rR_keys kR_keys 10 fR_keys)] [(kR_tape, .byte), (kR_keys, .long)] t) A) ([.ref oR] : List Value).toArray s 0 0 A) (F0 m 78 ls []) := by
              intro n_1119
              induction n_1119 with
              | zero => intro z_1117 z_1118 H locs ls hi0_n_1119 hm; exact absurd hm (Nat.not_lt_zero _)
              | succ n_1119 ih_n_1119 =>
                intro z_1117 z_1118 H locs ls hi0_n_1119 hm_n_1119 hG hP hD hS hl
                have hG := hG.trans (HX3_takeLetters_1_eq _ _ _ _ _)
                have rg_z_1117 := fb_rng z_1117
                have rg_z_1118 := fb_rng z_1118
                refine lv_iload_n hx hb dX3_takeLetters_78 rfl (lv_at hl 0 rfl) ?_
                refine lv_bipush (v := 10) hx hb dX3_takeLetters_79 (by decide) ?_
                refine lv_icmp_ge (tgt := 117) hx hb dX3_takeLetters_81 (by decide) (fun c_1120 => ?_) (fun c_1120 => ?_)
                · skip
                  have hG := hG.trans (if_pos c_1120)
                  have gc_1120 := ti_le c_1120 kc_10 rfl
                  exact wq_v hx hb hr 0 trivial (fun t ht hW => ⟨5, z_1091, z_1092, z_1118, (by decide), hG, Bw.to hP hD hK ht hW⟩) hS dX3_takeLetters_117 hlocks
                · skip
                  have hG := hG.trans (if_neg c_1120)
                  have gc_1120 := ti_nle c_1120 kc_10 rfl
                  refine lv_aload_n hx hb dX3_takeLetters_84 rfl (lv_at hl 2 rfl) ?_
                  refine va_get (D := (dC, dI)) (ci := 3) (v := .int 5) (C := RX3) (T := TX3) (N := 15) hx hb hts inX3 hown hK hP 0 rfl rfl 5 (by decide) (hts _ wd_210) (fun _ h9 => h9) rfl dX3_takeLetters_85 ?_
                  refine lv_iconst (v := 1) hx hb dX3_takeLetters_88 (by decide) ?_
                  refine lv_icmp_ne (tgt := 117) hx hb dX3_takeLetters_89 (by decide) (fun _ => ?_) (fun c => absurd c (by decide))
                  exact wq_v hx hb hr 0 trivial (fun t ht hW => ⟨5, z_1091, z_1092, z_1118, (by decide), hG, Bw.to hP hD hK ht hW⟩) hS dX3_takeLetters_117 hlocks
            exact key_n_1119 (((2147483647 - (0 : Int32).toInt).toNat) + 1) 0 iR_tokenKey _ _ _  ⟨(om_b1de7dbe kc_0), (om_daf17c64 kc_0)⟩ (Nat.lt_add_one _) hG hP hD hS hl
          · skip
            have hG := hG.trans (if_neg c_1116)
            have gc_1116 := ti_nlt c_1116 kc_8 rfl
            refine lv_iconst (v := 1) hx hb dX3_takeLetters_68 (by decide) ?_
            refine lv_goto (tgt := 73) hx hb dX3_takeLetters_69 (by decide) ?_
            refine va_put (D := (dC, dI)) (ci := 3) (v := .int 1) (ty := .int) (C := RX3) (T := TX3) (N := 15) hx hb hts inX3 tyX3 tyX3_ok nmX3 hown hK hP hD hS 0 rfl rfl 5 (by decide) (hts _ wd_210) (fun _ h9 => h9) rfl (by decide +kernel) rfl rfl (Nat.le_of_ble_eq_true rfl) dX3_takeLetters_73 (fun H locs hP hD hS => ?_)
            obtain ⟨hP, hD⟩ := wl2 (ws' := [(oc3 oR iR_faultNumber iR_faultPlace iR_tapeSize rR_tape iR_end 1 iR_tokenFrom z_1091 z_1092 iR_tokenKey iR_tokenWhole oC iR_courtTold rR_names rR_keys), (arI rR_tape kR_tape 900 fR_tape), (arL rR_keys kR_keys 10 fR_keys)]) hP hD rfl
            refine lv_iconst (v := 0) hx hb dX3_takeLetters_76 (by decide) ?_
            refine lv_istore_n (lv' := [(2, .int 0), (1, .int z_1091), (0, .ref oR)]) hx hb dX3_takeLetters_77 rfl hl (by decide) rfl (fun ls hl => ?_)
            have hl := lv_sub hl (l' := [(2, .int 0), (1, .int z_1091), (0, .ref oR)]) [0, 1, 2] rfl
            have key_n_1124 : ∀ (n_1124 : Nat) (z_1122 : Int32) (z_1123 : Int32) (H : Heap) (locs : List Loc) (ls : Array Slot), (0 ≤ z_1122.toInt ∧ z_1122.toInt ≤ 2147483647) → (2147483647 - z_1122.toInt).toNat < n_1124 → (PX3_takeLetters fR_tape iR_end iR_tokenFrom iR_tokenKey fR_keys = HX3_takeLetters_2 fR_keys z_1091 z_1092 n_1124 z_1122 z_1123) → va_P (dC, dI) vwCl [(oc3 oR iR_faultNumber iR_faultPlace iR_tapeSize rR_tape iR_end 1 iR_tokenFrom z_1091 z_1092 z_1123 iR_tokenWhole oC iR_courtTold rR_names rR_keys), (arI rR_tape kR_tape 900 fR_tape), (arL rR_keys kR_keys 10 fR_keys)] H → va_D A [(oc3 oR iR_faultNumber iR_faultPlace iR_tapeSize rR_tape iR_end 1 iR_tokenFrom z_1091 z_1092 z_1123 iR_tokenWhole oC iR_courtTold rR_names rR_keys), (arI rR_tape kR_tape 900 fR_tape), (arL rR_keys kR_keys 10 fR_keys)] → va_S A s.heap H locs → lv_has ls 3 [(2, .int z_1122), (1, .int z_1091), (0, .ref oR)] → W p l e (headSpec (Cond.code yX3_takeLetters cX3_takeLetters 3 none :: wG) ({ frames := 1, cells := 0, slots := 0, locals := 22 })).room s m ([.ref oR] : List Value).toArray below meth c H locs 0 0 (MQ below (va_Qv (fun (_ : Nat) => True) (fun (_ : Nat) (t : State) => ∃ (niR_tokenKind : Int32) (niR_tokenTo : Int32) (niR_tokenName : Int64) (niR_tokenKey : Int32), (1 ≤ niR_tokenKind.toInt ∧ niR_tokenKind.toInt ≤ 5) ∧ (PX3_takeLetters fR_tape iR_end iR_tokenFrom iR_tokenKey fR_keys = (niR_tokenKind, niR_tokenTo, niR_tokenName, niR_tokenKey)) ∧ Bw dC dI A [(oc3 oR iR_faultNumber iR_faultPlace iR_tapeSize rR_tape iR_end niR_tokenKind iR_tokenFrom niR_tokenTo niR_tokenName niR_tokenKey iR_tokenWhole oC iR_courtTold rR_names rR_keys), (arI rR_tape kR_tape 900 fR_tape), (arL rR_keys kR_keys 10 fR_keys)] [(kR_tape, .byte), (kR_keys, .long)] t) A) ([.ref oR] : List Value).toArray s 0 0 A) (F0 m 78 ls []) := by
              intro n_1124
              induction n_1124 with
              | zero => intro z_1122 z_1123 H locs ls hi0_n_1124 hm; exact absurd hm (Nat.not_lt_zero _)
              | succ n_1124 ih_n_1124 =>
                intro z_1122 z_1123 H locs ls hi0_n_1124 hm_n_1124 hG hP hD hS hl
                have hG := hG.trans (HX3_takeLetters_2_eq _ _ _ _ _ _)
                have rg_z_1122 := fb_rng z_1122
                have rg_z_1123 := fb_rng z_1123
                refine lv_iload_n hx hb dX3_takeLetters_78 rfl (lv_at hl 0 rfl) ?_
                refine lv_bipush (v := 10) hx hb dX3_takeLetters_79 (by decide) ?_
                refine lv_icmp_ge (tgt := 117) hx hb dX3_takeLetters_81 (by decide) (fun c_1125 => ?_) (fun c_1125 => ?_)
                · skip
                  have hG := hG.trans (if_pos c_1125)
                  have gc_1125 := ti_le c_1125 kc_10 rfl
                  exact wq_v hx hb hr 0 trivial (fun t ht hW => ⟨1, z_1091, z_1092, z_1123, (by decide), hG, Bw.to hP hD hK ht hW⟩) hS dX3_takeLetters_117 hlocks
                · skip
                  have hG := hG.trans (if_neg c_1125)
                  have gc_1125 := ti_nle c_1125 kc_10 rfl
                  refine lv_aload_n hx hb dX3_takeLetters_84 rfl (lv_at hl 2 rfl) ?_
                  refine va_get (D := (dC, dI)) (ci := 3) (v := .int 1) (C := RX3) (T := TX3) (N := 15) hx hb hts inX3 hown hK hP 0 rfl rfl 5 (by decide) (hts _ wd_210) (fun _ h9 => h9) rfl dX3_takeLetters_85 ?_
                  refine lv_iconst (v := 1) hx hb dX3_takeLetters_88 (by decide) ?_
                  refine lv_icmp_ne (tgt := 117) hx hb dX3_takeLetters_89 (by decide) (fun c => absurd c (by decide)) (fun _ => ?_)
                  refine lv_aload_n hx hb dX3_takeLetters_92 rfl (lv_at hl 2 rfl) ?_
                  refine va_get (D := (dC, dI)) (ci := 3) (v := .ref rR_keys) (C := RX3) (T := TX3) (N := 15) hx hb hts inX3 hown hK hP 0 rfl rfl 14 (by decide) (hts _ wd_48) (fun _ h9 => h9) rfl dX3_takeLetters_93 ?_
                  refine lv_iload_n hx hb dX3_takeLetters_96 rfl (lv_at hl 0 rfl) ?_
                  refine va_lald hx hb hK hP 2 1 rfl rfl (ti_in rfl hi0_n_1124.1 (om_f382d077 gc_1125)) dX3_takeLetters_97 ?_
                  refine lv_topl (fun y_1127 ey_1127 => ?_)
                  have hG := hG.trans (lt_eq ey_1127)
                  refine lv_aload_n hx hb dX3_takeLetters_98 rfl (lv_at hl 2 rfl) ?_
                  refine va_get (D := (dC, dI)) (ci := 3) (v := .long z_1092) (C := RX3) (T := TX3) (N := 15) hx hb hts inX3 hown hK hP 0 rfl rfl 8 (by decide) (hts _ wd_237) (fun _ h9 => h9) rfl dX3_takeLetters_99 ?_
                  refine W.lcmp hx hb dX3_takeLetters_102 ?_
                  refine lv_topi (fun x_1128 ex_1128 => ?_)
                  have hG := hG.trans (lt_eq ex_1128)
                  have rg_x_1128 := fb_rng x_1128
                  refine lv_if_ne (tgt := 111) hx hb dX3_takeLetters_103 (by decide) (fun c_1129 => ?_) (fun c_1129 => ?_)
                  · skip
                    have hG := hG.trans (if_neg c_1129)
                    have gc_1129 := ti_ne c_1129 rfl kc_0
                    obtain ⟨x_1130, ex_1130⟩ : ∃ z : Int32, z = z_1122 + Int32.ofInt 1 := ⟨_, rfl⟩
                    have hG := hG.trans (lt_eq ex_1130)
                    have vx_1130 : x_1130.toInt = z_1122.toInt + 1 := ti_add (y := 1) ex_1130 rfl kc_1 (om_4e4fce7e hi0_n_1124.1) (om_32850922 gc_1125)
                    refine lv_iinc (v := x_1130) (lv' := [(2, .int x_1130), (1, .int z_1091), (0, .ref oR)]) hx hb dX3_takeLetters_111 hl (k := 0) rfl ex_1130.symm (by decide) rfl (fun ls hl => ?_)
                    refine lv_goto (tgt := 78) hx hb dX3_takeLetters_114 (by decide) ?_
                    exact ih_n_1124 x_1130 z_1123 _ _ _  ⟨(om_83b90de5 hi0_n_1124.1 vx_1130), (om_facfc055 gc_1125 vx_1130)⟩ (ms_lt hm_n_1124 (om_b9393183 vx_1130) (om_10244f99 gc_1125)) hG hP hD hS (lv_sub hl [0, 1, 2] rfl)
                  · skip
                    have hG := hG.trans (if_pos c_1129)
                    have gc_1129 := ti_eq c_1129 rfl kc_0
                    refine lv_aload_n hx hb dX3_takeLetters_106 rfl (lv_at hl 2 rfl) ?_
                    refine lv_iload_n hx hb dX3_takeLetters_107 rfl (lv_at hl 0 rfl) ?_
                    refine va_put (D := (dC, dI)) (ci := 3) (v := .int z_1122) (ty := .int) (C := RX3) (T := TX3) (N := 15) hx hb hts inX3 tyX3 tyX3_ok nmX3 hown hK hP hD hS 0 rfl rfl 9 (by decide) (hts _ wd_225) (fun _ h9 => h9) rfl (by decide +kernel) rfl rfl (Nat.le_of_ble_eq_true rfl) dX3_takeLetters_108 (fun H locs hP hD hS => ?_)
                    obtain ⟨hP, hD⟩ := wl2 (ws' := [(oc3 oR iR_faultNumber iR_faultPlace iR_tapeSize rR_tape iR_end 1 iR_tokenFrom z_1091 z_1092 z_1122 iR_tokenWhole oC iR_courtTold rR_names rR_keys), (arI rR_tape kR_tape 900 fR_tape), (arL rR_keys kR_keys 10 fR_keys)]) hP hD rfl
                    obtain ⟨x_1131, ex_1131⟩ : ∃ z : Int32, z = z_1122 + Int32.ofInt 1 := ⟨_, rfl⟩
                    have hG := hG.trans (lt_eq ex_1131)
                    have vx_1131 : x_1131.toInt = z_1122.toInt + 1 := ti_add (y := 1) ex_1131 rfl kc_1 (om_4e4fce7e hi0_n_1124.1) (om_32850922 gc_1125)
                    refine lv_iinc (v := x_1131) (lv' := [(2, .int x_1131), (1, .int z_1091), (0, .ref oR)]) hx hb dX3_takeLetters_111 hl (k := 0) rfl ex_1131.symm (by decide) rfl (fun ls hl => ?_)
                    refine lv_goto (tgt := 78) hx hb dX3_takeLetters_114 (by decide) ?_
                    exact ih_n_1124 x_1131 z_1122 _ _ _  ⟨(om_83b90de5 hi0_n_1124.1 vx_1131), (om_facfc055 gc_1125 vx_1131)⟩ (ms_lt hm_n_1124 (om_b9393183 vx_1131) (om_10244f99 gc_1125)) hG hP hD hS (lv_sub hl [0, 1, 2] rfl)
            exact key_n_1124 (((2147483647 - (0 : Int32).toInt).toNat) + 1) 0 iR_tokenKey _ _ _  ⟨(om_b1de7dbe kc_0), (om_daf17c64 kc_0)⟩ (Nat.lt_add_one _) hG hP hD hS hl
        · skip
          have hG := hG.trans (if_neg c_1114)
          have gc_1114 := ti_ne c_1114 rfl kc_0
          refine lv_aload_n hx hb dX3_takeLetters_29 rfl (lv_at hl 1 rfl) ?_
          refine lv_aload_n hx hb dX3_takeLetters_30 rfl (lv_at hl 1 rfl) ?_
          refine va_get (D := (dC, dI)) (ci := 3) (v := .long z_1092) (C := RX3) (T := TX3) (N := 15) hx hb hts inX3 hown hK hP 0 rfl rfl 8 (by decide) (hts _ wd_237) (fun _ h9 => h9) rfl dX3_takeLetters_31 ?_
          refine lv_aload_n hx hb dX3_takeLetters_34 rfl (lv_at hl 1 rfl) ?_
          refine lv_iload_n hx hb dX3_takeLetters_35 rfl (lv_at hl 0 rfl) ?_
          have hMs := ml_of hD [true, true, false] (wc := [(oc3 oR iR_faultNumber iR_faultPlace iR_tapeSize rR_tape iR_end iR_tokenKind iR_tokenFrom iR_tokenTo z_1092 iR_tokenKey iR_tokenWhole oC iR_courtTold rR_names rR_keys), (arI rR_tape kR_tape 900 fR_tape)]) rfl
          have hFc := va_freeM hD hS hA _ hMs
          refine va_calli (va_runV (As := [.int z_1091]) (rest := [.long z_1092, .ref oR]) ⟨hx, hb, hml, hown, hts⟩ (tX3_byteAt l dC dI _ oR iR_faultNumber iR_faultPlace iR_tapeSize rR_tape fR_tape kR_tape iR_end iR_tokenKind iR_tokenFrom iR_tokenTo z_1092 iR_tokenKey iR_tokenWhole oC iR_courtTold rR_names rR_keys z_1091 b_iR_tapeSize b_iR_courtTold) (cwV 1 hts (wd_V wd_226 wd_227 wd_228 wd_15 (wd_c wd_229)) rfl rfl rfl dv_yX3_byteAt_1 ⟨Nat.le_of_ble_eq_true rfl, Nat.le_of_ble_eq_true rfl⟩) ⟨Pw.fb, recvX3 hK hP (q0 := 0) rfl, fun U hU hW => Pw.to (hP.ms _ hMs) (hD.ms _ hMs) (hK.ms [true, false] rfl) hE hS hFc hU hW⟩ rfl rfl hl.1 rfl (lv_room (Nat.le_of_ble_eq_true rfl)) dX3_takeLetters_36 ⟨Nat.le_of_ble_eq_true rfl, Nat.le_of_ble_eq_true rfl⟩) hS (fun q _ h => hFc q h) hFc (fun r u t H locs ht hvm hw hB hz1 hk1 hS => ?_)
          have hru9 := hw.2
          have hw := hw.1
          obtain ⟨hP, hD⟩ := Bw.goN (ws' := [(oc3 oR iR_faultNumber iR_faultPlace iR_tapeSize rR_tape iR_end iR_tokenKind iR_tokenFrom iR_tokenTo z_1092 iR_tokenKey iR_tokenWhole oC iR_courtTold rR_names rR_keys), (arI rR_tape kR_tape 900 fR_tape), (arL rR_keys kR_keys 10 fR_keys)]) hB rfl ht hP hD _ hMs hk1 hFc rfl
          clear hz1 hk1 hvm ht hB hMs
          obtain ⟨x_1132, rfl⟩ : ∃ z, z = r := ⟨_, rfl⟩
          have hG := hG.trans (lt_eq hru9.symm)
          have rg_x_1132 := fb_rng x_1132
          have hFc : ∀ q, va_A [] _ q → A q := fun q h => hA q (Nat.le_trans hS.1 (va_nilA h))
          refine va_calll (va_runS (As := [.long z_1092, .int x_1132]) (rest := [.ref oR]) ⟨hx, hb, hml, hown, hts⟩ (tX3_withLetter l dC dI _ z_1092 x_1132 ) (va_cwS 2 hts (wd_S wd_120 wd_121 wd_15 (wd_c wd_122)) rfl rfl rfl ds_yX3_withLetter_2 ⟨Nat.le_of_ble_eq_true rfl, Nat.le_of_ble_eq_true rfl⟩) ⟨Pw.fb, fun U hU hW => Pn.to hK hE hS hA hU hW⟩ rfl rfl hl.1 rfl (lv_room (Nat.le_of_ble_eq_true rfl)) dX3_takeLetters_39 ⟨Nat.le_of_ble_eq_true rfl, Nat.le_of_ble_eq_true rfl⟩) hS (fun q _ h => hFc q h) hFc (fun r u t H locs ht hvm hw hB hz1 hk1 hS => ?_)
          obtain ⟨hP, hD, hK⟩ := Bw.same ht hvm hP hD hK hk1 hFc
          clear hz1 hk1 hvm ht hB
          have hq9 := hw.2
          have hw := hw.1
          obtain ⟨y_1133, rfl⟩ : ∃ z, z = r := ⟨_, rfl⟩
          have hq_y_1133 := hq9
          have hG := hG.trans (lt_eq hq_y_1133.symm)
          refine va_put (D := (dC, dI)) (ci := 3) (v := .long y_1133) (ty := .long) (C := RX3) (T := TX3) (N := 15) hx hb hts inX3 tyX3 tyX3_ok nmX3 hown hK hP hD hS 0 rfl rfl 8 (by decide) (hts _ wd_237) (fun _ h9 => h9) rfl (by decide +kernel) rfl rfl (Nat.le_of_ble_eq_true rfl) dX3_takeLetters_42 (fun H locs hP hD hS => ?_)
          obtain ⟨hP, hD⟩ := wl2 (ws' := [(oc3 oR iR_faultNumber iR_faultPlace iR_tapeSize rR_tape iR_end iR_tokenKind iR_tokenFrom iR_tokenTo y_1133 iR_tokenKey iR_tokenWhole oC iR_courtTold rR_names rR_keys), (arI rR_tape kR_tape 900 fR_tape), (arL rR_keys kR_keys 10 fR_keys)]) hP hD rfl
          obtain ⟨x_1134, ex_1134⟩ : ∃ z : Int32, z = z_1091 + Int32.ofInt 1 := ⟨_, rfl⟩
          have hG := hG.trans (lt_eq ex_1134)
          have vx_1134 : x_1134.toInt = z_1091.toInt + 1 := ti_add (y := 1) ex_1134 rfl kc_1 (om_f7d4aae6 hi0_n_1093.1) (om_219cd8d8 rg_iR_end.2 gc_1094)
          refine lv_iinc (v := x_1134) (lv' := [(1, .int x_1134), (0, .ref oR)]) hx hb dX3_takeLetters_45 hl (k := 0) rfl ex_1134.symm (by decide) rfl (fun ls hl => ?_)
          refine lv_goto (tgt := 10) hx hb dX3_takeLetters_48 (by decide) ?_
          exact ih_n_1093 x_1134 y_1133 _ _ _  ⟨(om_ecc37d4d hi0_n_1093.1 vx_1134), (om_5c6bfac3 rg_iR_end.2 gc_1094 vx_1134)⟩ (ms_lt hm_n_1093 (om_b9393183 vx_1134) (om_bc4d5040 rg_iR_end.2 gc_1094)) hG hP hD hS (lv_sub hl [0, 1] rfl)
  exact key_n_1093 (((2147483647 - iR_tokenFrom.toInt).toNat) + 1) iR_tokenFrom 0 _ _ _  ⟨(om_341146a3 rg_iR_tokenFrom.1), (om_5a94aa53 rg_iR_tokenFrom.2)⟩ (Nat.lt_add_one _) hG hP hD hS hl
set_option maxHeartbeats 4000000 in
set_option maxRecDepth 100000 in
theorem tX3_takeDigits (l : Launch) (dC : Nat → ClassId) (dI : Nat → Nat → Nat) (sz : Nat) (oR : Nat) (iR_faultNumber : Int32) (iR_faultPlace : Int32) (iR_tapeSize : Int32) (rR_tape : Nat) (fR_tape : Nat → Int32) (kR_tape : ClassId) (iR_end : Int32) (iR_tokenKind : Int32) (iR_tokenFrom : Int32) (iR_tokenTo : Int32) (iR_tokenName : Int64) (iR_tokenKey : Int32) (iR_tokenWhole : Int32) (oC : Nat) (iR_courtTold : Int32) (rR_names : Nat) (rR_keys : Nat) (b_iR_tapeSize : 0 ≤ iR_tapeSize.toInt ∧ iR_tapeSize.toInt ≤ 900) (b_iR_courtTold : 0 ≤ iR_courtTold.toInt ∧ iR_courtTold.toInt ≤ 1)  : Met l yX3_takeDigits (Cond.code yX3_takeDigits cX3_takeDigits 2 none :: wG) ({ frames := 1, cells := 0, slots := 0, locals := 21 }) (va_Pc [.ref oR] (Pw dC dI sz [(oc3 oR iR_faultNumber iR_faultPlace iR_tapeSize rR_tape iR_end iR_tokenKind iR_tokenFrom iR_tokenTo iR_tokenName iR_tokenKey iR_tokenWhole oC iR_courtTold rR_names rR_keys), (arI rR_tape kR_tape 900 fR_tape)] [(kR_tape, .byte)])) (va_Qv (fun (_ : Nat) => True) (fun (_ : Nat) (t : State) => ∃ (niR_tokenKind : Int32) (niR_tokenTo : Int32) (niR_tokenWhole : Int32), (2 ≤ niR_tokenKind.toInt ∧ niR_tokenKind.toInt ≤ 5) ∧ (PX3_takeDigits fR_tape iR_end iR_tokenFrom = (niR_tokenKind, niR_tokenTo, niR_tokenWhole)) ∧ Bw dC dI (va_A [(oc3 oR iR_faultNumber iR_faultPlace iR_tapeSize rR_tape iR_end iR_tokenKind iR_tokenFrom iR_tokenTo iR_tokenName iR_tokenKey iR_tokenWhole oC iR_courtTold rR_names rR_keys), (arI rR_tape kR_tape 900 fR_tape)] sz) [(oc3 oR iR_faultNumber iR_faultPlace iR_tapeSize rR_tape iR_end niR_tokenKind iR_tokenFrom niR_tokenTo iR_tokenName iR_tokenKey niR_tokenWhole oC iR_courtTold rR_names rR_keys), (arI rR_tape kR_tape 900 fR_tape)] [(kR_tape, .byte)] t) (va_A [(oc3 oR iR_faultNumber iR_faultPlace iR_tapeSize rR_tape iR_end iR_tokenKind iR_tokenFrom iR_tokenTo iR_tokenName iR_tokenKey iR_tokenWhole oC iR_courtTold rR_names rR_keys), (arI rR_tape kR_tape 900 fR_tape)] sz)) 0 0 (va_A [(oc3 oR iR_faultNumber iR_faultPlace iR_tapeSize rR_tape iR_end iR_tokenKind iR_tokenFrom iR_tokenTo iR_tokenName iR_tokenKey iR_tokenWhole oC iR_courtTold rR_names rR_keys), (arI rR_tape kR_tape 900 fR_tape)] sz) := by
  refine Met.ofW (cc := cX3_takeDigits) (maxL := 2) (ret := none) pnX3 rfl ?_
  intro p e s m args below meth c s₁ B hml hv
  obtain ⟨rfl, hsz, hP, hK, hD0, hE⟩ := hv
  have hx := B.exec
  have hb := B.bytes
  have hr := B.returns
  have hts : ∀ w ∈ wG, w.before ([.ref oR] : List Value).toArray s = true := fun w h => atoms_spec (ws := Cond.code yX3_takeDigits cX3_takeDigits 2 none :: wG) B.pre w (List.mem_cons_of_mem _ h)
  have hown : s.vm.findClass RX3 = some m.cls := own_of B.named rfl
  have hlocks := B.notSynchronized
  subst hsz
  have hD := hD0.self (sz := s.heap.size)
  generalize hAe : va_A [(oc3 oR iR_faultNumber iR_faultPlace iR_tapeSize rR_tape iR_end iR_tokenKind iR_tokenFrom iR_tokenTo iR_tokenName iR_tokenKey iR_tokenWhole oC iR_courtTold rR_names rR_keys), (arI rR_tape kR_tape 900 fR_tape)] s.heap.size = A at hD hE ⊢
  have hA : ∀ q : Nat, s.heap.size ≤ q → A q := fun q h => by rw [← hAe]; exact Or.inr h
  have hS : va_S A s.heap s.heap [] := va_S.rf
  have hl := lv_entry ([.ref oR]) (n := 2) (Nat.le_of_ble_eq_true rfl)
  rw [lg_entry_eq]
  generalize (lg_sl ([.ref oR]) ++ List.replicate (2 - (lg_sl ([.ref oR])).length) Slot.unset).toArray = ls at hl ⊢
  have hl : lv_has ls 2 [(0, .ref oR)] := hl
  have hG := PX3_takeDigits_eq fR_tape iR_end iR_tokenFrom
  refine lv_aload_n hx hb dX3_takeDigits_0 rfl (lv_at hl 0 rfl) ?_
  refine va_get (D := (dC, dI)) (ci := 3) (v := .int iR_tokenFrom) (C := RX3) (T := TX3) (N := 15) hx hb hts inX3 hown hK hP 0 rfl rfl 6 (by decide) (hts _ wd_224) (fun _ h9 => h9) rfl dX3_takeDigits_1 ?_
  have rg_iR_tokenFrom := fb_rng iR_tokenFrom
  refine lv_istore_n (lv' := [(1, .int iR_tokenFrom), (0, .ref oR)]) hx hb dX3_takeDigits_4 rfl hl (by decide) rfl (fun ls hl => ?_)
  refine lv_aload_n hx hb dX3_takeDigits_5 rfl (lv_at hl 1 rfl) ?_
  refine lv_iconst (v := 0) hx hb dX3_takeDigits_6 (by decide) ?_
  refine va_put (D := (dC, dI)) (ci := 3) (v := .int 0) (ty := .int) (C := RX3) (T := TX3) (N := 15) hx hb hts inX3 tyX3 tyX3_ok nmX3 hown hK hP hD hS 0 rfl rfl 10 (by decide) (hts _ wd_245) (fun _ h9 => h9) rfl (by decide +kernel) rfl rfl (Nat.le_of_ble_eq_true rfl) dX3_takeDigits_7 (fun H locs hP hD hS => ?_)
  obtain ⟨hP, hD⟩ := wl2 (ws' := [(oc3 oR iR_faultNumber iR_faultPlace iR_tapeSize rR_tape iR_end iR_tokenKind iR_tokenFrom iR_tokenTo iR_tokenName iR_tokenKey 0 oC iR_courtTold rR_names rR_keys), (arI rR_tape kR_tape 900 fR_tape)]) hP hD rfl
  have hl := lv_sub hl (l' := [(1, .int iR_tokenFrom), (0, .ref oR)]) [0, 1] rfl
  have key_n_1168 : ∀ (n_1168 : Nat) (z_1166 : Int32) (z_1167 : Int32) (H : Heap) (locs : List Loc) (ls : Array Slot), ((-2147483648) ≤ z_1166.toInt ∧ z_1166.toInt ≤ 2147483647) → (2147483647 - z_1166.toInt).toNat < n_1168 → (PX3_takeDigits fR_tape iR_end iR_tokenFrom = HX3_takeDigits_0 fR_tape iR_end iR_tokenFrom n_1168 z_1166 z_1167) → va_P (dC, dI) vwCl [(oc3 oR iR_faultNumber iR_faultPlace iR_tapeSize rR_tape iR_end iR_tokenKind iR_tokenFrom iR_tokenTo iR_tokenName iR_tokenKey z_1167 oC iR_courtTold rR_names rR_keys), (arI rR_tape kR_tape 900 fR_tape)] H → va_D A [(oc3 oR iR_faultNumber iR_faultPlace iR_tapeSize rR_tape iR_end iR_tokenKind iR_tokenFrom iR_tokenTo iR_tokenName iR_tokenKey z_1167 oC iR_courtTold rR_names rR_keys), (arI rR_tape kR_tape 900 fR_tape)] → va_S A s.heap H locs → lv_has ls 2 [(1, .int z_1166), (0, .ref oR)] → W p l e (headSpec (Cond.code yX3_takeDigits cX3_takeDigits 2 none :: wG) ({ frames := 1, cells := 0, slots := 0, locals := 21 })).room s m ([.ref oR] : List Value).toArray below meth c H locs 0 0 (MQ below (va_Qv (fun (_ : Nat) => True) (fun (_ : Nat) (t : State) => ∃ (niR_tokenKind : Int32) (niR_tokenTo : Int32) (niR_tokenWhole : Int32), (2 ≤ niR_tokenKind.toInt ∧ niR_tokenKind.toInt ≤ 5) ∧ (PX3_takeDigits fR_tape iR_end iR_tokenFrom = (niR_tokenKind, niR_tokenTo, niR_tokenWhole)) ∧ Bw dC dI A [(oc3 oR iR_faultNumber iR_faultPlace iR_tapeSize rR_tape iR_end niR_tokenKind iR_tokenFrom niR_tokenTo iR_tokenName iR_tokenKey niR_tokenWhole oC iR_courtTold rR_names rR_keys), (arI rR_tape kR_tape 900 fR_tape)] [(kR_tape, .byte)] t) A) ([.ref oR] : List Value).toArray s 0 0 A) (F0 m 10 ls []) := by
    intro n_1168
    induction n_1168 with
    | zero => intro z_1166 z_1167 H locs ls hi0_n_1168 hm; exact absurd hm (Nat.not_lt_zero _)
    | succ n_1168 ih_n_1168 =>
      intro z_1166 z_1167 H locs ls hi0_n_1168 hm_n_1168 hG hP hD hS hl
      have hG := hG.trans (HX3_takeDigits_0_eq _ _ _ _ _ _)
      have rg_z_1166 := fb_rng z_1166
      have rg_z_1167 := fb_rng z_1167
      refine lv_iload_n hx hb dX3_takeDigits_10 rfl (lv_at hl 0 rfl) ?_
      refine lv_aload_n hx hb dX3_takeDigits_11 rfl (lv_at hl 1 rfl) ?_
      refine va_get (D := (dC, dI)) (ci := 3) (v := .int iR_end) (C := RX3) (T := TX3) (N := 15) hx hb hts inX3 hown hK hP 0 rfl rfl 4 (by decide) (hts _ wd_205) (fun _ h9 => h9) rfl dX3_takeDigits_12 ?_
      have rg_iR_end := fb_rng iR_end
      refine lv_icmp_ge (tgt := 55) hx hb dX3_takeDigits_15 (by decide) (fun c_1169 => ?_) (fun c_1169 => ?_)
      · skip
        have hG := hG.trans (if_pos c_1169)
        have gc_1169 := ti_le c_1169 rfl rfl
        refine lv_aload_n hx hb dX3_takeDigits_55 rfl (lv_at hl 1 rfl) ?_
        refine lv_iload_n hx hb dX3_takeDigits_56 rfl (lv_at hl 0 rfl) ?_
        refine va_put (D := (dC, dI)) (ci := 3) (v := .int z_1166) (ty := .int) (C := RX3) (T := TX3) (N := 15) hx hb hts inX3 tyX3 tyX3_ok nmX3 hown hK hP hD hS 0 rfl rfl 7 (by decide) (hts _ wd_209) (fun _ h9 => h9) rfl (by decide +kernel) rfl rfl (Nat.le_of_ble_eq_true rfl) dX3_takeDigits_57 (fun H locs hP hD hS => ?_)
        obtain ⟨hP, hD⟩ := wl2 (ws' := [(oc3 oR iR_faultNumber iR_faultPlace iR_tapeSize rR_tape iR_end iR_tokenKind iR_tokenFrom z_1166 iR_tokenName iR_tokenKey z_1167 oC iR_courtTold rR_names rR_keys), (arI rR_tape kR_tape 900 fR_tape)]) hP hD rfl
        refine lv_aload_n hx hb dX3_takeDigits_60 rfl (lv_at hl 1 rfl) ?_
        refine lv_iload_n hx hb dX3_takeDigits_61 rfl (lv_at hl 0 rfl) ?_
        refine lv_aload_n hx hb dX3_takeDigits_62 rfl (lv_at hl 1 rfl) ?_
        refine va_get (D := (dC, dI)) (ci := 3) (v := .int iR_tokenFrom) (C := RX3) (T := TX3) (N := 15) hx hb hts inX3 hown hK hP 0 rfl rfl 6 (by decide) (hts _ wd_224) (fun _ h9 => h9) rfl dX3_takeDigits_63 ?_
        refine lv_isub hx hb dX3_takeDigits_66 ?_
        refine lv_topi (fun x_1170 ex_1170 => ?_)
        have hG := hG.trans (lt_eq ex_1170)
        have rg_x_1170 := fb_rng x_1170
        refine lv_iconst (v := 3) hx hb dX3_takeDigits_67 (by decide) ?_
        refine lv_icmp_gt (tgt := 75) hx hb dX3_takeDigits_68 (by decide) (fun c_1171 => ?_) (fun c_1171 => ?_)
        · skip
          have hG := hG.trans (if_pos c_1171)
          have gc_1171 := ti_lt c_1171 kc_3 rfl
          refine lv_iconst (v := 5) hx hb dX3_takeDigits_75 (by decide) ?_
          refine va_put (D := (dC, dI)) (ci := 3) (v := .int 5) (ty := .int) (C := RX3) (T := TX3) (N := 15) hx hb hts inX3 tyX3 tyX3_ok nmX3 hown hK hP hD hS 0 rfl rfl 5 (by decide) (hts _ wd_210) (fun _ h9 => h9) rfl (by decide +kernel) rfl rfl (Nat.le_of_ble_eq_true rfl) dX3_takeDigits_76 (fun H locs hP hD hS => ?_)
          obtain ⟨hP, hD⟩ := wl2 (ws' := [(oc3 oR iR_faultNumber iR_faultPlace iR_tapeSize rR_tape iR_end 5 iR_tokenFrom z_1166 iR_tokenName iR_tokenKey z_1167 oC iR_courtTold rR_names rR_keys), (arI rR_tape kR_tape 900 fR_tape)]) hP hD rfl
          exact wq_v hx hb hr 0 trivial (fun t ht hW => ⟨5, z_1166, z_1167, (by decide), hG, Bw.to hP hD hK ht hW⟩) hS dX3_takeDigits_79 hlocks
        · skip
          have hG := hG.trans (if_neg c_1171)
          have gc_1171 := ti_nlt c_1171 kc_3 rfl
          refine lv_iconst (v := 2) hx hb dX3_takeDigits_71 (by decide) ?_
          refine lv_goto (tgt := 76) hx hb dX3_takeDigits_72 (by decide) ?_
          refine va_put (D := (dC, dI)) (ci := 3) (v := .int 2) (ty := .int) (C := RX3) (T := TX3) (N := 15) hx hb hts inX3 tyX3 tyX3_ok nmX3 hown hK hP hD hS 0 rfl rfl 5 (by decide) (hts _ wd_210) (fun _ h9 => h9) rfl (by decide +kernel) rfl rfl (Nat.le_of_ble_eq_true rfl) dX3_takeDigits_76 (fun H locs hP hD hS => ?_)
          obtain ⟨hP, hD⟩ := wl2 (ws' := [(oc3 oR iR_faultNumber iR_faultPlace iR_tapeSize rR_tape iR_end 2 iR_tokenFrom z_1166 iR_tokenName iR_tokenKey z_1167 oC iR_courtTold rR_names rR_keys), (arI rR_tape kR_tape 900 fR_tape)]) hP hD rfl
          exact wq_v hx hb hr 0 trivial (fun t ht hW => ⟨2, z_1166, z_1167, (by decide), hG, Bw.to hP hD hK ht hW⟩) hS dX3_takeDigits_79 hlocks
      · skip
        have hG := hG.trans (if_neg c_1169)
        have gc_1169 := ti_nle c_1169 rfl rfl
        refine lv_aload_n hx hb dX3_takeDigits_18 rfl (lv_at hl 1 rfl) ?_
        refine lv_iload_n hx hb dX3_takeDigits_19 rfl (lv_at hl 0 rfl) ?_
        have hFc := va_freeI hD hS hA
        refine va_calli (va_runV (As := [.int z_1166]) (rest := []) ⟨hx, hb, hml, hown, hts⟩ (tX3_byteAt l dC dI _ oR iR_faultNumber iR_faultPlace iR_tapeSize rR_tape fR_tape kR_tape iR_end iR_tokenKind iR_tokenFrom iR_tokenTo iR_tokenName iR_tokenKey z_1167 oC iR_courtTold rR_names rR_keys z_1166 b_iR_tapeSize b_iR_courtTold) (cwV 1 hts (wd_V wd_226 wd_227 wd_228 wd_15 (wd_c wd_229)) rfl rfl rfl dv_yX3_byteAt_1 ⟨Nat.le_of_ble_eq_true rfl, Nat.le_of_ble_eq_true rfl⟩) ⟨Pw.fb, recvX3 hK hP (q0 := 0) rfl, fun U hU hW => Pw.to hP hD hK hE hS hFc hU hW⟩ rfl rfl hl.1 rfl (lv_room (Nat.le_of_ble_eq_true rfl)) dX3_takeDigits_20 ⟨Nat.le_of_ble_eq_true rfl, Nat.le_of_ble_eq_true rfl⟩) hS (fun q _ h => hFc q h) hFc (fun r u t H locs ht hvm hw hB hz1 hk1 hS => ?_)
        have hru9 := hw.2
        have hw := hw.1
        obtain ⟨hP, hD⟩ := Bw.goA (ws' := [(oc3 oR iR_faultNumber iR_faultPlace iR_tapeSize rR_tape iR_end iR_tokenKind iR_tokenFrom iR_tokenTo iR_tokenName iR_tokenKey z_1167 oC iR_courtTold rR_names rR_keys), (arI rR_tape kR_tape 900 fR_tape)]) hB rfl ht hFc rfl
        clear hz1 hk1 hvm ht hB
        obtain ⟨x_1172, rfl⟩ : ∃ z, z = r := ⟨_, rfl⟩
        have hG := hG.trans (lt_eq hru9.symm)
        have rg_x_1172 := fb_rng x_1172
        have hFc : ∀ q, va_A [] _ q → A q := fun q h => hA q (Nat.le_trans hS.1 (va_nilA h))
        refine va_calli (va_runS (As := [.int x_1172]) (rest := []) ⟨hx, hb, hml, hown, hts⟩ (tX3_isDigit l dC dI _ x_1172 ) (va_cwS 1 hts (wd_S wd_238 wd_239 wd_15 (wd_c wd_240)) rfl rfl rfl ds_yX3_isDigit_1 ⟨Nat.le_of_ble_eq_true rfl, Nat.le_of_ble_eq_true rfl⟩) ⟨Pw.fb, fun U hU hW => Pn.to hK hE hS hA hU hW⟩ rfl rfl hl.1 rfl (lv_room (Nat.le_of_ble_eq_true rfl)) dX3_takeDigits_23 ⟨Nat.le_of_ble_eq_true rfl, Nat.le_of_ble_eq_true rfl⟩) hS (fun q _ h => hFc q h) hFc (fun r u t H locs ht hvm hw hB hz1 hk1 hS => ?_)
        obtain ⟨hP, hD, hK⟩ := Bw.same ht hvm hP hD hK hk1 hFc
        clear hz1 hk1 hvm ht hB
        have hq9 := hw.2
        have hw := hw.1
        obtain ⟨x_1173, rfl⟩ : ∃ z, z = r := ⟨_, rfl⟩
        have hq_x_1173 := hq9
        have hG := hG.trans (lt_eq hq_x_1173.symm)
        have rg_x_1173 := fb_rng x_1173
        have bx_1173 := hw.1
        have dx_1173 := bz_tb bx_1173
        refine lv_if_eq (tgt := 55) hx hb dX3_takeDigits_26 (by decide) (fun c_1174 => ?_) (fun c_1174 => ?_)
        · skip
          have hG := hG.trans (if_pos c_1174)
          have gc_1174 := ti_eq c_1174 rfl kc_0
          refine lv_aload_n hx hb dX3_takeDigits_55 rfl (lv_at hl 1 rfl) ?_
          refine lv_iload_n hx hb dX3_takeDigits_56 rfl (lv_at hl 0 rfl) ?_
          refine va_put (D := (dC, dI)) (ci := 3) (v := .int z_1166) (ty := .int) (C := RX3) (T := TX3) (N := 15) hx hb hts inX3 tyX3 tyX3_ok nmX3 hown hK hP hD hS 0 rfl rfl 7 (by decide) (hts _ wd_209) (fun _ h9 => h9) rfl (by decide +kernel) rfl rfl (Nat.le_of_ble_eq_true rfl) dX3_takeDigits_57 (fun H locs hP hD hS => ?_)
          obtain ⟨hP, hD⟩ := wl2 (ws' := [(oc3 oR iR_faultNumber iR_faultPlace iR_tapeSize rR_tape iR_end iR_tokenKind iR_tokenFrom z_1166 iR_tokenName iR_tokenKey z_1167 oC iR_courtTold rR_names rR_keys), (arI rR_tape kR_tape 900 fR_tape)]) hP hD rfl
          refine lv_aload_n hx hb dX3_takeDigits_60 rfl (lv_at hl 1 rfl) ?_
          refine lv_iload_n hx hb dX3_takeDigits_61 rfl (lv_at hl 0 rfl) ?_
          refine lv_aload_n hx hb dX3_takeDigits_62 rfl (lv_at hl 1 rfl) ?_
          refine va_get (D := (dC, dI)) (ci := 3) (v := .int iR_tokenFrom) (C := RX3) (T := TX3) (N := 15) hx hb hts inX3 hown hK hP 0 rfl rfl 6 (by decide) (hts _ wd_224) (fun _ h9 => h9) rfl dX3_takeDigits_63 ?_
          refine lv_isub hx hb dX3_takeDigits_66 ?_
          refine lv_topi (fun x_1175 ex_1175 => ?_)
          have hG := hG.trans (lt_eq ex_1175)
          have rg_x_1175 := fb_rng x_1175
          refine lv_iconst (v := 3) hx hb dX3_takeDigits_67 (by decide) ?_
          refine lv_icmp_gt (tgt := 75) hx hb dX3_takeDigits_68 (by decide) (fun c_1176 => ?_) (fun c_1176 => ?_)
          · skip
            have hG := hG.trans (if_pos c_1176)
            have gc_1176 := ti_lt c_1176 kc_3 rfl
            refine lv_iconst (v := 5) hx hb dX3_takeDigits_75 (by decide) ?_
            refine va_put (D := (dC, dI)) (ci := 3) (v := .int 5) (ty := .int) (C := RX3) (T := TX3) (N := 15) hx hb hts inX3 tyX3 tyX3_ok nmX3 hown hK hP hD hS 0 rfl rfl 5 (by decide) (hts _ wd_210) (fun _ h9 => h9) rfl (by decide +kernel) rfl rfl (Nat.le_of_ble_eq_true rfl) dX3_takeDigits_76 (fun H locs hP hD hS => ?_)
            obtain ⟨hP, hD⟩ := wl2 (ws' := [(oc3 oR iR_faultNumber iR_faultPlace iR_tapeSize rR_tape iR_end 5 iR_tokenFrom z_1166 iR_tokenName iR_tokenKey z_1167 oC iR_courtTold rR_names rR_keys), (arI rR_tape kR_tape 900 fR_tape)]) hP hD rfl
            exact wq_v hx hb hr 0 trivial (fun t ht hW => ⟨5, z_1166, z_1167, (by decide), hG, Bw.to hP hD hK ht hW⟩) hS dX3_takeDigits_79 hlocks
          · skip
            have hG := hG.trans (if_neg c_1176)
            have gc_1176 := ti_nlt c_1176 kc_3 rfl
            refine lv_iconst (v := 2) hx hb dX3_takeDigits_71 (by decide) ?_
            refine lv_goto (tgt := 76) hx hb dX3_takeDigits_72 (by decide) ?_
            refine va_put (D := (dC, dI)) (ci := 3) (v := .int 2) (ty := .int) (C := RX3) (T := TX3) (N := 15) hx hb hts inX3 tyX3 tyX3_ok nmX3 hown hK hP hD hS 0 rfl rfl 5 (by decide) (hts _ wd_210) (fun _ h9 => h9) rfl (by decide +kernel) rfl rfl (Nat.le_of_ble_eq_true rfl) dX3_takeDigits_76 (fun H locs hP hD hS => ?_)
            obtain ⟨hP, hD⟩ := wl2 (ws' := [(oc3 oR iR_faultNumber iR_faultPlace iR_tapeSize rR_tape iR_end 2 iR_tokenFrom z_1166 iR_tokenName iR_tokenKey z_1167 oC iR_courtTold rR_names rR_keys), (arI rR_tape kR_tape 900 fR_tape)]) hP hD rfl
            exact wq_v hx hb hr 0 trivial (fun t ht hW => ⟨2, z_1166, z_1167, (by decide), hG, Bw.to hP hD hK ht hW⟩) hS dX3_takeDigits_79 hlocks
        · skip
          have hG := hG.trans (if_neg c_1174)
          have gc_1174 := ti_ne c_1174 rfl kc_0
          refine lv_aload_n hx hb dX3_takeDigits_29 rfl (lv_at hl 1 rfl) ?_
          refine lv_aload_n hx hb dX3_takeDigits_30 rfl (lv_at hl 1 rfl) ?_
          refine va_get (D := (dC, dI)) (ci := 3) (v := .int z_1167) (C := RX3) (T := TX3) (N := 15) hx hb hts inX3 hown hK hP 0 rfl rfl 10 (by decide) (hts _ wd_245) (fun _ h9 => h9) rfl dX3_takeDigits_31 ?_
          refine lv_bipush (v := 10) hx hb dX3_takeDigits_34 (by decide) ?_
          refine lv_imul hx hb dX3_takeDigits_36 ?_
          refine lv_topi (fun x_1177 ex_1177 => ?_)
          have hG := hG.trans (lt_eq ex_1177)
          have rg_x_1177 := fb_rng x_1177
          refine lv_aload_n hx hb dX3_takeDigits_37 rfl (lv_at hl 1 rfl) ?_
          refine lv_iload_n hx hb dX3_takeDigits_38 rfl (lv_at hl 0 rfl) ?_
          have hFc := va_freeI hD hS hA
          refine va_calli (va_runV (As := [.int z_1166]) (rest := [.int x_1177, .ref oR]) ⟨hx, hb, hml, hown, hts⟩ (tX3_byteAt l dC dI _ oR iR_faultNumber iR_faultPlace iR_tapeSize rR_tape fR_tape kR_tape iR_end iR_tokenKind iR_tokenFrom iR_tokenTo iR_tokenName iR_tokenKey z_1167 oC iR_courtTold rR_names rR_keys z_1166 b_iR_tapeSize b_iR_courtTold) (cwV 1 hts (wd_V wd_226 wd_227 wd_228 wd_15 (wd_c wd_229)) rfl rfl rfl dv_yX3_byteAt_1 ⟨Nat.le_of_ble_eq_true rfl, Nat.le_of_ble_eq_true rfl⟩) ⟨Pw.fb, recvX3 hK hP (q0 := 0) rfl, fun U hU hW => Pw.to hP hD hK hE hS hFc hU hW⟩ rfl rfl hl.1 rfl (lv_room (Nat.le_of_ble_eq_true rfl)) dX3_takeDigits_39 ⟨Nat.le_of_ble_eq_true rfl, Nat.le_of_ble_eq_true rfl⟩) hS (fun q _ h => hFc q h) hFc (fun r u t H locs ht hvm hw hB hz1 hk1 hS => ?_)
          have hru9 := hw.2
          have hw := hw.1
          obtain ⟨hP, hD⟩ := Bw.goA (ws' := [(oc3 oR iR_faultNumber iR_faultPlace iR_tapeSize rR_tape iR_end iR_tokenKind iR_tokenFrom iR_tokenTo iR_tokenName iR_tokenKey z_1167 oC iR_courtTold rR_names rR_keys), (arI rR_tape kR_tape 900 fR_tape)]) hB rfl ht hFc rfl
          clear hz1 hk1 hvm ht hB
          obtain ⟨x_1178, rfl⟩ : ∃ z, z = r := ⟨_, rfl⟩
          have hG := hG.trans (lt_eq hru9.symm)
          have rg_x_1178 := fb_rng x_1178
          refine lv_bipush (v := 48) hx hb dX3_takeDigits_42 (by decide) ?_
          refine lv_isub hx hb dX3_takeDigits_44 ?_
          refine lv_topi (fun x_1179 ex_1179 => ?_)
          have hG := hG.trans (lt_eq ex_1179)
          have rg_x_1179 := fb_rng x_1179
          refine lv_iadd hx hb dX3_takeDigits_45 ?_
          refine lv_topi (fun x_1180 ex_1180 => ?_)
          have hG := hG.trans (lt_eq ex_1180)
          have rg_x_1180 := fb_rng x_1180
          refine va_put (D := (dC, dI)) (ci := 3) (v := .int x_1180) (ty := .int) (C := RX3) (T := TX3) (N := 15) hx hb hts inX3 tyX3 tyX3_ok nmX3 hown hK hP hD hS 0 rfl rfl 10 (by decide) (hts _ wd_245) (fun _ h9 => h9) rfl (by decide +kernel) rfl rfl (Nat.le_of_ble_eq_true rfl) dX3_takeDigits_46 (fun H locs hP hD hS => ?_)
          obtain ⟨hP, hD⟩ := wl2 (ws' := [(oc3 oR iR_faultNumber iR_faultPlace iR_tapeSize rR_tape iR_end iR_tokenKind iR_tokenFrom iR_tokenTo iR_tokenName iR_tokenKey x_1180 oC iR_courtTold rR_names rR_keys), (arI rR_tape kR_tape 900 fR_tape)]) hP hD rfl
          obtain ⟨x_1181, ex_1181⟩ : ∃ z : Int32, z = z_1166 + Int32.ofInt 1 := ⟨_, rfl⟩
          have hG := hG.trans (lt_eq ex_1181)
          have vx_1181 : x_1181.toInt = z_1166.toInt + 1 := ti_add (y := 1) ex_1181 rfl kc_1 (om_f7d4aae6 hi0_n_1168.1) (om_219cd8d8 rg_iR_end.2 gc_1169)
          refine lv_iinc (v := x_1181) (lv' := [(1, .int x_1181), (0, .ref oR)]) hx hb dX3_takeDigits_49 hl (k := 0) rfl ex_1181.symm (by decide) rfl (fun ls hl => ?_)
          refine lv_goto (tgt := 10) hx hb dX3_takeDigits_52 (by decide) ?_
          exact ih_n_1168 x_1181 x_1180 _ _ _  ⟨(om_ecc37d4d hi0_n_1168.1 vx_1181), (om_5c6bfac3 rg_iR_end.2 gc_1169 vx_1181)⟩ (ms_lt hm_n_1168 (om_b9393183 vx_1181) (om_bc4d5040 rg_iR_end.2 gc_1169)) hG hP hD hS (lv_sub hl [0, 1] rfl)
  exact key_n_1168 (((2147483647 - iR_tokenFrom.toInt).toNat) + 1) iR_tokenFrom 0 _ _ _  ⟨(om_341146a3 rg_iR_tokenFrom.1), (om_5a94aa53 rg_iR_tokenFrom.2)⟩ (Nat.lt_add_one _) hG hP hD hS hl
set_option maxHeartbeats 4000000 in
set_option maxRecDepth 100000 in
theorem tX3_nextToken (l : Launch) (dC : Nat → ClassId) (dI : Nat → Nat → Nat) (sz : Nat) (oR : Nat) (iR_faultNumber : Int32) (iR_faultPlace : Int32) (iR_tapeSize : Int32) (rR_tape : Nat) (fR_tape : Nat → Int32) (kR_tape : ClassId) (iR_end : Int32) (iR_tokenKind : Int32) (iR_tokenFrom : Int32) (iR_tokenTo : Int32) (iR_tokenName : Int64) (iR_tokenKey : Int32) (iR_tokenWhole : Int32) (oC : Nat) (iR_courtTold : Int32) (rR_names : Nat) (rR_keys : Nat) (fR_keys : Nat → Int64) (kR_keys : ClassId) (b_iR_tapeSize : 0 ≤ iR_tapeSize.toInt ∧ iR_tapeSize.toInt ≤ 900) (b_iR_courtTold : 0 ≤ iR_courtTold.toInt ∧ iR_courtTold.toInt ≤ 1)  : Met l yX3_nextToken (Cond.code yX3_nextToken cX3_nextToken 3 none :: wG) ({ frames := 2, cells := 0, slots := 0, locals := 44 }) (va_Pc [.ref oR] (Pw dC dI sz [(oc3 oR iR_faultNumber iR_faultPlace iR_tapeSize rR_tape iR_end iR_tokenKind iR_tokenFrom iR_tokenTo iR_tokenName iR_tokenKey iR_tokenWhole oC iR_courtTold rR_names rR_keys), (arI rR_tape kR_tape 900 fR_tape), (arL rR_keys kR_keys 10 fR_keys)] [(kR_tape, .byte), (kR_keys, .long)])) (va_Qv (fun (_ : Nat) => True) (fun (_ : Nat) (t : State) => ∃ (niR_tokenKind : Int32) (niR_tokenFrom : Int32) (niR_tokenTo : Int32) (niR_tokenName : Int64) (niR_tokenKey : Int32) (niR_tokenWhole : Int32), (PX3_nextToken fR_tape iR_end iR_tokenTo iR_tokenName iR_tokenWhole fR_keys = (niR_tokenKind, niR_tokenFrom, niR_tokenTo, niR_tokenName, niR_tokenKey, niR_tokenWhole)) ∧ Bw dC dI (va_A [(oc3 oR iR_faultNumber iR_faultPlace iR_tapeSize rR_tape iR_end iR_tokenKind iR_tokenFrom iR_tokenTo iR_tokenName iR_tokenKey iR_tokenWhole oC iR_courtTold rR_names rR_keys), (arI rR_tape kR_tape 900 fR_tape), (arL rR_keys kR_keys 10 fR_keys)] sz) [(oc3 oR iR_faultNumber iR_faultPlace iR_tapeSize rR_tape iR_end niR_tokenKind niR_tokenFrom niR_tokenTo niR_tokenName niR_tokenKey niR_tokenWhole oC iR_courtTold rR_names rR_keys), (arI rR_tape kR_tape 900 fR_tape), (arL rR_keys kR_keys 10 fR_keys)] [(kR_tape, .byte), (kR_keys, .long)] t) (va_A [(oc3 oR iR_faultNumber iR_faultPlace iR_tapeSize rR_tape iR_end iR_tokenKind iR_tokenFrom iR_tokenTo iR_tokenName iR_tokenKey iR_tokenWhole oC iR_courtTold rR_names rR_keys), (arI rR_tape kR_tape 900 fR_tape), (arL rR_keys kR_keys 10 fR_keys)] sz)) 0 0 (va_A [(oc3 oR iR_faultNumber iR_faultPlace iR_tapeSize rR_tape iR_end iR_tokenKind iR_tokenFrom iR_tokenTo iR_tokenName iR_tokenKey iR_tokenWhole oC iR_courtTold rR_names rR_keys), (arI rR_tape kR_tape 900 fR_tape), (arL rR_keys kR_keys 10 fR_keys)] sz) := by
  refine Met.ofW (cc := cX3_nextToken) (maxL := 3) (ret := none) pnX3 rfl ?_
  intro p e s m args below meth c s₁ B hml hv
  obtain ⟨rfl, hsz, hP, hK, hD0, hE⟩ := hv
  have hx := B.exec
  have hb := B.bytes
  have hr := B.returns
  have hts : ∀ w ∈ wG, w.before ([.ref oR] : List Value).toArray s = true := fun w h => atoms_spec (ws := Cond.code yX3_nextToken cX3_nextToken 3 none :: wG) B.pre w (List.mem_cons_of_mem _ h)
  have hown : s.vm.findClass RX3 = some m.cls := own_of B.named rfl
  have hlocks := B.notSynchronized
  subst hsz
  have hD := hD0.self (sz := s.heap.size)
  generalize hAe : va_A [(oc3 oR iR_faultNumber iR_faultPlace iR_tapeSize rR_tape iR_end iR_tokenKind iR_tokenFrom iR_tokenTo iR_tokenName iR_tokenKey iR_tokenWhole oC iR_courtTold rR_names rR_keys), (arI rR_tape kR_tape 900 fR_tape), (arL rR_keys kR_keys 10 fR_keys)] s.heap.size = A at hD hE ⊢
  have hA : ∀ q : Nat, s.heap.size ≤ q → A q := fun q h => by rw [← hAe]; exact Or.inr h
  have hS : va_S A s.heap s.heap [] := va_S.rf
  have hl := lv_entry ([.ref oR]) (n := 3) (Nat.le_of_ble_eq_true rfl)
  rw [lg_entry_eq]
  generalize (lg_sl ([.ref oR]) ++ List.replicate (3 - (lg_sl ([.ref oR])).length) Slot.unset).toArray = ls at hl ⊢
  have hl : lv_has ls 3 [(0, .ref oR)] := hl
  have hG := PX3_nextToken_eq fR_tape iR_end iR_tokenTo iR_tokenName iR_tokenWhole fR_keys
  refine lv_aload_n hx hb dX3_nextToken_0 rfl (lv_at hl 0 rfl) ?_
  refine va_get (D := (dC, dI)) (ci := 3) (v := .int iR_tokenTo) (C := RX3) (T := TX3) (N := 15) hx hb hts inX3 hown hK hP 0 rfl rfl 7 (by decide) (hts _ wd_209) (fun _ h9 => h9) rfl dX3_nextToken_1 ?_
  have rg_iR_tokenTo := fb_rng iR_tokenTo
  refine lv_istore_n (lv' := [(1, .int iR_tokenTo), (0, .ref oR)]) hx hb dX3_nextToken_4 rfl hl (by decide) rfl (fun ls hl => ?_)
  have hl := lv_sub hl (l' := [(1, .int iR_tokenTo), (0, .ref oR)]) [0, 1] rfl
  have key_n_1208 : ∀ (n_1208 : Nat) (z_1207 : Int32) (H : Heap) (locs : List Loc) (ls : Array Slot), ((-2147483648) ≤ z_1207.toInt ∧ z_1207.toInt ≤ 2147483647) → (2147483647 - z_1207.toInt).toNat < n_1208 → (PX3_nextToken fR_tape iR_end iR_tokenTo iR_tokenName iR_tokenWhole fR_keys = HX3_nextToken_0 fR_tape iR_end iR_tokenName iR_tokenWhole fR_keys n_1208 z_1207) → va_P (dC, dI) vwCl [(oc3 oR iR_faultNumber iR_faultPlace iR_tapeSize rR_tape iR_end iR_tokenKind iR_tokenFrom iR_tokenTo iR_tokenName iR_tokenKey iR_tokenWhole oC iR_courtTold rR_names rR_keys), (arI rR_tape kR_tape 900 fR_tape), (arL rR_keys kR_keys 10 fR_keys)] H → va_D A [(oc3 oR iR_faultNumber iR_faultPlace iR_tapeSize rR_tape iR_end iR_tokenKind iR_tokenFrom iR_tokenTo iR_tokenName iR_tokenKey iR_tokenWhole oC iR_courtTold rR_names rR_keys), (arI rR_tape kR_tape 900 fR_tape), (arL rR_keys kR_keys 10 fR_keys)] → va_S A s.heap H locs → lv_has ls 3 [(1, .int z_1207), (0, .ref oR)] → W p l e (headSpec (Cond.code yX3_nextToken cX3_nextToken 3 none :: wG) ({ frames := 2, cells := 0, slots := 0, locals := 44 })).room s m ([.ref oR] : List Value).toArray below meth c H locs 0 0 (MQ below (va_Qv (fun (_ : Nat) => True) (fun (_ : Nat) (t : State) => ∃ (niR_tokenKind : Int32) (niR_tokenFrom : Int32) (niR_tokenTo : Int32) (niR_tokenName : Int64) (niR_tokenKey : Int32) (niR_tokenWhole : Int32), (PX3_nextToken fR_tape iR_end iR_tokenTo iR_tokenName iR_tokenWhole fR_keys = (niR_tokenKind, niR_tokenFrom, niR_tokenTo, niR_tokenName, niR_tokenKey, niR_tokenWhole)) ∧ Bw dC dI A [(oc3 oR iR_faultNumber iR_faultPlace iR_tapeSize rR_tape iR_end niR_tokenKind niR_tokenFrom niR_tokenTo niR_tokenName niR_tokenKey niR_tokenWhole oC iR_courtTold rR_names rR_keys), (arI rR_tape kR_tape 900 fR_tape), (arL rR_keys kR_keys 10 fR_keys)] [(kR_tape, .byte), (kR_keys, .long)] t) A) ([.ref oR] : List Value).toArray s 0 0 A) (F0 m 5 ls []) := by
    intro n_1208
    induction n_1208 with
    | zero => intro z_1207 H locs ls hi0_n_1208 hm; exact absurd hm (Nat.not_lt_zero _)
    | succ n_1208 ih_n_1208 =>
      intro z_1207 H locs ls hi0_n_1208 hm_n_1208 hG hP hD hS hl
      have hG := hG.trans (HX3_nextToken_0_eq _ _ _ _ _ _ _)
      have rg_z_1207 := fb_rng z_1207
      refine lv_iload_n hx hb dX3_nextToken_5 rfl (lv_at hl 0 rfl) ?_
      refine lv_aload_n hx hb dX3_nextToken_6 rfl (lv_at hl 1 rfl) ?_
      refine va_get (D := (dC, dI)) (ci := 3) (v := .int iR_end) (C := RX3) (T := TX3) (N := 15) hx hb hts inX3 hown hK hP 0 rfl rfl 4 (by decide) (hts _ wd_205) (fun _ h9 => h9) rfl dX3_nextToken_7 ?_
      have rg_iR_end := fb_rng iR_end
      refine lv_icmp_ge (tgt := 29) hx hb dX3_nextToken_10 (by decide) (fun c_1209 => ?_) (fun c_1209 => ?_)
      · skip
        have hG := hG.trans (if_pos c_1209)
        have gc_1209 := ti_le c_1209 rfl rfl
        refine lv_aload_n hx hb dX3_nextToken_29 rfl (lv_at hl 1 rfl) ?_
        refine lv_iload_n hx hb dX3_nextToken_30 rfl (lv_at hl 0 rfl) ?_
        refine va_put (D := (dC, dI)) (ci := 3) (v := .int z_1207) (ty := .int) (C := RX3) (T := TX3) (N := 15) hx hb hts inX3 tyX3 tyX3_ok nmX3 hown hK hP hD hS 0 rfl rfl 6 (by decide) (hts _ wd_224) (fun _ h9 => h9) rfl (by decide +kernel) rfl rfl (Nat.le_of_ble_eq_true rfl) dX3_nextToken_31 (fun H locs hP hD hS => ?_)
        obtain ⟨hP, hD⟩ := wl2 (ws' := [(oc3 oR iR_faultNumber iR_faultPlace iR_tapeSize rR_tape iR_end iR_tokenKind z_1207 iR_tokenTo iR_tokenName iR_tokenKey iR_tokenWhole oC iR_courtTold rR_names rR_keys), (arI rR_tape kR_tape 900 fR_tape), (arL rR_keys kR_keys 10 fR_keys)]) hP hD rfl
        refine lv_aload_n hx hb dX3_nextToken_34 rfl (lv_at hl 1 rfl) ?_
        refine lv_iload_n hx hb dX3_nextToken_35 rfl (lv_at hl 0 rfl) ?_
        refine lv_iconst (v := 1) hx hb dX3_nextToken_36 (by decide) ?_
        refine lv_iadd hx hb dX3_nextToken_37 ?_
        refine lv_topi (fun x_1210 ex_1210 => ?_)
        have hG := hG.trans (lt_eq ex_1210)
        have rg_x_1210 := fb_rng x_1210
        refine va_put (D := (dC, dI)) (ci := 3) (v := .int x_1210) (ty := .int) (C := RX3) (T := TX3) (N := 15) hx hb hts inX3 tyX3 tyX3_ok nmX3 hown hK hP hD hS 0 rfl rfl 7 (by decide) (hts _ wd_209) (fun _ h9 => h9) rfl (by decide +kernel) rfl rfl (Nat.le_of_ble_eq_true rfl) dX3_nextToken_38 (fun H locs hP hD hS => ?_)
        obtain ⟨hP, hD⟩ := wl2 (ws' := [(oc3 oR iR_faultNumber iR_faultPlace iR_tapeSize rR_tape iR_end iR_tokenKind z_1207 x_1210 iR_tokenName iR_tokenKey iR_tokenWhole oC iR_courtTold rR_names rR_keys), (arI rR_tape kR_tape 900 fR_tape), (arL rR_keys kR_keys 10 fR_keys)]) hP hD rfl
        refine lv_aload_n hx hb dX3_nextToken_41 rfl (lv_at hl 1 rfl) ?_
        refine lv_iconst (v := (-1)) hx hb dX3_nextToken_42 (by decide) ?_
        refine va_put (D := (dC, dI)) (ci := 3) (v := .int (-1)) (ty := .int) (C := RX3) (T := TX3) (N := 15) hx hb hts inX3 tyX3 tyX3_ok nmX3 hown hK hP hD hS 0 rfl rfl 9 (by decide) (hts _ wd_225) (fun _ h9 => h9) rfl (by decide +kernel) rfl rfl (Nat.le_of_ble_eq_true rfl) dX3_nextToken_43 (fun H locs hP hD hS => ?_)
        obtain ⟨hP, hD⟩ := wl2 (ws' := [(oc3 oR iR_faultNumber iR_faultPlace iR_tapeSize rR_tape iR_end iR_tokenKind z_1207 x_1210 iR_tokenName (-1) iR_tokenWhole oC iR_courtTold rR_names rR_keys), (arI rR_tape kR_tape 900 fR_tape), (arL rR_keys kR_keys 10 fR_keys)]) hP hD rfl
        refine lv_aload_n hx hb dX3_nextToken_46 rfl (lv_at hl 1 rfl) ?_
        refine lv_iload_n hx hb dX3_nextToken_47 rfl (lv_at hl 0 rfl) ?_
        have hMs := ml_of hD [true, true, false] (wc := [(oc3 oR iR_faultNumber iR_faultPlace iR_tapeSize rR_tape iR_end iR_tokenKind z_1207 x_1210 iR_tokenName (-1) iR_tokenWhole oC iR_courtTold rR_names rR_keys), (arI rR_tape kR_tape 900 fR_tape)]) rfl
        have hFc := va_freeM hD hS hA _ hMs
        refine va_calli (va_runV (As := [.int z_1207]) (rest := []) ⟨hx, hb, hml, hown, hts⟩ (tX3_byteAt l dC dI _ oR iR_faultNumber iR_faultPlace iR_tapeSize rR_tape fR_tape kR_tape iR_end iR_tokenKind z_1207 x_1210 iR_tokenName (-1) iR_tokenWhole oC iR_courtTold rR_names rR_keys z_1207 b_iR_tapeSize b_iR_courtTold) (cwV 1 hts (wd_V wd_226 wd_227 wd_228 wd_15 (wd_c wd_229)) rfl rfl rfl dv_yX3_byteAt_1 ⟨Nat.le_of_ble_eq_true rfl, Nat.le_of_ble_eq_true rfl⟩) ⟨Pw.fb, recvX3 hK hP (q0 := 0) rfl, fun U hU hW => Pw.to (hP.ms _ hMs) (hD.ms _ hMs) (hK.ms [true, false] rfl) hE hS hFc hU hW⟩ rfl rfl hl.1 rfl (lv_room (Nat.le_of_ble_eq_true rfl)) dX3_nextToken_48 ⟨Nat.le_of_ble_eq_true rfl, Nat.le_of_ble_eq_true rfl⟩) hS (fun q _ h => hFc q h) hFc (fun r u t H locs ht hvm hw hB hz1 hk1 hS => ?_)
        have hru9 := hw.2
        have hw := hw.1
        obtain ⟨hP, hD⟩ := Bw.goN (ws' := [(oc3 oR iR_faultNumber iR_faultPlace iR_tapeSize rR_tape iR_end iR_tokenKind z_1207 x_1210 iR_tokenName (-1) iR_tokenWhole oC iR_courtTold rR_names rR_keys), (arI rR_tape kR_tape 900 fR_tape), (arL rR_keys kR_keys 10 fR_keys)]) hB rfl ht hP hD _ hMs hk1 hFc rfl
        clear hz1 hk1 hvm ht hB hMs
        obtain ⟨x_1211, rfl⟩ : ∃ z, z = r := ⟨_, rfl⟩
        have hG := hG.trans (lt_eq hru9.symm)
        have rg_x_1211 := fb_rng x_1211
        refine lv_istore_n (lv' := [(2, .int x_1211), (1, .int z_1207), (0, .ref oR)]) hx hb dX3_nextToken_51 rfl hl (by decide) rfl (fun ls hl => ?_)
        refine lv_iload_n hx hb dX3_nextToken_52 rfl (lv_at hl 1 rfl) ?_
        refine lv_aload_n hx hb dX3_nextToken_53 rfl (lv_at hl 2 rfl) ?_
        refine va_get (D := (dC, dI)) (ci := 3) (v := .int iR_end) (C := RX3) (T := TX3) (N := 15) hx hb hts inX3 hown hK hP 0 rfl rfl 4 (by decide) (hts _ wd_205) (fun _ h9 => h9) rfl dX3_nextToken_54 ?_
        refine lv_icmp_lt (tgt := 76) hx hb dX3_nextToken_57 (by decide) (fun c_1212 => ?_) (fun c_1212 => ?_)
        · skip
          have hG := hG.trans (if_pos c_1212)
          have gc_1212 := ti_lt c_1212 rfl rfl
          exact ((om_7e8a5049 gc_1209 gc_1212)).elim
        · skip
          have hG := hG.trans (if_neg c_1212)
          have gc_1212 := ti_nlt c_1212 rfl rfl
          refine lv_aload_n hx hb dX3_nextToken_60 rfl (lv_at hl 2 rfl) ?_
          refine lv_iconst (v := 0) hx hb dX3_nextToken_61 (by decide) ?_
          refine va_put (D := (dC, dI)) (ci := 3) (v := .int 0) (ty := .int) (C := RX3) (T := TX3) (N := 15) hx hb hts inX3 tyX3 tyX3_ok nmX3 hown hK hP hD hS 0 rfl rfl 5 (by decide) (hts _ wd_210) (fun _ h9 => h9) rfl (by decide +kernel) rfl rfl (Nat.le_of_ble_eq_true rfl) dX3_nextToken_62 (fun H locs hP hD hS => ?_)
          obtain ⟨hP, hD⟩ := wl2 (ws' := [(oc3 oR iR_faultNumber iR_faultPlace iR_tapeSize rR_tape iR_end 0 z_1207 x_1210 iR_tokenName (-1) iR_tokenWhole oC iR_courtTold rR_names rR_keys), (arI rR_tape kR_tape 900 fR_tape), (arL rR_keys kR_keys 10 fR_keys)]) hP hD rfl
          refine lv_aload_n hx hb dX3_nextToken_65 rfl (lv_at hl 2 rfl) ?_
          refine lv_aload_n hx hb dX3_nextToken_66 rfl (lv_at hl 2 rfl) ?_
          refine va_get (D := (dC, dI)) (ci := 3) (v := .int iR_end) (C := RX3) (T := TX3) (N := 15) hx hb hts inX3 hown hK hP 0 rfl rfl 4 (by decide) (hts _ wd_205) (fun _ h9 => h9) rfl dX3_nextToken_67 ?_
          refine va_put (D := (dC, dI)) (ci := 3) (v := .int iR_end) (ty := .int) (C := RX3) (T := TX3) (N := 15) hx hb hts inX3 tyX3 tyX3_ok nmX3 hown hK hP hD hS 0 rfl rfl 7 (by decide) (hts _ wd_209) (fun _ h9 => h9) rfl (by decide +kernel) rfl rfl (Nat.le_of_ble_eq_true rfl) dX3_nextToken_70 (fun H locs hP hD hS => ?_)
          obtain ⟨hP, hD⟩ := wl2 (ws' := [(oc3 oR iR_faultNumber iR_faultPlace iR_tapeSize rR_tape iR_end 0 z_1207 iR_end iR_tokenName (-1) iR_tokenWhole oC iR_courtTold rR_names rR_keys), (arI rR_tape kR_tape 900 fR_tape), (arL rR_keys kR_keys 10 fR_keys)]) hP hD rfl
          refine lv_goto (tgt := 129) hx hb dX3_nextToken_73 (by decide) ?_
          exact wq_v hx hb hr 0 trivial (fun t ht hW => ⟨0, z_1207, iR_end, iR_tokenName, (-1), iR_tokenWhole, hG, Bw.to hP hD hK ht hW⟩) hS dX3_nextToken_129 hlocks
      · skip
        have hG := hG.trans (if_neg c_1209)
        have gc_1209 := ti_nle c_1209 rfl rfl
        refine lv_aload_n hx hb dX3_nextToken_13 rfl (lv_at hl 1 rfl) ?_
        refine lv_iload_n hx hb dX3_nextToken_14 rfl (lv_at hl 0 rfl) ?_
        have hMs := ml_of hD [true, true, false] (wc := [(oc3 oR iR_faultNumber iR_faultPlace iR_tapeSize rR_tape iR_end iR_tokenKind iR_tokenFrom iR_tokenTo iR_tokenName iR_tokenKey iR_tokenWhole oC iR_courtTold rR_names rR_keys), (arI rR_tape kR_tape 900 fR_tape)]) rfl
        have hFc := va_freeM hD hS hA _ hMs
        refine va_calli (va_runV (As := [.int z_1207]) (rest := []) ⟨hx, hb, hml, hown, hts⟩ (tX3_byteAt l dC dI _ oR iR_faultNumber iR_faultPlace iR_tapeSize rR_tape fR_tape kR_tape iR_end iR_tokenKind iR_tokenFrom iR_tokenTo iR_tokenName iR_tokenKey iR_tokenWhole oC iR_courtTold rR_names rR_keys z_1207 b_iR_tapeSize b_iR_courtTold) (cwV 1 hts (wd_V wd_226 wd_227 wd_228 wd_15 (wd_c wd_229)) rfl rfl rfl dv_yX3_byteAt_1 ⟨Nat.le_of_ble_eq_true rfl, Nat.le_of_ble_eq_true rfl⟩) ⟨Pw.fb, recvX3 hK hP (q0 := 0) rfl, fun U hU hW => Pw.to (hP.ms _ hMs) (hD.ms _ hMs) (hK.ms [true, false] rfl) hE hS hFc hU hW⟩ rfl rfl hl.1 rfl (lv_room (Nat.le_of_ble_eq_true rfl)) dX3_nextToken_15 ⟨Nat.le_of_ble_eq_true rfl, Nat.le_of_ble_eq_true rfl⟩) hS (fun q _ h => hFc q h) hFc (fun r u t H locs ht hvm hw hB hz1 hk1 hS => ?_)
        have hru9 := hw.2
        have hw := hw.1
        obtain ⟨hP, hD⟩ := Bw.goN (ws' := [(oc3 oR iR_faultNumber iR_faultPlace iR_tapeSize rR_tape iR_end iR_tokenKind iR_tokenFrom iR_tokenTo iR_tokenName iR_tokenKey iR_tokenWhole oC iR_courtTold rR_names rR_keys), (arI rR_tape kR_tape 900 fR_tape), (arL rR_keys kR_keys 10 fR_keys)]) hB rfl ht hP hD _ hMs hk1 hFc rfl
        clear hz1 hk1 hvm ht hB hMs
        obtain ⟨x_1213, rfl⟩ : ∃ z, z = r := ⟨_, rfl⟩
        have hG := hG.trans (lt_eq hru9.symm)
        have rg_x_1213 := fb_rng x_1213
        refine lv_bipush (v := 32) hx hb dX3_nextToken_18 (by decide) ?_
        refine lv_icmp_ne (tgt := 29) hx hb dX3_nextToken_20 (by decide) (fun c_1214 => ?_) (fun c_1214 => ?_)
        · skip
          have hG := hG.trans (if_neg c_1214)
          have gc_1214 := ti_ne c_1214 rfl kc_32
          refine lv_aload_n hx hb dX3_nextToken_29 rfl (lv_at hl 1 rfl) ?_
          refine lv_iload_n hx hb dX3_nextToken_30 rfl (lv_at hl 0 rfl) ?_
          refine va_put (D := (dC, dI)) (ci := 3) (v := .int z_1207) (ty := .int) (C := RX3) (T := TX3) (N := 15) hx hb hts inX3 tyX3 tyX3_ok nmX3 hown hK hP hD hS 0 rfl rfl 6 (by decide) (hts _ wd_224) (fun _ h9 => h9) rfl (by decide +kernel) rfl rfl (Nat.le_of_ble_eq_true rfl) dX3_nextToken_31 (fun H locs hP hD hS => ?_)
          obtain ⟨hP, hD⟩ := wl2 (ws' := [(oc3 oR iR_faultNumber iR_faultPlace iR_tapeSize rR_tape iR_end iR_tokenKind z_1207 iR_tokenTo iR_tokenName iR_tokenKey iR_tokenWhole oC iR_courtTold rR_names rR_keys), (arI rR_tape kR_tape 900 fR_tape), (arL rR_keys kR_keys 10 fR_keys)]) hP hD rfl
          refine lv_aload_n hx hb dX3_nextToken_34 rfl (lv_at hl 1 rfl) ?_
          refine lv_iload_n hx hb dX3_nextToken_35 rfl (lv_at hl 0 rfl) ?_
          refine lv_iconst (v := 1) hx hb dX3_nextToken_36 (by decide) ?_
          refine lv_iadd hx hb dX3_nextToken_37 ?_
          refine lv_topi (fun x_1215 ex_1215 => ?_)
          have hG := hG.trans (lt_eq ex_1215)
          have vx_1215 : x_1215.toInt = z_1207.toInt + 1 := ti_add ex_1215 rfl kc_1 (om_f7d4aae6 hi0_n_1208.1) (om_219cd8d8 rg_iR_end.2 gc_1209)
          refine va_put (D := (dC, dI)) (ci := 3) (v := .int x_1215) (ty := .int) (C := RX3) (T := TX3) (N := 15) hx hb hts inX3 tyX3 tyX3_ok nmX3 hown hK hP hD hS 0 rfl rfl 7 (by decide) (hts _ wd_209) (fun _ h9 => h9) rfl (by decide +kernel) rfl rfl (Nat.le_of_ble_eq_true rfl) dX3_nextToken_38 (fun H locs hP hD hS => ?_)
          obtain ⟨hP, hD⟩ := wl2 (ws' := [(oc3 oR iR_faultNumber iR_faultPlace iR_tapeSize rR_tape iR_end iR_tokenKind z_1207 x_1215 iR_tokenName iR_tokenKey iR_tokenWhole oC iR_courtTold rR_names rR_keys), (arI rR_tape kR_tape 900 fR_tape), (arL rR_keys kR_keys 10 fR_keys)]) hP hD rfl
          refine lv_aload_n hx hb dX3_nextToken_41 rfl (lv_at hl 1 rfl) ?_
          refine lv_iconst (v := (-1)) hx hb dX3_nextToken_42 (by decide) ?_
          refine va_put (D := (dC, dI)) (ci := 3) (v := .int (-1)) (ty := .int) (C := RX3) (T := TX3) (N := 15) hx hb hts inX3 tyX3 tyX3_ok nmX3 hown hK hP hD hS 0 rfl rfl 9 (by decide) (hts _ wd_225) (fun _ h9 => h9) rfl (by decide +kernel) rfl rfl (Nat.le_of_ble_eq_true rfl) dX3_nextToken_43 (fun H locs hP hD hS => ?_)
          obtain ⟨hP, hD⟩ := wl2 (ws' := [(oc3 oR iR_faultNumber iR_faultPlace iR_tapeSize rR_tape iR_end iR_tokenKind z_1207 x_1215 iR_tokenName (-1) iR_tokenWhole oC iR_courtTold rR_names rR_keys), (arI rR_tape kR_tape 900 fR_tape), (arL rR_keys kR_keys 10 fR_keys)]) hP hD rfl
          refine lv_aload_n hx hb dX3_nextToken_46 rfl (lv_at hl 1 rfl) ?_
          refine lv_iload_n hx hb dX3_nextToken_47 rfl (lv_at hl 0 rfl) ?_
          have hMs := ml_of hD [true, true, false] (wc := [(oc3 oR iR_faultNumber iR_faultPlace iR_tapeSize rR_tape iR_end iR_tokenKind z_1207 x_1215 iR_tokenName (-1) iR_tokenWhole oC iR_courtTold rR_names rR_keys), (arI rR_tape kR_tape 900 fR_tape)]) rfl
          have hFc := va_freeM hD hS hA _ hMs
          refine va_calli (va_runV (As := [.int z_1207]) (rest := []) ⟨hx, hb, hml, hown, hts⟩ (tX3_byteAt l dC dI _ oR iR_faultNumber iR_faultPlace iR_tapeSize rR_tape fR_tape kR_tape iR_end iR_tokenKind z_1207 x_1215 iR_tokenName (-1) iR_tokenWhole oC iR_courtTold rR_names rR_keys z_1207 b_iR_tapeSize b_iR_courtTold) (cwV 1 hts (wd_V wd_226 wd_227 wd_228 wd_15 (wd_c wd_229)) rfl rfl rfl dv_yX3_byteAt_1 ⟨Nat.le_of_ble_eq_true rfl, Nat.le_of_ble_eq_true rfl⟩) ⟨Pw.fb, recvX3 hK hP (q0 := 0) rfl, fun U hU hW => Pw.to (hP.ms _ hMs) (hD.ms _ hMs) (hK.ms [true, false] rfl) hE hS hFc hU hW⟩ rfl rfl hl.1 rfl (lv_room (Nat.le_of_ble_eq_true rfl)) dX3_nextToken_48 ⟨Nat.le_of_ble_eq_true rfl, Nat.le_of_ble_eq_true rfl⟩) hS (fun q _ h => hFc q h) hFc (fun r u t H locs ht hvm hw hB hz1 hk1 hS => ?_)
          have hru9 := hw.2
          have hw := hw.1
          obtain ⟨hP, hD⟩ := Bw.goN (ws' := [(oc3 oR iR_faultNumber iR_faultPlace iR_tapeSize rR_tape iR_end iR_tokenKind z_1207 x_1215 iR_tokenName (-1) iR_tokenWhole oC iR_courtTold rR_names rR_keys), (arI rR_tape kR_tape 900 fR_tape), (arL rR_keys kR_keys 10 fR_keys)]) hB rfl ht hP hD _ hMs hk1 hFc rfl
          clear hz1 hk1 hvm ht hB hMs
          obtain ⟨x_1216, rfl⟩ : ∃ z, z = r := ⟨_, rfl⟩
          have hG := hG.trans (lt_eq hru9.symm)
          have rg_x_1216 := fb_rng x_1216
          refine lv_istore_n (lv' := [(2, .int x_1216), (1, .int z_1207), (0, .ref oR)]) hx hb dX3_nextToken_51 rfl hl (by decide) rfl (fun ls hl => ?_)
          refine lv_iload_n hx hb dX3_nextToken_52 rfl (lv_at hl 1 rfl) ?_
          refine lv_aload_n hx hb dX3_nextToken_53 rfl (lv_at hl 2 rfl) ?_
          refine va_get (D := (dC, dI)) (ci := 3) (v := .int iR_end) (C := RX3) (T := TX3) (N := 15) hx hb hts inX3 hown hK hP 0 rfl rfl 4 (by decide) (hts _ wd_205) (fun _ h9 => h9) rfl dX3_nextToken_54 ?_
          refine lv_icmp_lt (tgt := 76) hx hb dX3_nextToken_57 (by decide) (fun c_1217 => ?_) (fun c_1217 => ?_)
          · skip
            have hG := hG.trans (if_pos c_1217)
            have gc_1217 := ti_lt c_1217 rfl rfl
            refine lv_iload_n hx hb dX3_nextToken_76 rfl (lv_at hl 0 rfl) ?_
            have hFc : ∀ q, va_A [] _ q → A q := fun q h => hA q (Nat.le_trans hS.1 (va_nilA h))
            refine va_calli (va_runS (As := [.int x_1216]) (rest := []) ⟨hx, hb, hml, hown, hts⟩ (tX3_isLetter l dC dI _ x_1216 ) (va_cwS 1 hts (wd_S wd_230 wd_231 wd_15 (wd_c wd_232)) rfl rfl rfl ds_yX3_isLetter_1 ⟨Nat.le_of_ble_eq_true rfl, Nat.le_of_ble_eq_true rfl⟩) ⟨Pw.fb, fun U hU hW => Pn.to hK hE hS hA hU hW⟩ rfl rfl hl.1 rfl (lv_room (Nat.le_of_ble_eq_true rfl)) dX3_nextToken_77 ⟨Nat.le_of_ble_eq_true rfl, Nat.le_of_ble_eq_true rfl⟩) hS (fun q _ h => hFc q h) hFc (fun r u t H locs ht hvm hw hB hz1 hk1 hS => ?_)
            obtain ⟨hP, hD, hK⟩ := Bw.same ht hvm hP hD hK hk1 hFc
            clear hz1 hk1 hvm ht hB
            have hq9 := hw.2
            have hw := hw.1
            obtain ⟨x_1218, rfl⟩ : ∃ z, z = r := ⟨_, rfl⟩
            have hq_x_1218 := hq9
            have hG := hG.trans (lt_eq hq_x_1218.symm)
            have rg_x_1218 := fb_rng x_1218
            have bx_1218 := hw.1
            have dx_1218 := bz_tb bx_1218
            refine lv_if_eq (tgt := 90) hx hb dX3_nextToken_80 (by decide) (fun c_1219 => ?_) (fun c_1219 => ?_)
            · skip
              have hG := hG.trans (if_pos c_1219)
              have gc_1219 := ti_eq c_1219 rfl kc_0
              refine lv_iload_n hx hb dX3_nextToken_90 rfl (lv_at hl 0 rfl) ?_
              have hFc : ∀ q, va_A [] _ q → A q := fun q h => hA q (Nat.le_trans hS.1 (va_nilA h))
              refine va_calli (va_runS (As := [.int x_1216]) (rest := []) ⟨hx, hb, hml, hown, hts⟩ (tX3_isDigit l dC dI _ x_1216 ) (va_cwS 1 hts (wd_S wd_238 wd_239 wd_15 (wd_c wd_240)) rfl rfl rfl ds_yX3_isDigit_1 ⟨Nat.le_of_ble_eq_true rfl, Nat.le_of_ble_eq_true rfl⟩) ⟨Pw.fb, fun U hU hW => Pn.to hK hE hS hA hU hW⟩ rfl rfl hl.1 rfl (lv_room (Nat.le_of_ble_eq_true rfl)) dX3_nextToken_91 ⟨Nat.le_of_ble_eq_true rfl, Nat.le_of_ble_eq_true rfl⟩) hS (fun q _ h => hFc q h) hFc (fun r u t H locs ht hvm hw hB hz1 hk1 hS => ?_)
              obtain ⟨hP, hD, hK⟩ := Bw.same ht hvm hP hD hK hk1 hFc
              clear hz1 hk1 hvm ht hB
              have hq9 := hw.2
              have hw := hw.1
              obtain ⟨x_1220, rfl⟩ : ∃ z, z = r := ⟨_, rfl⟩
              have hq_x_1220 := hq9
              have hG := hG.trans (lt_eq hq_x_1220.symm)
              have rg_x_1220 := fb_rng x_1220
              have bx_1220 := hw.1
              have dx_1220 := bz_tb bx_1220
              refine lv_if_eq (tgt := 104) hx hb dX3_nextToken_94 (by decide) (fun c_1221 => ?_) (fun c_1221 => ?_)
              · skip
                have hG := hG.trans (if_pos c_1221)
                have gc_1221 := ti_eq c_1221 rfl kc_0
                refine lv_aload_n hx hb dX3_nextToken_104 rfl (lv_at hl 2 rfl) ?_
                refine lv_iload_n hx hb dX3_nextToken_105 rfl (lv_at hl 0 rfl) ?_
                refine lv_bipush (v := 59) hx hb dX3_nextToken_106 (by decide) ?_
                refine lv_icmp_ne (tgt := 115) hx hb dX3_nextToken_108 (by decide) (fun c_1222 => ?_) (fun c_1222 => ?_)
                · skip
                  have hG := hG.trans (if_neg c_1222)
                  have gc_1222 := ti_ne c_1222 rfl kc_59
                  refine lv_iload_n hx hb dX3_nextToken_115 rfl (lv_at hl 0 rfl) ?_
                  refine lv_bipush (v := 44) hx hb dX3_nextToken_116 (by decide) ?_
                  refine lv_icmp_ne (tgt := 125) hx hb dX3_nextToken_118 (by decide) (fun c_1223 => ?_) (fun c_1223 => ?_)
                  · skip
                    have hG := hG.trans (if_neg c_1223)
                    have gc_1223 := ti_ne c_1223 rfl kc_44
                    refine lv_iconst (v := 5) hx hb dX3_nextToken_125 (by decide) ?_
                    refine va_put (D := (dC, dI)) (ci := 3) (v := .int 5) (ty := .int) (C := RX3) (T := TX3) (N := 15) hx hb hts inX3 tyX3 tyX3_ok nmX3 hown hK hP hD hS 0 rfl rfl 5 (by decide) (hts _ wd_210) (fun _ h9 => h9) rfl (by decide +kernel) rfl rfl (Nat.le_of_ble_eq_true rfl) dX3_nextToken_126 (fun H locs hP hD hS => ?_)
                    obtain ⟨hP, hD⟩ := wl2 (ws' := [(oc3 oR iR_faultNumber iR_faultPlace iR_tapeSize rR_tape iR_end 5 z_1207 x_1215 iR_tokenName (-1) iR_tokenWhole oC iR_courtTold rR_names rR_keys), (arI rR_tape kR_tape 900 fR_tape), (arL rR_keys kR_keys 10 fR_keys)]) hP hD rfl
                    exact wq_v hx hb hr 0 trivial (fun t ht hW => ⟨5, z_1207, x_1215, iR_tokenName, (-1), iR_tokenWhole, hG, Bw.to hP hD hK ht hW⟩) hS dX3_nextToken_129 hlocks
                  · skip
                    have hG := hG.trans (if_pos c_1223)
                    have gc_1223 := ti_eq c_1223 rfl kc_44
                    refine lv_iconst (v := 4) hx hb dX3_nextToken_121 (by decide) ?_
                    refine lv_goto (tgt := 126) hx hb dX3_nextToken_122 (by decide) ?_
                    refine va_put (D := (dC, dI)) (ci := 3) (v := .int 4) (ty := .int) (C := RX3) (T := TX3) (N := 15) hx hb hts inX3 tyX3 tyX3_ok nmX3 hown hK hP hD hS 0 rfl rfl 5 (by decide) (hts _ wd_210) (fun _ h9 => h9) rfl (by decide +kernel) rfl rfl (Nat.le_of_ble_eq_true rfl) dX3_nextToken_126 (fun H locs hP hD hS => ?_)
                    obtain ⟨hP, hD⟩ := wl2 (ws' := [(oc3 oR iR_faultNumber iR_faultPlace iR_tapeSize rR_tape iR_end 4 z_1207 x_1215 iR_tokenName (-1) iR_tokenWhole oC iR_courtTold rR_names rR_keys), (arI rR_tape kR_tape 900 fR_tape), (arL rR_keys kR_keys 10 fR_keys)]) hP hD rfl
                    exact wq_v hx hb hr 0 trivial (fun t ht hW => ⟨4, z_1207, x_1215, iR_tokenName, (-1), iR_tokenWhole, hG, Bw.to hP hD hK ht hW⟩) hS dX3_nextToken_129 hlocks
                · skip
                  have hG := hG.trans (if_pos c_1222)
                  have gc_1222 := ti_eq c_1222 rfl kc_59
                  refine lv_iconst (v := 3) hx hb dX3_nextToken_111 (by decide) ?_
                  refine lv_goto (tgt := 126) hx hb dX3_nextToken_112 (by decide) ?_
                  refine va_put (D := (dC, dI)) (ci := 3) (v := .int 3) (ty := .int) (C := RX3) (T := TX3) (N := 15) hx hb hts inX3 tyX3 tyX3_ok nmX3 hown hK hP hD hS 0 rfl rfl 5 (by decide) (hts _ wd_210) (fun _ h9 => h9) rfl (by decide +kernel) rfl rfl (Nat.le_of_ble_eq_true rfl) dX3_nextToken_126 (fun H locs hP hD hS => ?_)
                  obtain ⟨hP, hD⟩ := wl2 (ws' := [(oc3 oR iR_faultNumber iR_faultPlace iR_tapeSize rR_tape iR_end 3 z_1207 x_1215 iR_tokenName (-1) iR_tokenWhole oC iR_courtTold rR_names rR_keys), (arI rR_tape kR_tape 900 fR_tape), (arL rR_keys kR_keys 10 fR_keys)]) hP hD rfl
                  exact wq_v hx hb hr 0 trivial (fun t ht hW => ⟨3, z_1207, x_1215, iR_tokenName, (-1), iR_tokenWhole, hG, Bw.to hP hD hK ht hW⟩) hS dX3_nextToken_129 hlocks
              · skip
                have hG := hG.trans (if_neg c_1221)
                have gc_1221 := ti_ne c_1221 rfl kc_0
                refine lv_aload_n hx hb dX3_nextToken_97 rfl (lv_at hl 2 rfl) ?_
                have hMs := ml_of hD [true, true, false] (wc := [(oc3 oR iR_faultNumber iR_faultPlace iR_tapeSize rR_tape iR_end iR_tokenKind z_1207 x_1215 iR_tokenName (-1) iR_tokenWhole oC iR_courtTold rR_names rR_keys), (arI rR_tape kR_tape 900 fR_tape)]) rfl
                have hFc := va_freeM hD hS hA _ hMs
                refine va_callv (va_runV (As := []) (rest := []) ⟨hx, hb, hml, hown, hts⟩ (tX3_takeDigits l dC dI _ oR iR_faultNumber iR_faultPlace iR_tapeSize rR_tape fR_tape kR_tape iR_end iR_tokenKind z_1207 x_1215 iR_tokenName (-1) iR_tokenWhole oC iR_courtTold rR_names rR_keys b_iR_tapeSize b_iR_courtTold) (cwV 0 hts (wd_V wd_241 wd_242 wd_243 wd_15 (wd_c wd_244)) rfl rfl rfl dv_yX3_takeDigits_0 ⟨Nat.le_of_ble_eq_true rfl, Nat.le_of_ble_eq_true rfl⟩) ⟨Pw.fb, recvX3 hK hP (q0 := 0) rfl, fun U hU hW => Pw.to (hP.ms _ hMs) (hD.ms _ hMs) (hK.ms [true, false] rfl) hE hS hFc hU hW⟩ rfl rfl hl.1 rfl (lv_room (Nat.le_of_ble_eq_true rfl)) dX3_nextToken_98 ⟨Nat.le_of_ble_eq_true rfl, Nat.le_of_ble_eq_true rfl⟩) hS (fun q _ h => hFc q h) hFc (fun u t H locs ht hvm hw hB hz1 hk1 hS => ?_)
                refine ex_3_2 hB (fun x_1224 x_1225 x_1226 b_x_1224 e_x_1224_0 hB => ?_)
                obtain ⟨hP, hD⟩ := Bw.goN (ws' := [(oc3 oR iR_faultNumber iR_faultPlace iR_tapeSize rR_tape iR_end x_1224 z_1207 x_1225 iR_tokenName (-1) x_1226 oC iR_courtTold rR_names rR_keys), (arI rR_tape kR_tape 900 fR_tape), (arL rR_keys kR_keys 10 fR_keys)]) hB rfl ht hP hD _ hMs hk1 hFc rfl
                clear hz1 hk1 hvm ht hB hMs
                have rg_x_1224 := fb_rng x_1224
                have rg_x_1225 := fb_rng x_1225
                have rg_x_1226 := fb_rng x_1226
                have hG := hG.trans (un3_eq e_x_1224_0)
                refine lv_goto (tgt := 129) hx hb dX3_nextToken_101 (by decide) ?_
                exact wq_v hx hb hr 0 trivial (fun t ht hW => ⟨x_1224, z_1207, x_1225, iR_tokenName, (-1), x_1226, hG, Bw.to hP hD hK ht hW⟩) hS dX3_nextToken_129 hlocks
            · skip
              have hG := hG.trans (if_neg c_1219)
              have gc_1219 := ti_ne c_1219 rfl kc_0
              refine lv_aload_n hx hb dX3_nextToken_83 rfl (lv_at hl 2 rfl) ?_
              have hFc := va_freeI hD hS hA
              refine va_callv (va_runV (As := []) (rest := []) ⟨hx, hb, hml, hown, hts⟩ (tX3_takeLetters l dC dI _ oR iR_faultNumber iR_faultPlace iR_tapeSize rR_tape fR_tape kR_tape iR_end iR_tokenKind z_1207 x_1215 iR_tokenName (-1) iR_tokenWhole oC iR_courtTold rR_names rR_keys fR_keys kR_keys b_iR_tapeSize b_iR_courtTold) (cwV 0 hts (wd_V wd_233 wd_234 wd_235 wd_15 (wd_c wd_236)) rfl rfl rfl dv_yX3_takeLetters_0 ⟨Nat.le_of_ble_eq_true rfl, Nat.le_of_ble_eq_true rfl⟩) ⟨Pw.fb, recvX3 hK hP (q0 := 0) rfl, fun U hU hW => Pw.to hP hD hK hE hS hFc hU hW⟩ rfl rfl hl.1 rfl (lv_room (Nat.le_of_ble_eq_true rfl)) dX3_nextToken_84 ⟨Nat.le_of_ble_eq_true rfl, Nat.le_of_ble_eq_true rfl⟩) hS (fun q _ h => hFc q h) hFc (fun u t H locs ht hvm hw hB hz1 hk1 hS => ?_)
              refine ex_4_2 hB (fun x_1227 x_1228 y_1229 x_1230 b_x_1227 e_x_1227_0 hB => ?_)
              obtain ⟨hP, hD⟩ := Bw.goA (ws' := [(oc3 oR iR_faultNumber iR_faultPlace iR_tapeSize rR_tape iR_end x_1227 z_1207 x_1228 y_1229 x_1230 iR_tokenWhole oC iR_courtTold rR_names rR_keys), (arI rR_tape kR_tape 900 fR_tape), (arL rR_keys kR_keys 10 fR_keys)]) hB rfl ht hFc rfl
              clear hz1 hk1 hvm ht hB
              have rg_x_1227 := fb_rng x_1227
              have rg_x_1228 := fb_rng x_1228
              have rg_x_1230 := fb_rng x_1230
              have hG := hG.trans (un4_eq e_x_1227_0)
              refine lv_goto (tgt := 129) hx hb dX3_nextToken_87 (by decide) ?_
              exact wq_v hx hb hr 0 trivial (fun t ht hW => ⟨x_1227, z_1207, x_1228, y_1229, x_1230, iR_tokenWhole, hG, Bw.to hP hD hK ht hW⟩) hS dX3_nextToken_129 hlocks
          · skip
            have hG := hG.trans (if_neg c_1217)
            have gc_1217 := ti_nlt c_1217 rfl rfl
            exact ((om_1636ca6f gc_1209 gc_1217)).elim
        · skip
          have hG := hG.trans (if_pos c_1214)
          have gc_1214 := ti_eq c_1214 rfl kc_32
          obtain ⟨x_1231, ex_1231⟩ : ∃ z : Int32, z = z_1207 + Int32.ofInt 1 := ⟨_, rfl⟩
          have hG := hG.trans (lt_eq ex_1231)
          have vx_1231 : x_1231.toInt = z_1207.toInt + 1 := ti_add (y := 1) ex_1231 rfl kc_1 (om_f7d4aae6 hi0_n_1208.1) (om_219cd8d8 rg_iR_end.2 gc_1209)
          refine lv_iinc (v := x_1231) (lv' := [(1, .int x_1231), (0, .ref oR)]) hx hb dX3_nextToken_23 hl (k := 0) rfl ex_1231.symm (by decide) rfl (fun ls hl => ?_)
          refine lv_goto (tgt := 5) hx hb dX3_nextToken_26 (by decide) ?_
          exact ih_n_1208 x_1231 _ _ _  ⟨(om_ecc37d4d hi0_n_1208.1 vx_1231), (om_5c6bfac3 rg_iR_end.2 gc_1209 vx_1231)⟩ (ms_lt hm_n_1208 (om_b9393183 vx_1231) (om_bc4d5040 rg_iR_end.2 gc_1209)) hG hP hD hS (lv_sub hl [0, 1] rfl)
  exact key_n_1208 (((2147483647 - iR_tokenTo.toInt).toNat) + 1) iR_tokenTo _ _ _  ⟨(om_341146a3 rg_iR_tokenTo.1), (om_5a94aa53 rg_iR_tokenTo.2)⟩ (Nat.lt_add_one _) hG hP hD hS hl
set_option maxHeartbeats 4000000 in
set_option maxRecDepth 100000 in
theorem tX3_endNode (l : Launch) (dC : Nat → ClassId) (dI : Nat → Nat → Nat) (sz : Nat) (oR : Nat) (iR_faultNumber : Int32) (iR_faultPlace : Int32) (iR_tapeSize : Int32) (rR_tape : Nat) (iR_end : Int32) (iR_tokenKind : Int32) (iR_tokenFrom : Int32) (iR_tokenTo : Int32) (iR_tokenName : Int64) (iR_tokenKey : Int32) (iR_tokenWhole : Int32) (oC : Nat) (iR_courtTold : Int32) (rR_names : Nat) (fR_names : Nat → Int64) (kR_names : ClassId) (rR_keys : Nat) (iC_nodes : Int32) (iC_words : Int32) (iC_chances : Int32) (iC_unsures : Int32) (iC_slips : Int32) (iC_throneNode : Int32) (iC_saidWorth : Int32) (iC_unit : Int32) (rC_kind : Nat) (fC_kind : Nat → Int32) (kC_kind : ClassId) (rC_parts : Nat) (rC_partNodes : Nat) (rC_weights : Nat) (rC_weightSums : Nat) (fC_weightSums : Nat → Int32) (kC_weightSums : ClassId) (rC_toldWorths : Nat) (fC_toldWorths : Nat → Int32) (kC_toldWorths : ClassId) (rC_steps : Nat) (rC_below : Nat) (rC_above : Nat) (rC_unsureWords : Nat) (rC_unsureWorths : Nat) (p0 : Int64) (p1 : Int32) (b_iR_tapeSize : 0 ≤ iR_tapeSize.toInt ∧ iR_tapeSize.toInt ≤ 900) (b_iR_courtTold : 0 ≤ iR_courtTold.toInt ∧ iR_courtTold.toInt ≤ 1) (b_iC_nodes : 0 ≤ iC_nodes.toInt ∧ iC_nodes.toInt ≤ 18) (b_iC_unsures : 0 ≤ iC_unsures.toInt ∧ iC_unsures.toInt ≤ 4) (b_iC_throneNode : (-1) ≤ iC_throneNode.toInt ∧ iC_throneNode.toInt ≤ 17)  : Met l yX3_endNode (Cond.code yX3_endNode cX3_endNode 4 none :: wG) ({ frames := 1, cells := 0, slots := 0, locals := 21 }) (va_Pc [.ref oR, .long p0, .int p1] (Pw dC dI sz [(oc3 oR iR_faultNumber iR_faultPlace iR_tapeSize rR_tape iR_end iR_tokenKind iR_tokenFrom iR_tokenTo iR_tokenName iR_tokenKey iR_tokenWhole oC iR_courtTold rR_names rR_keys), (arL rR_names kR_names 18 fR_names), (oc1 oC iC_nodes iC_words iC_chances iC_unsures iC_slips iC_throneNode iC_saidWorth iC_unit rC_kind rC_parts rC_partNodes rC_weights rC_weightSums rC_toldWorths rC_steps rC_below rC_above rC_unsureWords rC_unsureWorths), (arI rC_kind kC_kind 18 fC_kind), (arI rC_weightSums kC_weightSums 18 fC_weightSums), (arI rC_toldWorths kC_toldWorths 18 fC_toldWorths)] [(kR_names, .long), (kC_kind, .int), (kC_weightSums, .int), (kC_toldWorths, .int)])) (va_Qv (fun (_ : Nat) => True) (fun (_ : Nat) (t : State) => ∃ (nfR_names : Nat → Int64) (niC_nodes : Int32) (niC_words : Int32) (niC_chances : Int32) (niC_unit : Int32) (nfC_toldWorths : Nat → Int32), (0 ≤ niC_nodes.toInt ∧ niC_nodes.toInt ≤ 18) ∧ (PX3_endNode fR_names iC_nodes iC_words iC_chances iC_unit fC_kind fC_weightSums fC_toldWorths p0 p1 = (nfR_names, niC_nodes, niC_words, niC_chances, niC_unit, nfC_toldWorths)) ∧ Bw dC dI (va_A [(oc3 oR iR_faultNumber iR_faultPlace iR_tapeSize rR_tape iR_end iR_tokenKind iR_tokenFrom iR_tokenTo iR_tokenName iR_tokenKey iR_tokenWhole oC iR_courtTold rR_names rR_keys), (arL rR_names kR_names 18 fR_names), (oc1 oC iC_nodes iC_words iC_chances iC_unsures iC_slips iC_throneNode iC_saidWorth iC_unit rC_kind rC_parts rC_partNodes rC_weights rC_weightSums rC_toldWorths rC_steps rC_below rC_above rC_unsureWords rC_unsureWorths), (arI rC_kind kC_kind 18 fC_kind), (arI rC_weightSums kC_weightSums 18 fC_weightSums), (arI rC_toldWorths kC_toldWorths 18 fC_toldWorths)] sz) [(oc3 oR iR_faultNumber iR_faultPlace iR_tapeSize rR_tape iR_end iR_tokenKind iR_tokenFrom iR_tokenTo iR_tokenName iR_tokenKey iR_tokenWhole oC iR_courtTold rR_names rR_keys), (arL rR_names kR_names 18 nfR_names), (oc1 oC niC_nodes niC_words niC_chances iC_unsures iC_slips iC_throneNode iC_saidWorth niC_unit rC_kind rC_parts rC_partNodes rC_weights rC_weightSums rC_toldWorths rC_steps rC_below rC_above rC_unsureWords rC_unsureWorths), (arI rC_kind kC_kind 18 fC_kind), (arI rC_weightSums kC_weightSums 18 fC_weightSums), (arI rC_toldWorths kC_toldWorths 18 nfC_toldWorths)] [(kR_names, .long), (kC_kind, .int), (kC_weightSums, .int), (kC_toldWorths, .int)] t) (va_A [(oc3 oR iR_faultNumber iR_faultPlace iR_tapeSize rR_tape iR_end iR_tokenKind iR_tokenFrom iR_tokenTo iR_tokenName iR_tokenKey iR_tokenWhole oC iR_courtTold rR_names rR_keys), (arL rR_names kR_names 18 fR_names), (oc1 oC iC_nodes iC_words iC_chances iC_unsures iC_slips iC_throneNode iC_saidWorth iC_unit rC_kind rC_parts rC_partNodes rC_weights rC_weightSums rC_toldWorths rC_steps rC_below rC_above rC_unsureWords rC_unsureWorths), (arI rC_kind kC_kind 18 fC_kind), (arI rC_weightSums kC_weightSums 18 fC_weightSums), (arI rC_toldWorths kC_toldWorths 18 fC_toldWorths)] sz)) 0 0 (va_A [(oc3 oR iR_faultNumber iR_faultPlace iR_tapeSize rR_tape iR_end iR_tokenKind iR_tokenFrom iR_tokenTo iR_tokenName iR_tokenKey iR_tokenWhole oC iR_courtTold rR_names rR_keys), (arL rR_names kR_names 18 fR_names), (oc1 oC iC_nodes iC_words iC_chances iC_unsures iC_slips iC_throneNode iC_saidWorth iC_unit rC_kind rC_parts rC_partNodes rC_weights rC_weightSums rC_toldWorths rC_steps rC_below rC_above rC_unsureWords rC_unsureWorths), (arI rC_kind kC_kind 18 fC_kind), (arI rC_weightSums kC_weightSums 18 fC_weightSums), (arI rC_toldWorths kC_toldWorths 18 fC_toldWorths)] sz) := by
  refine Met.ofW (cc := cX3_endNode) (maxL := 4) (ret := none) pnX3 rfl ?_
  intro p e s m args below meth c s₁ B hml hv
  obtain ⟨rfl, hsz, hP, hK, hD0, hE⟩ := hv
  have hx := B.exec
  have hb := B.bytes
  have hr := B.returns
  have hts : ∀ w ∈ wG, w.before ([.ref oR, .long p0, .int p1] : List Value).toArray s = true := fun w h => atoms_spec (ws := Cond.code yX3_endNode cX3_endNode 4 none :: wG) B.pre w (List.mem_cons_of_mem _ h)
  have hown : s.vm.findClass RX3 = some m.cls := own_of B.named rfl
  have hlocks := B.notSynchronized
  subst hsz
  have hD := hD0.self (sz := s.heap.size)
  generalize hAe : va_A [(oc3 oR iR_faultNumber iR_faultPlace iR_tapeSize rR_tape iR_end iR_tokenKind iR_tokenFrom iR_tokenTo iR_tokenName iR_tokenKey iR_tokenWhole oC iR_courtTold rR_names rR_keys), (arL rR_names kR_names 18 fR_names), (oc1 oC iC_nodes iC_words iC_chances iC_unsures iC_slips iC_throneNode iC_saidWorth iC_unit rC_kind rC_parts rC_partNodes rC_weights rC_weightSums rC_toldWorths rC_steps rC_below rC_above rC_unsureWords rC_unsureWorths), (arI rC_kind kC_kind 18 fC_kind), (arI rC_weightSums kC_weightSums 18 fC_weightSums), (arI rC_toldWorths kC_toldWorths 18 fC_toldWorths)] s.heap.size = A at hD hE ⊢
  have hA : ∀ q : Nat, s.heap.size ≤ q → A q := fun q h => by rw [← hAe]; exact Or.inr h
  have hS : va_S A s.heap s.heap [] := va_S.rf
  have hl := lv_entry ([.ref oR, .long p0, .int p1]) (n := 4) (Nat.le_of_ble_eq_true rfl)
  rw [lg_entry_eq]
  generalize (lg_sl ([.ref oR, .long p0, .int p1]) ++ List.replicate (4 - (lg_sl ([.ref oR, .long p0, .int p1])).length) Slot.unset).toArray = ls at hl ⊢
  have hl : lv_has ls 4 [(0, .ref oR), (1, .long p0), (3, .int p1)] := hl
  have hG := PX3_endNode_eq fR_names iC_nodes iC_words iC_chances iC_unit fC_kind fC_weightSums fC_toldWorths p0 p1
  refine lv_aload_n hx hb dX3_endNode_0 rfl (lv_at hl 0 rfl) ?_
  refine va_get (D := (dC, dI)) (ci := 3) (v := .ref oC) (C := RX3) (T := TX3) (N := 15) hx hb hts inX3 hown hK hP 0 rfl rfl 11 (by decide) (hts _ wd_46) (fun _ h9 => h9) rfl dX3_endNode_1 ?_
  refine va_get (D := (dC, dI)) (ci := 1) (v := .int iC_nodes) (C := RX1) (T := TX1) (N := 19) hx hb hts inX1 hown hK hP 2 rfl rfl 0 (by decide) (hts _ wd_287) (fun _ h9 => h9) rfl dX3_endNode_4 ?_
  refine lv_bipush (v := 18) hx hb dX3_endNode_7 (by decide) ?_
  refine lv_icmp_ge (tgt := 25) hx hb dX3_endNode_9 (by decide) (fun c_1244 => ?_) (fun c_1244 => ?_)
  · skip
    have hG := hG.trans (if_pos c_1244)
    have gc_1244 := ti_le c_1244 kc_18 rfl
    refine lv_aload_n hx hb dX3_endNode_25 rfl (lv_at hl 0 rfl) ?_
    refine va_get (D := (dC, dI)) (ci := 3) (v := .ref oC) (C := RX3) (T := TX3) (N := 15) hx hb hts inX3 hown hK hP 0 rfl rfl 11 (by decide) (hts _ wd_46) (fun _ h9 => h9) rfl dX3_endNode_26 ?_
    refine lv_iload_n hx hb dX3_endNode_29 rfl (lv_at hl 2 rfl) ?_
    have hMs := ml_of hD [false, false, true, true, true, true] (wc := [(oc1 oC iC_nodes iC_words iC_chances iC_unsures iC_slips iC_throneNode iC_saidWorth iC_unit rC_kind rC_parts rC_partNodes rC_weights rC_weightSums rC_toldWorths rC_steps rC_below rC_above rC_unsureWords rC_unsureWorths), (arI rC_kind kC_kind 18 fC_kind), (arI rC_weightSums kC_weightSums 18 fC_weightSums), (arI rC_toldWorths kC_toldWorths 18 fC_toldWorths)]) rfl
    have hFc := va_freeM hD hS hA _ hMs
    refine va_callv (va_runV (As := [.int p1]) (rest := []) ⟨hx, hb, hml, hown, hts⟩ (tX1_endNode l dC dI _ oC iC_nodes iC_words iC_chances iC_unsures iC_slips iC_throneNode iC_saidWorth iC_unit rC_kind fC_kind kC_kind rC_parts rC_partNodes rC_weights rC_weightSums fC_weightSums kC_weightSums rC_toldWorths fC_toldWorths kC_toldWorths rC_steps rC_below rC_above rC_unsureWords rC_unsureWorths p1 b_iC_nodes b_iC_unsures b_iC_throneNode) (cwV 1 hts (wd_V wd_292 wd_293 wd_294 wd_19 (wd_c wd_295)) rfl rfl rfl dv_yX1_endNode_1 ⟨Nat.le_of_ble_eq_true rfl, Nat.le_of_ble_eq_true rfl⟩) ⟨Pw.fb, recvX1 hK hP (q0 := 2) rfl, fun U hU hW => Pw.to (hP.ms _ hMs) (hD.ms _ hMs) (hK.ms [false, true, true, true] rfl) hE hS hFc hU hW⟩ rfl rfl hl.1 rfl (lv_room (Nat.le_of_ble_eq_true rfl)) dX3_endNode_30 ⟨Nat.le_of_ble_eq_true rfl, Nat.le_of_ble_eq_true rfl⟩) hS (fun q _ h => hFc q h) hFc (fun u t H locs ht hvm hw hB hz1 hk1 hS => ?_)
    refine ex_5_2 hB (fun x_1245 x_1246 x_1247 x_1248 f_1249 b_x_1245 e_x_1245_0 hB => ?_)
    obtain ⟨hP, hD⟩ := Bw.goN (ws' := [(oc3 oR iR_faultNumber iR_faultPlace iR_tapeSize rR_tape iR_end iR_tokenKind iR_tokenFrom iR_tokenTo iR_tokenName iR_tokenKey iR_tokenWhole oC iR_courtTold rR_names rR_keys), (arL rR_names kR_names 18 fR_names), (oc1 oC x_1245 x_1246 x_1247 iC_unsures iC_slips iC_throneNode iC_saidWorth x_1248 rC_kind rC_parts rC_partNodes rC_weights rC_weightSums rC_toldWorths rC_steps rC_below rC_above rC_unsureWords rC_unsureWorths), (arI rC_kind kC_kind 18 fC_kind), (arI rC_weightSums kC_weightSums 18 fC_weightSums), (arI rC_toldWorths kC_toldWorths 18 f_1249)]) hB rfl ht hP hD _ hMs hk1 hFc rfl
    clear hz1 hk1 hvm ht hB hMs
    have hG := hG.trans (un5_eq e_x_1245_0)
    exact wq_v hx hb hr 0 trivial (fun t ht hW => ⟨fR_names, x_1245, x_1246, x_1247, x_1248, f_1249, b_x_1245, hG, Bw.to hP hD hK ht hW⟩) hS dX3_endNode_33 hlocks
  · skip
    have hG := hG.trans (if_neg c_1244)
    have gc_1244 := ti_nle c_1244 kc_18 rfl
    refine lv_aload_n hx hb dX3_endNode_12 rfl (lv_at hl 0 rfl) ?_
    refine va_get (D := (dC, dI)) (ci := 3) (v := .ref rR_names) (C := RX3) (T := TX3) (N := 15) hx hb hts inX3 hown hK hP 0 rfl rfl 13 (by decide) (hts _ wd_47) (fun _ h9 => h9) rfl dX3_endNode_13 ?_
    refine lv_aload_n hx hb dX3_endNode_16 rfl (lv_at hl 0 rfl) ?_
    refine va_get (D := (dC, dI)) (ci := 3) (v := .ref oC) (C := RX3) (T := TX3) (N := 15) hx hb hts inX3 hown hK hP 0 rfl rfl 11 (by decide) (hts _ wd_46) (fun _ h9 => h9) rfl dX3_endNode_17 ?_
    refine va_get (D := (dC, dI)) (ci := 1) (v := .int iC_nodes) (C := RX1) (T := TX1) (N := 19) hx hb hts inX1 hown hK hP 2 rfl rfl 0 (by decide) (hts _ wd_287) (fun _ h9 => h9) rfl dX3_endNode_20 ?_
    refine lv_lload_n hx hb dX3_endNode_23 rfl (lv_at hl 1 rfl) ?_
    refine va_last hx hb hK hP hD hS 1 0 rfl rfl (ti_in rfl b_iC_nodes.1 (om_c3e6050f gc_1244)) dX3_endNode_24 (fun H locs hP hD hS => ?_)
    obtain ⟨f_1251, ef_1251⟩ : ∃ g : Nat → Int64, g = vp_updL fR_names iC_nodes.toNatClampNeg p0 := ⟨_, rfl⟩
    rw [← ef_1251] at hP hD
    have hG := hG.trans (lt_eq ef_1251)
    obtain ⟨hP, hD⟩ := wl2 (ws' := [(oc3 oR iR_faultNumber iR_faultPlace iR_tapeSize rR_tape iR_end iR_tokenKind iR_tokenFrom iR_tokenTo iR_tokenName iR_tokenKey iR_tokenWhole oC iR_courtTold rR_names rR_keys), (arL rR_names kR_names 18 f_1251), (oc1 oC iC_nodes iC_words iC_chances iC_unsures iC_slips iC_throneNode iC_saidWorth iC_unit rC_kind rC_parts rC_partNodes rC_weights rC_weightSums rC_toldWorths rC_steps rC_below rC_above rC_unsureWords rC_unsureWorths), (arI rC_kind kC_kind 18 fC_kind), (arI rC_weightSums kC_weightSums 18 fC_weightSums), (arI rC_toldWorths kC_toldWorths 18 fC_toldWorths)]) hP hD rfl
    refine lv_aload_n hx hb dX3_endNode_25 rfl (lv_at hl 0 rfl) ?_
    refine va_get (D := (dC, dI)) (ci := 3) (v := .ref oC) (C := RX3) (T := TX3) (N := 15) hx hb hts inX3 hown hK hP 0 rfl rfl 11 (by decide) (hts _ wd_46) (fun _ h9 => h9) rfl dX3_endNode_26 ?_
    refine lv_iload_n hx hb dX3_endNode_29 rfl (lv_at hl 2 rfl) ?_
    have hMs := ml_of hD [false, false, true, true, true, true] (wc := [(oc1 oC iC_nodes iC_words iC_chances iC_unsures iC_slips iC_throneNode iC_saidWorth iC_unit rC_kind rC_parts rC_partNodes rC_weights rC_weightSums rC_toldWorths rC_steps rC_below rC_above rC_unsureWords rC_unsureWorths), (arI rC_kind kC_kind 18 fC_kind), (arI rC_weightSums kC_weightSums 18 fC_weightSums), (arI rC_toldWorths kC_toldWorths 18 fC_toldWorths)]) rfl
    have hFc := va_freeM hD hS hA _ hMs
    refine va_callv (va_runV (As := [.int p1]) (rest := []) ⟨hx, hb, hml, hown, hts⟩ (tX1_endNode l dC dI _ oC iC_nodes iC_words iC_chances iC_unsures iC_slips iC_throneNode iC_saidWorth iC_unit rC_kind fC_kind kC_kind rC_parts rC_partNodes rC_weights rC_weightSums fC_weightSums kC_weightSums rC_toldWorths fC_toldWorths kC_toldWorths rC_steps rC_below rC_above rC_unsureWords rC_unsureWorths p1 b_iC_nodes b_iC_unsures b_iC_throneNode) (cwV 1 hts (wd_V wd_292 wd_293 wd_294 wd_19 (wd_c wd_295)) rfl rfl rfl dv_yX1_endNode_1 ⟨Nat.le_of_ble_eq_true rfl, Nat.le_of_ble_eq_true rfl⟩) ⟨Pw.fb, recvX1 hK hP (q0 := 2) rfl, fun U hU hW => Pw.to (hP.ms _ hMs) (hD.ms _ hMs) (hK.ms [false, true, true, true] rfl) hE hS hFc hU hW⟩ rfl rfl hl.1 rfl (lv_room (Nat.le_of_ble_eq_true rfl)) dX3_endNode_30 ⟨Nat.le_of_ble_eq_true rfl, Nat.le_of_ble_eq_true rfl⟩) hS (fun q _ h => hFc q h) hFc (fun u t H locs ht hvm hw hB hz1 hk1 hS => ?_)
    refine ex_5_2 hB (fun x_1252 x_1253 x_1254 x_1255 f_1256 b_x_1252 e_x_1252_0 hB => ?_)
    obtain ⟨hP, hD⟩ := Bw.goN (ws' := [(oc3 oR iR_faultNumber iR_faultPlace iR_tapeSize rR_tape iR_end iR_tokenKind iR_tokenFrom iR_tokenTo iR_tokenName iR_tokenKey iR_tokenWhole oC iR_courtTold rR_names rR_keys), (arL rR_names kR_names 18 f_1251), (oc1 oC x_1252 x_1253 x_1254 iC_unsures iC_slips iC_throneNode iC_saidWorth x_1255 rC_kind rC_parts rC_partNodes rC_weights rC_weightSums rC_toldWorths rC_steps rC_below rC_above rC_unsureWords rC_unsureWorths), (arI rC_kind kC_kind 18 fC_kind), (arI rC_weightSums kC_weightSums 18 fC_weightSums), (arI rC_toldWorths kC_toldWorths 18 f_1256)]) hB rfl ht hP hD _ hMs hk1 hFc rfl
    clear hz1 hk1 hvm ht hB hMs
    have hG := hG.trans (un5_eq e_x_1252_0)
    exact wq_v hx hb hr 0 trivial (fun t ht hW => ⟨f_1251, x_1252, x_1253, x_1254, x_1255, f_1256, b_x_1252, hG, Bw.to hP hD hK ht hW⟩) hS dX3_endNode_33 hlocks
set_option maxHeartbeats 4000000 in
set_option maxRecDepth 100000 in
theorem tX3_putBytes (l : Launch) (dC : Nat → ClassId) (dI : Nat → Nat → Nat) (sz : Nat) (oR : Nat) (iR_faultNumber : Int32) (iR_faultPlace : Int32) (iR_tapeSize : Int32) (rR_tape : Nat) (fR_tape : Nat → Int32) (kR_tape : ClassId) (iR_end : Int32) (iR_tokenKind : Int32) (iR_tokenFrom : Int32) (iR_tokenTo : Int32) (iR_tokenName : Int64) (iR_tokenKey : Int32) (iR_tokenWhole : Int32) (oC : Nat) (iR_courtTold : Int32) (rR_names : Nat) (rR_keys : Nat) (p0 : Int32) (b_iR_tapeSize : 0 ≤ iR_tapeSize.toInt ∧ iR_tapeSize.toInt ≤ 900) (b_iR_courtTold : 0 ≤ iR_courtTold.toInt ∧ iR_courtTold.toInt ≤ 1) (htp : iR_tapeSize.toInt ≤ 896) : Met l yX3_putBytes (Cond.code yX3_putBytes cX3_putBytes 3 none :: wG) ({ frames := 0, cells := 0, slots := 0, locals := 0 }) (va_Pc [.ref oR, .int p0] (Pw dC dI sz [(oc3 oR iR_faultNumber iR_faultPlace iR_tapeSize rR_tape iR_end iR_tokenKind iR_tokenFrom iR_tokenTo iR_tokenName iR_tokenKey iR_tokenWhole oC iR_courtTold rR_names rR_keys), (arI rR_tape kR_tape 900 fR_tape)] [(kR_tape, .byte)])) (va_Qv (fun (_ : Nat) => True) (fun (_ : Nat) (t : State) => ∃ (niR_tapeSize : Int32) (nfR_tape : Nat → Int32), (0 ≤ niR_tapeSize.toInt ∧ niR_tapeSize.toInt ≤ 900) ∧ (niR_tapeSize.toInt = iR_tapeSize.toInt + 4) ∧ (PX3_putBytes iR_tapeSize fR_tape p0 = (niR_tapeSize, nfR_tape)) ∧ Bw dC dI (va_A [(oc3 oR iR_faultNumber iR_faultPlace iR_tapeSize rR_tape iR_end iR_tokenKind iR_tokenFrom iR_tokenTo iR_tokenName iR_tokenKey iR_tokenWhole oC iR_courtTold rR_names rR_keys), (arI rR_tape kR_tape 900 fR_tape)] sz) [(oc3 oR iR_faultNumber iR_faultPlace niR_tapeSize rR_tape iR_end iR_tokenKind iR_tokenFrom iR_tokenTo iR_tokenName iR_tokenKey iR_tokenWhole oC iR_courtTold rR_names rR_keys), (arI rR_tape kR_tape 900 nfR_tape)] [(kR_tape, .byte)] t) (va_A [(oc3 oR iR_faultNumber iR_faultPlace iR_tapeSize rR_tape iR_end iR_tokenKind iR_tokenFrom iR_tokenTo iR_tokenName iR_tokenKey iR_tokenWhole oC iR_courtTold rR_names rR_keys), (arI rR_tape kR_tape 900 fR_tape)] sz)) 0 0 (va_A [(oc3 oR iR_faultNumber iR_faultPlace iR_tapeSize rR_tape iR_end iR_tokenKind iR_tokenFrom iR_tokenTo iR_tokenName iR_tokenKey iR_tokenWhole oC iR_courtTold rR_names rR_keys), (arI rR_tape kR_tape 900 fR_tape)] sz) := by
  refine Met.ofW (cc := cX3_putBytes) (maxL := 3) (ret := none) pnX3 rfl ?_
  intro p e s m args below meth c s₁ B hml hv
  obtain ⟨rfl, hsz, hP, hK, hD0, hE⟩ := hv
  have hx := B.exec
  have hb := B.bytes
  have hr := B.returns
  have hts : ∀ w ∈ wG, w.before ([.ref oR, .int p0] : List Value).toArray s = true := fun w h => atoms_spec (ws := Cond.code yX3_putBytes cX3_putBytes 3 none :: wG) B.pre w (List.mem_cons_of_mem _ h)
  have hown : s.vm.findClass RX3 = some m.cls := own_of B.named rfl
  have hlocks := B.notSynchronized
  subst hsz
  have hD := hD0.self (sz := s.heap.size)
  generalize hAe : va_A [(oc3 oR iR_faultNumber iR_faultPlace iR_tapeSize rR_tape iR_end iR_tokenKind iR_tokenFrom iR_tokenTo iR_tokenName iR_tokenKey iR_tokenWhole oC iR_courtTold rR_names rR_keys), (arI rR_tape kR_tape 900 fR_tape)] s.heap.size = A at hD hE ⊢
  have hA : ∀ q : Nat, s.heap.size ≤ q → A q := fun q h => by rw [← hAe]; exact Or.inr h
  have hS : va_S A s.heap s.heap [] := va_S.rf
  have hl := lv_entry ([.ref oR, .int p0]) (n := 3) (Nat.le_of_ble_eq_true rfl)
  rw [lg_entry_eq]
  generalize (lg_sl ([.ref oR, .int p0]) ++ List.replicate (3 - (lg_sl ([.ref oR, .int p0])).length) Slot.unset).toArray = ls at hl ⊢
  have hl : lv_has ls 3 [(0, .ref oR), (1, .int p0)] := hl
  have hG := PX3_putBytes_eq iR_tapeSize fR_tape p0
  refine lv_bipush (v := 24) hx hb dX3_putBytes_0 (by decide) ?_
  refine lv_istore_n (lv' := [(2, .int 24), (0, .ref oR), (1, .int p0)]) hx hb dX3_putBytes_2 rfl hl (by decide) rfl (fun ls hl => ?_)
  have hl := lv_sub hl (l' := [(2, .int 24), (0, .ref oR), (1, .int p0)]) [0, 1, 2] rfl
  have key_n_1271 : ∀ (n_1271 : Nat) (z_1268 : Int32) (z_1269 : Int32) (f_1270 : Nat → Int32) (H : Heap) (locs : List Loc) (ls : Array Slot), (0 ≤ z_1269.toInt ∧ z_1269.toInt ≤ 900) → (-8 ≤ z_1268.toInt ∧ z_1268.toInt ≤ 24) → (8 * z_1269.toInt + z_1268.toInt = 8 * iR_tapeSize.toInt + 24) → (z_1268.toInt + 8).toNat < n_1271 → (PX3_putBytes iR_tapeSize fR_tape p0 = HX3_putBytes_0 p0 n_1271 z_1268 z_1269 f_1270) → va_P (dC, dI) vwCl [(oc3 oR iR_faultNumber iR_faultPlace z_1269 rR_tape iR_end iR_tokenKind iR_tokenFrom iR_tokenTo iR_tokenName iR_tokenKey iR_tokenWhole oC iR_courtTold rR_names rR_keys), (arI rR_tape kR_tape 900 f_1270)] H → va_D A [(oc3 oR iR_faultNumber iR_faultPlace z_1269 rR_tape iR_end iR_tokenKind iR_tokenFrom iR_tokenTo iR_tokenName iR_tokenKey iR_tokenWhole oC iR_courtTold rR_names rR_keys), (arI rR_tape kR_tape 900 f_1270)] → va_S A s.heap H locs → lv_has ls 3 [(2, .int z_1268), (0, .ref oR), (1, .int p0)] → W p l e (headSpec (Cond.code yX3_putBytes cX3_putBytes 3 none :: wG) ({ frames := 0, cells := 0, slots := 0, locals := 0 })).room s m ([.ref oR, .int p0] : List Value).toArray below meth c H locs 0 0 (MQ below (va_Qv (fun (_ : Nat) => True) (fun (_ : Nat) (t : State) => ∃ (niR_tapeSize : Int32) (nfR_tape : Nat → Int32), (0 ≤ niR_tapeSize.toInt ∧ niR_tapeSize.toInt ≤ 900) ∧ (niR_tapeSize.toInt = iR_tapeSize.toInt + 4) ∧ (PX3_putBytes iR_tapeSize fR_tape p0 = (niR_tapeSize, nfR_tape)) ∧ Bw dC dI A [(oc3 oR iR_faultNumber iR_faultPlace niR_tapeSize rR_tape iR_end iR_tokenKind iR_tokenFrom iR_tokenTo iR_tokenName iR_tokenKey iR_tokenWhole oC iR_courtTold rR_names rR_keys), (arI rR_tape kR_tape 900 nfR_tape)] [(kR_tape, .byte)] t) A) ([.ref oR, .int p0] : List Value).toArray s 0 0 A) (F0 m 3 ls []) := by
    intro n_1271
    induction n_1271 with
    | zero => intro z_1268 z_1269 f_1270 H locs ls b_z_1269 hi0_n_1271 hi1_n_1271 hm; exact absurd hm (Nat.not_lt_zero _)
    | succ n_1271 ih_n_1271 =>
      intro z_1268 z_1269 f_1270 H locs ls b_z_1269 hi0_n_1271 hi1_n_1271 hm_n_1271 hG hP hD hS hl
      have hG := hG.trans (HX3_putBytes_0_eq _ _ _ _ _)
      refine lv_iload_n hx hb dX3_putBytes_3 rfl (lv_at hl 0 rfl) ?_
      refine lv_if_lt (tgt := 46) hx hb dX3_putBytes_4 (by decide) (fun c_1272 => ?_) (fun c_1272 => ?_)
      · skip
        have hG := hG.trans (if_pos c_1272)
        have gc_1272 := ti_lt c_1272 rfl kc_0
        exact wq_v hx hb hr 0 trivial (fun t ht hW => ⟨z_1269, f_1270, b_z_1269, (om_d56d0531 hi0_n_1271.1 hi1_n_1271 gc_1272), hG, Bw.to hP hD hK ht hW⟩) hS dX3_putBytes_46 hlocks
      · skip
        have hG := hG.trans (if_neg c_1272)
        have gc_1272 := ti_nlt c_1272 rfl kc_0
        refine lv_aload_n hx hb dX3_putBytes_7 rfl (lv_at hl 1 rfl) ?_
        refine va_get (D := (dC, dI)) (ci := 3) (v := .int z_1269) (C := RX3) (T := TX3) (N := 15) hx hb hts inX3 hown hK hP 0 rfl rfl 2 (by decide) (hts _ wd_179) (fun _ h9 => h9) rfl dX3_putBytes_8 ?_
        refine lv_sipush (v := 900) hx hb dX3_putBytes_11 (by decide) ?_
        refine lv_icmp_ge (tgt := 40) hx hb dX3_putBytes_14 (by decide) (fun c_1273 => ?_) (fun c_1273 => ?_)
        · skip
          have hG := hG.trans (if_pos c_1273)
          have gc_1273 := ti_le c_1273 kc_900 rfl
          exact ((om_b094b61d htp hi1_n_1271 gc_1272 gc_1273)).elim
        · skip
          have hG := hG.trans (if_neg c_1273)
          have gc_1273 := ti_nle c_1273 kc_900 rfl
          refine lv_aload_n hx hb dX3_putBytes_17 rfl (lv_at hl 1 rfl) ?_
          refine va_get (D := (dC, dI)) (ci := 3) (v := .ref rR_tape) (C := RX3) (T := TX3) (N := 15) hx hb hts inX3 hown hK hP 0 rfl rfl 3 (by decide) (hts _ wd_44) (fun _ h9 => h9) rfl dX3_putBytes_18 ?_
          refine lv_aload_n hx hb dX3_putBytes_21 rfl (lv_at hl 1 rfl) ?_
          refine va_get (D := (dC, dI)) (ci := 3) (v := .int z_1269) (C := RX3) (T := TX3) (N := 15) hx hb hts inX3 hown hK hP 0 rfl rfl 2 (by decide) (hts _ wd_179) (fun _ h9 => h9) rfl dX3_putBytes_22 ?_
          refine lv_iload_n hx hb dX3_putBytes_25 rfl (lv_at hl 2 rfl) ?_
          refine lv_iload_n hx hb dX3_putBytes_26 rfl (lv_at hl 0 rfl) ?_
          refine lv_ishr hx hb dX3_putBytes_27 ?_
          refine lv_topi (fun x_1274 ex_1274 => ?_)
          have hG := hG.trans (lt_eq ex_1274)
          obtain ⟨x_1275, ex_1275⟩ : ∃ z : Int32, z = (x_1274 : Int32).toInt8.toInt32 := ⟨_, rfl⟩
          have hG := hG.trans (lt_eq ex_1275)
          refine lv_i2b (v := x_1275) hx hb dX3_putBytes_28 ex_1275.symm ?_
          refine va_bast hx hb hK hP hD hS 1 0 rfl rfl (ti_in rfl b_z_1269.1 (om_f01a954b gc_1273)) dX3_putBytes_29 (fun H locs hP hD hS => ?_)
          obtain ⟨f_1277, ef_1277⟩ : ∃ g : Nat → Int32, g = upd f_1270 z_1269.toNatClampNeg (vp_nar .byte x_1275) := ⟨_, rfl⟩
          rw [← ef_1277] at hP hD
          have hG := hG.trans (lt_eq ef_1277)
          obtain ⟨hP, hD⟩ := wl2 (ws' := [(oc3 oR iR_faultNumber iR_faultPlace z_1269 rR_tape iR_end iR_tokenKind iR_tokenFrom iR_tokenTo iR_tokenName iR_tokenKey iR_tokenWhole oC iR_courtTold rR_names rR_keys), (arI rR_tape kR_tape 900 f_1277)]) hP hD rfl
          refine lv_aload_n hx hb dX3_putBytes_30 rfl (lv_at hl 1 rfl) ?_
          refine lv_dup hx hb dX3_putBytes_31 rfl ?_
          refine va_get (D := (dC, dI)) (ci := 3) (v := .int z_1269) (C := RX3) (T := TX3) (N := 15) hx hb hts inX3 hown hK hP 0 rfl rfl 2 (by decide) (hts _ wd_179) (fun _ h9 => h9) rfl dX3_putBytes_32 ?_
          refine lv_iconst (v := 1) hx hb dX3_putBytes_35 (by decide) ?_
          refine lv_iadd hx hb dX3_putBytes_36 ?_
          refine lv_topi (fun x_1278 ex_1278 => ?_)
          have hG := hG.trans (lt_eq ex_1278)
          have vx_1278 : x_1278.toInt = z_1269.toInt + 1 := ti_add ex_1278 rfl kc_1 (om_4e4fce7e b_z_1269.1) (om_a4907767 b_z_1269.2)
          refine va_put (D := (dC, dI)) (ci := 3) (v := .int x_1278) (ty := .int) (C := RX3) (T := TX3) (N := 15) hx hb hts inX3 tyX3 tyX3_ok nmX3 hown hK hP hD hS 0 rfl rfl 2 (by decide) (hts _ wd_179) (fun _ h9 => h9) rfl (by decide +kernel) rfl rfl (Nat.le_of_ble_eq_true rfl) dX3_putBytes_37 (fun H locs hP hD hS => ?_)
          obtain ⟨hP, hD⟩ := wl2 (ws' := [(oc3 oR iR_faultNumber iR_faultPlace x_1278 rR_tape iR_end iR_tokenKind iR_tokenFrom iR_tokenTo iR_tokenName iR_tokenKey iR_tokenWhole oC iR_courtTold rR_names rR_keys), (arI rR_tape kR_tape 900 f_1277)]) hP hD rfl
          obtain ⟨x_1279, ex_1279⟩ : ∃ z : Int32, z = z_1268 + Int32.ofInt (-8) := ⟨_, rfl⟩
          have hG := hG.trans (lt_eq ex_1279)
          have vx_1279 : x_1279.toInt = z_1268.toInt + (-8) := ti_add (y := (-8)) ex_1279 rfl kc_m8 (om_a9f9605f hi0_n_1271.1) (om_b84346af hi0_n_1271.2)
          refine lv_iinc (v := x_1279) (lv' := [(2, .int x_1279), (0, .ref oR), (1, .int p0)]) hx hb dX3_putBytes_40 hl (k := 0) rfl ex_1279.symm (by decide) rfl (fun ls hl => ?_)
          refine lv_goto (tgt := 3) hx hb dX3_putBytes_43 (by decide) ?_
          exact ih_n_1271 x_1279 x_1278 f_1277 _ _ _ ⟨(om_83b90de5 b_z_1269.1 vx_1278), (om_b49cbcdc gc_1273 vx_1278)⟩ ⟨(om_22b8c60f gc_1272 vx_1279), (om_c1b5ee39 hi0_n_1271.2 vx_1279)⟩ (om_97041ec6 hi1_n_1271 vx_1278 vx_1279) (ms_lt hm_n_1271 (om_1e3f52a0 vx_1279) (om_aa9b3c6d gc_1272)) hG hP hD hS (lv_sub hl [0, 1, 2] rfl)
  exact key_n_1271 ((((24 : Int32).toInt + 8).toNat) + 1) 24 iR_tapeSize fR_tape _ _ _ b_iR_tapeSize ⟨(om_60e51bf8 kc_24), (om_0a841fa4 kc_24)⟩ (om_cc067026 kc_24) (Nat.lt_add_one _) hG hP hD hS hl
set_option maxHeartbeats 4000000 in
set_option maxRecDepth 100000 in
theorem tX3_exchanged (l : Launch) (dC : Nat → ClassId) (dI : Nat → Nat → Nat) (sz : Nat) (oR : Nat) (iR_faultNumber : Int32) (iR_faultPlace : Int32) (iR_tapeSize : Int32) (rR_tape : Nat) (iR_end : Int32) (iR_tokenKind : Int32) (iR_tokenFrom : Int32) (iR_tokenTo : Int32) (iR_tokenName : Int64) (iR_tokenKey : Int32) (iR_tokenWhole : Int32) (oC : Nat) (iR_courtTold : Int32) (rR_names : Nat) (rR_keys : Nat) (oX : Nat) (b_iR_tapeSize : 0 ≤ iR_tapeSize.toInt ∧ iR_tapeSize.toInt ≤ 900) (b_iR_courtTold : 0 ≤ iR_courtTold.toInt ∧ iR_courtTold.toInt ≤ 1)  : Met l yX3_exchanged (Cond.code yX3_exchanged cX3_exchanged 3 (some (.object "KingHears$Court")) :: wG) ({ frames := 0, cells := 0, slots := 0, locals := 0 }) (va_Pc [.ref oR, .ref oX] (Pw dC dI sz [(oc3 oR iR_faultNumber iR_faultPlace iR_tapeSize rR_tape iR_end iR_tokenKind iR_tokenFrom iR_tokenTo iR_tokenName iR_tokenKey iR_tokenWhole oC iR_courtTold rR_names rR_keys)] [])) (va_Qr (fun (_ : Nat) => True) (fun (_ : Nat) (ra : Nat) (t : State) => oC = ra ∧ Bw dC dI (va_A [(oc3 oR iR_faultNumber iR_faultPlace iR_tapeSize rR_tape iR_end iR_tokenKind iR_tokenFrom iR_tokenTo iR_tokenName iR_tokenKey iR_tokenWhole oC iR_courtTold rR_names rR_keys)] sz) [(oc3 oR iR_faultNumber iR_faultPlace iR_tapeSize rR_tape iR_end iR_tokenKind iR_tokenFrom iR_tokenTo iR_tokenName iR_tokenKey iR_tokenWhole oX iR_courtTold rR_names rR_keys)] [] t) (va_A [(oc3 oR iR_faultNumber iR_faultPlace iR_tapeSize rR_tape iR_end iR_tokenKind iR_tokenFrom iR_tokenTo iR_tokenName iR_tokenKey iR_tokenWhole oC iR_courtTold rR_names rR_keys)] sz)) 0 0 (va_A [(oc3 oR iR_faultNumber iR_faultPlace iR_tapeSize rR_tape iR_end iR_tokenKind iR_tokenFrom iR_tokenTo iR_tokenName iR_tokenKey iR_tokenWhole oC iR_courtTold rR_names rR_keys)] sz) := by
  refine Met.ofW (cc := cX3_exchanged) (maxL := 3) (ret := (some (.object "KingHears$Court"))) pnX3 rfl ?_
  intro p e s m args below meth c s₁ B hml hv
  obtain ⟨rfl, hsz, hP, hK, hD0, hE⟩ := hv
  have hx := B.exec
  have hb := B.bytes
  have hr := B.returns
  have hts : ∀ w ∈ wG, w.before ([.ref oR, .ref oX] : List Value).toArray s = true := fun w h => atoms_spec (ws := Cond.code yX3_exchanged cX3_exchanged 3 (some (.object "KingHears$Court")) :: wG) B.pre w (List.mem_cons_of_mem _ h)
  have hown : s.vm.findClass RX3 = some m.cls := own_of B.named rfl
  have hlocks := B.notSynchronized
  subst hsz
  have hD := hD0.self (sz := s.heap.size)
  generalize hAe : va_A [(oc3 oR iR_faultNumber iR_faultPlace iR_tapeSize rR_tape iR_end iR_tokenKind iR_tokenFrom iR_tokenTo iR_tokenName iR_tokenKey iR_tokenWhole oC iR_courtTold rR_names rR_keys)] s.heap.size = A at hD hE ⊢
  have hA : ∀ q : Nat, s.heap.size ≤ q → A q := fun q h => by rw [← hAe]; exact Or.inr h
  have hS : va_S A s.heap s.heap [] := va_S.rf
  have hl := lv_entry ([.ref oR, .ref oX]) (n := 3) (Nat.le_of_ble_eq_true rfl)
  rw [lg_entry_eq]
  generalize (lg_sl ([.ref oR, .ref oX]) ++ List.replicate (3 - (lg_sl ([.ref oR, .ref oX])).length) Slot.unset).toArray = ls at hl ⊢
  have hl : lv_has ls 3 [(0, .ref oR), (1, .ref oX)] := hl
  refine lv_aload_n hx hb dX3_exchanged_0 rfl (lv_at hl 0 rfl) ?_
  refine va_get (D := (dC, dI)) (ci := 3) (v := .ref oC) (C := RX3) (T := TX3) (N := 15) hx hb hts inX3 hown hK hP 0 rfl rfl 11 (by decide) (hts _ wd_46) (fun _ h9 => h9) rfl dX3_exchanged_1 ?_
  refine lv_astore_n (lv' := [(2, .ref oC), (0, .ref oR), (1, .ref oX)]) hx hb dX3_exchanged_4 rfl hl (by decide) rfl (fun ls hl => ?_)
  refine lv_aload_n hx hb dX3_exchanged_5 rfl (lv_at hl 1 rfl) ?_
  refine lv_aload_n hx hb dX3_exchanged_6 rfl (lv_at hl 2 rfl) ?_
  refine va_put (D := (dC, dI)) (ci := 3) (v := .ref oX) (ty := .object "KingHears$Court") (C := RX3) (T := TX3) (N := 15) hx hb hts inX3 tyX3 tyX3_ok nmX3 hown hK hP hD hS 0 rfl rfl 11 (by decide) (hts _ wd_46) (fun _ h9 => h9) rfl (by decide +kernel) rfl rfl (Nat.le_of_ble_eq_true rfl) dX3_exchanged_7 (fun H locs hP hD hS => ?_)
  obtain ⟨hP, hD⟩ := wl2 (ws' := [(oc3 oR iR_faultNumber iR_faultPlace iR_tapeSize rR_tape iR_end iR_tokenKind iR_tokenFrom iR_tokenTo iR_tokenName iR_tokenKey iR_tokenWhole oX iR_courtTold rR_names rR_keys)]) hP hD rfl
  refine lv_aload_n hx hb dX3_exchanged_10 rfl (lv_at hl 0 rfl) ?_
  exact W.aret hx hb hr (Or.inl ⟨_, rfl⟩) (Or.inr ⟨_, rfl⟩) (fun t ht hW => ⟨⟨0, _, rfl, trivial, ⟨rfl, Bw.to hP hD hK ht hW⟩⟩, hS.F ht⟩) hS.2.2 dX3_exchanged_11
set_option maxHeartbeats 4000000 in
set_option maxRecDepth 100000 in
theorem tX3_readSaid (l : Launch) (dC : Nat → ClassId) (dI : Nat → Nat → Nat) (sz : Nat) (oR : Nat) (iR_faultNumber : Int32) (iR_faultPlace : Int32) (iR_tapeSize : Int32) (rR_tape : Nat) (fR_tape : Nat → Int32) (kR_tape : ClassId) (iR_end : Int32) (iR_tokenKind : Int32) (iR_tokenFrom : Int32) (iR_tokenTo : Int32) (iR_tokenName : Int64) (iR_tokenKey : Int32) (iR_tokenWhole : Int32) (oC : Nat) (iR_courtTold : Int32) (rR_names : Nat) (rR_keys : Nat) (fR_keys : Nat → Int64) (kR_keys : ClassId) (iC_nodes : Int32) (iC_words : Int32) (iC_chances : Int32) (iC_unsures : Int32) (iC_slips : Int32) (iC_throneNode : Int32) (iC_saidWorth : Int32) (iC_unit : Int32) (rC_kind : Nat) (rC_parts : Nat) (rC_partNodes : Nat) (rC_weights : Nat) (rC_weightSums : Nat) (rC_toldWorths : Nat) (rC_steps : Nat) (rC_below : Nat) (rC_above : Nat) (rC_unsureWords : Nat) (rC_unsureWorths : Nat) (b_iR_tapeSize : 0 ≤ iR_tapeSize.toInt ∧ iR_tapeSize.toInt ≤ 900) (b_iR_courtTold : 0 ≤ iR_courtTold.toInt ∧ iR_courtTold.toInt ≤ 1) (b_iC_nodes : 0 ≤ iC_nodes.toInt ∧ iC_nodes.toInt ≤ 18) (b_iC_unsures : 0 ≤ iC_unsures.toInt ∧ iC_unsures.toInt ≤ 4) (b_iC_throneNode : (-1) ≤ iC_throneNode.toInt ∧ iC_throneNode.toInt ≤ 17)  : Met l yX3_readSaid (Cond.code yX3_readSaid cX3_readSaid 1 (some .boolean) :: wG) ({ frames := 3, cells := 0, slots := 0, locals := 66 }) (va_Pc [.ref oR] (Pw dC dI sz [(oc3 oR iR_faultNumber iR_faultPlace iR_tapeSize rR_tape iR_end iR_tokenKind iR_tokenFrom iR_tokenTo iR_tokenName iR_tokenKey iR_tokenWhole oC iR_courtTold rR_names rR_keys), (arI rR_tape kR_tape 900 fR_tape), (arL rR_keys kR_keys 10 fR_keys), (oc1 oC iC_nodes iC_words iC_chances iC_unsures iC_slips iC_throneNode iC_saidWorth iC_unit rC_kind rC_parts rC_partNodes rC_weights rC_weightSums rC_toldWorths rC_steps rC_below rC_above rC_unsureWords rC_unsureWorths)] [(kR_tape, .byte), (kR_keys, .long)])) (va_Qi (fun (r : Int32) (u : Nat) => ((r = 0 ∨ r = 1) ∧ True) ∧ r = Int32.ofNat u) (fun (u : Nat) (t : State) => ∃ (niR_faultNumber : Int32) (niR_faultPlace : Int32) (niR_tokenKind : Int32) (niR_tokenFrom : Int32) (niR_tokenTo : Int32) (niR_tokenName : Int64) (niR_tokenKey : Int32) (niR_tokenWhole : Int32) (niC_saidWorth : Int32), (PX3_readSaid iR_faultNumber iR_faultPlace fR_tape iR_end iR_tokenKind iR_tokenFrom iR_tokenTo iR_tokenName iR_tokenKey iR_tokenWhole fR_keys iC_saidWorth = (Int32.ofNat u, niR_faultNumber, niR_faultPlace, niR_tokenKind, niR_tokenFrom, niR_tokenTo, niR_tokenName, niR_tokenKey, niR_tokenWhole, niC_saidWorth)) ∧ Bw dC dI (va_A [(oc3 oR iR_faultNumber iR_faultPlace iR_tapeSize rR_tape iR_end iR_tokenKind iR_tokenFrom iR_tokenTo iR_tokenName iR_tokenKey iR_tokenWhole oC iR_courtTold rR_names rR_keys), (arI rR_tape kR_tape 900 fR_tape), (arL rR_keys kR_keys 10 fR_keys), (oc1 oC iC_nodes iC_words iC_chances iC_unsures iC_slips iC_throneNode iC_saidWorth iC_unit rC_kind rC_parts rC_partNodes rC_weights rC_weightSums rC_toldWorths rC_steps rC_below rC_above rC_unsureWords rC_unsureWorths)] sz) [(oc3 oR niR_faultNumber niR_faultPlace iR_tapeSize rR_tape iR_end niR_tokenKind niR_tokenFrom niR_tokenTo niR_tokenName niR_tokenKey niR_tokenWhole oC iR_courtTold rR_names rR_keys), (arI rR_tape kR_tape 900 fR_tape), (arL rR_keys kR_keys 10 fR_keys), (oc1 oC iC_nodes iC_words iC_chances iC_unsures iC_slips iC_throneNode niC_saidWorth iC_unit rC_kind rC_parts rC_partNodes rC_weights rC_weightSums rC_toldWorths rC_steps rC_below rC_above rC_unsureWords rC_unsureWorths)] [(kR_tape, .byte), (kR_keys, .long)] t) (va_A [(oc3 oR iR_faultNumber iR_faultPlace iR_tapeSize rR_tape iR_end iR_tokenKind iR_tokenFrom iR_tokenTo iR_tokenName iR_tokenKey iR_tokenWhole oC iR_courtTold rR_names rR_keys), (arI rR_tape kR_tape 900 fR_tape), (arL rR_keys kR_keys 10 fR_keys), (oc1 oC iC_nodes iC_words iC_chances iC_unsures iC_slips iC_throneNode iC_saidWorth iC_unit rC_kind rC_parts rC_partNodes rC_weights rC_weightSums rC_toldWorths rC_steps rC_below rC_above rC_unsureWords rC_unsureWorths)] sz)) 0 0 (va_A [(oc3 oR iR_faultNumber iR_faultPlace iR_tapeSize rR_tape iR_end iR_tokenKind iR_tokenFrom iR_tokenTo iR_tokenName iR_tokenKey iR_tokenWhole oC iR_courtTold rR_names rR_keys), (arI rR_tape kR_tape 900 fR_tape), (arL rR_keys kR_keys 10 fR_keys), (oc1 oC iC_nodes iC_words iC_chances iC_unsures iC_slips iC_throneNode iC_saidWorth iC_unit rC_kind rC_parts rC_partNodes rC_weights rC_weightSums rC_toldWorths rC_steps rC_below rC_above rC_unsureWords rC_unsureWorths)] sz) := by
  refine Met.ofW (cc := cX3_readSaid) (maxL := 1) (ret := (some .boolean)) pnX3 rfl ?_
  intro p e s m args below meth c s₁ B hml hv
  obtain ⟨rfl, hsz, hP, hK, hD0, hE⟩ := hv
  have hx := B.exec
  have hb := B.bytes
  have hr := B.returns
  have hts : ∀ w ∈ wG, w.before ([.ref oR] : List Value).toArray s = true := fun w h => atoms_spec (ws := Cond.code yX3_readSaid cX3_readSaid 1 (some .boolean) :: wG) B.pre w (List.mem_cons_of_mem _ h)
  have hown : s.vm.findClass RX3 = some m.cls := own_of B.named rfl
  have hlocks := B.notSynchronized
  subst hsz
  have hD := hD0.self (sz := s.heap.size)
  generalize hAe : va_A [(oc3 oR iR_faultNumber iR_faultPlace iR_tapeSize rR_tape iR_end iR_tokenKind iR_tokenFrom iR_tokenTo iR_tokenName iR_tokenKey iR_tokenWhole oC iR_courtTold rR_names rR_keys), (arI rR_tape kR_tape 900 fR_tape), (arL rR_keys kR_keys 10 fR_keys), (oc1 oC iC_nodes iC_words iC_chances iC_unsures iC_slips iC_throneNode iC_saidWorth iC_unit rC_kind rC_parts rC_partNodes rC_weights rC_weightSums rC_toldWorths rC_steps rC_below rC_above rC_unsureWords rC_unsureWorths)] s.heap.size = A at hD hE ⊢
  have hA : ∀ q : Nat, s.heap.size ≤ q → A q := fun q h => by rw [← hAe]; exact Or.inr h
  have hS : va_S A s.heap s.heap [] := va_S.rf
  have hl := lv_entry ([.ref oR]) (n := 1) (Nat.le_of_ble_eq_true rfl)
  rw [lg_entry_eq]
  generalize (lg_sl ([.ref oR]) ++ List.replicate (1 - (lg_sl ([.ref oR])).length) Slot.unset).toArray = ls at hl ⊢
  have hl : lv_has ls 1 [(0, .ref oR)] := hl
  have hG := PX3_readSaid_eq iR_faultNumber iR_faultPlace fR_tape iR_end iR_tokenKind iR_tokenFrom iR_tokenTo iR_tokenName iR_tokenKey iR_tokenWhole fR_keys iC_saidWorth
  refine lv_aload_n hx hb dX3_readSaid_0 rfl (lv_at hl 0 rfl) ?_
  refine va_get (D := (dC, dI)) (ci := 3) (v := .ref oC) (C := RX3) (T := TX3) (N := 15) hx hb hts inX3 hown hK hP 0 rfl rfl 11 (by decide) (hts _ wd_46) (fun _ h9 => h9) rfl dX3_readSaid_1 ?_
  refine va_get (D := (dC, dI)) (ci := 1) (v := .int iC_saidWorth) (C := RX1) (T := TX1) (N := 19) hx hb hts inX1 hown hK hP 3 rfl rfl 6 (by decide) (hts _ wd_355) (fun _ h9 => h9) rfl dX3_readSaid_4 ?_
  refine lv_if_lt (tgt := 16) hx hb dX3_readSaid_7 (by decide) (fun c_1300 => ?_) (fun c_1300 => ?_)
  · skip
    have hG := hG.trans (if_pos c_1300)
    have gc_1300 := ti_lt c_1300 rfl kc_0
    refine lv_aload_n hx hb dX3_readSaid_16 rfl (lv_at hl 0 rfl) ?_
    have hMs := ml_of hD [true, true, true, false] (wc := [(oc3 oR iR_faultNumber iR_faultPlace iR_tapeSize rR_tape iR_end iR_tokenKind iR_tokenFrom iR_tokenTo iR_tokenName iR_tokenKey iR_tokenWhole oC iR_courtTold rR_names rR_keys), (arI rR_tape kR_tape 900 fR_tape), (arL rR_keys kR_keys 10 fR_keys)]) rfl
    have hFc := va_freeM hD hS hA _ hMs
    refine va_callv (va_runV (As := []) (rest := []) ⟨hx, hb, hml, hown, hts⟩ (tX3_nextToken l dC dI _ oR iR_faultNumber iR_faultPlace iR_tapeSize rR_tape fR_tape kR_tape iR_end iR_tokenKind iR_tokenFrom iR_tokenTo iR_tokenName iR_tokenKey iR_tokenWhole oC iR_courtTold rR_names rR_keys fR_keys kR_keys b_iR_tapeSize b_iR_courtTold) (cwV 0 hts (wd_V wd_220 wd_221 wd_222 wd_15 (wd_c wd_223)) rfl rfl rfl dv_yX3_nextToken_0 ⟨Nat.le_of_ble_eq_true rfl, Nat.le_of_ble_eq_true rfl⟩) ⟨Pw.fb, recvX3 hK hP (q0 := 0) rfl, fun U hU hW => Pw.to (hP.ms _ hMs) (hD.ms _ hMs) hK hE hS hFc hU hW⟩ rfl rfl hl.1 rfl (lv_room (Nat.le_of_ble_eq_true rfl)) dX3_readSaid_17 ⟨Nat.le_of_ble_eq_true rfl, Nat.le_of_ble_eq_true rfl⟩) hS (fun q _ h => hFc q h) hFc (fun u t H locs ht hvm hw hB hz1 hk1 hS => ?_)
    refine ex_6_1 hB (fun x_1301 x_1302 x_1303 y_1304 x_1305 x_1306 e_x_1301_0 hB => ?_)
    obtain ⟨hP, hD⟩ := Bw.goN (ws' := [(oc3 oR iR_faultNumber iR_faultPlace iR_tapeSize rR_tape iR_end x_1301 x_1302 x_1303 y_1304 x_1305 x_1306 oC iR_courtTold rR_names rR_keys), (arI rR_tape kR_tape 900 fR_tape), (arL rR_keys kR_keys 10 fR_keys), (oc1 oC iC_nodes iC_words iC_chances iC_unsures iC_slips iC_throneNode iC_saidWorth iC_unit rC_kind rC_parts rC_partNodes rC_weights rC_weightSums rC_toldWorths rC_steps rC_below rC_above rC_unsureWords rC_unsureWorths)]) hB rfl ht hP hD _ hMs hk1 hFc rfl
    clear hz1 hk1 hvm ht hB hMs
    have hG := hG.trans (un6_eq e_x_1301_0)
    refine lv_aload_n hx hb dX3_readSaid_20 rfl (lv_at hl 0 rfl) ?_
    refine lv_iconst (v := 0) hx hb dX3_readSaid_21 (by decide) ?_
    refine lv_bipush (v := 99) hx hb dX3_readSaid_22 (by decide) ?_
    have hMs := ml_of hD [true, false, false, false] (wc := [(oc3 oR iR_faultNumber iR_faultPlace iR_tapeSize rR_tape iR_end x_1301 x_1302 x_1303 y_1304 x_1305 x_1306 oC iR_courtTold rR_names rR_keys)]) rfl
    have hFc := va_freeM hD hS hA _ hMs
    refine va_calli (va_runV (As := [.int 0, .int 99]) (rest := []) ⟨hx, hb, hml, hown, hts⟩ (tX3_isWholeWithin l dC dI _ oR iR_faultNumber iR_faultPlace iR_tapeSize rR_tape iR_end x_1301 x_1302 x_1303 y_1304 x_1305 x_1306 oC iR_courtTold rR_names rR_keys 0 99 b_iR_tapeSize b_iR_courtTold) (cwV 2 hts (wd_V wd_263 wd_264 wd_265 wd_15 (wd_c wd_266)) rfl rfl rfl dv_yX3_isWholeWithin_2 ⟨Nat.le_of_ble_eq_true rfl, Nat.le_of_ble_eq_true rfl⟩) ⟨Pw.fb, recvX3 hK hP (q0 := 0) rfl, fun U hU hW => Pw.to (hP.ms _ hMs) (hD.ms _ hMs) (hK.ms [false, false] rfl) hE hS hFc hU hW⟩ rfl rfl hl.1 rfl (lv_room (Nat.le_of_ble_eq_true rfl)) dX3_readSaid_24 ⟨Nat.le_of_ble_eq_true rfl, Nat.le_of_ble_eq_true rfl⟩) hS (fun q _ h => hFc q h) hFc (fun r u t H locs ht hvm hw hB hz1 hk1 hS => ?_)
    have hru9 := hw.2
    have hw := hw.1
    refine ex_2_1 hB (fun x_1307 x_1308 e_x_1307_0 hB => ?_)
    obtain ⟨hP, hD⟩ := Bw.goN (ws' := [(oc3 oR x_1307 x_1308 iR_tapeSize rR_tape iR_end x_1301 x_1302 x_1303 y_1304 x_1305 x_1306 oC iR_courtTold rR_names rR_keys), (arI rR_tape kR_tape 900 fR_tape), (arL rR_keys kR_keys 10 fR_keys), (oc1 oC iC_nodes iC_words iC_chances iC_unsures iC_slips iC_throneNode iC_saidWorth iC_unit rC_kind rC_parts rC_partNodes rC_weights rC_weightSums rC_toldWorths rC_steps rC_below rC_above rC_unsureWords rC_unsureWorths)]) hB rfl ht hP hD _ hMs hk1 hFc rfl
    clear hz1 hk1 hvm ht hB hMs
    rw [← hru9] at e_x_1307_0
    obtain ⟨x_1309, rfl⟩ : ∃ z, z = r := ⟨_, rfl⟩
    have hG := hG.trans (un3_eq e_x_1307_0)
    have bx_1309 := hw.1
    have dx_1309 := bz_tb bx_1309
    refine lv_if_ne (tgt := 32) hx hb dX3_readSaid_27 (by decide) (fun c_1310 => ?_) (fun c_1310 => ?_)
    · skip
      have hG := hG.trans (if_neg c_1310)
      have gc_1310 := ti_ne c_1310 rfl kc_0
      refine lv_aload_n hx hb dX3_readSaid_32 rfl (lv_at hl 0 rfl) ?_
      refine va_get (D := (dC, dI)) (ci := 3) (v := .ref oC) (C := RX3) (T := TX3) (N := 15) hx hb hts inX3 hown hK hP 0 rfl rfl 11 (by decide) (hts _ wd_46) (fun _ h9 => h9) rfl dX3_readSaid_33 ?_
      refine lv_aload_n hx hb dX3_readSaid_36 rfl (lv_at hl 0 rfl) ?_
      refine va_get (D := (dC, dI)) (ci := 3) (v := .int x_1306) (C := RX3) (T := TX3) (N := 15) hx hb hts inX3 hown hK hP 0 rfl rfl 10 (by decide) (hts _ wd_245) (fun _ h9 => h9) rfl dX3_readSaid_37 ?_
      refine va_put (D := (dC, dI)) (ci := 1) (v := .int x_1306) (ty := .int) (C := RX1) (T := TX1) (N := 19) hx hb hts inX1 tyX1 tyX1_ok nmX1 hown hK hP hD hS 3 rfl rfl 6 (by decide) (hts _ wd_355) (fun _ h9 => h9) rfl (by decide +kernel) rfl rfl (Nat.le_of_ble_eq_true rfl) dX3_readSaid_40 (fun H locs hP hD hS => ?_)
      obtain ⟨hP, hD⟩ := wl2 (ws' := [(oc3 oR x_1307 x_1308 iR_tapeSize rR_tape iR_end x_1301 x_1302 x_1303 y_1304 x_1305 x_1306 oC iR_courtTold rR_names rR_keys), (arI rR_tape kR_tape 900 fR_tape), (arL rR_keys kR_keys 10 fR_keys), (oc1 oC iC_nodes iC_words iC_chances iC_unsures iC_slips iC_throneNode x_1306 iC_unit rC_kind rC_parts rC_partNodes rC_weights rC_weightSums rC_toldWorths rC_steps rC_below rC_above rC_unsureWords rC_unsureWorths)]) hP hD rfl
      refine lv_aload_n hx hb dX3_readSaid_43 rfl (lv_at hl 0 rfl) ?_
      have hMs := ml_of hD [true, true, true, false] (wc := [(oc3 oR x_1307 x_1308 iR_tapeSize rR_tape iR_end x_1301 x_1302 x_1303 y_1304 x_1305 x_1306 oC iR_courtTold rR_names rR_keys), (arI rR_tape kR_tape 900 fR_tape), (arL rR_keys kR_keys 10 fR_keys)]) rfl
      have hFc := va_freeM hD hS hA _ hMs
      refine va_callv (va_runV (As := []) (rest := []) ⟨hx, hb, hml, hown, hts⟩ (tX3_nextToken l dC dI _ oR x_1307 x_1308 iR_tapeSize rR_tape fR_tape kR_tape iR_end x_1301 x_1302 x_1303 y_1304 x_1305 x_1306 oC iR_courtTold rR_names rR_keys fR_keys kR_keys b_iR_tapeSize b_iR_courtTold) (cwV 0 hts (wd_V wd_220 wd_221 wd_222 wd_15 (wd_c wd_223)) rfl rfl rfl dv_yX3_nextToken_0 ⟨Nat.le_of_ble_eq_true rfl, Nat.le_of_ble_eq_true rfl⟩) ⟨Pw.fb, recvX3 hK hP (q0 := 0) rfl, fun U hU hW => Pw.to (hP.ms _ hMs) (hD.ms _ hMs) hK hE hS hFc hU hW⟩ rfl rfl hl.1 rfl (lv_room (Nat.le_of_ble_eq_true rfl)) dX3_readSaid_44 ⟨Nat.le_of_ble_eq_true rfl, Nat.le_of_ble_eq_true rfl⟩) hS (fun q _ h => hFc q h) hFc (fun u t H locs ht hvm hw hB hz1 hk1 hS => ?_)
      refine ex_6_1 hB (fun x_1311 x_1312 x_1313 y_1314 x_1315 x_1316 e_x_1311_0 hB => ?_)
      obtain ⟨hP, hD⟩ := Bw.goN (ws' := [(oc3 oR x_1307 x_1308 iR_tapeSize rR_tape iR_end x_1311 x_1312 x_1313 y_1314 x_1315 x_1316 oC iR_courtTold rR_names rR_keys), (arI rR_tape kR_tape 900 fR_tape), (arL rR_keys kR_keys 10 fR_keys), (oc1 oC iC_nodes iC_words iC_chances iC_unsures iC_slips iC_throneNode x_1306 iC_unit rC_kind rC_parts rC_partNodes rC_weights rC_weightSums rC_toldWorths rC_steps rC_below rC_above rC_unsureWords rC_unsureWorths)]) hB rfl ht hP hD _ hMs hk1 hFc rfl
      clear hz1 hk1 hvm ht hB hMs
      have hG := hG.trans (un6_eq e_x_1311_0)
      refine lv_iconst (v := 1) hx hb dX3_readSaid_47 (by decide) ?_
      exact wq_z (v := 1) hx hb hr rfl (cI 1) ⟨⟨Or.inr rfl, trivial⟩, (cI_of 1)⟩ (fun t ht hW => ⟨x_1307, x_1308, x_1311, x_1312, x_1313, y_1314, x_1315, x_1316, x_1306, (cI_tup hG), Bw.to hP hD hK ht hW⟩) hS dX3_readSaid_48 hlocks
    · skip
      have hG := hG.trans (if_pos c_1310)
      have gc_1310 := ti_eq c_1310 rfl kc_0
      refine lv_iconst (v := 0) hx hb dX3_readSaid_30 (by decide) ?_
      exact wq_z (v := 0) hx hb hr rfl (cI 0) ⟨⟨Or.inl rfl, trivial⟩, (cI_of 0)⟩ (fun t ht hW => ⟨x_1307, x_1308, x_1301, x_1302, x_1303, y_1304, x_1305, x_1306, iC_saidWorth, (cI_tup hG), Bw.to hP hD hK ht hW⟩) hS dX3_readSaid_31 hlocks
  · skip
    have hG := hG.trans (if_neg c_1300)
    have gc_1300 := ti_nlt c_1300 rfl kc_0
    refine lv_aload_n hx hb dX3_readSaid_10 rfl (lv_at hl 0 rfl) ?_
    refine lv_iconst (v := 3) hx hb dX3_readSaid_11 (by decide) ?_
    have hMs := ml_of hD [true, false, false, false] (wc := [(oc3 oR iR_faultNumber iR_faultPlace iR_tapeSize rR_tape iR_end iR_tokenKind iR_tokenFrom iR_tokenTo iR_tokenName iR_tokenKey iR_tokenWhole oC iR_courtTold rR_names rR_keys)]) rfl
    have hFc := va_freeM hD hS hA _ hMs
    refine va_calli (va_runV (As := [.int 3]) (rest := []) ⟨hx, hb, hml, hown, hts⟩ (tX3_faulty l dC dI _ oR iR_faultNumber iR_faultPlace iR_tapeSize rR_tape iR_end iR_tokenKind iR_tokenFrom iR_tokenTo iR_tokenName iR_tokenKey iR_tokenWhole oC iR_courtTold rR_names rR_keys 3 b_iR_tapeSize b_iR_courtTold) (cwV 1 hts (wd_V wd_254 wd_255 wd_256 wd_15 (wd_c wd_257)) rfl rfl rfl dv_yX3_faulty_1 ⟨Nat.le_of_ble_eq_true rfl, Nat.le_of_ble_eq_true rfl⟩) ⟨Pw.fb, recvX3 hK hP (q0 := 0) rfl, fun U hU hW => Pw.to (hP.ms _ hMs) (hD.ms _ hMs) (hK.ms [false, false] rfl) hE hS hFc hU hW⟩ rfl rfl hl.1 rfl (lv_room (Nat.le_of_ble_eq_true rfl)) dX3_readSaid_12 ⟨Nat.le_of_ble_eq_true rfl, Nat.le_of_ble_eq_true rfl⟩) hS (fun q _ h => hFc q h) hFc (fun r u t H locs ht hvm hw hB hz1 hk1 hS => ?_)
    have hru9 := hw.2
    have hw := hw.1
    refine ex_2_1 hB (fun x_1317 x_1318 e_x_1317_0 hB => ?_)
    obtain ⟨hP, hD⟩ := Bw.goN (ws' := [(oc3 oR x_1317 x_1318 iR_tapeSize rR_tape iR_end iR_tokenKind iR_tokenFrom iR_tokenTo iR_tokenName iR_tokenKey iR_tokenWhole oC iR_courtTold rR_names rR_keys), (arI rR_tape kR_tape 900 fR_tape), (arL rR_keys kR_keys 10 fR_keys), (oc1 oC iC_nodes iC_words iC_chances iC_unsures iC_slips iC_throneNode iC_saidWorth iC_unit rC_kind rC_parts rC_partNodes rC_weights rC_weightSums rC_toldWorths rC_steps rC_below rC_above rC_unsureWords rC_unsureWorths)]) hB rfl ht hP hD _ hMs hk1 hFc rfl
    clear hz1 hk1 hvm ht hB hMs
    rw [← hru9] at e_x_1317_0
    rcases hw.2 with ⟨rfl, hc_1319⟩
    · skip
      have hG := hG.trans (un3_eq e_x_1317_0)
      exact wq_z (v := 0) hx hb hr rfl (cI 0) ⟨⟨Or.inl rfl, trivial⟩, (cI_of 0)⟩ (fun t ht hW => ⟨x_1317, x_1318, iR_tokenKind, iR_tokenFrom, iR_tokenTo, iR_tokenName, iR_tokenKey, iR_tokenWhole, iC_saidWorth, (cI_tup hG), Bw.to hP hD hK ht hW⟩) hS dX3_readSaid_15 hlocks
set_option maxHeartbeats 4000000 in
set_option maxRecDepth 100000 in
theorem tX3_readUnsure (l : Launch) (dC : Nat → ClassId) (dI : Nat → Nat → Nat) (sz : Nat) (oR : Nat) (iR_faultNumber : Int32) (iR_faultPlace : Int32) (iR_tapeSize : Int32) (rR_tape : Nat) (fR_tape : Nat → Int32) (kR_tape : ClassId) (iR_end : Int32) (iR_tokenKind : Int32) (iR_tokenFrom : Int32) (iR_tokenTo : Int32) (iR_tokenName : Int64) (iR_tokenKey : Int32) (iR_tokenWhole : Int32) (oC : Nat) (iR_courtTold : Int32) (rR_names : Nat) (fR_names : Nat → Int64) (kR_names : ClassId) (rR_keys : Nat) (fR_keys : Nat → Int64) (kR_keys : ClassId) (iC_nodes : Int32) (iC_words : Int32) (iC_chances : Int32) (iC_unsures : Int32) (iC_slips : Int32) (iC_throneNode : Int32) (iC_saidWorth : Int32) (iC_unit : Int32) (rC_kind : Nat) (fC_kind : Nat → Int32) (kC_kind : ClassId) (rC_parts : Nat) (rC_partNodes : Nat) (rC_weights : Nat) (rC_weightSums : Nat) (rC_toldWorths : Nat) (rC_steps : Nat) (rC_below : Nat) (rC_above : Nat) (rC_unsureWords : Nat) (fC_unsureWords : Nat → Int32) (kC_unsureWords : ClassId) (rC_unsureWorths : Nat) (fC_unsureWorths : Nat → Int32) (kC_unsureWorths : ClassId) (b_iR_tapeSize : 0 ≤ iR_tapeSize.toInt ∧ iR_tapeSize.toInt ≤ 900) (b_iR_courtTold : 0 ≤ iR_courtTold.toInt ∧ iR_courtTold.toInt ≤ 1) (b_iC_nodes : 0 ≤ iC_nodes.toInt ∧ iC_nodes.toInt ≤ 18) (b_iC_unsures : 0 ≤ iC_unsures.toInt ∧ iC_unsures.toInt ≤ 4) (b_iC_throneNode : (-1) ≤ iC_throneNode.toInt ∧ iC_throneNode.toInt ≤ 17) (a_fC_unsureWords : ∀ j : Nat, j < 4 → 0 ≤ (fC_unsureWords j).toInt ∧ (fC_unsureWords j).toInt ≤ 17)  : Met l yX3_readUnsure (Cond.code yX3_readUnsure cX3_readUnsure 2 (some .boolean) :: wG) ({ frames := 3, cells := 0, slots := 0, locals := 66 }) (va_Pc [.ref oR] (Pw dC dI sz [(oc3 oR iR_faultNumber iR_faultPlace iR_tapeSize rR_tape iR_end iR_tokenKind iR_tokenFrom iR_tokenTo iR_tokenName iR_tokenKey iR_tokenWhole oC iR_courtTold rR_names rR_keys), (arI rR_tape kR_tape 900 fR_tape), (arL rR_names kR_names 18 fR_names), (arL rR_keys kR_keys 10 fR_keys), (oc1 oC iC_nodes iC_words iC_chances iC_unsures iC_slips iC_throneNode iC_saidWorth iC_unit rC_kind rC_parts rC_partNodes rC_weights rC_weightSums rC_toldWorths rC_steps rC_below rC_above rC_unsureWords rC_unsureWorths), (arI rC_kind kC_kind 18 fC_kind), (arI rC_unsureWords kC_unsureWords 4 fC_unsureWords), (arI rC_unsureWorths kC_unsureWorths 4 fC_unsureWorths)] [(kR_tape, .byte), (kR_names, .long), (kR_keys, .long), (kC_kind, .int), (kC_unsureWords, .int), (kC_unsureWorths, .int)])) (va_Qi (fun (r : Int32) (u : Nat) => ((r = 0 ∨ r = 1) ∧ True) ∧ r = Int32.ofNat u) (fun (u : Nat) (t : State) => ∃ (niR_faultNumber : Int32) (niR_faultPlace : Int32) (niR_tokenKind : Int32) (niR_tokenFrom : Int32) (niR_tokenTo : Int32) (niR_tokenName : Int64) (niR_tokenKey : Int32) (niR_tokenWhole : Int32) (niC_unsures : Int32) (nfC_unsureWords : Nat → Int32) (nfC_unsureWorths : Nat → Int32), (0 ≤ niC_unsures.toInt ∧ niC_unsures.toInt ≤ 4) ∧ (∀ j : Nat, j < 4 → 0 ≤ (nfC_unsureWords j).toInt ∧ (nfC_unsureWords j).toInt ≤ 17) ∧ (PX3_readUnsure iR_faultNumber iR_faultPlace fR_tape iR_end iR_tokenKind iR_tokenFrom iR_tokenTo iR_tokenName iR_tokenKey iR_tokenWhole fR_names fR_keys iC_nodes iC_unsures fC_kind fC_unsureWords fC_unsureWorths = (Int32.ofNat u, niR_faultNumber, niR_faultPlace, niR_tokenKind, niR_tokenFrom, niR_tokenTo, niR_tokenName, niR_tokenKey, niR_tokenWhole, niC_unsures, nfC_unsureWords, nfC_unsureWorths)) ∧ Bw dC dI (va_A [(oc3 oR iR_faultNumber iR_faultPlace iR_tapeSize rR_tape iR_end iR_tokenKind iR_tokenFrom iR_tokenTo iR_tokenName iR_tokenKey iR_tokenWhole oC iR_courtTold rR_names rR_keys), (arI rR_tape kR_tape 900 fR_tape), (arL rR_names kR_names 18 fR_names), (arL rR_keys kR_keys 10 fR_keys), (oc1 oC iC_nodes iC_words iC_chances iC_unsures iC_slips iC_throneNode iC_saidWorth iC_unit rC_kind rC_parts rC_partNodes rC_weights rC_weightSums rC_toldWorths rC_steps rC_below rC_above rC_unsureWords rC_unsureWorths), (arI rC_kind kC_kind 18 fC_kind), (arI rC_unsureWords kC_unsureWords 4 fC_unsureWords), (arI rC_unsureWorths kC_unsureWorths 4 fC_unsureWorths)] sz) [(oc3 oR niR_faultNumber niR_faultPlace iR_tapeSize rR_tape iR_end niR_tokenKind niR_tokenFrom niR_tokenTo niR_tokenName niR_tokenKey niR_tokenWhole oC iR_courtTold rR_names rR_keys), (arI rR_tape kR_tape 900 fR_tape), (arL rR_names kR_names 18 fR_names), (arL rR_keys kR_keys 10 fR_keys), (oc1 oC iC_nodes iC_words iC_chances niC_unsures iC_slips iC_throneNode iC_saidWorth iC_unit rC_kind rC_parts rC_partNodes rC_weights rC_weightSums rC_toldWorths rC_steps rC_below rC_above rC_unsureWords rC_unsureWorths), (arI rC_kind kC_kind 18 fC_kind), (arI rC_unsureWords kC_unsureWords 4 nfC_unsureWords), (arI rC_unsureWorths kC_unsureWorths 4 nfC_unsureWorths)] [(kR_tape, .byte), (kR_names, .long), (kR_keys, .long), (kC_kind, .int), (kC_unsureWords, .int), (kC_unsureWorths, .int)] t) (va_A [(oc3 oR iR_faultNumber iR_faultPlace iR_tapeSize rR_tape iR_end iR_tokenKind iR_tokenFrom iR_tokenTo iR_tokenName iR_tokenKey iR_tokenWhole oC iR_courtTold rR_names rR_keys), (arI rR_tape kR_tape 900 fR_tape), (arL rR_names kR_names 18 fR_names), (arL rR_keys kR_keys 10 fR_keys), (oc1 oC iC_nodes iC_words iC_chances iC_unsures iC_slips iC_throneNode iC_saidWorth iC_unit rC_kind rC_parts rC_partNodes rC_weights rC_weightSums rC_toldWorths rC_steps rC_below rC_above rC_unsureWords rC_unsureWorths), (arI rC_kind kC_kind 18 fC_kind), (arI rC_unsureWords kC_unsureWords 4 fC_unsureWords), (arI rC_unsureWorths kC_unsureWorths 4 fC_unsureWorths)] sz)) 0 0 (va_A [(oc3 oR iR_faultNumber iR_faultPlace iR_tapeSize rR_tape iR_end iR_tokenKind iR_tokenFrom iR_tokenTo iR_tokenName iR_tokenKey iR_tokenWhole oC iR_courtTold rR_names rR_keys), (arI rR_tape kR_tape 900 fR_tape), (arL rR_names kR_names 18 fR_names), (arL rR_keys kR_keys 10 fR_keys), (oc1 oC iC_nodes iC_words iC_chances iC_unsures iC_slips iC_throneNode iC_saidWorth iC_unit rC_kind rC_parts rC_partNodes rC_weights rC_weightSums rC_toldWorths rC_steps rC_below rC_above rC_unsureWords rC_unsureWorths), (arI rC_kind kC_kind 18 fC_kind), (arI rC_unsureWords kC_unsureWords 4 fC_unsureWords), (arI rC_unsureWorths kC_unsureWorths 4 fC_unsureWorths)] sz) := by
  refine Met.ofW (cc := cX3_readUnsure) (maxL := 2) (ret := (some .boolean)) pnX3 rfl ?_
  intro p e s m args below meth c s₁ B hml hv
  obtain ⟨rfl, hsz, hP, hK, hD0, hE⟩ := hv
  have hx := B.exec
  have hb := B.bytes
  have hr := B.returns
  have hts : ∀ w ∈ wG, w.before ([.ref oR] : List Value).toArray s = true := fun w h => atoms_spec (ws := Cond.code yX3_readUnsure cX3_readUnsure 2 (some .boolean) :: wG) B.pre w (List.mem_cons_of_mem _ h)
  have hown : s.vm.findClass RX3 = some m.cls := own_of B.named rfl
  have hlocks := B.notSynchronized
  subst hsz
  have hD := hD0.self (sz := s.heap.size)
  generalize hAe : va_A [(oc3 oR iR_faultNumber iR_faultPlace iR_tapeSize rR_tape iR_end iR_tokenKind iR_tokenFrom iR_tokenTo iR_tokenName iR_tokenKey iR_tokenWhole oC iR_courtTold rR_names rR_keys), (arI rR_tape kR_tape 900 fR_tape), (arL rR_names kR_names 18 fR_names), (arL rR_keys kR_keys 10 fR_keys), (oc1 oC iC_nodes iC_words iC_chances iC_unsures iC_slips iC_throneNode iC_saidWorth iC_unit rC_kind rC_parts rC_partNodes rC_weights rC_weightSums rC_toldWorths rC_steps rC_below rC_above rC_unsureWords rC_unsureWorths), (arI rC_kind kC_kind 18 fC_kind), (arI rC_unsureWords kC_unsureWords 4 fC_unsureWords), (arI rC_unsureWorths kC_unsureWorths 4 fC_unsureWorths)] s.heap.size = A at hD hE ⊢
  have hA : ∀ q : Nat, s.heap.size ≤ q → A q := fun q h => by rw [← hAe]; exact Or.inr h
  have hS : va_S A s.heap s.heap [] := va_S.rf
  have hl := lv_entry ([.ref oR]) (n := 2) (Nat.le_of_ble_eq_true rfl)
  rw [lg_entry_eq]
  generalize (lg_sl ([.ref oR]) ++ List.replicate (2 - (lg_sl ([.ref oR])).length) Slot.unset).toArray = ls at hl ⊢
  have hl : lv_has ls 2 [(0, .ref oR)] := hl
  have hG := PX3_readUnsure_eq iR_faultNumber iR_faultPlace fR_tape iR_end iR_tokenKind iR_tokenFrom iR_tokenTo iR_tokenName iR_tokenKey iR_tokenWhole fR_names fR_keys iC_nodes iC_unsures fC_kind fC_unsureWords fC_unsureWorths
  refine lv_aload_n hx hb dX3_readUnsure_0 rfl (lv_at hl 0 rfl) ?_
  refine va_get (D := (dC, dI)) (ci := 3) (v := .ref oC) (C := RX3) (T := TX3) (N := 15) hx hb hts inX3 hown hK hP 0 rfl rfl 11 (by decide) (hts _ wd_46) (fun _ h9 => h9) rfl dX3_readUnsure_1 ?_
  refine va_get (D := (dC, dI)) (ci := 1) (v := .int iC_unsures) (C := RX1) (T := TX1) (N := 19) hx hb hts inX1 hown hK hP 4 rfl rfl 3 (by decide) (hts _ wd_338) (fun _ h9 => h9) rfl dX3_readUnsure_4 ?_
  refine lv_iconst (v := 4) hx hb dX3_readUnsure_7 (by decide) ?_
  refine lv_icmp_lt (tgt := 17) hx hb dX3_readUnsure_8 (by decide) (fun c_1366 => ?_) (fun c_1366 => ?_)
  · skip
    have hG := hG.trans (if_pos c_1366)
    have gc_1366 := ti_lt c_1366 rfl kc_4
    refine lv_aload_n hx hb dX3_readUnsure_17 rfl (lv_at hl 0 rfl) ?_
    have hMs := ml_of hD [true, true, false, true, false, false, false, false] (wc := [(oc3 oR iR_faultNumber iR_faultPlace iR_tapeSize rR_tape iR_end iR_tokenKind iR_tokenFrom iR_tokenTo iR_tokenName iR_tokenKey iR_tokenWhole oC iR_courtTold rR_names rR_keys), (arI rR_tape kR_tape 900 fR_tape), (arL rR_keys kR_keys 10 fR_keys)]) rfl
    have hFc := va_freeM hD hS hA _ hMs
    refine va_callv (va_runV (As := []) (rest := []) ⟨hx, hb, hml, hown, hts⟩ (tX3_nextToken l dC dI _ oR iR_faultNumber iR_faultPlace iR_tapeSize rR_tape fR_tape kR_tape iR_end iR_tokenKind iR_tokenFrom iR_tokenTo iR_tokenName iR_tokenKey iR_tokenWhole oC iR_courtTold rR_names rR_keys fR_keys kR_keys b_iR_tapeSize b_iR_courtTold) (cwV 0 hts (wd_V wd_220 wd_221 wd_222 wd_15 (wd_c wd_223)) rfl rfl rfl dv_yX3_nextToken_0 ⟨Nat.le_of_ble_eq_true rfl, Nat.le_of_ble_eq_true rfl⟩) ⟨Pw.fb, recvX3 hK hP (q0 := 0) rfl, fun U hU hW => Pw.to (hP.ms _ hMs) (hD.ms _ hMs) (hK.ms [true, false, true, false, false, false] rfl) hE hS hFc hU hW⟩ rfl rfl hl.1 rfl (lv_room (Nat.le_of_ble_eq_true rfl)) dX3_readUnsure_18 ⟨Nat.le_of_ble_eq_true rfl, Nat.le_of_ble_eq_true rfl⟩) hS (fun q _ h => hFc q h) hFc (fun u t H locs ht hvm hw hB hz1 hk1 hS => ?_)
    refine ex_6_1 hB (fun x_1367 x_1368 x_1369 y_1370 x_1371 x_1372 e_x_1367_0 hB => ?_)
    obtain ⟨hP, hD⟩ := Bw.goN (ws' := [(oc3 oR iR_faultNumber iR_faultPlace iR_tapeSize rR_tape iR_end x_1367 x_1368 x_1369 y_1370 x_1371 x_1372 oC iR_courtTold rR_names rR_keys), (arI rR_tape kR_tape 900 fR_tape), (arL rR_names kR_names 18 fR_names), (arL rR_keys kR_keys 10 fR_keys), (oc1 oC iC_nodes iC_words iC_chances iC_unsures iC_slips iC_throneNode iC_saidWorth iC_unit rC_kind rC_parts rC_partNodes rC_weights rC_weightSums rC_toldWorths rC_steps rC_below rC_above rC_unsureWords rC_unsureWorths), (arI rC_kind kC_kind 18 fC_kind), (arI rC_unsureWords kC_unsureWords 4 fC_unsureWords), (arI rC_unsureWorths kC_unsureWorths 4 fC_unsureWorths)]) hB rfl ht hP hD _ hMs hk1 hFc rfl
    clear hz1 hk1 hvm ht hB hMs
    have hG := hG.trans (un6_eq e_x_1367_0)
    refine lv_aload_n hx hb dX3_readUnsure_21 rfl (lv_at hl 0 rfl) ?_
    have hMs := ml_of hD [true, false, true, false, true, false, false, false] (wc := [(oc3 oR iR_faultNumber iR_faultPlace iR_tapeSize rR_tape iR_end x_1367 x_1368 x_1369 y_1370 x_1371 x_1372 oC iR_courtTold rR_names rR_keys), (arL rR_names kR_names 18 fR_names), (oc1 oC iC_nodes iC_words iC_chances iC_unsures iC_slips iC_throneNode iC_saidWorth iC_unit rC_kind rC_parts rC_partNodes rC_weights rC_weightSums rC_toldWorths rC_steps rC_below rC_above rC_unsureWords rC_unsureWorths)]) rfl
    have hFc := va_freeM hD hS hA _ hMs
    refine va_calli (va_runV (As := []) (rest := []) ⟨hx, hb, hml, hown, hts⟩ (tX3_isToldName l dC dI _ oR iR_faultNumber iR_faultPlace iR_tapeSize rR_tape iR_end x_1367 x_1368 x_1369 y_1370 x_1371 x_1372 oC iR_courtTold rR_names fR_names kR_names rR_keys iC_nodes iC_words iC_chances iC_unsures iC_slips iC_throneNode iC_saidWorth iC_unit rC_kind rC_parts rC_partNodes rC_weights rC_weightSums rC_toldWorths rC_steps rC_below rC_above rC_unsureWords rC_unsureWorths b_iR_tapeSize b_iR_courtTold b_iC_nodes b_iC_unsures b_iC_throneNode) (cwV 0 hts (wd_V wd_304 wd_305 wd_306 wd_15 (wd_c wd_307)) rfl rfl rfl dv_yX3_isToldName_0 ⟨Nat.le_of_ble_eq_true rfl, Nat.le_of_ble_eq_true rfl⟩) ⟨Pw.fb, recvX3 hK hP (q0 := 0) rfl, fun U hU hW => Pw.to (hP.ms _ hMs) (hD.ms _ hMs) (hK.ms [false, true, false, false, false, false] rfl) hE hS hFc hU hW⟩ rfl rfl hl.1 rfl (lv_room (Nat.le_of_ble_eq_true rfl)) dX3_readUnsure_22 ⟨Nat.le_of_ble_eq_true rfl, Nat.le_of_ble_eq_true rfl⟩) hS (fun q _ h => hFc q h) hFc (fun r u t H locs ht hvm hw hB hz1 hk1 hS => ?_)
    have hru9 := hw.2
    have hw := hw.1
    refine ex_2_1 hB (fun x_1373 x_1374 e_x_1373_0 hB => ?_)
    obtain ⟨hP, hD⟩ := Bw.goN (ws' := [(oc3 oR x_1373 x_1374 iR_tapeSize rR_tape iR_end x_1367 x_1368 x_1369 y_1370 x_1371 x_1372 oC iR_courtTold rR_names rR_keys), (arI rR_tape kR_tape 900 fR_tape), (arL rR_names kR_names 18 fR_names), (arL rR_keys kR_keys 10 fR_keys), (oc1 oC iC_nodes iC_words iC_chances iC_unsures iC_slips iC_throneNode iC_saidWorth iC_unit rC_kind rC_parts rC_partNodes rC_weights rC_weightSums rC_toldWorths rC_steps rC_below rC_above rC_unsureWords rC_unsureWorths), (arI rC_kind kC_kind 18 fC_kind), (arI rC_unsureWords kC_unsureWords 4 fC_unsureWords), (arI rC_unsureWorths kC_unsureWorths 4 fC_unsureWorths)]) hB rfl ht hP hD _ hMs hk1 hFc rfl
    clear hz1 hk1 hvm ht hB hMs
    rw [← hru9] at e_x_1373_0
    obtain ⟨x_1375, rfl⟩ : ∃ z, z = r := ⟨_, rfl⟩
    have hG := hG.trans (un3_eq e_x_1373_0)
    have bx_1375 := hw.1
    have dx_1375 := bz_tb bx_1375
    refine lv_if_ne (tgt := 30) hx hb dX3_readUnsure_25 (by decide) (fun c_1376 => ?_) (fun c_1376 => ?_)
    · skip
      have hG := hG.trans (if_neg c_1376)
      have gc_1376 := ti_ne c_1376 rfl kc_0
      refine lv_aload_n hx hb dX3_readUnsure_30 rfl (lv_at hl 0 rfl) ?_
      have hMs := ml_of hD [true, false, true, false, true, false, false, false] (wc := [(oc3 oR x_1373 x_1374 iR_tapeSize rR_tape iR_end x_1367 x_1368 x_1369 y_1370 x_1371 x_1372 oC iR_courtTold rR_names rR_keys), (arL rR_names kR_names 18 fR_names), (oc1 oC iC_nodes iC_words iC_chances iC_unsures iC_slips iC_throneNode iC_saidWorth iC_unit rC_kind rC_parts rC_partNodes rC_weights rC_weightSums rC_toldWorths rC_steps rC_below rC_above rC_unsureWords rC_unsureWorths)]) rfl
      have hFc := va_freeM hD hS hA _ hMs
      refine va_calli (va_runV (As := []) (rest := []) ⟨hx, hb, hml, hown, hts⟩ (tX3_toldNode l dC dI _ oR x_1373 x_1374 iR_tapeSize rR_tape iR_end x_1367 x_1368 x_1369 y_1370 x_1371 x_1372 oC iR_courtTold rR_names fR_names kR_names rR_keys iC_nodes iC_words iC_chances iC_unsures iC_slips iC_throneNode iC_saidWorth iC_unit rC_kind rC_parts rC_partNodes rC_weights rC_weightSums rC_toldWorths rC_steps rC_below rC_above rC_unsureWords rC_unsureWorths b_iR_tapeSize b_iR_courtTold b_iC_nodes b_iC_unsures b_iC_throneNode) (cwV 0 hts (wd_V wd_283 wd_284 wd_285 wd_15 (wd_c wd_286)) rfl rfl rfl dv_yX3_toldNode_0 ⟨Nat.le_of_ble_eq_true rfl, Nat.le_of_ble_eq_true rfl⟩) ⟨Pw.fb, recvX3 hK hP (q0 := 0) rfl, fun U hU hW => Pw.to (hP.ms _ hMs) (hD.ms _ hMs) (hK.ms [false, true, false, false, false, false] rfl) hE hS hFc hU hW⟩ rfl rfl hl.1 rfl (lv_room (Nat.le_of_ble_eq_true rfl)) dX3_readUnsure_31 ⟨Nat.le_of_ble_eq_true rfl, Nat.le_of_ble_eq_true rfl⟩) hS (fun q _ h => hFc q h) hFc (fun r u t H locs ht hvm hw hB hz1 hk1 hS => ?_)
      have hru9 := hw.2
      have hw := hw.1
      obtain ⟨hP, hD⟩ := Bw.goN (ws' := [(oc3 oR x_1373 x_1374 iR_tapeSize rR_tape iR_end x_1367 x_1368 x_1369 y_1370 x_1371 x_1372 oC iR_courtTold rR_names rR_keys), (arI rR_tape kR_tape 900 fR_tape), (arL rR_names kR_names 18 fR_names), (arL rR_keys kR_keys 10 fR_keys), (oc1 oC iC_nodes iC_words iC_chances iC_unsures iC_slips iC_throneNode iC_saidWorth iC_unit rC_kind rC_parts rC_partNodes rC_weights rC_weightSums rC_toldWorths rC_steps rC_below rC_above rC_unsureWords rC_unsureWorths), (arI rC_kind kC_kind 18 fC_kind), (arI rC_unsureWords kC_unsureWords 4 fC_unsureWords), (arI rC_unsureWorths kC_unsureWorths 4 fC_unsureWorths)]) hB rfl ht hP hD _ hMs hk1 hFc rfl
      clear hz1 hk1 hvm ht hB hMs
      obtain ⟨x_1377, rfl⟩ : ∃ z, z = r := ⟨_, rfl⟩
      have hG := hG.trans (lt_eq hru9.symm)
      have ux_1377 := hw.2
      refine lv_istore_n (lv' := [(1, .int x_1377), (0, .ref oR)]) hx hb dX3_readUnsure_34 rfl hl (by decide) rfl (fun ls hl => ?_)
      refine lv_aload_n hx hb dX3_readUnsure_35 rfl (lv_at hl 1 rfl) ?_
      refine va_get (D := (dC, dI)) (ci := 3) (v := .ref oC) (C := RX3) (T := TX3) (N := 15) hx hb hts inX3 hown hK hP 0 rfl rfl 11 (by decide) (hts _ wd_46) (fun _ h9 => h9) rfl dX3_readUnsure_36 ?_
      refine lv_iload_n hx hb dX3_readUnsure_39 rfl (lv_at hl 0 rfl) ?_
      have hMs := ml_of hD [false, false, false, false, true, true, false, false] (wc := [(oc1 oC iC_nodes iC_words iC_chances iC_unsures iC_slips iC_throneNode iC_saidWorth iC_unit rC_kind rC_parts rC_partNodes rC_weights rC_weightSums rC_toldWorths rC_steps rC_below rC_above rC_unsureWords rC_unsureWorths), (arI rC_kind kC_kind 18 fC_kind)]) rfl
      have hFc := va_freeM hD hS hA _ hMs
      refine va_calli (va_runV (As := [.int x_1377]) (rest := []) ⟨hx, hb, hml, hown, hts⟩ (tX1_hasWord l dC dI _ oC iC_nodes iC_words iC_chances iC_unsures iC_slips iC_throneNode iC_saidWorth iC_unit rC_kind fC_kind kC_kind rC_parts rC_partNodes rC_weights rC_weightSums rC_toldWorths rC_steps rC_below rC_above rC_unsureWords rC_unsureWorths x_1377 b_iC_nodes b_iC_unsures b_iC_throneNode) (cwV 1 hts (wd_V wd_339 wd_340 wd_341 wd_19 (wd_c wd_342)) rfl rfl rfl dv_yX1_hasWord_1 ⟨Nat.le_of_ble_eq_true rfl, Nat.le_of_ble_eq_true rfl⟩) ⟨Pw.fb, recvX1 hK hP (q0 := 4) rfl, fun U hU hW => Pw.to (hP.ms _ hMs) (hD.ms _ hMs) (hK.ms [false, false, false, true, false, false] rfl) hE hS hFc hU hW⟩ rfl rfl hl.1 rfl (lv_room (Nat.le_of_ble_eq_true rfl)) dX3_readUnsure_40 ⟨Nat.le_of_ble_eq_true rfl, Nat.le_of_ble_eq_true rfl⟩) hS (fun q _ h => hFc q h) hFc (fun r u t H locs ht hvm hw hB hz1 hk1 hS => ?_)
      have hru9 := hw.2
      have hw := hw.1
      obtain ⟨hP, hD⟩ := Bw.goN (ws' := [(oc3 oR x_1373 x_1374 iR_tapeSize rR_tape iR_end x_1367 x_1368 x_1369 y_1370 x_1371 x_1372 oC iR_courtTold rR_names rR_keys), (arI rR_tape kR_tape 900 fR_tape), (arL rR_names kR_names 18 fR_names), (arL rR_keys kR_keys 10 fR_keys), (oc1 oC iC_nodes iC_words iC_chances iC_unsures iC_slips iC_throneNode iC_saidWorth iC_unit rC_kind rC_parts rC_partNodes rC_weights rC_weightSums rC_toldWorths rC_steps rC_below rC_above rC_unsureWords rC_unsureWorths), (arI rC_kind kC_kind 18 fC_kind), (arI rC_unsureWords kC_unsureWords 4 fC_unsureWords), (arI rC_unsureWorths kC_unsureWorths 4 fC_unsureWorths)]) hB rfl ht hP hD _ hMs hk1 hFc rfl
      clear hz1 hk1 hvm ht hB hMs
      rcases hw.2 with ⟨rfl, hc_1378⟩ | ⟨rfl, hc_1378⟩
      · skip
        have hG := hG.trans (lt_eq hru9.symm)
        have hG := hG.trans (if_pos rfl)
        refine lv_if_ne (tgt := 52) hx hb dX3_readUnsure_43 (by decide) (fun _ => ?_) (fun c => absurd c (by decide))
        refine lv_aload_n hx hb dX3_readUnsure_52 rfl (lv_at hl 1 rfl) ?_
        refine va_get (D := (dC, dI)) (ci := 3) (v := .ref oC) (C := RX3) (T := TX3) (N := 15) hx hb hts inX3 hown hK hP 0 rfl rfl 11 (by decide) (hts _ wd_46) (fun _ h9 => h9) rfl dX3_readUnsure_53 ?_
        refine lv_iload_n hx hb dX3_readUnsure_56 rfl (lv_at hl 0 rfl) ?_
        have hMs := ml_of hD [false, false, false, false, true, false, true, false] (wc := [(oc1 oC iC_nodes iC_words iC_chances iC_unsures iC_slips iC_throneNode iC_saidWorth iC_unit rC_kind rC_parts rC_partNodes rC_weights rC_weightSums rC_toldWorths rC_steps rC_below rC_above rC_unsureWords rC_unsureWorths), (arI rC_unsureWords kC_unsureWords 4 fC_unsureWords)]) rfl
        have hFc := va_freeM hD hS hA _ hMs
        refine va_calli (va_runV (As := [.int x_1377]) (rest := []) ⟨hx, hb, hml, hown, hts⟩ (tX1_isUnsure l dC dI _ oC iC_nodes iC_words iC_chances iC_unsures iC_slips iC_throneNode iC_saidWorth iC_unit rC_kind rC_parts rC_partNodes rC_weights rC_weightSums rC_toldWorths rC_steps rC_below rC_above rC_unsureWords fC_unsureWords kC_unsureWords rC_unsureWorths x_1377 b_iC_nodes b_iC_unsures b_iC_throneNode a_fC_unsureWords) (cwV 1 hts (wd_V wd_343 wd_344 wd_345 wd_19 (wd_c wd_346)) rfl rfl rfl dv_yX1_isUnsure_1 ⟨Nat.le_of_ble_eq_true rfl, Nat.le_of_ble_eq_true rfl⟩) ⟨Pw.fb, recvX1 hK hP (q0 := 4) rfl, fun U hU hW => Pw.to (hP.ms _ hMs) (hD.ms _ hMs) (hK.ms [false, false, false, false, true, false] rfl) hE hS hFc hU hW⟩ rfl rfl hl.1 rfl (lv_room (Nat.le_of_ble_eq_true rfl)) dX3_readUnsure_57 ⟨Nat.le_of_ble_eq_true rfl, Nat.le_of_ble_eq_true rfl⟩) hS (fun q _ h => hFc q h) hFc (fun r u t H locs ht hvm hw hB hz1 hk1 hS => ?_)
        have hru9 := hw.2
        have hw := hw.1
        obtain ⟨hP, hD⟩ := Bw.goN (ws' := [(oc3 oR x_1373 x_1374 iR_tapeSize rR_tape iR_end x_1367 x_1368 x_1369 y_1370 x_1371 x_1372 oC iR_courtTold rR_names rR_keys), (arI rR_tape kR_tape 900 fR_tape), (arL rR_names kR_names 18 fR_names), (arL rR_keys kR_keys 10 fR_keys), (oc1 oC iC_nodes iC_words iC_chances iC_unsures iC_slips iC_throneNode iC_saidWorth iC_unit rC_kind rC_parts rC_partNodes rC_weights rC_weightSums rC_toldWorths rC_steps rC_below rC_above rC_unsureWords rC_unsureWorths), (arI rC_kind kC_kind 18 fC_kind), (arI rC_unsureWords kC_unsureWords 4 fC_unsureWords), (arI rC_unsureWorths kC_unsureWorths 4 fC_unsureWorths)]) hB rfl ht hP hD _ hMs hk1 hFc rfl
        clear hz1 hk1 hvm ht hB hMs
        obtain ⟨x_1381, rfl⟩ : ∃ z, z = r := ⟨_, rfl⟩
        have hG := hG.trans (lt_eq hru9.symm)
        have bx_1381 := hw.1
        have dx_1381 := bz_tb bx_1381
        refine lv_if_eq (tgt := 69) hx hb dX3_readUnsure_60 (by decide) (fun c_1382 => ?_) (fun c_1382 => ?_)
        · skip
          have hG := hG.trans (if_pos c_1382)
          have gc_1382 := ti_eq c_1382 rfl kc_0
          refine lv_aload_n hx hb dX3_readUnsure_69 rfl (lv_at hl 1 rfl) ?_
          have hMs := ml_of hD [true, true, false, true, false, false, false, false] (wc := [(oc3 oR x_1373 x_1374 iR_tapeSize rR_tape iR_end x_1367 x_1368 x_1369 y_1370 x_1371 x_1372 oC iR_courtTold rR_names rR_keys), (arI rR_tape kR_tape 900 fR_tape), (arL rR_keys kR_keys 10 fR_keys)]) rfl
          have hFc := va_freeM hD hS hA _ hMs
          refine va_callv (va_runV (As := []) (rest := []) ⟨hx, hb, hml, hown, hts⟩ (tX3_nextToken l dC dI _ oR x_1373 x_1374 iR_tapeSize rR_tape fR_tape kR_tape iR_end x_1367 x_1368 x_1369 y_1370 x_1371 x_1372 oC iR_courtTold rR_names rR_keys fR_keys kR_keys b_iR_tapeSize b_iR_courtTold) (cwV 0 hts (wd_V wd_220 wd_221 wd_222 wd_15 (wd_c wd_223)) rfl rfl rfl dv_yX3_nextToken_0 ⟨Nat.le_of_ble_eq_true rfl, Nat.le_of_ble_eq_true rfl⟩) ⟨Pw.fb, recvX3 hK hP (q0 := 0) rfl, fun U hU hW => Pw.to (hP.ms _ hMs) (hD.ms _ hMs) (hK.ms [true, false, true, false, false, false] rfl) hE hS hFc hU hW⟩ rfl rfl hl.1 rfl (lv_room (Nat.le_of_ble_eq_true rfl)) dX3_readUnsure_70 ⟨Nat.le_of_ble_eq_true rfl, Nat.le_of_ble_eq_true rfl⟩) hS (fun q _ h => hFc q h) hFc (fun u t H locs ht hvm hw hB hz1 hk1 hS => ?_)
          refine ex_6_1 hB (fun x_1383 x_1384 x_1385 y_1386 x_1387 x_1388 e_x_1383_0 hB => ?_)
          obtain ⟨hP, hD⟩ := Bw.goN (ws' := [(oc3 oR x_1373 x_1374 iR_tapeSize rR_tape iR_end x_1383 x_1384 x_1385 y_1386 x_1387 x_1388 oC iR_courtTold rR_names rR_keys), (arI rR_tape kR_tape 900 fR_tape), (arL rR_names kR_names 18 fR_names), (arL rR_keys kR_keys 10 fR_keys), (oc1 oC iC_nodes iC_words iC_chances iC_unsures iC_slips iC_throneNode iC_saidWorth iC_unit rC_kind rC_parts rC_partNodes rC_weights rC_weightSums rC_toldWorths rC_steps rC_below rC_above rC_unsureWords rC_unsureWorths), (arI rC_kind kC_kind 18 fC_kind), (arI rC_unsureWords kC_unsureWords 4 fC_unsureWords), (arI rC_unsureWorths kC_unsureWorths 4 fC_unsureWorths)]) hB rfl ht hP hD _ hMs hk1 hFc rfl
          clear hz1 hk1 hvm ht hB hMs
          have hG := hG.trans (un6_eq e_x_1383_0)
          refine lv_aload_n hx hb dX3_readUnsure_73 rfl (lv_at hl 1 rfl) ?_
          refine lv_iconst (v := 0) hx hb dX3_readUnsure_74 (by decide) ?_
          refine lv_bipush (v := 99) hx hb dX3_readUnsure_75 (by decide) ?_
          have hMs := ml_of hD [true, false, false, false, false, false, false, false] (wc := [(oc3 oR x_1373 x_1374 iR_tapeSize rR_tape iR_end x_1383 x_1384 x_1385 y_1386 x_1387 x_1388 oC iR_courtTold rR_names rR_keys)]) rfl
          have hFc := va_freeM hD hS hA _ hMs
          refine va_calli (va_runV (As := [.int 0, .int 99]) (rest := []) ⟨hx, hb, hml, hown, hts⟩ (tX3_isWholeWithin l dC dI _ oR x_1373 x_1374 iR_tapeSize rR_tape iR_end x_1383 x_1384 x_1385 y_1386 x_1387 x_1388 oC iR_courtTold rR_names rR_keys 0 99 b_iR_tapeSize b_iR_courtTold) (cwV 2 hts (wd_V wd_263 wd_264 wd_265 wd_15 (wd_c wd_266)) rfl rfl rfl dv_yX3_isWholeWithin_2 ⟨Nat.le_of_ble_eq_true rfl, Nat.le_of_ble_eq_true rfl⟩) ⟨Pw.fb, recvX3 hK hP (q0 := 0) rfl, fun U hU hW => Pw.to (hP.ms _ hMs) (hD.ms _ hMs) (hK.ms [false, false, false, false, false, false] rfl) hE hS hFc hU hW⟩ rfl rfl hl.1 rfl (lv_room (Nat.le_of_ble_eq_true rfl)) dX3_readUnsure_77 ⟨Nat.le_of_ble_eq_true rfl, Nat.le_of_ble_eq_true rfl⟩) hS (fun q _ h => hFc q h) hFc (fun r u t H locs ht hvm hw hB hz1 hk1 hS => ?_)
          have hru9 := hw.2
          have hw := hw.1
          refine ex_2_1 hB (fun x_1389 x_1390 e_x_1389_0 hB => ?_)
          obtain ⟨hP, hD⟩ := Bw.goN (ws' := [(oc3 oR x_1389 x_1390 iR_tapeSize rR_tape iR_end x_1383 x_1384 x_1385 y_1386 x_1387 x_1388 oC iR_courtTold rR_names rR_keys), (arI rR_tape kR_tape 900 fR_tape), (arL rR_names kR_names 18 fR_names), (arL rR_keys kR_keys 10 fR_keys), (oc1 oC iC_nodes iC_words iC_chances iC_unsures iC_slips iC_throneNode iC_saidWorth iC_unit rC_kind rC_parts rC_partNodes rC_weights rC_weightSums rC_toldWorths rC_steps rC_below rC_above rC_unsureWords rC_unsureWorths), (arI rC_kind kC_kind 18 fC_kind), (arI rC_unsureWords kC_unsureWords 4 fC_unsureWords), (arI rC_unsureWorths kC_unsureWorths 4 fC_unsureWorths)]) hB rfl ht hP hD _ hMs hk1 hFc rfl
          clear hz1 hk1 hvm ht hB hMs
          rw [← hru9] at e_x_1389_0
          obtain ⟨x_1391, rfl⟩ : ∃ z, z = r := ⟨_, rfl⟩
          have hG := hG.trans (un3_eq e_x_1389_0)
          have bx_1391 := hw.1
          have dx_1391 := bz_tb bx_1391
          refine lv_if_ne (tgt := 85) hx hb dX3_readUnsure_80 (by decide) (fun c_1392 => ?_) (fun c_1392 => ?_)
          · skip
            have hG := hG.trans (if_neg c_1392)
            have gc_1392 := ti_ne c_1392 rfl kc_0
            refine lv_aload_n hx hb dX3_readUnsure_85 rfl (lv_at hl 1 rfl) ?_
            refine va_get (D := (dC, dI)) (ci := 3) (v := .ref oC) (C := RX3) (T := TX3) (N := 15) hx hb hts inX3 hown hK hP 0 rfl rfl 11 (by decide) (hts _ wd_46) (fun _ h9 => h9) rfl dX3_readUnsure_86 ?_
            refine lv_iload_n hx hb dX3_readUnsure_89 rfl (lv_at hl 0 rfl) ?_
            refine lv_aload_n hx hb dX3_readUnsure_90 rfl (lv_at hl 1 rfl) ?_
            refine va_get (D := (dC, dI)) (ci := 3) (v := .int x_1388) (C := RX3) (T := TX3) (N := 15) hx hb hts inX3 hown hK hP 0 rfl rfl 10 (by decide) (hts _ wd_245) (fun _ h9 => h9) rfl dX3_readUnsure_91 ?_
            have hMs := ml_of hD [false, false, false, false, true, false, true, true] (wc := [(oc1 oC iC_nodes iC_words iC_chances iC_unsures iC_slips iC_throneNode iC_saidWorth iC_unit rC_kind rC_parts rC_partNodes rC_weights rC_weightSums rC_toldWorths rC_steps rC_below rC_above rC_unsureWords rC_unsureWorths), (arI rC_unsureWords kC_unsureWords 4 fC_unsureWords), (arI rC_unsureWorths kC_unsureWorths 4 fC_unsureWorths)]) rfl
            have hFc := va_freeM hD hS hA _ hMs
            refine va_callv (va_runV (As := [.int x_1377, .int x_1388]) (rest := []) ⟨hx, hb, hml, hown, hts⟩ (tX1_addUnsure l dC dI _ oC iC_nodes iC_words iC_chances iC_unsures iC_slips iC_throneNode iC_saidWorth iC_unit rC_kind rC_parts rC_partNodes rC_weights rC_weightSums rC_toldWorths rC_steps rC_below rC_above rC_unsureWords fC_unsureWords kC_unsureWords rC_unsureWorths fC_unsureWorths kC_unsureWorths x_1377 x_1388 b_iC_nodes b_iC_unsures b_iC_throneNode a_fC_unsureWords ⟨hc_1378.1, ux_1377.2⟩) (cwV 2 hts (wd_V wd_347 wd_348 wd_349 wd_19 (wd_c wd_350)) rfl rfl rfl dv_yX1_addUnsure_2 ⟨Nat.le_of_ble_eq_true rfl, Nat.le_of_ble_eq_true rfl⟩) ⟨Pw.fb, recvX1 hK hP (q0 := 4) rfl, fun U hU hW => Pw.to (hP.ms _ hMs) (hD.ms _ hMs) (hK.ms [false, false, false, false, true, true] rfl) hE hS hFc hU hW⟩ rfl rfl hl.1 rfl (lv_room (Nat.le_of_ble_eq_true rfl)) dX3_readUnsure_94 ⟨Nat.le_of_ble_eq_true rfl, Nat.le_of_ble_eq_true rfl⟩) hS (fun q _ h => hFc q h) hFc (fun u t H locs ht hvm hw hB hz1 hk1 hS => ?_)
            refine ex_3_3 hB (fun x_1393 f_1394 f_1395 b_x_1393 a_f_1394 e_x_1393_0 hB => ?_)
            obtain ⟨hP, hD⟩ := Bw.goN (ws' := [(oc3 oR x_1389 x_1390 iR_tapeSize rR_tape iR_end x_1383 x_1384 x_1385 y_1386 x_1387 x_1388 oC iR_courtTold rR_names rR_keys), (arI rR_tape kR_tape 900 fR_tape), (arL rR_names kR_names 18 fR_names), (arL rR_keys kR_keys 10 fR_keys), (oc1 oC iC_nodes iC_words iC_chances x_1393 iC_slips iC_throneNode iC_saidWorth iC_unit rC_kind rC_parts rC_partNodes rC_weights rC_weightSums rC_toldWorths rC_steps rC_below rC_above rC_unsureWords rC_unsureWorths), (arI rC_kind kC_kind 18 fC_kind), (arI rC_unsureWords kC_unsureWords 4 f_1394), (arI rC_unsureWorths kC_unsureWorths 4 f_1395)]) hB rfl ht hP hD _ hMs hk1 hFc rfl
            clear hz1 hk1 hvm ht hB hMs
            have hG := hG.trans (un3_eq e_x_1393_0)
            refine lv_aload_n hx hb dX3_readUnsure_97 rfl (lv_at hl 1 rfl) ?_
            have hMs := ml_of hD [true, true, false, true, false, false, false, false] (wc := [(oc3 oR x_1389 x_1390 iR_tapeSize rR_tape iR_end x_1383 x_1384 x_1385 y_1386 x_1387 x_1388 oC iR_courtTold rR_names rR_keys), (arI rR_tape kR_tape 900 fR_tape), (arL rR_keys kR_keys 10 fR_keys)]) rfl
            have hFc := va_freeM hD hS hA _ hMs
            refine va_callv (va_runV (As := []) (rest := []) ⟨hx, hb, hml, hown, hts⟩ (tX3_nextToken l dC dI _ oR x_1389 x_1390 iR_tapeSize rR_tape fR_tape kR_tape iR_end x_1383 x_1384 x_1385 y_1386 x_1387 x_1388 oC iR_courtTold rR_names rR_keys fR_keys kR_keys b_iR_tapeSize b_iR_courtTold) (cwV 0 hts (wd_V wd_220 wd_221 wd_222 wd_15 (wd_c wd_223)) rfl rfl rfl dv_yX3_nextToken_0 ⟨Nat.le_of_ble_eq_true rfl, Nat.le_of_ble_eq_true rfl⟩) ⟨Pw.fb, recvX3 hK hP (q0 := 0) rfl, fun U hU hW => Pw.to (hP.ms _ hMs) (hD.ms _ hMs) (hK.ms [true, false, true, false, false, false] rfl) hE hS hFc hU hW⟩ rfl rfl hl.1 rfl (lv_room (Nat.le_of_ble_eq_true rfl)) dX3_readUnsure_98 ⟨Nat.le_of_ble_eq_true rfl, Nat.le_of_ble_eq_true rfl⟩) hS (fun q _ h => hFc q h) hFc (fun u t H locs ht hvm hw hB hz1 hk1 hS => ?_)
            refine ex_6_1 hB (fun x_1396 x_1397 x_1398 y_1399 x_1400 x_1401 e_x_1396_0 hB => ?_)
            obtain ⟨hP, hD⟩ := Bw.goN (ws' := [(oc3 oR x_1389 x_1390 iR_tapeSize rR_tape iR_end x_1396 x_1397 x_1398 y_1399 x_1400 x_1401 oC iR_courtTold rR_names rR_keys), (arI rR_tape kR_tape 900 fR_tape), (arL rR_names kR_names 18 fR_names), (arL rR_keys kR_keys 10 fR_keys), (oc1 oC iC_nodes iC_words iC_chances x_1393 iC_slips iC_throneNode iC_saidWorth iC_unit rC_kind rC_parts rC_partNodes rC_weights rC_weightSums rC_toldWorths rC_steps rC_below rC_above rC_unsureWords rC_unsureWorths), (arI rC_kind kC_kind 18 fC_kind), (arI rC_unsureWords kC_unsureWords 4 f_1394), (arI rC_unsureWorths kC_unsureWorths 4 f_1395)]) hB rfl ht hP hD _ hMs hk1 hFc rfl
            clear hz1 hk1 hvm ht hB hMs
            have hG := hG.trans (un6_eq e_x_1396_0)
            refine lv_iconst (v := 1) hx hb dX3_readUnsure_101 (by decide) ?_
            exact wq_z (v := 1) hx hb hr rfl (cI 1) ⟨⟨Or.inr rfl, trivial⟩, (cI_of 1)⟩ (fun t ht hW => ⟨x_1389, x_1390, x_1396, x_1397, x_1398, y_1399, x_1400, x_1401, x_1393, f_1394, f_1395, b_x_1393, a_f_1394, (cI_tup hG), Bw.to hP hD hK ht hW⟩) hS dX3_readUnsure_102 hlocks
          · skip
            have hG := hG.trans (if_pos c_1392)
            have gc_1392 := ti_eq c_1392 rfl kc_0
            refine lv_iconst (v := 0) hx hb dX3_readUnsure_83 (by decide) ?_
            exact wq_z (v := 0) hx hb hr rfl (cI 0) ⟨⟨Or.inl rfl, trivial⟩, (cI_of 0)⟩ (fun t ht hW => ⟨x_1389, x_1390, x_1383, x_1384, x_1385, y_1386, x_1387, x_1388, iC_unsures, fC_unsureWords, fC_unsureWorths, b_iC_unsures, a_fC_unsureWords, (cI_tup hG), Bw.to hP hD hK ht hW⟩) hS dX3_readUnsure_84 hlocks
        · skip
          have hG := hG.trans (if_neg c_1382)
          have gc_1382 := ti_ne c_1382 rfl kc_0
          refine lv_aload_n hx hb dX3_readUnsure_63 rfl (lv_at hl 1 rfl) ?_
          refine lv_iconst (v := 3) hx hb dX3_readUnsure_64 (by decide) ?_
          have hMs := ml_of hD [true, false, false, false, false, false, false, false] (wc := [(oc3 oR x_1373 x_1374 iR_tapeSize rR_tape iR_end x_1367 x_1368 x_1369 y_1370 x_1371 x_1372 oC iR_courtTold rR_names rR_keys)]) rfl
          have hFc := va_freeM hD hS hA _ hMs
          refine va_calli (va_runV (As := [.int 3]) (rest := []) ⟨hx, hb, hml, hown, hts⟩ (tX3_faulty l dC dI _ oR x_1373 x_1374 iR_tapeSize rR_tape iR_end x_1367 x_1368 x_1369 y_1370 x_1371 x_1372 oC iR_courtTold rR_names rR_keys 3 b_iR_tapeSize b_iR_courtTold) (cwV 1 hts (wd_V wd_254 wd_255 wd_256 wd_15 (wd_c wd_257)) rfl rfl rfl dv_yX3_faulty_1 ⟨Nat.le_of_ble_eq_true rfl, Nat.le_of_ble_eq_true rfl⟩) ⟨Pw.fb, recvX3 hK hP (q0 := 0) rfl, fun U hU hW => Pw.to (hP.ms _ hMs) (hD.ms _ hMs) (hK.ms [false, false, false, false, false, false] rfl) hE hS hFc hU hW⟩ rfl rfl hl.1 rfl (lv_room (Nat.le_of_ble_eq_true rfl)) dX3_readUnsure_65 ⟨Nat.le_of_ble_eq_true rfl, Nat.le_of_ble_eq_true rfl⟩) hS (fun q _ h => hFc q h) hFc (fun r u t H locs ht hvm hw hB hz1 hk1 hS => ?_)
          have hru9 := hw.2
          have hw := hw.1
          refine ex_2_1 hB (fun x_1402 x_1403 e_x_1402_0 hB => ?_)
          obtain ⟨hP, hD⟩ := Bw.goN (ws' := [(oc3 oR x_1402 x_1403 iR_tapeSize rR_tape iR_end x_1367 x_1368 x_1369 y_1370 x_1371 x_1372 oC iR_courtTold rR_names rR_keys), (arI rR_tape kR_tape 900 fR_tape), (arL rR_names kR_names 18 fR_names), (arL rR_keys kR_keys 10 fR_keys), (oc1 oC iC_nodes iC_words iC_chances iC_unsures iC_slips iC_throneNode iC_saidWorth iC_unit rC_kind rC_parts rC_partNodes rC_weights rC_weightSums rC_toldWorths rC_steps rC_below rC_above rC_unsureWords rC_unsureWorths), (arI rC_kind kC_kind 18 fC_kind), (arI rC_unsureWords kC_unsureWords 4 fC_unsureWords), (arI rC_unsureWorths kC_unsureWorths 4 fC_unsureWorths)]) hB rfl ht hP hD _ hMs hk1 hFc rfl
          clear hz1 hk1 hvm ht hB hMs
          rw [← hru9] at e_x_1402_0
          rcases hw.2 with ⟨rfl, hc_1404⟩
          · skip
            have hG := hG.trans (un3_eq e_x_1402_0)
            exact wq_z (v := 0) hx hb hr rfl (cI 0) ⟨⟨Or.inl rfl, trivial⟩, (cI_of 0)⟩ (fun t ht hW => ⟨x_1402, x_1403, x_1367, x_1368, x_1369, y_1370, x_1371, x_1372, iC_unsures, fC_unsureWords, fC_unsureWorths, b_iC_unsures, a_fC_unsureWords, (cI_tup hG), Bw.to hP hD hK ht hW⟩) hS dX3_readUnsure_68 hlocks
      · skip
        have hG := hG.trans (lt_eq hru9.symm)
        have hG := hG.trans (if_neg (by decide))
        refine lv_if_ne (tgt := 52) hx hb dX3_readUnsure_43 (by decide) (fun c => absurd c (by decide)) (fun _ => ?_)
        refine lv_aload_n hx hb dX3_readUnsure_46 rfl (lv_at hl 1 rfl) ?_
        refine lv_iconst (v := 2) hx hb dX3_readUnsure_47 (by decide) ?_
        have hMs := ml_of hD [true, false, false, false, false, false, false, false] (wc := [(oc3 oR x_1373 x_1374 iR_tapeSize rR_tape iR_end x_1367 x_1368 x_1369 y_1370 x_1371 x_1372 oC iR_courtTold rR_names rR_keys)]) rfl
        have hFc := va_freeM hD hS hA _ hMs
        refine va_calli (va_runV (As := [.int 2]) (rest := []) ⟨hx, hb, hml, hown, hts⟩ (tX3_faulty l dC dI _ oR x_1373 x_1374 iR_tapeSize rR_tape iR_end x_1367 x_1368 x_1369 y_1370 x_1371 x_1372 oC iR_courtTold rR_names rR_keys 2 b_iR_tapeSize b_iR_courtTold) (cwV 1 hts (wd_V wd_254 wd_255 wd_256 wd_15 (wd_c wd_257)) rfl rfl rfl dv_yX3_faulty_1 ⟨Nat.le_of_ble_eq_true rfl, Nat.le_of_ble_eq_true rfl⟩) ⟨Pw.fb, recvX3 hK hP (q0 := 0) rfl, fun U hU hW => Pw.to (hP.ms _ hMs) (hD.ms _ hMs) (hK.ms [false, false, false, false, false, false] rfl) hE hS hFc hU hW⟩ rfl rfl hl.1 rfl (lv_room (Nat.le_of_ble_eq_true rfl)) dX3_readUnsure_48 ⟨Nat.le_of_ble_eq_true rfl, Nat.le_of_ble_eq_true rfl⟩) hS (fun q _ h => hFc q h) hFc (fun r u t H locs ht hvm hw hB hz1 hk1 hS => ?_)
        have hru9 := hw.2
        have hw := hw.1
        refine ex_2_1 hB (fun x_1407 x_1408 e_x_1407_0 hB => ?_)
        obtain ⟨hP, hD⟩ := Bw.goN (ws' := [(oc3 oR x_1407 x_1408 iR_tapeSize rR_tape iR_end x_1367 x_1368 x_1369 y_1370 x_1371 x_1372 oC iR_courtTold rR_names rR_keys), (arI rR_tape kR_tape 900 fR_tape), (arL rR_names kR_names 18 fR_names), (arL rR_keys kR_keys 10 fR_keys), (oc1 oC iC_nodes iC_words iC_chances iC_unsures iC_slips iC_throneNode iC_saidWorth iC_unit rC_kind rC_parts rC_partNodes rC_weights rC_weightSums rC_toldWorths rC_steps rC_below rC_above rC_unsureWords rC_unsureWorths), (arI rC_kind kC_kind 18 fC_kind), (arI rC_unsureWords kC_unsureWords 4 fC_unsureWords), (arI rC_unsureWorths kC_unsureWorths 4 fC_unsureWorths)]) hB rfl ht hP hD _ hMs hk1 hFc rfl
        clear hz1 hk1 hvm ht hB hMs
        rw [← hru9] at e_x_1407_0
        rcases hw.2 with ⟨rfl, hc_1409⟩
        · skip
          have hG := hG.trans (un3_eq e_x_1407_0)
          exact wq_z (v := 0) hx hb hr rfl (cI 0) ⟨⟨Or.inl rfl, trivial⟩, (cI_of 0)⟩ (fun t ht hW => ⟨x_1407, x_1408, x_1367, x_1368, x_1369, y_1370, x_1371, x_1372, iC_unsures, fC_unsureWords, fC_unsureWorths, b_iC_unsures, a_fC_unsureWords, (cI_tup hG), Bw.to hP hD hK ht hW⟩) hS dX3_readUnsure_51 hlocks
    · skip
      have hG := hG.trans (if_pos c_1376)
      have gc_1376 := ti_eq c_1376 rfl kc_0
      refine lv_iconst (v := 0) hx hb dX3_readUnsure_28 (by decide) ?_
      exact wq_z (v := 0) hx hb hr rfl (cI 0) ⟨⟨Or.inl rfl, trivial⟩, (cI_of 0)⟩ (fun t ht hW => ⟨x_1373, x_1374, x_1367, x_1368, x_1369, y_1370, x_1371, x_1372, iC_unsures, fC_unsureWords, fC_unsureWorths, b_iC_unsures, a_fC_unsureWords, (cI_tup hG), Bw.to hP hD hK ht hW⟩) hS dX3_readUnsure_29 hlocks
  · skip
    have hG := hG.trans (if_neg c_1366)
    have gc_1366 := ti_nlt c_1366 rfl kc_4
    refine lv_aload_n hx hb dX3_readUnsure_11 rfl (lv_at hl 0 rfl) ?_
    refine lv_iconst (v := 5) hx hb dX3_readUnsure_12 (by decide) ?_
    have hMs := ml_of hD [true, false, false, false, false, false, false, false] (wc := [(oc3 oR iR_faultNumber iR_faultPlace iR_tapeSize rR_tape iR_end iR_tokenKind iR_tokenFrom iR_tokenTo iR_tokenName iR_tokenKey iR_tokenWhole oC iR_courtTold rR_names rR_keys)]) rfl
    have hFc := va_freeM hD hS hA _ hMs
    refine va_calli (va_runV (As := [.int 5]) (rest := []) ⟨hx, hb, hml, hown, hts⟩ (tX3_faulty l dC dI _ oR iR_faultNumber iR_faultPlace iR_tapeSize rR_tape iR_end iR_tokenKind iR_tokenFrom iR_tokenTo iR_tokenName iR_tokenKey iR_tokenWhole oC iR_courtTold rR_names rR_keys 5 b_iR_tapeSize b_iR_courtTold) (cwV 1 hts (wd_V wd_254 wd_255 wd_256 wd_15 (wd_c wd_257)) rfl rfl rfl dv_yX3_faulty_1 ⟨Nat.le_of_ble_eq_true rfl, Nat.le_of_ble_eq_true rfl⟩) ⟨Pw.fb, recvX3 hK hP (q0 := 0) rfl, fun U hU hW => Pw.to (hP.ms _ hMs) (hD.ms _ hMs) (hK.ms [false, false, false, false, false, false] rfl) hE hS hFc hU hW⟩ rfl rfl hl.1 rfl (lv_room (Nat.le_of_ble_eq_true rfl)) dX3_readUnsure_13 ⟨Nat.le_of_ble_eq_true rfl, Nat.le_of_ble_eq_true rfl⟩) hS (fun q _ h => hFc q h) hFc (fun r u t H locs ht hvm hw hB hz1 hk1 hS => ?_)
    have hru9 := hw.2
    have hw := hw.1
    refine ex_2_1 hB (fun x_1411 x_1412 e_x_1411_0 hB => ?_)
    obtain ⟨hP, hD⟩ := Bw.goN (ws' := [(oc3 oR x_1411 x_1412 iR_tapeSize rR_tape iR_end iR_tokenKind iR_tokenFrom iR_tokenTo iR_tokenName iR_tokenKey iR_tokenWhole oC iR_courtTold rR_names rR_keys), (arI rR_tape kR_tape 900 fR_tape), (arL rR_names kR_names 18 fR_names), (arL rR_keys kR_keys 10 fR_keys), (oc1 oC iC_nodes iC_words iC_chances iC_unsures iC_slips iC_throneNode iC_saidWorth iC_unit rC_kind rC_parts rC_partNodes rC_weights rC_weightSums rC_toldWorths rC_steps rC_below rC_above rC_unsureWords rC_unsureWorths), (arI rC_kind kC_kind 18 fC_kind), (arI rC_unsureWords kC_unsureWords 4 fC_unsureWords), (arI rC_unsureWorths kC_unsureWorths 4 fC_unsureWorths)]) hB rfl ht hP hD _ hMs hk1 hFc rfl
    clear hz1 hk1 hvm ht hB hMs
    rw [← hru9] at e_x_1411_0
    rcases hw.2 with ⟨rfl, hc_1413⟩
    · skip
      have hG := hG.trans (un3_eq e_x_1411_0)
      exact wq_z (v := 0) hx hb hr rfl (cI 0) ⟨⟨Or.inl rfl, trivial⟩, (cI_of 0)⟩ (fun t ht hW => ⟨x_1411, x_1412, iR_tokenKind, iR_tokenFrom, iR_tokenTo, iR_tokenName, iR_tokenKey, iR_tokenWhole, iC_unsures, fC_unsureWords, fC_unsureWorths, b_iC_unsures, a_fC_unsureWords, (cI_tup hG), Bw.to hP hD hK ht hW⟩) hS dX3_readUnsure_16 hlocks
set_option maxHeartbeats 4000000 in
set_option maxRecDepth 100000 in
theorem tX3_readThrone (l : Launch) (dC : Nat → ClassId) (dI : Nat → Nat → Nat) (sz : Nat) (oR : Nat) (iR_faultNumber : Int32) (iR_faultPlace : Int32) (iR_tapeSize : Int32) (rR_tape : Nat) (fR_tape : Nat → Int32) (kR_tape : ClassId) (iR_end : Int32) (iR_tokenKind : Int32) (iR_tokenFrom : Int32) (iR_tokenTo : Int32) (iR_tokenName : Int64) (iR_tokenKey : Int32) (iR_tokenWhole : Int32) (oC : Nat) (iR_courtTold : Int32) (rR_names : Nat) (fR_names : Nat → Int64) (kR_names : ClassId) (rR_keys : Nat) (fR_keys : Nat → Int64) (kR_keys : ClassId) (iC_nodes : Int32) (iC_words : Int32) (iC_chances : Int32) (iC_unsures : Int32) (iC_slips : Int32) (iC_throneNode : Int32) (iC_saidWorth : Int32) (iC_unit : Int32) (rC_kind : Nat) (rC_parts : Nat) (rC_partNodes : Nat) (rC_weights : Nat) (rC_weightSums : Nat) (rC_toldWorths : Nat) (rC_steps : Nat) (rC_below : Nat) (rC_above : Nat) (rC_unsureWords : Nat) (rC_unsureWorths : Nat) (b_iR_tapeSize : 0 ≤ iR_tapeSize.toInt ∧ iR_tapeSize.toInt ≤ 900) (b_iR_courtTold : 0 ≤ iR_courtTold.toInt ∧ iR_courtTold.toInt ≤ 1) (b_iC_nodes : 0 ≤ iC_nodes.toInt ∧ iC_nodes.toInt ≤ 18) (b_iC_unsures : 0 ≤ iC_unsures.toInt ∧ iC_unsures.toInt ≤ 4) (b_iC_throneNode : (-1) ≤ iC_throneNode.toInt ∧ iC_throneNode.toInt ≤ 17)  : Met l yX3_readThrone (Cond.code yX3_readThrone cX3_readThrone 1 (some .boolean) :: wG) ({ frames := 3, cells := 0, slots := 0, locals := 66 }) (va_Pc [.ref oR] (Pw dC dI sz [(oc3 oR iR_faultNumber iR_faultPlace iR_tapeSize rR_tape iR_end iR_tokenKind iR_tokenFrom iR_tokenTo iR_tokenName iR_tokenKey iR_tokenWhole oC iR_courtTold rR_names rR_keys), (arI rR_tape kR_tape 900 fR_tape), (arL rR_names kR_names 18 fR_names), (arL rR_keys kR_keys 10 fR_keys), (oc1 oC iC_nodes iC_words iC_chances iC_unsures iC_slips iC_throneNode iC_saidWorth iC_unit rC_kind rC_parts rC_partNodes rC_weights rC_weightSums rC_toldWorths rC_steps rC_below rC_above rC_unsureWords rC_unsureWorths)] [(kR_tape, .byte), (kR_names, .long), (kR_keys, .long)])) (va_Qi (fun (r : Int32) (u : Nat) => ((r = 0 ∨ r = 1) ∧ True) ∧ r = Int32.ofNat u) (fun (u : Nat) (t : State) => ∃ (niR_faultNumber : Int32) (niR_faultPlace : Int32) (niR_tokenKind : Int32) (niR_tokenFrom : Int32) (niR_tokenTo : Int32) (niR_tokenName : Int64) (niR_tokenKey : Int32) (niR_tokenWhole : Int32) (niC_throneNode : Int32), ((-1) ≤ niC_throneNode.toInt ∧ niC_throneNode.toInt ≤ 17) ∧ (PX3_readThrone iR_faultNumber iR_faultPlace fR_tape iR_end iR_tokenKind iR_tokenFrom iR_tokenTo iR_tokenName iR_tokenKey iR_tokenWhole fR_names fR_keys iC_nodes iC_throneNode = (Int32.ofNat u, niR_faultNumber, niR_faultPlace, niR_tokenKind, niR_tokenFrom, niR_tokenTo, niR_tokenName, niR_tokenKey, niR_tokenWhole, niC_throneNode)) ∧ Bw dC dI (va_A [(oc3 oR iR_faultNumber iR_faultPlace iR_tapeSize rR_tape iR_end iR_tokenKind iR_tokenFrom iR_tokenTo iR_tokenName iR_tokenKey iR_tokenWhole oC iR_courtTold rR_names rR_keys), (arI rR_tape kR_tape 900 fR_tape), (arL rR_names kR_names 18 fR_names), (arL rR_keys kR_keys 10 fR_keys), (oc1 oC iC_nodes iC_words iC_chances iC_unsures iC_slips iC_throneNode iC_saidWorth iC_unit rC_kind rC_parts rC_partNodes rC_weights rC_weightSums rC_toldWorths rC_steps rC_below rC_above rC_unsureWords rC_unsureWorths)] sz) [(oc3 oR niR_faultNumber niR_faultPlace iR_tapeSize rR_tape iR_end niR_tokenKind niR_tokenFrom niR_tokenTo niR_tokenName niR_tokenKey niR_tokenWhole oC iR_courtTold rR_names rR_keys), (arI rR_tape kR_tape 900 fR_tape), (arL rR_names kR_names 18 fR_names), (arL rR_keys kR_keys 10 fR_keys), (oc1 oC iC_nodes iC_words iC_chances iC_unsures iC_slips niC_throneNode iC_saidWorth iC_unit rC_kind rC_parts rC_partNodes rC_weights rC_weightSums rC_toldWorths rC_steps rC_below rC_above rC_unsureWords rC_unsureWorths)] [(kR_tape, .byte), (kR_names, .long), (kR_keys, .long)] t) (va_A [(oc3 oR iR_faultNumber iR_faultPlace iR_tapeSize rR_tape iR_end iR_tokenKind iR_tokenFrom iR_tokenTo iR_tokenName iR_tokenKey iR_tokenWhole oC iR_courtTold rR_names rR_keys), (arI rR_tape kR_tape 900 fR_tape), (arL rR_names kR_names 18 fR_names), (arL rR_keys kR_keys 10 fR_keys), (oc1 oC iC_nodes iC_words iC_chances iC_unsures iC_slips iC_throneNode iC_saidWorth iC_unit rC_kind rC_parts rC_partNodes rC_weights rC_weightSums rC_toldWorths rC_steps rC_below rC_above rC_unsureWords rC_unsureWorths)] sz)) 0 0 (va_A [(oc3 oR iR_faultNumber iR_faultPlace iR_tapeSize rR_tape iR_end iR_tokenKind iR_tokenFrom iR_tokenTo iR_tokenName iR_tokenKey iR_tokenWhole oC iR_courtTold rR_names rR_keys), (arI rR_tape kR_tape 900 fR_tape), (arL rR_names kR_names 18 fR_names), (arL rR_keys kR_keys 10 fR_keys), (oc1 oC iC_nodes iC_words iC_chances iC_unsures iC_slips iC_throneNode iC_saidWorth iC_unit rC_kind rC_parts rC_partNodes rC_weights rC_weightSums rC_toldWorths rC_steps rC_below rC_above rC_unsureWords rC_unsureWorths)] sz) := by
  refine Met.ofW (cc := cX3_readThrone) (maxL := 1) (ret := (some .boolean)) pnX3 rfl ?_
  intro p e s m args below meth c s₁ B hml hv
  obtain ⟨rfl, hsz, hP, hK, hD0, hE⟩ := hv
  have hx := B.exec
  have hb := B.bytes
  have hr := B.returns
  have hts : ∀ w ∈ wG, w.before ([.ref oR] : List Value).toArray s = true := fun w h => atoms_spec (ws := Cond.code yX3_readThrone cX3_readThrone 1 (some .boolean) :: wG) B.pre w (List.mem_cons_of_mem _ h)
  have hown : s.vm.findClass RX3 = some m.cls := own_of B.named rfl
  have hlocks := B.notSynchronized
  subst hsz
  have hD := hD0.self (sz := s.heap.size)
  generalize hAe : va_A [(oc3 oR iR_faultNumber iR_faultPlace iR_tapeSize rR_tape iR_end iR_tokenKind iR_tokenFrom iR_tokenTo iR_tokenName iR_tokenKey iR_tokenWhole oC iR_courtTold rR_names rR_keys), (arI rR_tape kR_tape 900 fR_tape), (arL rR_names kR_names 18 fR_names), (arL rR_keys kR_keys 10 fR_keys), (oc1 oC iC_nodes iC_words iC_chances iC_unsures iC_slips iC_throneNode iC_saidWorth iC_unit rC_kind rC_parts rC_partNodes rC_weights rC_weightSums rC_toldWorths rC_steps rC_below rC_above rC_unsureWords rC_unsureWorths)] s.heap.size = A at hD hE ⊢
  have hA : ∀ q : Nat, s.heap.size ≤ q → A q := fun q h => by rw [← hAe]; exact Or.inr h
  have hS : va_S A s.heap s.heap [] := va_S.rf
  have hl := lv_entry ([.ref oR]) (n := 1) (Nat.le_of_ble_eq_true rfl)
  rw [lg_entry_eq]
  generalize (lg_sl ([.ref oR]) ++ List.replicate (1 - (lg_sl ([.ref oR])).length) Slot.unset).toArray = ls at hl ⊢
  have hl : lv_has ls 1 [(0, .ref oR)] := hl
  have hG := PX3_readThrone_eq iR_faultNumber iR_faultPlace fR_tape iR_end iR_tokenKind iR_tokenFrom iR_tokenTo iR_tokenName iR_tokenKey iR_tokenWhole fR_names fR_keys iC_nodes iC_throneNode
  refine lv_aload_n hx hb dX3_readThrone_0 rfl (lv_at hl 0 rfl) ?_
  refine va_get (D := (dC, dI)) (ci := 3) (v := .ref oC) (C := RX3) (T := TX3) (N := 15) hx hb hts inX3 hown hK hP 0 rfl rfl 11 (by decide) (hts _ wd_46) (fun _ h9 => h9) rfl dX3_readThrone_1 ?_
  refine va_get (D := (dC, dI)) (ci := 1) (v := .int iC_throneNode) (C := RX1) (T := TX1) (N := 19) hx hb hts inX1 hown hK hP 4 rfl rfl 5 (by decide) (hts _ wd_333) (fun _ h9 => h9) rfl dX3_readThrone_4 ?_
  refine lv_if_lt (tgt := 16) hx hb dX3_readThrone_7 (by decide) (fun c_1436 => ?_) (fun c_1436 => ?_)
  · skip
    have hG := hG.trans (if_pos c_1436)
    have gc_1436 := ti_lt c_1436 rfl kc_0
    refine lv_aload_n hx hb dX3_readThrone_16 rfl (lv_at hl 0 rfl) ?_
    have hMs := ml_of hD [true, true, false, true, false] (wc := [(oc3 oR iR_faultNumber iR_faultPlace iR_tapeSize rR_tape iR_end iR_tokenKind iR_tokenFrom iR_tokenTo iR_tokenName iR_tokenKey iR_tokenWhole oC iR_courtTold rR_names rR_keys), (arI rR_tape kR_tape 900 fR_tape), (arL rR_keys kR_keys 10 fR_keys)]) rfl
    have hFc := va_freeM hD hS hA _ hMs
    refine va_callv (va_runV (As := []) (rest := []) ⟨hx, hb, hml, hown, hts⟩ (tX3_nextToken l dC dI _ oR iR_faultNumber iR_faultPlace iR_tapeSize rR_tape fR_tape kR_tape iR_end iR_tokenKind iR_tokenFrom iR_tokenTo iR_tokenName iR_tokenKey iR_tokenWhole oC iR_courtTold rR_names rR_keys fR_keys kR_keys b_iR_tapeSize b_iR_courtTold) (cwV 0 hts (wd_V wd_220 wd_221 wd_222 wd_15 (wd_c wd_223)) rfl rfl rfl dv_yX3_nextToken_0 ⟨Nat.le_of_ble_eq_true rfl, Nat.le_of_ble_eq_true rfl⟩) ⟨Pw.fb, recvX3 hK hP (q0 := 0) rfl, fun U hU hW => Pw.to (hP.ms _ hMs) (hD.ms _ hMs) (hK.ms [true, false, true] rfl) hE hS hFc hU hW⟩ rfl rfl hl.1 rfl (lv_room (Nat.le_of_ble_eq_true rfl)) dX3_readThrone_17 ⟨Nat.le_of_ble_eq_true rfl, Nat.le_of_ble_eq_true rfl⟩) hS (fun q _ h => hFc q h) hFc (fun u t H locs ht hvm hw hB hz1 hk1 hS => ?_)
    refine ex_6_1 hB (fun x_1437 x_1438 x_1439 y_1440 x_1441 x_1442 e_x_1437_0 hB => ?_)
    obtain ⟨hP, hD⟩ := Bw.goN (ws' := [(oc3 oR iR_faultNumber iR_faultPlace iR_tapeSize rR_tape iR_end x_1437 x_1438 x_1439 y_1440 x_1441 x_1442 oC iR_courtTold rR_names rR_keys), (arI rR_tape kR_tape 900 fR_tape), (arL rR_names kR_names 18 fR_names), (arL rR_keys kR_keys 10 fR_keys), (oc1 oC iC_nodes iC_words iC_chances iC_unsures iC_slips iC_throneNode iC_saidWorth iC_unit rC_kind rC_parts rC_partNodes rC_weights rC_weightSums rC_toldWorths rC_steps rC_below rC_above rC_unsureWords rC_unsureWorths)]) hB rfl ht hP hD _ hMs hk1 hFc rfl
    clear hz1 hk1 hvm ht hB hMs
    have hG := hG.trans (un6_eq e_x_1437_0)
    refine lv_aload_n hx hb dX3_readThrone_20 rfl (lv_at hl 0 rfl) ?_
    have hMs := ml_of hD [true, false, true, false, true] (wc := [(oc3 oR iR_faultNumber iR_faultPlace iR_tapeSize rR_tape iR_end x_1437 x_1438 x_1439 y_1440 x_1441 x_1442 oC iR_courtTold rR_names rR_keys), (arL rR_names kR_names 18 fR_names), (oc1 oC iC_nodes iC_words iC_chances iC_unsures iC_slips iC_throneNode iC_saidWorth iC_unit rC_kind rC_parts rC_partNodes rC_weights rC_weightSums rC_toldWorths rC_steps rC_below rC_above rC_unsureWords rC_unsureWorths)]) rfl
    have hFc := va_freeM hD hS hA _ hMs
    refine va_calli (va_runV (As := []) (rest := []) ⟨hx, hb, hml, hown, hts⟩ (tX3_isToldName l dC dI _ oR iR_faultNumber iR_faultPlace iR_tapeSize rR_tape iR_end x_1437 x_1438 x_1439 y_1440 x_1441 x_1442 oC iR_courtTold rR_names fR_names kR_names rR_keys iC_nodes iC_words iC_chances iC_unsures iC_slips iC_throneNode iC_saidWorth iC_unit rC_kind rC_parts rC_partNodes rC_weights rC_weightSums rC_toldWorths rC_steps rC_below rC_above rC_unsureWords rC_unsureWorths b_iR_tapeSize b_iR_courtTold b_iC_nodes b_iC_unsures b_iC_throneNode) (cwV 0 hts (wd_V wd_304 wd_305 wd_306 wd_15 (wd_c wd_307)) rfl rfl rfl dv_yX3_isToldName_0 ⟨Nat.le_of_ble_eq_true rfl, Nat.le_of_ble_eq_true rfl⟩) ⟨Pw.fb, recvX3 hK hP (q0 := 0) rfl, fun U hU hW => Pw.to (hP.ms _ hMs) (hD.ms _ hMs) (hK.ms [false, true, false] rfl) hE hS hFc hU hW⟩ rfl rfl hl.1 rfl (lv_room (Nat.le_of_ble_eq_true rfl)) dX3_readThrone_21 ⟨Nat.le_of_ble_eq_true rfl, Nat.le_of_ble_eq_true rfl⟩) hS (fun q _ h => hFc q h) hFc (fun r u t H locs ht hvm hw hB hz1 hk1 hS => ?_)
    have hru9 := hw.2
    have hw := hw.1
    refine ex_2_1 hB (fun x_1443 x_1444 e_x_1443_0 hB => ?_)
    obtain ⟨hP, hD⟩ := Bw.goN (ws' := [(oc3 oR x_1443 x_1444 iR_tapeSize rR_tape iR_end x_1437 x_1438 x_1439 y_1440 x_1441 x_1442 oC iR_courtTold rR_names rR_keys), (arI rR_tape kR_tape 900 fR_tape), (arL rR_names kR_names 18 fR_names), (arL rR_keys kR_keys 10 fR_keys), (oc1 oC iC_nodes iC_words iC_chances iC_unsures iC_slips iC_throneNode iC_saidWorth iC_unit rC_kind rC_parts rC_partNodes rC_weights rC_weightSums rC_toldWorths rC_steps rC_below rC_above rC_unsureWords rC_unsureWorths)]) hB rfl ht hP hD _ hMs hk1 hFc rfl
    clear hz1 hk1 hvm ht hB hMs
    rw [← hru9] at e_x_1443_0
    obtain ⟨x_1445, rfl⟩ : ∃ z, z = r := ⟨_, rfl⟩
    have hG := hG.trans (un3_eq e_x_1443_0)
    have bx_1445 := hw.1
    have dx_1445 := bz_tb bx_1445
    refine lv_if_ne (tgt := 29) hx hb dX3_readThrone_24 (by decide) (fun c_1446 => ?_) (fun c_1446 => ?_)
    · skip
      have hG := hG.trans (if_neg c_1446)
      have gc_1446 := ti_ne c_1446 rfl kc_0
      refine lv_aload_n hx hb dX3_readThrone_29 rfl (lv_at hl 0 rfl) ?_
      refine va_get (D := (dC, dI)) (ci := 3) (v := .ref oC) (C := RX3) (T := TX3) (N := 15) hx hb hts inX3 hown hK hP 0 rfl rfl 11 (by decide) (hts _ wd_46) (fun _ h9 => h9) rfl dX3_readThrone_30 ?_
      refine lv_aload_n hx hb dX3_readThrone_33 rfl (lv_at hl 0 rfl) ?_
      have hMs := ml_of hD [true, false, true, false, true] (wc := [(oc3 oR x_1443 x_1444 iR_tapeSize rR_tape iR_end x_1437 x_1438 x_1439 y_1440 x_1441 x_1442 oC iR_courtTold rR_names rR_keys), (arL rR_names kR_names 18 fR_names), (oc1 oC iC_nodes iC_words iC_chances iC_unsures iC_slips iC_throneNode iC_saidWorth iC_unit rC_kind rC_parts rC_partNodes rC_weights rC_weightSums rC_toldWorths rC_steps rC_below rC_above rC_unsureWords rC_unsureWorths)]) rfl
      have hFc := va_freeM hD hS hA _ hMs
      refine va_calli (va_runV (As := []) (rest := [.ref oC]) ⟨hx, hb, hml, hown, hts⟩ (tX3_toldNode l dC dI _ oR x_1443 x_1444 iR_tapeSize rR_tape iR_end x_1437 x_1438 x_1439 y_1440 x_1441 x_1442 oC iR_courtTold rR_names fR_names kR_names rR_keys iC_nodes iC_words iC_chances iC_unsures iC_slips iC_throneNode iC_saidWorth iC_unit rC_kind rC_parts rC_partNodes rC_weights rC_weightSums rC_toldWorths rC_steps rC_below rC_above rC_unsureWords rC_unsureWorths b_iR_tapeSize b_iR_courtTold b_iC_nodes b_iC_unsures b_iC_throneNode) (cwV 0 hts (wd_V wd_283 wd_284 wd_285 wd_15 (wd_c wd_286)) rfl rfl rfl dv_yX3_toldNode_0 ⟨Nat.le_of_ble_eq_true rfl, Nat.le_of_ble_eq_true rfl⟩) ⟨Pw.fb, recvX3 hK hP (q0 := 0) rfl, fun U hU hW => Pw.to (hP.ms _ hMs) (hD.ms _ hMs) (hK.ms [false, true, false] rfl) hE hS hFc hU hW⟩ rfl rfl hl.1 rfl (lv_room (Nat.le_of_ble_eq_true rfl)) dX3_readThrone_34 ⟨Nat.le_of_ble_eq_true rfl, Nat.le_of_ble_eq_true rfl⟩) hS (fun q _ h => hFc q h) hFc (fun r u t H locs ht hvm hw hB hz1 hk1 hS => ?_)
      have hru9 := hw.2
      have hw := hw.1
      obtain ⟨hP, hD⟩ := Bw.goN (ws' := [(oc3 oR x_1443 x_1444 iR_tapeSize rR_tape iR_end x_1437 x_1438 x_1439 y_1440 x_1441 x_1442 oC iR_courtTold rR_names rR_keys), (arI rR_tape kR_tape 900 fR_tape), (arL rR_names kR_names 18 fR_names), (arL rR_keys kR_keys 10 fR_keys), (oc1 oC iC_nodes iC_words iC_chances iC_unsures iC_slips iC_throneNode iC_saidWorth iC_unit rC_kind rC_parts rC_partNodes rC_weights rC_weightSums rC_toldWorths rC_steps rC_below rC_above rC_unsureWords rC_unsureWorths)]) hB rfl ht hP hD _ hMs hk1 hFc rfl
      clear hz1 hk1 hvm ht hB hMs
      obtain ⟨x_1447, rfl⟩ : ∃ z, z = r := ⟨_, rfl⟩
      have hG := hG.trans (lt_eq hru9.symm)
      have ux_1447 := hw.2
      refine va_put (D := (dC, dI)) (ci := 1) (v := .int x_1447) (ty := .int) (C := RX1) (T := TX1) (N := 19) hx hb hts inX1 tyX1 tyX1_ok nmX1 hown hK hP hD hS 4 rfl rfl 5 (by decide) (hts _ wd_333) (fun _ h9 => h9) rfl (by decide +kernel) rfl rfl (Nat.le_of_ble_eq_true rfl) dX3_readThrone_37 (fun H locs hP hD hS => ?_)
      obtain ⟨hP, hD⟩ := wl2 (ws' := [(oc3 oR x_1443 x_1444 iR_tapeSize rR_tape iR_end x_1437 x_1438 x_1439 y_1440 x_1441 x_1442 oC iR_courtTold rR_names rR_keys), (arI rR_tape kR_tape 900 fR_tape), (arL rR_names kR_names 18 fR_names), (arL rR_keys kR_keys 10 fR_keys), (oc1 oC iC_nodes iC_words iC_chances iC_unsures iC_slips x_1447 iC_saidWorth iC_unit rC_kind rC_parts rC_partNodes rC_weights rC_weightSums rC_toldWorths rC_steps rC_below rC_above rC_unsureWords rC_unsureWorths)]) hP hD rfl
      refine lv_aload_n hx hb dX3_readThrone_40 rfl (lv_at hl 0 rfl) ?_
      have hMs := ml_of hD [true, true, false, true, false] (wc := [(oc3 oR x_1443 x_1444 iR_tapeSize rR_tape iR_end x_1437 x_1438 x_1439 y_1440 x_1441 x_1442 oC iR_courtTold rR_names rR_keys), (arI rR_tape kR_tape 900 fR_tape), (arL rR_keys kR_keys 10 fR_keys)]) rfl
      have hFc := va_freeM hD hS hA _ hMs
      refine va_callv (va_runV (As := []) (rest := []) ⟨hx, hb, hml, hown, hts⟩ (tX3_nextToken l dC dI _ oR x_1443 x_1444 iR_tapeSize rR_tape fR_tape kR_tape iR_end x_1437 x_1438 x_1439 y_1440 x_1441 x_1442 oC iR_courtTold rR_names rR_keys fR_keys kR_keys b_iR_tapeSize b_iR_courtTold) (cwV 0 hts (wd_V wd_220 wd_221 wd_222 wd_15 (wd_c wd_223)) rfl rfl rfl dv_yX3_nextToken_0 ⟨Nat.le_of_ble_eq_true rfl, Nat.le_of_ble_eq_true rfl⟩) ⟨Pw.fb, recvX3 hK hP (q0 := 0) rfl, fun U hU hW => Pw.to (hP.ms _ hMs) (hD.ms _ hMs) (hK.ms [true, false, true] rfl) hE hS hFc hU hW⟩ rfl rfl hl.1 rfl (lv_room (Nat.le_of_ble_eq_true rfl)) dX3_readThrone_41 ⟨Nat.le_of_ble_eq_true rfl, Nat.le_of_ble_eq_true rfl⟩) hS (fun q _ h => hFc q h) hFc (fun u t H locs ht hvm hw hB hz1 hk1 hS => ?_)
      refine ex_6_1 hB (fun x_1448 x_1449 x_1450 y_1451 x_1452 x_1453 e_x_1448_0 hB => ?_)
      obtain ⟨hP, hD⟩ := Bw.goN (ws' := [(oc3 oR x_1443 x_1444 iR_tapeSize rR_tape iR_end x_1448 x_1449 x_1450 y_1451 x_1452 x_1453 oC iR_courtTold rR_names rR_keys), (arI rR_tape kR_tape 900 fR_tape), (arL rR_names kR_names 18 fR_names), (arL rR_keys kR_keys 10 fR_keys), (oc1 oC iC_nodes iC_words iC_chances iC_unsures iC_slips x_1447 iC_saidWorth iC_unit rC_kind rC_parts rC_partNodes rC_weights rC_weightSums rC_toldWorths rC_steps rC_below rC_above rC_unsureWords rC_unsureWorths)]) hB rfl ht hP hD _ hMs hk1 hFc rfl
      clear hz1 hk1 hvm ht hB hMs
      have hG := hG.trans (un6_eq e_x_1448_0)
      refine lv_iconst (v := 1) hx hb dX3_readThrone_44 (by decide) ?_
      exact wq_z (v := 1) hx hb hr rfl (cI 1) ⟨⟨Or.inr rfl, trivial⟩, (cI_of 1)⟩ (fun t ht hW => ⟨x_1443, x_1444, x_1448, x_1449, x_1450, y_1451, x_1452, x_1453, x_1447, ux_1447, (cI_tup hG), Bw.to hP hD hK ht hW⟩) hS dX3_readThrone_45 hlocks
    · skip
      have hG := hG.trans (if_pos c_1446)
      have gc_1446 := ti_eq c_1446 rfl kc_0
      refine lv_iconst (v := 0) hx hb dX3_readThrone_27 (by decide) ?_
      exact wq_z (v := 0) hx hb hr rfl (cI 0) ⟨⟨Or.inl rfl, trivial⟩, (cI_of 0)⟩ (fun t ht hW => ⟨x_1443, x_1444, x_1437, x_1438, x_1439, y_1440, x_1441, x_1442, iC_throneNode, b_iC_throneNode, (cI_tup hG), Bw.to hP hD hK ht hW⟩) hS dX3_readThrone_28 hlocks
  · skip
    have hG := hG.trans (if_neg c_1436)
    have gc_1436 := ti_nlt c_1436 rfl kc_0
    refine lv_aload_n hx hb dX3_readThrone_10 rfl (lv_at hl 0 rfl) ?_
    refine lv_iconst (v := 3) hx hb dX3_readThrone_11 (by decide) ?_
    have hMs := ml_of hD [true, false, false, false, false] (wc := [(oc3 oR iR_faultNumber iR_faultPlace iR_tapeSize rR_tape iR_end iR_tokenKind iR_tokenFrom iR_tokenTo iR_tokenName iR_tokenKey iR_tokenWhole oC iR_courtTold rR_names rR_keys)]) rfl
    have hFc := va_freeM hD hS hA _ hMs
    refine va_calli (va_runV (As := [.int 3]) (rest := []) ⟨hx, hb, hml, hown, hts⟩ (tX3_faulty l dC dI _ oR iR_faultNumber iR_faultPlace iR_tapeSize rR_tape iR_end iR_tokenKind iR_tokenFrom iR_tokenTo iR_tokenName iR_tokenKey iR_tokenWhole oC iR_courtTold rR_names rR_keys 3 b_iR_tapeSize b_iR_courtTold) (cwV 1 hts (wd_V wd_254 wd_255 wd_256 wd_15 (wd_c wd_257)) rfl rfl rfl dv_yX3_faulty_1 ⟨Nat.le_of_ble_eq_true rfl, Nat.le_of_ble_eq_true rfl⟩) ⟨Pw.fb, recvX3 hK hP (q0 := 0) rfl, fun U hU hW => Pw.to (hP.ms _ hMs) (hD.ms _ hMs) (hK.ms [false, false, false] rfl) hE hS hFc hU hW⟩ rfl rfl hl.1 rfl (lv_room (Nat.le_of_ble_eq_true rfl)) dX3_readThrone_12 ⟨Nat.le_of_ble_eq_true rfl, Nat.le_of_ble_eq_true rfl⟩) hS (fun q _ h => hFc q h) hFc (fun r u t H locs ht hvm hw hB hz1 hk1 hS => ?_)
    have hru9 := hw.2
    have hw := hw.1
    refine ex_2_1 hB (fun x_1454 x_1455 e_x_1454_0 hB => ?_)
    obtain ⟨hP, hD⟩ := Bw.goN (ws' := [(oc3 oR x_1454 x_1455 iR_tapeSize rR_tape iR_end iR_tokenKind iR_tokenFrom iR_tokenTo iR_tokenName iR_tokenKey iR_tokenWhole oC iR_courtTold rR_names rR_keys), (arI rR_tape kR_tape 900 fR_tape), (arL rR_names kR_names 18 fR_names), (arL rR_keys kR_keys 10 fR_keys), (oc1 oC iC_nodes iC_words iC_chances iC_unsures iC_slips iC_throneNode iC_saidWorth iC_unit rC_kind rC_parts rC_partNodes rC_weights rC_weightSums rC_toldWorths rC_steps rC_below rC_above rC_unsureWords rC_unsureWorths)]) hB rfl ht hP hD _ hMs hk1 hFc rfl
    clear hz1 hk1 hvm ht hB hMs
    rw [← hru9] at e_x_1454_0
    rcases hw.2 with ⟨rfl, hc_1456⟩
    · skip
      have hG := hG.trans (un3_eq e_x_1454_0)
      exact wq_z (v := 0) hx hb hr rfl (cI 0) ⟨⟨Or.inl rfl, trivial⟩, (cI_of 0)⟩ (fun t ht hW => ⟨x_1454, x_1455, iR_tokenKind, iR_tokenFrom, iR_tokenTo, iR_tokenName, iR_tokenKey, iR_tokenWhole, iC_throneNode, b_iC_throneNode, (cI_tup hG), Bw.to hP hD hK ht hW⟩) hS dX3_readThrone_15 hlocks
set_option maxHeartbeats 4000000 in
set_option maxRecDepth 100000 in
theorem tX3_readPart (l : Launch) (dC : Nat → ClassId) (dI : Nat → Nat → Nat) (sz : Nat) (oR : Nat) (iR_faultNumber : Int32) (iR_faultPlace : Int32) (iR_tapeSize : Int32) (rR_tape : Nat) (fR_tape : Nat → Int32) (kR_tape : ClassId) (iR_end : Int32) (iR_tokenKind : Int32) (iR_tokenFrom : Int32) (iR_tokenTo : Int32) (iR_tokenName : Int64) (iR_tokenKey : Int32) (iR_tokenWhole : Int32) (oC : Nat) (iR_courtTold : Int32) (rR_names : Nat) (fR_names : Nat → Int64) (kR_names : ClassId) (rR_keys : Nat) (fR_keys : Nat → Int64) (kR_keys : ClassId) (iC_nodes : Int32) (iC_words : Int32) (iC_chances : Int32) (iC_unsures : Int32) (iC_slips : Int32) (iC_throneNode : Int32) (iC_saidWorth : Int32) (iC_unit : Int32) (rC_kind : Nat) (rC_parts : Nat) (fC_parts : Nat → Int32) (kC_parts : ClassId) (rC_partNodes : Nat) (fC_partNodes : Nat → Int32) (kC_partNodes : ClassId) (rC_weights : Nat) (fC_weights : Nat → Int32) (kC_weights : ClassId) (rC_weightSums : Nat) (fC_weightSums : Nat → Int32) (kC_weightSums : ClassId) (rC_toldWorths : Nat) (rC_steps : Nat) (fC_steps : Nat → Int32) (kC_steps : ClassId) (rC_below : Nat) (fC_below : Nat → Int32) (kC_below : ClassId) (rC_above : Nat) (fC_above : Nat → Int32) (kC_above : ClassId) (rC_unsureWords : Nat) (rC_unsureWorths : Nat) (p0 : Int32) (b_iR_tapeSize : 0 ≤ iR_tapeSize.toInt ∧ iR_tapeSize.toInt ≤ 900) (b_iR_courtTold : 0 ≤ iR_courtTold.toInt ∧ iR_courtTold.toInt ≤ 1) (b_iC_nodes : 0 ≤ iC_nodes.toInt ∧ iC_nodes.toInt ≤ 18) (b_iC_unsures : 0 ≤ iC_unsures.toInt ∧ iC_unsures.toInt ≤ 4) (b_iC_throneNode : (-1) ≤ iC_throneNode.toInt ∧ iC_throneNode.toInt ≤ 17) (a_fC_parts : ∀ j : Nat, j < 18 → 0 ≤ (fC_parts j).toInt ∧ (fC_parts j).toInt ≤ 4) (a_fC_partNodes : ∀ j : Nat, j < 72 → 0 ≤ (fC_partNodes j).toInt ∧ (fC_partNodes j).toInt ≤ 17)  : Met l yX3_readPart (Cond.code yX3_readPart cX3_readPart 4 (some .boolean) :: wG) ({ frames := 3, cells := 0, slots := 0, locals := 66 }) (va_Pc [.ref oR, .int p0] (Pw dC dI sz [(oc3 oR iR_faultNumber iR_faultPlace iR_tapeSize rR_tape iR_end iR_tokenKind iR_tokenFrom iR_tokenTo iR_tokenName iR_tokenKey iR_tokenWhole oC iR_courtTold rR_names rR_keys), (arI rR_tape kR_tape 900 fR_tape), (arL rR_names kR_names 18 fR_names), (arL rR_keys kR_keys 10 fR_keys), (oc1 oC iC_nodes iC_words iC_chances iC_unsures iC_slips iC_throneNode iC_saidWorth iC_unit rC_kind rC_parts rC_partNodes rC_weights rC_weightSums rC_toldWorths rC_steps rC_below rC_above rC_unsureWords rC_unsureWorths), (arI rC_parts kC_parts 18 fC_parts), (arI rC_partNodes kC_partNodes 72 fC_partNodes), (arI rC_weights kC_weights 72 fC_weights), (arI rC_weightSums kC_weightSums 18 fC_weightSums), (arI rC_steps kC_steps 18 fC_steps), (arI rC_below kC_below 18 fC_below), (arI rC_above kC_above 18 fC_above)] [(kR_tape, .byte), (kR_names, .long), (kR_keys, .long), (kC_parts, .int), (kC_partNodes, .int), (kC_weights, .int), (kC_weightSums, .int), (kC_steps, .int), (kC_below, .int), (kC_above, .int)])) (va_Qi (fun (r : Int32) (u : Nat) => ((r = 0 ∨ r = 1) ∧ True) ∧ r = Int32.ofNat u) (fun (u : Nat) (t : State) => ∃ (niR_faultNumber : Int32) (niR_faultPlace : Int32) (niR_tokenKind : Int32) (niR_tokenFrom : Int32) (niR_tokenTo : Int32) (niR_tokenName : Int64) (niR_tokenKey : Int32) (niR_tokenWhole : Int32) (nfC_parts : Nat → Int32) (nfC_partNodes : Nat → Int32) (nfC_weights : Nat → Int32) (nfC_weightSums : Nat → Int32) (nfC_steps : Nat → Int32) (nfC_below : Nat → Int32) (nfC_above : Nat → Int32), (∀ j : Nat, j < 18 → 0 ≤ (nfC_parts j).toInt ∧ (nfC_parts j).toInt ≤ 4) ∧ (∀ j : Nat, j < 72 → 0 ≤ (nfC_partNodes j).toInt ∧ (nfC_partNodes j).toInt ≤ 17) ∧ (PX3_readPart iR_faultNumber iR_faultPlace fR_tape iR_end iR_tokenKind iR_tokenFrom iR_tokenTo iR_tokenName iR_tokenKey iR_tokenWhole fR_names fR_keys iC_nodes fC_parts fC_partNodes fC_weights fC_weightSums fC_steps fC_below fC_above p0 = (Int32.ofNat u, niR_faultNumber, niR_faultPlace, niR_tokenKind, niR_tokenFrom, niR_tokenTo, niR_tokenName, niR_tokenKey, niR_tokenWhole, nfC_parts, nfC_partNodes, nfC_weights, nfC_weightSums, nfC_steps, nfC_below, nfC_above)) ∧ Bw dC dI (va_A [(oc3 oR iR_faultNumber iR_faultPlace iR_tapeSize rR_tape iR_end iR_tokenKind iR_tokenFrom iR_tokenTo iR_tokenName iR_tokenKey iR_tokenWhole oC iR_courtTold rR_names rR_keys), (arI rR_tape kR_tape 900 fR_tape), (arL rR_names kR_names 18 fR_names), (arL rR_keys kR_keys 10 fR_keys), (oc1 oC iC_nodes iC_words iC_chances iC_unsures iC_slips iC_throneNode iC_saidWorth iC_unit rC_kind rC_parts rC_partNodes rC_weights rC_weightSums rC_toldWorths rC_steps rC_below rC_above rC_unsureWords rC_unsureWorths), (arI rC_parts kC_parts 18 fC_parts), (arI rC_partNodes kC_partNodes 72 fC_partNodes), (arI rC_weights kC_weights 72 fC_weights), (arI rC_weightSums kC_weightSums 18 fC_weightSums), (arI rC_steps kC_steps 18 fC_steps), (arI rC_below kC_below 18 fC_below), (arI rC_above kC_above 18 fC_above)] sz) [(oc3 oR niR_faultNumber niR_faultPlace iR_tapeSize rR_tape iR_end niR_tokenKind niR_tokenFrom niR_tokenTo niR_tokenName niR_tokenKey niR_tokenWhole oC iR_courtTold rR_names rR_keys), (arI rR_tape kR_tape 900 fR_tape), (arL rR_names kR_names 18 fR_names), (arL rR_keys kR_keys 10 fR_keys), (oc1 oC iC_nodes iC_words iC_chances iC_unsures iC_slips iC_throneNode iC_saidWorth iC_unit rC_kind rC_parts rC_partNodes rC_weights rC_weightSums rC_toldWorths rC_steps rC_below rC_above rC_unsureWords rC_unsureWorths), (arI rC_parts kC_parts 18 nfC_parts), (arI rC_partNodes kC_partNodes 72 nfC_partNodes), (arI rC_weights kC_weights 72 nfC_weights), (arI rC_weightSums kC_weightSums 18 nfC_weightSums), (arI rC_steps kC_steps 18 nfC_steps), (arI rC_below kC_below 18 nfC_below), (arI rC_above kC_above 18 nfC_above)] [(kR_tape, .byte), (kR_names, .long), (kR_keys, .long), (kC_parts, .int), (kC_partNodes, .int), (kC_weights, .int), (kC_weightSums, .int), (kC_steps, .int), (kC_below, .int), (kC_above, .int)] t) (va_A [(oc3 oR iR_faultNumber iR_faultPlace iR_tapeSize rR_tape iR_end iR_tokenKind iR_tokenFrom iR_tokenTo iR_tokenName iR_tokenKey iR_tokenWhole oC iR_courtTold rR_names rR_keys), (arI rR_tape kR_tape 900 fR_tape), (arL rR_names kR_names 18 fR_names), (arL rR_keys kR_keys 10 fR_keys), (oc1 oC iC_nodes iC_words iC_chances iC_unsures iC_slips iC_throneNode iC_saidWorth iC_unit rC_kind rC_parts rC_partNodes rC_weights rC_weightSums rC_toldWorths rC_steps rC_below rC_above rC_unsureWords rC_unsureWorths), (arI rC_parts kC_parts 18 fC_parts), (arI rC_partNodes kC_partNodes 72 fC_partNodes), (arI rC_weights kC_weights 72 fC_weights), (arI rC_weightSums kC_weightSums 18 fC_weightSums), (arI rC_steps kC_steps 18 fC_steps), (arI rC_below kC_below 18 fC_below), (arI rC_above kC_above 18 fC_above)] sz)) 0 0 (va_A [(oc3 oR iR_faultNumber iR_faultPlace iR_tapeSize rR_tape iR_end iR_tokenKind iR_tokenFrom iR_tokenTo iR_tokenName iR_tokenKey iR_tokenWhole oC iR_courtTold rR_names rR_keys), (arI rR_tape kR_tape 900 fR_tape), (arL rR_names kR_names 18 fR_names), (arL rR_keys kR_keys 10 fR_keys), (oc1 oC iC_nodes iC_words iC_chances iC_unsures iC_slips iC_throneNode iC_saidWorth iC_unit rC_kind rC_parts rC_partNodes rC_weights rC_weightSums rC_toldWorths rC_steps rC_below rC_above rC_unsureWords rC_unsureWorths), (arI rC_parts kC_parts 18 fC_parts), (arI rC_partNodes kC_partNodes 72 fC_partNodes), (arI rC_weights kC_weights 72 fC_weights), (arI rC_weightSums kC_weightSums 18 fC_weightSums), (arI rC_steps kC_steps 18 fC_steps), (arI rC_below kC_below 18 fC_below), (arI rC_above kC_above 18 fC_above)] sz) := by
  refine Met.ofW (cc := cX3_readPart) (maxL := 4) (ret := (some .boolean)) pnX3 rfl ?_
  intro p e s m args below meth c s₁ B hml hv
  obtain ⟨rfl, hsz, hP, hK, hD0, hE⟩ := hv
  have hx := B.exec
  have hb := B.bytes
  have hr := B.returns
  have hts : ∀ w ∈ wG, w.before ([.ref oR, .int p0] : List Value).toArray s = true := fun w h => atoms_spec (ws := Cond.code yX3_readPart cX3_readPart 4 (some .boolean) :: wG) B.pre w (List.mem_cons_of_mem _ h)
  have hown : s.vm.findClass RX3 = some m.cls := own_of B.named rfl
  have hlocks := B.notSynchronized
  subst hsz
  have hD := hD0.self (sz := s.heap.size)
  generalize hAe : va_A [(oc3 oR iR_faultNumber iR_faultPlace iR_tapeSize rR_tape iR_end iR_tokenKind iR_tokenFrom iR_tokenTo iR_tokenName iR_tokenKey iR_tokenWhole oC iR_courtTold rR_names rR_keys), (arI rR_tape kR_tape 900 fR_tape), (arL rR_names kR_names 18 fR_names), (arL rR_keys kR_keys 10 fR_keys), (oc1 oC iC_nodes iC_words iC_chances iC_unsures iC_slips iC_throneNode iC_saidWorth iC_unit rC_kind rC_parts rC_partNodes rC_weights rC_weightSums rC_toldWorths rC_steps rC_below rC_above rC_unsureWords rC_unsureWorths), (arI rC_parts kC_parts 18 fC_parts), (arI rC_partNodes kC_partNodes 72 fC_partNodes), (arI rC_weights kC_weights 72 fC_weights), (arI rC_weightSums kC_weightSums 18 fC_weightSums), (arI rC_steps kC_steps 18 fC_steps), (arI rC_below kC_below 18 fC_below), (arI rC_above kC_above 18 fC_above)] s.heap.size = A at hD hE ⊢
  have hA : ∀ q : Nat, s.heap.size ≤ q → A q := fun q h => by rw [← hAe]; exact Or.inr h
  have hS : va_S A s.heap s.heap [] := va_S.rf
  have hl := lv_entry ([.ref oR, .int p0]) (n := 4) (Nat.le_of_ble_eq_true rfl)
  rw [lg_entry_eq]
  generalize (lg_sl ([.ref oR, .int p0]) ++ List.replicate (4 - (lg_sl ([.ref oR, .int p0])).length) Slot.unset).toArray = ls at hl ⊢
  have hl : lv_has ls 4 [(0, .ref oR), (1, .int p0)] := hl
  have hG := PX3_readPart_eq iR_faultNumber iR_faultPlace fR_tape iR_end iR_tokenKind iR_tokenFrom iR_tokenTo iR_tokenName iR_tokenKey iR_tokenWhole fR_names fR_keys iC_nodes fC_parts fC_partNodes fC_weights fC_weightSums fC_steps fC_below fC_above p0
  refine lv_aload_n hx hb dX3_readPart_0 rfl (lv_at hl 0 rfl) ?_
  have hMs := ml_of hD [true, false, true, false, true, false, false, false, false, false, false, false] (wc := [(oc3 oR iR_faultNumber iR_faultPlace iR_tapeSize rR_tape iR_end iR_tokenKind iR_tokenFrom iR_tokenTo iR_tokenName iR_tokenKey iR_tokenWhole oC iR_courtTold rR_names rR_keys), (arL rR_names kR_names 18 fR_names), (oc1 oC iC_nodes iC_words iC_chances iC_unsures iC_slips iC_throneNode iC_saidWorth iC_unit rC_kind rC_parts rC_partNodes rC_weights rC_weightSums rC_toldWorths rC_steps rC_below rC_above rC_unsureWords rC_unsureWorths)]) rfl
  have hFc := va_freeM hD hS hA _ hMs
  refine va_calli (va_runV (As := []) (rest := []) ⟨hx, hb, hml, hown, hts⟩ (tX3_isToldName l dC dI _ oR iR_faultNumber iR_faultPlace iR_tapeSize rR_tape iR_end iR_tokenKind iR_tokenFrom iR_tokenTo iR_tokenName iR_tokenKey iR_tokenWhole oC iR_courtTold rR_names fR_names kR_names rR_keys iC_nodes iC_words iC_chances iC_unsures iC_slips iC_throneNode iC_saidWorth iC_unit rC_kind rC_parts rC_partNodes rC_weights rC_weightSums rC_toldWorths rC_steps rC_below rC_above rC_unsureWords rC_unsureWorths b_iR_tapeSize b_iR_courtTold b_iC_nodes b_iC_unsures b_iC_throneNode) (cwV 0 hts (wd_V wd_304 wd_305 wd_306 wd_15 (wd_c wd_307)) rfl rfl rfl dv_yX3_isToldName_0 ⟨Nat.le_of_ble_eq_true rfl, Nat.le_of_ble_eq_true rfl⟩) ⟨Pw.fb, recvX3 hK hP (q0 := 0) rfl, fun U hU hW => Pw.to (hP.ms _ hMs) (hD.ms _ hMs) (hK.ms [false, true, false, false, false, false, false, false, false, false] rfl) hE hS hFc hU hW⟩ rfl rfl hl.1 rfl (lv_room (Nat.le_of_ble_eq_true rfl)) dX3_readPart_1 ⟨Nat.le_of_ble_eq_true rfl, Nat.le_of_ble_eq_true rfl⟩) hS (fun q _ h => hFc q h) hFc (fun r u t H locs ht hvm hw hB hz1 hk1 hS => ?_)
  have hru9 := hw.2
  have hw := hw.1
  refine ex_2_1 hB (fun x_1505 x_1506 e_x_1505_0 hB => ?_)
  obtain ⟨hP, hD⟩ := Bw.goN (ws' := [(oc3 oR x_1505 x_1506 iR_tapeSize rR_tape iR_end iR_tokenKind iR_tokenFrom iR_tokenTo iR_tokenName iR_tokenKey iR_tokenWhole oC iR_courtTold rR_names rR_keys), (arI rR_tape kR_tape 900 fR_tape), (arL rR_names kR_names 18 fR_names), (arL rR_keys kR_keys 10 fR_keys), (oc1 oC iC_nodes iC_words iC_chances iC_unsures iC_slips iC_throneNode iC_saidWorth iC_unit rC_kind rC_parts rC_partNodes rC_weights rC_weightSums rC_toldWorths rC_steps rC_below rC_above rC_unsureWords rC_unsureWorths), (arI rC_parts kC_parts 18 fC_parts), (arI rC_partNodes kC_partNodes 72 fC_partNodes), (arI rC_weights kC_weights 72 fC_weights), (arI rC_weightSums kC_weightSums 18 fC_weightSums), (arI rC_steps kC_steps 18 fC_steps), (arI rC_below kC_below 18 fC_below), (arI rC_above kC_above 18 fC_above)]) hB rfl ht hP hD _ hMs hk1 hFc rfl
  clear hz1 hk1 hvm ht hB hMs
  rw [← hru9] at e_x_1505_0
  obtain ⟨x_1507, rfl⟩ : ∃ z, z = r := ⟨_, rfl⟩
  have hG := hG.trans (un3_eq e_x_1505_0)
  have bx_1507 := hw.1
  have dx_1507 := bz_tb bx_1507
  refine lv_if_ne (tgt := 9) hx hb dX3_readPart_4 (by decide) (fun c_1508 => ?_) (fun c_1508 => ?_)
  · skip
    have hG := hG.trans (if_neg c_1508)
    have gc_1508 := ti_ne c_1508 rfl kc_0
    refine lv_aload_n hx hb dX3_readPart_9 rfl (lv_at hl 0 rfl) ?_
    have hMs := ml_of hD [true, false, true, false, true, false, false, false, false, false, false, false] (wc := [(oc3 oR x_1505 x_1506 iR_tapeSize rR_tape iR_end iR_tokenKind iR_tokenFrom iR_tokenTo iR_tokenName iR_tokenKey iR_tokenWhole oC iR_courtTold rR_names rR_keys), (arL rR_names kR_names 18 fR_names), (oc1 oC iC_nodes iC_words iC_chances iC_unsures iC_slips iC_throneNode iC_saidWorth iC_unit rC_kind rC_parts rC_partNodes rC_weights rC_weightSums rC_toldWorths rC_steps rC_below rC_above rC_unsureWords rC_unsureWorths)]) rfl
    have hFc := va_freeM hD hS hA _ hMs
    refine va_calli (va_runV (As := []) (rest := []) ⟨hx, hb, hml, hown, hts⟩ (tX3_toldNode l dC dI _ oR x_1505 x_1506 iR_tapeSize rR_tape iR_end iR_tokenKind iR_tokenFrom iR_tokenTo iR_tokenName iR_tokenKey iR_tokenWhole oC iR_courtTold rR_names fR_names kR_names rR_keys iC_nodes iC_words iC_chances iC_unsures iC_slips iC_throneNode iC_saidWorth iC_unit rC_kind rC_parts rC_partNodes rC_weights rC_weightSums rC_toldWorths rC_steps rC_below rC_above rC_unsureWords rC_unsureWorths b_iR_tapeSize b_iR_courtTold b_iC_nodes b_iC_unsures b_iC_throneNode) (cwV 0 hts (wd_V wd_283 wd_284 wd_285 wd_15 (wd_c wd_286)) rfl rfl rfl dv_yX3_toldNode_0 ⟨Nat.le_of_ble_eq_true rfl, Nat.le_of_ble_eq_true rfl⟩) ⟨Pw.fb, recvX3 hK hP (q0 := 0) rfl, fun U hU hW => Pw.to (hP.ms _ hMs) (hD.ms _ hMs) (hK.ms [false, true, false, false, false, false, false, false, false, false] rfl) hE hS hFc hU hW⟩ rfl rfl hl.1 rfl (lv_room (Nat.le_of_ble_eq_true rfl)) dX3_readPart_10 ⟨Nat.le_of_ble_eq_true rfl, Nat.le_of_ble_eq_true rfl⟩) hS (fun q _ h => hFc q h) hFc (fun r u t H locs ht hvm hw hB hz1 hk1 hS => ?_)
    have hru9 := hw.2
    have hw := hw.1
    obtain ⟨hP, hD⟩ := Bw.goN (ws' := [(oc3 oR x_1505 x_1506 iR_tapeSize rR_tape iR_end iR_tokenKind iR_tokenFrom iR_tokenTo iR_tokenName iR_tokenKey iR_tokenWhole oC iR_courtTold rR_names rR_keys), (arI rR_tape kR_tape 900 fR_tape), (arL rR_names kR_names 18 fR_names), (arL rR_keys kR_keys 10 fR_keys), (oc1 oC iC_nodes iC_words iC_chances iC_unsures iC_slips iC_throneNode iC_saidWorth iC_unit rC_kind rC_parts rC_partNodes rC_weights rC_weightSums rC_toldWorths rC_steps rC_below rC_above rC_unsureWords rC_unsureWorths), (arI rC_parts kC_parts 18 fC_parts), (arI rC_partNodes kC_partNodes 72 fC_partNodes), (arI rC_weights kC_weights 72 fC_weights), (arI rC_weightSums kC_weightSums 18 fC_weightSums), (arI rC_steps kC_steps 18 fC_steps), (arI rC_below kC_below 18 fC_below), (arI rC_above kC_above 18 fC_above)]) hB rfl ht hP hD _ hMs hk1 hFc rfl
    clear hz1 hk1 hvm ht hB hMs
    obtain ⟨x_1509, rfl⟩ : ∃ z, z = r := ⟨_, rfl⟩
    have hG := hG.trans (lt_eq hru9.symm)
    have ux_1509 := hw.2
    refine lv_istore_n (lv' := [(2, .int x_1509), (0, .ref oR), (1, .int p0)]) hx hb dX3_readPart_13 rfl hl (by decide) rfl (fun ls hl => ?_)
    refine lv_aload_n hx hb dX3_readPart_14 rfl (lv_at hl 1 rfl) ?_
    refine va_get (D := (dC, dI)) (ci := 3) (v := .ref oC) (C := RX3) (T := TX3) (N := 15) hx hb hts inX3 hown hK hP 0 rfl rfl 11 (by decide) (hts _ wd_46) (fun _ h9 => h9) rfl dX3_readPart_15 ?_
    refine lv_aload_n hx hb dX3_readPart_18 rfl (lv_at hl 1 rfl) ?_
    refine va_get (D := (dC, dI)) (ci := 3) (v := .ref oC) (C := RX3) (T := TX3) (N := 15) hx hb hts inX3 hown hK hP 0 rfl rfl 11 (by decide) (hts _ wd_46) (fun _ h9 => h9) rfl dX3_readPart_19 ?_
    refine va_get (D := (dC, dI)) (ci := 1) (v := .int iC_nodes) (C := RX1) (T := TX1) (N := 19) hx hb hts inX1 hown hK hP 4 rfl rfl 0 (by decide) (hts _ wd_287) (fun _ h9 => h9) rfl dX3_readPart_22 ?_
    refine lv_iload_n hx hb dX3_readPart_25 rfl (lv_at hl 0 rfl) ?_
    have hMs := ml_of hD [false, false, false, false, true, true, true, false, false, false, false, false] (wc := [(oc1 oC iC_nodes iC_words iC_chances iC_unsures iC_slips iC_throneNode iC_saidWorth iC_unit rC_kind rC_parts rC_partNodes rC_weights rC_weightSums rC_toldWorths rC_steps rC_below rC_above rC_unsureWords rC_unsureWorths), (arI rC_parts kC_parts 18 fC_parts), (arI rC_partNodes kC_partNodes 72 fC_partNodes)]) rfl
    have hFc := va_freeM hD hS hA _ hMs
    refine va_calli (va_runV (As := [.int iC_nodes, .int x_1509]) (rest := []) ⟨hx, hb, hml, hown, hts⟩ (tX1_placeOfPart l dC dI _ oC iC_nodes iC_words iC_chances iC_unsures iC_slips iC_throneNode iC_saidWorth iC_unit rC_kind rC_parts fC_parts kC_parts rC_partNodes fC_partNodes kC_partNodes rC_weights rC_weightSums rC_toldWorths rC_steps rC_below rC_above rC_unsureWords rC_unsureWorths iC_nodes x_1509 b_iC_nodes b_iC_unsures b_iC_throneNode a_fC_parts a_fC_partNodes) (cwV 2 hts (wd_V wd_308 wd_309 wd_310 wd_19 (wd_c wd_311)) rfl rfl rfl dv_yX1_placeOfPart_2 ⟨Nat.le_of_ble_eq_true rfl, Nat.le_of_ble_eq_true rfl⟩) ⟨Pw.fb, recvX1 hK hP (q0 := 4) rfl, fun U hU hW => Pw.to (hP.ms _ hMs) (hD.ms _ hMs) (hK.ms [false, false, false, true, true, false, false, false, false, false] rfl) hE hS hFc hU hW⟩ rfl rfl hl.1 rfl (lv_room (Nat.le_of_ble_eq_true rfl)) dX3_readPart_26 ⟨Nat.le_of_ble_eq_true rfl, Nat.le_of_ble_eq_true rfl⟩) hS (fun q _ h => hFc q h) hFc (fun r u t H locs ht hvm hw hB hz1 hk1 hS => ?_)
    have hru9 := hw.2
    have hw := hw.1
    obtain ⟨hP, hD⟩ := Bw.goN (ws' := [(oc3 oR x_1505 x_1506 iR_tapeSize rR_tape iR_end iR_tokenKind iR_tokenFrom iR_tokenTo iR_tokenName iR_tokenKey iR_tokenWhole oC iR_courtTold rR_names rR_keys), (arI rR_tape kR_tape 900 fR_tape), (arL rR_names kR_names 18 fR_names), (arL rR_keys kR_keys 10 fR_keys), (oc1 oC iC_nodes iC_words iC_chances iC_unsures iC_slips iC_throneNode iC_saidWorth iC_unit rC_kind rC_parts rC_partNodes rC_weights rC_weightSums rC_toldWorths rC_steps rC_below rC_above rC_unsureWords rC_unsureWorths), (arI rC_parts kC_parts 18 fC_parts), (arI rC_partNodes kC_partNodes 72 fC_partNodes), (arI rC_weights kC_weights 72 fC_weights), (arI rC_weightSums kC_weightSums 18 fC_weightSums), (arI rC_steps kC_steps 18 fC_steps), (arI rC_below kC_below 18 fC_below), (arI rC_above kC_above 18 fC_above)]) hB rfl ht hP hD _ hMs hk1 hFc rfl
    clear hz1 hk1 hvm ht hB hMs
    obtain ⟨x_1510, rfl⟩ : ∃ z, z = r := ⟨_, rfl⟩
    have hG := hG.trans (lt_eq hru9.symm)
    have ux_1510 := hw.2
    refine lv_if_lt (tgt := 38) hx hb dX3_readPart_29 (by decide) (fun c_1511 => ?_) (fun c_1511 => ?_)
    · skip
      have hG := hG.trans (if_pos c_1511)
      have gc_1511 := ti_lt c_1511 rfl kc_0
      refine lv_aload_n hx hb dX3_readPart_38 rfl (lv_at hl 1 rfl) ?_
      refine va_get (D := (dC, dI)) (ci := 3) (v := .ref oC) (C := RX3) (T := TX3) (N := 15) hx hb hts inX3 hown hK hP 0 rfl rfl 11 (by decide) (hts _ wd_46) (fun _ h9 => h9) rfl dX3_readPart_39 ?_
      have hMs := ml_of hD [false, false, false, false, true, true, false, false, false, false, false, false] (wc := [(oc1 oC iC_nodes iC_words iC_chances iC_unsures iC_slips iC_throneNode iC_saidWorth iC_unit rC_kind rC_parts rC_partNodes rC_weights rC_weightSums rC_toldWorths rC_steps rC_below rC_above rC_unsureWords rC_unsureWorths), (arI rC_parts kC_parts 18 fC_parts)]) rfl
      have hFc := va_freeM hD hS hA _ hMs
      refine va_calli (va_runV (As := []) (rest := []) ⟨hx, hb, hml, hown, hts⟩ (tX1_hasRoomForPart l dC dI _ oC iC_nodes iC_words iC_chances iC_unsures iC_slips iC_throneNode iC_saidWorth iC_unit rC_kind rC_parts fC_parts kC_parts rC_partNodes rC_weights rC_weightSums rC_toldWorths rC_steps rC_below rC_above rC_unsureWords rC_unsureWorths b_iC_nodes b_iC_unsures b_iC_throneNode a_fC_parts) (cwV 0 hts (wd_V wd_312 wd_313 wd_314 wd_19 (wd_c wd_315)) rfl rfl rfl dv_yX1_hasRoomForPart_0 ⟨Nat.le_of_ble_eq_true rfl, Nat.le_of_ble_eq_true rfl⟩) ⟨Pw.fb, recvX1 hK hP (q0 := 4) rfl, fun U hU hW => Pw.to (hP.ms _ hMs) (hD.ms _ hMs) (hK.ms [false, false, false, true, false, false, false, false, false, false] rfl) hE hS hFc hU hW⟩ rfl rfl hl.1 rfl (lv_room (Nat.le_of_ble_eq_true rfl)) dX3_readPart_42 ⟨Nat.le_of_ble_eq_true rfl, Nat.le_of_ble_eq_true rfl⟩) hS (fun q _ h => hFc q h) hFc (fun r u t H locs ht hvm hw hB hz1 hk1 hS => ?_)
      have hru9 := hw.2
      have hw := hw.1
      obtain ⟨hP, hD⟩ := Bw.goN (ws' := [(oc3 oR x_1505 x_1506 iR_tapeSize rR_tape iR_end iR_tokenKind iR_tokenFrom iR_tokenTo iR_tokenName iR_tokenKey iR_tokenWhole oC iR_courtTold rR_names rR_keys), (arI rR_tape kR_tape 900 fR_tape), (arL rR_names kR_names 18 fR_names), (arL rR_keys kR_keys 10 fR_keys), (oc1 oC iC_nodes iC_words iC_chances iC_unsures iC_slips iC_throneNode iC_saidWorth iC_unit rC_kind rC_parts rC_partNodes rC_weights rC_weightSums rC_toldWorths rC_steps rC_below rC_above rC_unsureWords rC_unsureWorths), (arI rC_parts kC_parts 18 fC_parts), (arI rC_partNodes kC_partNodes 72 fC_partNodes), (arI rC_weights kC_weights 72 fC_weights), (arI rC_weightSums kC_weightSums 18 fC_weightSums), (arI rC_steps kC_steps 18 fC_steps), (arI rC_below kC_below 18 fC_below), (arI rC_above kC_above 18 fC_above)]) hB rfl ht hP hD _ hMs hk1 hFc rfl
      clear hz1 hk1 hvm ht hB hMs
      rcases hw.2 with ⟨rfl, hc_1512⟩ | ⟨rfl, hc_1512⟩
      · skip
        have hG := hG.trans (lt_eq hru9.symm)
        have hG := hG.trans (if_pos rfl)
        refine lv_if_ne (tgt := 54) hx hb dX3_readPart_45 (by decide) (fun _ => ?_) (fun c => absurd c (by decide))
        refine lv_aload_n hx hb dX3_readPart_54 rfl (lv_at hl 1 rfl) ?_
        have hMs := ml_of hD [true, true, false, true, false, false, false, false, false, false, false, false] (wc := [(oc3 oR x_1505 x_1506 iR_tapeSize rR_tape iR_end iR_tokenKind iR_tokenFrom iR_tokenTo iR_tokenName iR_tokenKey iR_tokenWhole oC iR_courtTold rR_names rR_keys), (arI rR_tape kR_tape 900 fR_tape), (arL rR_keys kR_keys 10 fR_keys)]) rfl
        have hFc := va_freeM hD hS hA _ hMs
        refine va_callv (va_runV (As := []) (rest := []) ⟨hx, hb, hml, hown, hts⟩ (tX3_nextToken l dC dI _ oR x_1505 x_1506 iR_tapeSize rR_tape fR_tape kR_tape iR_end iR_tokenKind iR_tokenFrom iR_tokenTo iR_tokenName iR_tokenKey iR_tokenWhole oC iR_courtTold rR_names rR_keys fR_keys kR_keys b_iR_tapeSize b_iR_courtTold) (cwV 0 hts (wd_V wd_220 wd_221 wd_222 wd_15 (wd_c wd_223)) rfl rfl rfl dv_yX3_nextToken_0 ⟨Nat.le_of_ble_eq_true rfl, Nat.le_of_ble_eq_true rfl⟩) ⟨Pw.fb, recvX3 hK hP (q0 := 0) rfl, fun U hU hW => Pw.to (hP.ms _ hMs) (hD.ms _ hMs) (hK.ms [true, false, true, false, false, false, false, false, false, false] rfl) hE hS hFc hU hW⟩ rfl rfl hl.1 rfl (lv_room (Nat.le_of_ble_eq_true rfl)) dX3_readPart_55 ⟨Nat.le_of_ble_eq_true rfl, Nat.le_of_ble_eq_true rfl⟩) hS (fun q _ h => hFc q h) hFc (fun u t H locs ht hvm hw hB hz1 hk1 hS => ?_)
        refine ex_6_1 hB (fun x_1515 x_1516 x_1517 y_1518 x_1519 x_1520 e_x_1515_0 hB => ?_)
        obtain ⟨hP, hD⟩ := Bw.goN (ws' := [(oc3 oR x_1505 x_1506 iR_tapeSize rR_tape iR_end x_1515 x_1516 x_1517 y_1518 x_1519 x_1520 oC iR_courtTold rR_names rR_keys), (arI rR_tape kR_tape 900 fR_tape), (arL rR_names kR_names 18 fR_names), (arL rR_keys kR_keys 10 fR_keys), (oc1 oC iC_nodes iC_words iC_chances iC_unsures iC_slips iC_throneNode iC_saidWorth iC_unit rC_kind rC_parts rC_partNodes rC_weights rC_weightSums rC_toldWorths rC_steps rC_below rC_above rC_unsureWords rC_unsureWorths), (arI rC_parts kC_parts 18 fC_parts), (arI rC_partNodes kC_partNodes 72 fC_partNodes), (arI rC_weights kC_weights 72 fC_weights), (arI rC_weightSums kC_weightSums 18 fC_weightSums), (arI rC_steps kC_steps 18 fC_steps), (arI rC_below kC_below 18 fC_below), (arI rC_above kC_above 18 fC_above)]) hB rfl ht hP hD _ hMs hk1 hFc rfl
        clear hz1 hk1 hvm ht hB hMs
        have hG := hG.trans (un6_eq e_x_1515_0)
        refine lv_iconst (v := 0) hx hb dX3_readPart_58 (by decide) ?_
        refine lv_istore_n (lv' := [(3, .int 0), (2, .int x_1509), (0, .ref oR), (1, .int p0)]) hx hb dX3_readPart_59 rfl hl (by decide) rfl (fun ls hl => ?_)
        refine lv_iload_n hx hb dX3_readPart_60 rfl (lv_at hl 3 rfl) ?_
        refine lv_iconst (v := 3) hx hb dX3_readPart_61 (by decide) ?_
        refine lv_icmp_ne (tgt := 86) hx hb dX3_readPart_62 (by decide) (fun c_1521 => ?_) (fun c_1521 => ?_)
        · skip
          have hG := hG.trans (if_neg c_1521)
          have gc_1521 := ti_ne c_1521 rfl kc_3
          refine lv_aload_n hx hb dX3_readPart_86 rfl (lv_at hl 2 rfl) ?_
          refine va_get (D := (dC, dI)) (ci := 3) (v := .ref oC) (C := RX3) (T := TX3) (N := 15) hx hb hts inX3 hown hK hP 0 rfl rfl 11 (by decide) (hts _ wd_46) (fun _ h9 => h9) rfl dX3_readPart_87 ?_
          refine lv_iload_n hx hb dX3_readPart_90 rfl (lv_at hl 1 rfl) ?_
          refine lv_iload_n hx hb dX3_readPart_91 rfl (lv_at hl 0 rfl) ?_
          have hMs := ml_of hD [false, false, false, false, true, true, true, true, true, true, true, true] (wc := [(oc1 oC iC_nodes iC_words iC_chances iC_unsures iC_slips iC_throneNode iC_saidWorth iC_unit rC_kind rC_parts rC_partNodes rC_weights rC_weightSums rC_toldWorths rC_steps rC_below rC_above rC_unsureWords rC_unsureWorths), (arI rC_parts kC_parts 18 fC_parts), (arI rC_partNodes kC_partNodes 72 fC_partNodes), (arI rC_weights kC_weights 72 fC_weights), (arI rC_weightSums kC_weightSums 18 fC_weightSums), (arI rC_steps kC_steps 18 fC_steps), (arI rC_below kC_below 18 fC_below), (arI rC_above kC_above 18 fC_above)]) rfl
          have hFc := va_freeM hD hS hA _ hMs
          refine va_callv (va_runV (As := [.int x_1509, .int 0]) (rest := []) ⟨hx, hb, hml, hown, hts⟩ (tX1_addPart l dC dI _ oC iC_nodes iC_words iC_chances iC_unsures iC_slips iC_throneNode iC_saidWorth iC_unit rC_kind rC_parts fC_parts kC_parts rC_partNodes fC_partNodes kC_partNodes rC_weights fC_weights kC_weights rC_weightSums fC_weightSums kC_weightSums rC_toldWorths rC_steps fC_steps kC_steps rC_below fC_below kC_below rC_above fC_above kC_above rC_unsureWords rC_unsureWorths x_1509 0 b_iC_nodes b_iC_unsures b_iC_throneNode a_fC_parts a_fC_partNodes) (cwV 2 hts (wd_V wd_316 wd_317 wd_318 wd_19 (wd_c wd_319)) rfl rfl rfl dv_yX1_addPart_2 ⟨Nat.le_of_ble_eq_true rfl, Nat.le_of_ble_eq_true rfl⟩) ⟨Pw.fb, recvX1 hK hP (q0 := 4) rfl, fun U hU hW => Pw.to (hP.ms _ hMs) (hD.ms _ hMs) (hK.ms [false, false, false, true, true, true, true, true, true, true] rfl) hE hS hFc hU hW⟩ rfl rfl hl.1 rfl (lv_room (Nat.le_of_ble_eq_true rfl)) dX3_readPart_92 ⟨Nat.le_of_ble_eq_true rfl, Nat.le_of_ble_eq_true rfl⟩) hS (fun q _ h => hFc q h) hFc (fun u t H locs ht hvm hw hB hz1 hk1 hS => ?_)
          refine ex_7_3 hB (fun f_1522 f_1523 f_1524 f_1525 f_1526 f_1527 f_1528 a_f_1522 a_f_1523 e_f_1522_0 hB => ?_)
          obtain ⟨hP, hD⟩ := Bw.goN (ws' := [(oc3 oR x_1505 x_1506 iR_tapeSize rR_tape iR_end x_1515 x_1516 x_1517 y_1518 x_1519 x_1520 oC iR_courtTold rR_names rR_keys), (arI rR_tape kR_tape 900 fR_tape), (arL rR_names kR_names 18 fR_names), (arL rR_keys kR_keys 10 fR_keys), (oc1 oC iC_nodes iC_words iC_chances iC_unsures iC_slips iC_throneNode iC_saidWorth iC_unit rC_kind rC_parts rC_partNodes rC_weights rC_weightSums rC_toldWorths rC_steps rC_below rC_above rC_unsureWords rC_unsureWorths), (arI rC_parts kC_parts 18 f_1522), (arI rC_partNodes kC_partNodes 72 f_1523), (arI rC_weights kC_weights 72 f_1524), (arI rC_weightSums kC_weightSums 18 f_1525), (arI rC_steps kC_steps 18 f_1526), (arI rC_below kC_below 18 f_1527), (arI rC_above kC_above 18 f_1528)]) hB rfl ht hP hD _ hMs hk1 hFc rfl
          clear hz1 hk1 hvm ht hB hMs
          have hG := hG.trans (un7_eq e_f_1522_0)
          refine lv_iconst (v := 1) hx hb dX3_readPart_95 (by decide) ?_
          exact wq_z (v := 1) hx hb hr rfl (cI 1) ⟨⟨Or.inr rfl, trivial⟩, (cI_of 1)⟩ (fun t ht hW => ⟨x_1505, x_1506, x_1515, x_1516, x_1517, y_1518, x_1519, x_1520, f_1522, f_1523, f_1524, f_1525, f_1526, f_1527, f_1528, a_f_1522, a_f_1523, (cI_tup hG), Bw.to hP hD hK ht hW⟩) hS dX3_readPart_96 hlocks
        · skip
          have hG := hG.trans (if_pos c_1521)
          have gc_1521 := ti_eq c_1521 rfl kc_3
          refine lv_aload_n hx hb dX3_readPart_65 rfl (lv_at hl 2 rfl) ?_
          refine lv_iconst (v := 1) hx hb dX3_readPart_66 (by decide) ?_
          refine lv_bipush (v := 9) hx hb dX3_readPart_67 (by decide) ?_
          have hMs := ml_of hD [true, false, false, false, false, false, false, false, false, false, false, false] (wc := [(oc3 oR x_1505 x_1506 iR_tapeSize rR_tape iR_end x_1515 x_1516 x_1517 y_1518 x_1519 x_1520 oC iR_courtTold rR_names rR_keys)]) rfl
          have hFc := va_freeM hD hS hA _ hMs
          refine va_calli (va_runV (As := [.int 1, .int 9]) (rest := []) ⟨hx, hb, hml, hown, hts⟩ (tX3_isWholeWithin l dC dI _ oR x_1505 x_1506 iR_tapeSize rR_tape iR_end x_1515 x_1516 x_1517 y_1518 x_1519 x_1520 oC iR_courtTold rR_names rR_keys 1 9 b_iR_tapeSize b_iR_courtTold) (cwV 2 hts (wd_V wd_263 wd_264 wd_265 wd_15 (wd_c wd_266)) rfl rfl rfl dv_yX3_isWholeWithin_2 ⟨Nat.le_of_ble_eq_true rfl, Nat.le_of_ble_eq_true rfl⟩) ⟨Pw.fb, recvX3 hK hP (q0 := 0) rfl, fun U hU hW => Pw.to (hP.ms _ hMs) (hD.ms _ hMs) (hK.ms [false, false, false, false, false, false, false, false, false, false] rfl) hE hS hFc hU hW⟩ rfl rfl hl.1 rfl (lv_room (Nat.le_of_ble_eq_true rfl)) dX3_readPart_69 ⟨Nat.le_of_ble_eq_true rfl, Nat.le_of_ble_eq_true rfl⟩) hS (fun q _ h => hFc q h) hFc (fun r u t H locs ht hvm hw hB hz1 hk1 hS => ?_)
          have hru9 := hw.2
          have hw := hw.1
          refine ex_2_1 hB (fun x_1529 x_1530 e_x_1529_0 hB => ?_)
          obtain ⟨hP, hD⟩ := Bw.goN (ws' := [(oc3 oR x_1529 x_1530 iR_tapeSize rR_tape iR_end x_1515 x_1516 x_1517 y_1518 x_1519 x_1520 oC iR_courtTold rR_names rR_keys), (arI rR_tape kR_tape 900 fR_tape), (arL rR_names kR_names 18 fR_names), (arL rR_keys kR_keys 10 fR_keys), (oc1 oC iC_nodes iC_words iC_chances iC_unsures iC_slips iC_throneNode iC_saidWorth iC_unit rC_kind rC_parts rC_partNodes rC_weights rC_weightSums rC_toldWorths rC_steps rC_below rC_above rC_unsureWords rC_unsureWorths), (arI rC_parts kC_parts 18 fC_parts), (arI rC_partNodes kC_partNodes 72 fC_partNodes), (arI rC_weights kC_weights 72 fC_weights), (arI rC_weightSums kC_weightSums 18 fC_weightSums), (arI rC_steps kC_steps 18 fC_steps), (arI rC_below kC_below 18 fC_below), (arI rC_above kC_above 18 fC_above)]) hB rfl ht hP hD _ hMs hk1 hFc rfl
          clear hz1 hk1 hvm ht hB hMs
          rw [← hru9] at e_x_1529_0
          obtain ⟨x_1531, rfl⟩ : ∃ z, z = r := ⟨_, rfl⟩
          have hG := hG.trans (un3_eq e_x_1529_0)
          have bx_1531 := hw.1
          have dx_1531 := bz_tb bx_1531
          refine lv_if_ne (tgt := 77) hx hb dX3_readPart_72 (by decide) (fun c_1532 => ?_) (fun c_1532 => ?_)
          · skip
            have hG := hG.trans (if_neg c_1532)
            have gc_1532 := ti_ne c_1532 rfl kc_0
            refine lv_aload_n hx hb dX3_readPart_77 rfl (lv_at hl 2 rfl) ?_
            refine va_get (D := (dC, dI)) (ci := 3) (v := .int x_1520) (C := RX3) (T := TX3) (N := 15) hx hb hts inX3 hown hK hP 0 rfl rfl 10 (by decide) (hts _ wd_245) (fun _ h9 => h9) rfl dX3_readPart_78 ?_
            refine lv_istore_n (lv' := [(3, .int x_1520), (2, .int x_1509), (0, .ref oR), (1, .int p0)]) hx hb dX3_readPart_81 rfl hl (by decide) rfl (fun ls hl => ?_)
            refine lv_aload_n hx hb dX3_readPart_82 rfl (lv_at hl 2 rfl) ?_
            have hMs := ml_of hD [true, true, false, true, false, false, false, false, false, false, false, false] (wc := [(oc3 oR x_1529 x_1530 iR_tapeSize rR_tape iR_end x_1515 x_1516 x_1517 y_1518 x_1519 x_1520 oC iR_courtTold rR_names rR_keys), (arI rR_tape kR_tape 900 fR_tape), (arL rR_keys kR_keys 10 fR_keys)]) rfl
            have hFc := va_freeM hD hS hA _ hMs
            refine va_callv (va_runV (As := []) (rest := []) ⟨hx, hb, hml, hown, hts⟩ (tX3_nextToken l dC dI _ oR x_1529 x_1530 iR_tapeSize rR_tape fR_tape kR_tape iR_end x_1515 x_1516 x_1517 y_1518 x_1519 x_1520 oC iR_courtTold rR_names rR_keys fR_keys kR_keys b_iR_tapeSize b_iR_courtTold) (cwV 0 hts (wd_V wd_220 wd_221 wd_222 wd_15 (wd_c wd_223)) rfl rfl rfl dv_yX3_nextToken_0 ⟨Nat.le_of_ble_eq_true rfl, Nat.le_of_ble_eq_true rfl⟩) ⟨Pw.fb, recvX3 hK hP (q0 := 0) rfl, fun U hU hW => Pw.to (hP.ms _ hMs) (hD.ms _ hMs) (hK.ms [true, false, true, false, false, false, false, false, false, false] rfl) hE hS hFc hU hW⟩ rfl rfl hl.1 rfl (lv_room (Nat.le_of_ble_eq_true rfl)) dX3_readPart_83 ⟨Nat.le_of_ble_eq_true rfl, Nat.le_of_ble_eq_true rfl⟩) hS (fun q _ h => hFc q h) hFc (fun u t H locs ht hvm hw hB hz1 hk1 hS => ?_)
            refine ex_6_1 hB (fun x_1533 x_1534 x_1535 y_1536 x_1537 x_1538 e_x_1533_0 hB => ?_)
            obtain ⟨hP, hD⟩ := Bw.goN (ws' := [(oc3 oR x_1529 x_1530 iR_tapeSize rR_tape iR_end x_1533 x_1534 x_1535 y_1536 x_1537 x_1538 oC iR_courtTold rR_names rR_keys), (arI rR_tape kR_tape 900 fR_tape), (arL rR_names kR_names 18 fR_names), (arL rR_keys kR_keys 10 fR_keys), (oc1 oC iC_nodes iC_words iC_chances iC_unsures iC_slips iC_throneNode iC_saidWorth iC_unit rC_kind rC_parts rC_partNodes rC_weights rC_weightSums rC_toldWorths rC_steps rC_below rC_above rC_unsureWords rC_unsureWorths), (arI rC_parts kC_parts 18 fC_parts), (arI rC_partNodes kC_partNodes 72 fC_partNodes), (arI rC_weights kC_weights 72 fC_weights), (arI rC_weightSums kC_weightSums 18 fC_weightSums), (arI rC_steps kC_steps 18 fC_steps), (arI rC_below kC_below 18 fC_below), (arI rC_above kC_above 18 fC_above)]) hB rfl ht hP hD _ hMs hk1 hFc rfl
            clear hz1 hk1 hvm ht hB hMs
            have hG := hG.trans (un6_eq e_x_1533_0)
            refine lv_aload_n hx hb dX3_readPart_86 rfl (lv_at hl 2 rfl) ?_
            refine va_get (D := (dC, dI)) (ci := 3) (v := .ref oC) (C := RX3) (T := TX3) (N := 15) hx hb hts inX3 hown hK hP 0 rfl rfl 11 (by decide) (hts _ wd_46) (fun _ h9 => h9) rfl dX3_readPart_87 ?_
            refine lv_iload_n hx hb dX3_readPart_90 rfl (lv_at hl 1 rfl) ?_
            refine lv_iload_n hx hb dX3_readPart_91 rfl (lv_at hl 0 rfl) ?_
            have hMs := ml_of hD [false, false, false, false, true, true, true, true, true, true, true, true] (wc := [(oc1 oC iC_nodes iC_words iC_chances iC_unsures iC_slips iC_throneNode iC_saidWorth iC_unit rC_kind rC_parts rC_partNodes rC_weights rC_weightSums rC_toldWorths rC_steps rC_below rC_above rC_unsureWords rC_unsureWorths), (arI rC_parts kC_parts 18 fC_parts), (arI rC_partNodes kC_partNodes 72 fC_partNodes), (arI rC_weights kC_weights 72 fC_weights), (arI rC_weightSums kC_weightSums 18 fC_weightSums), (arI rC_steps kC_steps 18 fC_steps), (arI rC_below kC_below 18 fC_below), (arI rC_above kC_above 18 fC_above)]) rfl
            have hFc := va_freeM hD hS hA _ hMs
            refine va_callv (va_runV (As := [.int x_1509, .int x_1520]) (rest := []) ⟨hx, hb, hml, hown, hts⟩ (tX1_addPart l dC dI _ oC iC_nodes iC_words iC_chances iC_unsures iC_slips iC_throneNode iC_saidWorth iC_unit rC_kind rC_parts fC_parts kC_parts rC_partNodes fC_partNodes kC_partNodes rC_weights fC_weights kC_weights rC_weightSums fC_weightSums kC_weightSums rC_toldWorths rC_steps fC_steps kC_steps rC_below fC_below kC_below rC_above fC_above kC_above rC_unsureWords rC_unsureWorths x_1509 x_1520 b_iC_nodes b_iC_unsures b_iC_throneNode a_fC_parts a_fC_partNodes) (cwV 2 hts (wd_V wd_316 wd_317 wd_318 wd_19 (wd_c wd_319)) rfl rfl rfl dv_yX1_addPart_2 ⟨Nat.le_of_ble_eq_true rfl, Nat.le_of_ble_eq_true rfl⟩) ⟨Pw.fb, recvX1 hK hP (q0 := 4) rfl, fun U hU hW => Pw.to (hP.ms _ hMs) (hD.ms _ hMs) (hK.ms [false, false, false, true, true, true, true, true, true, true] rfl) hE hS hFc hU hW⟩ rfl rfl hl.1 rfl (lv_room (Nat.le_of_ble_eq_true rfl)) dX3_readPart_92 ⟨Nat.le_of_ble_eq_true rfl, Nat.le_of_ble_eq_true rfl⟩) hS (fun q _ h => hFc q h) hFc (fun u t H locs ht hvm hw hB hz1 hk1 hS => ?_)
            refine ex_7_3 hB (fun f_1539 f_1540 f_1541 f_1542 f_1543 f_1544 f_1545 a_f_1539 a_f_1540 e_f_1539_0 hB => ?_)
            obtain ⟨hP, hD⟩ := Bw.goN (ws' := [(oc3 oR x_1529 x_1530 iR_tapeSize rR_tape iR_end x_1533 x_1534 x_1535 y_1536 x_1537 x_1538 oC iR_courtTold rR_names rR_keys), (arI rR_tape kR_tape 900 fR_tape), (arL rR_names kR_names 18 fR_names), (arL rR_keys kR_keys 10 fR_keys), (oc1 oC iC_nodes iC_words iC_chances iC_unsures iC_slips iC_throneNode iC_saidWorth iC_unit rC_kind rC_parts rC_partNodes rC_weights rC_weightSums rC_toldWorths rC_steps rC_below rC_above rC_unsureWords rC_unsureWorths), (arI rC_parts kC_parts 18 f_1539), (arI rC_partNodes kC_partNodes 72 f_1540), (arI rC_weights kC_weights 72 f_1541), (arI rC_weightSums kC_weightSums 18 f_1542), (arI rC_steps kC_steps 18 f_1543), (arI rC_below kC_below 18 f_1544), (arI rC_above kC_above 18 f_1545)]) hB rfl ht hP hD _ hMs hk1 hFc rfl
            clear hz1 hk1 hvm ht hB hMs
            have hG := hG.trans (un7_eq e_f_1539_0)
            refine lv_iconst (v := 1) hx hb dX3_readPart_95 (by decide) ?_
            exact wq_z (v := 1) hx hb hr rfl (cI 1) ⟨⟨Or.inr rfl, trivial⟩, (cI_of 1)⟩ (fun t ht hW => ⟨x_1529, x_1530, x_1533, x_1534, x_1535, y_1536, x_1537, x_1538, f_1539, f_1540, f_1541, f_1542, f_1543, f_1544, f_1545, a_f_1539, a_f_1540, (cI_tup hG), Bw.to hP hD hK ht hW⟩) hS dX3_readPart_96 hlocks
          · skip
            have hG := hG.trans (if_pos c_1532)
            have gc_1532 := ti_eq c_1532 rfl kc_0
            refine lv_iconst (v := 0) hx hb dX3_readPart_75 (by decide) ?_
            exact wq_z (v := 0) hx hb hr rfl (cI 0) ⟨⟨Or.inl rfl, trivial⟩, (cI_of 0)⟩ (fun t ht hW => ⟨x_1529, x_1530, x_1515, x_1516, x_1517, y_1518, x_1519, x_1520, fC_parts, fC_partNodes, fC_weights, fC_weightSums, fC_steps, fC_below, fC_above, a_fC_parts, a_fC_partNodes, (cI_tup hG), Bw.to hP hD hK ht hW⟩) hS dX3_readPart_76 hlocks
      · skip
        have hG := hG.trans (lt_eq hru9.symm)
        have hG := hG.trans (if_neg (by decide))
        refine lv_if_ne (tgt := 54) hx hb dX3_readPart_45 (by decide) (fun c => absurd c (by decide)) (fun _ => ?_)
        refine lv_aload_n hx hb dX3_readPart_48 rfl (lv_at hl 1 rfl) ?_
        refine lv_iconst (v := 5) hx hb dX3_readPart_49 (by decide) ?_
        have hMs := ml_of hD [true, false, false, false, false, false, false, false, false, false, false, false] (wc := [(oc3 oR x_1505 x_1506 iR_tapeSize rR_tape iR_end iR_tokenKind iR_tokenFrom iR_tokenTo iR_tokenName iR_tokenKey iR_tokenWhole oC iR_courtTold rR_names rR_keys)]) rfl
        have hFc := va_freeM hD hS hA _ hMs
        refine va_calli (va_runV (As := [.int 5]) (rest := []) ⟨hx, hb, hml, hown, hts⟩ (tX3_faulty l dC dI _ oR x_1505 x_1506 iR_tapeSize rR_tape iR_end iR_tokenKind iR_tokenFrom iR_tokenTo iR_tokenName iR_tokenKey iR_tokenWhole oC iR_courtTold rR_names rR_keys 5 b_iR_tapeSize b_iR_courtTold) (cwV 1 hts (wd_V wd_254 wd_255 wd_256 wd_15 (wd_c wd_257)) rfl rfl rfl dv_yX3_faulty_1 ⟨Nat.le_of_ble_eq_true rfl, Nat.le_of_ble_eq_true rfl⟩) ⟨Pw.fb, recvX3 hK hP (q0 := 0) rfl, fun U hU hW => Pw.to (hP.ms _ hMs) (hD.ms _ hMs) (hK.ms [false, false, false, false, false, false, false, false, false, false] rfl) hE hS hFc hU hW⟩ rfl rfl hl.1 rfl (lv_room (Nat.le_of_ble_eq_true rfl)) dX3_readPart_50 ⟨Nat.le_of_ble_eq_true rfl, Nat.le_of_ble_eq_true rfl⟩) hS (fun q _ h => hFc q h) hFc (fun r u t H locs ht hvm hw hB hz1 hk1 hS => ?_)
        have hru9 := hw.2
        have hw := hw.1
        refine ex_2_1 hB (fun x_1547 x_1548 e_x_1547_0 hB => ?_)
        obtain ⟨hP, hD⟩ := Bw.goN (ws' := [(oc3 oR x_1547 x_1548 iR_tapeSize rR_tape iR_end iR_tokenKind iR_tokenFrom iR_tokenTo iR_tokenName iR_tokenKey iR_tokenWhole oC iR_courtTold rR_names rR_keys), (arI rR_tape kR_tape 900 fR_tape), (arL rR_names kR_names 18 fR_names), (arL rR_keys kR_keys 10 fR_keys), (oc1 oC iC_nodes iC_words iC_chances iC_unsures iC_slips iC_throneNode iC_saidWorth iC_unit rC_kind rC_parts rC_partNodes rC_weights rC_weightSums rC_toldWorths rC_steps rC_below rC_above rC_unsureWords rC_unsureWorths), (arI rC_parts kC_parts 18 fC_parts), (arI rC_partNodes kC_partNodes 72 fC_partNodes), (arI rC_weights kC_weights 72 fC_weights), (arI rC_weightSums kC_weightSums 18 fC_weightSums), (arI rC_steps kC_steps 18 fC_steps), (arI rC_below kC_below 18 fC_below), (arI rC_above kC_above 18 fC_above)]) hB rfl ht hP hD _ hMs hk1 hFc rfl
        clear hz1 hk1 hvm ht hB hMs
        rw [← hru9] at e_x_1547_0
        rcases hw.2 with ⟨rfl, hc_1549⟩
        · skip
          have hG := hG.trans (un3_eq e_x_1547_0)
          exact wq_z (v := 0) hx hb hr rfl (cI 0) ⟨⟨Or.inl rfl, trivial⟩, (cI_of 0)⟩ (fun t ht hW => ⟨x_1547, x_1548, iR_tokenKind, iR_tokenFrom, iR_tokenTo, iR_tokenName, iR_tokenKey, iR_tokenWhole, fC_parts, fC_partNodes, fC_weights, fC_weightSums, fC_steps, fC_below, fC_above, a_fC_parts, a_fC_partNodes, (cI_tup hG), Bw.to hP hD hK ht hW⟩) hS dX3_readPart_53 hlocks
    · skip
      have hG := hG.trans (if_neg c_1511)
      have gc_1511 := ti_nlt c_1511 rfl kc_0
      refine lv_aload_n hx hb dX3_readPart_32 rfl (lv_at hl 1 rfl) ?_
      refine lv_iconst (v := 3) hx hb dX3_readPart_33 (by decide) ?_
      have hMs := ml_of hD [true, false, false, false, false, false, false, false, false, false, false, false] (wc := [(oc3 oR x_1505 x_1506 iR_tapeSize rR_tape iR_end iR_tokenKind iR_tokenFrom iR_tokenTo iR_tokenName iR_tokenKey iR_tokenWhole oC iR_courtTold rR_names rR_keys)]) rfl
      have hFc := va_freeM hD hS hA _ hMs
      refine va_calli (va_runV (As := [.int 3]) (rest := []) ⟨hx, hb, hml, hown, hts⟩ (tX3_faulty l dC dI _ oR x_1505 x_1506 iR_tapeSize rR_tape iR_end iR_tokenKind iR_tokenFrom iR_tokenTo iR_tokenName iR_tokenKey iR_tokenWhole oC iR_courtTold rR_names rR_keys 3 b_iR_tapeSize b_iR_courtTold) (cwV 1 hts (wd_V wd_254 wd_255 wd_256 wd_15 (wd_c wd_257)) rfl rfl rfl dv_yX3_faulty_1 ⟨Nat.le_of_ble_eq_true rfl, Nat.le_of_ble_eq_true rfl⟩) ⟨Pw.fb, recvX3 hK hP (q0 := 0) rfl, fun U hU hW => Pw.to (hP.ms _ hMs) (hD.ms _ hMs) (hK.ms [false, false, false, false, false, false, false, false, false, false] rfl) hE hS hFc hU hW⟩ rfl rfl hl.1 rfl (lv_room (Nat.le_of_ble_eq_true rfl)) dX3_readPart_34 ⟨Nat.le_of_ble_eq_true rfl, Nat.le_of_ble_eq_true rfl⟩) hS (fun q _ h => hFc q h) hFc (fun r u t H locs ht hvm hw hB hz1 hk1 hS => ?_)
      have hru9 := hw.2
      have hw := hw.1
      refine ex_2_1 hB (fun x_1551 x_1552 e_x_1551_0 hB => ?_)
      obtain ⟨hP, hD⟩ := Bw.goN (ws' := [(oc3 oR x_1551 x_1552 iR_tapeSize rR_tape iR_end iR_tokenKind iR_tokenFrom iR_tokenTo iR_tokenName iR_tokenKey iR_tokenWhole oC iR_courtTold rR_names rR_keys), (arI rR_tape kR_tape 900 fR_tape), (arL rR_names kR_names 18 fR_names), (arL rR_keys kR_keys 10 fR_keys), (oc1 oC iC_nodes iC_words iC_chances iC_unsures iC_slips iC_throneNode iC_saidWorth iC_unit rC_kind rC_parts rC_partNodes rC_weights rC_weightSums rC_toldWorths rC_steps rC_below rC_above rC_unsureWords rC_unsureWorths), (arI rC_parts kC_parts 18 fC_parts), (arI rC_partNodes kC_partNodes 72 fC_partNodes), (arI rC_weights kC_weights 72 fC_weights), (arI rC_weightSums kC_weightSums 18 fC_weightSums), (arI rC_steps kC_steps 18 fC_steps), (arI rC_below kC_below 18 fC_below), (arI rC_above kC_above 18 fC_above)]) hB rfl ht hP hD _ hMs hk1 hFc rfl
      clear hz1 hk1 hvm ht hB hMs
      rw [← hru9] at e_x_1551_0
      rcases hw.2 with ⟨rfl, hc_1553⟩
      · skip
        have hG := hG.trans (un3_eq e_x_1551_0)
        exact wq_z (v := 0) hx hb hr rfl (cI 0) ⟨⟨Or.inl rfl, trivial⟩, (cI_of 0)⟩ (fun t ht hW => ⟨x_1551, x_1552, iR_tokenKind, iR_tokenFrom, iR_tokenTo, iR_tokenName, iR_tokenKey, iR_tokenWhole, fC_parts, fC_partNodes, fC_weights, fC_weightSums, fC_steps, fC_below, fC_above, a_fC_parts, a_fC_partNodes, (cI_tup hG), Bw.to hP hD hK ht hW⟩) hS dX3_readPart_37 hlocks
  · skip
    have hG := hG.trans (if_pos c_1508)
    have gc_1508 := ti_eq c_1508 rfl kc_0
    refine lv_iconst (v := 0) hx hb dX3_readPart_7 (by decide) ?_
    exact wq_z (v := 0) hx hb hr rfl (cI 0) ⟨⟨Or.inl rfl, trivial⟩, (cI_of 0)⟩ (fun t ht hW => ⟨x_1505, x_1506, iR_tokenKind, iR_tokenFrom, iR_tokenTo, iR_tokenName, iR_tokenKey, iR_tokenWhole, fC_parts, fC_partNodes, fC_weights, fC_weightSums, fC_steps, fC_below, fC_above, a_fC_parts, a_fC_partNodes, (cI_tup hG), Bw.to hP hD hK ht hW⟩) hS dX3_readPart_8 hlocks
set_option maxHeartbeats 4000000 in
set_option maxRecDepth 100000 in
theorem tX3_readRuler (l : Launch) (dC : Nat → ClassId) (dI : Nat → Nat → Nat) (sz : Nat) (oR : Nat) (iR_faultNumber : Int32) (iR_faultPlace : Int32) (iR_tapeSize : Int32) (rR_tape : Nat) (fR_tape : Nat → Int32) (kR_tape : ClassId) (iR_end : Int32) (iR_tokenKind : Int32) (iR_tokenFrom : Int32) (iR_tokenTo : Int32) (iR_tokenName : Int64) (iR_tokenKey : Int32) (iR_tokenWhole : Int32) (oC : Nat) (iR_courtTold : Int32) (rR_names : Nat) (fR_names : Nat → Int64) (kR_names : ClassId) (rR_keys : Nat) (fR_keys : Nat → Int64) (kR_keys : ClassId) (iC_nodes : Int32) (iC_words : Int32) (iC_chances : Int32) (iC_unsures : Int32) (iC_slips : Int32) (iC_throneNode : Int32) (iC_saidWorth : Int32) (iC_unit : Int32) (rC_kind : Nat) (fC_kind : Nat → Int32) (kC_kind : ClassId) (rC_parts : Nat) (fC_parts : Nat → Int32) (kC_parts : ClassId) (rC_partNodes : Nat) (fC_partNodes : Nat → Int32) (kC_partNodes : ClassId) (rC_weights : Nat) (fC_weights : Nat → Int32) (kC_weights : ClassId) (rC_weightSums : Nat) (fC_weightSums : Nat → Int32) (kC_weightSums : ClassId) (rC_toldWorths : Nat) (fC_toldWorths : Nat → Int32) (kC_toldWorths : ClassId) (rC_steps : Nat) (fC_steps : Nat → Int32) (kC_steps : ClassId) (rC_below : Nat) (fC_below : Nat → Int32) (kC_below : ClassId) (rC_above : Nat) (fC_above : Nat → Int32) (kC_above : ClassId) (rC_unsureWords : Nat) (rC_unsureWorths : Nat) (p0 : Int32) (b_iR_tapeSize : 0 ≤ iR_tapeSize.toInt ∧ iR_tapeSize.toInt ≤ 900) (b_iR_courtTold : 0 ≤ iR_courtTold.toInt ∧ iR_courtTold.toInt ≤ 1) (b_iC_nodes : 0 ≤ iC_nodes.toInt ∧ iC_nodes.toInt ≤ 18) (b_iC_unsures : 0 ≤ iC_unsures.toInt ∧ iC_unsures.toInt ≤ 4) (b_iC_throneNode : (-1) ≤ iC_throneNode.toInt ∧ iC_throneNode.toInt ≤ 17) (a_fC_parts : ∀ j : Nat, j < 18 → 0 ≤ (fC_parts j).toInt ∧ (fC_parts j).toInt ≤ 4) (a_fC_partNodes : ∀ j : Nat, j < 72 → 0 ≤ (fC_partNodes j).toInt ∧ (fC_partNodes j).toInt ≤ 17)  : Met l yX3_readRuler (Cond.code yX3_readRuler cX3_readRuler 6 (some .boolean) :: wG) ({ frames := 4, cells := 0, slots := 0, locals := 89 }) (va_Pc [.ref oR, .int p0] (Pw dC dI sz [(oc3 oR iR_faultNumber iR_faultPlace iR_tapeSize rR_tape iR_end iR_tokenKind iR_tokenFrom iR_tokenTo iR_tokenName iR_tokenKey iR_tokenWhole oC iR_courtTold rR_names rR_keys), (arI rR_tape kR_tape 900 fR_tape), (arL rR_names kR_names 18 fR_names), (arL rR_keys kR_keys 10 fR_keys), (oc1 oC iC_nodes iC_words iC_chances iC_unsures iC_slips iC_throneNode iC_saidWorth iC_unit rC_kind rC_parts rC_partNodes rC_weights rC_weightSums rC_toldWorths rC_steps rC_below rC_above rC_unsureWords rC_unsureWorths), (arI rC_kind kC_kind 18 fC_kind), (arI rC_parts kC_parts 18 fC_parts), (arI rC_partNodes kC_partNodes 72 fC_partNodes), (arI rC_weights kC_weights 72 fC_weights), (arI rC_weightSums kC_weightSums 18 fC_weightSums), (arI rC_toldWorths kC_toldWorths 18 fC_toldWorths), (arI rC_steps kC_steps 18 fC_steps), (arI rC_below kC_below 18 fC_below), (arI rC_above kC_above 18 fC_above)] [(kR_tape, .byte), (kR_names, .long), (kR_keys, .long), (kC_kind, .int), (kC_parts, .int), (kC_partNodes, .int), (kC_weights, .int), (kC_weightSums, .int), (kC_toldWorths, .int), (kC_steps, .int), (kC_below, .int), (kC_above, .int)])) (va_Qi (fun (r : Int32) (u : Nat) => ((r = 0 ∨ r = 1) ∧ True) ∧ r = Int32.ofNat u) (fun (u : Nat) (t : State) => ∃ (niR_faultNumber : Int32) (niR_faultPlace : Int32) (niR_tokenKind : Int32) (niR_tokenFrom : Int32) (niR_tokenTo : Int32) (niR_tokenName : Int64) (niR_tokenKey : Int32) (niR_tokenWhole : Int32) (nfR_names : Nat → Int64) (niC_nodes : Int32) (niC_words : Int32) (niC_chances : Int32) (niC_unit : Int32) (nfC_kind : Nat → Int32) (nfC_parts : Nat → Int32) (nfC_partNodes : Nat → Int32) (nfC_weights : Nat → Int32) (nfC_weightSums : Nat → Int32) (nfC_toldWorths : Nat → Int32) (nfC_steps : Nat → Int32) (nfC_below : Nat → Int32) (nfC_above : Nat → Int32), (0 ≤ niC_nodes.toInt ∧ niC_nodes.toInt ≤ 18) ∧ (∀ j : Nat, j < 18 → 0 ≤ (nfC_parts j).toInt ∧ (nfC_parts j).toInt ≤ 4) ∧ (∀ j : Nat, j < 72 → 0 ≤ (nfC_partNodes j).toInt ∧ (nfC_partNodes j).toInt ≤ 17) ∧ (PX3_readRuler iR_faultNumber iR_faultPlace fR_tape iR_end iR_tokenKind iR_tokenFrom iR_tokenTo iR_tokenName iR_tokenKey iR_tokenWhole fR_names fR_keys iC_nodes iC_words iC_chances iC_unit fC_kind fC_parts fC_partNodes fC_weights fC_weightSums fC_toldWorths fC_steps fC_below fC_above p0 = (Int32.ofNat u, niR_faultNumber, niR_faultPlace, niR_tokenKind, niR_tokenFrom, niR_tokenTo, niR_tokenName, niR_tokenKey, niR_tokenWhole, nfR_names, niC_nodes, niC_words, niC_chances, niC_unit, nfC_kind, nfC_parts, nfC_partNodes, nfC_weights, nfC_weightSums, nfC_toldWorths, nfC_steps, nfC_below, nfC_above)) ∧ Bw dC dI (va_A [(oc3 oR iR_faultNumber iR_faultPlace iR_tapeSize rR_tape iR_end iR_tokenKind iR_tokenFrom iR_tokenTo iR_tokenName iR_tokenKey iR_tokenWhole oC iR_courtTold rR_names rR_keys), (arI rR_tape kR_tape 900 fR_tape), (arL rR_names kR_names 18 fR_names), (arL rR_keys kR_keys 10 fR_keys), (oc1 oC iC_nodes iC_words iC_chances iC_unsures iC_slips iC_throneNode iC_saidWorth iC_unit rC_kind rC_parts rC_partNodes rC_weights rC_weightSums rC_toldWorths rC_steps rC_below rC_above rC_unsureWords rC_unsureWorths), (arI rC_kind kC_kind 18 fC_kind), (arI rC_parts kC_parts 18 fC_parts), (arI rC_partNodes kC_partNodes 72 fC_partNodes), (arI rC_weights kC_weights 72 fC_weights), (arI rC_weightSums kC_weightSums 18 fC_weightSums), (arI rC_toldWorths kC_toldWorths 18 fC_toldWorths), (arI rC_steps kC_steps 18 fC_steps), (arI rC_below kC_below 18 fC_below), (arI rC_above kC_above 18 fC_above)] sz) [(oc3 oR niR_faultNumber niR_faultPlace iR_tapeSize rR_tape iR_end niR_tokenKind niR_tokenFrom niR_tokenTo niR_tokenName niR_tokenKey niR_tokenWhole oC iR_courtTold rR_names rR_keys), (arI rR_tape kR_tape 900 fR_tape), (arL rR_names kR_names 18 nfR_names), (arL rR_keys kR_keys 10 fR_keys), (oc1 oC niC_nodes niC_words niC_chances iC_unsures iC_slips iC_throneNode iC_saidWorth niC_unit rC_kind rC_parts rC_partNodes rC_weights rC_weightSums rC_toldWorths rC_steps rC_below rC_above rC_unsureWords rC_unsureWorths), (arI rC_kind kC_kind 18 nfC_kind), (arI rC_parts kC_parts 18 nfC_parts), (arI rC_partNodes kC_partNodes 72 nfC_partNodes), (arI rC_weights kC_weights 72 nfC_weights), (arI rC_weightSums kC_weightSums 18 nfC_weightSums), (arI rC_toldWorths kC_toldWorths 18 nfC_toldWorths), (arI rC_steps kC_steps 18 nfC_steps), (arI rC_below kC_below 18 nfC_below), (arI rC_above kC_above 18 nfC_above)] [(kR_tape, .byte), (kR_names, .long), (kR_keys, .long), (kC_kind, .int), (kC_parts, .int), (kC_partNodes, .int), (kC_weights, .int), (kC_weightSums, .int), (kC_toldWorths, .int), (kC_steps, .int), (kC_below, .int), (kC_above, .int)] t) (va_A [(oc3 oR iR_faultNumber iR_faultPlace iR_tapeSize rR_tape iR_end iR_tokenKind iR_tokenFrom iR_tokenTo iR_tokenName iR_tokenKey iR_tokenWhole oC iR_courtTold rR_names rR_keys), (arI rR_tape kR_tape 900 fR_tape), (arL rR_names kR_names 18 fR_names), (arL rR_keys kR_keys 10 fR_keys), (oc1 oC iC_nodes iC_words iC_chances iC_unsures iC_slips iC_throneNode iC_saidWorth iC_unit rC_kind rC_parts rC_partNodes rC_weights rC_weightSums rC_toldWorths rC_steps rC_below rC_above rC_unsureWords rC_unsureWorths), (arI rC_kind kC_kind 18 fC_kind), (arI rC_parts kC_parts 18 fC_parts), (arI rC_partNodes kC_partNodes 72 fC_partNodes), (arI rC_weights kC_weights 72 fC_weights), (arI rC_weightSums kC_weightSums 18 fC_weightSums), (arI rC_toldWorths kC_toldWorths 18 fC_toldWorths), (arI rC_steps kC_steps 18 fC_steps), (arI rC_below kC_below 18 fC_below), (arI rC_above kC_above 18 fC_above)] sz)) 0 0 (va_A [(oc3 oR iR_faultNumber iR_faultPlace iR_tapeSize rR_tape iR_end iR_tokenKind iR_tokenFrom iR_tokenTo iR_tokenName iR_tokenKey iR_tokenWhole oC iR_courtTold rR_names rR_keys), (arI rR_tape kR_tape 900 fR_tape), (arL rR_names kR_names 18 fR_names), (arL rR_keys kR_keys 10 fR_keys), (oc1 oC iC_nodes iC_words iC_chances iC_unsures iC_slips iC_throneNode iC_saidWorth iC_unit rC_kind rC_parts rC_partNodes rC_weights rC_weightSums rC_toldWorths rC_steps rC_below rC_above rC_unsureWords rC_unsureWorths), (arI rC_kind kC_kind 18 fC_kind), (arI rC_parts kC_parts 18 fC_parts), (arI rC_partNodes kC_partNodes 72 fC_partNodes), (arI rC_weights kC_weights 72 fC_weights), (arI rC_weightSums kC_weightSums 18 fC_weightSums), (arI rC_toldWorths kC_toldWorths 18 fC_toldWorths), (arI rC_steps kC_steps 18 fC_steps), (arI rC_below kC_below 18 fC_below), (arI rC_above kC_above 18 fC_above)] sz) := by
  refine Met.ofW (cc := cX3_readRuler) (maxL := 6) (ret := (some .boolean)) pnX3 rfl ?_
  intro p e s m args below meth c s₁ B hml hv
  obtain ⟨rfl, hsz, hP, hK, hD0, hE⟩ := hv
  have hx := B.exec
  have hb := B.bytes
  have hr := B.returns
  have hts : ∀ w ∈ wG, w.before ([.ref oR, .int p0] : List Value).toArray s = true := fun w h => atoms_spec (ws := Cond.code yX3_readRuler cX3_readRuler 6 (some .boolean) :: wG) B.pre w (List.mem_cons_of_mem _ h)
  have hown : s.vm.findClass RX3 = some m.cls := own_of B.named rfl
  have hlocks := B.notSynchronized
  subst hsz
  have hD := hD0.self (sz := s.heap.size)
  generalize hAe : va_A [(oc3 oR iR_faultNumber iR_faultPlace iR_tapeSize rR_tape iR_end iR_tokenKind iR_tokenFrom iR_tokenTo iR_tokenName iR_tokenKey iR_tokenWhole oC iR_courtTold rR_names rR_keys), (arI rR_tape kR_tape 900 fR_tape), (arL rR_names kR_names 18 fR_names), (arL rR_keys kR_keys 10 fR_keys), (oc1 oC iC_nodes iC_words iC_chances iC_unsures iC_slips iC_throneNode iC_saidWorth iC_unit rC_kind rC_parts rC_partNodes rC_weights rC_weightSums rC_toldWorths rC_steps rC_below rC_above rC_unsureWords rC_unsureWorths), (arI rC_kind kC_kind 18 fC_kind), (arI rC_parts kC_parts 18 fC_parts), (arI rC_partNodes kC_partNodes 72 fC_partNodes), (arI rC_weights kC_weights 72 fC_weights), (arI rC_weightSums kC_weightSums 18 fC_weightSums), (arI rC_toldWorths kC_toldWorths 18 fC_toldWorths), (arI rC_steps kC_steps 18 fC_steps), (arI rC_below kC_below 18 fC_below), (arI rC_above kC_above 18 fC_above)] s.heap.size = A at hD hE ⊢
  have hA : ∀ q : Nat, s.heap.size ≤ q → A q := fun q h => by rw [← hAe]; exact Or.inr h
  have hS : va_S A s.heap s.heap [] := va_S.rf
  have hl := lv_entry ([.ref oR, .int p0]) (n := 6) (Nat.le_of_ble_eq_true rfl)
  rw [lg_entry_eq]
  generalize (lg_sl ([.ref oR, .int p0]) ++ List.replicate (6 - (lg_sl ([.ref oR, .int p0])).length) Slot.unset).toArray = ls at hl ⊢
  have hl : lv_has ls 6 [(0, .ref oR), (1, .int p0)] := hl
  have hG := PX3_readRuler_eq iR_faultNumber iR_faultPlace fR_tape iR_end iR_tokenKind iR_tokenFrom iR_tokenTo iR_tokenName iR_tokenKey iR_tokenWhole fR_names fR_keys iC_nodes iC_words iC_chances iC_unit fC_kind fC_parts fC_partNodes fC_weights fC_weightSums fC_toldWorths fC_steps fC_below fC_above p0
  refine lv_aload_n hx hb dX3_readRuler_0 rfl (lv_at hl 0 rfl) ?_
  refine va_get (D := (dC, dI)) (ci := 3) (v := .ref oC) (C := RX3) (T := TX3) (N := 15) hx hb hts inX3 hown hK hP 0 rfl rfl 11 (by decide) (hts _ wd_46) (fun _ h9 => h9) rfl dX3_readRuler_1 ?_
  refine lv_iload_n hx hb dX3_readRuler_4 rfl (lv_at hl 1 rfl) ?_
  have hMs := ml_of hD [false, false, false, false, true, false, false, false, false, false, false, false, false, false] (wc := [(oc1 oC iC_nodes iC_words iC_chances iC_unsures iC_slips iC_throneNode iC_saidWorth iC_unit rC_kind rC_parts rC_partNodes rC_weights rC_weightSums rC_toldWorths rC_steps rC_below rC_above rC_unsureWords rC_unsureWorths)]) rfl
  have hFc := va_freeM hD hS hA _ hMs
  refine va_calli (va_runV (As := [.int p0]) (rest := []) ⟨hx, hb, hml, hown, hts⟩ (tX1_hasRoomFor l dC dI _ oC iC_nodes iC_words iC_chances iC_unsures iC_slips iC_throneNode iC_saidWorth iC_unit rC_kind rC_parts rC_partNodes rC_weights rC_weightSums rC_toldWorths rC_steps rC_below rC_above rC_unsureWords rC_unsureWorths p0 b_iC_nodes b_iC_unsures b_iC_throneNode) (cwV 1 hts (wd_V wd_271 wd_272 wd_273 wd_19 (wd_c wd_274)) rfl rfl rfl dv_yX1_hasRoomFor_1 ⟨Nat.le_of_ble_eq_true rfl, Nat.le_of_ble_eq_true rfl⟩) ⟨Pw.fb, recvX1 hK hP (q0 := 4) rfl, fun U hU hW => Pw.to (hP.ms _ hMs) (hD.ms _ hMs) (hK.ms [false, false, false, false, false, false, false, false, false, false, false, false] rfl) hE hS hFc hU hW⟩ rfl rfl hl.1 rfl (lv_room (Nat.le_of_ble_eq_true rfl)) dX3_readRuler_5 ⟨Nat.le_of_ble_eq_true rfl, Nat.le_of_ble_eq_true rfl⟩) hS (fun q _ h => hFc q h) hFc (fun r u t H locs ht hvm hw hB hz1 hk1 hS => ?_)
  have hru9 := hw.2
  have hw := hw.1
  obtain ⟨hP, hD⟩ := Bw.goN (ws' := [(oc3 oR iR_faultNumber iR_faultPlace iR_tapeSize rR_tape iR_end iR_tokenKind iR_tokenFrom iR_tokenTo iR_tokenName iR_tokenKey iR_tokenWhole oC iR_courtTold rR_names rR_keys), (arI rR_tape kR_tape 900 fR_tape), (arL rR_names kR_names 18 fR_names), (arL rR_keys kR_keys 10 fR_keys), (oc1 oC iC_nodes iC_words iC_chances iC_unsures iC_slips iC_throneNode iC_saidWorth iC_unit rC_kind rC_parts rC_partNodes rC_weights rC_weightSums rC_toldWorths rC_steps rC_below rC_above rC_unsureWords rC_unsureWorths), (arI rC_kind kC_kind 18 fC_kind), (arI rC_parts kC_parts 18 fC_parts), (arI rC_partNodes kC_partNodes 72 fC_partNodes), (arI rC_weights kC_weights 72 fC_weights), (arI rC_weightSums kC_weightSums 18 fC_weightSums), (arI rC_toldWorths kC_toldWorths 18 fC_toldWorths), (arI rC_steps kC_steps 18 fC_steps), (arI rC_below kC_below 18 fC_below), (arI rC_above kC_above 18 fC_above)]) hB rfl ht hP hD _ hMs hk1 hFc rfl
  clear hz1 hk1 hvm ht hB hMs
  rcases hw.2 with ⟨rfl, hc_1744⟩ | ⟨rfl, hc_1744⟩
  · skip
    have hG := hG.trans (lt_eq hru9.symm)
    have hG := hG.trans (if_pos rfl)
    refine lv_if_ne (tgt := 17) hx hb dX3_readRuler_8 (by decide) (fun _ => ?_) (fun c => absurd c (by decide))
    refine lv_aload_n hx hb dX3_readRuler_17 rfl (lv_at hl 0 rfl) ?_
    refine va_get (D := (dC, dI)) (ci := 3) (v := .ref oC) (C := RX3) (T := TX3) (N := 15) hx hb hts inX3 hown hK hP 0 rfl rfl 11 (by decide) (hts _ wd_46) (fun _ h9 => h9) rfl dX3_readRuler_18 ?_
    refine lv_iload_n hx hb dX3_readRuler_21 rfl (lv_at hl 1 rfl) ?_
    have hMs := ml_of hD [false, false, false, false, true, true, true, false, false, true, true, true, true, true] (wc := [(oc1 oC iC_nodes iC_words iC_chances iC_unsures iC_slips iC_throneNode iC_saidWorth iC_unit rC_kind rC_parts rC_partNodes rC_weights rC_weightSums rC_toldWorths rC_steps rC_below rC_above rC_unsureWords rC_unsureWorths), (arI rC_kind kC_kind 18 fC_kind), (arI rC_parts kC_parts 18 fC_parts), (arI rC_weightSums kC_weightSums 18 fC_weightSums), (arI rC_toldWorths kC_toldWorths 18 fC_toldWorths), (arI rC_steps kC_steps 18 fC_steps), (arI rC_below kC_below 18 fC_below), (arI rC_above kC_above 18 fC_above)]) rfl
    have hFc := va_freeM hD hS hA _ hMs
    refine va_callv (va_runV (As := [.int p0]) (rest := []) ⟨hx, hb, hml, hown, hts⟩ (tX1_beginNode l dC dI _ oC iC_nodes iC_words iC_chances iC_unsures iC_slips iC_throneNode iC_saidWorth iC_unit rC_kind fC_kind kC_kind rC_parts fC_parts kC_parts rC_partNodes rC_weights rC_weightSums fC_weightSums kC_weightSums rC_toldWorths fC_toldWorths kC_toldWorths rC_steps fC_steps kC_steps rC_below fC_below kC_below rC_above fC_above kC_above rC_unsureWords rC_unsureWorths p0 b_iC_nodes b_iC_unsures b_iC_throneNode a_fC_parts) (cwV 1 hts (wd_V wd_275 wd_276 wd_277 wd_19 (wd_c wd_278)) rfl rfl rfl dv_yX1_beginNode_1 ⟨Nat.le_of_ble_eq_true rfl, Nat.le_of_ble_eq_true rfl⟩) ⟨Pw.fb, recvX1 hK hP (q0 := 4) rfl, fun U hU hW => Pw.to (hP.ms _ hMs) (hD.ms _ hMs) (hK.ms [false, false, false, true, true, false, false, true, true, true, true, true] rfl) hE hS hFc hU hW⟩ rfl rfl hl.1 rfl (lv_room (Nat.le_of_ble_eq_true rfl)) dX3_readRuler_22 ⟨Nat.le_of_ble_eq_true rfl, Nat.le_of_ble_eq_true rfl⟩) hS (fun q _ h => hFc q h) hFc (fun u t H locs ht hvm hw hB hz1 hk1 hS => ?_)
    refine ex_7_2 hB (fun f_1747 f_1748 f_1749 f_1750 f_1751 f_1752 f_1753 a_f_1748 e_f_1747_0 hB => ?_)
    obtain ⟨hP, hD⟩ := Bw.goN (ws' := [(oc3 oR iR_faultNumber iR_faultPlace iR_tapeSize rR_tape iR_end iR_tokenKind iR_tokenFrom iR_tokenTo iR_tokenName iR_tokenKey iR_tokenWhole oC iR_courtTold rR_names rR_keys), (arI rR_tape kR_tape 900 fR_tape), (arL rR_names kR_names 18 fR_names), (arL rR_keys kR_keys 10 fR_keys), (oc1 oC iC_nodes iC_words iC_chances iC_unsures iC_slips iC_throneNode iC_saidWorth iC_unit rC_kind rC_parts rC_partNodes rC_weights rC_weightSums rC_toldWorths rC_steps rC_below rC_above rC_unsureWords rC_unsureWorths), (arI rC_kind kC_kind 18 f_1747), (arI rC_parts kC_parts 18 f_1748), (arI rC_partNodes kC_partNodes 72 fC_partNodes), (arI rC_weights kC_weights 72 fC_weights), (arI rC_weightSums kC_weightSums 18 f_1749), (arI rC_toldWorths kC_toldWorths 18 f_1750), (arI rC_steps kC_steps 18 f_1751), (arI rC_below kC_below 18 f_1752), (arI rC_above kC_above 18 f_1753)]) hB rfl ht hP hD _ hMs hk1 hFc rfl
    clear hz1 hk1 hvm ht hB hMs
    have hG := hG.trans (un7_eq e_f_1747_0)
    refine lv_aload_n hx hb dX3_readRuler_25 rfl (lv_at hl 0 rfl) ?_
    have hMs := ml_of hD [true, true, false, true, false, false, false, false, false, false, false, false, false, false] (wc := [(oc3 oR iR_faultNumber iR_faultPlace iR_tapeSize rR_tape iR_end iR_tokenKind iR_tokenFrom iR_tokenTo iR_tokenName iR_tokenKey iR_tokenWhole oC iR_courtTold rR_names rR_keys), (arI rR_tape kR_tape 900 fR_tape), (arL rR_keys kR_keys 10 fR_keys)]) rfl
    have hFc := va_freeM hD hS hA _ hMs
    refine va_callv (va_runV (As := []) (rest := []) ⟨hx, hb, hml, hown, hts⟩ (tX3_nextToken l dC dI _ oR iR_faultNumber iR_faultPlace iR_tapeSize rR_tape fR_tape kR_tape iR_end iR_tokenKind iR_tokenFrom iR_tokenTo iR_tokenName iR_tokenKey iR_tokenWhole oC iR_courtTold rR_names rR_keys fR_keys kR_keys b_iR_tapeSize b_iR_courtTold) (cwV 0 hts (wd_V wd_220 wd_221 wd_222 wd_15 (wd_c wd_223)) rfl rfl rfl dv_yX3_nextToken_0 ⟨Nat.le_of_ble_eq_true rfl, Nat.le_of_ble_eq_true rfl⟩) ⟨Pw.fb, recvX3 hK hP (q0 := 0) rfl, fun U hU hW => Pw.to (hP.ms _ hMs) (hD.ms _ hMs) (hK.ms [true, false, true, false, false, false, false, false, false, false, false, false] rfl) hE hS hFc hU hW⟩ rfl rfl hl.1 rfl (lv_room (Nat.le_of_ble_eq_true rfl)) dX3_readRuler_26 ⟨Nat.le_of_ble_eq_true rfl, Nat.le_of_ble_eq_true rfl⟩) hS (fun q _ h => hFc q h) hFc (fun u t H locs ht hvm hw hB hz1 hk1 hS => ?_)
    refine ex_6_1 hB (fun x_1754 x_1755 x_1756 y_1757 x_1758 x_1759 e_x_1754_0 hB => ?_)
    obtain ⟨hP, hD⟩ := Bw.goN (ws' := [(oc3 oR iR_faultNumber iR_faultPlace iR_tapeSize rR_tape iR_end x_1754 x_1755 x_1756 y_1757 x_1758 x_1759 oC iR_courtTold rR_names rR_keys), (arI rR_tape kR_tape 900 fR_tape), (arL rR_names kR_names 18 fR_names), (arL rR_keys kR_keys 10 fR_keys), (oc1 oC iC_nodes iC_words iC_chances iC_unsures iC_slips iC_throneNode iC_saidWorth iC_unit rC_kind rC_parts rC_partNodes rC_weights rC_weightSums rC_toldWorths rC_steps rC_below rC_above rC_unsureWords rC_unsureWorths), (arI rC_kind kC_kind 18 f_1747), (arI rC_parts kC_parts 18 f_1748), (arI rC_partNodes kC_partNodes 72 fC_partNodes), (arI rC_weights kC_weights 72 fC_weights), (arI rC_weightSums kC_weightSums 18 f_1749), (arI rC_toldWorths kC_toldWorths 18 f_1750), (arI rC_steps kC_steps 18 f_1751), (arI rC_below kC_below 18 f_1752), (arI rC_above kC_above 18 f_1753)]) hB rfl ht hP hD _ hMs hk1 hFc rfl
    clear hz1 hk1 hvm ht hB hMs
    have hG := hG.trans (un6_eq e_x_1754_0)
    refine lv_aload_n hx hb dX3_readRuler_29 rfl (lv_at hl 0 rfl) ?_
    have hMs := ml_of hD [true, false, true, false, true, false, false, false, false, false, false, false, false, false] (wc := [(oc3 oR iR_faultNumber iR_faultPlace iR_tapeSize rR_tape iR_end x_1754 x_1755 x_1756 y_1757 x_1758 x_1759 oC iR_courtTold rR_names rR_keys), (arL rR_names kR_names 18 fR_names), (oc1 oC iC_nodes iC_words iC_chances iC_unsures iC_slips iC_throneNode iC_saidWorth iC_unit rC_kind rC_parts rC_partNodes rC_weights rC_weightSums rC_toldWorths rC_steps rC_below rC_above rC_unsureWords rC_unsureWorths)]) rfl
    have hFc := va_freeM hD hS hA _ hMs
    refine va_calli (va_runV (As := []) (rest := []) ⟨hx, hb, hml, hown, hts⟩ (tX3_isNewName l dC dI _ oR iR_faultNumber iR_faultPlace iR_tapeSize rR_tape iR_end x_1754 x_1755 x_1756 y_1757 x_1758 x_1759 oC iR_courtTold rR_names fR_names kR_names rR_keys iC_nodes iC_words iC_chances iC_unsures iC_slips iC_throneNode iC_saidWorth iC_unit rC_kind rC_parts rC_partNodes rC_weights rC_weightSums rC_toldWorths rC_steps rC_below rC_above rC_unsureWords rC_unsureWorths b_iR_tapeSize b_iR_courtTold b_iC_nodes b_iC_unsures b_iC_throneNode) (cwV 0 hts (wd_V wd_279 wd_280 wd_281 wd_15 (wd_c wd_282)) rfl rfl rfl dv_yX3_isNewName_0 ⟨Nat.le_of_ble_eq_true rfl, Nat.le_of_ble_eq_true rfl⟩) ⟨Pw.fb, recvX3 hK hP (q0 := 0) rfl, fun U hU hW => Pw.to (hP.ms _ hMs) (hD.ms _ hMs) (hK.ms [false, true, false, false, false, false, false, false, false, false, false, false] rfl) hE hS hFc hU hW⟩ rfl rfl hl.1 rfl (lv_room (Nat.le_of_ble_eq_true rfl)) dX3_readRuler_30 ⟨Nat.le_of_ble_eq_true rfl, Nat.le_of_ble_eq_true rfl⟩) hS (fun q _ h => hFc q h) hFc (fun r u t H locs ht hvm hw hB hz1 hk1 hS => ?_)
    have hru9 := hw.2
    have hw := hw.1
    refine ex_2_1 hB (fun x_1760 x_1761 e_x_1760_0 hB => ?_)
    obtain ⟨hP, hD⟩ := Bw.goN (ws' := [(oc3 oR x_1760 x_1761 iR_tapeSize rR_tape iR_end x_1754 x_1755 x_1756 y_1757 x_1758 x_1759 oC iR_courtTold rR_names rR_keys), (arI rR_tape kR_tape 900 fR_tape), (arL rR_names kR_names 18 fR_names), (arL rR_keys kR_keys 10 fR_keys), (oc1 oC iC_nodes iC_words iC_chances iC_unsures iC_slips iC_throneNode iC_saidWorth iC_unit rC_kind rC_parts rC_partNodes rC_weights rC_weightSums rC_toldWorths rC_steps rC_below rC_above rC_unsureWords rC_unsureWorths), (arI rC_kind kC_kind 18 f_1747), (arI rC_parts kC_parts 18 f_1748), (arI rC_partNodes kC_partNodes 72 fC_partNodes), (arI rC_weights kC_weights 72 fC_weights), (arI rC_weightSums kC_weightSums 18 f_1749), (arI rC_toldWorths kC_toldWorths 18 f_1750), (arI rC_steps kC_steps 18 f_1751), (arI rC_below kC_below 18 f_1752), (arI rC_above kC_above 18 f_1753)]) hB rfl ht hP hD _ hMs hk1 hFc rfl
    clear hz1 hk1 hvm ht hB hMs
    rw [← hru9] at e_x_1760_0
    obtain ⟨x_1762, rfl⟩ : ∃ z, z = r := ⟨_, rfl⟩
    have hG := hG.trans (un3_eq e_x_1760_0)
    have bx_1762 := hw.1
    have dx_1762 := bz_tb bx_1762
    refine lv_if_ne (tgt := 38) hx hb dX3_readRuler_33 (by decide) (fun c_1763 => ?_) (fun c_1763 => ?_)
    · skip
      have hG := hG.trans (if_neg c_1763)
      have gc_1763 := ti_ne c_1763 rfl kc_0
      refine lv_aload_n hx hb dX3_readRuler_38 rfl (lv_at hl 0 rfl) ?_
      refine va_get (D := (dC, dI)) (ci := 3) (v := .long y_1757) (C := RX3) (T := TX3) (N := 15) hx hb hts inX3 hown hK hP 0 rfl rfl 8 (by decide) (hts _ wd_237) (fun _ h9 => h9) rfl dX3_readRuler_39 ?_
      refine lv_lstore_n (lv' := [(2, .long y_1757), (0, .ref oR), (1, .int p0)]) hx hb dX3_readRuler_42 rfl hl (by decide) rfl (fun ls hl => ?_)
      refine lv_aload_n hx hb dX3_readRuler_43 rfl (lv_at hl 1 rfl) ?_
      have hMs := ml_of hD [true, true, false, true, false, false, false, false, false, false, false, false, false, false] (wc := [(oc3 oR x_1760 x_1761 iR_tapeSize rR_tape iR_end x_1754 x_1755 x_1756 y_1757 x_1758 x_1759 oC iR_courtTold rR_names rR_keys), (arI rR_tape kR_tape 900 fR_tape), (arL rR_keys kR_keys 10 fR_keys)]) rfl
      have hFc := va_freeM hD hS hA _ hMs
      refine va_callv (va_runV (As := []) (rest := []) ⟨hx, hb, hml, hown, hts⟩ (tX3_nextToken l dC dI _ oR x_1760 x_1761 iR_tapeSize rR_tape fR_tape kR_tape iR_end x_1754 x_1755 x_1756 y_1757 x_1758 x_1759 oC iR_courtTold rR_names rR_keys fR_keys kR_keys b_iR_tapeSize b_iR_courtTold) (cwV 0 hts (wd_V wd_220 wd_221 wd_222 wd_15 (wd_c wd_223)) rfl rfl rfl dv_yX3_nextToken_0 ⟨Nat.le_of_ble_eq_true rfl, Nat.le_of_ble_eq_true rfl⟩) ⟨Pw.fb, recvX3 hK hP (q0 := 0) rfl, fun U hU hW => Pw.to (hP.ms _ hMs) (hD.ms _ hMs) (hK.ms [true, false, true, false, false, false, false, false, false, false, false, false] rfl) hE hS hFc hU hW⟩ rfl rfl hl.1 rfl (lv_room (Nat.le_of_ble_eq_true rfl)) dX3_readRuler_44 ⟨Nat.le_of_ble_eq_true rfl, Nat.le_of_ble_eq_true rfl⟩) hS (fun q _ h => hFc q h) hFc (fun u t H locs ht hvm hw hB hz1 hk1 hS => ?_)
      refine ex_6_1 hB (fun x_1764 x_1765 x_1766 y_1767 x_1768 x_1769 e_x_1764_0 hB => ?_)
      obtain ⟨hP, hD⟩ := Bw.goN (ws' := [(oc3 oR x_1760 x_1761 iR_tapeSize rR_tape iR_end x_1764 x_1765 x_1766 y_1767 x_1768 x_1769 oC iR_courtTold rR_names rR_keys), (arI rR_tape kR_tape 900 fR_tape), (arL rR_names kR_names 18 fR_names), (arL rR_keys kR_keys 10 fR_keys), (oc1 oC iC_nodes iC_words iC_chances iC_unsures iC_slips iC_throneNode iC_saidWorth iC_unit rC_kind rC_parts rC_partNodes rC_weights rC_weightSums rC_toldWorths rC_steps rC_below rC_above rC_unsureWords rC_unsureWorths), (arI rC_kind kC_kind 18 f_1747), (arI rC_parts kC_parts 18 f_1748), (arI rC_partNodes kC_partNodes 72 fC_partNodes), (arI rC_weights kC_weights 72 fC_weights), (arI rC_weightSums kC_weightSums 18 f_1749), (arI rC_toldWorths kC_toldWorths 18 f_1750), (arI rC_steps kC_steps 18 f_1751), (arI rC_below kC_below 18 f_1752), (arI rC_above kC_above 18 f_1753)]) hB rfl ht hP hD _ hMs hk1 hFc rfl
      clear hz1 hk1 hvm ht hB hMs
      have hG := hG.trans (un6_eq e_x_1764_0)
      refine lv_aload_n hx hb dX3_readRuler_47 rfl (lv_at hl 1 rfl) ?_
      refine lv_iload_n hx hb dX3_readRuler_48 rfl (lv_at hl 2 rfl) ?_
      have hMs := ml_of hD [true, true, true, true, true, false, true, true, true, true, false, true, true, true] (wc := [(oc3 oR x_1760 x_1761 iR_tapeSize rR_tape iR_end x_1764 x_1765 x_1766 y_1767 x_1768 x_1769 oC iR_courtTold rR_names rR_keys), (arI rR_tape kR_tape 900 fR_tape), (arL rR_names kR_names 18 fR_names), (arL rR_keys kR_keys 10 fR_keys), (oc1 oC iC_nodes iC_words iC_chances iC_unsures iC_slips iC_throneNode iC_saidWorth iC_unit rC_kind rC_parts rC_partNodes rC_weights rC_weightSums rC_toldWorths rC_steps rC_below rC_above rC_unsureWords rC_unsureWorths), (arI rC_parts kC_parts 18 f_1748), (arI rC_partNodes kC_partNodes 72 fC_partNodes), (arI rC_weights kC_weights 72 fC_weights), (arI rC_weightSums kC_weightSums 18 f_1749), (arI rC_steps kC_steps 18 f_1751), (arI rC_below kC_below 18 f_1752), (arI rC_above kC_above 18 f_1753)]) rfl
      have hFc := va_freeM hD hS hA _ hMs
      refine va_calli (va_runV (As := [.int p0]) (rest := []) ⟨hx, hb, hml, hown, hts⟩ (tX3_readPart l dC dI _ oR x_1760 x_1761 iR_tapeSize rR_tape fR_tape kR_tape iR_end x_1764 x_1765 x_1766 y_1767 x_1768 x_1769 oC iR_courtTold rR_names fR_names kR_names rR_keys fR_keys kR_keys iC_nodes iC_words iC_chances iC_unsures iC_slips iC_throneNode iC_saidWorth iC_unit rC_kind rC_parts f_1748 kC_parts rC_partNodes fC_partNodes kC_partNodes rC_weights fC_weights kC_weights rC_weightSums f_1749 kC_weightSums rC_toldWorths rC_steps f_1751 kC_steps rC_below f_1752 kC_below rC_above f_1753 kC_above rC_unsureWords rC_unsureWorths p0 b_iR_tapeSize b_iR_courtTold b_iC_nodes b_iC_unsures b_iC_throneNode a_f_1748 a_fC_partNodes) (cwV 1 hts (wd_V wd_300 wd_301 wd_302 wd_15 (wd_c wd_303)) rfl rfl rfl dv_yX3_readPart_1 ⟨Nat.le_of_ble_eq_true rfl, Nat.le_of_ble_eq_true rfl⟩) ⟨Pw.fb, recvX3 hK hP (q0 := 0) rfl, fun U hU hW => Pw.to (hP.ms _ hMs) (hD.ms _ hMs) (hK.ms [true, true, true, false, true, true, true, true, false, true, true, true] rfl) hE hS hFc hU hW⟩ rfl rfl hl.1 rfl (lv_room (Nat.le_of_ble_eq_true rfl)) dX3_readRuler_49 ⟨Nat.le_of_ble_eq_true rfl, Nat.le_of_ble_eq_true rfl⟩) hS (fun q _ h => hFc q h) hFc (fun r u t H locs ht hvm hw hB hz1 hk1 hS => ?_)
      have hru9 := hw.2
      have hw := hw.1
      refine ex_15_3 hB (fun x_1770 x_1771 x_1772 x_1773 x_1774 y_1775 x_1776 x_1777 f_1778 f_1779 f_1780 f_1781 f_1782 f_1783 f_1784 a_f_1778 a_f_1779 e_x_1770_0 hB => ?_)
      obtain ⟨hP, hD⟩ := Bw.goN (ws' := [(oc3 oR x_1770 x_1771 iR_tapeSize rR_tape iR_end x_1772 x_1773 x_1774 y_1775 x_1776 x_1777 oC iR_courtTold rR_names rR_keys), (arI rR_tape kR_tape 900 fR_tape), (arL rR_names kR_names 18 fR_names), (arL rR_keys kR_keys 10 fR_keys), (oc1 oC iC_nodes iC_words iC_chances iC_unsures iC_slips iC_throneNode iC_saidWorth iC_unit rC_kind rC_parts rC_partNodes rC_weights rC_weightSums rC_toldWorths rC_steps rC_below rC_above rC_unsureWords rC_unsureWorths), (arI rC_kind kC_kind 18 f_1747), (arI rC_parts kC_parts 18 f_1778), (arI rC_partNodes kC_partNodes 72 f_1779), (arI rC_weights kC_weights 72 f_1780), (arI rC_weightSums kC_weightSums 18 f_1781), (arI rC_toldWorths kC_toldWorths 18 f_1750), (arI rC_steps kC_steps 18 f_1782), (arI rC_below kC_below 18 f_1783), (arI rC_above kC_above 18 f_1784)]) hB rfl ht hP hD _ hMs hk1 hFc rfl
      clear hz1 hk1 hvm ht hB hMs
      rw [← hru9] at e_x_1770_0
      obtain ⟨x_1785, rfl⟩ : ∃ z, z = r := ⟨_, rfl⟩
      have hG := hG.trans (un16_eq e_x_1770_0)
      have bx_1785 := hw.1
      have dx_1785 := bz_tb bx_1785
      refine lv_istore (lv' := [(4, .int x_1785), (2, .long y_1757), (0, .ref oR), (1, .int p0)]) hx hb dX3_readRuler_52 hl (by decide) rfl (fun ls hl => ?_)
      refine lv_iconst (v := 0) hx hb dX3_readRuler_54 (by decide) ?_
      refine lv_istore (lv' := [(5, .int 0), (4, .int x_1785), (2, .long y_1757), (0, .ref oR), (1, .int p0)]) hx hb dX3_readRuler_55 hl (by decide) rfl (fun ls hl => ?_)
      have hl := lv_sub hl (l' := [(5, .int 0), (4, .int x_1785), (2, .long y_1757), (0, .ref oR), (1, .int p0)]) [0, 1, 2, 3, 4] rfl
      have key_n_1803 : ∀ (n_1803 : Nat) (z_1786 : Int32) (z_1787 : Int32) (z_1788 : Int32) (z_1789 : Int32) (z_1790 : Int32) (z_1791 : Int32) (z_1792 : Int32) (z_1793 : Int64) (z_1794 : Int32) (z_1795 : Int32) (f_1796 : Nat → Int32) (f_1797 : Nat → Int32) (f_1798 : Nat → Int32) (f_1799 : Nat → Int32) (f_1800 : Nat → Int32) (f_1801 : Nat → Int32) (f_1802 : Nat → Int32) (H : Heap) (locs : List Loc) (ls : Array Slot), (∀ j : Nat, j < 18 → 0 ≤ (f_1796 j).toInt ∧ (f_1796 j).toInt ≤ 4) → (∀ j : Nat, j < 72 → 0 ≤ (f_1797 j).toInt ∧ (f_1797 j).toInt ≤ 17) → (0 ≤ z_1786.toInt ∧ z_1786.toInt ≤ 5) → (0 ≤ z_1787.toInt ∧ z_1787.toInt ≤ 1) → (5 - z_1786.toInt).toNat < n_1803 → (PX3_readRuler iR_faultNumber iR_faultPlace fR_tape iR_end iR_tokenKind iR_tokenFrom iR_tokenTo iR_tokenName iR_tokenKey iR_tokenWhole fR_names fR_keys iC_nodes iC_words iC_chances iC_unit fC_kind fC_parts fC_partNodes fC_weights fC_weightSums fC_toldWorths fC_steps fC_below fC_above p0 = HX3_readRuler_0 fR_tape iR_end fR_names fR_keys iC_nodes iC_words iC_chances iC_unit p0 f_1747 f_1750 y_1757 n_1803 z_1786 z_1787 z_1788 z_1789 z_1790 z_1791 z_1792 z_1793 z_1794 z_1795 f_1796 f_1797 f_1798 f_1799 f_1800 f_1801 f_1802) → va_P (dC, dI) vwCl [(oc3 oR z_1788 z_1789 iR_tapeSize rR_tape iR_end z_1790 z_1791 z_1792 z_1793 z_1794 z_1795 oC iR_courtTold rR_names rR_keys), (arI rR_tape kR_tape 900 fR_tape), (arL rR_names kR_names 18 fR_names), (arL rR_keys kR_keys 10 fR_keys), (oc1 oC iC_nodes iC_words iC_chances iC_unsures iC_slips iC_throneNode iC_saidWorth iC_unit rC_kind rC_parts rC_partNodes rC_weights rC_weightSums rC_toldWorths rC_steps rC_below rC_above rC_unsureWords rC_unsureWorths), (arI rC_kind kC_kind 18 f_1747), (arI rC_parts kC_parts 18 f_1796), (arI rC_partNodes kC_partNodes 72 f_1797), (arI rC_weights kC_weights 72 f_1798), (arI rC_weightSums kC_weightSums 18 f_1799), (arI rC_toldWorths kC_toldWorths 18 f_1750), (arI rC_steps kC_steps 18 f_1800), (arI rC_below kC_below 18 f_1801), (arI rC_above kC_above 18 f_1802)] H → va_D A [(oc3 oR z_1788 z_1789 iR_tapeSize rR_tape iR_end z_1790 z_1791 z_1792 z_1793 z_1794 z_1795 oC iR_courtTold rR_names rR_keys), (arI rR_tape kR_tape 900 fR_tape), (arL rR_names kR_names 18 fR_names), (arL rR_keys kR_keys 10 fR_keys), (oc1 oC iC_nodes iC_words iC_chances iC_unsures iC_slips iC_throneNode iC_saidWorth iC_unit rC_kind rC_parts rC_partNodes rC_weights rC_weightSums rC_toldWorths rC_steps rC_below rC_above rC_unsureWords rC_unsureWorths), (arI rC_kind kC_kind 18 f_1747), (arI rC_parts kC_parts 18 f_1796), (arI rC_partNodes kC_partNodes 72 f_1797), (arI rC_weights kC_weights 72 f_1798), (arI rC_weightSums kC_weightSums 18 f_1799), (arI rC_toldWorths kC_toldWorths 18 f_1750), (arI rC_steps kC_steps 18 f_1800), (arI rC_below kC_below 18 f_1801), (arI rC_above kC_above 18 f_1802)] → va_S A s.heap H locs → lv_has ls 6 [(5, .int z_1786), (4, .int z_1787), (2, .long y_1757), (0, .ref oR), (1, .int p0)] → W p l e (headSpec (Cond.code yX3_readRuler cX3_readRuler 6 (some .boolean) :: wG) ({ frames := 4, cells := 0, slots := 0, locals := 89 })).room s m ([.ref oR, .int p0] : List Value).toArray below meth c H locs 0 0 (MQ below (va_Qi (fun (r : Int32) (u : Nat) => ((r = 0 ∨ r = 1) ∧ True) ∧ r = Int32.ofNat u) (fun (u : Nat) (t : State) => ∃ (niR_faultNumber : Int32) (niR_faultPlace : Int32) (niR_tokenKind : Int32) (niR_tokenFrom : Int32) (niR_tokenTo : Int32) (niR_tokenName : Int64) (niR_tokenKey : Int32) (niR_tokenWhole : Int32) (nfR_names : Nat → Int64) (niC_nodes : Int32) (niC_words : Int32) (niC_chances : Int32) (niC_unit : Int32) (nfC_kind : Nat → Int32) (nfC_parts : Nat → Int32) (nfC_partNodes : Nat → Int32) (nfC_weights : Nat → Int32) (nfC_weightSums : Nat → Int32) (nfC_toldWorths : Nat → Int32) (nfC_steps : Nat → Int32) (nfC_below : Nat → Int32) (nfC_above : Nat → Int32), (0 ≤ niC_nodes.toInt ∧ niC_nodes.toInt ≤ 18) ∧ (∀ j : Nat, j < 18 → 0 ≤ (nfC_parts j).toInt ∧ (nfC_parts j).toInt ≤ 4) ∧ (∀ j : Nat, j < 72 → 0 ≤ (nfC_partNodes j).toInt ∧ (nfC_partNodes j).toInt ≤ 17) ∧ (PX3_readRuler iR_faultNumber iR_faultPlace fR_tape iR_end iR_tokenKind iR_tokenFrom iR_tokenTo iR_tokenName iR_tokenKey iR_tokenWhole fR_names fR_keys iC_nodes iC_words iC_chances iC_unit fC_kind fC_parts fC_partNodes fC_weights fC_weightSums fC_toldWorths fC_steps fC_below fC_above p0 = (Int32.ofNat u, niR_faultNumber, niR_faultPlace, niR_tokenKind, niR_tokenFrom, niR_tokenTo, niR_tokenName, niR_tokenKey, niR_tokenWhole, nfR_names, niC_nodes, niC_words, niC_chances, niC_unit, nfC_kind, nfC_parts, nfC_partNodes, nfC_weights, nfC_weightSums, nfC_toldWorths, nfC_steps, nfC_below, nfC_above)) ∧ Bw dC dI A [(oc3 oR niR_faultNumber niR_faultPlace iR_tapeSize rR_tape iR_end niR_tokenKind niR_tokenFrom niR_tokenTo niR_tokenName niR_tokenKey niR_tokenWhole oC iR_courtTold rR_names rR_keys), (arI rR_tape kR_tape 900 fR_tape), (arL rR_names kR_names 18 nfR_names), (arL rR_keys kR_keys 10 fR_keys), (oc1 oC niC_nodes niC_words niC_chances iC_unsures iC_slips iC_throneNode iC_saidWorth niC_unit rC_kind rC_parts rC_partNodes rC_weights rC_weightSums rC_toldWorths rC_steps rC_below rC_above rC_unsureWords rC_unsureWorths), (arI rC_kind kC_kind 18 nfC_kind), (arI rC_parts kC_parts 18 nfC_parts), (arI rC_partNodes kC_partNodes 72 nfC_partNodes), (arI rC_weights kC_weights 72 nfC_weights), (arI rC_weightSums kC_weightSums 18 nfC_weightSums), (arI rC_toldWorths kC_toldWorths 18 nfC_toldWorths), (arI rC_steps kC_steps 18 nfC_steps), (arI rC_below kC_below 18 nfC_below), (arI rC_above kC_above 18 nfC_above)] [(kR_tape, .byte), (kR_names, .long), (kR_keys, .long), (kC_kind, .int), (kC_parts, .int), (kC_partNodes, .int), (kC_weights, .int), (kC_weightSums, .int), (kC_toldWorths, .int), (kC_steps, .int), (kC_below, .int), (kC_above, .int)] t) A) ([.ref oR, .int p0] : List Value).toArray s 0 0 A) (F0 m 57 ls []) := by
        intro n_1803
        induction n_1803 with
        | zero => intro z_1786 z_1787 z_1788 z_1789 z_1790 z_1791 z_1792 z_1793 z_1794 z_1795 f_1796 f_1797 f_1798 f_1799 f_1800 f_1801 f_1802 H locs ls a_f_1796 a_f_1797 hi0_n_1803 hi1_n_1803 hm; exact absurd hm (Nat.not_lt_zero _)
        | succ n_1803 ih_n_1803 =>
          intro z_1786 z_1787 z_1788 z_1789 z_1790 z_1791 z_1792 z_1793 z_1794 z_1795 f_1796 f_1797 f_1798 f_1799 f_1800 f_1801 f_1802 H locs ls a_f_1796 a_f_1797 hi0_n_1803 hi1_n_1803 hm_n_1803 hG hP hD hS hl
          have hG := hG.trans (HX3_readRuler_0_eq _ _ _ _ _ _ _ _ _ _ _ _ _ _ _ _ _ _ _ _ _ _ _ _ _ _ _ _ _ _)
          refine lv_iload hx hb dX3_readRuler_57 (lv_at hl 0 rfl) ?_
          refine lv_iconst (v := 4) hx hb dX3_readRuler_59 (by decide) ?_
          refine lv_icmp_gt (tgt := 93) hx hb dX3_readRuler_60 (by decide) (fun c_1804 => ?_) (fun c_1804 => ?_)
          · skip
            have hG := hG.trans (if_pos c_1804)
            have gc_1804 := ti_lt c_1804 kc_4 rfl
            refine lv_iload hx hb dX3_readRuler_93 (lv_at hl 1 rfl) ?_
            refine lv_if_eq (tgt := 104) hx hb dX3_readRuler_95 (by decide) (fun c_1805 => ?_) (fun c_1805 => ?_)
            · skip
              have hG := hG.trans (if_pos c_1805)
              have gc_1805 := ti_eq c_1805 rfl kc_0
              refine lv_iload hx hb dX3_readRuler_104 (lv_at hl 1 rfl) ?_
              exact wq_z (v := z_1787) hx hb hr (bz_nar (bz_of (by omega))) (cI z_1787) ⟨⟨(bz_of (by omega)), trivial⟩, (cI_of z_1787)⟩ (fun t ht hW => ⟨z_1788, z_1789, z_1790, z_1791, z_1792, z_1793, z_1794, z_1795, fR_names, iC_nodes, iC_words, iC_chances, iC_unit, f_1747, f_1796, f_1797, f_1798, f_1799, f_1750, f_1800, f_1801, f_1802, b_iC_nodes, a_f_1796, a_f_1797, (cI_tup hG), Bw.to hP hD hK ht hW⟩) hS dX3_readRuler_106 hlocks
            · skip
              have hG := hG.trans (if_neg c_1805)
              have gc_1805 := ti_ne c_1805 rfl kc_0
              refine lv_aload_n hx hb dX3_readRuler_98 rfl (lv_at hl 3 rfl) ?_
              refine lv_lload_n hx hb dX3_readRuler_99 rfl (lv_at hl 2 rfl) ?_
              refine lv_iconst (v := 0) hx hb dX3_readRuler_100 (by decide) ?_
              have hMs := ml_of hD [true, false, true, false, true, true, false, false, false, true, true, false, false, false] (wc := [(oc3 oR z_1788 z_1789 iR_tapeSize rR_tape iR_end z_1790 z_1791 z_1792 z_1793 z_1794 z_1795 oC iR_courtTold rR_names rR_keys), (arL rR_names kR_names 18 fR_names), (oc1 oC iC_nodes iC_words iC_chances iC_unsures iC_slips iC_throneNode iC_saidWorth iC_unit rC_kind rC_parts rC_partNodes rC_weights rC_weightSums rC_toldWorths rC_steps rC_below rC_above rC_unsureWords rC_unsureWorths), (arI rC_kind kC_kind 18 f_1747), (arI rC_weightSums kC_weightSums 18 f_1799), (arI rC_toldWorths kC_toldWorths 18 f_1750)]) rfl
              have hFc := va_freeM hD hS hA _ hMs
              refine va_callv (va_runV (As := [.long y_1757, .int 0]) (rest := []) ⟨hx, hb, hml, hown, hts⟩ (tX3_endNode l dC dI _ oR z_1788 z_1789 iR_tapeSize rR_tape iR_end z_1790 z_1791 z_1792 z_1793 z_1794 z_1795 oC iR_courtTold rR_names fR_names kR_names rR_keys iC_nodes iC_words iC_chances iC_unsures iC_slips iC_throneNode iC_saidWorth iC_unit rC_kind f_1747 kC_kind rC_parts rC_partNodes rC_weights rC_weightSums f_1799 kC_weightSums rC_toldWorths f_1750 kC_toldWorths rC_steps rC_below rC_above rC_unsureWords rC_unsureWorths y_1757 0 b_iR_tapeSize b_iR_courtTold b_iC_nodes b_iC_unsures b_iC_throneNode) (cwV 2 hts (wd_V wd_288 wd_289 wd_290 wd_15 (wd_c wd_291)) rfl rfl rfl dv_yX3_endNode_2 ⟨Nat.le_of_ble_eq_true rfl, Nat.le_of_ble_eq_true rfl⟩) ⟨Pw.fb, recvX3 hK hP (q0 := 0) rfl, fun U hU hW => Pw.to (hP.ms _ hMs) (hD.ms _ hMs) (hK.ms [false, true, false, true, false, false, false, true, true, false, false, false] rfl) hE hS hFc hU hW⟩ rfl rfl hl.1 rfl (lv_room (Nat.le_of_ble_eq_true rfl)) dX3_readRuler_101 ⟨Nat.le_of_ble_eq_true rfl, Nat.le_of_ble_eq_true rfl⟩) hS (fun q _ h => hFc q h) hFc (fun u t H locs ht hvm hw hB hz1 hk1 hS => ?_)
              refine ex_6_2 hB (fun f_1806 x_1807 x_1808 x_1809 x_1810 f_1811 b_x_1807 e_f_1806_0 hB => ?_)
              obtain ⟨hP, hD⟩ := Bw.goN (ws' := [(oc3 oR z_1788 z_1789 iR_tapeSize rR_tape iR_end z_1790 z_1791 z_1792 z_1793 z_1794 z_1795 oC iR_courtTold rR_names rR_keys), (arI rR_tape kR_tape 900 fR_tape), (arL rR_names kR_names 18 f_1806), (arL rR_keys kR_keys 10 fR_keys), (oc1 oC x_1807 x_1808 x_1809 iC_unsures iC_slips iC_throneNode iC_saidWorth x_1810 rC_kind rC_parts rC_partNodes rC_weights rC_weightSums rC_toldWorths rC_steps rC_below rC_above rC_unsureWords rC_unsureWorths), (arI rC_kind kC_kind 18 f_1747), (arI rC_parts kC_parts 18 f_1796), (arI rC_partNodes kC_partNodes 72 f_1797), (arI rC_weights kC_weights 72 f_1798), (arI rC_weightSums kC_weightSums 18 f_1799), (arI rC_toldWorths kC_toldWorths 18 f_1811), (arI rC_steps kC_steps 18 f_1800), (arI rC_below kC_below 18 f_1801), (arI rC_above kC_above 18 f_1802)]) hB rfl ht hP hD _ hMs hk1 hFc rfl
              clear hz1 hk1 hvm ht hB hMs
              have hG := hG.trans (un6_eq e_f_1806_0)
              refine lv_iload hx hb dX3_readRuler_104 (lv_at hl 1 rfl) ?_
              exact wq_z (v := z_1787) hx hb hr (bz_nar (bz_of (by omega))) (cI z_1787) ⟨⟨(bz_of (by omega)), trivial⟩, (cI_of z_1787)⟩ (fun t ht hW => ⟨z_1788, z_1789, z_1790, z_1791, z_1792, z_1793, z_1794, z_1795, f_1806, x_1807, x_1808, x_1809, x_1810, f_1747, f_1796, f_1797, f_1798, f_1799, f_1811, f_1800, f_1801, f_1802, b_x_1807, a_f_1796, a_f_1797, (cI_tup hG), Bw.to hP hD hK ht hW⟩) hS dX3_readRuler_106 hlocks
          · skip
            have hG := hG.trans (if_neg c_1804)
            have gc_1804 := ti_nlt c_1804 kc_4 rfl
            refine lv_iload hx hb dX3_readRuler_63 (lv_at hl 1 rfl) ?_
            refine lv_if_eq (tgt := 93) hx hb dX3_readRuler_65 (by decide) (fun c_1812 => ?_) (fun c_1812 => ?_)
            · skip
              have hG := hG.trans (if_pos c_1812)
              have gc_1812 := ti_eq c_1812 rfl kc_0
              refine lv_iload hx hb dX3_readRuler_93 (lv_at hl 1 rfl) ?_
              refine lv_if_eq (tgt := 104) hx hb dX3_readRuler_95 (by decide) (fun c_1813 => ?_) (fun c_1813 => ?_)
              · skip
                have hG := hG.trans (if_pos c_1813)
                have gc_1813 := ti_eq c_1813 rfl kc_0
                refine lv_iload hx hb dX3_readRuler_104 (lv_at hl 1 rfl) ?_
                exact wq_z (v := z_1787) hx hb hr (bz_nar (bz_of (by omega))) (cI z_1787) ⟨⟨(bz_of (by omega)), trivial⟩, (cI_of z_1787)⟩ (fun t ht hW => ⟨z_1788, z_1789, z_1790, z_1791, z_1792, z_1793, z_1794, z_1795, fR_names, iC_nodes, iC_words, iC_chances, iC_unit, f_1747, f_1796, f_1797, f_1798, f_1799, f_1750, f_1800, f_1801, f_1802, b_iC_nodes, a_f_1796, a_f_1797, (cI_tup hG), Bw.to hP hD hK ht hW⟩) hS dX3_readRuler_106 hlocks
              · skip
                have hG := hG.trans (if_neg c_1813)
                have gc_1813 := ti_ne c_1813 rfl kc_0
                exact (om_3299cc9d gc_1813 gc_1812 hi1_n_1803.1).elim
            · skip
              have hG := hG.trans (if_neg c_1812)
              have gc_1812 := ti_ne c_1812 rfl kc_0
              refine lv_aload_n hx hb dX3_readRuler_68 rfl (lv_at hl 3 rfl) ?_
              refine va_get (D := (dC, dI)) (ci := 3) (v := .int z_1790) (C := RX3) (T := TX3) (N := 15) hx hb hts inX3 hown hK hP 0 rfl rfl 5 (by decide) (hts _ wd_210) (fun _ h9 => h9) rfl dX3_readRuler_69 ?_
              refine lv_iconst (v := 4) hx hb dX3_readRuler_72 (by decide) ?_
              refine lv_icmp_ne (tgt := 93) hx hb dX3_readRuler_73 (by decide) (fun c_1814 => ?_) (fun c_1814 => ?_)
              · skip
                have hG := hG.trans (if_neg c_1814)
                have gc_1814 := ti_ne c_1814 rfl kc_4
                refine lv_iload hx hb dX3_readRuler_93 (lv_at hl 1 rfl) ?_
                refine lv_if_eq (tgt := 104) hx hb dX3_readRuler_95 (by decide) (fun c_1815 => ?_) (fun c_1815 => ?_)
                · skip
                  have hG := hG.trans (if_pos c_1815)
                  have gc_1815 := ti_eq c_1815 rfl kc_0
                  exfalso; clear hG; omega
                · skip
                  have hG := hG.trans (if_neg c_1815)
                  have gc_1815 := ti_ne c_1815 rfl kc_0
                  refine lv_aload_n hx hb dX3_readRuler_98 rfl (lv_at hl 3 rfl) ?_
                  refine lv_lload_n hx hb dX3_readRuler_99 rfl (lv_at hl 2 rfl) ?_
                  refine lv_iconst (v := 0) hx hb dX3_readRuler_100 (by decide) ?_
                  have hMs := ml_of hD [true, false, true, false, true, true, false, false, false, true, true, false, false, false] (wc := [(oc3 oR z_1788 z_1789 iR_tapeSize rR_tape iR_end z_1790 z_1791 z_1792 z_1793 z_1794 z_1795 oC iR_courtTold rR_names rR_keys), (arL rR_names kR_names 18 fR_names), (oc1 oC iC_nodes iC_words iC_chances iC_unsures iC_slips iC_throneNode iC_saidWorth iC_unit rC_kind rC_parts rC_partNodes rC_weights rC_weightSums rC_toldWorths rC_steps rC_below rC_above rC_unsureWords rC_unsureWorths), (arI rC_kind kC_kind 18 f_1747), (arI rC_weightSums kC_weightSums 18 f_1799), (arI rC_toldWorths kC_toldWorths 18 f_1750)]) rfl
                  have hFc := va_freeM hD hS hA _ hMs
                  refine va_callv (va_runV (As := [.long y_1757, .int 0]) (rest := []) ⟨hx, hb, hml, hown, hts⟩ (tX3_endNode l dC dI _ oR z_1788 z_1789 iR_tapeSize rR_tape iR_end z_1790 z_1791 z_1792 z_1793 z_1794 z_1795 oC iR_courtTold rR_names fR_names kR_names rR_keys iC_nodes iC_words iC_chances iC_unsures iC_slips iC_throneNode iC_saidWorth iC_unit rC_kind f_1747 kC_kind rC_parts rC_partNodes rC_weights rC_weightSums f_1799 kC_weightSums rC_toldWorths f_1750 kC_toldWorths rC_steps rC_below rC_above rC_unsureWords rC_unsureWorths y_1757 0 b_iR_tapeSize b_iR_courtTold b_iC_nodes b_iC_unsures b_iC_throneNode) (cwV 2 hts (wd_V wd_288 wd_289 wd_290 wd_15 (wd_c wd_291)) rfl rfl rfl dv_yX3_endNode_2 ⟨Nat.le_of_ble_eq_true rfl, Nat.le_of_ble_eq_true rfl⟩) ⟨Pw.fb, recvX3 hK hP (q0 := 0) rfl, fun U hU hW => Pw.to (hP.ms _ hMs) (hD.ms _ hMs) (hK.ms [false, true, false, true, false, false, false, true, true, false, false, false] rfl) hE hS hFc hU hW⟩ rfl rfl hl.1 rfl (lv_room (Nat.le_of_ble_eq_true rfl)) dX3_readRuler_101 ⟨Nat.le_of_ble_eq_true rfl, Nat.le_of_ble_eq_true rfl⟩) hS (fun q _ h => hFc q h) hFc (fun u t H locs ht hvm hw hB hz1 hk1 hS => ?_)
                  refine ex_6_2 hB (fun f_1816 x_1817 x_1818 x_1819 x_1820 f_1821 b_x_1817 e_f_1816_0 hB => ?_)
                  obtain ⟨hP, hD⟩ := Bw.goN (ws' := [(oc3 oR z_1788 z_1789 iR_tapeSize rR_tape iR_end z_1790 z_1791 z_1792 z_1793 z_1794 z_1795 oC iR_courtTold rR_names rR_keys), (arI rR_tape kR_tape 900 fR_tape), (arL rR_names kR_names 18 f_1816), (arL rR_keys kR_keys 10 fR_keys), (oc1 oC x_1817 x_1818 x_1819 iC_unsures iC_slips iC_throneNode iC_saidWorth x_1820 rC_kind rC_parts rC_partNodes rC_weights rC_weightSums rC_toldWorths rC_steps rC_below rC_above rC_unsureWords rC_unsureWorths), (arI rC_kind kC_kind 18 f_1747), (arI rC_parts kC_parts 18 f_1796), (arI rC_partNodes kC_partNodes 72 f_1797), (arI rC_weights kC_weights 72 f_1798), (arI rC_weightSums kC_weightSums 18 f_1799), (arI rC_toldWorths kC_toldWorths 18 f_1821), (arI rC_steps kC_steps 18 f_1800), (arI rC_below kC_below 18 f_1801), (arI rC_above kC_above 18 f_1802)]) hB rfl ht hP hD _ hMs hk1 hFc rfl
                  clear hz1 hk1 hvm ht hB hMs
                  have hG := hG.trans (un6_eq e_f_1816_0)
                  refine lv_iload hx hb dX3_readRuler_104 (lv_at hl 1 rfl) ?_
                  exact wq_z (v := z_1787) hx hb hr (bz_nar (bz_of (by omega))) (cI z_1787) ⟨⟨(bz_of (by omega)), trivial⟩, (cI_of z_1787)⟩ (fun t ht hW => ⟨z_1788, z_1789, z_1790, z_1791, z_1792, z_1793, z_1794, z_1795, f_1816, x_1817, x_1818, x_1819, x_1820, f_1747, f_1796, f_1797, f_1798, f_1799, f_1821, f_1800, f_1801, f_1802, b_x_1817, a_f_1796, a_f_1797, (cI_tup hG), Bw.to hP hD hK ht hW⟩) hS dX3_readRuler_106 hlocks
              · skip
                have hG := hG.trans (if_pos c_1814)
                have gc_1814 := ti_eq c_1814 rfl kc_4
                refine lv_aload_n hx hb dX3_readRuler_76 rfl (lv_at hl 3 rfl) ?_
                have hMs := ml_of hD [true, true, false, true, false, false, false, false, false, false, false, false, false, false] (wc := [(oc3 oR z_1788 z_1789 iR_tapeSize rR_tape iR_end z_1790 z_1791 z_1792 z_1793 z_1794 z_1795 oC iR_courtTold rR_names rR_keys), (arI rR_tape kR_tape 900 fR_tape), (arL rR_keys kR_keys 10 fR_keys)]) rfl
                have hFc := va_freeM hD hS hA _ hMs
                refine va_callv (va_runV (As := []) (rest := []) ⟨hx, hb, hml, hown, hts⟩ (tX3_nextToken l dC dI _ oR z_1788 z_1789 iR_tapeSize rR_tape fR_tape kR_tape iR_end z_1790 z_1791 z_1792 z_1793 z_1794 z_1795 oC iR_courtTold rR_names rR_keys fR_keys kR_keys b_iR_tapeSize b_iR_courtTold) (cwV 0 hts (wd_V wd_220 wd_221 wd_222 wd_15 (wd_c wd_223)) rfl rfl rfl dv_yX3_nextToken_0 ⟨Nat.le_of_ble_eq_true rfl, Nat.le_of_ble_eq_true rfl⟩) ⟨Pw.fb, recvX3 hK hP (q0 := 0) rfl, fun U hU hW => Pw.to (hP.ms _ hMs) (hD.ms _ hMs) (hK.ms [true, false, true, false, false, false, false, false, false, false, false, false] rfl) hE hS hFc hU hW⟩ rfl rfl hl.1 rfl (lv_room (Nat.le_of_ble_eq_true rfl)) dX3_readRuler_77 ⟨Nat.le_of_ble_eq_true rfl, Nat.le_of_ble_eq_true rfl⟩) hS (fun q _ h => hFc q h) hFc (fun u t H locs ht hvm hw hB hz1 hk1 hS => ?_)
                refine ex_6_1 hB (fun x_1822 x_1823 x_1824 y_1825 x_1826 x_1827 e_x_1822_0 hB => ?_)
                obtain ⟨hP, hD⟩ := Bw.goN (ws' := [(oc3 oR z_1788 z_1789 iR_tapeSize rR_tape iR_end x_1822 x_1823 x_1824 y_1825 x_1826 x_1827 oC iR_courtTold rR_names rR_keys), (arI rR_tape kR_tape 900 fR_tape), (arL rR_names kR_names 18 fR_names), (arL rR_keys kR_keys 10 fR_keys), (oc1 oC iC_nodes iC_words iC_chances iC_unsures iC_slips iC_throneNode iC_saidWorth iC_unit rC_kind rC_parts rC_partNodes rC_weights rC_weightSums rC_toldWorths rC_steps rC_below rC_above rC_unsureWords rC_unsureWorths), (arI rC_kind kC_kind 18 f_1747), (arI rC_parts kC_parts 18 f_1796), (arI rC_partNodes kC_partNodes 72 f_1797), (arI rC_weights kC_weights 72 f_1798), (arI rC_weightSums kC_weightSums 18 f_1799), (arI rC_toldWorths kC_toldWorths 18 f_1750), (arI rC_steps kC_steps 18 f_1800), (arI rC_below kC_below 18 f_1801), (arI rC_above kC_above 18 f_1802)]) hB rfl ht hP hD _ hMs hk1 hFc rfl
                clear hz1 hk1 hvm ht hB hMs
                have hG := hG.trans (un6_eq e_x_1822_0)
                refine lv_aload_n hx hb dX3_readRuler_80 rfl (lv_at hl 3 rfl) ?_
                refine lv_iload_n hx hb dX3_readRuler_81 rfl (lv_at hl 4 rfl) ?_
                have hMs := ml_of hD [true, true, true, true, true, false, true, true, true, true, false, true, true, true] (wc := [(oc3 oR z_1788 z_1789 iR_tapeSize rR_tape iR_end x_1822 x_1823 x_1824 y_1825 x_1826 x_1827 oC iR_courtTold rR_names rR_keys), (arI rR_tape kR_tape 900 fR_tape), (arL rR_names kR_names 18 fR_names), (arL rR_keys kR_keys 10 fR_keys), (oc1 oC iC_nodes iC_words iC_chances iC_unsures iC_slips iC_throneNode iC_saidWorth iC_unit rC_kind rC_parts rC_partNodes rC_weights rC_weightSums rC_toldWorths rC_steps rC_below rC_above rC_unsureWords rC_unsureWorths), (arI rC_parts kC_parts 18 f_1796), (arI rC_partNodes kC_partNodes 72 f_1797), (arI rC_weights kC_weights 72 f_1798), (arI rC_weightSums kC_weightSums 18 f_1799), (arI rC_steps kC_steps 18 f_1800), (arI rC_below kC_below 18 f_1801), (arI rC_above kC_above 18 f_1802)]) rfl
                have hFc := va_freeM hD hS hA _ hMs
                refine va_calli (va_runV (As := [.int p0]) (rest := []) ⟨hx, hb, hml, hown, hts⟩ (tX3_readPart l dC dI _ oR z_1788 z_1789 iR_tapeSize rR_tape fR_tape kR_tape iR_end x_1822 x_1823 x_1824 y_1825 x_1826 x_1827 oC iR_courtTold rR_names fR_names kR_names rR_keys fR_keys kR_keys iC_nodes iC_words iC_chances iC_unsures iC_slips iC_throneNode iC_saidWorth iC_unit rC_kind rC_parts f_1796 kC_parts rC_partNodes f_1797 kC_partNodes rC_weights f_1798 kC_weights rC_weightSums f_1799 kC_weightSums rC_toldWorths rC_steps f_1800 kC_steps rC_below f_1801 kC_below rC_above f_1802 kC_above rC_unsureWords rC_unsureWorths p0 b_iR_tapeSize b_iR_courtTold b_iC_nodes b_iC_unsures b_iC_throneNode a_f_1796 a_f_1797) (cwV 1 hts (wd_V wd_300 wd_301 wd_302 wd_15 (wd_c wd_303)) rfl rfl rfl dv_yX3_readPart_1 ⟨Nat.le_of_ble_eq_true rfl, Nat.le_of_ble_eq_true rfl⟩) ⟨Pw.fb, recvX3 hK hP (q0 := 0) rfl, fun U hU hW => Pw.to (hP.ms _ hMs) (hD.ms _ hMs) (hK.ms [true, true, true, false, true, true, true, true, false, true, true, true] rfl) hE hS hFc hU hW⟩ rfl rfl hl.1 rfl (lv_room (Nat.le_of_ble_eq_true rfl)) dX3_readRuler_82 ⟨Nat.le_of_ble_eq_true rfl, Nat.le_of_ble_eq_true rfl⟩) hS (fun q _ h => hFc q h) hFc (fun r u t H locs ht hvm hw hB hz1 hk1 hS => ?_)
                have hru9 := hw.2
                have hw := hw.1
                refine ex_15_3 hB (fun x_1828 x_1829 x_1830 x_1831 x_1832 y_1833 x_1834 x_1835 f_1836 f_1837 f_1838 f_1839 f_1840 f_1841 f_1842 a_f_1836 a_f_1837 e_x_1828_0 hB => ?_)
                obtain ⟨hP, hD⟩ := Bw.goN (ws' := [(oc3 oR x_1828 x_1829 iR_tapeSize rR_tape iR_end x_1830 x_1831 x_1832 y_1833 x_1834 x_1835 oC iR_courtTold rR_names rR_keys), (arI rR_tape kR_tape 900 fR_tape), (arL rR_names kR_names 18 fR_names), (arL rR_keys kR_keys 10 fR_keys), (oc1 oC iC_nodes iC_words iC_chances iC_unsures iC_slips iC_throneNode iC_saidWorth iC_unit rC_kind rC_parts rC_partNodes rC_weights rC_weightSums rC_toldWorths rC_steps rC_below rC_above rC_unsureWords rC_unsureWorths), (arI rC_kind kC_kind 18 f_1747), (arI rC_parts kC_parts 18 f_1836), (arI rC_partNodes kC_partNodes 72 f_1837), (arI rC_weights kC_weights 72 f_1838), (arI rC_weightSums kC_weightSums 18 f_1839), (arI rC_toldWorths kC_toldWorths 18 f_1750), (arI rC_steps kC_steps 18 f_1840), (arI rC_below kC_below 18 f_1841), (arI rC_above kC_above 18 f_1842)]) hB rfl ht hP hD _ hMs hk1 hFc rfl
                clear hz1 hk1 hvm ht hB hMs
                rw [← hru9] at e_x_1828_0
                obtain ⟨x_1843, rfl⟩ : ∃ z, z = r := ⟨_, rfl⟩
                have hG := hG.trans (un16_eq e_x_1828_0)
                have bx_1843 := hw.1
                have dx_1843 := bz_tb bx_1843
                refine lv_istore (lv' := [(4, .int x_1843), (5, .int z_1786), (2, .long y_1757), (0, .ref oR), (1, .int p0)]) hx hb dX3_readRuler_85 hl (by decide) rfl (fun ls hl => ?_)
                obtain ⟨x_1844, ex_1844⟩ : ∃ z : Int32, z = z_1786 + Int32.ofInt 1 := ⟨_, rfl⟩
                have hG := hG.trans (lt_eq ex_1844)
                have vx_1844 : x_1844.toInt = z_1786.toInt + 1 := ti_add (y := 1) ex_1844 rfl kc_1 (om_4e4fce7e hi0_n_1803.1) (om_434bffb5 hi0_n_1803.2)
                refine lv_iinc (v := x_1844) (lv' := [(5, .int x_1844), (4, .int x_1843), (2, .long y_1757), (0, .ref oR), (1, .int p0)]) hx hb dX3_readRuler_87 hl (k := 1) rfl ex_1844.symm (by decide) rfl (fun ls hl => ?_)
                refine lv_goto (tgt := 57) hx hb dX3_readRuler_90 (by decide) ?_
                exact ih_n_1803 x_1844 x_1843 x_1828 x_1829 x_1830 x_1831 x_1832 y_1833 x_1834 x_1835 f_1836 f_1837 f_1838 f_1839 f_1840 f_1841 f_1842 _ _ _ a_f_1836 a_f_1837 ⟨(om_83b90de5 hi0_n_1803.1 vx_1844), (om_e30c89be gc_1804 vx_1844)⟩ ⟨dx_1843.1, dx_1843.2⟩ (ms_lt hm_n_1803 (om_a7399cb8 vx_1844) (om_cb3828ca gc_1804)) hG hP hD hS (lv_sub hl [0, 1, 2, 3, 4] rfl)
      exact key_n_1803 (((5 - (0 : Int32).toInt).toNat) + 1) 0 x_1785 x_1770 x_1771 x_1772 x_1773 x_1774 y_1775 x_1776 x_1777 f_1778 f_1779 f_1780 f_1781 f_1782 f_1783 f_1784 _ _ _ a_f_1778 a_f_1779 ⟨(om_b1de7dbe kc_0), (om_e0faef24 kc_0)⟩ ⟨dx_1785.1, dx_1785.2⟩ (Nat.lt_add_one _) hG hP hD hS hl
    · skip
      have hG := hG.trans (if_pos c_1763)
      have gc_1763 := ti_eq c_1763 rfl kc_0
      refine lv_iconst (v := 0) hx hb dX3_readRuler_36 (by decide) ?_
      exact wq_z (v := 0) hx hb hr rfl (cI 0) ⟨⟨Or.inl rfl, trivial⟩, (cI_of 0)⟩ (fun t ht hW => ⟨x_1760, x_1761, x_1754, x_1755, x_1756, y_1757, x_1758, x_1759, fR_names, iC_nodes, iC_words, iC_chances, iC_unit, f_1747, f_1748, fC_partNodes, fC_weights, f_1749, f_1750, f_1751, f_1752, f_1753, b_iC_nodes, a_f_1748, a_fC_partNodes, (cI_tup hG), Bw.to hP hD hK ht hW⟩) hS dX3_readRuler_37 hlocks
  · skip
    have hG := hG.trans (lt_eq hru9.symm)
    have hG := hG.trans (if_neg (by decide))
    refine lv_if_ne (tgt := 17) hx hb dX3_readRuler_8 (by decide) (fun c => absurd c (by decide)) (fun _ => ?_)
    refine lv_aload_n hx hb dX3_readRuler_11 rfl (lv_at hl 0 rfl) ?_
    refine lv_iconst (v := 5) hx hb dX3_readRuler_12 (by decide) ?_
    have hMs := ml_of hD [true, false, false, false, false, false, false, false, false, false, false, false, false, false] (wc := [(oc3 oR iR_faultNumber iR_faultPlace iR_tapeSize rR_tape iR_end iR_tokenKind iR_tokenFrom iR_tokenTo iR_tokenName iR_tokenKey iR_tokenWhole oC iR_courtTold rR_names rR_keys)]) rfl
    have hFc := va_freeM hD hS hA _ hMs
    refine va_calli (va_runV (As := [.int 5]) (rest := []) ⟨hx, hb, hml, hown, hts⟩ (tX3_faulty l dC dI _ oR iR_faultNumber iR_faultPlace iR_tapeSize rR_tape iR_end iR_tokenKind iR_tokenFrom iR_tokenTo iR_tokenName iR_tokenKey iR_tokenWhole oC iR_courtTold rR_names rR_keys 5 b_iR_tapeSize b_iR_courtTold) (cwV 1 hts (wd_V wd_254 wd_255 wd_256 wd_15 (wd_c wd_257)) rfl rfl rfl dv_yX3_faulty_1 ⟨Nat.le_of_ble_eq_true rfl, Nat.le_of_ble_eq_true rfl⟩) ⟨Pw.fb, recvX3 hK hP (q0 := 0) rfl, fun U hU hW => Pw.to (hP.ms _ hMs) (hD.ms _ hMs) (hK.ms [false, false, false, false, false, false, false, false, false, false, false, false] rfl) hE hS hFc hU hW⟩ rfl rfl hl.1 rfl (lv_room (Nat.le_of_ble_eq_true rfl)) dX3_readRuler_13 ⟨Nat.le_of_ble_eq_true rfl, Nat.le_of_ble_eq_true rfl⟩) hS (fun q _ h => hFc q h) hFc (fun r u t H locs ht hvm hw hB hz1 hk1 hS => ?_)
    have hru9 := hw.2
    have hw := hw.1
    refine ex_2_1 hB (fun x_1846 x_1847 e_x_1846_0 hB => ?_)
    obtain ⟨hP, hD⟩ := Bw.goN (ws' := [(oc3 oR x_1846 x_1847 iR_tapeSize rR_tape iR_end iR_tokenKind iR_tokenFrom iR_tokenTo iR_tokenName iR_tokenKey iR_tokenWhole oC iR_courtTold rR_names rR_keys), (arI rR_tape kR_tape 900 fR_tape), (arL rR_names kR_names 18 fR_names), (arL rR_keys kR_keys 10 fR_keys), (oc1 oC iC_nodes iC_words iC_chances iC_unsures iC_slips iC_throneNode iC_saidWorth iC_unit rC_kind rC_parts rC_partNodes rC_weights rC_weightSums rC_toldWorths rC_steps rC_below rC_above rC_unsureWords rC_unsureWorths), (arI rC_kind kC_kind 18 fC_kind), (arI rC_parts kC_parts 18 fC_parts), (arI rC_partNodes kC_partNodes 72 fC_partNodes), (arI rC_weights kC_weights 72 fC_weights), (arI rC_weightSums kC_weightSums 18 fC_weightSums), (arI rC_toldWorths kC_toldWorths 18 fC_toldWorths), (arI rC_steps kC_steps 18 fC_steps), (arI rC_below kC_below 18 fC_below), (arI rC_above kC_above 18 fC_above)]) hB rfl ht hP hD _ hMs hk1 hFc rfl
    clear hz1 hk1 hvm ht hB hMs
    rw [← hru9] at e_x_1846_0
    rcases hw.2 with ⟨rfl, hc_1848⟩
    · skip
      have hG := hG.trans (un3_eq e_x_1846_0)
      exact wq_z (v := 0) hx hb hr rfl (cI 0) ⟨⟨Or.inl rfl, trivial⟩, (cI_of 0)⟩ (fun t ht hW => ⟨x_1846, x_1847, iR_tokenKind, iR_tokenFrom, iR_tokenTo, iR_tokenName, iR_tokenKey, iR_tokenWhole, fR_names, iC_nodes, iC_words, iC_chances, iC_unit, fC_kind, fC_parts, fC_partNodes, fC_weights, fC_weightSums, fC_toldWorths, fC_steps, fC_below, fC_above, b_iC_nodes, a_fC_parts, a_fC_partNodes, (cI_tup hG), Bw.to hP hD hK ht hW⟩) hS dX3_readRuler_16 hlocks
set_option maxHeartbeats 4000000 in
set_option maxRecDepth 100000 in
theorem tX3_readWord (l : Launch) (dC : Nat → ClassId) (dI : Nat → Nat → Nat) (sz : Nat) (oR : Nat) (iR_faultNumber : Int32) (iR_faultPlace : Int32) (iR_tapeSize : Int32) (rR_tape : Nat) (fR_tape : Nat → Int32) (kR_tape : ClassId) (iR_end : Int32) (iR_tokenKind : Int32) (iR_tokenFrom : Int32) (iR_tokenTo : Int32) (iR_tokenName : Int64) (iR_tokenKey : Int32) (iR_tokenWhole : Int32) (oC : Nat) (iR_courtTold : Int32) (rR_names : Nat) (fR_names : Nat → Int64) (kR_names : ClassId) (rR_keys : Nat) (fR_keys : Nat → Int64) (kR_keys : ClassId) (iC_nodes : Int32) (iC_words : Int32) (iC_chances : Int32) (iC_unsures : Int32) (iC_slips : Int32) (iC_throneNode : Int32) (iC_saidWorth : Int32) (iC_unit : Int32) (rC_kind : Nat) (fC_kind : Nat → Int32) (kC_kind : ClassId) (rC_parts : Nat) (fC_parts : Nat → Int32) (kC_parts : ClassId) (rC_partNodes : Nat) (rC_weights : Nat) (rC_weightSums : Nat) (fC_weightSums : Nat → Int32) (kC_weightSums : ClassId) (rC_toldWorths : Nat) (fC_toldWorths : Nat → Int32) (kC_toldWorths : ClassId) (rC_steps : Nat) (fC_steps : Nat → Int32) (kC_steps : ClassId) (rC_below : Nat) (fC_below : Nat → Int32) (kC_below : ClassId) (rC_above : Nat) (fC_above : Nat → Int32) (kC_above : ClassId) (rC_unsureWords : Nat) (rC_unsureWorths : Nat) (b_iR_tapeSize : 0 ≤ iR_tapeSize.toInt ∧ iR_tapeSize.toInt ≤ 900) (b_iR_courtTold : 0 ≤ iR_courtTold.toInt ∧ iR_courtTold.toInt ≤ 1) (b_iC_nodes : 0 ≤ iC_nodes.toInt ∧ iC_nodes.toInt ≤ 18) (b_iC_unsures : 0 ≤ iC_unsures.toInt ∧ iC_unsures.toInt ≤ 4) (b_iC_throneNode : (-1) ≤ iC_throneNode.toInt ∧ iC_throneNode.toInt ≤ 17) (a_fC_parts : ∀ j : Nat, j < 18 → 0 ≤ (fC_parts j).toInt ∧ (fC_parts j).toInt ≤ 4)  : Met l yX3_readWord (Cond.code yX3_readWord cX3_readWord 3 (some .boolean) :: wG) ({ frames := 3, cells := 0, slots := 0, locals := 66 }) (va_Pc [.ref oR] (Pw dC dI sz [(oc3 oR iR_faultNumber iR_faultPlace iR_tapeSize rR_tape iR_end iR_tokenKind iR_tokenFrom iR_tokenTo iR_tokenName iR_tokenKey iR_tokenWhole oC iR_courtTold rR_names rR_keys), (arI rR_tape kR_tape 900 fR_tape), (arL rR_names kR_names 18 fR_names), (arL rR_keys kR_keys 10 fR_keys), (oc1 oC iC_nodes iC_words iC_chances iC_unsures iC_slips iC_throneNode iC_saidWorth iC_unit rC_kind rC_parts rC_partNodes rC_weights rC_weightSums rC_toldWorths rC_steps rC_below rC_above rC_unsureWords rC_unsureWorths), (arI rC_kind kC_kind 18 fC_kind), (arI rC_parts kC_parts 18 fC_parts), (arI rC_weightSums kC_weightSums 18 fC_weightSums), (arI rC_toldWorths kC_toldWorths 18 fC_toldWorths), (arI rC_steps kC_steps 18 fC_steps), (arI rC_below kC_below 18 fC_below), (arI rC_above kC_above 18 fC_above)] [(kR_tape, .byte), (kR_names, .long), (kR_keys, .long), (kC_kind, .int), (kC_parts, .int), (kC_weightSums, .int), (kC_toldWorths, .int), (kC_steps, .int), (kC_below, .int), (kC_above, .int)])) (va_Qi (fun (r : Int32) (u : Nat) => ((r = 0 ∨ r = 1) ∧ True) ∧ r = Int32.ofNat u) (fun (u : Nat) (t : State) => ∃ (niR_faultNumber : Int32) (niR_faultPlace : Int32) (niR_tokenKind : Int32) (niR_tokenFrom : Int32) (niR_tokenTo : Int32) (niR_tokenName : Int64) (niR_tokenKey : Int32) (niR_tokenWhole : Int32) (nfR_names : Nat → Int64) (niC_nodes : Int32) (niC_words : Int32) (niC_chances : Int32) (niC_unit : Int32) (nfC_kind : Nat → Int32) (nfC_parts : Nat → Int32) (nfC_weightSums : Nat → Int32) (nfC_toldWorths : Nat → Int32) (nfC_steps : Nat → Int32) (nfC_below : Nat → Int32) (nfC_above : Nat → Int32), (0 ≤ niC_nodes.toInt ∧ niC_nodes.toInt ≤ 18) ∧ (∀ j : Nat, j < 18 → 0 ≤ (nfC_parts j).toInt ∧ (nfC_parts j).toInt ≤ 4) ∧ (PX3_readWord iR_faultNumber iR_faultPlace fR_tape iR_end iR_tokenKind iR_tokenFrom iR_tokenTo iR_tokenName iR_tokenKey iR_tokenWhole fR_names fR_keys iC_nodes iC_words iC_chances iC_unit fC_kind fC_parts fC_weightSums fC_toldWorths fC_steps fC_below fC_above = (Int32.ofNat u, niR_faultNumber, niR_faultPlace, niR_tokenKind, niR_tokenFrom, niR_tokenTo, niR_tokenName, niR_tokenKey, niR_tokenWhole, nfR_names, niC_nodes, niC_words, niC_chances, niC_unit, nfC_kind, nfC_parts, nfC_weightSums, nfC_toldWorths, nfC_steps, nfC_below, nfC_above)) ∧ Bw dC dI (va_A [(oc3 oR iR_faultNumber iR_faultPlace iR_tapeSize rR_tape iR_end iR_tokenKind iR_tokenFrom iR_tokenTo iR_tokenName iR_tokenKey iR_tokenWhole oC iR_courtTold rR_names rR_keys), (arI rR_tape kR_tape 900 fR_tape), (arL rR_names kR_names 18 fR_names), (arL rR_keys kR_keys 10 fR_keys), (oc1 oC iC_nodes iC_words iC_chances iC_unsures iC_slips iC_throneNode iC_saidWorth iC_unit rC_kind rC_parts rC_partNodes rC_weights rC_weightSums rC_toldWorths rC_steps rC_below rC_above rC_unsureWords rC_unsureWorths), (arI rC_kind kC_kind 18 fC_kind), (arI rC_parts kC_parts 18 fC_parts), (arI rC_weightSums kC_weightSums 18 fC_weightSums), (arI rC_toldWorths kC_toldWorths 18 fC_toldWorths), (arI rC_steps kC_steps 18 fC_steps), (arI rC_below kC_below 18 fC_below), (arI rC_above kC_above 18 fC_above)] sz) [(oc3 oR niR_faultNumber niR_faultPlace iR_tapeSize rR_tape iR_end niR_tokenKind niR_tokenFrom niR_tokenTo niR_tokenName niR_tokenKey niR_tokenWhole oC iR_courtTold rR_names rR_keys), (arI rR_tape kR_tape 900 fR_tape), (arL rR_names kR_names 18 nfR_names), (arL rR_keys kR_keys 10 fR_keys), (oc1 oC niC_nodes niC_words niC_chances iC_unsures iC_slips iC_throneNode iC_saidWorth niC_unit rC_kind rC_parts rC_partNodes rC_weights rC_weightSums rC_toldWorths rC_steps rC_below rC_above rC_unsureWords rC_unsureWorths), (arI rC_kind kC_kind 18 nfC_kind), (arI rC_parts kC_parts 18 nfC_parts), (arI rC_weightSums kC_weightSums 18 nfC_weightSums), (arI rC_toldWorths kC_toldWorths 18 nfC_toldWorths), (arI rC_steps kC_steps 18 nfC_steps), (arI rC_below kC_below 18 nfC_below), (arI rC_above kC_above 18 nfC_above)] [(kR_tape, .byte), (kR_names, .long), (kR_keys, .long), (kC_kind, .int), (kC_parts, .int), (kC_weightSums, .int), (kC_toldWorths, .int), (kC_steps, .int), (kC_below, .int), (kC_above, .int)] t) (va_A [(oc3 oR iR_faultNumber iR_faultPlace iR_tapeSize rR_tape iR_end iR_tokenKind iR_tokenFrom iR_tokenTo iR_tokenName iR_tokenKey iR_tokenWhole oC iR_courtTold rR_names rR_keys), (arI rR_tape kR_tape 900 fR_tape), (arL rR_names kR_names 18 fR_names), (arL rR_keys kR_keys 10 fR_keys), (oc1 oC iC_nodes iC_words iC_chances iC_unsures iC_slips iC_throneNode iC_saidWorth iC_unit rC_kind rC_parts rC_partNodes rC_weights rC_weightSums rC_toldWorths rC_steps rC_below rC_above rC_unsureWords rC_unsureWorths), (arI rC_kind kC_kind 18 fC_kind), (arI rC_parts kC_parts 18 fC_parts), (arI rC_weightSums kC_weightSums 18 fC_weightSums), (arI rC_toldWorths kC_toldWorths 18 fC_toldWorths), (arI rC_steps kC_steps 18 fC_steps), (arI rC_below kC_below 18 fC_below), (arI rC_above kC_above 18 fC_above)] sz)) 0 0 (va_A [(oc3 oR iR_faultNumber iR_faultPlace iR_tapeSize rR_tape iR_end iR_tokenKind iR_tokenFrom iR_tokenTo iR_tokenName iR_tokenKey iR_tokenWhole oC iR_courtTold rR_names rR_keys), (arI rR_tape kR_tape 900 fR_tape), (arL rR_names kR_names 18 fR_names), (arL rR_keys kR_keys 10 fR_keys), (oc1 oC iC_nodes iC_words iC_chances iC_unsures iC_slips iC_throneNode iC_saidWorth iC_unit rC_kind rC_parts rC_partNodes rC_weights rC_weightSums rC_toldWorths rC_steps rC_below rC_above rC_unsureWords rC_unsureWorths), (arI rC_kind kC_kind 18 fC_kind), (arI rC_parts kC_parts 18 fC_parts), (arI rC_weightSums kC_weightSums 18 fC_weightSums), (arI rC_toldWorths kC_toldWorths 18 fC_toldWorths), (arI rC_steps kC_steps 18 fC_steps), (arI rC_below kC_below 18 fC_below), (arI rC_above kC_above 18 fC_above)] sz) := by
  refine Met.ofW (cc := cX3_readWord) (maxL := 3) (ret := (some .boolean)) pnX3 rfl ?_
  intro p e s m args below meth c s₁ B hml hv
  obtain ⟨rfl, hsz, hP, hK, hD0, hE⟩ := hv
  have hx := B.exec
  have hb := B.bytes
  have hr := B.returns
  have hts : ∀ w ∈ wG, w.before ([.ref oR] : List Value).toArray s = true := fun w h => atoms_spec (ws := Cond.code yX3_readWord cX3_readWord 3 (some .boolean) :: wG) B.pre w (List.mem_cons_of_mem _ h)
  have hown : s.vm.findClass RX3 = some m.cls := own_of B.named rfl
  have hlocks := B.notSynchronized
  subst hsz
  have hD := hD0.self (sz := s.heap.size)
  generalize hAe : va_A [(oc3 oR iR_faultNumber iR_faultPlace iR_tapeSize rR_tape iR_end iR_tokenKind iR_tokenFrom iR_tokenTo iR_tokenName iR_tokenKey iR_tokenWhole oC iR_courtTold rR_names rR_keys), (arI rR_tape kR_tape 900 fR_tape), (arL rR_names kR_names 18 fR_names), (arL rR_keys kR_keys 10 fR_keys), (oc1 oC iC_nodes iC_words iC_chances iC_unsures iC_slips iC_throneNode iC_saidWorth iC_unit rC_kind rC_parts rC_partNodes rC_weights rC_weightSums rC_toldWorths rC_steps rC_below rC_above rC_unsureWords rC_unsureWorths), (arI rC_kind kC_kind 18 fC_kind), (arI rC_parts kC_parts 18 fC_parts), (arI rC_weightSums kC_weightSums 18 fC_weightSums), (arI rC_toldWorths kC_toldWorths 18 fC_toldWorths), (arI rC_steps kC_steps 18 fC_steps), (arI rC_below kC_below 18 fC_below), (arI rC_above kC_above 18 fC_above)] s.heap.size = A at hD hE ⊢
  have hA : ∀ q : Nat, s.heap.size ≤ q → A q := fun q h => by rw [← hAe]; exact Or.inr h
  have hS : va_S A s.heap s.heap [] := va_S.rf
  have hl := lv_entry ([.ref oR]) (n := 3) (Nat.le_of_ble_eq_true rfl)
  rw [lg_entry_eq]
  generalize (lg_sl ([.ref oR]) ++ List.replicate (3 - (lg_sl ([.ref oR])).length) Slot.unset).toArray = ls at hl ⊢
  have hl : lv_has ls 3 [(0, .ref oR)] := hl
  have hG := PX3_readWord_eq iR_faultNumber iR_faultPlace fR_tape iR_end iR_tokenKind iR_tokenFrom iR_tokenTo iR_tokenName iR_tokenKey iR_tokenWhole fR_names fR_keys iC_nodes iC_words iC_chances iC_unit fC_kind fC_parts fC_weightSums fC_toldWorths fC_steps fC_below fC_above
  refine lv_aload_n hx hb dX3_readWord_0 rfl (lv_at hl 0 rfl) ?_
  refine va_get (D := (dC, dI)) (ci := 3) (v := .ref oC) (C := RX3) (T := TX3) (N := 15) hx hb hts inX3 hown hK hP 0 rfl rfl 11 (by decide) (hts _ wd_46) (fun _ h9 => h9) rfl dX3_readWord_1 ?_
  refine lv_iconst (v := 0) hx hb dX3_readWord_4 (by decide) ?_
  have hMs := ml_of hD [false, false, false, false, true, false, false, false, false, false, false, false] (wc := [(oc1 oC iC_nodes iC_words iC_chances iC_unsures iC_slips iC_throneNode iC_saidWorth iC_unit rC_kind rC_parts rC_partNodes rC_weights rC_weightSums rC_toldWorths rC_steps rC_below rC_above rC_unsureWords rC_unsureWorths)]) rfl
  have hFc := va_freeM hD hS hA _ hMs
  refine va_calli (va_runV (As := [.int 0]) (rest := []) ⟨hx, hb, hml, hown, hts⟩ (tX1_hasRoomFor l dC dI _ oC iC_nodes iC_words iC_chances iC_unsures iC_slips iC_throneNode iC_saidWorth iC_unit rC_kind rC_parts rC_partNodes rC_weights rC_weightSums rC_toldWorths rC_steps rC_below rC_above rC_unsureWords rC_unsureWorths 0 b_iC_nodes b_iC_unsures b_iC_throneNode) (cwV 1 hts (wd_V wd_271 wd_272 wd_273 wd_19 (wd_c wd_274)) rfl rfl rfl dv_yX1_hasRoomFor_1 ⟨Nat.le_of_ble_eq_true rfl, Nat.le_of_ble_eq_true rfl⟩) ⟨Pw.fb, recvX1 hK hP (q0 := 4) rfl, fun U hU hW => Pw.to (hP.ms _ hMs) (hD.ms _ hMs) (hK.ms [false, false, false, false, false, false, false, false, false, false] rfl) hE hS hFc hU hW⟩ rfl rfl hl.1 rfl (lv_room (Nat.le_of_ble_eq_true rfl)) dX3_readWord_5 ⟨Nat.le_of_ble_eq_true rfl, Nat.le_of_ble_eq_true rfl⟩) hS (fun q _ h => hFc q h) hFc (fun r u t H locs ht hvm hw hB hz1 hk1 hS => ?_)
  have hru9 := hw.2
  have hw := hw.1
  obtain ⟨hP, hD⟩ := Bw.goN (ws' := [(oc3 oR iR_faultNumber iR_faultPlace iR_tapeSize rR_tape iR_end iR_tokenKind iR_tokenFrom iR_tokenTo iR_tokenName iR_tokenKey iR_tokenWhole oC iR_courtTold rR_names rR_keys), (arI rR_tape kR_tape 900 fR_tape), (arL rR_names kR_names 18 fR_names), (arL rR_keys kR_keys 10 fR_keys), (oc1 oC iC_nodes iC_words iC_chances iC_unsures iC_slips iC_throneNode iC_saidWorth iC_unit rC_kind rC_parts rC_partNodes rC_weights rC_weightSums rC_toldWorths rC_steps rC_below rC_above rC_unsureWords rC_unsureWorths), (arI rC_kind kC_kind 18 fC_kind), (arI rC_parts kC_parts 18 fC_parts), (arI rC_weightSums kC_weightSums 18 fC_weightSums), (arI rC_toldWorths kC_toldWorths 18 fC_toldWorths), (arI rC_steps kC_steps 18 fC_steps), (arI rC_below kC_below 18 fC_below), (arI rC_above kC_above 18 fC_above)]) hB rfl ht hP hD _ hMs hk1 hFc rfl
  clear hz1 hk1 hvm ht hB hMs
  rcases hw.2 with ⟨rfl, hc_1905⟩ | ⟨rfl, hc_1905⟩
  · skip
    have hG := hG.trans (lt_eq hru9.symm)
    have hG := hG.trans (if_pos rfl)
    refine lv_if_ne (tgt := 17) hx hb dX3_readWord_8 (by decide) (fun _ => ?_) (fun c => absurd c (by decide))
    refine lv_aload_n hx hb dX3_readWord_17 rfl (lv_at hl 0 rfl) ?_
    refine va_get (D := (dC, dI)) (ci := 3) (v := .ref oC) (C := RX3) (T := TX3) (N := 15) hx hb hts inX3 hown hK hP 0 rfl rfl 11 (by decide) (hts _ wd_46) (fun _ h9 => h9) rfl dX3_readWord_18 ?_
    refine lv_iconst (v := 0) hx hb dX3_readWord_21 (by decide) ?_
    have hMs := ml_of hD [false, false, false, false, true, true, true, true, true, true, true, true] (wc := [(oc1 oC iC_nodes iC_words iC_chances iC_unsures iC_slips iC_throneNode iC_saidWorth iC_unit rC_kind rC_parts rC_partNodes rC_weights rC_weightSums rC_toldWorths rC_steps rC_below rC_above rC_unsureWords rC_unsureWorths), (arI rC_kind kC_kind 18 fC_kind), (arI rC_parts kC_parts 18 fC_parts), (arI rC_weightSums kC_weightSums 18 fC_weightSums), (arI rC_toldWorths kC_toldWorths 18 fC_toldWorths), (arI rC_steps kC_steps 18 fC_steps), (arI rC_below kC_below 18 fC_below), (arI rC_above kC_above 18 fC_above)]) rfl
    have hFc := va_freeM hD hS hA _ hMs
    refine va_callv (va_runV (As := [.int 0]) (rest := []) ⟨hx, hb, hml, hown, hts⟩ (tX1_beginNode l dC dI _ oC iC_nodes iC_words iC_chances iC_unsures iC_slips iC_throneNode iC_saidWorth iC_unit rC_kind fC_kind kC_kind rC_parts fC_parts kC_parts rC_partNodes rC_weights rC_weightSums fC_weightSums kC_weightSums rC_toldWorths fC_toldWorths kC_toldWorths rC_steps fC_steps kC_steps rC_below fC_below kC_below rC_above fC_above kC_above rC_unsureWords rC_unsureWorths 0 b_iC_nodes b_iC_unsures b_iC_throneNode a_fC_parts) (cwV 1 hts (wd_V wd_275 wd_276 wd_277 wd_19 (wd_c wd_278)) rfl rfl rfl dv_yX1_beginNode_1 ⟨Nat.le_of_ble_eq_true rfl, Nat.le_of_ble_eq_true rfl⟩) ⟨Pw.fb, recvX1 hK hP (q0 := 4) rfl, fun U hU hW => Pw.to (hP.ms _ hMs) (hD.ms _ hMs) (hK.ms [false, false, false, true, true, true, true, true, true, true] rfl) hE hS hFc hU hW⟩ rfl rfl hl.1 rfl (lv_room (Nat.le_of_ble_eq_true rfl)) dX3_readWord_22 ⟨Nat.le_of_ble_eq_true rfl, Nat.le_of_ble_eq_true rfl⟩) hS (fun q _ h => hFc q h) hFc (fun u t H locs ht hvm hw hB hz1 hk1 hS => ?_)
    refine ex_7_2 hB (fun f_1908 f_1909 f_1910 f_1911 f_1912 f_1913 f_1914 a_f_1909 e_f_1908_0 hB => ?_)
    obtain ⟨hP, hD⟩ := Bw.goN (ws' := [(oc3 oR iR_faultNumber iR_faultPlace iR_tapeSize rR_tape iR_end iR_tokenKind iR_tokenFrom iR_tokenTo iR_tokenName iR_tokenKey iR_tokenWhole oC iR_courtTold rR_names rR_keys), (arI rR_tape kR_tape 900 fR_tape), (arL rR_names kR_names 18 fR_names), (arL rR_keys kR_keys 10 fR_keys), (oc1 oC iC_nodes iC_words iC_chances iC_unsures iC_slips iC_throneNode iC_saidWorth iC_unit rC_kind rC_parts rC_partNodes rC_weights rC_weightSums rC_toldWorths rC_steps rC_below rC_above rC_unsureWords rC_unsureWorths), (arI rC_kind kC_kind 18 f_1908), (arI rC_parts kC_parts 18 f_1909), (arI rC_weightSums kC_weightSums 18 f_1910), (arI rC_toldWorths kC_toldWorths 18 f_1911), (arI rC_steps kC_steps 18 f_1912), (arI rC_below kC_below 18 f_1913), (arI rC_above kC_above 18 f_1914)]) hB rfl ht hP hD _ hMs hk1 hFc rfl
    clear hz1 hk1 hvm ht hB hMs
    have hG := hG.trans (un7_eq e_f_1908_0)
    refine lv_aload_n hx hb dX3_readWord_25 rfl (lv_at hl 0 rfl) ?_
    have hMs := ml_of hD [true, true, false, true, false, false, false, false, false, false, false, false] (wc := [(oc3 oR iR_faultNumber iR_faultPlace iR_tapeSize rR_tape iR_end iR_tokenKind iR_tokenFrom iR_tokenTo iR_tokenName iR_tokenKey iR_tokenWhole oC iR_courtTold rR_names rR_keys), (arI rR_tape kR_tape 900 fR_tape), (arL rR_keys kR_keys 10 fR_keys)]) rfl
    have hFc := va_freeM hD hS hA _ hMs
    refine va_callv (va_runV (As := []) (rest := []) ⟨hx, hb, hml, hown, hts⟩ (tX3_nextToken l dC dI _ oR iR_faultNumber iR_faultPlace iR_tapeSize rR_tape fR_tape kR_tape iR_end iR_tokenKind iR_tokenFrom iR_tokenTo iR_tokenName iR_tokenKey iR_tokenWhole oC iR_courtTold rR_names rR_keys fR_keys kR_keys b_iR_tapeSize b_iR_courtTold) (cwV 0 hts (wd_V wd_220 wd_221 wd_222 wd_15 (wd_c wd_223)) rfl rfl rfl dv_yX3_nextToken_0 ⟨Nat.le_of_ble_eq_true rfl, Nat.le_of_ble_eq_true rfl⟩) ⟨Pw.fb, recvX3 hK hP (q0 := 0) rfl, fun U hU hW => Pw.to (hP.ms _ hMs) (hD.ms _ hMs) (hK.ms [true, false, true, false, false, false, false, false, false, false] rfl) hE hS hFc hU hW⟩ rfl rfl hl.1 rfl (lv_room (Nat.le_of_ble_eq_true rfl)) dX3_readWord_26 ⟨Nat.le_of_ble_eq_true rfl, Nat.le_of_ble_eq_true rfl⟩) hS (fun q _ h => hFc q h) hFc (fun u t H locs ht hvm hw hB hz1 hk1 hS => ?_)
    refine ex_6_1 hB (fun x_1915 x_1916 x_1917 y_1918 x_1919 x_1920 e_x_1915_0 hB => ?_)
    obtain ⟨hP, hD⟩ := Bw.goN (ws' := [(oc3 oR iR_faultNumber iR_faultPlace iR_tapeSize rR_tape iR_end x_1915 x_1916 x_1917 y_1918 x_1919 x_1920 oC iR_courtTold rR_names rR_keys), (arI rR_tape kR_tape 900 fR_tape), (arL rR_names kR_names 18 fR_names), (arL rR_keys kR_keys 10 fR_keys), (oc1 oC iC_nodes iC_words iC_chances iC_unsures iC_slips iC_throneNode iC_saidWorth iC_unit rC_kind rC_parts rC_partNodes rC_weights rC_weightSums rC_toldWorths rC_steps rC_below rC_above rC_unsureWords rC_unsureWorths), (arI rC_kind kC_kind 18 f_1908), (arI rC_parts kC_parts 18 f_1909), (arI rC_weightSums kC_weightSums 18 f_1910), (arI rC_toldWorths kC_toldWorths 18 f_1911), (arI rC_steps kC_steps 18 f_1912), (arI rC_below kC_below 18 f_1913), (arI rC_above kC_above 18 f_1914)]) hB rfl ht hP hD _ hMs hk1 hFc rfl
    clear hz1 hk1 hvm ht hB hMs
    have hG := hG.trans (un6_eq e_x_1915_0)
    refine lv_aload_n hx hb dX3_readWord_29 rfl (lv_at hl 0 rfl) ?_
    have hMs := ml_of hD [true, false, true, false, true, false, false, false, false, false, false, false] (wc := [(oc3 oR iR_faultNumber iR_faultPlace iR_tapeSize rR_tape iR_end x_1915 x_1916 x_1917 y_1918 x_1919 x_1920 oC iR_courtTold rR_names rR_keys), (arL rR_names kR_names 18 fR_names), (oc1 oC iC_nodes iC_words iC_chances iC_unsures iC_slips iC_throneNode iC_saidWorth iC_unit rC_kind rC_parts rC_partNodes rC_weights rC_weightSums rC_toldWorths rC_steps rC_below rC_above rC_unsureWords rC_unsureWorths)]) rfl
    have hFc := va_freeM hD hS hA _ hMs
    refine va_calli (va_runV (As := []) (rest := []) ⟨hx, hb, hml, hown, hts⟩ (tX3_isNewName l dC dI _ oR iR_faultNumber iR_faultPlace iR_tapeSize rR_tape iR_end x_1915 x_1916 x_1917 y_1918 x_1919 x_1920 oC iR_courtTold rR_names fR_names kR_names rR_keys iC_nodes iC_words iC_chances iC_unsures iC_slips iC_throneNode iC_saidWorth iC_unit rC_kind rC_parts rC_partNodes rC_weights rC_weightSums rC_toldWorths rC_steps rC_below rC_above rC_unsureWords rC_unsureWorths b_iR_tapeSize b_iR_courtTold b_iC_nodes b_iC_unsures b_iC_throneNode) (cwV 0 hts (wd_V wd_279 wd_280 wd_281 wd_15 (wd_c wd_282)) rfl rfl rfl dv_yX3_isNewName_0 ⟨Nat.le_of_ble_eq_true rfl, Nat.le_of_ble_eq_true rfl⟩) ⟨Pw.fb, recvX3 hK hP (q0 := 0) rfl, fun U hU hW => Pw.to (hP.ms _ hMs) (hD.ms _ hMs) (hK.ms [false, true, false, false, false, false, false, false, false, false] rfl) hE hS hFc hU hW⟩ rfl rfl hl.1 rfl (lv_room (Nat.le_of_ble_eq_true rfl)) dX3_readWord_30 ⟨Nat.le_of_ble_eq_true rfl, Nat.le_of_ble_eq_true rfl⟩) hS (fun q _ h => hFc q h) hFc (fun r u t H locs ht hvm hw hB hz1 hk1 hS => ?_)
    have hru9 := hw.2
    have hw := hw.1
    refine ex_2_1 hB (fun x_1921 x_1922 e_x_1921_0 hB => ?_)
    obtain ⟨hP, hD⟩ := Bw.goN (ws' := [(oc3 oR x_1921 x_1922 iR_tapeSize rR_tape iR_end x_1915 x_1916 x_1917 y_1918 x_1919 x_1920 oC iR_courtTold rR_names rR_keys), (arI rR_tape kR_tape 900 fR_tape), (arL rR_names kR_names 18 fR_names), (arL rR_keys kR_keys 10 fR_keys), (oc1 oC iC_nodes iC_words iC_chances iC_unsures iC_slips iC_throneNode iC_saidWorth iC_unit rC_kind rC_parts rC_partNodes rC_weights rC_weightSums rC_toldWorths rC_steps rC_below rC_above rC_unsureWords rC_unsureWorths), (arI rC_kind kC_kind 18 f_1908), (arI rC_parts kC_parts 18 f_1909), (arI rC_weightSums kC_weightSums 18 f_1910), (arI rC_toldWorths kC_toldWorths 18 f_1911), (arI rC_steps kC_steps 18 f_1912), (arI rC_below kC_below 18 f_1913), (arI rC_above kC_above 18 f_1914)]) hB rfl ht hP hD _ hMs hk1 hFc rfl
    clear hz1 hk1 hvm ht hB hMs
    rw [← hru9] at e_x_1921_0
    obtain ⟨x_1923, rfl⟩ : ∃ z, z = r := ⟨_, rfl⟩
    have hG := hG.trans (un3_eq e_x_1921_0)
    have bx_1923 := hw.1
    have dx_1923 := bz_tb bx_1923
    refine lv_if_ne (tgt := 38) hx hb dX3_readWord_33 (by decide) (fun c_1924 => ?_) (fun c_1924 => ?_)
    · skip
      have hG := hG.trans (if_neg c_1924)
      have gc_1924 := ti_ne c_1924 rfl kc_0
      refine lv_aload_n hx hb dX3_readWord_38 rfl (lv_at hl 0 rfl) ?_
      refine va_get (D := (dC, dI)) (ci := 3) (v := .long y_1918) (C := RX3) (T := TX3) (N := 15) hx hb hts inX3 hown hK hP 0 rfl rfl 8 (by decide) (hts _ wd_237) (fun _ h9 => h9) rfl dX3_readWord_39 ?_
      refine lv_lstore_n (lv' := [(1, .long y_1918), (0, .ref oR)]) hx hb dX3_readWord_42 rfl hl (by decide) rfl (fun ls hl => ?_)
      refine lv_aload_n hx hb dX3_readWord_43 rfl (lv_at hl 1 rfl) ?_
      have hMs := ml_of hD [true, true, false, true, false, false, false, false, false, false, false, false] (wc := [(oc3 oR x_1921 x_1922 iR_tapeSize rR_tape iR_end x_1915 x_1916 x_1917 y_1918 x_1919 x_1920 oC iR_courtTold rR_names rR_keys), (arI rR_tape kR_tape 900 fR_tape), (arL rR_keys kR_keys 10 fR_keys)]) rfl
      have hFc := va_freeM hD hS hA _ hMs
      refine va_callv (va_runV (As := []) (rest := []) ⟨hx, hb, hml, hown, hts⟩ (tX3_nextToken l dC dI _ oR x_1921 x_1922 iR_tapeSize rR_tape fR_tape kR_tape iR_end x_1915 x_1916 x_1917 y_1918 x_1919 x_1920 oC iR_courtTold rR_names rR_keys fR_keys kR_keys b_iR_tapeSize b_iR_courtTold) (cwV 0 hts (wd_V wd_220 wd_221 wd_222 wd_15 (wd_c wd_223)) rfl rfl rfl dv_yX3_nextToken_0 ⟨Nat.le_of_ble_eq_true rfl, Nat.le_of_ble_eq_true rfl⟩) ⟨Pw.fb, recvX3 hK hP (q0 := 0) rfl, fun U hU hW => Pw.to (hP.ms _ hMs) (hD.ms _ hMs) (hK.ms [true, false, true, false, false, false, false, false, false, false] rfl) hE hS hFc hU hW⟩ rfl rfl hl.1 rfl (lv_room (Nat.le_of_ble_eq_true rfl)) dX3_readWord_44 ⟨Nat.le_of_ble_eq_true rfl, Nat.le_of_ble_eq_true rfl⟩) hS (fun q _ h => hFc q h) hFc (fun u t H locs ht hvm hw hB hz1 hk1 hS => ?_)
      refine ex_6_1 hB (fun x_1925 x_1926 x_1927 y_1928 x_1929 x_1930 e_x_1925_0 hB => ?_)
      obtain ⟨hP, hD⟩ := Bw.goN (ws' := [(oc3 oR x_1921 x_1922 iR_tapeSize rR_tape iR_end x_1925 x_1926 x_1927 y_1928 x_1929 x_1930 oC iR_courtTold rR_names rR_keys), (arI rR_tape kR_tape 900 fR_tape), (arL rR_names kR_names 18 fR_names), (arL rR_keys kR_keys 10 fR_keys), (oc1 oC iC_nodes iC_words iC_chances iC_unsures iC_slips iC_throneNode iC_saidWorth iC_unit rC_kind rC_parts rC_partNodes rC_weights rC_weightSums rC_toldWorths rC_steps rC_below rC_above rC_unsureWords rC_unsureWorths), (arI rC_kind kC_kind 18 f_1908), (arI rC_parts kC_parts 18 f_1909), (arI rC_weightSums kC_weightSums 18 f_1910), (arI rC_toldWorths kC_toldWorths 18 f_1911), (arI rC_steps kC_steps 18 f_1912), (arI rC_below kC_below 18 f_1913), (arI rC_above kC_above 18 f_1914)]) hB rfl ht hP hD _ hMs hk1 hFc rfl
      clear hz1 hk1 hvm ht hB hMs
      have hG := hG.trans (un6_eq e_x_1925_0)
      refine lv_aload_n hx hb dX3_readWord_47 rfl (lv_at hl 1 rfl) ?_
      refine va_get (D := (dC, dI)) (ci := 3) (v := .int x_1929) (C := RX3) (T := TX3) (N := 15) hx hb hts inX3 hown hK hP 0 rfl rfl 9 (by decide) (hts _ wd_225) (fun _ h9 => h9) rfl dX3_readWord_48 ?_
      refine lv_bipush (v := 9) hx hb dX3_readWord_51 (by decide) ?_
      refine lv_icmp_eq (tgt := 62) hx hb dX3_readWord_53 (by decide) (fun c_1931 => ?_) (fun c_1931 => ?_)
      · skip
        have hG := hG.trans (if_pos c_1931)
        have gc_1931 := ti_eq c_1931 rfl kc_9
        refine lv_aload_n hx hb dX3_readWord_62 rfl (lv_at hl 1 rfl) ?_
        have hMs := ml_of hD [true, true, false, true, false, false, false, false, false, false, false, false] (wc := [(oc3 oR x_1921 x_1922 iR_tapeSize rR_tape iR_end x_1925 x_1926 x_1927 y_1928 x_1929 x_1930 oC iR_courtTold rR_names rR_keys), (arI rR_tape kR_tape 900 fR_tape), (arL rR_keys kR_keys 10 fR_keys)]) rfl
        have hFc := va_freeM hD hS hA _ hMs
        refine va_callv (va_runV (As := []) (rest := []) ⟨hx, hb, hml, hown, hts⟩ (tX3_nextToken l dC dI _ oR x_1921 x_1922 iR_tapeSize rR_tape fR_tape kR_tape iR_end x_1925 x_1926 x_1927 y_1928 x_1929 x_1930 oC iR_courtTold rR_names rR_keys fR_keys kR_keys b_iR_tapeSize b_iR_courtTold) (cwV 0 hts (wd_V wd_220 wd_221 wd_222 wd_15 (wd_c wd_223)) rfl rfl rfl dv_yX3_nextToken_0 ⟨Nat.le_of_ble_eq_true rfl, Nat.le_of_ble_eq_true rfl⟩) ⟨Pw.fb, recvX3 hK hP (q0 := 0) rfl, fun U hU hW => Pw.to (hP.ms _ hMs) (hD.ms _ hMs) (hK.ms [true, false, true, false, false, false, false, false, false, false] rfl) hE hS hFc hU hW⟩ rfl rfl hl.1 rfl (lv_room (Nat.le_of_ble_eq_true rfl)) dX3_readWord_63 ⟨Nat.le_of_ble_eq_true rfl, Nat.le_of_ble_eq_true rfl⟩) hS (fun q _ h => hFc q h) hFc (fun u t H locs ht hvm hw hB hz1 hk1 hS => ?_)
        refine ex_6_1 hB (fun x_1932 x_1933 x_1934 y_1935 x_1936 x_1937 e_x_1932_0 hB => ?_)
        obtain ⟨hP, hD⟩ := Bw.goN (ws' := [(oc3 oR x_1921 x_1922 iR_tapeSize rR_tape iR_end x_1932 x_1933 x_1934 y_1935 x_1936 x_1937 oC iR_courtTold rR_names rR_keys), (arI rR_tape kR_tape 900 fR_tape), (arL rR_names kR_names 18 fR_names), (arL rR_keys kR_keys 10 fR_keys), (oc1 oC iC_nodes iC_words iC_chances iC_unsures iC_slips iC_throneNode iC_saidWorth iC_unit rC_kind rC_parts rC_partNodes rC_weights rC_weightSums rC_toldWorths rC_steps rC_below rC_above rC_unsureWords rC_unsureWorths), (arI rC_kind kC_kind 18 f_1908), (arI rC_parts kC_parts 18 f_1909), (arI rC_weightSums kC_weightSums 18 f_1910), (arI rC_toldWorths kC_toldWorths 18 f_1911), (arI rC_steps kC_steps 18 f_1912), (arI rC_below kC_below 18 f_1913), (arI rC_above kC_above 18 f_1914)]) hB rfl ht hP hD _ hMs hk1 hFc rfl
        clear hz1 hk1 hvm ht hB hMs
        have hG := hG.trans (un6_eq e_x_1932_0)
        refine lv_aload_n hx hb dX3_readWord_66 rfl (lv_at hl 1 rfl) ?_
        refine lv_iconst (v := 0) hx hb dX3_readWord_67 (by decide) ?_
        refine lv_bipush (v := 99) hx hb dX3_readWord_68 (by decide) ?_
        have hMs := ml_of hD [true, false, false, false, false, false, false, false, false, false, false, false] (wc := [(oc3 oR x_1921 x_1922 iR_tapeSize rR_tape iR_end x_1932 x_1933 x_1934 y_1935 x_1936 x_1937 oC iR_courtTold rR_names rR_keys)]) rfl
        have hFc := va_freeM hD hS hA _ hMs
        refine va_calli (va_runV (As := [.int 0, .int 99]) (rest := []) ⟨hx, hb, hml, hown, hts⟩ (tX3_isWholeWithin l dC dI _ oR x_1921 x_1922 iR_tapeSize rR_tape iR_end x_1932 x_1933 x_1934 y_1935 x_1936 x_1937 oC iR_courtTold rR_names rR_keys 0 99 b_iR_tapeSize b_iR_courtTold) (cwV 2 hts (wd_V wd_263 wd_264 wd_265 wd_15 (wd_c wd_266)) rfl rfl rfl dv_yX3_isWholeWithin_2 ⟨Nat.le_of_ble_eq_true rfl, Nat.le_of_ble_eq_true rfl⟩) ⟨Pw.fb, recvX3 hK hP (q0 := 0) rfl, fun U hU hW => Pw.to (hP.ms _ hMs) (hD.ms _ hMs) (hK.ms [false, false, false, false, false, false, false, false, false, false] rfl) hE hS hFc hU hW⟩ rfl rfl hl.1 rfl (lv_room (Nat.le_of_ble_eq_true rfl)) dX3_readWord_70 ⟨Nat.le_of_ble_eq_true rfl, Nat.le_of_ble_eq_true rfl⟩) hS (fun q _ h => hFc q h) hFc (fun r u t H locs ht hvm hw hB hz1 hk1 hS => ?_)
        have hru9 := hw.2
        have hw := hw.1
        refine ex_2_1 hB (fun x_1938 x_1939 e_x_1938_0 hB => ?_)
        obtain ⟨hP, hD⟩ := Bw.goN (ws' := [(oc3 oR x_1938 x_1939 iR_tapeSize rR_tape iR_end x_1932 x_1933 x_1934 y_1935 x_1936 x_1937 oC iR_courtTold rR_names rR_keys), (arI rR_tape kR_tape 900 fR_tape), (arL rR_names kR_names 18 fR_names), (arL rR_keys kR_keys 10 fR_keys), (oc1 oC iC_nodes iC_words iC_chances iC_unsures iC_slips iC_throneNode iC_saidWorth iC_unit rC_kind rC_parts rC_partNodes rC_weights rC_weightSums rC_toldWorths rC_steps rC_below rC_above rC_unsureWords rC_unsureWorths), (arI rC_kind kC_kind 18 f_1908), (arI rC_parts kC_parts 18 f_1909), (arI rC_weightSums kC_weightSums 18 f_1910), (arI rC_toldWorths kC_toldWorths 18 f_1911), (arI rC_steps kC_steps 18 f_1912), (arI rC_below kC_below 18 f_1913), (arI rC_above kC_above 18 f_1914)]) hB rfl ht hP hD _ hMs hk1 hFc rfl
        clear hz1 hk1 hvm ht hB hMs
        rw [← hru9] at e_x_1938_0
        obtain ⟨x_1940, rfl⟩ : ∃ z, z = r := ⟨_, rfl⟩
        have hG := hG.trans (un3_eq e_x_1938_0)
        have bx_1940 := hw.1
        have dx_1940 := bz_tb bx_1940
        refine lv_if_ne (tgt := 78) hx hb dX3_readWord_73 (by decide) (fun c_1941 => ?_) (fun c_1941 => ?_)
        · skip
          have hG := hG.trans (if_neg c_1941)
          have gc_1941 := ti_ne c_1941 rfl kc_0
          refine lv_aload_n hx hb dX3_readWord_78 rfl (lv_at hl 1 rfl) ?_
          refine lv_lload_n hx hb dX3_readWord_79 rfl (lv_at hl 0 rfl) ?_
          refine lv_aload_n hx hb dX3_readWord_80 rfl (lv_at hl 1 rfl) ?_
          refine va_get (D := (dC, dI)) (ci := 3) (v := .int x_1937) (C := RX3) (T := TX3) (N := 15) hx hb hts inX3 hown hK hP 0 rfl rfl 10 (by decide) (hts _ wd_245) (fun _ h9 => h9) rfl dX3_readWord_81 ?_
          have hMs := ml_of hD [true, false, true, false, true, true, false, true, true, false, false, false] (wc := [(oc3 oR x_1938 x_1939 iR_tapeSize rR_tape iR_end x_1932 x_1933 x_1934 y_1935 x_1936 x_1937 oC iR_courtTold rR_names rR_keys), (arL rR_names kR_names 18 fR_names), (oc1 oC iC_nodes iC_words iC_chances iC_unsures iC_slips iC_throneNode iC_saidWorth iC_unit rC_kind rC_parts rC_partNodes rC_weights rC_weightSums rC_toldWorths rC_steps rC_below rC_above rC_unsureWords rC_unsureWorths), (arI rC_kind kC_kind 18 f_1908), (arI rC_weightSums kC_weightSums 18 f_1910), (arI rC_toldWorths kC_toldWorths 18 f_1911)]) rfl
          have hFc := va_freeM hD hS hA _ hMs
          refine va_callv (va_runV (As := [.long y_1918, .int x_1937]) (rest := []) ⟨hx, hb, hml, hown, hts⟩ (tX3_endNode l dC dI _ oR x_1938 x_1939 iR_tapeSize rR_tape iR_end x_1932 x_1933 x_1934 y_1935 x_1936 x_1937 oC iR_courtTold rR_names fR_names kR_names rR_keys iC_nodes iC_words iC_chances iC_unsures iC_slips iC_throneNode iC_saidWorth iC_unit rC_kind f_1908 kC_kind rC_parts rC_partNodes rC_weights rC_weightSums f_1910 kC_weightSums rC_toldWorths f_1911 kC_toldWorths rC_steps rC_below rC_above rC_unsureWords rC_unsureWorths y_1918 x_1937 b_iR_tapeSize b_iR_courtTold b_iC_nodes b_iC_unsures b_iC_throneNode) (cwV 2 hts (wd_V wd_288 wd_289 wd_290 wd_15 (wd_c wd_291)) rfl rfl rfl dv_yX3_endNode_2 ⟨Nat.le_of_ble_eq_true rfl, Nat.le_of_ble_eq_true rfl⟩) ⟨Pw.fb, recvX3 hK hP (q0 := 0) rfl, fun U hU hW => Pw.to (hP.ms _ hMs) (hD.ms _ hMs) (hK.ms [false, true, false, true, false, true, true, false, false, false] rfl) hE hS hFc hU hW⟩ rfl rfl hl.1 rfl (lv_room (Nat.le_of_ble_eq_true rfl)) dX3_readWord_84 ⟨Nat.le_of_ble_eq_true rfl, Nat.le_of_ble_eq_true rfl⟩) hS (fun q _ h => hFc q h) hFc (fun u t H locs ht hvm hw hB hz1 hk1 hS => ?_)
          refine ex_6_2 hB (fun f_1942 x_1943 x_1944 x_1945 x_1946 f_1947 b_x_1943 e_f_1942_0 hB => ?_)
          obtain ⟨hP, hD⟩ := Bw.goN (ws' := [(oc3 oR x_1938 x_1939 iR_tapeSize rR_tape iR_end x_1932 x_1933 x_1934 y_1935 x_1936 x_1937 oC iR_courtTold rR_names rR_keys), (arI rR_tape kR_tape 900 fR_tape), (arL rR_names kR_names 18 f_1942), (arL rR_keys kR_keys 10 fR_keys), (oc1 oC x_1943 x_1944 x_1945 iC_unsures iC_slips iC_throneNode iC_saidWorth x_1946 rC_kind rC_parts rC_partNodes rC_weights rC_weightSums rC_toldWorths rC_steps rC_below rC_above rC_unsureWords rC_unsureWorths), (arI rC_kind kC_kind 18 f_1908), (arI rC_parts kC_parts 18 f_1909), (arI rC_weightSums kC_weightSums 18 f_1910), (arI rC_toldWorths kC_toldWorths 18 f_1947), (arI rC_steps kC_steps 18 f_1912), (arI rC_below kC_below 18 f_1913), (arI rC_above kC_above 18 f_1914)]) hB rfl ht hP hD _ hMs hk1 hFc rfl
          clear hz1 hk1 hvm ht hB hMs
          have hG := hG.trans (un6_eq e_f_1942_0)
          refine lv_aload_n hx hb dX3_readWord_87 rfl (lv_at hl 1 rfl) ?_
          have hMs := ml_of hD [true, true, false, true, false, false, false, false, false, false, false, false] (wc := [(oc3 oR x_1938 x_1939 iR_tapeSize rR_tape iR_end x_1932 x_1933 x_1934 y_1935 x_1936 x_1937 oC iR_courtTold rR_names rR_keys), (arI rR_tape kR_tape 900 fR_tape), (arL rR_keys kR_keys 10 fR_keys)]) rfl
          have hFc := va_freeM hD hS hA _ hMs
          refine va_callv (va_runV (As := []) (rest := []) ⟨hx, hb, hml, hown, hts⟩ (tX3_nextToken l dC dI _ oR x_1938 x_1939 iR_tapeSize rR_tape fR_tape kR_tape iR_end x_1932 x_1933 x_1934 y_1935 x_1936 x_1937 oC iR_courtTold rR_names rR_keys fR_keys kR_keys b_iR_tapeSize b_iR_courtTold) (cwV 0 hts (wd_V wd_220 wd_221 wd_222 wd_15 (wd_c wd_223)) rfl rfl rfl dv_yX3_nextToken_0 ⟨Nat.le_of_ble_eq_true rfl, Nat.le_of_ble_eq_true rfl⟩) ⟨Pw.fb, recvX3 hK hP (q0 := 0) rfl, fun U hU hW => Pw.to (hP.ms _ hMs) (hD.ms _ hMs) (hK.ms [true, false, true, false, false, false, false, false, false, false] rfl) hE hS hFc hU hW⟩ rfl rfl hl.1 rfl (lv_room (Nat.le_of_ble_eq_true rfl)) dX3_readWord_88 ⟨Nat.le_of_ble_eq_true rfl, Nat.le_of_ble_eq_true rfl⟩) hS (fun q _ h => hFc q h) hFc (fun u t H locs ht hvm hw hB hz1 hk1 hS => ?_)
          refine ex_6_1 hB (fun x_1948 x_1949 x_1950 y_1951 x_1952 x_1953 e_x_1948_0 hB => ?_)
          obtain ⟨hP, hD⟩ := Bw.goN (ws' := [(oc3 oR x_1938 x_1939 iR_tapeSize rR_tape iR_end x_1948 x_1949 x_1950 y_1951 x_1952 x_1953 oC iR_courtTold rR_names rR_keys), (arI rR_tape kR_tape 900 fR_tape), (arL rR_names kR_names 18 f_1942), (arL rR_keys kR_keys 10 fR_keys), (oc1 oC x_1943 x_1944 x_1945 iC_unsures iC_slips iC_throneNode iC_saidWorth x_1946 rC_kind rC_parts rC_partNodes rC_weights rC_weightSums rC_toldWorths rC_steps rC_below rC_above rC_unsureWords rC_unsureWorths), (arI rC_kind kC_kind 18 f_1908), (arI rC_parts kC_parts 18 f_1909), (arI rC_weightSums kC_weightSums 18 f_1910), (arI rC_toldWorths kC_toldWorths 18 f_1947), (arI rC_steps kC_steps 18 f_1912), (arI rC_below kC_below 18 f_1913), (arI rC_above kC_above 18 f_1914)]) hB rfl ht hP hD _ hMs hk1 hFc rfl
          clear hz1 hk1 hvm ht hB hMs
          have hG := hG.trans (un6_eq e_x_1948_0)
          refine lv_iconst (v := 1) hx hb dX3_readWord_91 (by decide) ?_
          exact wq_z (v := 1) hx hb hr rfl (cI 1) ⟨⟨Or.inr rfl, trivial⟩, (cI_of 1)⟩ (fun t ht hW => ⟨x_1938, x_1939, x_1948, x_1949, x_1950, y_1951, x_1952, x_1953, f_1942, x_1943, x_1944, x_1945, x_1946, f_1908, f_1909, f_1910, f_1947, f_1912, f_1913, f_1914, b_x_1943, a_f_1909, (cI_tup hG), Bw.to hP hD hK ht hW⟩) hS dX3_readWord_92 hlocks
        · skip
          have hG := hG.trans (if_pos c_1941)
          have gc_1941 := ti_eq c_1941 rfl kc_0
          refine lv_iconst (v := 0) hx hb dX3_readWord_76 (by decide) ?_
          exact wq_z (v := 0) hx hb hr rfl (cI 0) ⟨⟨Or.inl rfl, trivial⟩, (cI_of 0)⟩ (fun t ht hW => ⟨x_1938, x_1939, x_1932, x_1933, x_1934, y_1935, x_1936, x_1937, fR_names, iC_nodes, iC_words, iC_chances, iC_unit, f_1908, f_1909, f_1910, f_1911, f_1912, f_1913, f_1914, b_iC_nodes, a_f_1909, (cI_tup hG), Bw.to hP hD hK ht hW⟩) hS dX3_readWord_77 hlocks
      · skip
        have hG := hG.trans (if_neg c_1931)
        have gc_1931 := ti_ne c_1931 rfl kc_9
        refine lv_aload_n hx hb dX3_readWord_56 rfl (lv_at hl 1 rfl) ?_
        refine lv_iconst (v := 1) hx hb dX3_readWord_57 (by decide) ?_
        have hMs := ml_of hD [true, false, false, false, false, false, false, false, false, false, false, false] (wc := [(oc3 oR x_1921 x_1922 iR_tapeSize rR_tape iR_end x_1925 x_1926 x_1927 y_1928 x_1929 x_1930 oC iR_courtTold rR_names rR_keys)]) rfl
        have hFc := va_freeM hD hS hA _ hMs
        refine va_calli (va_runV (As := [.int 1]) (rest := []) ⟨hx, hb, hml, hown, hts⟩ (tX3_faulty l dC dI _ oR x_1921 x_1922 iR_tapeSize rR_tape iR_end x_1925 x_1926 x_1927 y_1928 x_1929 x_1930 oC iR_courtTold rR_names rR_keys 1 b_iR_tapeSize b_iR_courtTold) (cwV 1 hts (wd_V wd_254 wd_255 wd_256 wd_15 (wd_c wd_257)) rfl rfl rfl dv_yX3_faulty_1 ⟨Nat.le_of_ble_eq_true rfl, Nat.le_of_ble_eq_true rfl⟩) ⟨Pw.fb, recvX3 hK hP (q0 := 0) rfl, fun U hU hW => Pw.to (hP.ms _ hMs) (hD.ms _ hMs) (hK.ms [false, false, false, false, false, false, false, false, false, false] rfl) hE hS hFc hU hW⟩ rfl rfl hl.1 rfl (lv_room (Nat.le_of_ble_eq_true rfl)) dX3_readWord_58 ⟨Nat.le_of_ble_eq_true rfl, Nat.le_of_ble_eq_true rfl⟩) hS (fun q _ h => hFc q h) hFc (fun r u t H locs ht hvm hw hB hz1 hk1 hS => ?_)
        have hru9 := hw.2
        have hw := hw.1
        refine ex_2_1 hB (fun x_1954 x_1955 e_x_1954_0 hB => ?_)
        obtain ⟨hP, hD⟩ := Bw.goN (ws' := [(oc3 oR x_1954 x_1955 iR_tapeSize rR_tape iR_end x_1925 x_1926 x_1927 y_1928 x_1929 x_1930 oC iR_courtTold rR_names rR_keys), (arI rR_tape kR_tape 900 fR_tape), (arL rR_names kR_names 18 fR_names), (arL rR_keys kR_keys 10 fR_keys), (oc1 oC iC_nodes iC_words iC_chances iC_unsures iC_slips iC_throneNode iC_saidWorth iC_unit rC_kind rC_parts rC_partNodes rC_weights rC_weightSums rC_toldWorths rC_steps rC_below rC_above rC_unsureWords rC_unsureWorths), (arI rC_kind kC_kind 18 f_1908), (arI rC_parts kC_parts 18 f_1909), (arI rC_weightSums kC_weightSums 18 f_1910), (arI rC_toldWorths kC_toldWorths 18 f_1911), (arI rC_steps kC_steps 18 f_1912), (arI rC_below kC_below 18 f_1913), (arI rC_above kC_above 18 f_1914)]) hB rfl ht hP hD _ hMs hk1 hFc rfl
        clear hz1 hk1 hvm ht hB hMs
        rw [← hru9] at e_x_1954_0
        rcases hw.2 with ⟨rfl, hc_1956⟩
        · skip
          have hG := hG.trans (un3_eq e_x_1954_0)
          exact wq_z (v := 0) hx hb hr rfl (cI 0) ⟨⟨Or.inl rfl, trivial⟩, (cI_of 0)⟩ (fun t ht hW => ⟨x_1954, x_1955, x_1925, x_1926, x_1927, y_1928, x_1929, x_1930, fR_names, iC_nodes, iC_words, iC_chances, iC_unit, f_1908, f_1909, f_1910, f_1911, f_1912, f_1913, f_1914, b_iC_nodes, a_f_1909, (cI_tup hG), Bw.to hP hD hK ht hW⟩) hS dX3_readWord_61 hlocks
    · skip
      have hG := hG.trans (if_pos c_1924)
      have gc_1924 := ti_eq c_1924 rfl kc_0
      refine lv_iconst (v := 0) hx hb dX3_readWord_36 (by decide) ?_
      exact wq_z (v := 0) hx hb hr rfl (cI 0) ⟨⟨Or.inl rfl, trivial⟩, (cI_of 0)⟩ (fun t ht hW => ⟨x_1921, x_1922, x_1915, x_1916, x_1917, y_1918, x_1919, x_1920, fR_names, iC_nodes, iC_words, iC_chances, iC_unit, f_1908, f_1909, f_1910, f_1911, f_1912, f_1913, f_1914, b_iC_nodes, a_f_1909, (cI_tup hG), Bw.to hP hD hK ht hW⟩) hS dX3_readWord_37 hlocks
  · skip
    have hG := hG.trans (lt_eq hru9.symm)
    have hG := hG.trans (if_neg (by decide))
    refine lv_if_ne (tgt := 17) hx hb dX3_readWord_8 (by decide) (fun c => absurd c (by decide)) (fun _ => ?_)
    refine lv_aload_n hx hb dX3_readWord_11 rfl (lv_at hl 0 rfl) ?_
    refine lv_iconst (v := 5) hx hb dX3_readWord_12 (by decide) ?_
    have hMs := ml_of hD [true, false, false, false, false, false, false, false, false, false, false, false] (wc := [(oc3 oR iR_faultNumber iR_faultPlace iR_tapeSize rR_tape iR_end iR_tokenKind iR_tokenFrom iR_tokenTo iR_tokenName iR_tokenKey iR_tokenWhole oC iR_courtTold rR_names rR_keys)]) rfl
    have hFc := va_freeM hD hS hA _ hMs
    refine va_calli (va_runV (As := [.int 5]) (rest := []) ⟨hx, hb, hml, hown, hts⟩ (tX3_faulty l dC dI _ oR iR_faultNumber iR_faultPlace iR_tapeSize rR_tape iR_end iR_tokenKind iR_tokenFrom iR_tokenTo iR_tokenName iR_tokenKey iR_tokenWhole oC iR_courtTold rR_names rR_keys 5 b_iR_tapeSize b_iR_courtTold) (cwV 1 hts (wd_V wd_254 wd_255 wd_256 wd_15 (wd_c wd_257)) rfl rfl rfl dv_yX3_faulty_1 ⟨Nat.le_of_ble_eq_true rfl, Nat.le_of_ble_eq_true rfl⟩) ⟨Pw.fb, recvX3 hK hP (q0 := 0) rfl, fun U hU hW => Pw.to (hP.ms _ hMs) (hD.ms _ hMs) (hK.ms [false, false, false, false, false, false, false, false, false, false] rfl) hE hS hFc hU hW⟩ rfl rfl hl.1 rfl (lv_room (Nat.le_of_ble_eq_true rfl)) dX3_readWord_13 ⟨Nat.le_of_ble_eq_true rfl, Nat.le_of_ble_eq_true rfl⟩) hS (fun q _ h => hFc q h) hFc (fun r u t H locs ht hvm hw hB hz1 hk1 hS => ?_)
    have hru9 := hw.2
    have hw := hw.1
    refine ex_2_1 hB (fun x_1959 x_1960 e_x_1959_0 hB => ?_)
    obtain ⟨hP, hD⟩ := Bw.goN (ws' := [(oc3 oR x_1959 x_1960 iR_tapeSize rR_tape iR_end iR_tokenKind iR_tokenFrom iR_tokenTo iR_tokenName iR_tokenKey iR_tokenWhole oC iR_courtTold rR_names rR_keys), (arI rR_tape kR_tape 900 fR_tape), (arL rR_names kR_names 18 fR_names), (arL rR_keys kR_keys 10 fR_keys), (oc1 oC iC_nodes iC_words iC_chances iC_unsures iC_slips iC_throneNode iC_saidWorth iC_unit rC_kind rC_parts rC_partNodes rC_weights rC_weightSums rC_toldWorths rC_steps rC_below rC_above rC_unsureWords rC_unsureWorths), (arI rC_kind kC_kind 18 fC_kind), (arI rC_parts kC_parts 18 fC_parts), (arI rC_weightSums kC_weightSums 18 fC_weightSums), (arI rC_toldWorths kC_toldWorths 18 fC_toldWorths), (arI rC_steps kC_steps 18 fC_steps), (arI rC_below kC_below 18 fC_below), (arI rC_above kC_above 18 fC_above)]) hB rfl ht hP hD _ hMs hk1 hFc rfl
    clear hz1 hk1 hvm ht hB hMs
    rw [← hru9] at e_x_1959_0
    rcases hw.2 with ⟨rfl, hc_1961⟩
    · skip
      have hG := hG.trans (un3_eq e_x_1959_0)
      exact wq_z (v := 0) hx hb hr rfl (cI 0) ⟨⟨Or.inl rfl, trivial⟩, (cI_of 0)⟩ (fun t ht hW => ⟨x_1959, x_1960, iR_tokenKind, iR_tokenFrom, iR_tokenTo, iR_tokenName, iR_tokenKey, iR_tokenWhole, fR_names, iC_nodes, iC_words, iC_chances, iC_unit, fC_kind, fC_parts, fC_weightSums, fC_toldWorths, fC_steps, fC_below, fC_above, b_iC_nodes, a_fC_parts, (cI_tup hG), Bw.to hP hD hK ht hW⟩) hS dX3_readWord_16 hlocks
set_option maxHeartbeats 4000000 in
set_option maxRecDepth 100000 in
theorem tX3_readCourt (l : Launch) (dC : Nat → ClassId) (dI : Nat → Nat → Nat) (sz : Nat) (oR : Nat) (iR_faultNumber : Int32) (iR_faultPlace : Int32) (iR_tapeSize : Int32) (rR_tape : Nat) (fR_tape : Nat → Int32) (kR_tape : ClassId) (iR_end : Int32) (iR_tokenKind : Int32) (iR_tokenFrom : Int32) (iR_tokenTo : Int32) (iR_tokenName : Int64) (iR_tokenKey : Int32) (iR_tokenWhole : Int32) (oC : Nat) (iR_courtTold : Int32) (rR_names : Nat) (rR_keys : Nat) (fR_keys : Nat → Int64) (kR_keys : ClassId) (iC_nodes : Int32) (iC_words : Int32) (iC_chances : Int32) (iC_unsures : Int32) (iC_slips : Int32) (iC_throneNode : Int32) (iC_saidWorth : Int32) (iC_unit : Int32) (rC_kind : Nat) (rC_parts : Nat) (rC_partNodes : Nat) (rC_weights : Nat) (rC_weightSums : Nat) (rC_toldWorths : Nat) (rC_steps : Nat) (rC_below : Nat) (rC_above : Nat) (rC_unsureWords : Nat) (rC_unsureWorths : Nat) (b_iR_tapeSize : 0 ≤ iR_tapeSize.toInt ∧ iR_tapeSize.toInt ≤ 900) (b_iR_courtTold : 0 ≤ iR_courtTold.toInt ∧ iR_courtTold.toInt ≤ 1) (b_iC_nodes : 0 ≤ iC_nodes.toInt ∧ iC_nodes.toInt ≤ 18) (b_iC_unsures : 0 ≤ iC_unsures.toInt ∧ iC_unsures.toInt ≤ 4) (b_iC_throneNode : (-1) ≤ iC_throneNode.toInt ∧ iC_throneNode.toInt ≤ 17)  : Met l yX3_readCourt (Cond.code yX3_readCourt cX3_readCourt 1 (some .boolean) :: wG) ({ frames := 3, cells := 0, slots := 0, locals := 66 }) (va_Pc [.ref oR] (Pw dC dI sz [(oc3 oR iR_faultNumber iR_faultPlace iR_tapeSize rR_tape iR_end iR_tokenKind iR_tokenFrom iR_tokenTo iR_tokenName iR_tokenKey iR_tokenWhole oC iR_courtTold rR_names rR_keys), (arI rR_tape kR_tape 900 fR_tape), (arL rR_keys kR_keys 10 fR_keys), (oc1 oC iC_nodes iC_words iC_chances iC_unsures iC_slips iC_throneNode iC_saidWorth iC_unit rC_kind rC_parts rC_partNodes rC_weights rC_weightSums rC_toldWorths rC_steps rC_below rC_above rC_unsureWords rC_unsureWorths)] [(kR_tape, .byte), (kR_keys, .long)])) (va_Qi (fun (r : Int32) (u : Nat) => ((r = 0 ∨ r = 1) ∧ True) ∧ r = Int32.ofNat u) (fun (u : Nat) (t : State) => ∃ (niR_faultNumber : Int32) (niR_faultPlace : Int32) (niR_tokenKind : Int32) (niR_tokenFrom : Int32) (niR_tokenTo : Int32) (niR_tokenName : Int64) (niR_tokenKey : Int32) (niR_tokenWhole : Int32) (niR_courtTold : Int32) (niC_slips : Int32), (0 ≤ niR_courtTold.toInt ∧ niR_courtTold.toInt ≤ 1) ∧ (PX3_readCourt iR_faultNumber iR_faultPlace fR_tape iR_end iR_tokenKind iR_tokenFrom iR_tokenTo iR_tokenName iR_tokenKey iR_tokenWhole iR_courtTold fR_keys iC_slips = (Int32.ofNat u, niR_faultNumber, niR_faultPlace, niR_tokenKind, niR_tokenFrom, niR_tokenTo, niR_tokenName, niR_tokenKey, niR_tokenWhole, niR_courtTold, niC_slips)) ∧ Bw dC dI (va_A [(oc3 oR iR_faultNumber iR_faultPlace iR_tapeSize rR_tape iR_end iR_tokenKind iR_tokenFrom iR_tokenTo iR_tokenName iR_tokenKey iR_tokenWhole oC iR_courtTold rR_names rR_keys), (arI rR_tape kR_tape 900 fR_tape), (arL rR_keys kR_keys 10 fR_keys), (oc1 oC iC_nodes iC_words iC_chances iC_unsures iC_slips iC_throneNode iC_saidWorth iC_unit rC_kind rC_parts rC_partNodes rC_weights rC_weightSums rC_toldWorths rC_steps rC_below rC_above rC_unsureWords rC_unsureWorths)] sz) [(oc3 oR niR_faultNumber niR_faultPlace iR_tapeSize rR_tape iR_end niR_tokenKind niR_tokenFrom niR_tokenTo niR_tokenName niR_tokenKey niR_tokenWhole oC niR_courtTold rR_names rR_keys), (arI rR_tape kR_tape 900 fR_tape), (arL rR_keys kR_keys 10 fR_keys), (oc1 oC iC_nodes iC_words iC_chances iC_unsures niC_slips iC_throneNode iC_saidWorth iC_unit rC_kind rC_parts rC_partNodes rC_weights rC_weightSums rC_toldWorths rC_steps rC_below rC_above rC_unsureWords rC_unsureWorths)] [(kR_tape, .byte), (kR_keys, .long)] t) (va_A [(oc3 oR iR_faultNumber iR_faultPlace iR_tapeSize rR_tape iR_end iR_tokenKind iR_tokenFrom iR_tokenTo iR_tokenName iR_tokenKey iR_tokenWhole oC iR_courtTold rR_names rR_keys), (arI rR_tape kR_tape 900 fR_tape), (arL rR_keys kR_keys 10 fR_keys), (oc1 oC iC_nodes iC_words iC_chances iC_unsures iC_slips iC_throneNode iC_saidWorth iC_unit rC_kind rC_parts rC_partNodes rC_weights rC_weightSums rC_toldWorths rC_steps rC_below rC_above rC_unsureWords rC_unsureWorths)] sz)) 0 0 (va_A [(oc3 oR iR_faultNumber iR_faultPlace iR_tapeSize rR_tape iR_end iR_tokenKind iR_tokenFrom iR_tokenTo iR_tokenName iR_tokenKey iR_tokenWhole oC iR_courtTold rR_names rR_keys), (arI rR_tape kR_tape 900 fR_tape), (arL rR_keys kR_keys 10 fR_keys), (oc1 oC iC_nodes iC_words iC_chances iC_unsures iC_slips iC_throneNode iC_saidWorth iC_unit rC_kind rC_parts rC_partNodes rC_weights rC_weightSums rC_toldWorths rC_steps rC_below rC_above rC_unsureWords rC_unsureWorths)] sz) := by
  refine Met.ofW (cc := cX3_readCourt) (maxL := 1) (ret := (some .boolean)) pnX3 rfl ?_
  intro p e s m args below meth c s₁ B hml hv
  obtain ⟨rfl, hsz, hP, hK, hD0, hE⟩ := hv
  have hx := B.exec
  have hb := B.bytes
  have hr := B.returns
  have hts : ∀ w ∈ wG, w.before ([.ref oR] : List Value).toArray s = true := fun w h => atoms_spec (ws := Cond.code yX3_readCourt cX3_readCourt 1 (some .boolean) :: wG) B.pre w (List.mem_cons_of_mem _ h)
  have hown : s.vm.findClass RX3 = some m.cls := own_of B.named rfl
  have hlocks := B.notSynchronized
  subst hsz
  have hD := hD0.self (sz := s.heap.size)
  generalize hAe : va_A [(oc3 oR iR_faultNumber iR_faultPlace iR_tapeSize rR_tape iR_end iR_tokenKind iR_tokenFrom iR_tokenTo iR_tokenName iR_tokenKey iR_tokenWhole oC iR_courtTold rR_names rR_keys), (arI rR_tape kR_tape 900 fR_tape), (arL rR_keys kR_keys 10 fR_keys), (oc1 oC iC_nodes iC_words iC_chances iC_unsures iC_slips iC_throneNode iC_saidWorth iC_unit rC_kind rC_parts rC_partNodes rC_weights rC_weightSums rC_toldWorths rC_steps rC_below rC_above rC_unsureWords rC_unsureWorths)] s.heap.size = A at hD hE ⊢
  have hA : ∀ q : Nat, s.heap.size ≤ q → A q := fun q h => by rw [← hAe]; exact Or.inr h
  have hS : va_S A s.heap s.heap [] := va_S.rf
  have hl := lv_entry ([.ref oR]) (n := 1) (Nat.le_of_ble_eq_true rfl)
  rw [lg_entry_eq]
  generalize (lg_sl ([.ref oR]) ++ List.replicate (1 - (lg_sl ([.ref oR])).length) Slot.unset).toArray = ls at hl ⊢
  have hl : lv_has ls 1 [(0, .ref oR)] := hl
  have hG := PX3_readCourt_eq iR_faultNumber iR_faultPlace fR_tape iR_end iR_tokenKind iR_tokenFrom iR_tokenTo iR_tokenName iR_tokenKey iR_tokenWhole iR_courtTold fR_keys iC_slips
  refine lv_aload_n hx hb dX3_readCourt_0 rfl (lv_at hl 0 rfl) ?_
  refine va_get (D := (dC, dI)) (ci := 3) (v := .int iR_courtTold) (C := RX3) (T := TX3) (N := 15) hx hb hts inX3 hown hK hP 0 rfl rfl 12 (by decide) (hts _ wd_206) (fun _ h9 => h9) rfl dX3_readCourt_1 ?_
  refine lv_if_eq (tgt := 13) hx hb dX3_readCourt_4 (by decide) (fun c_1993 => ?_) (fun c_1993 => ?_)
  · skip
    have hG := hG.trans (if_pos c_1993)
    have gc_1993 := ti_eq c_1993 rfl kc_0
    refine lv_aload_n hx hb dX3_readCourt_13 rfl (lv_at hl 0 rfl) ?_
    refine lv_iconst (v := 1) hx hb dX3_readCourt_14 (by decide) ?_
    refine va_put (D := (dC, dI)) (ci := 3) (v := .int 1) (ty := .boolean) (C := RX3) (T := TX3) (N := 15) hx hb hts inX3 tyX3 tyX3_ok nmX3 hown hK hP hD hS 0 rfl rfl 12 (by decide) (hts _ wd_206) (fun _ h9 => h9) rfl (by decide +kernel) rfl rfl (Nat.le_of_ble_eq_true rfl) dX3_readCourt_15 (fun H locs hP hD hS => ?_)
    obtain ⟨hP, hD⟩ := wl2 (ws' := [(oc3 oR iR_faultNumber iR_faultPlace iR_tapeSize rR_tape iR_end iR_tokenKind iR_tokenFrom iR_tokenTo iR_tokenName iR_tokenKey iR_tokenWhole oC 1 rR_names rR_keys), (arI rR_tape kR_tape 900 fR_tape), (arL rR_keys kR_keys 10 fR_keys), (oc1 oC iC_nodes iC_words iC_chances iC_unsures iC_slips iC_throneNode iC_saidWorth iC_unit rC_kind rC_parts rC_partNodes rC_weights rC_weightSums rC_toldWorths rC_steps rC_below rC_above rC_unsureWords rC_unsureWorths)]) hP hD rfl
    refine lv_aload_n hx hb dX3_readCourt_18 rfl (lv_at hl 0 rfl) ?_
    have hMs := ml_of hD [true, true, true, false] (wc := [(oc3 oR iR_faultNumber iR_faultPlace iR_tapeSize rR_tape iR_end iR_tokenKind iR_tokenFrom iR_tokenTo iR_tokenName iR_tokenKey iR_tokenWhole oC 1 rR_names rR_keys), (arI rR_tape kR_tape 900 fR_tape), (arL rR_keys kR_keys 10 fR_keys)]) rfl
    have hFc := va_freeM hD hS hA _ hMs
    refine va_callv (va_runV (As := []) (rest := []) ⟨hx, hb, hml, hown, hts⟩ (tX3_nextToken l dC dI _ oR iR_faultNumber iR_faultPlace iR_tapeSize rR_tape fR_tape kR_tape iR_end iR_tokenKind iR_tokenFrom iR_tokenTo iR_tokenName iR_tokenKey iR_tokenWhole oC 1 rR_names rR_keys fR_keys kR_keys b_iR_tapeSize (by first | decide | omega)) (cwV 0 hts (wd_V wd_220 wd_221 wd_222 wd_15 (wd_c wd_223)) rfl rfl rfl dv_yX3_nextToken_0 ⟨Nat.le_of_ble_eq_true rfl, Nat.le_of_ble_eq_true rfl⟩) ⟨Pw.fb, recvX3 hK hP (q0 := 0) rfl, fun U hU hW => Pw.to (hP.ms _ hMs) (hD.ms _ hMs) hK hE hS hFc hU hW⟩ rfl rfl hl.1 rfl (lv_room (Nat.le_of_ble_eq_true rfl)) dX3_readCourt_19 ⟨Nat.le_of_ble_eq_true rfl, Nat.le_of_ble_eq_true rfl⟩) hS (fun q _ h => hFc q h) hFc (fun u t H locs ht hvm hw hB hz1 hk1 hS => ?_)
    refine ex_6_1 hB (fun x_1994 x_1995 x_1996 y_1997 x_1998 x_1999 e_x_1994_0 hB => ?_)
    obtain ⟨hP, hD⟩ := Bw.goN (ws' := [(oc3 oR iR_faultNumber iR_faultPlace iR_tapeSize rR_tape iR_end x_1994 x_1995 x_1996 y_1997 x_1998 x_1999 oC 1 rR_names rR_keys), (arI rR_tape kR_tape 900 fR_tape), (arL rR_keys kR_keys 10 fR_keys), (oc1 oC iC_nodes iC_words iC_chances iC_unsures iC_slips iC_throneNode iC_saidWorth iC_unit rC_kind rC_parts rC_partNodes rC_weights rC_weightSums rC_toldWorths rC_steps rC_below rC_above rC_unsureWords rC_unsureWorths)]) hB rfl ht hP hD _ hMs hk1 hFc rfl
    clear hz1 hk1 hvm ht hB hMs
    have hG := hG.trans (un6_eq e_x_1994_0)
    refine lv_aload_n hx hb dX3_readCourt_22 rfl (lv_at hl 0 rfl) ?_
    refine va_get (D := (dC, dI)) (ci := 3) (v := .int x_1998) (C := RX3) (T := TX3) (N := 15) hx hb hts inX3 hown hK hP 0 rfl rfl 9 (by decide) (hts _ wd_225) (fun _ h9 => h9) rfl dX3_readCourt_23 ?_
    refine lv_bipush (v := 8) hx hb dX3_readCourt_26 (by decide) ?_
    refine lv_icmp_eq (tgt := 37) hx hb dX3_readCourt_28 (by decide) (fun c_2000 => ?_) (fun c_2000 => ?_)
    · skip
      have hG := hG.trans (if_pos c_2000)
      have gc_2000 := ti_eq c_2000 rfl kc_8
      refine lv_aload_n hx hb dX3_readCourt_37 rfl (lv_at hl 0 rfl) ?_
      have hMs := ml_of hD [true, true, true, false] (wc := [(oc3 oR iR_faultNumber iR_faultPlace iR_tapeSize rR_tape iR_end x_1994 x_1995 x_1996 y_1997 x_1998 x_1999 oC 1 rR_names rR_keys), (arI rR_tape kR_tape 900 fR_tape), (arL rR_keys kR_keys 10 fR_keys)]) rfl
      have hFc := va_freeM hD hS hA _ hMs
      refine va_callv (va_runV (As := []) (rest := []) ⟨hx, hb, hml, hown, hts⟩ (tX3_nextToken l dC dI _ oR iR_faultNumber iR_faultPlace iR_tapeSize rR_tape fR_tape kR_tape iR_end x_1994 x_1995 x_1996 y_1997 x_1998 x_1999 oC 1 rR_names rR_keys fR_keys kR_keys b_iR_tapeSize (by first | decide | omega)) (cwV 0 hts (wd_V wd_220 wd_221 wd_222 wd_15 (wd_c wd_223)) rfl rfl rfl dv_yX3_nextToken_0 ⟨Nat.le_of_ble_eq_true rfl, Nat.le_of_ble_eq_true rfl⟩) ⟨Pw.fb, recvX3 hK hP (q0 := 0) rfl, fun U hU hW => Pw.to (hP.ms _ hMs) (hD.ms _ hMs) hK hE hS hFc hU hW⟩ rfl rfl hl.1 rfl (lv_room (Nat.le_of_ble_eq_true rfl)) dX3_readCourt_38 ⟨Nat.le_of_ble_eq_true rfl, Nat.le_of_ble_eq_true rfl⟩) hS (fun q _ h => hFc q h) hFc (fun u t H locs ht hvm hw hB hz1 hk1 hS => ?_)
      refine ex_6_1 hB (fun x_2001 x_2002 x_2003 y_2004 x_2005 x_2006 e_x_2001_0 hB => ?_)
      obtain ⟨hP, hD⟩ := Bw.goN (ws' := [(oc3 oR iR_faultNumber iR_faultPlace iR_tapeSize rR_tape iR_end x_2001 x_2002 x_2003 y_2004 x_2005 x_2006 oC 1 rR_names rR_keys), (arI rR_tape kR_tape 900 fR_tape), (arL rR_keys kR_keys 10 fR_keys), (oc1 oC iC_nodes iC_words iC_chances iC_unsures iC_slips iC_throneNode iC_saidWorth iC_unit rC_kind rC_parts rC_partNodes rC_weights rC_weightSums rC_toldWorths rC_steps rC_below rC_above rC_unsureWords rC_unsureWorths)]) hB rfl ht hP hD _ hMs hk1 hFc rfl
      clear hz1 hk1 hvm ht hB hMs
      have hG := hG.trans (un6_eq e_x_2001_0)
      refine lv_aload_n hx hb dX3_readCourt_41 rfl (lv_at hl 0 rfl) ?_
      refine lv_iconst (v := 0) hx hb dX3_readCourt_42 (by decide) ?_
      refine lv_bipush (v := 100) hx hb dX3_readCourt_43 (by decide) ?_
      have hMs := ml_of hD [true, false, false, false] (wc := [(oc3 oR iR_faultNumber iR_faultPlace iR_tapeSize rR_tape iR_end x_2001 x_2002 x_2003 y_2004 x_2005 x_2006 oC 1 rR_names rR_keys)]) rfl
      have hFc := va_freeM hD hS hA _ hMs
      refine va_calli (va_runV (As := [.int 0, .int 100]) (rest := []) ⟨hx, hb, hml, hown, hts⟩ (tX3_isWholeWithin l dC dI _ oR iR_faultNumber iR_faultPlace iR_tapeSize rR_tape iR_end x_2001 x_2002 x_2003 y_2004 x_2005 x_2006 oC 1 rR_names rR_keys 0 100 b_iR_tapeSize (by first | decide | omega)) (cwV 2 hts (wd_V wd_263 wd_264 wd_265 wd_15 (wd_c wd_266)) rfl rfl rfl dv_yX3_isWholeWithin_2 ⟨Nat.le_of_ble_eq_true rfl, Nat.le_of_ble_eq_true rfl⟩) ⟨Pw.fb, recvX3 hK hP (q0 := 0) rfl, fun U hU hW => Pw.to (hP.ms _ hMs) (hD.ms _ hMs) (hK.ms [false, false] rfl) hE hS hFc hU hW⟩ rfl rfl hl.1 rfl (lv_room (Nat.le_of_ble_eq_true rfl)) dX3_readCourt_45 ⟨Nat.le_of_ble_eq_true rfl, Nat.le_of_ble_eq_true rfl⟩) hS (fun q _ h => hFc q h) hFc (fun r u t H locs ht hvm hw hB hz1 hk1 hS => ?_)
      have hru9 := hw.2
      have hw := hw.1
      refine ex_2_1 hB (fun x_2007 x_2008 e_x_2007_0 hB => ?_)
      obtain ⟨hP, hD⟩ := Bw.goN (ws' := [(oc3 oR x_2007 x_2008 iR_tapeSize rR_tape iR_end x_2001 x_2002 x_2003 y_2004 x_2005 x_2006 oC 1 rR_names rR_keys), (arI rR_tape kR_tape 900 fR_tape), (arL rR_keys kR_keys 10 fR_keys), (oc1 oC iC_nodes iC_words iC_chances iC_unsures iC_slips iC_throneNode iC_saidWorth iC_unit rC_kind rC_parts rC_partNodes rC_weights rC_weightSums rC_toldWorths rC_steps rC_below rC_above rC_unsureWords rC_unsureWorths)]) hB rfl ht hP hD _ hMs hk1 hFc rfl
      clear hz1 hk1 hvm ht hB hMs
      rw [← hru9] at e_x_2007_0
      obtain ⟨x_2009, rfl⟩ : ∃ z, z = r := ⟨_, rfl⟩
      have hG := hG.trans (un3_eq e_x_2007_0)
      have bx_2009 := hw.1
      have dx_2009 := bz_tb bx_2009
      refine lv_if_ne (tgt := 53) hx hb dX3_readCourt_48 (by decide) (fun c_2010 => ?_) (fun c_2010 => ?_)
      · skip
        have hG := hG.trans (if_neg c_2010)
        have gc_2010 := ti_ne c_2010 rfl kc_0
        refine lv_aload_n hx hb dX3_readCourt_53 rfl (lv_at hl 0 rfl) ?_
        refine va_get (D := (dC, dI)) (ci := 3) (v := .ref oC) (C := RX3) (T := TX3) (N := 15) hx hb hts inX3 hown hK hP 0 rfl rfl 11 (by decide) (hts _ wd_46) (fun _ h9 => h9) rfl dX3_readCourt_54 ?_
        refine lv_aload_n hx hb dX3_readCourt_57 rfl (lv_at hl 0 rfl) ?_
        refine va_get (D := (dC, dI)) (ci := 3) (v := .int x_2006) (C := RX3) (T := TX3) (N := 15) hx hb hts inX3 hown hK hP 0 rfl rfl 10 (by decide) (hts _ wd_245) (fun _ h9 => h9) rfl dX3_readCourt_58 ?_
        refine va_put (D := (dC, dI)) (ci := 1) (v := .int x_2006) (ty := .int) (C := RX1) (T := TX1) (N := 19) hx hb hts inX1 tyX1 tyX1_ok nmX1 hown hK hP hD hS 3 rfl rfl 4 (by decide) (hts _ wd_262) (fun _ h9 => h9) rfl (by decide +kernel) rfl rfl (Nat.le_of_ble_eq_true rfl) dX3_readCourt_61 (fun H locs hP hD hS => ?_)
        obtain ⟨hP, hD⟩ := wl2 (ws' := [(oc3 oR x_2007 x_2008 iR_tapeSize rR_tape iR_end x_2001 x_2002 x_2003 y_2004 x_2005 x_2006 oC 1 rR_names rR_keys), (arI rR_tape kR_tape 900 fR_tape), (arL rR_keys kR_keys 10 fR_keys), (oc1 oC iC_nodes iC_words iC_chances iC_unsures x_2006 iC_throneNode iC_saidWorth iC_unit rC_kind rC_parts rC_partNodes rC_weights rC_weightSums rC_toldWorths rC_steps rC_below rC_above rC_unsureWords rC_unsureWorths)]) hP hD rfl
        refine lv_aload_n hx hb dX3_readCourt_64 rfl (lv_at hl 0 rfl) ?_
        have hMs := ml_of hD [true, true, true, false] (wc := [(oc3 oR x_2007 x_2008 iR_tapeSize rR_tape iR_end x_2001 x_2002 x_2003 y_2004 x_2005 x_2006 oC 1 rR_names rR_keys), (arI rR_tape kR_tape 900 fR_tape), (arL rR_keys kR_keys 10 fR_keys)]) rfl
        have hFc := va_freeM hD hS hA _ hMs
        refine va_callv (va_runV (As := []) (rest := []) ⟨hx, hb, hml, hown, hts⟩ (tX3_nextToken l dC dI _ oR x_2007 x_2008 iR_tapeSize rR_tape fR_tape kR_tape iR_end x_2001 x_2002 x_2003 y_2004 x_2005 x_2006 oC 1 rR_names rR_keys fR_keys kR_keys b_iR_tapeSize (by first | decide | omega)) (cwV 0 hts (wd_V wd_220 wd_221 wd_222 wd_15 (wd_c wd_223)) rfl rfl rfl dv_yX3_nextToken_0 ⟨Nat.le_of_ble_eq_true rfl, Nat.le_of_ble_eq_true rfl⟩) ⟨Pw.fb, recvX3 hK hP (q0 := 0) rfl, fun U hU hW => Pw.to (hP.ms _ hMs) (hD.ms _ hMs) hK hE hS hFc hU hW⟩ rfl rfl hl.1 rfl (lv_room (Nat.le_of_ble_eq_true rfl)) dX3_readCourt_65 ⟨Nat.le_of_ble_eq_true rfl, Nat.le_of_ble_eq_true rfl⟩) hS (fun q _ h => hFc q h) hFc (fun u t H locs ht hvm hw hB hz1 hk1 hS => ?_)
        refine ex_6_1 hB (fun x_2011 x_2012 x_2013 y_2014 x_2015 x_2016 e_x_2011_0 hB => ?_)
        obtain ⟨hP, hD⟩ := Bw.goN (ws' := [(oc3 oR x_2007 x_2008 iR_tapeSize rR_tape iR_end x_2011 x_2012 x_2013 y_2014 x_2015 x_2016 oC 1 rR_names rR_keys), (arI rR_tape kR_tape 900 fR_tape), (arL rR_keys kR_keys 10 fR_keys), (oc1 oC iC_nodes iC_words iC_chances iC_unsures x_2006 iC_throneNode iC_saidWorth iC_unit rC_kind rC_parts rC_partNodes rC_weights rC_weightSums rC_toldWorths rC_steps rC_below rC_above rC_unsureWords rC_unsureWorths)]) hB rfl ht hP hD _ hMs hk1 hFc rfl
        clear hz1 hk1 hvm ht hB hMs
        have hG := hG.trans (un6_eq e_x_2011_0)
        refine lv_iconst (v := 1) hx hb dX3_readCourt_68 (by decide) ?_
        exact wq_z (v := 1) hx hb hr rfl (cI 1) ⟨⟨Or.inr rfl, trivial⟩, (cI_of 1)⟩ (fun t ht hW => ⟨x_2007, x_2008, x_2011, x_2012, x_2013, y_2014, x_2015, x_2016, 1, x_2006, (by decide), (cI_tup hG), Bw.to hP hD hK ht hW⟩) hS dX3_readCourt_69 hlocks
      · skip
        have hG := hG.trans (if_pos c_2010)
        have gc_2010 := ti_eq c_2010 rfl kc_0
        refine lv_iconst (v := 0) hx hb dX3_readCourt_51 (by decide) ?_
        exact wq_z (v := 0) hx hb hr rfl (cI 0) ⟨⟨Or.inl rfl, trivial⟩, (cI_of 0)⟩ (fun t ht hW => ⟨x_2007, x_2008, x_2001, x_2002, x_2003, y_2004, x_2005, x_2006, 1, iC_slips, (by decide), (cI_tup hG), Bw.to hP hD hK ht hW⟩) hS dX3_readCourt_52 hlocks
    · skip
      have hG := hG.trans (if_neg c_2000)
      have gc_2000 := ti_ne c_2000 rfl kc_8
      refine lv_aload_n hx hb dX3_readCourt_31 rfl (lv_at hl 0 rfl) ?_
      refine lv_iconst (v := 1) hx hb dX3_readCourt_32 (by decide) ?_
      have hMs := ml_of hD [true, false, false, false] (wc := [(oc3 oR iR_faultNumber iR_faultPlace iR_tapeSize rR_tape iR_end x_1994 x_1995 x_1996 y_1997 x_1998 x_1999 oC 1 rR_names rR_keys)]) rfl
      have hFc := va_freeM hD hS hA _ hMs
      refine va_calli (va_runV (As := [.int 1]) (rest := []) ⟨hx, hb, hml, hown, hts⟩ (tX3_faulty l dC dI _ oR iR_faultNumber iR_faultPlace iR_tapeSize rR_tape iR_end x_1994 x_1995 x_1996 y_1997 x_1998 x_1999 oC 1 rR_names rR_keys 1 b_iR_tapeSize (by first | decide | omega)) (cwV 1 hts (wd_V wd_254 wd_255 wd_256 wd_15 (wd_c wd_257)) rfl rfl rfl dv_yX3_faulty_1 ⟨Nat.le_of_ble_eq_true rfl, Nat.le_of_ble_eq_true rfl⟩) ⟨Pw.fb, recvX3 hK hP (q0 := 0) rfl, fun U hU hW => Pw.to (hP.ms _ hMs) (hD.ms _ hMs) (hK.ms [false, false] rfl) hE hS hFc hU hW⟩ rfl rfl hl.1 rfl (lv_room (Nat.le_of_ble_eq_true rfl)) dX3_readCourt_33 ⟨Nat.le_of_ble_eq_true rfl, Nat.le_of_ble_eq_true rfl⟩) hS (fun q _ h => hFc q h) hFc (fun r u t H locs ht hvm hw hB hz1 hk1 hS => ?_)
      have hru9 := hw.2
      have hw := hw.1
      refine ex_2_1 hB (fun x_2017 x_2018 e_x_2017_0 hB => ?_)
      obtain ⟨hP, hD⟩ := Bw.goN (ws' := [(oc3 oR x_2017 x_2018 iR_tapeSize rR_tape iR_end x_1994 x_1995 x_1996 y_1997 x_1998 x_1999 oC 1 rR_names rR_keys), (arI rR_tape kR_tape 900 fR_tape), (arL rR_keys kR_keys 10 fR_keys), (oc1 oC iC_nodes iC_words iC_chances iC_unsures iC_slips iC_throneNode iC_saidWorth iC_unit rC_kind rC_parts rC_partNodes rC_weights rC_weightSums rC_toldWorths rC_steps rC_below rC_above rC_unsureWords rC_unsureWorths)]) hB rfl ht hP hD _ hMs hk1 hFc rfl
      clear hz1 hk1 hvm ht hB hMs
      rw [← hru9] at e_x_2017_0
      rcases hw.2 with ⟨rfl, hc_2019⟩
      · skip
        have hG := hG.trans (un3_eq e_x_2017_0)
        exact wq_z (v := 0) hx hb hr rfl (cI 0) ⟨⟨Or.inl rfl, trivial⟩, (cI_of 0)⟩ (fun t ht hW => ⟨x_2017, x_2018, x_1994, x_1995, x_1996, y_1997, x_1998, x_1999, 1, iC_slips, (by decide), (cI_tup hG), Bw.to hP hD hK ht hW⟩) hS dX3_readCourt_36 hlocks
  · skip
    have hG := hG.trans (if_neg c_1993)
    have gc_1993 := ti_ne c_1993 rfl kc_0
    refine lv_aload_n hx hb dX3_readCourt_7 rfl (lv_at hl 0 rfl) ?_
    refine lv_iconst (v := 3) hx hb dX3_readCourt_8 (by decide) ?_
    have hMs := ml_of hD [true, false, false, false] (wc := [(oc3 oR iR_faultNumber iR_faultPlace iR_tapeSize rR_tape iR_end iR_tokenKind iR_tokenFrom iR_tokenTo iR_tokenName iR_tokenKey iR_tokenWhole oC iR_courtTold rR_names rR_keys)]) rfl
    have hFc := va_freeM hD hS hA _ hMs
    refine va_calli (va_runV (As := [.int 3]) (rest := []) ⟨hx, hb, hml, hown, hts⟩ (tX3_faulty l dC dI _ oR iR_faultNumber iR_faultPlace iR_tapeSize rR_tape iR_end iR_tokenKind iR_tokenFrom iR_tokenTo iR_tokenName iR_tokenKey iR_tokenWhole oC iR_courtTold rR_names rR_keys 3 b_iR_tapeSize b_iR_courtTold) (cwV 1 hts (wd_V wd_254 wd_255 wd_256 wd_15 (wd_c wd_257)) rfl rfl rfl dv_yX3_faulty_1 ⟨Nat.le_of_ble_eq_true rfl, Nat.le_of_ble_eq_true rfl⟩) ⟨Pw.fb, recvX3 hK hP (q0 := 0) rfl, fun U hU hW => Pw.to (hP.ms _ hMs) (hD.ms _ hMs) (hK.ms [false, false] rfl) hE hS hFc hU hW⟩ rfl rfl hl.1 rfl (lv_room (Nat.le_of_ble_eq_true rfl)) dX3_readCourt_9 ⟨Nat.le_of_ble_eq_true rfl, Nat.le_of_ble_eq_true rfl⟩) hS (fun q _ h => hFc q h) hFc (fun r u t H locs ht hvm hw hB hz1 hk1 hS => ?_)
    have hru9 := hw.2
    have hw := hw.1
    refine ex_2_1 hB (fun x_2021 x_2022 e_x_2021_0 hB => ?_)
    obtain ⟨hP, hD⟩ := Bw.goN (ws' := [(oc3 oR x_2021 x_2022 iR_tapeSize rR_tape iR_end iR_tokenKind iR_tokenFrom iR_tokenTo iR_tokenName iR_tokenKey iR_tokenWhole oC iR_courtTold rR_names rR_keys), (arI rR_tape kR_tape 900 fR_tape), (arL rR_keys kR_keys 10 fR_keys), (oc1 oC iC_nodes iC_words iC_chances iC_unsures iC_slips iC_throneNode iC_saidWorth iC_unit rC_kind rC_parts rC_partNodes rC_weights rC_weightSums rC_toldWorths rC_steps rC_below rC_above rC_unsureWords rC_unsureWorths)]) hB rfl ht hP hD _ hMs hk1 hFc rfl
    clear hz1 hk1 hvm ht hB hMs
    rw [← hru9] at e_x_2021_0
    rcases hw.2 with ⟨rfl, hc_2023⟩
    · skip
      have hG := hG.trans (un3_eq e_x_2021_0)
      exact wq_z (v := 0) hx hb hr rfl (cI 0) ⟨⟨Or.inl rfl, trivial⟩, (cI_of 0)⟩ (fun t ht hW => ⟨x_2021, x_2022, iR_tokenKind, iR_tokenFrom, iR_tokenTo, iR_tokenName, iR_tokenKey, iR_tokenWhole, iR_courtTold, iC_slips, b_iR_courtTold, (cI_tup hG), Bw.to hP hD hK ht hW⟩) hS dX3_readCourt_12 hlocks
set_option maxHeartbeats 4000000 in
set_option maxRecDepth 100000 in
theorem tX3_readLine (l : Launch) (dC : Nat → ClassId) (dI : Nat → Nat → Nat) (sz : Nat) (oR : Nat) (iR_faultNumber : Int32) (iR_faultPlace : Int32) (iR_tapeSize : Int32) (rR_tape : Nat) (fR_tape : Nat → Int32) (kR_tape : ClassId) (iR_end : Int32) (iR_tokenKind : Int32) (iR_tokenFrom : Int32) (iR_tokenTo : Int32) (iR_tokenName : Int64) (iR_tokenKey : Int32) (iR_tokenWhole : Int32) (oC : Nat) (iR_courtTold : Int32) (rR_names : Nat) (fR_names : Nat → Int64) (kR_names : ClassId) (rR_keys : Nat) (fR_keys : Nat → Int64) (kR_keys : ClassId) (iC_nodes : Int32) (iC_words : Int32) (iC_chances : Int32) (iC_unsures : Int32) (iC_slips : Int32) (iC_throneNode : Int32) (iC_saidWorth : Int32) (iC_unit : Int32) (rC_kind : Nat) (fC_kind : Nat → Int32) (kC_kind : ClassId) (rC_parts : Nat) (fC_parts : Nat → Int32) (kC_parts : ClassId) (rC_partNodes : Nat) (fC_partNodes : Nat → Int32) (kC_partNodes : ClassId) (rC_weights : Nat) (fC_weights : Nat → Int32) (kC_weights : ClassId) (rC_weightSums : Nat) (fC_weightSums : Nat → Int32) (kC_weightSums : ClassId) (rC_toldWorths : Nat) (fC_toldWorths : Nat → Int32) (kC_toldWorths : ClassId) (rC_steps : Nat) (fC_steps : Nat → Int32) (kC_steps : ClassId) (rC_below : Nat) (fC_below : Nat → Int32) (kC_below : ClassId) (rC_above : Nat) (fC_above : Nat → Int32) (kC_above : ClassId) (rC_unsureWords : Nat) (fC_unsureWords : Nat → Int32) (kC_unsureWords : ClassId) (rC_unsureWorths : Nat) (fC_unsureWorths : Nat → Int32) (kC_unsureWorths : ClassId) (b_iR_tapeSize : 0 ≤ iR_tapeSize.toInt ∧ iR_tapeSize.toInt ≤ 900) (b_iR_courtTold : 0 ≤ iR_courtTold.toInt ∧ iR_courtTold.toInt ≤ 1) (b_iC_nodes : 0 ≤ iC_nodes.toInt ∧ iC_nodes.toInt ≤ 18) (b_iC_unsures : 0 ≤ iC_unsures.toInt ∧ iC_unsures.toInt ≤ 4) (b_iC_throneNode : (-1) ≤ iC_throneNode.toInt ∧ iC_throneNode.toInt ≤ 17) (a_fC_parts : ∀ j : Nat, j < 18 → 0 ≤ (fC_parts j).toInt ∧ (fC_parts j).toInt ≤ 4) (a_fC_partNodes : ∀ j : Nat, j < 72 → 0 ≤ (fC_partNodes j).toInt ∧ (fC_partNodes j).toInt ≤ 17) (a_fC_unsureWords : ∀ j : Nat, j < 4 → 0 ≤ (fC_unsureWords j).toInt ∧ (fC_unsureWords j).toInt ≤ 17)  : Met l yX3_readLine (Cond.code yX3_readLine cX3_readLine 1 (some .boolean) :: wG) ({ frames := 5, cells := 0, slots := 0, locals := 114 }) (va_Pc [.ref oR] (Pw dC dI sz [(oc3 oR iR_faultNumber iR_faultPlace iR_tapeSize rR_tape iR_end iR_tokenKind iR_tokenFrom iR_tokenTo iR_tokenName iR_tokenKey iR_tokenWhole oC iR_courtTold rR_names rR_keys), (arI rR_tape kR_tape 900 fR_tape), (arL rR_names kR_names 18 fR_names), (arL rR_keys kR_keys 10 fR_keys), (oc1 oC iC_nodes iC_words iC_chances iC_unsures iC_slips iC_throneNode iC_saidWorth iC_unit rC_kind rC_parts rC_partNodes rC_weights rC_weightSums rC_toldWorths rC_steps rC_below rC_above rC_unsureWords rC_unsureWorths), (arI rC_kind kC_kind 18 fC_kind), (arI rC_parts kC_parts 18 fC_parts), (arI rC_partNodes kC_partNodes 72 fC_partNodes), (arI rC_weights kC_weights 72 fC_weights), (arI rC_weightSums kC_weightSums 18 fC_weightSums), (arI rC_toldWorths kC_toldWorths 18 fC_toldWorths), (arI rC_steps kC_steps 18 fC_steps), (arI rC_below kC_below 18 fC_below), (arI rC_above kC_above 18 fC_above), (arI rC_unsureWords kC_unsureWords 4 fC_unsureWords), (arI rC_unsureWorths kC_unsureWorths 4 fC_unsureWorths)] [(kR_tape, .byte), (kR_names, .long), (kR_keys, .long), (kC_kind, .int), (kC_parts, .int), (kC_partNodes, .int), (kC_weights, .int), (kC_weightSums, .int), (kC_toldWorths, .int), (kC_steps, .int), (kC_below, .int), (kC_above, .int), (kC_unsureWords, .int), (kC_unsureWorths, .int)])) (va_Qi (fun (r : Int32) (u : Nat) => ((r = 0 ∨ r = 1) ∧ True) ∧ r = Int32.ofNat u) (fun (u : Nat) (t : State) => ∃ (niR_faultNumber : Int32) (niR_faultPlace : Int32) (niR_tokenKind : Int32) (niR_tokenFrom : Int32) (niR_tokenTo : Int32) (niR_tokenName : Int64) (niR_tokenKey : Int32) (niR_tokenWhole : Int32) (niR_courtTold : Int32) (nfR_names : Nat → Int64) (niC_nodes : Int32) (niC_words : Int32) (niC_chances : Int32) (niC_unsures : Int32) (niC_slips : Int32) (niC_throneNode : Int32) (niC_saidWorth : Int32) (niC_unit : Int32) (nfC_kind : Nat → Int32) (nfC_parts : Nat → Int32) (nfC_partNodes : Nat → Int32) (nfC_weights : Nat → Int32) (nfC_weightSums : Nat → Int32) (nfC_toldWorths : Nat → Int32) (nfC_steps : Nat → Int32) (nfC_below : Nat → Int32) (nfC_above : Nat → Int32) (nfC_unsureWords : Nat → Int32) (nfC_unsureWorths : Nat → Int32), (0 ≤ niR_courtTold.toInt ∧ niR_courtTold.toInt ≤ 1) ∧ (0 ≤ niC_nodes.toInt ∧ niC_nodes.toInt ≤ 18) ∧ (0 ≤ niC_unsures.toInt ∧ niC_unsures.toInt ≤ 4) ∧ ((-1) ≤ niC_throneNode.toInt ∧ niC_throneNode.toInt ≤ 17) ∧ (∀ j : Nat, j < 18 → 0 ≤ (nfC_parts j).toInt ∧ (nfC_parts j).toInt ≤ 4) ∧ (∀ j : Nat, j < 72 → 0 ≤ (nfC_partNodes j).toInt ∧ (nfC_partNodes j).toInt ≤ 17) ∧ (∀ j : Nat, j < 4 → 0 ≤ (nfC_unsureWords j).toInt ∧ (nfC_unsureWords j).toInt ≤ 17) ∧ (PX3_readLine iR_faultNumber iR_faultPlace fR_tape iR_end iR_tokenKind iR_tokenFrom iR_tokenTo iR_tokenName iR_tokenKey iR_tokenWhole iR_courtTold fR_names fR_keys iC_nodes iC_words iC_chances iC_unsures iC_slips iC_throneNode iC_saidWorth iC_unit fC_kind fC_parts fC_partNodes fC_weights fC_weightSums fC_toldWorths fC_steps fC_below fC_above fC_unsureWords fC_unsureWorths = (Int32.ofNat u, niR_faultNumber, niR_faultPlace, niR_tokenKind, niR_tokenFrom, niR_tokenTo, niR_tokenName, niR_tokenKey, niR_tokenWhole, niR_courtTold, nfR_names, niC_nodes, niC_words, niC_chances, niC_unsures, niC_slips, niC_throneNode, niC_saidWorth, niC_unit, nfC_kind, nfC_parts, nfC_partNodes, nfC_weights, nfC_weightSums, nfC_toldWorths, nfC_steps, nfC_below, nfC_above, nfC_unsureWords, nfC_unsureWorths)) ∧ Bw dC dI (va_A [(oc3 oR iR_faultNumber iR_faultPlace iR_tapeSize rR_tape iR_end iR_tokenKind iR_tokenFrom iR_tokenTo iR_tokenName iR_tokenKey iR_tokenWhole oC iR_courtTold rR_names rR_keys), (arI rR_tape kR_tape 900 fR_tape), (arL rR_names kR_names 18 fR_names), (arL rR_keys kR_keys 10 fR_keys), (oc1 oC iC_nodes iC_words iC_chances iC_unsures iC_slips iC_throneNode iC_saidWorth iC_unit rC_kind rC_parts rC_partNodes rC_weights rC_weightSums rC_toldWorths rC_steps rC_below rC_above rC_unsureWords rC_unsureWorths), (arI rC_kind kC_kind 18 fC_kind), (arI rC_parts kC_parts 18 fC_parts), (arI rC_partNodes kC_partNodes 72 fC_partNodes), (arI rC_weights kC_weights 72 fC_weights), (arI rC_weightSums kC_weightSums 18 fC_weightSums), (arI rC_toldWorths kC_toldWorths 18 fC_toldWorths), (arI rC_steps kC_steps 18 fC_steps), (arI rC_below kC_below 18 fC_below), (arI rC_above kC_above 18 fC_above), (arI rC_unsureWords kC_unsureWords 4 fC_unsureWords), (arI rC_unsureWorths kC_unsureWorths 4 fC_unsureWorths)] sz) [(oc3 oR niR_faultNumber niR_faultPlace iR_tapeSize rR_tape iR_end niR_tokenKind niR_tokenFrom niR_tokenTo niR_tokenName niR_tokenKey niR_tokenWhole oC niR_courtTold rR_names rR_keys), (arI rR_tape kR_tape 900 fR_tape), (arL rR_names kR_names 18 nfR_names), (arL rR_keys kR_keys 10 fR_keys), (oc1 oC niC_nodes niC_words niC_chances niC_unsures niC_slips niC_throneNode niC_saidWorth niC_unit rC_kind rC_parts rC_partNodes rC_weights rC_weightSums rC_toldWorths rC_steps rC_below rC_above rC_unsureWords rC_unsureWorths), (arI rC_kind kC_kind 18 nfC_kind), (arI rC_parts kC_parts 18 nfC_parts), (arI rC_partNodes kC_partNodes 72 nfC_partNodes), (arI rC_weights kC_weights 72 nfC_weights), (arI rC_weightSums kC_weightSums 18 nfC_weightSums), (arI rC_toldWorths kC_toldWorths 18 nfC_toldWorths), (arI rC_steps kC_steps 18 nfC_steps), (arI rC_below kC_below 18 nfC_below), (arI rC_above kC_above 18 nfC_above), (arI rC_unsureWords kC_unsureWords 4 nfC_unsureWords), (arI rC_unsureWorths kC_unsureWorths 4 nfC_unsureWorths)] [(kR_tape, .byte), (kR_names, .long), (kR_keys, .long), (kC_kind, .int), (kC_parts, .int), (kC_partNodes, .int), (kC_weights, .int), (kC_weightSums, .int), (kC_toldWorths, .int), (kC_steps, .int), (kC_below, .int), (kC_above, .int), (kC_unsureWords, .int), (kC_unsureWorths, .int)] t) (va_A [(oc3 oR iR_faultNumber iR_faultPlace iR_tapeSize rR_tape iR_end iR_tokenKind iR_tokenFrom iR_tokenTo iR_tokenName iR_tokenKey iR_tokenWhole oC iR_courtTold rR_names rR_keys), (arI rR_tape kR_tape 900 fR_tape), (arL rR_names kR_names 18 fR_names), (arL rR_keys kR_keys 10 fR_keys), (oc1 oC iC_nodes iC_words iC_chances iC_unsures iC_slips iC_throneNode iC_saidWorth iC_unit rC_kind rC_parts rC_partNodes rC_weights rC_weightSums rC_toldWorths rC_steps rC_below rC_above rC_unsureWords rC_unsureWorths), (arI rC_kind kC_kind 18 fC_kind), (arI rC_parts kC_parts 18 fC_parts), (arI rC_partNodes kC_partNodes 72 fC_partNodes), (arI rC_weights kC_weights 72 fC_weights), (arI rC_weightSums kC_weightSums 18 fC_weightSums), (arI rC_toldWorths kC_toldWorths 18 fC_toldWorths), (arI rC_steps kC_steps 18 fC_steps), (arI rC_below kC_below 18 fC_below), (arI rC_above kC_above 18 fC_above), (arI rC_unsureWords kC_unsureWords 4 fC_unsureWords), (arI rC_unsureWorths kC_unsureWorths 4 fC_unsureWorths)] sz)) 0 0 (va_A [(oc3 oR iR_faultNumber iR_faultPlace iR_tapeSize rR_tape iR_end iR_tokenKind iR_tokenFrom iR_tokenTo iR_tokenName iR_tokenKey iR_tokenWhole oC iR_courtTold rR_names rR_keys), (arI rR_tape kR_tape 900 fR_tape), (arL rR_names kR_names 18 fR_names), (arL rR_keys kR_keys 10 fR_keys), (oc1 oC iC_nodes iC_words iC_chances iC_unsures iC_slips iC_throneNode iC_saidWorth iC_unit rC_kind rC_parts rC_partNodes rC_weights rC_weightSums rC_toldWorths rC_steps rC_below rC_above rC_unsureWords rC_unsureWorths), (arI rC_kind kC_kind 18 fC_kind), (arI rC_parts kC_parts 18 fC_parts), (arI rC_partNodes kC_partNodes 72 fC_partNodes), (arI rC_weights kC_weights 72 fC_weights), (arI rC_weightSums kC_weightSums 18 fC_weightSums), (arI rC_toldWorths kC_toldWorths 18 fC_toldWorths), (arI rC_steps kC_steps 18 fC_steps), (arI rC_below kC_below 18 fC_below), (arI rC_above kC_above 18 fC_above), (arI rC_unsureWords kC_unsureWords 4 fC_unsureWords), (arI rC_unsureWorths kC_unsureWorths 4 fC_unsureWorths)] sz) := by
  refine Met.ofW (cc := cX3_readLine) (maxL := 1) (ret := (some .boolean)) pnX3 rfl ?_
  intro p e s m args below meth c s₁ B hml hv
  obtain ⟨rfl, hsz, hP, hK, hD0, hE⟩ := hv
  have hx := B.exec
  have hb := B.bytes
  have hr := B.returns
  have hts : ∀ w ∈ wG, w.before ([.ref oR] : List Value).toArray s = true := fun w h => atoms_spec (ws := Cond.code yX3_readLine cX3_readLine 1 (some .boolean) :: wG) B.pre w (List.mem_cons_of_mem _ h)
  have hown : s.vm.findClass RX3 = some m.cls := own_of B.named rfl
  have hlocks := B.notSynchronized
  subst hsz
  have hD := hD0.self (sz := s.heap.size)
  generalize hAe : va_A [(oc3 oR iR_faultNumber iR_faultPlace iR_tapeSize rR_tape iR_end iR_tokenKind iR_tokenFrom iR_tokenTo iR_tokenName iR_tokenKey iR_tokenWhole oC iR_courtTold rR_names rR_keys), (arI rR_tape kR_tape 900 fR_tape), (arL rR_names kR_names 18 fR_names), (arL rR_keys kR_keys 10 fR_keys), (oc1 oC iC_nodes iC_words iC_chances iC_unsures iC_slips iC_throneNode iC_saidWorth iC_unit rC_kind rC_parts rC_partNodes rC_weights rC_weightSums rC_toldWorths rC_steps rC_below rC_above rC_unsureWords rC_unsureWorths), (arI rC_kind kC_kind 18 fC_kind), (arI rC_parts kC_parts 18 fC_parts), (arI rC_partNodes kC_partNodes 72 fC_partNodes), (arI rC_weights kC_weights 72 fC_weights), (arI rC_weightSums kC_weightSums 18 fC_weightSums), (arI rC_toldWorths kC_toldWorths 18 fC_toldWorths), (arI rC_steps kC_steps 18 fC_steps), (arI rC_below kC_below 18 fC_below), (arI rC_above kC_above 18 fC_above), (arI rC_unsureWords kC_unsureWords 4 fC_unsureWords), (arI rC_unsureWorths kC_unsureWorths 4 fC_unsureWorths)] s.heap.size = A at hD hE ⊢
  have hA : ∀ q : Nat, s.heap.size ≤ q → A q := fun q h => by rw [← hAe]; exact Or.inr h
  have hS : va_S A s.heap s.heap [] := va_S.rf
  have hl := lv_entry ([.ref oR]) (n := 1) (Nat.le_of_ble_eq_true rfl)
  rw [lg_entry_eq]
  generalize (lg_sl ([.ref oR]) ++ List.replicate (1 - (lg_sl ([.ref oR])).length) Slot.unset).toArray = ls at hl ⊢
  have hl : lv_has ls 1 [(0, .ref oR)] := hl
  have hG := PX3_readLine_eq iR_faultNumber iR_faultPlace fR_tape iR_end iR_tokenKind iR_tokenFrom iR_tokenTo iR_tokenName iR_tokenKey iR_tokenWhole iR_courtTold fR_names fR_keys iC_nodes iC_words iC_chances iC_unsures iC_slips iC_throneNode iC_saidWorth iC_unit fC_kind fC_parts fC_partNodes fC_weights fC_weightSums fC_toldWorths fC_steps fC_below fC_above fC_unsureWords fC_unsureWorths
  refine lv_aload_n hx hb dX3_readLine_0 rfl (lv_at hl 0 rfl) ?_
  have hMs := ml_of hD [true, false, false, false, false, false, false, false, false, false, false, false, false, false, false, false] (wc := [(oc3 oR iR_faultNumber iR_faultPlace iR_tapeSize rR_tape iR_end iR_tokenKind iR_tokenFrom iR_tokenTo iR_tokenName iR_tokenKey iR_tokenWhole oC iR_courtTold rR_names rR_keys)]) rfl
  have hFc := va_freeM hD hS hA _ hMs
  refine va_calli (va_runV (As := []) (rest := []) ⟨hx, hb, hml, hown, hts⟩ (tX3_isLineKey l dC dI _ oR iR_faultNumber iR_faultPlace iR_tapeSize rR_tape iR_end iR_tokenKind iR_tokenFrom iR_tokenTo iR_tokenName iR_tokenKey iR_tokenWhole oC iR_courtTold rR_names rR_keys b_iR_tapeSize b_iR_courtTold) (cwV 0 hts (wd_V wd_250 wd_251 wd_252 wd_15 (wd_c wd_253)) rfl rfl rfl dv_yX3_isLineKey_0 ⟨Nat.le_of_ble_eq_true rfl, Nat.le_of_ble_eq_true rfl⟩) ⟨Pw.fb, recvX3 hK hP (q0 := 0) rfl, fun U hU hW => Pw.to (hP.ms _ hMs) (hD.ms _ hMs) (hK.ms [false, false, false, false, false, false, false, false, false, false, false, false, false, false] rfl) hE hS hFc hU hW⟩ rfl rfl hl.1 rfl (lv_room (Nat.le_of_ble_eq_true rfl)) dX3_readLine_1 ⟨Nat.le_of_ble_eq_true rfl, Nat.le_of_ble_eq_true rfl⟩) hS (fun q _ h => hFc q h) hFc (fun r u t H locs ht hvm hw hB hz1 hk1 hS => ?_)
  have hru9 := hw.2
  have hw := hw.1
  obtain ⟨hP, hD⟩ := Bw.goN (ws' := [(oc3 oR iR_faultNumber iR_faultPlace iR_tapeSize rR_tape iR_end iR_tokenKind iR_tokenFrom iR_tokenTo iR_tokenName iR_tokenKey iR_tokenWhole oC iR_courtTold rR_names rR_keys), (arI rR_tape kR_tape 900 fR_tape), (arL rR_names kR_names 18 fR_names), (arL rR_keys kR_keys 10 fR_keys), (oc1 oC iC_nodes iC_words iC_chances iC_unsures iC_slips iC_throneNode iC_saidWorth iC_unit rC_kind rC_parts rC_partNodes rC_weights rC_weightSums rC_toldWorths rC_steps rC_below rC_above rC_unsureWords rC_unsureWorths), (arI rC_kind kC_kind 18 fC_kind), (arI rC_parts kC_parts 18 fC_parts), (arI rC_partNodes kC_partNodes 72 fC_partNodes), (arI rC_weights kC_weights 72 fC_weights), (arI rC_weightSums kC_weightSums 18 fC_weightSums), (arI rC_toldWorths kC_toldWorths 18 fC_toldWorths), (arI rC_steps kC_steps 18 fC_steps), (arI rC_below kC_below 18 fC_below), (arI rC_above kC_above 18 fC_above), (arI rC_unsureWords kC_unsureWords 4 fC_unsureWords), (arI rC_unsureWorths kC_unsureWorths 4 fC_unsureWorths)]) hB rfl ht hP hD _ hMs hk1 hFc rfl
  clear hz1 hk1 hvm ht hB hMs
  obtain ⟨x_2321, rfl⟩ : ∃ z, z = r := ⟨_, rfl⟩
  have hG := hG.trans (lt_eq hru9.symm)
  have bx_2321 := hw.1
  have dx_2321 := bz_tb bx_2321
  refine lv_if_ne (tgt := 13) hx hb dX3_readLine_4 (by decide) (fun c_2322 => ?_) (fun c_2322 => ?_)
  · skip
    have hG := hG.trans (if_neg c_2322)
    have gc_2322 := ti_ne c_2322 rfl kc_0
    refine lv_aload_n hx hb dX3_readLine_13 rfl (lv_at hl 0 rfl) ?_
    refine va_get (D := (dC, dI)) (ci := 3) (v := .int iR_courtTold) (C := RX3) (T := TX3) (N := 15) hx hb hts inX3 hown hK hP 0 rfl rfl 12 (by decide) (hts _ wd_206) (fun _ h9 => h9) rfl dX3_readLine_14 ?_
    refine lv_if_ne (tgt := 35) hx hb dX3_readLine_17 (by decide) (fun c_2323 => ?_) (fun c_2323 => ?_)
    · skip
      have hG := hG.trans (if_neg c_2323)
      have gc_2323 := ti_ne c_2323 rfl kc_0
      refine lv_aload_n hx hb dX3_readLine_35 rfl (lv_at hl 0 rfl) ?_
      refine va_get (D := (dC, dI)) (ci := 3) (v := .int iR_tokenKey) (C := RX3) (T := TX3) (N := 15) hx hb hts inX3 hown hK hP 0 rfl rfl 9 (by decide) (hts _ wd_225) (fun _ h9 => h9) rfl dX3_readLine_36 ?_
      rcases (show iR_tokenKey.toInt < 0 ∨ 6 < iR_tokenKey.toInt ∨ iR_tokenKey.toInt = 0 ∨ iR_tokenKey.toInt = 1 ∨ iR_tokenKey.toInt = 2 ∨ iR_tokenKey.toInt = 3 ∨ iR_tokenKey.toInt = 4 ∨ iR_tokenKey.toInt = 5 ∨ iR_tokenKey.toInt = 6 by omega) with h_s | h_s | h_s | h_s | h_s | h_s | h_s | h_s | h_s
      · skip
        have hG := hG.trans (sw_out (by first | exact Or.inl h_s | exact Or.inr (by show ((0 : Int) + (7 : Nat) ≤ _); omega)))
        refine lv_tableOut (tgt := 118) hx hb dX3_readLine_39 (Or.inl h_s) (by decide) ?_
        refine lv_aload_n hx hb dX3_readLine_118 rfl (lv_at hl 0 rfl) ?_
        have hMs := ml_of hD [true, true, false, true, true, false, false, false, false, false, false, false, false, false, false, false] (wc := [(oc3 oR iR_faultNumber iR_faultPlace iR_tapeSize rR_tape iR_end iR_tokenKind iR_tokenFrom iR_tokenTo iR_tokenName iR_tokenKey iR_tokenWhole oC iR_courtTold rR_names rR_keys), (arI rR_tape kR_tape 900 fR_tape), (arL rR_keys kR_keys 10 fR_keys), (oc1 oC iC_nodes iC_words iC_chances iC_unsures iC_slips iC_throneNode iC_saidWorth iC_unit rC_kind rC_parts rC_partNodes rC_weights rC_weightSums rC_toldWorths rC_steps rC_below rC_above rC_unsureWords rC_unsureWorths)]) rfl
        have hFc := va_freeM hD hS hA _ hMs
        refine va_calli (va_runV (As := []) (rest := []) ⟨hx, hb, hml, hown, hts⟩ (tX3_readSaid l dC dI _ oR iR_faultNumber iR_faultPlace iR_tapeSize rR_tape fR_tape kR_tape iR_end iR_tokenKind iR_tokenFrom iR_tokenTo iR_tokenName iR_tokenKey iR_tokenWhole oC iR_courtTold rR_names rR_keys fR_keys kR_keys iC_nodes iC_words iC_chances iC_unsures iC_slips iC_throneNode iC_saidWorth iC_unit rC_kind rC_parts rC_partNodes rC_weights rC_weightSums rC_toldWorths rC_steps rC_below rC_above rC_unsureWords rC_unsureWorths b_iR_tapeSize b_iR_courtTold b_iC_nodes b_iC_unsures b_iC_throneNode) (cwV 0 hts (wd_V wd_351 wd_352 wd_353 wd_15 (wd_c wd_354)) rfl rfl rfl dv_yX3_readSaid_0 ⟨Nat.le_of_ble_eq_true rfl, Nat.le_of_ble_eq_true rfl⟩) ⟨Pw.fb, recvX3 hK hP (q0 := 0) rfl, fun U hU hW => Pw.to (hP.ms _ hMs) (hD.ms _ hMs) (hK.ms [true, false, true, false, false, false, false, false, false, false, false, false, false, false] rfl) hE hS hFc hU hW⟩ rfl rfl hl.1 rfl (lv_room (Nat.le_of_ble_eq_true rfl)) dX3_readLine_119 ⟨Nat.le_of_ble_eq_true rfl, Nat.le_of_ble_eq_true rfl⟩) hS (fun q _ h => hFc q h) hFc (fun r u t H locs ht hvm hw hB hz1 hk1 hS => ?_)
        have hru9 := hw.2
        have hw := hw.1
        refine ex_9_1 hB (fun x_2324 x_2325 x_2326 x_2327 x_2328 y_2329 x_2330 x_2331 x_2332 e_x_2324_0 hB => ?_)
        obtain ⟨hP, hD⟩ := Bw.goN (ws' := [(oc3 oR x_2324 x_2325 iR_tapeSize rR_tape iR_end x_2326 x_2327 x_2328 y_2329 x_2330 x_2331 oC iR_courtTold rR_names rR_keys), (arI rR_tape kR_tape 900 fR_tape), (arL rR_names kR_names 18 fR_names), (arL rR_keys kR_keys 10 fR_keys), (oc1 oC iC_nodes iC_words iC_chances iC_unsures iC_slips iC_throneNode x_2332 iC_unit rC_kind rC_parts rC_partNodes rC_weights rC_weightSums rC_toldWorths rC_steps rC_below rC_above rC_unsureWords rC_unsureWorths), (arI rC_kind kC_kind 18 fC_kind), (arI rC_parts kC_parts 18 fC_parts), (arI rC_partNodes kC_partNodes 72 fC_partNodes), (arI rC_weights kC_weights 72 fC_weights), (arI rC_weightSums kC_weightSums 18 fC_weightSums), (arI rC_toldWorths kC_toldWorths 18 fC_toldWorths), (arI rC_steps kC_steps 18 fC_steps), (arI rC_below kC_below 18 fC_below), (arI rC_above kC_above 18 fC_above), (arI rC_unsureWords kC_unsureWords 4 fC_unsureWords), (arI rC_unsureWorths kC_unsureWorths 4 fC_unsureWorths)]) hB rfl ht hP hD _ hMs hk1 hFc rfl
        clear hz1 hk1 hvm ht hB hMs
        rw [← hru9] at e_x_2324_0
        obtain ⟨x_2333, rfl⟩ : ∃ z, z = r := ⟨_, rfl⟩
        have hG := hG.trans (un10_eq e_x_2324_0)
        have bx_2333 := hw.1
        have dx_2333 := bz_tb bx_2333
        exact wq_z (v := x_2333) hx hb hr (bz_nar bx_2333) (cI x_2333) ⟨⟨bx_2333, trivial⟩, (cI_of x_2333)⟩ (fun t ht hW => ⟨x_2324, x_2325, x_2326, x_2327, x_2328, y_2329, x_2330, x_2331, iR_courtTold, fR_names, iC_nodes, iC_words, iC_chances, iC_unsures, iC_slips, iC_throneNode, x_2332, iC_unit, fC_kind, fC_parts, fC_partNodes, fC_weights, fC_weightSums, fC_toldWorths, fC_steps, fC_below, fC_above, fC_unsureWords, fC_unsureWorths, b_iR_courtTold, b_iC_nodes, b_iC_unsures, b_iC_throneNode, a_fC_parts, a_fC_partNodes, a_fC_unsureWords, (cI_tup hG), Bw.to hP hD hK ht hW⟩) hS dX3_readLine_122 hlocks
      · skip
        have hG := hG.trans (sw_out (by first | exact Or.inl h_s | exact Or.inr (by show ((0 : Int) + (7 : Nat) ≤ _); omega)))
        refine lv_tableOut (tgt := 118) hx hb dX3_readLine_39 (Or.inr h_s) (by decide) ?_
        refine lv_aload_n hx hb dX3_readLine_118 rfl (lv_at hl 0 rfl) ?_
        have hMs := ml_of hD [true, true, false, true, true, false, false, false, false, false, false, false, false, false, false, false] (wc := [(oc3 oR iR_faultNumber iR_faultPlace iR_tapeSize rR_tape iR_end iR_tokenKind iR_tokenFrom iR_tokenTo iR_tokenName iR_tokenKey iR_tokenWhole oC iR_courtTold rR_names rR_keys), (arI rR_tape kR_tape 900 fR_tape), (arL rR_keys kR_keys 10 fR_keys), (oc1 oC iC_nodes iC_words iC_chances iC_unsures iC_slips iC_throneNode iC_saidWorth iC_unit rC_kind rC_parts rC_partNodes rC_weights rC_weightSums rC_toldWorths rC_steps rC_below rC_above rC_unsureWords rC_unsureWorths)]) rfl
        have hFc := va_freeM hD hS hA _ hMs
        refine va_calli (va_runV (As := []) (rest := []) ⟨hx, hb, hml, hown, hts⟩ (tX3_readSaid l dC dI _ oR iR_faultNumber iR_faultPlace iR_tapeSize rR_tape fR_tape kR_tape iR_end iR_tokenKind iR_tokenFrom iR_tokenTo iR_tokenName iR_tokenKey iR_tokenWhole oC iR_courtTold rR_names rR_keys fR_keys kR_keys iC_nodes iC_words iC_chances iC_unsures iC_slips iC_throneNode iC_saidWorth iC_unit rC_kind rC_parts rC_partNodes rC_weights rC_weightSums rC_toldWorths rC_steps rC_below rC_above rC_unsureWords rC_unsureWorths b_iR_tapeSize b_iR_courtTold b_iC_nodes b_iC_unsures b_iC_throneNode) (cwV 0 hts (wd_V wd_351 wd_352 wd_353 wd_15 (wd_c wd_354)) rfl rfl rfl dv_yX3_readSaid_0 ⟨Nat.le_of_ble_eq_true rfl, Nat.le_of_ble_eq_true rfl⟩) ⟨Pw.fb, recvX3 hK hP (q0 := 0) rfl, fun U hU hW => Pw.to (hP.ms _ hMs) (hD.ms _ hMs) (hK.ms [true, false, true, false, false, false, false, false, false, false, false, false, false, false] rfl) hE hS hFc hU hW⟩ rfl rfl hl.1 rfl (lv_room (Nat.le_of_ble_eq_true rfl)) dX3_readLine_119 ⟨Nat.le_of_ble_eq_true rfl, Nat.le_of_ble_eq_true rfl⟩) hS (fun q _ h => hFc q h) hFc (fun r u t H locs ht hvm hw hB hz1 hk1 hS => ?_)
        have hru9 := hw.2
        have hw := hw.1
        refine ex_9_1 hB (fun x_2334 x_2335 x_2336 x_2337 x_2338 y_2339 x_2340 x_2341 x_2342 e_x_2334_0 hB => ?_)
        obtain ⟨hP, hD⟩ := Bw.goN (ws' := [(oc3 oR x_2334 x_2335 iR_tapeSize rR_tape iR_end x_2336 x_2337 x_2338 y_2339 x_2340 x_2341 oC iR_courtTold rR_names rR_keys), (arI rR_tape kR_tape 900 fR_tape), (arL rR_names kR_names 18 fR_names), (arL rR_keys kR_keys 10 fR_keys), (oc1 oC iC_nodes iC_words iC_chances iC_unsures iC_slips iC_throneNode x_2342 iC_unit rC_kind rC_parts rC_partNodes rC_weights rC_weightSums rC_toldWorths rC_steps rC_below rC_above rC_unsureWords rC_unsureWorths), (arI rC_kind kC_kind 18 fC_kind), (arI rC_parts kC_parts 18 fC_parts), (arI rC_partNodes kC_partNodes 72 fC_partNodes), (arI rC_weights kC_weights 72 fC_weights), (arI rC_weightSums kC_weightSums 18 fC_weightSums), (arI rC_toldWorths kC_toldWorths 18 fC_toldWorths), (arI rC_steps kC_steps 18 fC_steps), (arI rC_below kC_below 18 fC_below), (arI rC_above kC_above 18 fC_above), (arI rC_unsureWords kC_unsureWords 4 fC_unsureWords), (arI rC_unsureWorths kC_unsureWorths 4 fC_unsureWorths)]) hB rfl ht hP hD _ hMs hk1 hFc rfl
        clear hz1 hk1 hvm ht hB hMs
        rw [← hru9] at e_x_2334_0
        obtain ⟨x_2343, rfl⟩ : ∃ z, z = r := ⟨_, rfl⟩
        have hG := hG.trans (un10_eq e_x_2334_0)
        have bx_2343 := hw.1
        have dx_2343 := bz_tb bx_2343
        exact wq_z (v := x_2343) hx hb hr (bz_nar bx_2343) (cI x_2343) ⟨⟨bx_2343, trivial⟩, (cI_of x_2343)⟩ (fun t ht hW => ⟨x_2334, x_2335, x_2336, x_2337, x_2338, y_2339, x_2340, x_2341, iR_courtTold, fR_names, iC_nodes, iC_words, iC_chances, iC_unsures, iC_slips, iC_throneNode, x_2342, iC_unit, fC_kind, fC_parts, fC_partNodes, fC_weights, fC_weightSums, fC_toldWorths, fC_steps, fC_below, fC_above, fC_unsureWords, fC_unsureWorths, b_iR_courtTold, b_iC_nodes, b_iC_unsures, b_iC_throneNode, a_fC_parts, a_fC_partNodes, a_fC_unsureWords, (cI_tup hG), Bw.to hP hD hK ht hW⟩) hS dX3_readLine_122 hlocks
      · skip
        have hG := hG.trans (sw_in (j := 0) (h_s.trans (by decide)) rfl)
        refine lv_tableIn (off := 46) (tgt := 85) hx hb dX3_readLine_39 (by rw [h_s]; decide) (by rw [h_s]; decide) (by rw [h_s]; rfl) (by decide) ?_
        refine lv_aload_n hx hb dX3_readLine_85 rfl (lv_at hl 0 rfl) ?_
        have hMs := ml_of hD [true, true, true, true, true, true, true, false, false, true, true, true, true, true, false, false] (wc := [(oc3 oR iR_faultNumber iR_faultPlace iR_tapeSize rR_tape iR_end iR_tokenKind iR_tokenFrom iR_tokenTo iR_tokenName iR_tokenKey iR_tokenWhole oC iR_courtTold rR_names rR_keys), (arI rR_tape kR_tape 900 fR_tape), (arL rR_names kR_names 18 fR_names), (arL rR_keys kR_keys 10 fR_keys), (oc1 oC iC_nodes iC_words iC_chances iC_unsures iC_slips iC_throneNode iC_saidWorth iC_unit rC_kind rC_parts rC_partNodes rC_weights rC_weightSums rC_toldWorths rC_steps rC_below rC_above rC_unsureWords rC_unsureWorths), (arI rC_kind kC_kind 18 fC_kind), (arI rC_parts kC_parts 18 fC_parts), (arI rC_weightSums kC_weightSums 18 fC_weightSums), (arI rC_toldWorths kC_toldWorths 18 fC_toldWorths), (arI rC_steps kC_steps 18 fC_steps), (arI rC_below kC_below 18 fC_below), (arI rC_above kC_above 18 fC_above)]) rfl
        have hFc := va_freeM hD hS hA _ hMs
        refine va_calli (va_runV (As := []) (rest := []) ⟨hx, hb, hml, hown, hts⟩ (tX3_readWord l dC dI _ oR iR_faultNumber iR_faultPlace iR_tapeSize rR_tape fR_tape kR_tape iR_end iR_tokenKind iR_tokenFrom iR_tokenTo iR_tokenName iR_tokenKey iR_tokenWhole oC iR_courtTold rR_names fR_names kR_names rR_keys fR_keys kR_keys iC_nodes iC_words iC_chances iC_unsures iC_slips iC_throneNode iC_saidWorth iC_unit rC_kind fC_kind kC_kind rC_parts fC_parts kC_parts rC_partNodes rC_weights rC_weightSums fC_weightSums kC_weightSums rC_toldWorths fC_toldWorths kC_toldWorths rC_steps fC_steps kC_steps rC_below fC_below kC_below rC_above fC_above kC_above rC_unsureWords rC_unsureWorths b_iR_tapeSize b_iR_courtTold b_iC_nodes b_iC_unsures b_iC_throneNode a_fC_parts) (cwV 0 hts (wd_V wd_267 wd_268 wd_269 wd_15 (wd_c wd_270)) rfl rfl rfl dv_yX3_readWord_0 ⟨Nat.le_of_ble_eq_true rfl, Nat.le_of_ble_eq_true rfl⟩) ⟨Pw.fb, recvX3 hK hP (q0 := 0) rfl, fun U hU hW => Pw.to (hP.ms _ hMs) (hD.ms _ hMs) (hK.ms [true, true, true, true, true, false, false, true, true, true, true, true, false, false] rfl) hE hS hFc hU hW⟩ rfl rfl hl.1 rfl (lv_room (Nat.le_of_ble_eq_true rfl)) dX3_readLine_86 ⟨Nat.le_of_ble_eq_true rfl, Nat.le_of_ble_eq_true rfl⟩) hS (fun q _ h => hFc q h) hFc (fun r u t H locs ht hvm hw hB hz1 hk1 hS => ?_)
        have hru9 := hw.2
        have hw := hw.1
        refine ex_20_3 hB (fun x_2344 x_2345 x_2346 x_2347 x_2348 y_2349 x_2350 x_2351 f_2352 x_2353 x_2354 x_2355 x_2356 f_2357 f_2358 f_2359 f_2360 f_2361 f_2362 f_2363 b_x_2353 a_f_2358 e_x_2344_0 hB => ?_)
        obtain ⟨hP, hD⟩ := Bw.goN (ws' := [(oc3 oR x_2344 x_2345 iR_tapeSize rR_tape iR_end x_2346 x_2347 x_2348 y_2349 x_2350 x_2351 oC iR_courtTold rR_names rR_keys), (arI rR_tape kR_tape 900 fR_tape), (arL rR_names kR_names 18 f_2352), (arL rR_keys kR_keys 10 fR_keys), (oc1 oC x_2353 x_2354 x_2355 iC_unsures iC_slips iC_throneNode iC_saidWorth x_2356 rC_kind rC_parts rC_partNodes rC_weights rC_weightSums rC_toldWorths rC_steps rC_below rC_above rC_unsureWords rC_unsureWorths), (arI rC_kind kC_kind 18 f_2357), (arI rC_parts kC_parts 18 f_2358), (arI rC_partNodes kC_partNodes 72 fC_partNodes), (arI rC_weights kC_weights 72 fC_weights), (arI rC_weightSums kC_weightSums 18 f_2359), (arI rC_toldWorths kC_toldWorths 18 f_2360), (arI rC_steps kC_steps 18 f_2361), (arI rC_below kC_below 18 f_2362), (arI rC_above kC_above 18 f_2363), (arI rC_unsureWords kC_unsureWords 4 fC_unsureWords), (arI rC_unsureWorths kC_unsureWorths 4 fC_unsureWorths)]) hB rfl ht hP hD _ hMs hk1 hFc rfl
        clear hz1 hk1 hvm ht hB hMs
        rw [← hru9] at e_x_2344_0
        obtain ⟨x_2364, rfl⟩ : ∃ z, z = r := ⟨_, rfl⟩
        have hG := hG.trans (un21_eq e_x_2344_0)
        have bx_2364 := hw.1
        have dx_2364 := bz_tb bx_2364
        exact wq_z (v := x_2364) hx hb hr (bz_nar bx_2364) (cI x_2364) ⟨⟨bx_2364, trivial⟩, (cI_of x_2364)⟩ (fun t ht hW => ⟨x_2344, x_2345, x_2346, x_2347, x_2348, y_2349, x_2350, x_2351, iR_courtTold, f_2352, x_2353, x_2354, x_2355, iC_unsures, iC_slips, iC_throneNode, iC_saidWorth, x_2356, f_2357, f_2358, fC_partNodes, fC_weights, f_2359, f_2360, f_2361, f_2362, f_2363, fC_unsureWords, fC_unsureWorths, b_iR_courtTold, b_x_2353, b_iC_unsures, b_iC_throneNode, a_f_2358, a_fC_partNodes, a_fC_unsureWords, (cI_tup hG), Bw.to hP hD hK ht hW⟩) hS dX3_readLine_89 hlocks
      · skip
        have hG := hG.trans (sw_in (j := 1) (h_s.trans (by decide)) rfl)
        refine lv_tableIn (off := 51) (tgt := 90) hx hb dX3_readLine_39 (by rw [h_s]; decide) (by rw [h_s]; decide) (by rw [h_s]; rfl) (by decide) ?_
        refine lv_aload_n hx hb dX3_readLine_90 rfl (lv_at hl 0 rfl) ?_
        refine lv_iconst (v := 1) hx hb dX3_readLine_91 (by decide) ?_
        have hMs := ml_of hD [true, true, true, true, true, true, true, true, true, true, true, true, true, true, false, false] (wc := [(oc3 oR iR_faultNumber iR_faultPlace iR_tapeSize rR_tape iR_end iR_tokenKind iR_tokenFrom iR_tokenTo iR_tokenName iR_tokenKey iR_tokenWhole oC iR_courtTold rR_names rR_keys), (arI rR_tape kR_tape 900 fR_tape), (arL rR_names kR_names 18 fR_names), (arL rR_keys kR_keys 10 fR_keys), (oc1 oC iC_nodes iC_words iC_chances iC_unsures iC_slips iC_throneNode iC_saidWorth iC_unit rC_kind rC_parts rC_partNodes rC_weights rC_weightSums rC_toldWorths rC_steps rC_below rC_above rC_unsureWords rC_unsureWorths), (arI rC_kind kC_kind 18 fC_kind), (arI rC_parts kC_parts 18 fC_parts), (arI rC_partNodes kC_partNodes 72 fC_partNodes), (arI rC_weights kC_weights 72 fC_weights), (arI rC_weightSums kC_weightSums 18 fC_weightSums), (arI rC_toldWorths kC_toldWorths 18 fC_toldWorths), (arI rC_steps kC_steps 18 fC_steps), (arI rC_below kC_below 18 fC_below), (arI rC_above kC_above 18 fC_above)]) rfl
        have hFc := va_freeM hD hS hA _ hMs
        refine va_calli (va_runV (As := [.int 1]) (rest := []) ⟨hx, hb, hml, hown, hts⟩ (tX3_readRuler l dC dI _ oR iR_faultNumber iR_faultPlace iR_tapeSize rR_tape fR_tape kR_tape iR_end iR_tokenKind iR_tokenFrom iR_tokenTo iR_tokenName iR_tokenKey iR_tokenWhole oC iR_courtTold rR_names fR_names kR_names rR_keys fR_keys kR_keys iC_nodes iC_words iC_chances iC_unsures iC_slips iC_throneNode iC_saidWorth iC_unit rC_kind fC_kind kC_kind rC_parts fC_parts kC_parts rC_partNodes fC_partNodes kC_partNodes rC_weights fC_weights kC_weights rC_weightSums fC_weightSums kC_weightSums rC_toldWorths fC_toldWorths kC_toldWorths rC_steps fC_steps kC_steps rC_below fC_below kC_below rC_above fC_above kC_above rC_unsureWords rC_unsureWorths 1 b_iR_tapeSize b_iR_courtTold b_iC_nodes b_iC_unsures b_iC_throneNode a_fC_parts a_fC_partNodes) (cwV 1 hts (wd_V wd_296 wd_297 wd_298 wd_15 (wd_c wd_299)) rfl rfl rfl dv_yX3_readRuler_1 ⟨Nat.le_of_ble_eq_true rfl, Nat.le_of_ble_eq_true rfl⟩) ⟨Pw.fb, recvX3 hK hP (q0 := 0) rfl, fun U hU hW => Pw.to (hP.ms _ hMs) (hD.ms _ hMs) (hK.ms [true, true, true, true, true, true, true, true, true, true, true, true, false, false] rfl) hE hS hFc hU hW⟩ rfl rfl hl.1 rfl (lv_room (Nat.le_of_ble_eq_true rfl)) dX3_readLine_92 ⟨Nat.le_of_ble_eq_true rfl, Nat.le_of_ble_eq_true rfl⟩) hS (fun q _ h => hFc q h) hFc (fun r u t H locs ht hvm hw hB hz1 hk1 hS => ?_)
        have hru9 := hw.2
        have hw := hw.1
        refine ex_22_4 hB (fun x_2365 x_2366 x_2367 x_2368 x_2369 y_2370 x_2371 x_2372 f_2373 x_2374 x_2375 x_2376 x_2377 f_2378 f_2379 f_2380 f_2381 f_2382 f_2383 f_2384 f_2385 f_2386 b_x_2374 a_f_2379 a_f_2380 e_x_2365_0 hB => ?_)
        obtain ⟨hP, hD⟩ := Bw.goN (ws' := [(oc3 oR x_2365 x_2366 iR_tapeSize rR_tape iR_end x_2367 x_2368 x_2369 y_2370 x_2371 x_2372 oC iR_courtTold rR_names rR_keys), (arI rR_tape kR_tape 900 fR_tape), (arL rR_names kR_names 18 f_2373), (arL rR_keys kR_keys 10 fR_keys), (oc1 oC x_2374 x_2375 x_2376 iC_unsures iC_slips iC_throneNode iC_saidWorth x_2377 rC_kind rC_parts rC_partNodes rC_weights rC_weightSums rC_toldWorths rC_steps rC_below rC_above rC_unsureWords rC_unsureWorths), (arI rC_kind kC_kind 18 f_2378), (arI rC_parts kC_parts 18 f_2379), (arI rC_partNodes kC_partNodes 72 f_2380), (arI rC_weights kC_weights 72 f_2381), (arI rC_weightSums kC_weightSums 18 f_2382), (arI rC_toldWorths kC_toldWorths 18 f_2383), (arI rC_steps kC_steps 18 f_2384), (arI rC_below kC_below 18 f_2385), (arI rC_above kC_above 18 f_2386), (arI rC_unsureWords kC_unsureWords 4 fC_unsureWords), (arI rC_unsureWorths kC_unsureWorths 4 fC_unsureWorths)]) hB rfl ht hP hD _ hMs hk1 hFc rfl
        clear hz1 hk1 hvm ht hB hMs
        rw [← hru9] at e_x_2365_0
        obtain ⟨x_2387, rfl⟩ : ∃ z, z = r := ⟨_, rfl⟩
        have hG := hG.trans (un23_eq e_x_2365_0)
        have bx_2387 := hw.1
        have dx_2387 := bz_tb bx_2387
        exact wq_z (v := x_2387) hx hb hr (bz_nar bx_2387) (cI x_2387) ⟨⟨bx_2387, trivial⟩, (cI_of x_2387)⟩ (fun t ht hW => ⟨x_2365, x_2366, x_2367, x_2368, x_2369, y_2370, x_2371, x_2372, iR_courtTold, f_2373, x_2374, x_2375, x_2376, iC_unsures, iC_slips, iC_throneNode, iC_saidWorth, x_2377, f_2378, f_2379, f_2380, f_2381, f_2382, f_2383, f_2384, f_2385, f_2386, fC_unsureWords, fC_unsureWorths, b_iR_courtTold, b_x_2374, b_iC_unsures, b_iC_throneNode, a_f_2379, a_f_2380, a_fC_unsureWords, (cI_tup hG), Bw.to hP hD hK ht hW⟩) hS dX3_readLine_95 hlocks
      · skip
        have hG := hG.trans (sw_in (j := 2) (h_s.trans (by decide)) rfl)
        refine lv_tableIn (off := 57) (tgt := 96) hx hb dX3_readLine_39 (by rw [h_s]; decide) (by rw [h_s]; decide) (by rw [h_s]; rfl) (by decide) ?_
        refine lv_aload_n hx hb dX3_readLine_96 rfl (lv_at hl 0 rfl) ?_
        refine lv_iconst (v := 2) hx hb dX3_readLine_97 (by decide) ?_
        have hMs := ml_of hD [true, true, true, true, true, true, true, true, true, true, true, true, true, true, false, false] (wc := [(oc3 oR iR_faultNumber iR_faultPlace iR_tapeSize rR_tape iR_end iR_tokenKind iR_tokenFrom iR_tokenTo iR_tokenName iR_tokenKey iR_tokenWhole oC iR_courtTold rR_names rR_keys), (arI rR_tape kR_tape 900 fR_tape), (arL rR_names kR_names 18 fR_names), (arL rR_keys kR_keys 10 fR_keys), (oc1 oC iC_nodes iC_words iC_chances iC_unsures iC_slips iC_throneNode iC_saidWorth iC_unit rC_kind rC_parts rC_partNodes rC_weights rC_weightSums rC_toldWorths rC_steps rC_below rC_above rC_unsureWords rC_unsureWorths), (arI rC_kind kC_kind 18 fC_kind), (arI rC_parts kC_parts 18 fC_parts), (arI rC_partNodes kC_partNodes 72 fC_partNodes), (arI rC_weights kC_weights 72 fC_weights), (arI rC_weightSums kC_weightSums 18 fC_weightSums), (arI rC_toldWorths kC_toldWorths 18 fC_toldWorths), (arI rC_steps kC_steps 18 fC_steps), (arI rC_below kC_below 18 fC_below), (arI rC_above kC_above 18 fC_above)]) rfl
        have hFc := va_freeM hD hS hA _ hMs
        refine va_calli (va_runV (As := [.int 2]) (rest := []) ⟨hx, hb, hml, hown, hts⟩ (tX3_readRuler l dC dI _ oR iR_faultNumber iR_faultPlace iR_tapeSize rR_tape fR_tape kR_tape iR_end iR_tokenKind iR_tokenFrom iR_tokenTo iR_tokenName iR_tokenKey iR_tokenWhole oC iR_courtTold rR_names fR_names kR_names rR_keys fR_keys kR_keys iC_nodes iC_words iC_chances iC_unsures iC_slips iC_throneNode iC_saidWorth iC_unit rC_kind fC_kind kC_kind rC_parts fC_parts kC_parts rC_partNodes fC_partNodes kC_partNodes rC_weights fC_weights kC_weights rC_weightSums fC_weightSums kC_weightSums rC_toldWorths fC_toldWorths kC_toldWorths rC_steps fC_steps kC_steps rC_below fC_below kC_below rC_above fC_above kC_above rC_unsureWords rC_unsureWorths 2 b_iR_tapeSize b_iR_courtTold b_iC_nodes b_iC_unsures b_iC_throneNode a_fC_parts a_fC_partNodes) (cwV 1 hts (wd_V wd_296 wd_297 wd_298 wd_15 (wd_c wd_299)) rfl rfl rfl dv_yX3_readRuler_1 ⟨Nat.le_of_ble_eq_true rfl, Nat.le_of_ble_eq_true rfl⟩) ⟨Pw.fb, recvX3 hK hP (q0 := 0) rfl, fun U hU hW => Pw.to (hP.ms _ hMs) (hD.ms _ hMs) (hK.ms [true, true, true, true, true, true, true, true, true, true, true, true, false, false] rfl) hE hS hFc hU hW⟩ rfl rfl hl.1 rfl (lv_room (Nat.le_of_ble_eq_true rfl)) dX3_readLine_98 ⟨Nat.le_of_ble_eq_true rfl, Nat.le_of_ble_eq_true rfl⟩) hS (fun q _ h => hFc q h) hFc (fun r u t H locs ht hvm hw hB hz1 hk1 hS => ?_)
        have hru9 := hw.2
        have hw := hw.1
        refine ex_22_4 hB (fun x_2388 x_2389 x_2390 x_2391 x_2392 y_2393 x_2394 x_2395 f_2396 x_2397 x_2398 x_2399 x_2400 f_2401 f_2402 f_2403 f_2404 f_2405 f_2406 f_2407 f_2408 f_2409 b_x_2397 a_f_2402 a_f_2403 e_x_2388_0 hB => ?_)
        obtain ⟨hP, hD⟩ := Bw.goN (ws' := [(oc3 oR x_2388 x_2389 iR_tapeSize rR_tape iR_end x_2390 x_2391 x_2392 y_2393 x_2394 x_2395 oC iR_courtTold rR_names rR_keys), (arI rR_tape kR_tape 900 fR_tape), (arL rR_names kR_names 18 f_2396), (arL rR_keys kR_keys 10 fR_keys), (oc1 oC x_2397 x_2398 x_2399 iC_unsures iC_slips iC_throneNode iC_saidWorth x_2400 rC_kind rC_parts rC_partNodes rC_weights rC_weightSums rC_toldWorths rC_steps rC_below rC_above rC_unsureWords rC_unsureWorths), (arI rC_kind kC_kind 18 f_2401), (arI rC_parts kC_parts 18 f_2402), (arI rC_partNodes kC_partNodes 72 f_2403), (arI rC_weights kC_weights 72 f_2404), (arI rC_weightSums kC_weightSums 18 f_2405), (arI rC_toldWorths kC_toldWorths 18 f_2406), (arI rC_steps kC_steps 18 f_2407), (arI rC_below kC_below 18 f_2408), (arI rC_above kC_above 18 f_2409), (arI rC_unsureWords kC_unsureWords 4 fC_unsureWords), (arI rC_unsureWorths kC_unsureWorths 4 fC_unsureWorths)]) hB rfl ht hP hD _ hMs hk1 hFc rfl
        clear hz1 hk1 hvm ht hB hMs
        rw [← hru9] at e_x_2388_0
        obtain ⟨x_2410, rfl⟩ : ∃ z, z = r := ⟨_, rfl⟩
        have hG := hG.trans (un23_eq e_x_2388_0)
        have bx_2410 := hw.1
        have dx_2410 := bz_tb bx_2410
        exact wq_z (v := x_2410) hx hb hr (bz_nar bx_2410) (cI x_2410) ⟨⟨bx_2410, trivial⟩, (cI_of x_2410)⟩ (fun t ht hW => ⟨x_2388, x_2389, x_2390, x_2391, x_2392, y_2393, x_2394, x_2395, iR_courtTold, f_2396, x_2397, x_2398, x_2399, iC_unsures, iC_slips, iC_throneNode, iC_saidWorth, x_2400, f_2401, f_2402, f_2403, f_2404, f_2405, f_2406, f_2407, f_2408, f_2409, fC_unsureWords, fC_unsureWorths, b_iR_courtTold, b_x_2397, b_iC_unsures, b_iC_throneNode, a_f_2402, a_f_2403, a_fC_unsureWords, (cI_tup hG), Bw.to hP hD hK ht hW⟩) hS dX3_readLine_101 hlocks
      · skip
        have hG := hG.trans (sw_in (j := 3) (h_s.trans (by decide)) rfl)
        refine lv_tableIn (off := 63) (tgt := 102) hx hb dX3_readLine_39 (by rw [h_s]; decide) (by rw [h_s]; decide) (by rw [h_s]; rfl) (by decide) ?_
        refine lv_aload_n hx hb dX3_readLine_102 rfl (lv_at hl 0 rfl) ?_
        refine lv_iconst (v := 3) hx hb dX3_readLine_103 (by decide) ?_
        have hMs := ml_of hD [true, true, true, true, true, true, true, true, true, true, true, true, true, true, false, false] (wc := [(oc3 oR iR_faultNumber iR_faultPlace iR_tapeSize rR_tape iR_end iR_tokenKind iR_tokenFrom iR_tokenTo iR_tokenName iR_tokenKey iR_tokenWhole oC iR_courtTold rR_names rR_keys), (arI rR_tape kR_tape 900 fR_tape), (arL rR_names kR_names 18 fR_names), (arL rR_keys kR_keys 10 fR_keys), (oc1 oC iC_nodes iC_words iC_chances iC_unsures iC_slips iC_throneNode iC_saidWorth iC_unit rC_kind rC_parts rC_partNodes rC_weights rC_weightSums rC_toldWorths rC_steps rC_below rC_above rC_unsureWords rC_unsureWorths), (arI rC_kind kC_kind 18 fC_kind), (arI rC_parts kC_parts 18 fC_parts), (arI rC_partNodes kC_partNodes 72 fC_partNodes), (arI rC_weights kC_weights 72 fC_weights), (arI rC_weightSums kC_weightSums 18 fC_weightSums), (arI rC_toldWorths kC_toldWorths 18 fC_toldWorths), (arI rC_steps kC_steps 18 fC_steps), (arI rC_below kC_below 18 fC_below), (arI rC_above kC_above 18 fC_above)]) rfl
        have hFc := va_freeM hD hS hA _ hMs
        refine va_calli (va_runV (As := [.int 3]) (rest := []) ⟨hx, hb, hml, hown, hts⟩ (tX3_readRuler l dC dI _ oR iR_faultNumber iR_faultPlace iR_tapeSize rR_tape fR_tape kR_tape iR_end iR_tokenKind iR_tokenFrom iR_tokenTo iR_tokenName iR_tokenKey iR_tokenWhole oC iR_courtTold rR_names fR_names kR_names rR_keys fR_keys kR_keys iC_nodes iC_words iC_chances iC_unsures iC_slips iC_throneNode iC_saidWorth iC_unit rC_kind fC_kind kC_kind rC_parts fC_parts kC_parts rC_partNodes fC_partNodes kC_partNodes rC_weights fC_weights kC_weights rC_weightSums fC_weightSums kC_weightSums rC_toldWorths fC_toldWorths kC_toldWorths rC_steps fC_steps kC_steps rC_below fC_below kC_below rC_above fC_above kC_above rC_unsureWords rC_unsureWorths 3 b_iR_tapeSize b_iR_courtTold b_iC_nodes b_iC_unsures b_iC_throneNode a_fC_parts a_fC_partNodes) (cwV 1 hts (wd_V wd_296 wd_297 wd_298 wd_15 (wd_c wd_299)) rfl rfl rfl dv_yX3_readRuler_1 ⟨Nat.le_of_ble_eq_true rfl, Nat.le_of_ble_eq_true rfl⟩) ⟨Pw.fb, recvX3 hK hP (q0 := 0) rfl, fun U hU hW => Pw.to (hP.ms _ hMs) (hD.ms _ hMs) (hK.ms [true, true, true, true, true, true, true, true, true, true, true, true, false, false] rfl) hE hS hFc hU hW⟩ rfl rfl hl.1 rfl (lv_room (Nat.le_of_ble_eq_true rfl)) dX3_readLine_104 ⟨Nat.le_of_ble_eq_true rfl, Nat.le_of_ble_eq_true rfl⟩) hS (fun q _ h => hFc q h) hFc (fun r u t H locs ht hvm hw hB hz1 hk1 hS => ?_)
        have hru9 := hw.2
        have hw := hw.1
        refine ex_22_4 hB (fun x_2411 x_2412 x_2413 x_2414 x_2415 y_2416 x_2417 x_2418 f_2419 x_2420 x_2421 x_2422 x_2423 f_2424 f_2425 f_2426 f_2427 f_2428 f_2429 f_2430 f_2431 f_2432 b_x_2420 a_f_2425 a_f_2426 e_x_2411_0 hB => ?_)
        obtain ⟨hP, hD⟩ := Bw.goN (ws' := [(oc3 oR x_2411 x_2412 iR_tapeSize rR_tape iR_end x_2413 x_2414 x_2415 y_2416 x_2417 x_2418 oC iR_courtTold rR_names rR_keys), (arI rR_tape kR_tape 900 fR_tape), (arL rR_names kR_names 18 f_2419), (arL rR_keys kR_keys 10 fR_keys), (oc1 oC x_2420 x_2421 x_2422 iC_unsures iC_slips iC_throneNode iC_saidWorth x_2423 rC_kind rC_parts rC_partNodes rC_weights rC_weightSums rC_toldWorths rC_steps rC_below rC_above rC_unsureWords rC_unsureWorths), (arI rC_kind kC_kind 18 f_2424), (arI rC_parts kC_parts 18 f_2425), (arI rC_partNodes kC_partNodes 72 f_2426), (arI rC_weights kC_weights 72 f_2427), (arI rC_weightSums kC_weightSums 18 f_2428), (arI rC_toldWorths kC_toldWorths 18 f_2429), (arI rC_steps kC_steps 18 f_2430), (arI rC_below kC_below 18 f_2431), (arI rC_above kC_above 18 f_2432), (arI rC_unsureWords kC_unsureWords 4 fC_unsureWords), (arI rC_unsureWorths kC_unsureWorths 4 fC_unsureWorths)]) hB rfl ht hP hD _ hMs hk1 hFc rfl
        clear hz1 hk1 hvm ht hB hMs
        rw [← hru9] at e_x_2411_0
        obtain ⟨x_2433, rfl⟩ : ∃ z, z = r := ⟨_, rfl⟩
        have hG := hG.trans (un23_eq e_x_2411_0)
        have bx_2433 := hw.1
        have dx_2433 := bz_tb bx_2433
        exact wq_z (v := x_2433) hx hb hr (bz_nar bx_2433) (cI x_2433) ⟨⟨bx_2433, trivial⟩, (cI_of x_2433)⟩ (fun t ht hW => ⟨x_2411, x_2412, x_2413, x_2414, x_2415, y_2416, x_2417, x_2418, iR_courtTold, f_2419, x_2420, x_2421, x_2422, iC_unsures, iC_slips, iC_throneNode, iC_saidWorth, x_2423, f_2424, f_2425, f_2426, f_2427, f_2428, f_2429, f_2430, f_2431, f_2432, fC_unsureWords, fC_unsureWorths, b_iR_courtTold, b_x_2420, b_iC_unsures, b_iC_throneNode, a_f_2425, a_f_2426, a_fC_unsureWords, (cI_tup hG), Bw.to hP hD hK ht hW⟩) hS dX3_readLine_107 hlocks
      · skip
        have hG := hG.trans (sw_in (j := 4) (h_s.trans (by decide)) rfl)
        refine lv_tableIn (off := 41) (tgt := 80) hx hb dX3_readLine_39 (by rw [h_s]; decide) (by rw [h_s]; decide) (by rw [h_s]; rfl) (by decide) ?_
        refine lv_aload_n hx hb dX3_readLine_80 rfl (lv_at hl 0 rfl) ?_
        have hMs := ml_of hD [true, true, false, true, true, false, false, false, false, false, false, false, false, false, false, false] (wc := [(oc3 oR iR_faultNumber iR_faultPlace iR_tapeSize rR_tape iR_end iR_tokenKind iR_tokenFrom iR_tokenTo iR_tokenName iR_tokenKey iR_tokenWhole oC iR_courtTold rR_names rR_keys), (arI rR_tape kR_tape 900 fR_tape), (arL rR_keys kR_keys 10 fR_keys), (oc1 oC iC_nodes iC_words iC_chances iC_unsures iC_slips iC_throneNode iC_saidWorth iC_unit rC_kind rC_parts rC_partNodes rC_weights rC_weightSums rC_toldWorths rC_steps rC_below rC_above rC_unsureWords rC_unsureWorths)]) rfl
        have hFc := va_freeM hD hS hA _ hMs
        refine va_calli (va_runV (As := []) (rest := []) ⟨hx, hb, hml, hown, hts⟩ (tX3_readCourt l dC dI _ oR iR_faultNumber iR_faultPlace iR_tapeSize rR_tape fR_tape kR_tape iR_end iR_tokenKind iR_tokenFrom iR_tokenTo iR_tokenName iR_tokenKey iR_tokenWhole oC iR_courtTold rR_names rR_keys fR_keys kR_keys iC_nodes iC_words iC_chances iC_unsures iC_slips iC_throneNode iC_saidWorth iC_unit rC_kind rC_parts rC_partNodes rC_weights rC_weightSums rC_toldWorths rC_steps rC_below rC_above rC_unsureWords rC_unsureWorths b_iR_tapeSize b_iR_courtTold b_iC_nodes b_iC_unsures b_iC_throneNode) (cwV 0 hts (wd_V wd_258 wd_259 wd_260 wd_15 (wd_c wd_261)) rfl rfl rfl dv_yX3_readCourt_0 ⟨Nat.le_of_ble_eq_true rfl, Nat.le_of_ble_eq_true rfl⟩) ⟨Pw.fb, recvX3 hK hP (q0 := 0) rfl, fun U hU hW => Pw.to (hP.ms _ hMs) (hD.ms _ hMs) (hK.ms [true, false, true, false, false, false, false, false, false, false, false, false, false, false] rfl) hE hS hFc hU hW⟩ rfl rfl hl.1 rfl (lv_room (Nat.le_of_ble_eq_true rfl)) dX3_readLine_81 ⟨Nat.le_of_ble_eq_true rfl, Nat.le_of_ble_eq_true rfl⟩) hS (fun q _ h => hFc q h) hFc (fun r u t H locs ht hvm hw hB hz1 hk1 hS => ?_)
        have hru9 := hw.2
        have hw := hw.1
        refine ex_10_2 hB (fun x_2434 x_2435 x_2436 x_2437 x_2438 y_2439 x_2440 x_2441 x_2442 x_2443 b_x_2442 e_x_2434_0 hB => ?_)
        obtain ⟨hP, hD⟩ := Bw.goN (ws' := [(oc3 oR x_2434 x_2435 iR_tapeSize rR_tape iR_end x_2436 x_2437 x_2438 y_2439 x_2440 x_2441 oC x_2442 rR_names rR_keys), (arI rR_tape kR_tape 900 fR_tape), (arL rR_names kR_names 18 fR_names), (arL rR_keys kR_keys 10 fR_keys), (oc1 oC iC_nodes iC_words iC_chances iC_unsures x_2443 iC_throneNode iC_saidWorth iC_unit rC_kind rC_parts rC_partNodes rC_weights rC_weightSums rC_toldWorths rC_steps rC_below rC_above rC_unsureWords rC_unsureWorths), (arI rC_kind kC_kind 18 fC_kind), (arI rC_parts kC_parts 18 fC_parts), (arI rC_partNodes kC_partNodes 72 fC_partNodes), (arI rC_weights kC_weights 72 fC_weights), (arI rC_weightSums kC_weightSums 18 fC_weightSums), (arI rC_toldWorths kC_toldWorths 18 fC_toldWorths), (arI rC_steps kC_steps 18 fC_steps), (arI rC_below kC_below 18 fC_below), (arI rC_above kC_above 18 fC_above), (arI rC_unsureWords kC_unsureWords 4 fC_unsureWords), (arI rC_unsureWorths kC_unsureWorths 4 fC_unsureWorths)]) hB rfl ht hP hD _ hMs hk1 hFc rfl
        clear hz1 hk1 hvm ht hB hMs
        rw [← hru9] at e_x_2434_0
        obtain ⟨x_2444, rfl⟩ : ∃ z, z = r := ⟨_, rfl⟩
        have hG := hG.trans (un11_eq e_x_2434_0)
        have bx_2444 := hw.1
        have dx_2444 := bz_tb bx_2444
        exact wq_z (v := x_2444) hx hb hr (bz_nar bx_2444) (cI x_2444) ⟨⟨bx_2444, trivial⟩, (cI_of x_2444)⟩ (fun t ht hW => ⟨x_2434, x_2435, x_2436, x_2437, x_2438, y_2439, x_2440, x_2441, x_2442, fR_names, iC_nodes, iC_words, iC_chances, iC_unsures, x_2443, iC_throneNode, iC_saidWorth, iC_unit, fC_kind, fC_parts, fC_partNodes, fC_weights, fC_weightSums, fC_toldWorths, fC_steps, fC_below, fC_above, fC_unsureWords, fC_unsureWorths, b_x_2442, b_iC_nodes, b_iC_unsures, b_iC_throneNode, a_fC_parts, a_fC_partNodes, a_fC_unsureWords, (cI_tup hG), Bw.to hP hD hK ht hW⟩) hS dX3_readLine_84 hlocks
      · skip
        have hG := hG.trans (sw_in (j := 5) (h_s.trans (by decide)) rfl)
        refine lv_tableIn (off := 69) (tgt := 108) hx hb dX3_readLine_39 (by rw [h_s]; decide) (by rw [h_s]; decide) (by rw [h_s]; rfl) (by decide) ?_
        refine lv_aload_n hx hb dX3_readLine_108 rfl (lv_at hl 0 rfl) ?_
        have hMs := ml_of hD [true, true, true, true, true, false, false, false, false, false, false, false, false, false, false, false] (wc := [(oc3 oR iR_faultNumber iR_faultPlace iR_tapeSize rR_tape iR_end iR_tokenKind iR_tokenFrom iR_tokenTo iR_tokenName iR_tokenKey iR_tokenWhole oC iR_courtTold rR_names rR_keys), (arI rR_tape kR_tape 900 fR_tape), (arL rR_names kR_names 18 fR_names), (arL rR_keys kR_keys 10 fR_keys), (oc1 oC iC_nodes iC_words iC_chances iC_unsures iC_slips iC_throneNode iC_saidWorth iC_unit rC_kind rC_parts rC_partNodes rC_weights rC_weightSums rC_toldWorths rC_steps rC_below rC_above rC_unsureWords rC_unsureWorths)]) rfl
        have hFc := va_freeM hD hS hA _ hMs
        refine va_calli (va_runV (As := []) (rest := []) ⟨hx, hb, hml, hown, hts⟩ (tX3_readThrone l dC dI _ oR iR_faultNumber iR_faultPlace iR_tapeSize rR_tape fR_tape kR_tape iR_end iR_tokenKind iR_tokenFrom iR_tokenTo iR_tokenName iR_tokenKey iR_tokenWhole oC iR_courtTold rR_names fR_names kR_names rR_keys fR_keys kR_keys iC_nodes iC_words iC_chances iC_unsures iC_slips iC_throneNode iC_saidWorth iC_unit rC_kind rC_parts rC_partNodes rC_weights rC_weightSums rC_toldWorths rC_steps rC_below rC_above rC_unsureWords rC_unsureWorths b_iR_tapeSize b_iR_courtTold b_iC_nodes b_iC_unsures b_iC_throneNode) (cwV 0 hts (wd_V wd_329 wd_330 wd_331 wd_15 (wd_c wd_332)) rfl rfl rfl dv_yX3_readThrone_0 ⟨Nat.le_of_ble_eq_true rfl, Nat.le_of_ble_eq_true rfl⟩) ⟨Pw.fb, recvX3 hK hP (q0 := 0) rfl, fun U hU hW => Pw.to (hP.ms _ hMs) (hD.ms _ hMs) (hK.ms [true, true, true, false, false, false, false, false, false, false, false, false, false, false] rfl) hE hS hFc hU hW⟩ rfl rfl hl.1 rfl (lv_room (Nat.le_of_ble_eq_true rfl)) dX3_readLine_109 ⟨Nat.le_of_ble_eq_true rfl, Nat.le_of_ble_eq_true rfl⟩) hS (fun q _ h => hFc q h) hFc (fun r u t H locs ht hvm hw hB hz1 hk1 hS => ?_)
        have hru9 := hw.2
        have hw := hw.1
        refine ex_9_2 hB (fun x_2445 x_2446 x_2447 x_2448 x_2449 y_2450 x_2451 x_2452 x_2453 b_x_2453 e_x_2445_0 hB => ?_)
        obtain ⟨hP, hD⟩ := Bw.goN (ws' := [(oc3 oR x_2445 x_2446 iR_tapeSize rR_tape iR_end x_2447 x_2448 x_2449 y_2450 x_2451 x_2452 oC iR_courtTold rR_names rR_keys), (arI rR_tape kR_tape 900 fR_tape), (arL rR_names kR_names 18 fR_names), (arL rR_keys kR_keys 10 fR_keys), (oc1 oC iC_nodes iC_words iC_chances iC_unsures iC_slips x_2453 iC_saidWorth iC_unit rC_kind rC_parts rC_partNodes rC_weights rC_weightSums rC_toldWorths rC_steps rC_below rC_above rC_unsureWords rC_unsureWorths), (arI rC_kind kC_kind 18 fC_kind), (arI rC_parts kC_parts 18 fC_parts), (arI rC_partNodes kC_partNodes 72 fC_partNodes), (arI rC_weights kC_weights 72 fC_weights), (arI rC_weightSums kC_weightSums 18 fC_weightSums), (arI rC_toldWorths kC_toldWorths 18 fC_toldWorths), (arI rC_steps kC_steps 18 fC_steps), (arI rC_below kC_below 18 fC_below), (arI rC_above kC_above 18 fC_above), (arI rC_unsureWords kC_unsureWords 4 fC_unsureWords), (arI rC_unsureWorths kC_unsureWorths 4 fC_unsureWorths)]) hB rfl ht hP hD _ hMs hk1 hFc rfl
        clear hz1 hk1 hvm ht hB hMs
        rw [← hru9] at e_x_2445_0
        obtain ⟨x_2454, rfl⟩ : ∃ z, z = r := ⟨_, rfl⟩
        have hG := hG.trans (un10_eq e_x_2445_0)
        have bx_2454 := hw.1
        have dx_2454 := bz_tb bx_2454
        exact wq_z (v := x_2454) hx hb hr (bz_nar bx_2454) (cI x_2454) ⟨⟨bx_2454, trivial⟩, (cI_of x_2454)⟩ (fun t ht hW => ⟨x_2445, x_2446, x_2447, x_2448, x_2449, y_2450, x_2451, x_2452, iR_courtTold, fR_names, iC_nodes, iC_words, iC_chances, iC_unsures, iC_slips, x_2453, iC_saidWorth, iC_unit, fC_kind, fC_parts, fC_partNodes, fC_weights, fC_weightSums, fC_toldWorths, fC_steps, fC_below, fC_above, fC_unsureWords, fC_unsureWorths, b_iR_courtTold, b_iC_nodes, b_iC_unsures, b_x_2453, a_fC_parts, a_fC_partNodes, a_fC_unsureWords, (cI_tup hG), Bw.to hP hD hK ht hW⟩) hS dX3_readLine_112 hlocks
      · skip
        have hG := hG.trans (sw_in (j := 6) (h_s.trans (by decide)) rfl)
        refine lv_tableIn (off := 74) (tgt := 113) hx hb dX3_readLine_39 (by rw [h_s]; decide) (by rw [h_s]; decide) (by rw [h_s]; rfl) (by decide) ?_
        refine lv_aload_n hx hb dX3_readLine_113 rfl (lv_at hl 0 rfl) ?_
        have hMs := ml_of hD [true, true, true, true, true, true, false, false, false, false, false, false, false, false, true, true] (wc := [(oc3 oR iR_faultNumber iR_faultPlace iR_tapeSize rR_tape iR_end iR_tokenKind iR_tokenFrom iR_tokenTo iR_tokenName iR_tokenKey iR_tokenWhole oC iR_courtTold rR_names rR_keys), (arI rR_tape kR_tape 900 fR_tape), (arL rR_names kR_names 18 fR_names), (arL rR_keys kR_keys 10 fR_keys), (oc1 oC iC_nodes iC_words iC_chances iC_unsures iC_slips iC_throneNode iC_saidWorth iC_unit rC_kind rC_parts rC_partNodes rC_weights rC_weightSums rC_toldWorths rC_steps rC_below rC_above rC_unsureWords rC_unsureWorths), (arI rC_kind kC_kind 18 fC_kind), (arI rC_unsureWords kC_unsureWords 4 fC_unsureWords), (arI rC_unsureWorths kC_unsureWorths 4 fC_unsureWorths)]) rfl
        have hFc := va_freeM hD hS hA _ hMs
        refine va_calli (va_runV (As := []) (rest := []) ⟨hx, hb, hml, hown, hts⟩ (tX3_readUnsure l dC dI _ oR iR_faultNumber iR_faultPlace iR_tapeSize rR_tape fR_tape kR_tape iR_end iR_tokenKind iR_tokenFrom iR_tokenTo iR_tokenName iR_tokenKey iR_tokenWhole oC iR_courtTold rR_names fR_names kR_names rR_keys fR_keys kR_keys iC_nodes iC_words iC_chances iC_unsures iC_slips iC_throneNode iC_saidWorth iC_unit rC_kind fC_kind kC_kind rC_parts rC_partNodes rC_weights rC_weightSums rC_toldWorths rC_steps rC_below rC_above rC_unsureWords fC_unsureWords kC_unsureWords rC_unsureWorths fC_unsureWorths kC_unsureWorths b_iR_tapeSize b_iR_courtTold b_iC_nodes b_iC_unsures b_iC_throneNode a_fC_unsureWords) (cwV 0 hts (wd_V wd_334 wd_335 wd_336 wd_15 (wd_c wd_337)) rfl rfl rfl dv_yX3_readUnsure_0 ⟨Nat.le_of_ble_eq_true rfl, Nat.le_of_ble_eq_true rfl⟩) ⟨Pw.fb, recvX3 hK hP (q0 := 0) rfl, fun U hU hW => Pw.to (hP.ms _ hMs) (hD.ms _ hMs) (hK.ms [true, true, true, true, false, false, false, false, false, false, false, false, true, true] rfl) hE hS hFc hU hW⟩ rfl rfl hl.1 rfl (lv_room (Nat.le_of_ble_eq_true rfl)) dX3_readLine_114 ⟨Nat.le_of_ble_eq_true rfl, Nat.le_of_ble_eq_true rfl⟩) hS (fun q _ h => hFc q h) hFc (fun r u t H locs ht hvm hw hB hz1 hk1 hS => ?_)
        have hru9 := hw.2
        have hw := hw.1
        refine ex_11_3 hB (fun x_2455 x_2456 x_2457 x_2458 x_2459 y_2460 x_2461 x_2462 x_2463 f_2464 f_2465 b_x_2463 a_f_2464 e_x_2455_0 hB => ?_)
        obtain ⟨hP, hD⟩ := Bw.goN (ws' := [(oc3 oR x_2455 x_2456 iR_tapeSize rR_tape iR_end x_2457 x_2458 x_2459 y_2460 x_2461 x_2462 oC iR_courtTold rR_names rR_keys), (arI rR_tape kR_tape 900 fR_tape), (arL rR_names kR_names 18 fR_names), (arL rR_keys kR_keys 10 fR_keys), (oc1 oC iC_nodes iC_words iC_chances x_2463 iC_slips iC_throneNode iC_saidWorth iC_unit rC_kind rC_parts rC_partNodes rC_weights rC_weightSums rC_toldWorths rC_steps rC_below rC_above rC_unsureWords rC_unsureWorths), (arI rC_kind kC_kind 18 fC_kind), (arI rC_parts kC_parts 18 fC_parts), (arI rC_partNodes kC_partNodes 72 fC_partNodes), (arI rC_weights kC_weights 72 fC_weights), (arI rC_weightSums kC_weightSums 18 fC_weightSums), (arI rC_toldWorths kC_toldWorths 18 fC_toldWorths), (arI rC_steps kC_steps 18 fC_steps), (arI rC_below kC_below 18 fC_below), (arI rC_above kC_above 18 fC_above), (arI rC_unsureWords kC_unsureWords 4 f_2464), (arI rC_unsureWorths kC_unsureWorths 4 f_2465)]) hB rfl ht hP hD _ hMs hk1 hFc rfl
        clear hz1 hk1 hvm ht hB hMs
        rw [← hru9] at e_x_2455_0
        obtain ⟨x_2466, rfl⟩ : ∃ z, z = r := ⟨_, rfl⟩
        have hG := hG.trans (un12_eq e_x_2455_0)
        have bx_2466 := hw.1
        have dx_2466 := bz_tb bx_2466
        exact wq_z (v := x_2466) hx hb hr (bz_nar bx_2466) (cI x_2466) ⟨⟨bx_2466, trivial⟩, (cI_of x_2466)⟩ (fun t ht hW => ⟨x_2455, x_2456, x_2457, x_2458, x_2459, y_2460, x_2461, x_2462, iR_courtTold, fR_names, iC_nodes, iC_words, iC_chances, x_2463, iC_slips, iC_throneNode, iC_saidWorth, iC_unit, fC_kind, fC_parts, fC_partNodes, fC_weights, fC_weightSums, fC_toldWorths, fC_steps, fC_below, fC_above, f_2464, f_2465, b_iR_courtTold, b_iC_nodes, b_x_2463, b_iC_throneNode, a_fC_parts, a_fC_partNodes, a_f_2464, (cI_tup hG), Bw.to hP hD hK ht hW⟩) hS dX3_readLine_117 hlocks
    · skip
      have hG := hG.trans (if_pos c_2323)
      have gc_2323 := ti_eq c_2323 rfl kc_0
      refine lv_aload_n hx hb dX3_readLine_20 rfl (lv_at hl 0 rfl) ?_
      refine va_get (D := (dC, dI)) (ci := 3) (v := .int iR_tokenKey) (C := RX3) (T := TX3) (N := 15) hx hb hts inX3 hown hK hP 0 rfl rfl 9 (by decide) (hts _ wd_225) (fun _ h9 => h9) rfl dX3_readLine_21 ?_
      refine lv_iconst (v := 4) hx hb dX3_readLine_24 (by decide) ?_
      refine lv_icmp_eq (tgt := 35) hx hb dX3_readLine_25 (by decide) (fun c_2467 => ?_) (fun c_2467 => ?_)
      · skip
        have hG := hG.trans (if_pos c_2467)
        have gc_2467 := ti_eq c_2467 rfl kc_4
        refine lv_aload_n hx hb dX3_readLine_35 rfl (lv_at hl 0 rfl) ?_
        refine va_get (D := (dC, dI)) (ci := 3) (v := .int iR_tokenKey) (C := RX3) (T := TX3) (N := 15) hx hb hts inX3 hown hK hP 0 rfl rfl 9 (by decide) (hts _ wd_225) (fun _ h9 => h9) rfl dX3_readLine_36 ?_
        rcases (show iR_tokenKey.toInt < 0 ∨ 6 < iR_tokenKey.toInt ∨ iR_tokenKey.toInt = 0 ∨ iR_tokenKey.toInt = 1 ∨ iR_tokenKey.toInt = 2 ∨ iR_tokenKey.toInt = 3 ∨ iR_tokenKey.toInt = 4 ∨ iR_tokenKey.toInt = 5 ∨ iR_tokenKey.toInt = 6 by omega) with h_s | h_s | h_s | h_s | h_s | h_s | h_s | h_s | h_s
        · skip
          have hG := hG.trans (sw_out (by first | exact Or.inl h_s | exact Or.inr (by show ((0 : Int) + (7 : Nat) ≤ _); omega)))
          refine lv_tableOut (tgt := 118) hx hb dX3_readLine_39 (Or.inl h_s) (by decide) ?_
          refine lv_aload_n hx hb dX3_readLine_118 rfl (lv_at hl 0 rfl) ?_
          have hMs := ml_of hD [true, true, false, true, true, false, false, false, false, false, false, false, false, false, false, false] (wc := [(oc3 oR iR_faultNumber iR_faultPlace iR_tapeSize rR_tape iR_end iR_tokenKind iR_tokenFrom iR_tokenTo iR_tokenName iR_tokenKey iR_tokenWhole oC iR_courtTold rR_names rR_keys), (arI rR_tape kR_tape 900 fR_tape), (arL rR_keys kR_keys 10 fR_keys), (oc1 oC iC_nodes iC_words iC_chances iC_unsures iC_slips iC_throneNode iC_saidWorth iC_unit rC_kind rC_parts rC_partNodes rC_weights rC_weightSums rC_toldWorths rC_steps rC_below rC_above rC_unsureWords rC_unsureWorths)]) rfl
          have hFc := va_freeM hD hS hA _ hMs
          refine va_calli (va_runV (As := []) (rest := []) ⟨hx, hb, hml, hown, hts⟩ (tX3_readSaid l dC dI _ oR iR_faultNumber iR_faultPlace iR_tapeSize rR_tape fR_tape kR_tape iR_end iR_tokenKind iR_tokenFrom iR_tokenTo iR_tokenName iR_tokenKey iR_tokenWhole oC iR_courtTold rR_names rR_keys fR_keys kR_keys iC_nodes iC_words iC_chances iC_unsures iC_slips iC_throneNode iC_saidWorth iC_unit rC_kind rC_parts rC_partNodes rC_weights rC_weightSums rC_toldWorths rC_steps rC_below rC_above rC_unsureWords rC_unsureWorths b_iR_tapeSize b_iR_courtTold b_iC_nodes b_iC_unsures b_iC_throneNode) (cwV 0 hts (wd_V wd_351 wd_352 wd_353 wd_15 (wd_c wd_354)) rfl rfl rfl dv_yX3_readSaid_0 ⟨Nat.le_of_ble_eq_true rfl, Nat.le_of_ble_eq_true rfl⟩) ⟨Pw.fb, recvX3 hK hP (q0 := 0) rfl, fun U hU hW => Pw.to (hP.ms _ hMs) (hD.ms _ hMs) (hK.ms [true, false, true, false, false, false, false, false, false, false, false, false, false, false] rfl) hE hS hFc hU hW⟩ rfl rfl hl.1 rfl (lv_room (Nat.le_of_ble_eq_true rfl)) dX3_readLine_119 ⟨Nat.le_of_ble_eq_true rfl, Nat.le_of_ble_eq_true rfl⟩) hS (fun q _ h => hFc q h) hFc (fun r u t H locs ht hvm hw hB hz1 hk1 hS => ?_)
          have hru9 := hw.2
          have hw := hw.1
          refine ex_9_1 hB (fun x_2468 x_2469 x_2470 x_2471 x_2472 y_2473 x_2474 x_2475 x_2476 e_x_2468_0 hB => ?_)
          obtain ⟨hP, hD⟩ := Bw.goN (ws' := [(oc3 oR x_2468 x_2469 iR_tapeSize rR_tape iR_end x_2470 x_2471 x_2472 y_2473 x_2474 x_2475 oC iR_courtTold rR_names rR_keys), (arI rR_tape kR_tape 900 fR_tape), (arL rR_names kR_names 18 fR_names), (arL rR_keys kR_keys 10 fR_keys), (oc1 oC iC_nodes iC_words iC_chances iC_unsures iC_slips iC_throneNode x_2476 iC_unit rC_kind rC_parts rC_partNodes rC_weights rC_weightSums rC_toldWorths rC_steps rC_below rC_above rC_unsureWords rC_unsureWorths), (arI rC_kind kC_kind 18 fC_kind), (arI rC_parts kC_parts 18 fC_parts), (arI rC_partNodes kC_partNodes 72 fC_partNodes), (arI rC_weights kC_weights 72 fC_weights), (arI rC_weightSums kC_weightSums 18 fC_weightSums), (arI rC_toldWorths kC_toldWorths 18 fC_toldWorths), (arI rC_steps kC_steps 18 fC_steps), (arI rC_below kC_below 18 fC_below), (arI rC_above kC_above 18 fC_above), (arI rC_unsureWords kC_unsureWords 4 fC_unsureWords), (arI rC_unsureWorths kC_unsureWorths 4 fC_unsureWorths)]) hB rfl ht hP hD _ hMs hk1 hFc rfl
          clear hz1 hk1 hvm ht hB hMs
          rw [← hru9] at e_x_2468_0
          obtain ⟨x_2477, rfl⟩ : ∃ z, z = r := ⟨_, rfl⟩
          have hG := hG.trans (un10_eq e_x_2468_0)
          have bx_2477 := hw.1
          have dx_2477 := bz_tb bx_2477
          exact wq_z (v := x_2477) hx hb hr (bz_nar bx_2477) (cI x_2477) ⟨⟨bx_2477, trivial⟩, (cI_of x_2477)⟩ (fun t ht hW => ⟨x_2468, x_2469, x_2470, x_2471, x_2472, y_2473, x_2474, x_2475, iR_courtTold, fR_names, iC_nodes, iC_words, iC_chances, iC_unsures, iC_slips, iC_throneNode, x_2476, iC_unit, fC_kind, fC_parts, fC_partNodes, fC_weights, fC_weightSums, fC_toldWorths, fC_steps, fC_below, fC_above, fC_unsureWords, fC_unsureWorths, b_iR_courtTold, b_iC_nodes, b_iC_unsures, b_iC_throneNode, a_fC_parts, a_fC_partNodes, a_fC_unsureWords, (cI_tup hG), Bw.to hP hD hK ht hW⟩) hS dX3_readLine_122 hlocks
        · skip
          have hG := hG.trans (sw_out (by first | exact Or.inl h_s | exact Or.inr (by show ((0 : Int) + (7 : Nat) ≤ _); omega)))
          refine lv_tableOut (tgt := 118) hx hb dX3_readLine_39 (Or.inr h_s) (by decide) ?_
          refine lv_aload_n hx hb dX3_readLine_118 rfl (lv_at hl 0 rfl) ?_
          have hMs := ml_of hD [true, true, false, true, true, false, false, false, false, false, false, false, false, false, false, false] (wc := [(oc3 oR iR_faultNumber iR_faultPlace iR_tapeSize rR_tape iR_end iR_tokenKind iR_tokenFrom iR_tokenTo iR_tokenName iR_tokenKey iR_tokenWhole oC iR_courtTold rR_names rR_keys), (arI rR_tape kR_tape 900 fR_tape), (arL rR_keys kR_keys 10 fR_keys), (oc1 oC iC_nodes iC_words iC_chances iC_unsures iC_slips iC_throneNode iC_saidWorth iC_unit rC_kind rC_parts rC_partNodes rC_weights rC_weightSums rC_toldWorths rC_steps rC_below rC_above rC_unsureWords rC_unsureWorths)]) rfl
          have hFc := va_freeM hD hS hA _ hMs
          refine va_calli (va_runV (As := []) (rest := []) ⟨hx, hb, hml, hown, hts⟩ (tX3_readSaid l dC dI _ oR iR_faultNumber iR_faultPlace iR_tapeSize rR_tape fR_tape kR_tape iR_end iR_tokenKind iR_tokenFrom iR_tokenTo iR_tokenName iR_tokenKey iR_tokenWhole oC iR_courtTold rR_names rR_keys fR_keys kR_keys iC_nodes iC_words iC_chances iC_unsures iC_slips iC_throneNode iC_saidWorth iC_unit rC_kind rC_parts rC_partNodes rC_weights rC_weightSums rC_toldWorths rC_steps rC_below rC_above rC_unsureWords rC_unsureWorths b_iR_tapeSize b_iR_courtTold b_iC_nodes b_iC_unsures b_iC_throneNode) (cwV 0 hts (wd_V wd_351 wd_352 wd_353 wd_15 (wd_c wd_354)) rfl rfl rfl dv_yX3_readSaid_0 ⟨Nat.le_of_ble_eq_true rfl, Nat.le_of_ble_eq_true rfl⟩) ⟨Pw.fb, recvX3 hK hP (q0 := 0) rfl, fun U hU hW => Pw.to (hP.ms _ hMs) (hD.ms _ hMs) (hK.ms [true, false, true, false, false, false, false, false, false, false, false, false, false, false] rfl) hE hS hFc hU hW⟩ rfl rfl hl.1 rfl (lv_room (Nat.le_of_ble_eq_true rfl)) dX3_readLine_119 ⟨Nat.le_of_ble_eq_true rfl, Nat.le_of_ble_eq_true rfl⟩) hS (fun q _ h => hFc q h) hFc (fun r u t H locs ht hvm hw hB hz1 hk1 hS => ?_)
          have hru9 := hw.2
          have hw := hw.1
          refine ex_9_1 hB (fun x_2478 x_2479 x_2480 x_2481 x_2482 y_2483 x_2484 x_2485 x_2486 e_x_2478_0 hB => ?_)
          obtain ⟨hP, hD⟩ := Bw.goN (ws' := [(oc3 oR x_2478 x_2479 iR_tapeSize rR_tape iR_end x_2480 x_2481 x_2482 y_2483 x_2484 x_2485 oC iR_courtTold rR_names rR_keys), (arI rR_tape kR_tape 900 fR_tape), (arL rR_names kR_names 18 fR_names), (arL rR_keys kR_keys 10 fR_keys), (oc1 oC iC_nodes iC_words iC_chances iC_unsures iC_slips iC_throneNode x_2486 iC_unit rC_kind rC_parts rC_partNodes rC_weights rC_weightSums rC_toldWorths rC_steps rC_below rC_above rC_unsureWords rC_unsureWorths), (arI rC_kind kC_kind 18 fC_kind), (arI rC_parts kC_parts 18 fC_parts), (arI rC_partNodes kC_partNodes 72 fC_partNodes), (arI rC_weights kC_weights 72 fC_weights), (arI rC_weightSums kC_weightSums 18 fC_weightSums), (arI rC_toldWorths kC_toldWorths 18 fC_toldWorths), (arI rC_steps kC_steps 18 fC_steps), (arI rC_below kC_below 18 fC_below), (arI rC_above kC_above 18 fC_above), (arI rC_unsureWords kC_unsureWords 4 fC_unsureWords), (arI rC_unsureWorths kC_unsureWorths 4 fC_unsureWorths)]) hB rfl ht hP hD _ hMs hk1 hFc rfl
          clear hz1 hk1 hvm ht hB hMs
          rw [← hru9] at e_x_2478_0
          obtain ⟨x_2487, rfl⟩ : ∃ z, z = r := ⟨_, rfl⟩
          have hG := hG.trans (un10_eq e_x_2478_0)
          have bx_2487 := hw.1
          have dx_2487 := bz_tb bx_2487
          exact wq_z (v := x_2487) hx hb hr (bz_nar bx_2487) (cI x_2487) ⟨⟨bx_2487, trivial⟩, (cI_of x_2487)⟩ (fun t ht hW => ⟨x_2478, x_2479, x_2480, x_2481, x_2482, y_2483, x_2484, x_2485, iR_courtTold, fR_names, iC_nodes, iC_words, iC_chances, iC_unsures, iC_slips, iC_throneNode, x_2486, iC_unit, fC_kind, fC_parts, fC_partNodes, fC_weights, fC_weightSums, fC_toldWorths, fC_steps, fC_below, fC_above, fC_unsureWords, fC_unsureWorths, b_iR_courtTold, b_iC_nodes, b_iC_unsures, b_iC_throneNode, a_fC_parts, a_fC_partNodes, a_fC_unsureWords, (cI_tup hG), Bw.to hP hD hK ht hW⟩) hS dX3_readLine_122 hlocks
        · skip
          have hG := hG.trans (sw_in (j := 0) (h_s.trans (by decide)) rfl)
          refine lv_tableIn (off := 46) (tgt := 85) hx hb dX3_readLine_39 (by rw [h_s]; decide) (by rw [h_s]; decide) (by rw [h_s]; rfl) (by decide) ?_
          refine lv_aload_n hx hb dX3_readLine_85 rfl (lv_at hl 0 rfl) ?_
          have hMs := ml_of hD [true, true, true, true, true, true, true, false, false, true, true, true, true, true, false, false] (wc := [(oc3 oR iR_faultNumber iR_faultPlace iR_tapeSize rR_tape iR_end iR_tokenKind iR_tokenFrom iR_tokenTo iR_tokenName iR_tokenKey iR_tokenWhole oC iR_courtTold rR_names rR_keys), (arI rR_tape kR_tape 900 fR_tape), (arL rR_names kR_names 18 fR_names), (arL rR_keys kR_keys 10 fR_keys), (oc1 oC iC_nodes iC_words iC_chances iC_unsures iC_slips iC_throneNode iC_saidWorth iC_unit rC_kind rC_parts rC_partNodes rC_weights rC_weightSums rC_toldWorths rC_steps rC_below rC_above rC_unsureWords rC_unsureWorths), (arI rC_kind kC_kind 18 fC_kind), (arI rC_parts kC_parts 18 fC_parts), (arI rC_weightSums kC_weightSums 18 fC_weightSums), (arI rC_toldWorths kC_toldWorths 18 fC_toldWorths), (arI rC_steps kC_steps 18 fC_steps), (arI rC_below kC_below 18 fC_below), (arI rC_above kC_above 18 fC_above)]) rfl
          have hFc := va_freeM hD hS hA _ hMs
          refine va_calli (va_runV (As := []) (rest := []) ⟨hx, hb, hml, hown, hts⟩ (tX3_readWord l dC dI _ oR iR_faultNumber iR_faultPlace iR_tapeSize rR_tape fR_tape kR_tape iR_end iR_tokenKind iR_tokenFrom iR_tokenTo iR_tokenName iR_tokenKey iR_tokenWhole oC iR_courtTold rR_names fR_names kR_names rR_keys fR_keys kR_keys iC_nodes iC_words iC_chances iC_unsures iC_slips iC_throneNode iC_saidWorth iC_unit rC_kind fC_kind kC_kind rC_parts fC_parts kC_parts rC_partNodes rC_weights rC_weightSums fC_weightSums kC_weightSums rC_toldWorths fC_toldWorths kC_toldWorths rC_steps fC_steps kC_steps rC_below fC_below kC_below rC_above fC_above kC_above rC_unsureWords rC_unsureWorths b_iR_tapeSize b_iR_courtTold b_iC_nodes b_iC_unsures b_iC_throneNode a_fC_parts) (cwV 0 hts (wd_V wd_267 wd_268 wd_269 wd_15 (wd_c wd_270)) rfl rfl rfl dv_yX3_readWord_0 ⟨Nat.le_of_ble_eq_true rfl, Nat.le_of_ble_eq_true rfl⟩) ⟨Pw.fb, recvX3 hK hP (q0 := 0) rfl, fun U hU hW => Pw.to (hP.ms _ hMs) (hD.ms _ hMs) (hK.ms [true, true, true, true, true, false, false, true, true, true, true, true, false, false] rfl) hE hS hFc hU hW⟩ rfl rfl hl.1 rfl (lv_room (Nat.le_of_ble_eq_true rfl)) dX3_readLine_86 ⟨Nat.le_of_ble_eq_true rfl, Nat.le_of_ble_eq_true rfl⟩) hS (fun q _ h => hFc q h) hFc (fun r u t H locs ht hvm hw hB hz1 hk1 hS => ?_)
          have hru9 := hw.2
          have hw := hw.1
          refine ex_20_3 hB (fun x_2488 x_2489 x_2490 x_2491 x_2492 y_2493 x_2494 x_2495 f_2496 x_2497 x_2498 x_2499 x_2500 f_2501 f_2502 f_2503 f_2504 f_2505 f_2506 f_2507 b_x_2497 a_f_2502 e_x_2488_0 hB => ?_)
          obtain ⟨hP, hD⟩ := Bw.goN (ws' := [(oc3 oR x_2488 x_2489 iR_tapeSize rR_tape iR_end x_2490 x_2491 x_2492 y_2493 x_2494 x_2495 oC iR_courtTold rR_names rR_keys), (arI rR_tape kR_tape 900 fR_tape), (arL rR_names kR_names 18 f_2496), (arL rR_keys kR_keys 10 fR_keys), (oc1 oC x_2497 x_2498 x_2499 iC_unsures iC_slips iC_throneNode iC_saidWorth x_2500 rC_kind rC_parts rC_partNodes rC_weights rC_weightSums rC_toldWorths rC_steps rC_below rC_above rC_unsureWords rC_unsureWorths), (arI rC_kind kC_kind 18 f_2501), (arI rC_parts kC_parts 18 f_2502), (arI rC_partNodes kC_partNodes 72 fC_partNodes), (arI rC_weights kC_weights 72 fC_weights), (arI rC_weightSums kC_weightSums 18 f_2503), (arI rC_toldWorths kC_toldWorths 18 f_2504), (arI rC_steps kC_steps 18 f_2505), (arI rC_below kC_below 18 f_2506), (arI rC_above kC_above 18 f_2507), (arI rC_unsureWords kC_unsureWords 4 fC_unsureWords), (arI rC_unsureWorths kC_unsureWorths 4 fC_unsureWorths)]) hB rfl ht hP hD _ hMs hk1 hFc rfl
          clear hz1 hk1 hvm ht hB hMs
          rw [← hru9] at e_x_2488_0
          obtain ⟨x_2508, rfl⟩ : ∃ z, z = r := ⟨_, rfl⟩
          have hG := hG.trans (un21_eq e_x_2488_0)
          have bx_2508 := hw.1
          have dx_2508 := bz_tb bx_2508
          exact wq_z (v := x_2508) hx hb hr (bz_nar bx_2508) (cI x_2508) ⟨⟨bx_2508, trivial⟩, (cI_of x_2508)⟩ (fun t ht hW => ⟨x_2488, x_2489, x_2490, x_2491, x_2492, y_2493, x_2494, x_2495, iR_courtTold, f_2496, x_2497, x_2498, x_2499, iC_unsures, iC_slips, iC_throneNode, iC_saidWorth, x_2500, f_2501, f_2502, fC_partNodes, fC_weights, f_2503, f_2504, f_2505, f_2506, f_2507, fC_unsureWords, fC_unsureWorths, b_iR_courtTold, b_x_2497, b_iC_unsures, b_iC_throneNode, a_f_2502, a_fC_partNodes, a_fC_unsureWords, (cI_tup hG), Bw.to hP hD hK ht hW⟩) hS dX3_readLine_89 hlocks
        · skip
          have hG := hG.trans (sw_in (j := 1) (h_s.trans (by decide)) rfl)
          refine lv_tableIn (off := 51) (tgt := 90) hx hb dX3_readLine_39 (by rw [h_s]; decide) (by rw [h_s]; decide) (by rw [h_s]; rfl) (by decide) ?_
          refine lv_aload_n hx hb dX3_readLine_90 rfl (lv_at hl 0 rfl) ?_
          refine lv_iconst (v := 1) hx hb dX3_readLine_91 (by decide) ?_
          have hMs := ml_of hD [true, true, true, true, true, true, true, true, true, true, true, true, true, true, false, false] (wc := [(oc3 oR iR_faultNumber iR_faultPlace iR_tapeSize rR_tape iR_end iR_tokenKind iR_tokenFrom iR_tokenTo iR_tokenName iR_tokenKey iR_tokenWhole oC iR_courtTold rR_names rR_keys), (arI rR_tape kR_tape 900 fR_tape), (arL rR_names kR_names 18 fR_names), (arL rR_keys kR_keys 10 fR_keys), (oc1 oC iC_nodes iC_words iC_chances iC_unsures iC_slips iC_throneNode iC_saidWorth iC_unit rC_kind rC_parts rC_partNodes rC_weights rC_weightSums rC_toldWorths rC_steps rC_below rC_above rC_unsureWords rC_unsureWorths), (arI rC_kind kC_kind 18 fC_kind), (arI rC_parts kC_parts 18 fC_parts), (arI rC_partNodes kC_partNodes 72 fC_partNodes), (arI rC_weights kC_weights 72 fC_weights), (arI rC_weightSums kC_weightSums 18 fC_weightSums), (arI rC_toldWorths kC_toldWorths 18 fC_toldWorths), (arI rC_steps kC_steps 18 fC_steps), (arI rC_below kC_below 18 fC_below), (arI rC_above kC_above 18 fC_above)]) rfl
          have hFc := va_freeM hD hS hA _ hMs
          refine va_calli (va_runV (As := [.int 1]) (rest := []) ⟨hx, hb, hml, hown, hts⟩ (tX3_readRuler l dC dI _ oR iR_faultNumber iR_faultPlace iR_tapeSize rR_tape fR_tape kR_tape iR_end iR_tokenKind iR_tokenFrom iR_tokenTo iR_tokenName iR_tokenKey iR_tokenWhole oC iR_courtTold rR_names fR_names kR_names rR_keys fR_keys kR_keys iC_nodes iC_words iC_chances iC_unsures iC_slips iC_throneNode iC_saidWorth iC_unit rC_kind fC_kind kC_kind rC_parts fC_parts kC_parts rC_partNodes fC_partNodes kC_partNodes rC_weights fC_weights kC_weights rC_weightSums fC_weightSums kC_weightSums rC_toldWorths fC_toldWorths kC_toldWorths rC_steps fC_steps kC_steps rC_below fC_below kC_below rC_above fC_above kC_above rC_unsureWords rC_unsureWorths 1 b_iR_tapeSize b_iR_courtTold b_iC_nodes b_iC_unsures b_iC_throneNode a_fC_parts a_fC_partNodes) (cwV 1 hts (wd_V wd_296 wd_297 wd_298 wd_15 (wd_c wd_299)) rfl rfl rfl dv_yX3_readRuler_1 ⟨Nat.le_of_ble_eq_true rfl, Nat.le_of_ble_eq_true rfl⟩) ⟨Pw.fb, recvX3 hK hP (q0 := 0) rfl, fun U hU hW => Pw.to (hP.ms _ hMs) (hD.ms _ hMs) (hK.ms [true, true, true, true, true, true, true, true, true, true, true, true, false, false] rfl) hE hS hFc hU hW⟩ rfl rfl hl.1 rfl (lv_room (Nat.le_of_ble_eq_true rfl)) dX3_readLine_92 ⟨Nat.le_of_ble_eq_true rfl, Nat.le_of_ble_eq_true rfl⟩) hS (fun q _ h => hFc q h) hFc (fun r u t H locs ht hvm hw hB hz1 hk1 hS => ?_)
          have hru9 := hw.2
          have hw := hw.1
          refine ex_22_4 hB (fun x_2509 x_2510 x_2511 x_2512 x_2513 y_2514 x_2515 x_2516 f_2517 x_2518 x_2519 x_2520 x_2521 f_2522 f_2523 f_2524 f_2525 f_2526 f_2527 f_2528 f_2529 f_2530 b_x_2518 a_f_2523 a_f_2524 e_x_2509_0 hB => ?_)
          obtain ⟨hP, hD⟩ := Bw.goN (ws' := [(oc3 oR x_2509 x_2510 iR_tapeSize rR_tape iR_end x_2511 x_2512 x_2513 y_2514 x_2515 x_2516 oC iR_courtTold rR_names rR_keys), (arI rR_tape kR_tape 900 fR_tape), (arL rR_names kR_names 18 f_2517), (arL rR_keys kR_keys 10 fR_keys), (oc1 oC x_2518 x_2519 x_2520 iC_unsures iC_slips iC_throneNode iC_saidWorth x_2521 rC_kind rC_parts rC_partNodes rC_weights rC_weightSums rC_toldWorths rC_steps rC_below rC_above rC_unsureWords rC_unsureWorths), (arI rC_kind kC_kind 18 f_2522), (arI rC_parts kC_parts 18 f_2523), (arI rC_partNodes kC_partNodes 72 f_2524), (arI rC_weights kC_weights 72 f_2525), (arI rC_weightSums kC_weightSums 18 f_2526), (arI rC_toldWorths kC_toldWorths 18 f_2527), (arI rC_steps kC_steps 18 f_2528), (arI rC_below kC_below 18 f_2529), (arI rC_above kC_above 18 f_2530), (arI rC_unsureWords kC_unsureWords 4 fC_unsureWords), (arI rC_unsureWorths kC_unsureWorths 4 fC_unsureWorths)]) hB rfl ht hP hD _ hMs hk1 hFc rfl
          clear hz1 hk1 hvm ht hB hMs
          rw [← hru9] at e_x_2509_0
          obtain ⟨x_2531, rfl⟩ : ∃ z, z = r := ⟨_, rfl⟩
          have hG := hG.trans (un23_eq e_x_2509_0)
          have bx_2531 := hw.1
          have dx_2531 := bz_tb bx_2531
          exact wq_z (v := x_2531) hx hb hr (bz_nar bx_2531) (cI x_2531) ⟨⟨bx_2531, trivial⟩, (cI_of x_2531)⟩ (fun t ht hW => ⟨x_2509, x_2510, x_2511, x_2512, x_2513, y_2514, x_2515, x_2516, iR_courtTold, f_2517, x_2518, x_2519, x_2520, iC_unsures, iC_slips, iC_throneNode, iC_saidWorth, x_2521, f_2522, f_2523, f_2524, f_2525, f_2526, f_2527, f_2528, f_2529, f_2530, fC_unsureWords, fC_unsureWorths, b_iR_courtTold, b_x_2518, b_iC_unsures, b_iC_throneNode, a_f_2523, a_f_2524, a_fC_unsureWords, (cI_tup hG), Bw.to hP hD hK ht hW⟩) hS dX3_readLine_95 hlocks
        · skip
          have hG := hG.trans (sw_in (j := 2) (h_s.trans (by decide)) rfl)
          refine lv_tableIn (off := 57) (tgt := 96) hx hb dX3_readLine_39 (by rw [h_s]; decide) (by rw [h_s]; decide) (by rw [h_s]; rfl) (by decide) ?_
          refine lv_aload_n hx hb dX3_readLine_96 rfl (lv_at hl 0 rfl) ?_
          refine lv_iconst (v := 2) hx hb dX3_readLine_97 (by decide) ?_
          have hMs := ml_of hD [true, true, true, true, true, true, true, true, true, true, true, true, true, true, false, false] (wc := [(oc3 oR iR_faultNumber iR_faultPlace iR_tapeSize rR_tape iR_end iR_tokenKind iR_tokenFrom iR_tokenTo iR_tokenName iR_tokenKey iR_tokenWhole oC iR_courtTold rR_names rR_keys), (arI rR_tape kR_tape 900 fR_tape), (arL rR_names kR_names 18 fR_names), (arL rR_keys kR_keys 10 fR_keys), (oc1 oC iC_nodes iC_words iC_chances iC_unsures iC_slips iC_throneNode iC_saidWorth iC_unit rC_kind rC_parts rC_partNodes rC_weights rC_weightSums rC_toldWorths rC_steps rC_below rC_above rC_unsureWords rC_unsureWorths), (arI rC_kind kC_kind 18 fC_kind), (arI rC_parts kC_parts 18 fC_parts), (arI rC_partNodes kC_partNodes 72 fC_partNodes), (arI rC_weights kC_weights 72 fC_weights), (arI rC_weightSums kC_weightSums 18 fC_weightSums), (arI rC_toldWorths kC_toldWorths 18 fC_toldWorths), (arI rC_steps kC_steps 18 fC_steps), (arI rC_below kC_below 18 fC_below), (arI rC_above kC_above 18 fC_above)]) rfl
          have hFc := va_freeM hD hS hA _ hMs
          refine va_calli (va_runV (As := [.int 2]) (rest := []) ⟨hx, hb, hml, hown, hts⟩ (tX3_readRuler l dC dI _ oR iR_faultNumber iR_faultPlace iR_tapeSize rR_tape fR_tape kR_tape iR_end iR_tokenKind iR_tokenFrom iR_tokenTo iR_tokenName iR_tokenKey iR_tokenWhole oC iR_courtTold rR_names fR_names kR_names rR_keys fR_keys kR_keys iC_nodes iC_words iC_chances iC_unsures iC_slips iC_throneNode iC_saidWorth iC_unit rC_kind fC_kind kC_kind rC_parts fC_parts kC_parts rC_partNodes fC_partNodes kC_partNodes rC_weights fC_weights kC_weights rC_weightSums fC_weightSums kC_weightSums rC_toldWorths fC_toldWorths kC_toldWorths rC_steps fC_steps kC_steps rC_below fC_below kC_below rC_above fC_above kC_above rC_unsureWords rC_unsureWorths 2 b_iR_tapeSize b_iR_courtTold b_iC_nodes b_iC_unsures b_iC_throneNode a_fC_parts a_fC_partNodes) (cwV 1 hts (wd_V wd_296 wd_297 wd_298 wd_15 (wd_c wd_299)) rfl rfl rfl dv_yX3_readRuler_1 ⟨Nat.le_of_ble_eq_true rfl, Nat.le_of_ble_eq_true rfl⟩) ⟨Pw.fb, recvX3 hK hP (q0 := 0) rfl, fun U hU hW => Pw.to (hP.ms _ hMs) (hD.ms _ hMs) (hK.ms [true, true, true, true, true, true, true, true, true, true, true, true, false, false] rfl) hE hS hFc hU hW⟩ rfl rfl hl.1 rfl (lv_room (Nat.le_of_ble_eq_true rfl)) dX3_readLine_98 ⟨Nat.le_of_ble_eq_true rfl, Nat.le_of_ble_eq_true rfl⟩) hS (fun q _ h => hFc q h) hFc (fun r u t H locs ht hvm hw hB hz1 hk1 hS => ?_)
          have hru9 := hw.2
          have hw := hw.1
          refine ex_22_4 hB (fun x_2532 x_2533 x_2534 x_2535 x_2536 y_2537 x_2538 x_2539 f_2540 x_2541 x_2542 x_2543 x_2544 f_2545 f_2546 f_2547 f_2548 f_2549 f_2550 f_2551 f_2552 f_2553 b_x_2541 a_f_2546 a_f_2547 e_x_2532_0 hB => ?_)
          obtain ⟨hP, hD⟩ := Bw.goN (ws' := [(oc3 oR x_2532 x_2533 iR_tapeSize rR_tape iR_end x_2534 x_2535 x_2536 y_2537 x_2538 x_2539 oC iR_courtTold rR_names rR_keys), (arI rR_tape kR_tape 900 fR_tape), (arL rR_names kR_names 18 f_2540), (arL rR_keys kR_keys 10 fR_keys), (oc1 oC x_2541 x_2542 x_2543 iC_unsures iC_slips iC_throneNode iC_saidWorth x_2544 rC_kind rC_parts rC_partNodes rC_weights rC_weightSums rC_toldWorths rC_steps rC_below rC_above rC_unsureWords rC_unsureWorths), (arI rC_kind kC_kind 18 f_2545), (arI rC_parts kC_parts 18 f_2546), (arI rC_partNodes kC_partNodes 72 f_2547), (arI rC_weights kC_weights 72 f_2548), (arI rC_weightSums kC_weightSums 18 f_2549), (arI rC_toldWorths kC_toldWorths 18 f_2550), (arI rC_steps kC_steps 18 f_2551), (arI rC_below kC_below 18 f_2552), (arI rC_above kC_above 18 f_2553), (arI rC_unsureWords kC_unsureWords 4 fC_unsureWords), (arI rC_unsureWorths kC_unsureWorths 4 fC_unsureWorths)]) hB rfl ht hP hD _ hMs hk1 hFc rfl
          clear hz1 hk1 hvm ht hB hMs
          rw [← hru9] at e_x_2532_0
          obtain ⟨x_2554, rfl⟩ : ∃ z, z = r := ⟨_, rfl⟩
          have hG := hG.trans (un23_eq e_x_2532_0)
          have bx_2554 := hw.1
          have dx_2554 := bz_tb bx_2554
          exact wq_z (v := x_2554) hx hb hr (bz_nar bx_2554) (cI x_2554) ⟨⟨bx_2554, trivial⟩, (cI_of x_2554)⟩ (fun t ht hW => ⟨x_2532, x_2533, x_2534, x_2535, x_2536, y_2537, x_2538, x_2539, iR_courtTold, f_2540, x_2541, x_2542, x_2543, iC_unsures, iC_slips, iC_throneNode, iC_saidWorth, x_2544, f_2545, f_2546, f_2547, f_2548, f_2549, f_2550, f_2551, f_2552, f_2553, fC_unsureWords, fC_unsureWorths, b_iR_courtTold, b_x_2541, b_iC_unsures, b_iC_throneNode, a_f_2546, a_f_2547, a_fC_unsureWords, (cI_tup hG), Bw.to hP hD hK ht hW⟩) hS dX3_readLine_101 hlocks
        · skip
          have hG := hG.trans (sw_in (j := 3) (h_s.trans (by decide)) rfl)
          refine lv_tableIn (off := 63) (tgt := 102) hx hb dX3_readLine_39 (by rw [h_s]; decide) (by rw [h_s]; decide) (by rw [h_s]; rfl) (by decide) ?_
          refine lv_aload_n hx hb dX3_readLine_102 rfl (lv_at hl 0 rfl) ?_
          refine lv_iconst (v := 3) hx hb dX3_readLine_103 (by decide) ?_
          have hMs := ml_of hD [true, true, true, true, true, true, true, true, true, true, true, true, true, true, false, false] (wc := [(oc3 oR iR_faultNumber iR_faultPlace iR_tapeSize rR_tape iR_end iR_tokenKind iR_tokenFrom iR_tokenTo iR_tokenName iR_tokenKey iR_tokenWhole oC iR_courtTold rR_names rR_keys), (arI rR_tape kR_tape 900 fR_tape), (arL rR_names kR_names 18 fR_names), (arL rR_keys kR_keys 10 fR_keys), (oc1 oC iC_nodes iC_words iC_chances iC_unsures iC_slips iC_throneNode iC_saidWorth iC_unit rC_kind rC_parts rC_partNodes rC_weights rC_weightSums rC_toldWorths rC_steps rC_below rC_above rC_unsureWords rC_unsureWorths), (arI rC_kind kC_kind 18 fC_kind), (arI rC_parts kC_parts 18 fC_parts), (arI rC_partNodes kC_partNodes 72 fC_partNodes), (arI rC_weights kC_weights 72 fC_weights), (arI rC_weightSums kC_weightSums 18 fC_weightSums), (arI rC_toldWorths kC_toldWorths 18 fC_toldWorths), (arI rC_steps kC_steps 18 fC_steps), (arI rC_below kC_below 18 fC_below), (arI rC_above kC_above 18 fC_above)]) rfl
          have hFc := va_freeM hD hS hA _ hMs
          refine va_calli (va_runV (As := [.int 3]) (rest := []) ⟨hx, hb, hml, hown, hts⟩ (tX3_readRuler l dC dI _ oR iR_faultNumber iR_faultPlace iR_tapeSize rR_tape fR_tape kR_tape iR_end iR_tokenKind iR_tokenFrom iR_tokenTo iR_tokenName iR_tokenKey iR_tokenWhole oC iR_courtTold rR_names fR_names kR_names rR_keys fR_keys kR_keys iC_nodes iC_words iC_chances iC_unsures iC_slips iC_throneNode iC_saidWorth iC_unit rC_kind fC_kind kC_kind rC_parts fC_parts kC_parts rC_partNodes fC_partNodes kC_partNodes rC_weights fC_weights kC_weights rC_weightSums fC_weightSums kC_weightSums rC_toldWorths fC_toldWorths kC_toldWorths rC_steps fC_steps kC_steps rC_below fC_below kC_below rC_above fC_above kC_above rC_unsureWords rC_unsureWorths 3 b_iR_tapeSize b_iR_courtTold b_iC_nodes b_iC_unsures b_iC_throneNode a_fC_parts a_fC_partNodes) (cwV 1 hts (wd_V wd_296 wd_297 wd_298 wd_15 (wd_c wd_299)) rfl rfl rfl dv_yX3_readRuler_1 ⟨Nat.le_of_ble_eq_true rfl, Nat.le_of_ble_eq_true rfl⟩) ⟨Pw.fb, recvX3 hK hP (q0 := 0) rfl, fun U hU hW => Pw.to (hP.ms _ hMs) (hD.ms _ hMs) (hK.ms [true, true, true, true, true, true, true, true, true, true, true, true, false, false] rfl) hE hS hFc hU hW⟩ rfl rfl hl.1 rfl (lv_room (Nat.le_of_ble_eq_true rfl)) dX3_readLine_104 ⟨Nat.le_of_ble_eq_true rfl, Nat.le_of_ble_eq_true rfl⟩) hS (fun q _ h => hFc q h) hFc (fun r u t H locs ht hvm hw hB hz1 hk1 hS => ?_)
          have hru9 := hw.2
          have hw := hw.1
          refine ex_22_4 hB (fun x_2555 x_2556 x_2557 x_2558 x_2559 y_2560 x_2561 x_2562 f_2563 x_2564 x_2565 x_2566 x_2567 f_2568 f_2569 f_2570 f_2571 f_2572 f_2573 f_2574 f_2575 f_2576 b_x_2564 a_f_2569 a_f_2570 e_x_2555_0 hB => ?_)
          obtain ⟨hP, hD⟩ := Bw.goN (ws' := [(oc3 oR x_2555 x_2556 iR_tapeSize rR_tape iR_end x_2557 x_2558 x_2559 y_2560 x_2561 x_2562 oC iR_courtTold rR_names rR_keys), (arI rR_tape kR_tape 900 fR_tape), (arL rR_names kR_names 18 f_2563), (arL rR_keys kR_keys 10 fR_keys), (oc1 oC x_2564 x_2565 x_2566 iC_unsures iC_slips iC_throneNode iC_saidWorth x_2567 rC_kind rC_parts rC_partNodes rC_weights rC_weightSums rC_toldWorths rC_steps rC_below rC_above rC_unsureWords rC_unsureWorths), (arI rC_kind kC_kind 18 f_2568), (arI rC_parts kC_parts 18 f_2569), (arI rC_partNodes kC_partNodes 72 f_2570), (arI rC_weights kC_weights 72 f_2571), (arI rC_weightSums kC_weightSums 18 f_2572), (arI rC_toldWorths kC_toldWorths 18 f_2573), (arI rC_steps kC_steps 18 f_2574), (arI rC_below kC_below 18 f_2575), (arI rC_above kC_above 18 f_2576), (arI rC_unsureWords kC_unsureWords 4 fC_unsureWords), (arI rC_unsureWorths kC_unsureWorths 4 fC_unsureWorths)]) hB rfl ht hP hD _ hMs hk1 hFc rfl
          clear hz1 hk1 hvm ht hB hMs
          rw [← hru9] at e_x_2555_0
          obtain ⟨x_2577, rfl⟩ : ∃ z, z = r := ⟨_, rfl⟩
          have hG := hG.trans (un23_eq e_x_2555_0)
          have bx_2577 := hw.1
          have dx_2577 := bz_tb bx_2577
          exact wq_z (v := x_2577) hx hb hr (bz_nar bx_2577) (cI x_2577) ⟨⟨bx_2577, trivial⟩, (cI_of x_2577)⟩ (fun t ht hW => ⟨x_2555, x_2556, x_2557, x_2558, x_2559, y_2560, x_2561, x_2562, iR_courtTold, f_2563, x_2564, x_2565, x_2566, iC_unsures, iC_slips, iC_throneNode, iC_saidWorth, x_2567, f_2568, f_2569, f_2570, f_2571, f_2572, f_2573, f_2574, f_2575, f_2576, fC_unsureWords, fC_unsureWorths, b_iR_courtTold, b_x_2564, b_iC_unsures, b_iC_throneNode, a_f_2569, a_f_2570, a_fC_unsureWords, (cI_tup hG), Bw.to hP hD hK ht hW⟩) hS dX3_readLine_107 hlocks
        · skip
          have hG := hG.trans (sw_in (j := 4) (h_s.trans (by decide)) rfl)
          refine lv_tableIn (off := 41) (tgt := 80) hx hb dX3_readLine_39 (by rw [h_s]; decide) (by rw [h_s]; decide) (by rw [h_s]; rfl) (by decide) ?_
          refine lv_aload_n hx hb dX3_readLine_80 rfl (lv_at hl 0 rfl) ?_
          have hMs := ml_of hD [true, true, false, true, true, false, false, false, false, false, false, false, false, false, false, false] (wc := [(oc3 oR iR_faultNumber iR_faultPlace iR_tapeSize rR_tape iR_end iR_tokenKind iR_tokenFrom iR_tokenTo iR_tokenName iR_tokenKey iR_tokenWhole oC iR_courtTold rR_names rR_keys), (arI rR_tape kR_tape 900 fR_tape), (arL rR_keys kR_keys 10 fR_keys), (oc1 oC iC_nodes iC_words iC_chances iC_unsures iC_slips iC_throneNode iC_saidWorth iC_unit rC_kind rC_parts rC_partNodes rC_weights rC_weightSums rC_toldWorths rC_steps rC_below rC_above rC_unsureWords rC_unsureWorths)]) rfl
          have hFc := va_freeM hD hS hA _ hMs
          refine va_calli (va_runV (As := []) (rest := []) ⟨hx, hb, hml, hown, hts⟩ (tX3_readCourt l dC dI _ oR iR_faultNumber iR_faultPlace iR_tapeSize rR_tape fR_tape kR_tape iR_end iR_tokenKind iR_tokenFrom iR_tokenTo iR_tokenName iR_tokenKey iR_tokenWhole oC iR_courtTold rR_names rR_keys fR_keys kR_keys iC_nodes iC_words iC_chances iC_unsures iC_slips iC_throneNode iC_saidWorth iC_unit rC_kind rC_parts rC_partNodes rC_weights rC_weightSums rC_toldWorths rC_steps rC_below rC_above rC_unsureWords rC_unsureWorths b_iR_tapeSize b_iR_courtTold b_iC_nodes b_iC_unsures b_iC_throneNode) (cwV 0 hts (wd_V wd_258 wd_259 wd_260 wd_15 (wd_c wd_261)) rfl rfl rfl dv_yX3_readCourt_0 ⟨Nat.le_of_ble_eq_true rfl, Nat.le_of_ble_eq_true rfl⟩) ⟨Pw.fb, recvX3 hK hP (q0 := 0) rfl, fun U hU hW => Pw.to (hP.ms _ hMs) (hD.ms _ hMs) (hK.ms [true, false, true, false, false, false, false, false, false, false, false, false, false, false] rfl) hE hS hFc hU hW⟩ rfl rfl hl.1 rfl (lv_room (Nat.le_of_ble_eq_true rfl)) dX3_readLine_81 ⟨Nat.le_of_ble_eq_true rfl, Nat.le_of_ble_eq_true rfl⟩) hS (fun q _ h => hFc q h) hFc (fun r u t H locs ht hvm hw hB hz1 hk1 hS => ?_)
          have hru9 := hw.2
          have hw := hw.1
          refine ex_10_2 hB (fun x_2578 x_2579 x_2580 x_2581 x_2582 y_2583 x_2584 x_2585 x_2586 x_2587 b_x_2586 e_x_2578_0 hB => ?_)
          obtain ⟨hP, hD⟩ := Bw.goN (ws' := [(oc3 oR x_2578 x_2579 iR_tapeSize rR_tape iR_end x_2580 x_2581 x_2582 y_2583 x_2584 x_2585 oC x_2586 rR_names rR_keys), (arI rR_tape kR_tape 900 fR_tape), (arL rR_names kR_names 18 fR_names), (arL rR_keys kR_keys 10 fR_keys), (oc1 oC iC_nodes iC_words iC_chances iC_unsures x_2587 iC_throneNode iC_saidWorth iC_unit rC_kind rC_parts rC_partNodes rC_weights rC_weightSums rC_toldWorths rC_steps rC_below rC_above rC_unsureWords rC_unsureWorths), (arI rC_kind kC_kind 18 fC_kind), (arI rC_parts kC_parts 18 fC_parts), (arI rC_partNodes kC_partNodes 72 fC_partNodes), (arI rC_weights kC_weights 72 fC_weights), (arI rC_weightSums kC_weightSums 18 fC_weightSums), (arI rC_toldWorths kC_toldWorths 18 fC_toldWorths), (arI rC_steps kC_steps 18 fC_steps), (arI rC_below kC_below 18 fC_below), (arI rC_above kC_above 18 fC_above), (arI rC_unsureWords kC_unsureWords 4 fC_unsureWords), (arI rC_unsureWorths kC_unsureWorths 4 fC_unsureWorths)]) hB rfl ht hP hD _ hMs hk1 hFc rfl
          clear hz1 hk1 hvm ht hB hMs
          rw [← hru9] at e_x_2578_0
          obtain ⟨x_2588, rfl⟩ : ∃ z, z = r := ⟨_, rfl⟩
          have hG := hG.trans (un11_eq e_x_2578_0)
          have bx_2588 := hw.1
          have dx_2588 := bz_tb bx_2588
          exact wq_z (v := x_2588) hx hb hr (bz_nar bx_2588) (cI x_2588) ⟨⟨bx_2588, trivial⟩, (cI_of x_2588)⟩ (fun t ht hW => ⟨x_2578, x_2579, x_2580, x_2581, x_2582, y_2583, x_2584, x_2585, x_2586, fR_names, iC_nodes, iC_words, iC_chances, iC_unsures, x_2587, iC_throneNode, iC_saidWorth, iC_unit, fC_kind, fC_parts, fC_partNodes, fC_weights, fC_weightSums, fC_toldWorths, fC_steps, fC_below, fC_above, fC_unsureWords, fC_unsureWorths, b_x_2586, b_iC_nodes, b_iC_unsures, b_iC_throneNode, a_fC_parts, a_fC_partNodes, a_fC_unsureWords, (cI_tup hG), Bw.to hP hD hK ht hW⟩) hS dX3_readLine_84 hlocks
        · skip
          have hG := hG.trans (sw_in (j := 5) (h_s.trans (by decide)) rfl)
          refine lv_tableIn (off := 69) (tgt := 108) hx hb dX3_readLine_39 (by rw [h_s]; decide) (by rw [h_s]; decide) (by rw [h_s]; rfl) (by decide) ?_
          refine lv_aload_n hx hb dX3_readLine_108 rfl (lv_at hl 0 rfl) ?_
          have hMs := ml_of hD [true, true, true, true, true, false, false, false, false, false, false, false, false, false, false, false] (wc := [(oc3 oR iR_faultNumber iR_faultPlace iR_tapeSize rR_tape iR_end iR_tokenKind iR_tokenFrom iR_tokenTo iR_tokenName iR_tokenKey iR_tokenWhole oC iR_courtTold rR_names rR_keys), (arI rR_tape kR_tape 900 fR_tape), (arL rR_names kR_names 18 fR_names), (arL rR_keys kR_keys 10 fR_keys), (oc1 oC iC_nodes iC_words iC_chances iC_unsures iC_slips iC_throneNode iC_saidWorth iC_unit rC_kind rC_parts rC_partNodes rC_weights rC_weightSums rC_toldWorths rC_steps rC_below rC_above rC_unsureWords rC_unsureWorths)]) rfl
          have hFc := va_freeM hD hS hA _ hMs
          refine va_calli (va_runV (As := []) (rest := []) ⟨hx, hb, hml, hown, hts⟩ (tX3_readThrone l dC dI _ oR iR_faultNumber iR_faultPlace iR_tapeSize rR_tape fR_tape kR_tape iR_end iR_tokenKind iR_tokenFrom iR_tokenTo iR_tokenName iR_tokenKey iR_tokenWhole oC iR_courtTold rR_names fR_names kR_names rR_keys fR_keys kR_keys iC_nodes iC_words iC_chances iC_unsures iC_slips iC_throneNode iC_saidWorth iC_unit rC_kind rC_parts rC_partNodes rC_weights rC_weightSums rC_toldWorths rC_steps rC_below rC_above rC_unsureWords rC_unsureWorths b_iR_tapeSize b_iR_courtTold b_iC_nodes b_iC_unsures b_iC_throneNode) (cwV 0 hts (wd_V wd_329 wd_330 wd_331 wd_15 (wd_c wd_332)) rfl rfl rfl dv_yX3_readThrone_0 ⟨Nat.le_of_ble_eq_true rfl, Nat.le_of_ble_eq_true rfl⟩) ⟨Pw.fb, recvX3 hK hP (q0 := 0) rfl, fun U hU hW => Pw.to (hP.ms _ hMs) (hD.ms _ hMs) (hK.ms [true, true, true, false, false, false, false, false, false, false, false, false, false, false] rfl) hE hS hFc hU hW⟩ rfl rfl hl.1 rfl (lv_room (Nat.le_of_ble_eq_true rfl)) dX3_readLine_109 ⟨Nat.le_of_ble_eq_true rfl, Nat.le_of_ble_eq_true rfl⟩) hS (fun q _ h => hFc q h) hFc (fun r u t H locs ht hvm hw hB hz1 hk1 hS => ?_)
          have hru9 := hw.2
          have hw := hw.1
          refine ex_9_2 hB (fun x_2589 x_2590 x_2591 x_2592 x_2593 y_2594 x_2595 x_2596 x_2597 b_x_2597 e_x_2589_0 hB => ?_)
          obtain ⟨hP, hD⟩ := Bw.goN (ws' := [(oc3 oR x_2589 x_2590 iR_tapeSize rR_tape iR_end x_2591 x_2592 x_2593 y_2594 x_2595 x_2596 oC iR_courtTold rR_names rR_keys), (arI rR_tape kR_tape 900 fR_tape), (arL rR_names kR_names 18 fR_names), (arL rR_keys kR_keys 10 fR_keys), (oc1 oC iC_nodes iC_words iC_chances iC_unsures iC_slips x_2597 iC_saidWorth iC_unit rC_kind rC_parts rC_partNodes rC_weights rC_weightSums rC_toldWorths rC_steps rC_below rC_above rC_unsureWords rC_unsureWorths), (arI rC_kind kC_kind 18 fC_kind), (arI rC_parts kC_parts 18 fC_parts), (arI rC_partNodes kC_partNodes 72 fC_partNodes), (arI rC_weights kC_weights 72 fC_weights), (arI rC_weightSums kC_weightSums 18 fC_weightSums), (arI rC_toldWorths kC_toldWorths 18 fC_toldWorths), (arI rC_steps kC_steps 18 fC_steps), (arI rC_below kC_below 18 fC_below), (arI rC_above kC_above 18 fC_above), (arI rC_unsureWords kC_unsureWords 4 fC_unsureWords), (arI rC_unsureWorths kC_unsureWorths 4 fC_unsureWorths)]) hB rfl ht hP hD _ hMs hk1 hFc rfl
          clear hz1 hk1 hvm ht hB hMs
          rw [← hru9] at e_x_2589_0
          obtain ⟨x_2598, rfl⟩ : ∃ z, z = r := ⟨_, rfl⟩
          have hG := hG.trans (un10_eq e_x_2589_0)
          have bx_2598 := hw.1
          have dx_2598 := bz_tb bx_2598
          exact wq_z (v := x_2598) hx hb hr (bz_nar bx_2598) (cI x_2598) ⟨⟨bx_2598, trivial⟩, (cI_of x_2598)⟩ (fun t ht hW => ⟨x_2589, x_2590, x_2591, x_2592, x_2593, y_2594, x_2595, x_2596, iR_courtTold, fR_names, iC_nodes, iC_words, iC_chances, iC_unsures, iC_slips, x_2597, iC_saidWorth, iC_unit, fC_kind, fC_parts, fC_partNodes, fC_weights, fC_weightSums, fC_toldWorths, fC_steps, fC_below, fC_above, fC_unsureWords, fC_unsureWorths, b_iR_courtTold, b_iC_nodes, b_iC_unsures, b_x_2597, a_fC_parts, a_fC_partNodes, a_fC_unsureWords, (cI_tup hG), Bw.to hP hD hK ht hW⟩) hS dX3_readLine_112 hlocks
        · skip
          have hG := hG.trans (sw_in (j := 6) (h_s.trans (by decide)) rfl)
          refine lv_tableIn (off := 74) (tgt := 113) hx hb dX3_readLine_39 (by rw [h_s]; decide) (by rw [h_s]; decide) (by rw [h_s]; rfl) (by decide) ?_
          refine lv_aload_n hx hb dX3_readLine_113 rfl (lv_at hl 0 rfl) ?_
          have hMs := ml_of hD [true, true, true, true, true, true, false, false, false, false, false, false, false, false, true, true] (wc := [(oc3 oR iR_faultNumber iR_faultPlace iR_tapeSize rR_tape iR_end iR_tokenKind iR_tokenFrom iR_tokenTo iR_tokenName iR_tokenKey iR_tokenWhole oC iR_courtTold rR_names rR_keys), (arI rR_tape kR_tape 900 fR_tape), (arL rR_names kR_names 18 fR_names), (arL rR_keys kR_keys 10 fR_keys), (oc1 oC iC_nodes iC_words iC_chances iC_unsures iC_slips iC_throneNode iC_saidWorth iC_unit rC_kind rC_parts rC_partNodes rC_weights rC_weightSums rC_toldWorths rC_steps rC_below rC_above rC_unsureWords rC_unsureWorths), (arI rC_kind kC_kind 18 fC_kind), (arI rC_unsureWords kC_unsureWords 4 fC_unsureWords), (arI rC_unsureWorths kC_unsureWorths 4 fC_unsureWorths)]) rfl
          have hFc := va_freeM hD hS hA _ hMs
          refine va_calli (va_runV (As := []) (rest := []) ⟨hx, hb, hml, hown, hts⟩ (tX3_readUnsure l dC dI _ oR iR_faultNumber iR_faultPlace iR_tapeSize rR_tape fR_tape kR_tape iR_end iR_tokenKind iR_tokenFrom iR_tokenTo iR_tokenName iR_tokenKey iR_tokenWhole oC iR_courtTold rR_names fR_names kR_names rR_keys fR_keys kR_keys iC_nodes iC_words iC_chances iC_unsures iC_slips iC_throneNode iC_saidWorth iC_unit rC_kind fC_kind kC_kind rC_parts rC_partNodes rC_weights rC_weightSums rC_toldWorths rC_steps rC_below rC_above rC_unsureWords fC_unsureWords kC_unsureWords rC_unsureWorths fC_unsureWorths kC_unsureWorths b_iR_tapeSize b_iR_courtTold b_iC_nodes b_iC_unsures b_iC_throneNode a_fC_unsureWords) (cwV 0 hts (wd_V wd_334 wd_335 wd_336 wd_15 (wd_c wd_337)) rfl rfl rfl dv_yX3_readUnsure_0 ⟨Nat.le_of_ble_eq_true rfl, Nat.le_of_ble_eq_true rfl⟩) ⟨Pw.fb, recvX3 hK hP (q0 := 0) rfl, fun U hU hW => Pw.to (hP.ms _ hMs) (hD.ms _ hMs) (hK.ms [true, true, true, true, false, false, false, false, false, false, false, false, true, true] rfl) hE hS hFc hU hW⟩ rfl rfl hl.1 rfl (lv_room (Nat.le_of_ble_eq_true rfl)) dX3_readLine_114 ⟨Nat.le_of_ble_eq_true rfl, Nat.le_of_ble_eq_true rfl⟩) hS (fun q _ h => hFc q h) hFc (fun r u t H locs ht hvm hw hB hz1 hk1 hS => ?_)
          have hru9 := hw.2
          have hw := hw.1
          refine ex_11_3 hB (fun x_2599 x_2600 x_2601 x_2602 x_2603 y_2604 x_2605 x_2606 x_2607 f_2608 f_2609 b_x_2607 a_f_2608 e_x_2599_0 hB => ?_)
          obtain ⟨hP, hD⟩ := Bw.goN (ws' := [(oc3 oR x_2599 x_2600 iR_tapeSize rR_tape iR_end x_2601 x_2602 x_2603 y_2604 x_2605 x_2606 oC iR_courtTold rR_names rR_keys), (arI rR_tape kR_tape 900 fR_tape), (arL rR_names kR_names 18 fR_names), (arL rR_keys kR_keys 10 fR_keys), (oc1 oC iC_nodes iC_words iC_chances x_2607 iC_slips iC_throneNode iC_saidWorth iC_unit rC_kind rC_parts rC_partNodes rC_weights rC_weightSums rC_toldWorths rC_steps rC_below rC_above rC_unsureWords rC_unsureWorths), (arI rC_kind kC_kind 18 fC_kind), (arI rC_parts kC_parts 18 fC_parts), (arI rC_partNodes kC_partNodes 72 fC_partNodes), (arI rC_weights kC_weights 72 fC_weights), (arI rC_weightSums kC_weightSums 18 fC_weightSums), (arI rC_toldWorths kC_toldWorths 18 fC_toldWorths), (arI rC_steps kC_steps 18 fC_steps), (arI rC_below kC_below 18 fC_below), (arI rC_above kC_above 18 fC_above), (arI rC_unsureWords kC_unsureWords 4 f_2608), (arI rC_unsureWorths kC_unsureWorths 4 f_2609)]) hB rfl ht hP hD _ hMs hk1 hFc rfl
          clear hz1 hk1 hvm ht hB hMs
          rw [← hru9] at e_x_2599_0
          obtain ⟨x_2610, rfl⟩ : ∃ z, z = r := ⟨_, rfl⟩
          have hG := hG.trans (un12_eq e_x_2599_0)
          have bx_2610 := hw.1
          have dx_2610 := bz_tb bx_2610
          exact wq_z (v := x_2610) hx hb hr (bz_nar bx_2610) (cI x_2610) ⟨⟨bx_2610, trivial⟩, (cI_of x_2610)⟩ (fun t ht hW => ⟨x_2599, x_2600, x_2601, x_2602, x_2603, y_2604, x_2605, x_2606, iR_courtTold, fR_names, iC_nodes, iC_words, iC_chances, x_2607, iC_slips, iC_throneNode, iC_saidWorth, iC_unit, fC_kind, fC_parts, fC_partNodes, fC_weights, fC_weightSums, fC_toldWorths, fC_steps, fC_below, fC_above, f_2608, f_2609, b_iR_courtTold, b_iC_nodes, b_x_2607, b_iC_throneNode, a_fC_parts, a_fC_partNodes, a_f_2608, (cI_tup hG), Bw.to hP hD hK ht hW⟩) hS dX3_readLine_117 hlocks
      · skip
        have hG := hG.trans (if_neg c_2467)
        have gc_2467 := ti_ne c_2467 rfl kc_4
        refine lv_aload_n hx hb dX3_readLine_28 rfl (lv_at hl 0 rfl) ?_
        refine lv_bipush (v := 6) hx hb dX3_readLine_29 (by decide) ?_
        have hMs := ml_of hD [true, false, false, false, false, false, false, false, false, false, false, false, false, false, false, false] (wc := [(oc3 oR iR_faultNumber iR_faultPlace iR_tapeSize rR_tape iR_end iR_tokenKind iR_tokenFrom iR_tokenTo iR_tokenName iR_tokenKey iR_tokenWhole oC iR_courtTold rR_names rR_keys)]) rfl
        have hFc := va_freeM hD hS hA _ hMs
        refine va_calli (va_runV (As := [.int 6]) (rest := []) ⟨hx, hb, hml, hown, hts⟩ (tX3_faulty l dC dI _ oR iR_faultNumber iR_faultPlace iR_tapeSize rR_tape iR_end iR_tokenKind iR_tokenFrom iR_tokenTo iR_tokenName iR_tokenKey iR_tokenWhole oC iR_courtTold rR_names rR_keys 6 b_iR_tapeSize b_iR_courtTold) (cwV 1 hts (wd_V wd_254 wd_255 wd_256 wd_15 (wd_c wd_257)) rfl rfl rfl dv_yX3_faulty_1 ⟨Nat.le_of_ble_eq_true rfl, Nat.le_of_ble_eq_true rfl⟩) ⟨Pw.fb, recvX3 hK hP (q0 := 0) rfl, fun U hU hW => Pw.to (hP.ms _ hMs) (hD.ms _ hMs) (hK.ms [false, false, false, false, false, false, false, false, false, false, false, false, false, false] rfl) hE hS hFc hU hW⟩ rfl rfl hl.1 rfl (lv_room (Nat.le_of_ble_eq_true rfl)) dX3_readLine_31 ⟨Nat.le_of_ble_eq_true rfl, Nat.le_of_ble_eq_true rfl⟩) hS (fun q _ h => hFc q h) hFc (fun r u t H locs ht hvm hw hB hz1 hk1 hS => ?_)
        have hru9 := hw.2
        have hw := hw.1
        refine ex_2_1 hB (fun x_2611 x_2612 e_x_2611_0 hB => ?_)
        obtain ⟨hP, hD⟩ := Bw.goN (ws' := [(oc3 oR x_2611 x_2612 iR_tapeSize rR_tape iR_end iR_tokenKind iR_tokenFrom iR_tokenTo iR_tokenName iR_tokenKey iR_tokenWhole oC iR_courtTold rR_names rR_keys), (arI rR_tape kR_tape 900 fR_tape), (arL rR_names kR_names 18 fR_names), (arL rR_keys kR_keys 10 fR_keys), (oc1 oC iC_nodes iC_words iC_chances iC_unsures iC_slips iC_throneNode iC_saidWorth iC_unit rC_kind rC_parts rC_partNodes rC_weights rC_weightSums rC_toldWorths rC_steps rC_below rC_above rC_unsureWords rC_unsureWorths), (arI rC_kind kC_kind 18 fC_kind), (arI rC_parts kC_parts 18 fC_parts), (arI rC_partNodes kC_partNodes 72 fC_partNodes), (arI rC_weights kC_weights 72 fC_weights), (arI rC_weightSums kC_weightSums 18 fC_weightSums), (arI rC_toldWorths kC_toldWorths 18 fC_toldWorths), (arI rC_steps kC_steps 18 fC_steps), (arI rC_below kC_below 18 fC_below), (arI rC_above kC_above 18 fC_above), (arI rC_unsureWords kC_unsureWords 4 fC_unsureWords), (arI rC_unsureWorths kC_unsureWorths 4 fC_unsureWorths)]) hB rfl ht hP hD _ hMs hk1 hFc rfl
        clear hz1 hk1 hvm ht hB hMs
        rw [← hru9] at e_x_2611_0
        rcases hw.2 with ⟨rfl, hc_2613⟩
        · skip
          have hG := hG.trans (un3_eq e_x_2611_0)
          exact wq_z (v := 0) hx hb hr rfl (cI 0) ⟨⟨Or.inl rfl, trivial⟩, (cI_of 0)⟩ (fun t ht hW => ⟨x_2611, x_2612, iR_tokenKind, iR_tokenFrom, iR_tokenTo, iR_tokenName, iR_tokenKey, iR_tokenWhole, iR_courtTold, fR_names, iC_nodes, iC_words, iC_chances, iC_unsures, iC_slips, iC_throneNode, iC_saidWorth, iC_unit, fC_kind, fC_parts, fC_partNodes, fC_weights, fC_weightSums, fC_toldWorths, fC_steps, fC_below, fC_above, fC_unsureWords, fC_unsureWorths, b_iR_courtTold, b_iC_nodes, b_iC_unsures, b_iC_throneNode, a_fC_parts, a_fC_partNodes, a_fC_unsureWords, (cI_tup hG), Bw.to hP hD hK ht hW⟩) hS dX3_readLine_34 hlocks
  · skip
    have hG := hG.trans (if_pos c_2322)
    have gc_2322 := ti_eq c_2322 rfl kc_0
    refine lv_aload_n hx hb dX3_readLine_7 rfl (lv_at hl 0 rfl) ?_
    refine lv_iconst (v := 1) hx hb dX3_readLine_8 (by decide) ?_
    have hMs := ml_of hD [true, false, false, false, false, false, false, false, false, false, false, false, false, false, false, false] (wc := [(oc3 oR iR_faultNumber iR_faultPlace iR_tapeSize rR_tape iR_end iR_tokenKind iR_tokenFrom iR_tokenTo iR_tokenName iR_tokenKey iR_tokenWhole oC iR_courtTold rR_names rR_keys)]) rfl
    have hFc := va_freeM hD hS hA _ hMs
    refine va_calli (va_runV (As := [.int 1]) (rest := []) ⟨hx, hb, hml, hown, hts⟩ (tX3_faulty l dC dI _ oR iR_faultNumber iR_faultPlace iR_tapeSize rR_tape iR_end iR_tokenKind iR_tokenFrom iR_tokenTo iR_tokenName iR_tokenKey iR_tokenWhole oC iR_courtTold rR_names rR_keys 1 b_iR_tapeSize b_iR_courtTold) (cwV 1 hts (wd_V wd_254 wd_255 wd_256 wd_15 (wd_c wd_257)) rfl rfl rfl dv_yX3_faulty_1 ⟨Nat.le_of_ble_eq_true rfl, Nat.le_of_ble_eq_true rfl⟩) ⟨Pw.fb, recvX3 hK hP (q0 := 0) rfl, fun U hU hW => Pw.to (hP.ms _ hMs) (hD.ms _ hMs) (hK.ms [false, false, false, false, false, false, false, false, false, false, false, false, false, false] rfl) hE hS hFc hU hW⟩ rfl rfl hl.1 rfl (lv_room (Nat.le_of_ble_eq_true rfl)) dX3_readLine_9 ⟨Nat.le_of_ble_eq_true rfl, Nat.le_of_ble_eq_true rfl⟩) hS (fun q _ h => hFc q h) hFc (fun r u t H locs ht hvm hw hB hz1 hk1 hS => ?_)
    have hru9 := hw.2
    have hw := hw.1
    refine ex_2_1 hB (fun x_2615 x_2616 e_x_2615_0 hB => ?_)
    obtain ⟨hP, hD⟩ := Bw.goN (ws' := [(oc3 oR x_2615 x_2616 iR_tapeSize rR_tape iR_end iR_tokenKind iR_tokenFrom iR_tokenTo iR_tokenName iR_tokenKey iR_tokenWhole oC iR_courtTold rR_names rR_keys), (arI rR_tape kR_tape 900 fR_tape), (arL rR_names kR_names 18 fR_names), (arL rR_keys kR_keys 10 fR_keys), (oc1 oC iC_nodes iC_words iC_chances iC_unsures iC_slips iC_throneNode iC_saidWorth iC_unit rC_kind rC_parts rC_partNodes rC_weights rC_weightSums rC_toldWorths rC_steps rC_below rC_above rC_unsureWords rC_unsureWorths), (arI rC_kind kC_kind 18 fC_kind), (arI rC_parts kC_parts 18 fC_parts), (arI rC_partNodes kC_partNodes 72 fC_partNodes), (arI rC_weights kC_weights 72 fC_weights), (arI rC_weightSums kC_weightSums 18 fC_weightSums), (arI rC_toldWorths kC_toldWorths 18 fC_toldWorths), (arI rC_steps kC_steps 18 fC_steps), (arI rC_below kC_below 18 fC_below), (arI rC_above kC_above 18 fC_above), (arI rC_unsureWords kC_unsureWords 4 fC_unsureWords), (arI rC_unsureWorths kC_unsureWorths 4 fC_unsureWorths)]) hB rfl ht hP hD _ hMs hk1 hFc rfl
    clear hz1 hk1 hvm ht hB hMs
    rw [← hru9] at e_x_2615_0
    rcases hw.2 with ⟨rfl, hc_2617⟩
    · skip
      have hG := hG.trans (un3_eq e_x_2615_0)
      exact wq_z (v := 0) hx hb hr rfl (cI 0) ⟨⟨Or.inl rfl, trivial⟩, (cI_of 0)⟩ (fun t ht hW => ⟨x_2615, x_2616, iR_tokenKind, iR_tokenFrom, iR_tokenTo, iR_tokenName, iR_tokenKey, iR_tokenWhole, iR_courtTold, fR_names, iC_nodes, iC_words, iC_chances, iC_unsures, iC_slips, iC_throneNode, iC_saidWorth, iC_unit, fC_kind, fC_parts, fC_partNodes, fC_weights, fC_weightSums, fC_toldWorths, fC_steps, fC_below, fC_above, fC_unsureWords, fC_unsureWorths, b_iR_courtTold, b_iC_nodes, b_iC_unsures, b_iC_throneNode, a_fC_parts, a_fC_partNodes, a_fC_unsureWords, (cI_tup hG), Bw.to hP hD hK ht hW⟩) hS dX3_readLine_12 hlocks
set_option maxHeartbeats 4000000 in
set_option maxRecDepth 100000 in
theorem tX3_readEnd (l : Launch) (dC : Nat → ClassId) (dI : Nat → Nat → Nat) (sz : Nat) (oR : Nat) (iR_faultNumber : Int32) (iR_faultPlace : Int32) (iR_tapeSize : Int32) (rR_tape : Nat) (iR_end : Int32) (iR_tokenKind : Int32) (iR_tokenFrom : Int32) (iR_tokenTo : Int32) (iR_tokenName : Int64) (iR_tokenKey : Int32) (iR_tokenWhole : Int32) (oC : Nat) (iR_courtTold : Int32) (rR_names : Nat) (rR_keys : Nat) (iC_nodes : Int32) (iC_words : Int32) (iC_chances : Int32) (iC_unsures : Int32) (iC_slips : Int32) (iC_throneNode : Int32) (iC_saidWorth : Int32) (iC_unit : Int32) (rC_kind : Nat) (rC_parts : Nat) (rC_partNodes : Nat) (rC_weights : Nat) (rC_weightSums : Nat) (rC_toldWorths : Nat) (rC_steps : Nat) (rC_below : Nat) (rC_above : Nat) (rC_unsureWords : Nat) (rC_unsureWorths : Nat) (b_iR_tapeSize : 0 ≤ iR_tapeSize.toInt ∧ iR_tapeSize.toInt ≤ 900) (b_iR_courtTold : 0 ≤ iR_courtTold.toInt ∧ iR_courtTold.toInt ≤ 1) (b_iC_nodes : 0 ≤ iC_nodes.toInt ∧ iC_nodes.toInt ≤ 18) (b_iC_unsures : 0 ≤ iC_unsures.toInt ∧ iC_unsures.toInt ≤ 4) (b_iC_throneNode : (-1) ≤ iC_throneNode.toInt ∧ iC_throneNode.toInt ≤ 17)  : Met l yX3_readEnd (Cond.code yX3_readEnd cX3_readEnd 1 (some .boolean) :: wG) ({ frames := 1, cells := 0, slots := 0, locals := 21 }) (va_Pc [.ref oR] (Pw dC dI sz [(oc3 oR iR_faultNumber iR_faultPlace iR_tapeSize rR_tape iR_end iR_tokenKind iR_tokenFrom iR_tokenTo iR_tokenName iR_tokenKey iR_tokenWhole oC iR_courtTold rR_names rR_keys), (oc1 oC iC_nodes iC_words iC_chances iC_unsures iC_slips iC_throneNode iC_saidWorth iC_unit rC_kind rC_parts rC_partNodes rC_weights rC_weightSums rC_toldWorths rC_steps rC_below rC_above rC_unsureWords rC_unsureWorths)] [])) (va_Qi (fun (r : Int32) (u : Nat) => ((r = 0 ∨ r = 1) ∧ (r.toInt = (u : Int))) ∧ r = Int32.ofNat u) (fun (u : Nat) (t : State) => ∃ (niR_faultNumber : Int32) (niR_faultPlace : Int32) (niC_throneNode : Int32), ((-1) ≤ niC_throneNode.toInt ∧ niC_throneNode.toInt ≤ 17) ∧ (u = 1 → iC_nodes.toInt ≤ 0 ∨ 0 ≤ niC_throneNode.toInt) ∧ (PX3_readEnd iR_faultNumber iR_faultPlace iR_tokenKind iR_tokenFrom iC_nodes iC_words iC_throneNode = (Int32.ofNat u, niR_faultNumber, niR_faultPlace, niC_throneNode)) ∧ Bw dC dI (va_A [(oc3 oR iR_faultNumber iR_faultPlace iR_tapeSize rR_tape iR_end iR_tokenKind iR_tokenFrom iR_tokenTo iR_tokenName iR_tokenKey iR_tokenWhole oC iR_courtTold rR_names rR_keys), (oc1 oC iC_nodes iC_words iC_chances iC_unsures iC_slips iC_throneNode iC_saidWorth iC_unit rC_kind rC_parts rC_partNodes rC_weights rC_weightSums rC_toldWorths rC_steps rC_below rC_above rC_unsureWords rC_unsureWorths)] sz) [(oc3 oR niR_faultNumber niR_faultPlace iR_tapeSize rR_tape iR_end iR_tokenKind iR_tokenFrom iR_tokenTo iR_tokenName iR_tokenKey iR_tokenWhole oC iR_courtTold rR_names rR_keys), (oc1 oC iC_nodes iC_words iC_chances iC_unsures iC_slips niC_throneNode iC_saidWorth iC_unit rC_kind rC_parts rC_partNodes rC_weights rC_weightSums rC_toldWorths rC_steps rC_below rC_above rC_unsureWords rC_unsureWorths)] [] t) (va_A [(oc3 oR iR_faultNumber iR_faultPlace iR_tapeSize rR_tape iR_end iR_tokenKind iR_tokenFrom iR_tokenTo iR_tokenName iR_tokenKey iR_tokenWhole oC iR_courtTold rR_names rR_keys), (oc1 oC iC_nodes iC_words iC_chances iC_unsures iC_slips iC_throneNode iC_saidWorth iC_unit rC_kind rC_parts rC_partNodes rC_weights rC_weightSums rC_toldWorths rC_steps rC_below rC_above rC_unsureWords rC_unsureWorths)] sz)) 0 0 (va_A [(oc3 oR iR_faultNumber iR_faultPlace iR_tapeSize rR_tape iR_end iR_tokenKind iR_tokenFrom iR_tokenTo iR_tokenName iR_tokenKey iR_tokenWhole oC iR_courtTold rR_names rR_keys), (oc1 oC iC_nodes iC_words iC_chances iC_unsures iC_slips iC_throneNode iC_saidWorth iC_unit rC_kind rC_parts rC_partNodes rC_weights rC_weightSums rC_toldWorths rC_steps rC_below rC_above rC_unsureWords rC_unsureWorths)] sz) := by
  refine Met.ofW (cc := cX3_readEnd) (maxL := 1) (ret := (some .boolean)) pnX3 rfl ?_
  intro p e s m args below meth c s₁ B hml hv
  obtain ⟨rfl, hsz, hP, hK, hD0, hE⟩ := hv
  have hx := B.exec
  have hb := B.bytes
  have hr := B.returns
  have hts : ∀ w ∈ wG, w.before ([.ref oR] : List Value).toArray s = true := fun w h => atoms_spec (ws := Cond.code yX3_readEnd cX3_readEnd 1 (some .boolean) :: wG) B.pre w (List.mem_cons_of_mem _ h)
  have hown : s.vm.findClass RX3 = some m.cls := own_of B.named rfl
  have hlocks := B.notSynchronized
  subst hsz
  have hD := hD0.self (sz := s.heap.size)
  generalize hAe : va_A [(oc3 oR iR_faultNumber iR_faultPlace iR_tapeSize rR_tape iR_end iR_tokenKind iR_tokenFrom iR_tokenTo iR_tokenName iR_tokenKey iR_tokenWhole oC iR_courtTold rR_names rR_keys), (oc1 oC iC_nodes iC_words iC_chances iC_unsures iC_slips iC_throneNode iC_saidWorth iC_unit rC_kind rC_parts rC_partNodes rC_weights rC_weightSums rC_toldWorths rC_steps rC_below rC_above rC_unsureWords rC_unsureWorths)] s.heap.size = A at hD hE ⊢
  have hA : ∀ q : Nat, s.heap.size ≤ q → A q := fun q h => by rw [← hAe]; exact Or.inr h
  have hS : va_S A s.heap s.heap [] := va_S.rf
  have hl := lv_entry ([.ref oR]) (n := 1) (Nat.le_of_ble_eq_true rfl)
  rw [lg_entry_eq]
  generalize (lg_sl ([.ref oR]) ++ List.replicate (1 - (lg_sl ([.ref oR])).length) Slot.unset).toArray = ls at hl ⊢
  have hl : lv_has ls 1 [(0, .ref oR)] := hl
  have hG := PX3_readEnd_eq iR_faultNumber iR_faultPlace iR_tokenKind iR_tokenFrom iC_nodes iC_words iC_throneNode
  refine lv_aload_n hx hb dX3_readEnd_0 rfl (lv_at hl 0 rfl) ?_
  refine va_get (D := (dC, dI)) (ci := 3) (v := .int iR_tokenKind) (C := RX3) (T := TX3) (N := 15) hx hb hts inX3 hown hK hP 0 rfl rfl 5 (by decide) (hts _ wd_210) (fun _ h9 => h9) rfl dX3_readEnd_1 ?_
  refine lv_if_eq (tgt := 13) hx hb dX3_readEnd_4 (by decide) (fun c_2629 => ?_) (fun c_2629 => ?_)
  · skip
    have hG := hG.trans (if_pos c_2629)
    have gc_2629 := ti_eq c_2629 rfl kc_0
    refine lv_aload_n hx hb dX3_readEnd_13 rfl (lv_at hl 0 rfl) ?_
    refine va_get (D := (dC, dI)) (ci := 3) (v := .ref oC) (C := RX3) (T := TX3) (N := 15) hx hb hts inX3 hown hK hP 0 rfl rfl 11 (by decide) (hts _ wd_46) (fun _ h9 => h9) rfl dX3_readEnd_14 ?_
    refine va_get (D := (dC, dI)) (ci := 1) (v := .int iC_words) (C := RX1) (T := TX1) (N := 19) hx hb hts inX1 hown hK hP 1 rfl rfl 1 (by decide) (hts _ wd_360) (fun _ h9 => h9) rfl dX3_readEnd_17 ?_
    refine lv_if_ne (tgt := 30) hx hb dX3_readEnd_20 (by decide) (fun c_2630 => ?_) (fun c_2630 => ?_)
    · skip
      have hG := hG.trans (if_neg c_2630)
      have gc_2630 := ti_ne c_2630 rfl kc_0
      refine lv_aload_n hx hb dX3_readEnd_30 rfl (lv_at hl 0 rfl) ?_
      refine va_get (D := (dC, dI)) (ci := 3) (v := .ref oC) (C := RX3) (T := TX3) (N := 15) hx hb hts inX3 hown hK hP 0 rfl rfl 11 (by decide) (hts _ wd_46) (fun _ h9 => h9) rfl dX3_readEnd_31 ?_
      refine va_get (D := (dC, dI)) (ci := 1) (v := .int iC_throneNode) (C := RX1) (T := TX1) (N := 19) hx hb hts inX1 hown hK hP 1 rfl rfl 5 (by decide) (hts _ wd_333) (fun _ h9 => h9) rfl dX3_readEnd_34 ?_
      refine lv_if_ge (tgt := 56) hx hb dX3_readEnd_37 (by decide) (fun c_2631 => ?_) (fun c_2631 => ?_)
      · skip
        have hG := hG.trans (if_pos c_2631)
        have gc_2631 := ti_le c_2631 kc_0 rfl
        refine lv_iconst (v := 1) hx hb dX3_readEnd_56 (by decide) ?_
        exact wq_z (v := 1) hx hb hr rfl 1 ⟨⟨Or.inr rfl, (by decide)⟩, (by decide)⟩ (fun t ht hW => ⟨iR_faultNumber, iR_faultPlace, iC_throneNode, b_iC_throneNode, (by first | omega | decide | assumption), hG, Bw.to hP hD hK ht hW⟩) hS dX3_readEnd_57 hlocks
      · skip
        have hG := hG.trans (if_neg c_2631)
        have gc_2631 := ti_nle c_2631 kc_0 rfl
        refine lv_aload_n hx hb dX3_readEnd_40 rfl (lv_at hl 0 rfl) ?_
        refine va_get (D := (dC, dI)) (ci := 3) (v := .ref oC) (C := RX3) (T := TX3) (N := 15) hx hb hts inX3 hown hK hP 0 rfl rfl 11 (by decide) (hts _ wd_46) (fun _ h9 => h9) rfl dX3_readEnd_41 ?_
        refine lv_aload_n hx hb dX3_readEnd_44 rfl (lv_at hl 0 rfl) ?_
        refine va_get (D := (dC, dI)) (ci := 3) (v := .ref oC) (C := RX3) (T := TX3) (N := 15) hx hb hts inX3 hown hK hP 0 rfl rfl 11 (by decide) (hts _ wd_46) (fun _ h9 => h9) rfl dX3_readEnd_45 ?_
        refine va_get (D := (dC, dI)) (ci := 1) (v := .int iC_nodes) (C := RX1) (T := TX1) (N := 19) hx hb hts inX1 hown hK hP 1 rfl rfl 0 (by decide) (hts _ wd_287) (fun _ h9 => h9) rfl dX3_readEnd_48 ?_
        refine lv_iconst (v := 1) hx hb dX3_readEnd_51 (by decide) ?_
        refine lv_isub hx hb dX3_readEnd_52 ?_
        refine lv_topi (fun x_2632 ex_2632 => ?_)
        have hG := hG.trans (lt_eq ex_2632)
        have vx_2632 : x_2632.toInt = iC_nodes.toInt + (-1) := om_89646172 (ti_sub ex_2632 rfl kc_1 (om_e65a73c2 b_iC_nodes.1) (om_6178c2cd b_iC_nodes.2))
        refine va_put (D := (dC, dI)) (ci := 1) (v := .int x_2632) (ty := .int) (C := RX1) (T := TX1) (N := 19) hx hb hts inX1 tyX1 tyX1_ok nmX1 hown hK hP hD hS 1 rfl rfl 5 (by decide) (hts _ wd_333) (fun _ h9 => h9) rfl (by decide +kernel) rfl rfl (Nat.le_of_ble_eq_true rfl) dX3_readEnd_53 (fun H locs hP hD hS => ?_)
        obtain ⟨hP, hD⟩ := wl2 (ws' := [(oc3 oR iR_faultNumber iR_faultPlace iR_tapeSize rR_tape iR_end iR_tokenKind iR_tokenFrom iR_tokenTo iR_tokenName iR_tokenKey iR_tokenWhole oC iR_courtTold rR_names rR_keys), (oc1 oC iC_nodes iC_words iC_chances iC_unsures iC_slips x_2632 iC_saidWorth iC_unit rC_kind rC_parts rC_partNodes rC_weights rC_weightSums rC_toldWorths rC_steps rC_below rC_above rC_unsureWords rC_unsureWorths)]) hP hD rfl
        refine lv_iconst (v := 1) hx hb dX3_readEnd_56 (by decide) ?_
        exact wq_z (v := 1) hx hb hr rfl 1 ⟨⟨Or.inr rfl, (by decide)⟩, (by decide)⟩ (fun t ht hW => ⟨iR_faultNumber, iR_faultPlace, x_2632, ⟨(om_73d763a0 b_iC_nodes.1 vx_2632), (om_18eccbe9 b_iC_nodes.2 vx_2632)⟩, (by first | omega | decide | assumption), hG, Bw.to hP hD hK ht hW⟩) hS dX3_readEnd_57 hlocks
    · skip
      have hG := hG.trans (if_pos c_2630)
      have gc_2630 := ti_eq c_2630 rfl kc_0
      refine lv_aload_n hx hb dX3_readEnd_23 rfl (lv_at hl 0 rfl) ?_
      refine lv_bipush (v := 6) hx hb dX3_readEnd_24 (by decide) ?_
      have hMs := ml_of hD [true, false] (wc := [(oc3 oR iR_faultNumber iR_faultPlace iR_tapeSize rR_tape iR_end iR_tokenKind iR_tokenFrom iR_tokenTo iR_tokenName iR_tokenKey iR_tokenWhole oC iR_courtTold rR_names rR_keys)]) rfl
      have hFc := va_freeM hD hS hA _ hMs
      refine va_calli (va_runV (As := [.int 6]) (rest := []) ⟨hx, hb, hml, hown, hts⟩ (tX3_faulty l dC dI _ oR iR_faultNumber iR_faultPlace iR_tapeSize rR_tape iR_end iR_tokenKind iR_tokenFrom iR_tokenTo iR_tokenName iR_tokenKey iR_tokenWhole oC iR_courtTold rR_names rR_keys 6 b_iR_tapeSize b_iR_courtTold) (cwV 1 hts (wd_V wd_254 wd_255 wd_256 wd_15 (wd_c wd_257)) rfl rfl rfl dv_yX3_faulty_1 ⟨Nat.le_of_ble_eq_true rfl, Nat.le_of_ble_eq_true rfl⟩) ⟨Pw.fb, recvX3 hK hP (q0 := 0) rfl, fun U hU hW => Pw.to (hP.ms _ hMs) (hD.ms _ hMs) hK hE hS hFc hU hW⟩ rfl rfl hl.1 rfl (lv_room (Nat.le_of_ble_eq_true rfl)) dX3_readEnd_26 ⟨Nat.le_of_ble_eq_true rfl, Nat.le_of_ble_eq_true rfl⟩) hS (fun q _ h => hFc q h) hFc (fun r u t H locs ht hvm hw hB hz1 hk1 hS => ?_)
      have hru9 := hw.2
      have hw := hw.1
      refine ex_2_1 hB (fun x_2633 x_2634 e_x_2633_0 hB => ?_)
      obtain ⟨hP, hD⟩ := Bw.goN (ws' := [(oc3 oR x_2633 x_2634 iR_tapeSize rR_tape iR_end iR_tokenKind iR_tokenFrom iR_tokenTo iR_tokenName iR_tokenKey iR_tokenWhole oC iR_courtTold rR_names rR_keys), (oc1 oC iC_nodes iC_words iC_chances iC_unsures iC_slips iC_throneNode iC_saidWorth iC_unit rC_kind rC_parts rC_partNodes rC_weights rC_weightSums rC_toldWorths rC_steps rC_below rC_above rC_unsureWords rC_unsureWorths)]) hB rfl ht hP hD _ hMs hk1 hFc rfl
      clear hz1 hk1 hvm ht hB hMs
      rw [← hru9] at e_x_2633_0
      rcases hw.2 with ⟨rfl, hc_2635⟩
      · skip
        have hG := hG.trans (un3_eq e_x_2633_0)
        exact wq_z (v := 0) hx hb hr rfl 0 ⟨⟨Or.inl rfl, (by decide)⟩, (by decide)⟩ (fun t ht hW => ⟨x_2633, x_2634, iC_throneNode, b_iC_throneNode, (by first | omega | decide | assumption), hG, Bw.to hP hD hK ht hW⟩) hS dX3_readEnd_29 hlocks
  · skip
    have hG := hG.trans (if_neg c_2629)
    have gc_2629 := ti_ne c_2629 rfl kc_0
    refine lv_aload_n hx hb dX3_readEnd_7 rfl (lv_at hl 0 rfl) ?_
    refine lv_iconst (v := 1) hx hb dX3_readEnd_8 (by decide) ?_
    have hMs := ml_of hD [true, false] (wc := [(oc3 oR iR_faultNumber iR_faultPlace iR_tapeSize rR_tape iR_end iR_tokenKind iR_tokenFrom iR_tokenTo iR_tokenName iR_tokenKey iR_tokenWhole oC iR_courtTold rR_names rR_keys)]) rfl
    have hFc := va_freeM hD hS hA _ hMs
    refine va_calli (va_runV (As := [.int 1]) (rest := []) ⟨hx, hb, hml, hown, hts⟩ (tX3_faulty l dC dI _ oR iR_faultNumber iR_faultPlace iR_tapeSize rR_tape iR_end iR_tokenKind iR_tokenFrom iR_tokenTo iR_tokenName iR_tokenKey iR_tokenWhole oC iR_courtTold rR_names rR_keys 1 b_iR_tapeSize b_iR_courtTold) (cwV 1 hts (wd_V wd_254 wd_255 wd_256 wd_15 (wd_c wd_257)) rfl rfl rfl dv_yX3_faulty_1 ⟨Nat.le_of_ble_eq_true rfl, Nat.le_of_ble_eq_true rfl⟩) ⟨Pw.fb, recvX3 hK hP (q0 := 0) rfl, fun U hU hW => Pw.to (hP.ms _ hMs) (hD.ms _ hMs) hK hE hS hFc hU hW⟩ rfl rfl hl.1 rfl (lv_room (Nat.le_of_ble_eq_true rfl)) dX3_readEnd_9 ⟨Nat.le_of_ble_eq_true rfl, Nat.le_of_ble_eq_true rfl⟩) hS (fun q _ h => hFc q h) hFc (fun r u t H locs ht hvm hw hB hz1 hk1 hS => ?_)
    have hru9 := hw.2
    have hw := hw.1
    refine ex_2_1 hB (fun x_2637 x_2638 e_x_2637_0 hB => ?_)
    obtain ⟨hP, hD⟩ := Bw.goN (ws' := [(oc3 oR x_2637 x_2638 iR_tapeSize rR_tape iR_end iR_tokenKind iR_tokenFrom iR_tokenTo iR_tokenName iR_tokenKey iR_tokenWhole oC iR_courtTold rR_names rR_keys), (oc1 oC iC_nodes iC_words iC_chances iC_unsures iC_slips iC_throneNode iC_saidWorth iC_unit rC_kind rC_parts rC_partNodes rC_weights rC_weightSums rC_toldWorths rC_steps rC_below rC_above rC_unsureWords rC_unsureWorths)]) hB rfl ht hP hD _ hMs hk1 hFc rfl
    clear hz1 hk1 hvm ht hB hMs
    rw [← hru9] at e_x_2637_0
    rcases hw.2 with ⟨rfl, hc_2639⟩
    · skip
      have hG := hG.trans (un3_eq e_x_2637_0)
      exact wq_z (v := 0) hx hb hr rfl 0 ⟨⟨Or.inl rfl, (by decide)⟩, (by decide)⟩ (fun t ht hW => ⟨x_2637, x_2638, iC_throneNode, b_iC_throneNode, (by first | omega | decide | assumption), hG, Bw.to hP hD hK ht hW⟩) hS dX3_readEnd_12 hlocks
set_option maxHeartbeats 4000000 in
set_option maxRecDepth 100000 in
theorem tX3_reads (l : Launch) (dC : Nat → ClassId) (dI : Nat → Nat → Nat) (sz : Nat) (oR : Nat) (iR_faultNumber : Int32) (iR_faultPlace : Int32) (iR_tapeSize : Int32) (rR_tape : Nat) (fR_tape : Nat → Int32) (kR_tape : ClassId) (iR_end : Int32) (iR_tokenKind : Int32) (iR_tokenFrom : Int32) (iR_tokenTo : Int32) (iR_tokenName : Int64) (iR_tokenKey : Int32) (iR_tokenWhole : Int32) (oC : Nat) (iR_courtTold : Int32) (rR_names : Nat) (fR_names : Nat → Int64) (kR_names : ClassId) (rR_keys : Nat) (fR_keys : Nat → Int64) (kR_keys : ClassId) (iC_nodes : Int32) (iC_words : Int32) (iC_chances : Int32) (iC_unsures : Int32) (iC_slips : Int32) (iC_throneNode : Int32) (iC_saidWorth : Int32) (iC_unit : Int32) (rC_kind : Nat) (fC_kind : Nat → Int32) (kC_kind : ClassId) (rC_parts : Nat) (fC_parts : Nat → Int32) (kC_parts : ClassId) (rC_partNodes : Nat) (fC_partNodes : Nat → Int32) (kC_partNodes : ClassId) (rC_weights : Nat) (fC_weights : Nat → Int32) (kC_weights : ClassId) (rC_weightSums : Nat) (fC_weightSums : Nat → Int32) (kC_weightSums : ClassId) (rC_toldWorths : Nat) (fC_toldWorths : Nat → Int32) (kC_toldWorths : ClassId) (rC_steps : Nat) (fC_steps : Nat → Int32) (kC_steps : ClassId) (rC_below : Nat) (fC_below : Nat → Int32) (kC_below : ClassId) (rC_above : Nat) (fC_above : Nat → Int32) (kC_above : ClassId) (rC_unsureWords : Nat) (fC_unsureWords : Nat → Int32) (kC_unsureWords : ClassId) (rC_unsureWorths : Nat) (fC_unsureWorths : Nat → Int32) (kC_unsureWorths : ClassId) (p0 : Int32) (b_iR_tapeSize : 0 ≤ iR_tapeSize.toInt ∧ iR_tapeSize.toInt ≤ 900) (b_iR_courtTold : 0 ≤ iR_courtTold.toInt ∧ iR_courtTold.toInt ≤ 1) (b_iC_nodes : 0 ≤ iC_nodes.toInt ∧ iC_nodes.toInt ≤ 18) (b_iC_unsures : 0 ≤ iC_unsures.toInt ∧ iC_unsures.toInt ≤ 4) (b_iC_throneNode : (-1) ≤ iC_throneNode.toInt ∧ iC_throneNode.toInt ≤ 17) (a_fC_parts : ∀ j : Nat, j < 18 → 0 ≤ (fC_parts j).toInt ∧ (fC_parts j).toInt ≤ 4) (a_fC_partNodes : ∀ j : Nat, j < 72 → 0 ≤ (fC_partNodes j).toInt ∧ (fC_partNodes j).toInt ≤ 17) (a_fC_unsureWords : ∀ j : Nat, j < 4 → 0 ≤ (fC_unsureWords j).toInt ∧ (fC_unsureWords j).toInt ≤ 17)  : Met l yX3_reads (Cond.code yX3_reads cX3_reads 4 (some .boolean) :: wG) ({ frames := 6, cells := 0, slots := 0, locals := 134 }) (va_Pc [.ref oR, .int p0] (Pw dC dI sz [(oc3 oR iR_faultNumber iR_faultPlace iR_tapeSize rR_tape iR_end iR_tokenKind iR_tokenFrom iR_tokenTo iR_tokenName iR_tokenKey iR_tokenWhole oC iR_courtTold rR_names rR_keys), (arI rR_tape kR_tape 900 fR_tape), (arL rR_names kR_names 18 fR_names), (arL rR_keys kR_keys 10 fR_keys), (oc1 oC iC_nodes iC_words iC_chances iC_unsures iC_slips iC_throneNode iC_saidWorth iC_unit rC_kind rC_parts rC_partNodes rC_weights rC_weightSums rC_toldWorths rC_steps rC_below rC_above rC_unsureWords rC_unsureWorths), (arI rC_kind kC_kind 18 fC_kind), (arI rC_parts kC_parts 18 fC_parts), (arI rC_partNodes kC_partNodes 72 fC_partNodes), (arI rC_weights kC_weights 72 fC_weights), (arI rC_weightSums kC_weightSums 18 fC_weightSums), (arI rC_toldWorths kC_toldWorths 18 fC_toldWorths), (arI rC_steps kC_steps 18 fC_steps), (arI rC_below kC_below 18 fC_below), (arI rC_above kC_above 18 fC_above), (arI rC_unsureWords kC_unsureWords 4 fC_unsureWords), (arI rC_unsureWorths kC_unsureWorths 4 fC_unsureWorths)] [(kR_tape, .byte), (kR_names, .long), (kR_keys, .long), (kC_kind, .int), (kC_parts, .int), (kC_partNodes, .int), (kC_weights, .int), (kC_weightSums, .int), (kC_toldWorths, .int), (kC_steps, .int), (kC_below, .int), (kC_above, .int), (kC_unsureWords, .int), (kC_unsureWorths, .int)])) (va_Qi (fun (r : Int32) (u : Nat) => ((r = 0 ∨ r = 1) ∧ (r.toInt = (u : Int))) ∧ r = Int32.ofNat u) (fun (u : Nat) (t : State) => ∃ (niR_faultNumber : Int32) (niR_faultPlace : Int32) (niR_tapeSize : Int32) (niR_end : Int32) (niR_tokenKind : Int32) (niR_tokenFrom : Int32) (niR_tokenTo : Int32) (niR_tokenName : Int64) (niR_tokenKey : Int32) (niR_tokenWhole : Int32) (niR_courtTold : Int32) (nfR_names : Nat → Int64) (niC_nodes : Int32) (niC_words : Int32) (niC_chances : Int32) (niC_unsures : Int32) (niC_slips : Int32) (niC_throneNode : Int32) (niC_saidWorth : Int32) (niC_unit : Int32) (nfC_kind : Nat → Int32) (nfC_parts : Nat → Int32) (nfC_partNodes : Nat → Int32) (nfC_weights : Nat → Int32) (nfC_weightSums : Nat → Int32) (nfC_toldWorths : Nat → Int32) (nfC_steps : Nat → Int32) (nfC_below : Nat → Int32) (nfC_above : Nat → Int32) (nfC_unsureWords : Nat → Int32) (nfC_unsureWorths : Nat → Int32), (0 ≤ niR_tapeSize.toInt ∧ niR_tapeSize.toInt ≤ 0) ∧ (0 ≤ niR_courtTold.toInt ∧ niR_courtTold.toInt ≤ 1) ∧ (0 ≤ niC_nodes.toInt ∧ niC_nodes.toInt ≤ 18) ∧ (0 ≤ niC_unsures.toInt ∧ niC_unsures.toInt ≤ 4) ∧ ((-1) ≤ niC_throneNode.toInt ∧ niC_throneNode.toInt ≤ 17) ∧ (∀ j : Nat, j < 18 → 0 ≤ (nfC_parts j).toInt ∧ (nfC_parts j).toInt ≤ 4) ∧ (∀ j : Nat, j < 72 → 0 ≤ (nfC_partNodes j).toInt ∧ (nfC_partNodes j).toInt ≤ 17) ∧ (∀ j : Nat, j < 4 → 0 ≤ (nfC_unsureWords j).toInt ∧ (nfC_unsureWords j).toInt ≤ 17) ∧ (u = 1 → niC_nodes.toInt ≤ 0 ∨ 0 ≤ niC_throneNode.toInt) ∧ (PX3_reads fR_tape iR_tokenName iR_tokenWhole fR_names fR_keys fC_kind fC_parts fC_partNodes fC_weights fC_weightSums fC_toldWorths fC_steps fC_below fC_above fC_unsureWords fC_unsureWorths p0 = (Int32.ofNat u, niR_faultNumber, niR_faultPlace, niR_tapeSize, niR_end, niR_tokenKind, niR_tokenFrom, niR_tokenTo, niR_tokenName, niR_tokenKey, niR_tokenWhole, niR_courtTold, nfR_names, niC_nodes, niC_words, niC_chances, niC_unsures, niC_slips, niC_throneNode, niC_saidWorth, niC_unit, nfC_kind, nfC_parts, nfC_partNodes, nfC_weights, nfC_weightSums, nfC_toldWorths, nfC_steps, nfC_below, nfC_above, nfC_unsureWords, nfC_unsureWorths)) ∧ Bw dC dI (va_A [(oc3 oR iR_faultNumber iR_faultPlace iR_tapeSize rR_tape iR_end iR_tokenKind iR_tokenFrom iR_tokenTo iR_tokenName iR_tokenKey iR_tokenWhole oC iR_courtTold rR_names rR_keys), (arI rR_tape kR_tape 900 fR_tape), (arL rR_names kR_names 18 fR_names), (arL rR_keys kR_keys 10 fR_keys), (oc1 oC iC_nodes iC_words iC_chances iC_unsures iC_slips iC_throneNode iC_saidWorth iC_unit rC_kind rC_parts rC_partNodes rC_weights rC_weightSums rC_toldWorths rC_steps rC_below rC_above rC_unsureWords rC_unsureWorths), (arI rC_kind kC_kind 18 fC_kind), (arI rC_parts kC_parts 18 fC_parts), (arI rC_partNodes kC_partNodes 72 fC_partNodes), (arI rC_weights kC_weights 72 fC_weights), (arI rC_weightSums kC_weightSums 18 fC_weightSums), (arI rC_toldWorths kC_toldWorths 18 fC_toldWorths), (arI rC_steps kC_steps 18 fC_steps), (arI rC_below kC_below 18 fC_below), (arI rC_above kC_above 18 fC_above), (arI rC_unsureWords kC_unsureWords 4 fC_unsureWords), (arI rC_unsureWorths kC_unsureWorths 4 fC_unsureWorths)] sz) [(oc3 oR niR_faultNumber niR_faultPlace niR_tapeSize rR_tape niR_end niR_tokenKind niR_tokenFrom niR_tokenTo niR_tokenName niR_tokenKey niR_tokenWhole oC niR_courtTold rR_names rR_keys), (arI rR_tape kR_tape 900 fR_tape), (arL rR_names kR_names 18 nfR_names), (arL rR_keys kR_keys 10 fR_keys), (oc1 oC niC_nodes niC_words niC_chances niC_unsures niC_slips niC_throneNode niC_saidWorth niC_unit rC_kind rC_parts rC_partNodes rC_weights rC_weightSums rC_toldWorths rC_steps rC_below rC_above rC_unsureWords rC_unsureWorths), (arI rC_kind kC_kind 18 nfC_kind), (arI rC_parts kC_parts 18 nfC_parts), (arI rC_partNodes kC_partNodes 72 nfC_partNodes), (arI rC_weights kC_weights 72 nfC_weights), (arI rC_weightSums kC_weightSums 18 nfC_weightSums), (arI rC_toldWorths kC_toldWorths 18 nfC_toldWorths), (arI rC_steps kC_steps 18 nfC_steps), (arI rC_below kC_below 18 nfC_below), (arI rC_above kC_above 18 nfC_above), (arI rC_unsureWords kC_unsureWords 4 nfC_unsureWords), (arI rC_unsureWorths kC_unsureWorths 4 nfC_unsureWorths)] [(kR_tape, .byte), (kR_names, .long), (kR_keys, .long), (kC_kind, .int), (kC_parts, .int), (kC_partNodes, .int), (kC_weights, .int), (kC_weightSums, .int), (kC_toldWorths, .int), (kC_steps, .int), (kC_below, .int), (kC_above, .int), (kC_unsureWords, .int), (kC_unsureWorths, .int)] t) (va_A [(oc3 oR iR_faultNumber iR_faultPlace iR_tapeSize rR_tape iR_end iR_tokenKind iR_tokenFrom iR_tokenTo iR_tokenName iR_tokenKey iR_tokenWhole oC iR_courtTold rR_names rR_keys), (arI rR_tape kR_tape 900 fR_tape), (arL rR_names kR_names 18 fR_names), (arL rR_keys kR_keys 10 fR_keys), (oc1 oC iC_nodes iC_words iC_chances iC_unsures iC_slips iC_throneNode iC_saidWorth iC_unit rC_kind rC_parts rC_partNodes rC_weights rC_weightSums rC_toldWorths rC_steps rC_below rC_above rC_unsureWords rC_unsureWorths), (arI rC_kind kC_kind 18 fC_kind), (arI rC_parts kC_parts 18 fC_parts), (arI rC_partNodes kC_partNodes 72 fC_partNodes), (arI rC_weights kC_weights 72 fC_weights), (arI rC_weightSums kC_weightSums 18 fC_weightSums), (arI rC_toldWorths kC_toldWorths 18 fC_toldWorths), (arI rC_steps kC_steps 18 fC_steps), (arI rC_below kC_below 18 fC_below), (arI rC_above kC_above 18 fC_above), (arI rC_unsureWords kC_unsureWords 4 fC_unsureWords), (arI rC_unsureWorths kC_unsureWorths 4 fC_unsureWorths)] sz)) 0 0 (va_A [(oc3 oR iR_faultNumber iR_faultPlace iR_tapeSize rR_tape iR_end iR_tokenKind iR_tokenFrom iR_tokenTo iR_tokenName iR_tokenKey iR_tokenWhole oC iR_courtTold rR_names rR_keys), (arI rR_tape kR_tape 900 fR_tape), (arL rR_names kR_names 18 fR_names), (arL rR_keys kR_keys 10 fR_keys), (oc1 oC iC_nodes iC_words iC_chances iC_unsures iC_slips iC_throneNode iC_saidWorth iC_unit rC_kind rC_parts rC_partNodes rC_weights rC_weightSums rC_toldWorths rC_steps rC_below rC_above rC_unsureWords rC_unsureWorths), (arI rC_kind kC_kind 18 fC_kind), (arI rC_parts kC_parts 18 fC_parts), (arI rC_partNodes kC_partNodes 72 fC_partNodes), (arI rC_weights kC_weights 72 fC_weights), (arI rC_weightSums kC_weightSums 18 fC_weightSums), (arI rC_toldWorths kC_toldWorths 18 fC_toldWorths), (arI rC_steps kC_steps 18 fC_steps), (arI rC_below kC_below 18 fC_below), (arI rC_above kC_above 18 fC_above), (arI rC_unsureWords kC_unsureWords 4 fC_unsureWords), (arI rC_unsureWorths kC_unsureWorths 4 fC_unsureWorths)] sz) := by
  refine Met.ofW (cc := cX3_reads) (maxL := 4) (ret := (some .boolean)) pnX3 rfl ?_
  intro p e s m args below meth c s₁ B hml hv
  obtain ⟨rfl, hsz, hP, hK, hD0, hE⟩ := hv
  have hx := B.exec
  have hb := B.bytes
  have hr := B.returns
  have hts : ∀ w ∈ wG, w.before ([.ref oR, .int p0] : List Value).toArray s = true := fun w h => atoms_spec (ws := Cond.code yX3_reads cX3_reads 4 (some .boolean) :: wG) B.pre w (List.mem_cons_of_mem _ h)
  have hown : s.vm.findClass RX3 = some m.cls := own_of B.named rfl
  have hlocks := B.notSynchronized
  subst hsz
  have hD := hD0.self (sz := s.heap.size)
  generalize hAe : va_A [(oc3 oR iR_faultNumber iR_faultPlace iR_tapeSize rR_tape iR_end iR_tokenKind iR_tokenFrom iR_tokenTo iR_tokenName iR_tokenKey iR_tokenWhole oC iR_courtTold rR_names rR_keys), (arI rR_tape kR_tape 900 fR_tape), (arL rR_names kR_names 18 fR_names), (arL rR_keys kR_keys 10 fR_keys), (oc1 oC iC_nodes iC_words iC_chances iC_unsures iC_slips iC_throneNode iC_saidWorth iC_unit rC_kind rC_parts rC_partNodes rC_weights rC_weightSums rC_toldWorths rC_steps rC_below rC_above rC_unsureWords rC_unsureWorths), (arI rC_kind kC_kind 18 fC_kind), (arI rC_parts kC_parts 18 fC_parts), (arI rC_partNodes kC_partNodes 72 fC_partNodes), (arI rC_weights kC_weights 72 fC_weights), (arI rC_weightSums kC_weightSums 18 fC_weightSums), (arI rC_toldWorths kC_toldWorths 18 fC_toldWorths), (arI rC_steps kC_steps 18 fC_steps), (arI rC_below kC_below 18 fC_below), (arI rC_above kC_above 18 fC_above), (arI rC_unsureWords kC_unsureWords 4 fC_unsureWords), (arI rC_unsureWorths kC_unsureWorths 4 fC_unsureWorths)] s.heap.size = A at hD hE ⊢
  have hA : ∀ q : Nat, s.heap.size ≤ q → A q := fun q h => by rw [← hAe]; exact Or.inr h
  have hS : va_S A s.heap s.heap [] := va_S.rf
  have hl := lv_entry ([.ref oR, .int p0]) (n := 4) (Nat.le_of_ble_eq_true rfl)
  rw [lg_entry_eq]
  generalize (lg_sl ([.ref oR, .int p0]) ++ List.replicate (4 - (lg_sl ([.ref oR, .int p0])).length) Slot.unset).toArray = ls at hl ⊢
  have hl : lv_has ls 4 [(0, .ref oR), (1, .int p0)] := hl
  have hG := PX3_reads_eq fR_tape iR_tokenName iR_tokenWhole fR_names fR_keys fC_kind fC_parts fC_partNodes fC_weights fC_weightSums fC_toldWorths fC_steps fC_below fC_above fC_unsureWords fC_unsureWorths p0
  have rg_p0 := fb_rng p0
  refine lv_aload_n hx hb dX3_reads_0 rfl (lv_at hl 0 rfl) ?_
  refine lv_iconst (v := 0) hx hb dX3_reads_1 (by decide) ?_
  refine va_put (D := (dC, dI)) (ci := 3) (v := .int 0) (ty := .int) (C := RX3) (T := TX3) (N := 15) hx hb hts inX3 tyX3 tyX3_ok nmX3 hown hK hP hD hS 0 rfl rfl 2 (by decide) (hts _ wd_179) (fun _ h9 => h9) rfl (by decide +kernel) rfl rfl (Nat.le_of_ble_eq_true rfl) dX3_reads_2 (fun H locs hP hD hS => ?_)
  obtain ⟨hP, hD⟩ := wl2 (ws' := [(oc3 oR iR_faultNumber iR_faultPlace 0 rR_tape iR_end iR_tokenKind iR_tokenFrom iR_tokenTo iR_tokenName iR_tokenKey iR_tokenWhole oC iR_courtTold rR_names rR_keys), (arI rR_tape kR_tape 900 fR_tape), (arL rR_names kR_names 18 fR_names), (arL rR_keys kR_keys 10 fR_keys), (oc1 oC iC_nodes iC_words iC_chances iC_unsures iC_slips iC_throneNode iC_saidWorth iC_unit rC_kind rC_parts rC_partNodes rC_weights rC_weightSums rC_toldWorths rC_steps rC_below rC_above rC_unsureWords rC_unsureWorths), (arI rC_kind kC_kind 18 fC_kind), (arI rC_parts kC_parts 18 fC_parts), (arI rC_partNodes kC_partNodes 72 fC_partNodes), (arI rC_weights kC_weights 72 fC_weights), (arI rC_weightSums kC_weightSums 18 fC_weightSums), (arI rC_toldWorths kC_toldWorths 18 fC_toldWorths), (arI rC_steps kC_steps 18 fC_steps), (arI rC_below kC_below 18 fC_below), (arI rC_above kC_above 18 fC_above), (arI rC_unsureWords kC_unsureWords 4 fC_unsureWords), (arI rC_unsureWorths kC_unsureWorths 4 fC_unsureWorths)]) hP hD rfl
  refine lv_aload_n hx hb dX3_reads_5 rfl (lv_at hl 0 rfl) ?_
  refine lv_iload_n hx hb dX3_reads_6 rfl (lv_at hl 1 rfl) ?_
  refine va_put (D := (dC, dI)) (ci := 3) (v := .int p0) (ty := .int) (C := RX3) (T := TX3) (N := 15) hx hb hts inX3 tyX3 tyX3_ok nmX3 hown hK hP hD hS 0 rfl rfl 4 (by decide) (hts _ wd_205) (fun _ h9 => h9) rfl (by decide +kernel) rfl rfl (Nat.le_of_ble_eq_true rfl) dX3_reads_7 (fun H locs hP hD hS => ?_)
  obtain ⟨hP, hD⟩ := wl2 (ws' := [(oc3 oR iR_faultNumber iR_faultPlace 0 rR_tape p0 iR_tokenKind iR_tokenFrom iR_tokenTo iR_tokenName iR_tokenKey iR_tokenWhole oC iR_courtTold rR_names rR_keys), (arI rR_tape kR_tape 900 fR_tape), (arL rR_names kR_names 18 fR_names), (arL rR_keys kR_keys 10 fR_keys), (oc1 oC iC_nodes iC_words iC_chances iC_unsures iC_slips iC_throneNode iC_saidWorth iC_unit rC_kind rC_parts rC_partNodes rC_weights rC_weightSums rC_toldWorths rC_steps rC_below rC_above rC_unsureWords rC_unsureWorths), (arI rC_kind kC_kind 18 fC_kind), (arI rC_parts kC_parts 18 fC_parts), (arI rC_partNodes kC_partNodes 72 fC_partNodes), (arI rC_weights kC_weights 72 fC_weights), (arI rC_weightSums kC_weightSums 18 fC_weightSums), (arI rC_toldWorths kC_toldWorths 18 fC_toldWorths), (arI rC_steps kC_steps 18 fC_steps), (arI rC_below kC_below 18 fC_below), (arI rC_above kC_above 18 fC_above), (arI rC_unsureWords kC_unsureWords 4 fC_unsureWords), (arI rC_unsureWorths kC_unsureWorths 4 fC_unsureWorths)]) hP hD rfl
  refine lv_aload_n hx hb dX3_reads_10 rfl (lv_at hl 0 rfl) ?_
  refine va_get (D := (dC, dI)) (ci := 3) (v := .ref oC) (C := RX3) (T := TX3) (N := 15) hx hb hts inX3 hown hK hP 0 rfl rfl 11 (by decide) (hts _ wd_46) (fun _ h9 => h9) rfl dX3_reads_11 ?_
  have hMs := ml_of hD [false, false, false, false, true, false, false, false, false, false, false, false, false, false, false, false] (wc := [(oc1 oC iC_nodes iC_words iC_chances iC_unsures iC_slips iC_throneNode iC_saidWorth iC_unit rC_kind rC_parts rC_partNodes rC_weights rC_weightSums rC_toldWorths rC_steps rC_below rC_above rC_unsureWords rC_unsureWorths)]) rfl
  have hFc := va_freeM hD hS hA _ hMs
  refine va_callv (va_runV (As := []) (rest := []) ⟨hx, hb, hml, hown, hts⟩ (tX1_clear l dC dI _ oC iC_nodes iC_words iC_chances iC_unsures iC_slips iC_throneNode iC_saidWorth iC_unit rC_kind rC_parts rC_partNodes rC_weights rC_weightSums rC_toldWorths rC_steps rC_below rC_above rC_unsureWords rC_unsureWorths b_iC_nodes b_iC_unsures b_iC_throneNode) (cwV 0 hts (wd_V wd_211 wd_212 wd_213 wd_19 (wd_c wd_214)) rfl rfl rfl dv_yX1_clear_0 ⟨Nat.le_of_ble_eq_true rfl, Nat.le_of_ble_eq_true rfl⟩) ⟨Pw.fb, recvX1 hK hP (q0 := 4) rfl, fun U hU hW => Pw.to (hP.ms _ hMs) (hD.ms _ hMs) (hK.ms [false, false, false, false, false, false, false, false, false, false, false, false, false, false] rfl) hE hS hFc hU hW⟩ rfl rfl hl.1 rfl (lv_room (Nat.le_of_ble_eq_true rfl)) dX3_reads_14 ⟨Nat.le_of_ble_eq_true rfl, Nat.le_of_ble_eq_true rfl⟩) hS (fun q _ h => hFc q h) hFc (fun u t H locs ht hvm hw hB hz1 hk1 hS => ?_)
  refine ex_8_9 hB (fun x_2869 x_2870 x_2871 x_2872 x_2873 x_2874 x_2875 x_2876 b_x_2869 b_x_2870 b_x_2871 b_x_2872 b_x_2873 b_x_2874 b_x_2875 b_x_2876 e_x_2869_0 hB => ?_)
  obtain ⟨hP, hD⟩ := Bw.goN (ws' := [(oc3 oR iR_faultNumber iR_faultPlace 0 rR_tape p0 iR_tokenKind iR_tokenFrom iR_tokenTo iR_tokenName iR_tokenKey iR_tokenWhole oC iR_courtTold rR_names rR_keys), (arI rR_tape kR_tape 900 fR_tape), (arL rR_names kR_names 18 fR_names), (arL rR_keys kR_keys 10 fR_keys), (oc1 oC x_2869 x_2870 x_2871 x_2872 x_2873 x_2874 x_2875 x_2876 rC_kind rC_parts rC_partNodes rC_weights rC_weightSums rC_toldWorths rC_steps rC_below rC_above rC_unsureWords rC_unsureWorths), (arI rC_kind kC_kind 18 fC_kind), (arI rC_parts kC_parts 18 fC_parts), (arI rC_partNodes kC_partNodes 72 fC_partNodes), (arI rC_weights kC_weights 72 fC_weights), (arI rC_weightSums kC_weightSums 18 fC_weightSums), (arI rC_toldWorths kC_toldWorths 18 fC_toldWorths), (arI rC_steps kC_steps 18 fC_steps), (arI rC_below kC_below 18 fC_below), (arI rC_above kC_above 18 fC_above), (arI rC_unsureWords kC_unsureWords 4 fC_unsureWords), (arI rC_unsureWorths kC_unsureWorths 4 fC_unsureWorths)]) hB rfl ht hP hD _ hMs hk1 hFc rfl
  clear hz1 hk1 hvm ht hB hMs
  have rg_x_2869 := fb_rng x_2869
  have rg_x_2870 := fb_rng x_2870
  have rg_x_2871 := fb_rng x_2871
  have rg_x_2872 := fb_rng x_2872
  have rg_x_2873 := fb_rng x_2873
  have rg_x_2874 := fb_rng x_2874
  have rg_x_2875 := fb_rng x_2875
  have rg_x_2876 := fb_rng x_2876
  have hG := hG.trans (un8_eq e_x_2869_0)
  refine lv_aload_n hx hb dX3_reads_17 rfl (lv_at hl 0 rfl) ?_
  refine lv_iconst (v := 0) hx hb dX3_reads_18 (by decide) ?_
  refine va_put (D := (dC, dI)) (ci := 3) (v := .int 0) (ty := .boolean) (C := RX3) (T := TX3) (N := 15) hx hb hts inX3 tyX3 tyX3_ok nmX3 hown hK hP hD hS 0 rfl rfl 12 (by decide) (hts _ wd_206) (fun _ h9 => h9) rfl (by decide +kernel) rfl rfl (Nat.le_of_ble_eq_true rfl) dX3_reads_19 (fun H locs hP hD hS => ?_)
  obtain ⟨hP, hD⟩ := wl2 (ws' := [(oc3 oR iR_faultNumber iR_faultPlace 0 rR_tape p0 iR_tokenKind iR_tokenFrom iR_tokenTo iR_tokenName iR_tokenKey iR_tokenWhole oC 0 rR_names rR_keys), (arI rR_tape kR_tape 900 fR_tape), (arL rR_names kR_names 18 fR_names), (arL rR_keys kR_keys 10 fR_keys), (oc1 oC x_2869 x_2870 x_2871 x_2872 x_2873 x_2874 x_2875 x_2876 rC_kind rC_parts rC_partNodes rC_weights rC_weightSums rC_toldWorths rC_steps rC_below rC_above rC_unsureWords rC_unsureWorths), (arI rC_kind kC_kind 18 fC_kind), (arI rC_parts kC_parts 18 fC_parts), (arI rC_partNodes kC_partNodes 72 fC_partNodes), (arI rC_weights kC_weights 72 fC_weights), (arI rC_weightSums kC_weightSums 18 fC_weightSums), (arI rC_toldWorths kC_toldWorths 18 fC_toldWorths), (arI rC_steps kC_steps 18 fC_steps), (arI rC_below kC_below 18 fC_below), (arI rC_above kC_above 18 fC_above), (arI rC_unsureWords kC_unsureWords 4 fC_unsureWords), (arI rC_unsureWorths kC_unsureWorths 4 fC_unsureWorths)]) hP hD rfl
  refine lv_aload_n hx hb dX3_reads_22 rfl (lv_at hl 0 rfl) ?_
  refine lv_iconst (v := 0) hx hb dX3_reads_23 (by decide) ?_
  refine va_put (D := (dC, dI)) (ci := 3) (v := .int 0) (ty := .int) (C := RX3) (T := TX3) (N := 15) hx hb hts inX3 tyX3 tyX3_ok nmX3 hown hK hP hD hS 0 rfl rfl 0 (by decide) (hts _ wd_207) (fun _ h9 => h9) rfl (by decide +kernel) rfl rfl (Nat.le_of_ble_eq_true rfl) dX3_reads_24 (fun H locs hP hD hS => ?_)
  obtain ⟨hP, hD⟩ := wl2 (ws' := [(oc3 oR 0 iR_faultPlace 0 rR_tape p0 iR_tokenKind iR_tokenFrom iR_tokenTo iR_tokenName iR_tokenKey iR_tokenWhole oC 0 rR_names rR_keys), (arI rR_tape kR_tape 900 fR_tape), (arL rR_names kR_names 18 fR_names), (arL rR_keys kR_keys 10 fR_keys), (oc1 oC x_2869 x_2870 x_2871 x_2872 x_2873 x_2874 x_2875 x_2876 rC_kind rC_parts rC_partNodes rC_weights rC_weightSums rC_toldWorths rC_steps rC_below rC_above rC_unsureWords rC_unsureWorths), (arI rC_kind kC_kind 18 fC_kind), (arI rC_parts kC_parts 18 fC_parts), (arI rC_partNodes kC_partNodes 72 fC_partNodes), (arI rC_weights kC_weights 72 fC_weights), (arI rC_weightSums kC_weightSums 18 fC_weightSums), (arI rC_toldWorths kC_toldWorths 18 fC_toldWorths), (arI rC_steps kC_steps 18 fC_steps), (arI rC_below kC_below 18 fC_below), (arI rC_above kC_above 18 fC_above), (arI rC_unsureWords kC_unsureWords 4 fC_unsureWords), (arI rC_unsureWorths kC_unsureWorths 4 fC_unsureWorths)]) hP hD rfl
  refine lv_aload_n hx hb dX3_reads_27 rfl (lv_at hl 0 rfl) ?_
  refine lv_iconst (v := (-1)) hx hb dX3_reads_28 (by decide) ?_
  refine va_put (D := (dC, dI)) (ci := 3) (v := .int (-1)) (ty := .int) (C := RX3) (T := TX3) (N := 15) hx hb hts inX3 tyX3 tyX3_ok nmX3 hown hK hP hD hS 0 rfl rfl 1 (by decide) (hts _ wd_208) (fun _ h9 => h9) rfl (by decide +kernel) rfl rfl (Nat.le_of_ble_eq_true rfl) dX3_reads_29 (fun H locs hP hD hS => ?_)
  obtain ⟨hP, hD⟩ := wl2 (ws' := [(oc3 oR 0 (-1) 0 rR_tape p0 iR_tokenKind iR_tokenFrom iR_tokenTo iR_tokenName iR_tokenKey iR_tokenWhole oC 0 rR_names rR_keys), (arI rR_tape kR_tape 900 fR_tape), (arL rR_names kR_names 18 fR_names), (arL rR_keys kR_keys 10 fR_keys), (oc1 oC x_2869 x_2870 x_2871 x_2872 x_2873 x_2874 x_2875 x_2876 rC_kind rC_parts rC_partNodes rC_weights rC_weightSums rC_toldWorths rC_steps rC_below rC_above rC_unsureWords rC_unsureWorths), (arI rC_kind kC_kind 18 fC_kind), (arI rC_parts kC_parts 18 fC_parts), (arI rC_partNodes kC_partNodes 72 fC_partNodes), (arI rC_weights kC_weights 72 fC_weights), (arI rC_weightSums kC_weightSums 18 fC_weightSums), (arI rC_toldWorths kC_toldWorths 18 fC_toldWorths), (arI rC_steps kC_steps 18 fC_steps), (arI rC_below kC_below 18 fC_below), (arI rC_above kC_above 18 fC_above), (arI rC_unsureWords kC_unsureWords 4 fC_unsureWords), (arI rC_unsureWorths kC_unsureWorths 4 fC_unsureWorths)]) hP hD rfl
  refine lv_aload_n hx hb dX3_reads_32 rfl (lv_at hl 0 rfl) ?_
  refine lv_iconst (v := 0) hx hb dX3_reads_33 (by decide) ?_
  refine va_put (D := (dC, dI)) (ci := 3) (v := .int 0) (ty := .int) (C := RX3) (T := TX3) (N := 15) hx hb hts inX3 tyX3 tyX3_ok nmX3 hown hK hP hD hS 0 rfl rfl 7 (by decide) (hts _ wd_209) (fun _ h9 => h9) rfl (by decide +kernel) rfl rfl (Nat.le_of_ble_eq_true rfl) dX3_reads_34 (fun H locs hP hD hS => ?_)
  obtain ⟨hP, hD⟩ := wl2 (ws' := [(oc3 oR 0 (-1) 0 rR_tape p0 iR_tokenKind iR_tokenFrom 0 iR_tokenName iR_tokenKey iR_tokenWhole oC 0 rR_names rR_keys), (arI rR_tape kR_tape 900 fR_tape), (arL rR_names kR_names 18 fR_names), (arL rR_keys kR_keys 10 fR_keys), (oc1 oC x_2869 x_2870 x_2871 x_2872 x_2873 x_2874 x_2875 x_2876 rC_kind rC_parts rC_partNodes rC_weights rC_weightSums rC_toldWorths rC_steps rC_below rC_above rC_unsureWords rC_unsureWorths), (arI rC_kind kC_kind 18 fC_kind), (arI rC_parts kC_parts 18 fC_parts), (arI rC_partNodes kC_partNodes 72 fC_partNodes), (arI rC_weights kC_weights 72 fC_weights), (arI rC_weightSums kC_weightSums 18 fC_weightSums), (arI rC_toldWorths kC_toldWorths 18 fC_toldWorths), (arI rC_steps kC_steps 18 fC_steps), (arI rC_below kC_below 18 fC_below), (arI rC_above kC_above 18 fC_above), (arI rC_unsureWords kC_unsureWords 4 fC_unsureWords), (arI rC_unsureWorths kC_unsureWorths 4 fC_unsureWorths)]) hP hD rfl
  refine lv_aload_n hx hb dX3_reads_37 rfl (lv_at hl 0 rfl) ?_
  have hMs := ml_of hD [true, true, false, true, false, false, false, false, false, false, false, false, false, false, false, false] (wc := [(oc3 oR 0 (-1) 0 rR_tape p0 iR_tokenKind iR_tokenFrom 0 iR_tokenName iR_tokenKey iR_tokenWhole oC 0 rR_names rR_keys), (arI rR_tape kR_tape 900 fR_tape), (arL rR_keys kR_keys 10 fR_keys)]) rfl
  have hFc := va_freeM hD hS hA _ hMs
  refine va_callv (va_runV (As := []) (rest := []) ⟨hx, hb, hml, hown, hts⟩ (tX3_nextToken l dC dI _ oR 0 (-1) 0 rR_tape fR_tape kR_tape p0 iR_tokenKind iR_tokenFrom 0 iR_tokenName iR_tokenKey iR_tokenWhole oC 0 rR_names rR_keys fR_keys kR_keys (by first | decide | omega) (by first | decide | omega)) (cwV 0 hts (wd_V wd_220 wd_221 wd_222 wd_15 (wd_c wd_223)) rfl rfl rfl dv_yX3_nextToken_0 ⟨Nat.le_of_ble_eq_true rfl, Nat.le_of_ble_eq_true rfl⟩) ⟨Pw.fb, recvX3 hK hP (q0 := 0) rfl, fun U hU hW => Pw.to (hP.ms _ hMs) (hD.ms _ hMs) (hK.ms [true, false, true, false, false, false, false, false, false, false, false, false, false, false] rfl) hE hS hFc hU hW⟩ rfl rfl hl.1 rfl (lv_room (Nat.le_of_ble_eq_true rfl)) dX3_reads_38 ⟨Nat.le_of_ble_eq_true rfl, Nat.le_of_ble_eq_true rfl⟩) hS (fun q _ h => hFc q h) hFc (fun u t H locs ht hvm hw hB hz1 hk1 hS => ?_)
  refine ex_6_1 hB (fun x_2877 x_2878 x_2879 y_2880 x_2881 x_2882 e_x_2877_0 hB => ?_)
  obtain ⟨hP, hD⟩ := Bw.goN (ws' := [(oc3 oR 0 (-1) 0 rR_tape p0 x_2877 x_2878 x_2879 y_2880 x_2881 x_2882 oC 0 rR_names rR_keys), (arI rR_tape kR_tape 900 fR_tape), (arL rR_names kR_names 18 fR_names), (arL rR_keys kR_keys 10 fR_keys), (oc1 oC x_2869 x_2870 x_2871 x_2872 x_2873 x_2874 x_2875 x_2876 rC_kind rC_parts rC_partNodes rC_weights rC_weightSums rC_toldWorths rC_steps rC_below rC_above rC_unsureWords rC_unsureWorths), (arI rC_kind kC_kind 18 fC_kind), (arI rC_parts kC_parts 18 fC_parts), (arI rC_partNodes kC_partNodes 72 fC_partNodes), (arI rC_weights kC_weights 72 fC_weights), (arI rC_weightSums kC_weightSums 18 fC_weightSums), (arI rC_toldWorths kC_toldWorths 18 fC_toldWorths), (arI rC_steps kC_steps 18 fC_steps), (arI rC_below kC_below 18 fC_below), (arI rC_above kC_above 18 fC_above), (arI rC_unsureWords kC_unsureWords 4 fC_unsureWords), (arI rC_unsureWorths kC_unsureWorths 4 fC_unsureWorths)]) hB rfl ht hP hD _ hMs hk1 hFc rfl
  clear hz1 hk1 hvm ht hB hMs
  have rg_x_2877 := fb_rng x_2877
  have rg_x_2878 := fb_rng x_2878
  have rg_x_2879 := fb_rng x_2879
  have rg_x_2881 := fb_rng x_2881
  have rg_x_2882 := fb_rng x_2882
  have hG := hG.trans (un6_eq e_x_2877_0)
  refine lv_aload_n hx hb dX3_reads_41 rfl (lv_at hl 0 rfl) ?_
  have hFc := va_freeI hD hS hA
  refine va_calli (va_runV (As := []) (rest := []) ⟨hx, hb, hml, hown, hts⟩ (tX3_readLine l dC dI _ oR 0 (-1) 0 rR_tape fR_tape kR_tape p0 x_2877 x_2878 x_2879 y_2880 x_2881 x_2882 oC 0 rR_names fR_names kR_names rR_keys fR_keys kR_keys x_2869 x_2870 x_2871 x_2872 x_2873 x_2874 x_2875 x_2876 rC_kind fC_kind kC_kind rC_parts fC_parts kC_parts rC_partNodes fC_partNodes kC_partNodes rC_weights fC_weights kC_weights rC_weightSums fC_weightSums kC_weightSums rC_toldWorths fC_toldWorths kC_toldWorths rC_steps fC_steps kC_steps rC_below fC_below kC_below rC_above fC_above kC_above rC_unsureWords fC_unsureWords kC_unsureWords rC_unsureWorths fC_unsureWorths kC_unsureWorths (by first | decide | omega) (by first | decide | omega) (by first | exact b_x_2869 | omega | decide) (by first | exact b_x_2872 | omega | decide) (by first | exact b_x_2874 | omega | decide) a_fC_parts a_fC_partNodes a_fC_unsureWords) (cwV 0 hts (wd_V wd_246 wd_247 wd_248 wd_15 (wd_c wd_249)) rfl rfl rfl dv_yX3_readLine_0 ⟨Nat.le_of_ble_eq_true rfl, Nat.le_of_ble_eq_true rfl⟩) ⟨Pw.fb, recvX3 hK hP (q0 := 0) rfl, fun U hU hW => Pw.to hP hD hK hE hS hFc hU hW⟩ rfl rfl hl.1 rfl (lv_room (Nat.le_of_ble_eq_true rfl)) dX3_reads_42 ⟨Nat.le_of_ble_eq_true rfl, Nat.le_of_ble_eq_true rfl⟩) hS (fun q _ h => hFc q h) hFc (fun r u t H locs ht hvm hw hB hz1 hk1 hS => ?_)
  have hru9 := hw.2
  have hw := hw.1
  refine ex_29_8 hB (fun x_2883 x_2884 x_2885 x_2886 x_2887 y_2888 x_2889 x_2890 x_2891 f_2892 x_2893 x_2894 x_2895 x_2896 x_2897 x_2898 x_2899 x_2900 f_2901 f_2902 f_2903 f_2904 f_2905 f_2906 f_2907 f_2908 f_2909 f_2910 f_2911 b_x_2891 b_x_2893 b_x_2896 b_x_2898 a_f_2902 a_f_2903 a_f_2910 e_x_2883_0 hB => ?_)
  obtain ⟨hP, hD⟩ := Bw.goA (ws' := [(oc3 oR x_2883 x_2884 0 rR_tape p0 x_2885 x_2886 x_2887 y_2888 x_2889 x_2890 oC x_2891 rR_names rR_keys), (arI rR_tape kR_tape 900 fR_tape), (arL rR_names kR_names 18 f_2892), (arL rR_keys kR_keys 10 fR_keys), (oc1 oC x_2893 x_2894 x_2895 x_2896 x_2897 x_2898 x_2899 x_2900 rC_kind rC_parts rC_partNodes rC_weights rC_weightSums rC_toldWorths rC_steps rC_below rC_above rC_unsureWords rC_unsureWorths), (arI rC_kind kC_kind 18 f_2901), (arI rC_parts kC_parts 18 f_2902), (arI rC_partNodes kC_partNodes 72 f_2903), (arI rC_weights kC_weights 72 f_2904), (arI rC_weightSums kC_weightSums 18 f_2905), (arI rC_toldWorths kC_toldWorths 18 f_2906), (arI rC_steps kC_steps 18 f_2907), (arI rC_below kC_below 18 f_2908), (arI rC_above kC_above 18 f_2909), (arI rC_unsureWords kC_unsureWords 4 f_2910), (arI rC_unsureWorths kC_unsureWorths 4 f_2911)]) hB rfl ht hFc rfl
  clear hz1 hk1 hvm ht hB
  have rg_x_2883 := fb_rng x_2883
  have rg_x_2884 := fb_rng x_2884
  have rg_x_2885 := fb_rng x_2885
  have rg_x_2886 := fb_rng x_2886
  have rg_x_2887 := fb_rng x_2887
  have rg_x_2889 := fb_rng x_2889
  have rg_x_2890 := fb_rng x_2890
  have rg_x_2891 := fb_rng x_2891
  have rg_x_2893 := fb_rng x_2893
  have rg_x_2894 := fb_rng x_2894
  have rg_x_2895 := fb_rng x_2895
  have rg_x_2896 := fb_rng x_2896
  have rg_x_2897 := fb_rng x_2897
  have rg_x_2898 := fb_rng x_2898
  have rg_x_2899 := fb_rng x_2899
  have rg_x_2900 := fb_rng x_2900
  rw [← hru9] at e_x_2883_0
  obtain ⟨x_2912, rfl⟩ : ∃ z, z = r := ⟨_, rfl⟩
  have hG := hG.trans (un30_eq e_x_2883_0)
  have rg_x_2912 := fb_rng x_2912
  have bx_2912 := hw.1
  have dx_2912 := bz_tb bx_2912
  refine lv_istore_n (lv' := [(2, .int x_2912), (0, .ref oR), (1, .int p0)]) hx hb dX3_reads_45 rfl hl (by decide) rfl (fun ls hl => ?_)
  refine lv_iconst (v := 0) hx hb dX3_reads_46 (by decide) ?_
  refine lv_istore_n (lv' := [(3, .int 0), (2, .int x_2912), (0, .ref oR), (1, .int p0)]) hx hb dX3_reads_47 rfl hl (by decide) rfl (fun ls hl => ?_)
  have hl := lv_sub hl (l' := [(3, .int 0), (2, .int x_2912), (0, .ref oR), (1, .int p0)]) [0, 1, 2, 3] rfl
  have key_n_2944 : ∀ (n_2944 : Nat) (z_2913 : Int32) (z_2914 : Int32) (z_2915 : Int32) (z_2916 : Int32) (z_2917 : Int32) (z_2918 : Int32) (z_2919 : Int32) (z_2920 : Int64) (z_2921 : Int32) (z_2922 : Int32) (z_2923 : Int32) (z_2924 : Int32) (z_2925 : Int32) (z_2926 : Int32) (z_2927 : Int32) (z_2928 : Int32) (z_2929 : Int32) (z_2930 : Int32) (z_2931 : Int32) (f_2932 : Nat → Int64) (f_2933 : Nat → Int32) (f_2934 : Nat → Int32) (f_2935 : Nat → Int32) (f_2936 : Nat → Int32) (f_2937 : Nat → Int32) (f_2938 : Nat → Int32) (f_2939 : Nat → Int32) (f_2940 : Nat → Int32) (f_2941 : Nat → Int32) (f_2942 : Nat → Int32) (f_2943 : Nat → Int32) (H : Heap) (locs : List Loc) (ls : Array Slot), (0 ≤ z_2923.toInt ∧ z_2923.toInt ≤ 1) → (0 ≤ z_2924.toInt ∧ z_2924.toInt ≤ 18) → (0 ≤ z_2927.toInt ∧ z_2927.toInt ≤ 4) → ((-1) ≤ z_2929.toInt ∧ z_2929.toInt ≤ 17) → (∀ j : Nat, j < 18 → 0 ≤ (f_2934 j).toInt ∧ (f_2934 j).toInt ≤ 4) → (∀ j : Nat, j < 72 → 0 ≤ (f_2935 j).toInt ∧ (f_2935 j).toInt ≤ 17) → (∀ j : Nat, j < 4 → 0 ≤ (f_2942 j).toInt ∧ (f_2942 j).toInt ≤ 17) → (0 ≤ z_2913.toInt ∧ z_2913.toInt ≤ 2147483647) → (2147483647 - z_2913.toInt).toNat < n_2944 → (PX3_reads fR_tape iR_tokenName iR_tokenWhole fR_names fR_keys fC_kind fC_parts fC_partNodes fC_weights fC_weightSums fC_toldWorths fC_steps fC_below fC_above fC_unsureWords fC_unsureWorths p0 = HX3_reads_0 fR_tape fR_keys p0 n_2944 z_2913 z_2914 z_2915 z_2916 z_2917 z_2918 z_2919 z_2920 z_2921 z_2922 z_2923 z_2924 z_2925 z_2926 z_2927 z_2928 z_2929 z_2930 z_2931 f_2932 f_2933 f_2934 f_2935 f_2936 f_2937 f_2938 f_2939 f_2940 f_2941 f_2942 f_2943) → va_P (dC, dI) vwCl [(oc3 oR z_2915 z_2916 0 rR_tape p0 z_2917 z_2918 z_2919 z_2920 z_2921 z_2922 oC z_2923 rR_names rR_keys), (arI rR_tape kR_tape 900 fR_tape), (arL rR_names kR_names 18 f_2932), (arL rR_keys kR_keys 10 fR_keys), (oc1 oC z_2924 z_2925 z_2926 z_2927 z_2928 z_2929 z_2930 z_2931 rC_kind rC_parts rC_partNodes rC_weights rC_weightSums rC_toldWorths rC_steps rC_below rC_above rC_unsureWords rC_unsureWorths), (arI rC_kind kC_kind 18 f_2933), (arI rC_parts kC_parts 18 f_2934), (arI rC_partNodes kC_partNodes 72 f_2935), (arI rC_weights kC_weights 72 f_2936), (arI rC_weightSums kC_weightSums 18 f_2937), (arI rC_toldWorths kC_toldWorths 18 f_2938), (arI rC_steps kC_steps 18 f_2939), (arI rC_below kC_below 18 f_2940), (arI rC_above kC_above 18 f_2941), (arI rC_unsureWords kC_unsureWords 4 f_2942), (arI rC_unsureWorths kC_unsureWorths 4 f_2943)] H → va_D A [(oc3 oR z_2915 z_2916 0 rR_tape p0 z_2917 z_2918 z_2919 z_2920 z_2921 z_2922 oC z_2923 rR_names rR_keys), (arI rR_tape kR_tape 900 fR_tape), (arL rR_names kR_names 18 f_2932), (arL rR_keys kR_keys 10 fR_keys), (oc1 oC z_2924 z_2925 z_2926 z_2927 z_2928 z_2929 z_2930 z_2931 rC_kind rC_parts rC_partNodes rC_weights rC_weightSums rC_toldWorths rC_steps rC_below rC_above rC_unsureWords rC_unsureWorths), (arI rC_kind kC_kind 18 f_2933), (arI rC_parts kC_parts 18 f_2934), (arI rC_partNodes kC_partNodes 72 f_2935), (arI rC_weights kC_weights 72 f_2936), (arI rC_weightSums kC_weightSums 18 f_2937), (arI rC_toldWorths kC_toldWorths 18 f_2938), (arI rC_steps kC_steps 18 f_2939), (arI rC_below kC_below 18 f_2940), (arI rC_above kC_above 18 f_2941), (arI rC_unsureWords kC_unsureWords 4 f_2942), (arI rC_unsureWorths kC_unsureWorths 4 f_2943)] → va_S A s.heap H locs → lv_has ls 4 [(3, .int z_2913), (2, .int z_2914), (0, .ref oR), (1, .int p0)] → W p l e (headSpec (Cond.code yX3_reads cX3_reads 4 (some .boolean) :: wG) ({ frames := 6, cells := 0, slots := 0, locals := 134 })).room s m ([.ref oR, .int p0] : List Value).toArray below meth c H locs 0 0 (MQ below (va_Qi (fun (r : Int32) (u : Nat) => ((r = 0 ∨ r = 1) ∧ (r.toInt = (u : Int))) ∧ r = Int32.ofNat u) (fun (u : Nat) (t : State) => ∃ (niR_faultNumber : Int32) (niR_faultPlace : Int32) (niR_tapeSize : Int32) (niR_end : Int32) (niR_tokenKind : Int32) (niR_tokenFrom : Int32) (niR_tokenTo : Int32) (niR_tokenName : Int64) (niR_tokenKey : Int32) (niR_tokenWhole : Int32) (niR_courtTold : Int32) (nfR_names : Nat → Int64) (niC_nodes : Int32) (niC_words : Int32) (niC_chances : Int32) (niC_unsures : Int32) (niC_slips : Int32) (niC_throneNode : Int32) (niC_saidWorth : Int32) (niC_unit : Int32) (nfC_kind : Nat → Int32) (nfC_parts : Nat → Int32) (nfC_partNodes : Nat → Int32) (nfC_weights : Nat → Int32) (nfC_weightSums : Nat → Int32) (nfC_toldWorths : Nat → Int32) (nfC_steps : Nat → Int32) (nfC_below : Nat → Int32) (nfC_above : Nat → Int32) (nfC_unsureWords : Nat → Int32) (nfC_unsureWorths : Nat → Int32), (0 ≤ niR_tapeSize.toInt ∧ niR_tapeSize.toInt ≤ 0) ∧ (0 ≤ niR_courtTold.toInt ∧ niR_courtTold.toInt ≤ 1) ∧ (0 ≤ niC_nodes.toInt ∧ niC_nodes.toInt ≤ 18) ∧ (0 ≤ niC_unsures.toInt ∧ niC_unsures.toInt ≤ 4) ∧ ((-1) ≤ niC_throneNode.toInt ∧ niC_throneNode.toInt ≤ 17) ∧ (∀ j : Nat, j < 18 → 0 ≤ (nfC_parts j).toInt ∧ (nfC_parts j).toInt ≤ 4) ∧ (∀ j : Nat, j < 72 → 0 ≤ (nfC_partNodes j).toInt ∧ (nfC_partNodes j).toInt ≤ 17) ∧ (∀ j : Nat, j < 4 → 0 ≤ (nfC_unsureWords j).toInt ∧ (nfC_unsureWords j).toInt ≤ 17) ∧ (u = 1 → niC_nodes.toInt ≤ 0 ∨ 0 ≤ niC_throneNode.toInt) ∧ (PX3_reads fR_tape iR_tokenName iR_tokenWhole fR_names fR_keys fC_kind fC_parts fC_partNodes fC_weights fC_weightSums fC_toldWorths fC_steps fC_below fC_above fC_unsureWords fC_unsureWorths p0 = (Int32.ofNat u, niR_faultNumber, niR_faultPlace, niR_tapeSize, niR_end, niR_tokenKind, niR_tokenFrom, niR_tokenTo, niR_tokenName, niR_tokenKey, niR_tokenWhole, niR_courtTold, nfR_names, niC_nodes, niC_words, niC_chances, niC_unsures, niC_slips, niC_throneNode, niC_saidWorth, niC_unit, nfC_kind, nfC_parts, nfC_partNodes, nfC_weights, nfC_weightSums, nfC_toldWorths, nfC_steps, nfC_below, nfC_above, nfC_unsureWords, nfC_unsureWorths)) ∧ Bw dC dI A [(oc3 oR niR_faultNumber niR_faultPlace niR_tapeSize rR_tape niR_end niR_tokenKind niR_tokenFrom niR_tokenTo niR_tokenName niR_tokenKey niR_tokenWhole oC niR_courtTold rR_names rR_keys), (arI rR_tape kR_tape 900 fR_tape), (arL rR_names kR_names 18 nfR_names), (arL rR_keys kR_keys 10 fR_keys), (oc1 oC niC_nodes niC_words niC_chances niC_unsures niC_slips niC_throneNode niC_saidWorth niC_unit rC_kind rC_parts rC_partNodes rC_weights rC_weightSums rC_toldWorths rC_steps rC_below rC_above rC_unsureWords rC_unsureWorths), (arI rC_kind kC_kind 18 nfC_kind), (arI rC_parts kC_parts 18 nfC_parts), (arI rC_partNodes kC_partNodes 72 nfC_partNodes), (arI rC_weights kC_weights 72 nfC_weights), (arI rC_weightSums kC_weightSums 18 nfC_weightSums), (arI rC_toldWorths kC_toldWorths 18 nfC_toldWorths), (arI rC_steps kC_steps 18 nfC_steps), (arI rC_below kC_below 18 nfC_below), (arI rC_above kC_above 18 nfC_above), (arI rC_unsureWords kC_unsureWords 4 nfC_unsureWords), (arI rC_unsureWorths kC_unsureWorths 4 nfC_unsureWorths)] [(kR_tape, .byte), (kR_names, .long), (kR_keys, .long), (kC_kind, .int), (kC_parts, .int), (kC_partNodes, .int), (kC_weights, .int), (kC_weightSums, .int), (kC_toldWorths, .int), (kC_steps, .int), (kC_below, .int), (kC_above, .int), (kC_unsureWords, .int), (kC_unsureWorths, .int)] t) A) ([.ref oR, .int p0] : List Value).toArray s 0 0 A) (F0 m 48 ls []) := by
    intro n_2944
    induction n_2944 with
    | zero => intro z_2913 z_2914 z_2915 z_2916 z_2917 z_2918 z_2919 z_2920 z_2921 z_2922 z_2923 z_2924 z_2925 z_2926 z_2927 z_2928 z_2929 z_2930 z_2931 f_2932 f_2933 f_2934 f_2935 f_2936 f_2937 f_2938 f_2939 f_2940 f_2941 f_2942 f_2943 H locs ls b_z_2923 b_z_2924 b_z_2927 b_z_2929 a_f_2934 a_f_2935 a_f_2942 hi0_n_2944 hm; exact absurd hm (Nat.not_lt_zero _)
    | succ n_2944 ih_n_2944 =>
      intro z_2913 z_2914 z_2915 z_2916 z_2917 z_2918 z_2919 z_2920 z_2921 z_2922 z_2923 z_2924 z_2925 z_2926 z_2927 z_2928 z_2929 z_2930 z_2931 f_2932 f_2933 f_2934 f_2935 f_2936 f_2937 f_2938 f_2939 f_2940 f_2941 f_2942 f_2943 H locs ls b_z_2923 b_z_2924 b_z_2927 b_z_2929 a_f_2934 a_f_2935 a_f_2942 hi0_n_2944 hm_n_2944 hG hP hD hS hl
      have hG := hG.trans (HX3_reads_0_eq _ _ _ _ _ _ _ _ _ _ _ _ _ _ _ _ _ _ _ _ _ _ _ _ _ _ _ _ _ _ _ _ _ _ _)
      have rg_z_2913 := fb_rng z_2913
      have rg_z_2914 := fb_rng z_2914
      have rg_z_2915 := fb_rng z_2915
      have rg_z_2916 := fb_rng z_2916
      have rg_z_2917 := fb_rng z_2917
      have rg_z_2918 := fb_rng z_2918
      have rg_z_2919 := fb_rng z_2919
      have rg_z_2921 := fb_rng z_2921
      have rg_z_2922 := fb_rng z_2922
      have rg_z_2923 := fb_rng z_2923
      have rg_z_2924 := fb_rng z_2924
      have rg_z_2925 := fb_rng z_2925
      have rg_z_2926 := fb_rng z_2926
      have rg_z_2927 := fb_rng z_2927
      have rg_z_2928 := fb_rng z_2928
      have rg_z_2929 := fb_rng z_2929
      have rg_z_2930 := fb_rng z_2930
      have rg_z_2931 := fb_rng z_2931
      refine lv_iload_n hx hb dX3_reads_48 rfl (lv_at hl 0 rfl) ?_
      refine lv_sipush (v := 900) hx hb dX3_reads_49 (by decide) ?_
      refine lv_icmp_ge (tgt := 82) hx hb dX3_reads_52 (by decide) (fun c_2945 => ?_) (fun c_2945 => ?_)
      · skip
        have hG := hG.trans (if_pos c_2945)
        have gc_2945 := ti_le c_2945 kc_900 rfl
        refine lv_iload_n hx hb dX3_reads_82 rfl (lv_at hl 1 rfl) ?_
        refine lv_if_eq (tgt := 97) hx hb dX3_reads_83 (by decide) (fun c_2946 => ?_) (fun c_2946 => ?_)
        · skip
          have hG := hG.trans (if_pos c_2946)
          have gc_2946 := ti_eq c_2946 rfl kc_0
          refine lv_iconst (v := 0) hx hb dX3_reads_97 (by decide) ?_
          exact wq_z (v := 0) hx hb hr rfl 0 ⟨⟨Or.inl rfl, (by decide)⟩, (by decide)⟩ (fun t ht hW => ⟨z_2915, z_2916, 0, p0, z_2917, z_2918, z_2919, z_2920, z_2921, z_2922, z_2923, f_2932, z_2924, z_2925, z_2926, z_2927, z_2928, z_2929, z_2930, z_2931, f_2933, f_2934, f_2935, f_2936, f_2937, f_2938, f_2939, f_2940, f_2941, f_2942, f_2943, (by decide), b_z_2923, b_z_2924, b_z_2927, b_z_2929, a_f_2934, a_f_2935, a_f_2942, (by first | omega | decide | assumption), hG, Bw.to hP hD hK ht hW⟩) hS dX3_reads_98 hlocks
        · skip
          have hG := hG.trans (if_neg c_2946)
          have gc_2946 := ti_ne c_2946 rfl kc_0
          refine lv_aload_n hx hb dX3_reads_86 rfl (lv_at hl 2 rfl) ?_
          have hMs := ml_of hD [true, false, false, false, true, false, false, false, false, false, false, false, false, false, false, false] (wc := [(oc3 oR z_2915 z_2916 0 rR_tape p0 z_2917 z_2918 z_2919 z_2920 z_2921 z_2922 oC z_2923 rR_names rR_keys), (oc1 oC z_2924 z_2925 z_2926 z_2927 z_2928 z_2929 z_2930 z_2931 rC_kind rC_parts rC_partNodes rC_weights rC_weightSums rC_toldWorths rC_steps rC_below rC_above rC_unsureWords rC_unsureWorths)]) rfl
          have hFc := va_freeM hD hS hA _ hMs
          refine va_calli (va_runV (As := []) (rest := []) ⟨hx, hb, hml, hown, hts⟩ (tX3_readEnd l dC dI _ oR z_2915 z_2916 0 rR_tape p0 z_2917 z_2918 z_2919 z_2920 z_2921 z_2922 oC z_2923 rR_names rR_keys z_2924 z_2925 z_2926 z_2927 z_2928 z_2929 z_2930 z_2931 rC_kind rC_parts rC_partNodes rC_weights rC_weightSums rC_toldWorths rC_steps rC_below rC_above rC_unsureWords rC_unsureWorths (by first | decide | omega) b_z_2923 b_z_2924 b_z_2927 b_z_2929) (cwV 0 hts (wd_V wd_356 wd_357 wd_358 wd_15 (wd_c wd_359)) rfl rfl rfl dv_yX3_readEnd_0 ⟨Nat.le_of_ble_eq_true rfl, Nat.le_of_ble_eq_true rfl⟩) ⟨Pw.fb, recvX3 hK hP (q0 := 0) rfl, fun U hU hW => Pw.to (hP.ms _ hMs) (hD.ms _ hMs) (hK.ms [false, false, false, false, false, false, false, false, false, false, false, false, false, false] rfl) hE hS hFc hU hW⟩ rfl rfl hl.1 rfl (lv_room (Nat.le_of_ble_eq_true rfl)) dX3_reads_87 ⟨Nat.le_of_ble_eq_true rfl, Nat.le_of_ble_eq_true rfl⟩) hS (fun q _ h => hFc q h) hFc (fun r u t H locs ht hvm hw hB hz1 hk1 hS => ?_)
          have hru9 := hw.2
          have hw := hw.1
          refine ex_3_3 hB (fun x_2947 x_2948 x_2949 b_x_2949 e_x_2947_0 e_x_2947_1 hB => ?_)
          obtain ⟨hP, hD⟩ := Bw.goN (ws' := [(oc3 oR x_2947 x_2948 0 rR_tape p0 z_2917 z_2918 z_2919 z_2920 z_2921 z_2922 oC z_2923 rR_names rR_keys), (arI rR_tape kR_tape 900 fR_tape), (arL rR_names kR_names 18 f_2932), (arL rR_keys kR_keys 10 fR_keys), (oc1 oC z_2924 z_2925 z_2926 z_2927 z_2928 x_2949 z_2930 z_2931 rC_kind rC_parts rC_partNodes rC_weights rC_weightSums rC_toldWorths rC_steps rC_below rC_above rC_unsureWords rC_unsureWorths), (arI rC_kind kC_kind 18 f_2933), (arI rC_parts kC_parts 18 f_2934), (arI rC_partNodes kC_partNodes 72 f_2935), (arI rC_weights kC_weights 72 f_2936), (arI rC_weightSums kC_weightSums 18 f_2937), (arI rC_toldWorths kC_toldWorths 18 f_2938), (arI rC_steps kC_steps 18 f_2939), (arI rC_below kC_below 18 f_2940), (arI rC_above kC_above 18 f_2941), (arI rC_unsureWords kC_unsureWords 4 f_2942), (arI rC_unsureWorths kC_unsureWorths 4 f_2943)]) hB rfl ht hP hD _ hMs hk1 hFc rfl
          clear hz1 hk1 hvm ht hB hMs
          have rg_x_2947 := fb_rng x_2947
          have rg_x_2948 := fb_rng x_2948
          have rg_x_2949 := fb_rng x_2949
          rw [← hru9] at e_x_2947_1
          obtain ⟨x_2950, rfl⟩ : ∃ z, z = r := ⟨_, rfl⟩
          have hG := hG.trans (un4_eq e_x_2947_1)
          have rg_x_2950 := fb_rng x_2950
          have bx_2950 := hw.1
          have dx_2950 := bz_tb bx_2950
          have lx_2950 := hw.2
          refine lv_if_eq (tgt := 97) hx hb dX3_reads_90 (by decide) (fun c_2951 => ?_) (fun c_2951 => ?_)
          · skip
            have hG := hG.trans (if_pos c_2951)
            have gc_2951 := ti_eq c_2951 rfl kc_0
            refine lv_iconst (v := 0) hx hb dX3_reads_97 (by decide) ?_
            exact wq_z (v := 0) hx hb hr rfl 0 ⟨⟨Or.inl rfl, (by decide)⟩, (by decide)⟩ (fun t ht hW => ⟨x_2947, x_2948, 0, p0, z_2917, z_2918, z_2919, z_2920, z_2921, z_2922, z_2923, f_2932, z_2924, z_2925, z_2926, z_2927, z_2928, x_2949, z_2930, z_2931, f_2933, f_2934, f_2935, f_2936, f_2937, f_2938, f_2939, f_2940, f_2941, f_2942, f_2943, (by decide), b_z_2923, b_z_2924, b_z_2927, b_x_2949, a_f_2934, a_f_2935, a_f_2942, (by first | omega | decide | assumption), hG, Bw.to hP hD hK ht hW⟩) hS dX3_reads_98 hlocks
          · skip
            have hG := hG.trans (if_neg c_2951)
            have gc_2951 := ti_ne c_2951 rfl kc_0
            refine lv_iconst (v := 1) hx hb dX3_reads_93 (by decide) ?_
            refine lv_goto (tgt := 98) hx hb dX3_reads_94 (by decide) ?_
            exact wq_z (v := 1) hx hb hr rfl 1 ⟨⟨Or.inr rfl, (by decide)⟩, (by decide)⟩ (fun t ht hW => ⟨x_2947, x_2948, 0, p0, z_2917, z_2918, z_2919, z_2920, z_2921, z_2922, z_2923, f_2932, z_2924, z_2925, z_2926, z_2927, z_2928, x_2949, z_2930, z_2931, f_2933, f_2934, f_2935, f_2936, f_2937, f_2938, f_2939, f_2940, f_2941, f_2942, f_2943, (by decide), b_z_2923, b_z_2924, b_z_2927, b_x_2949, a_f_2934, a_f_2935, a_f_2942, (by first | omega | decide | assumption), hG, Bw.to hP hD hK ht hW⟩) hS dX3_reads_98 hlocks
      · skip
        have hG := hG.trans (if_neg c_2945)
        have gc_2945 := ti_nle c_2945 kc_900 rfl
        refine lv_iload_n hx hb dX3_reads_55 rfl (lv_at hl 1 rfl) ?_
        refine lv_if_eq (tgt := 82) hx hb dX3_reads_56 (by decide) (fun c_2952 => ?_) (fun c_2952 => ?_)
        · skip
          have hG := hG.trans (if_pos c_2952)
          have gc_2952 := ti_eq c_2952 rfl kc_0
          refine lv_iload_n hx hb dX3_reads_82 rfl (lv_at hl 1 rfl) ?_
          refine lv_if_eq (tgt := 97) hx hb dX3_reads_83 (by decide) (fun c_2953 => ?_) (fun c_2953 => ?_)
          · skip
            have hG := hG.trans (if_pos c_2953)
            have gc_2953 := ti_eq c_2953 rfl kc_0
            refine lv_iconst (v := 0) hx hb dX3_reads_97 (by decide) ?_
            exact wq_z (v := 0) hx hb hr rfl 0 ⟨⟨Or.inl rfl, (by decide)⟩, (by decide)⟩ (fun t ht hW => ⟨z_2915, z_2916, 0, p0, z_2917, z_2918, z_2919, z_2920, z_2921, z_2922, z_2923, f_2932, z_2924, z_2925, z_2926, z_2927, z_2928, z_2929, z_2930, z_2931, f_2933, f_2934, f_2935, f_2936, f_2937, f_2938, f_2939, f_2940, f_2941, f_2942, f_2943, (by decide), b_z_2923, b_z_2924, b_z_2927, b_z_2929, a_f_2934, a_f_2935, a_f_2942, (by first | omega | decide | assumption), hG, Bw.to hP hD hK ht hW⟩) hS dX3_reads_98 hlocks
          · skip
            have hG := hG.trans (if_neg c_2953)
            have gc_2953 := ti_ne c_2953 rfl kc_0
            exact (om_62adc1dd gc_2953 gc_2952).elim
        · skip
          have hG := hG.trans (if_neg c_2952)
          have gc_2952 := ti_ne c_2952 rfl kc_0
          refine lv_aload_n hx hb dX3_reads_59 rfl (lv_at hl 2 rfl) ?_
          refine va_get (D := (dC, dI)) (ci := 3) (v := .int z_2917) (C := RX3) (T := TX3) (N := 15) hx hb hts inX3 hown hK hP 0 rfl rfl 5 (by decide) (hts _ wd_210) (fun _ h9 => h9) rfl dX3_reads_60 ?_
          refine lv_iconst (v := 3) hx hb dX3_reads_63 (by decide) ?_
          refine lv_icmp_ne (tgt := 82) hx hb dX3_reads_64 (by decide) (fun c_2954 => ?_) (fun c_2954 => ?_)
          · skip
            have hG := hG.trans (if_neg c_2954)
            have gc_2954 := ti_ne c_2954 rfl kc_3
            refine lv_iload_n hx hb dX3_reads_82 rfl (lv_at hl 1 rfl) ?_
            refine lv_if_eq (tgt := 97) hx hb dX3_reads_83 (by decide) (fun c_2955 => ?_) (fun c_2955 => ?_)
            · skip
              have hG := hG.trans (if_pos c_2955)
              have gc_2955 := ti_eq c_2955 rfl kc_0
              refine lv_iconst (v := 0) hx hb dX3_reads_97 (by decide) ?_
              exact wq_z (v := 0) hx hb hr rfl 0 ⟨⟨Or.inl rfl, (by decide)⟩, (by decide)⟩ (fun t ht hW => ⟨z_2915, z_2916, 0, p0, z_2917, z_2918, z_2919, z_2920, z_2921, z_2922, z_2923, f_2932, z_2924, z_2925, z_2926, z_2927, z_2928, z_2929, z_2930, z_2931, f_2933, f_2934, f_2935, f_2936, f_2937, f_2938, f_2939, f_2940, f_2941, f_2942, f_2943, (by decide), b_z_2923, b_z_2924, b_z_2927, b_z_2929, a_f_2934, a_f_2935, a_f_2942, (by first | omega | decide | assumption), hG, Bw.to hP hD hK ht hW⟩) hS dX3_reads_98 hlocks
            · skip
              have hG := hG.trans (if_neg c_2955)
              have gc_2955 := ti_ne c_2955 rfl kc_0
              refine lv_aload_n hx hb dX3_reads_86 rfl (lv_at hl 2 rfl) ?_
              have hMs := ml_of hD [true, false, false, false, true, false, false, false, false, false, false, false, false, false, false, false] (wc := [(oc3 oR z_2915 z_2916 0 rR_tape p0 z_2917 z_2918 z_2919 z_2920 z_2921 z_2922 oC z_2923 rR_names rR_keys), (oc1 oC z_2924 z_2925 z_2926 z_2927 z_2928 z_2929 z_2930 z_2931 rC_kind rC_parts rC_partNodes rC_weights rC_weightSums rC_toldWorths rC_steps rC_below rC_above rC_unsureWords rC_unsureWorths)]) rfl
              have hFc := va_freeM hD hS hA _ hMs
              refine va_calli (va_runV (As := []) (rest := []) ⟨hx, hb, hml, hown, hts⟩ (tX3_readEnd l dC dI _ oR z_2915 z_2916 0 rR_tape p0 z_2917 z_2918 z_2919 z_2920 z_2921 z_2922 oC z_2923 rR_names rR_keys z_2924 z_2925 z_2926 z_2927 z_2928 z_2929 z_2930 z_2931 rC_kind rC_parts rC_partNodes rC_weights rC_weightSums rC_toldWorths rC_steps rC_below rC_above rC_unsureWords rC_unsureWorths (by first | decide | omega) b_z_2923 b_z_2924 b_z_2927 b_z_2929) (cwV 0 hts (wd_V wd_356 wd_357 wd_358 wd_15 (wd_c wd_359)) rfl rfl rfl dv_yX3_readEnd_0 ⟨Nat.le_of_ble_eq_true rfl, Nat.le_of_ble_eq_true rfl⟩) ⟨Pw.fb, recvX3 hK hP (q0 := 0) rfl, fun U hU hW => Pw.to (hP.ms _ hMs) (hD.ms _ hMs) (hK.ms [false, false, false, false, false, false, false, false, false, false, false, false, false, false] rfl) hE hS hFc hU hW⟩ rfl rfl hl.1 rfl (lv_room (Nat.le_of_ble_eq_true rfl)) dX3_reads_87 ⟨Nat.le_of_ble_eq_true rfl, Nat.le_of_ble_eq_true rfl⟩) hS (fun q _ h => hFc q h) hFc (fun r u t H locs ht hvm hw hB hz1 hk1 hS => ?_)
              have hru9 := hw.2
              have hw := hw.1
              refine ex_3_3 hB (fun x_2956 x_2957 x_2958 b_x_2958 e_x_2956_0 e_x_2956_1 hB => ?_)
              obtain ⟨hP, hD⟩ := Bw.goN (ws' := [(oc3 oR x_2956 x_2957 0 rR_tape p0 z_2917 z_2918 z_2919 z_2920 z_2921 z_2922 oC z_2923 rR_names rR_keys), (arI rR_tape kR_tape 900 fR_tape), (arL rR_names kR_names 18 f_2932), (arL rR_keys kR_keys 10 fR_keys), (oc1 oC z_2924 z_2925 z_2926 z_2927 z_2928 x_2958 z_2930 z_2931 rC_kind rC_parts rC_partNodes rC_weights rC_weightSums rC_toldWorths rC_steps rC_below rC_above rC_unsureWords rC_unsureWorths), (arI rC_kind kC_kind 18 f_2933), (arI rC_parts kC_parts 18 f_2934), (arI rC_partNodes kC_partNodes 72 f_2935), (arI rC_weights kC_weights 72 f_2936), (arI rC_weightSums kC_weightSums 18 f_2937), (arI rC_toldWorths kC_toldWorths 18 f_2938), (arI rC_steps kC_steps 18 f_2939), (arI rC_below kC_below 18 f_2940), (arI rC_above kC_above 18 f_2941), (arI rC_unsureWords kC_unsureWords 4 f_2942), (arI rC_unsureWorths kC_unsureWorths 4 f_2943)]) hB rfl ht hP hD _ hMs hk1 hFc rfl
              clear hz1 hk1 hvm ht hB hMs
              have rg_x_2956 := fb_rng x_2956
              have rg_x_2957 := fb_rng x_2957
              have rg_x_2958 := fb_rng x_2958
              rw [← hru9] at e_x_2956_1
              obtain ⟨x_2959, rfl⟩ : ∃ z, z = r := ⟨_, rfl⟩
              have hG := hG.trans (un4_eq e_x_2956_1)
              have rg_x_2959 := fb_rng x_2959
              have bx_2959 := hw.1
              have dx_2959 := bz_tb bx_2959
              have lx_2959 := hw.2
              refine lv_if_eq (tgt := 97) hx hb dX3_reads_90 (by decide) (fun c_2960 => ?_) (fun c_2960 => ?_)
              · skip
                have hG := hG.trans (if_pos c_2960)
                have gc_2960 := ti_eq c_2960 rfl kc_0
                refine lv_iconst (v := 0) hx hb dX3_reads_97 (by decide) ?_
                exact wq_z (v := 0) hx hb hr rfl 0 ⟨⟨Or.inl rfl, (by decide)⟩, (by decide)⟩ (fun t ht hW => ⟨x_2956, x_2957, 0, p0, z_2917, z_2918, z_2919, z_2920, z_2921, z_2922, z_2923, f_2932, z_2924, z_2925, z_2926, z_2927, z_2928, x_2958, z_2930, z_2931, f_2933, f_2934, f_2935, f_2936, f_2937, f_2938, f_2939, f_2940, f_2941, f_2942, f_2943, (by decide), b_z_2923, b_z_2924, b_z_2927, b_x_2958, a_f_2934, a_f_2935, a_f_2942, (by first | omega | decide | assumption), hG, Bw.to hP hD hK ht hW⟩) hS dX3_reads_98 hlocks
              · skip
                have hG := hG.trans (if_neg c_2960)
                have gc_2960 := ti_ne c_2960 rfl kc_0
                refine lv_iconst (v := 1) hx hb dX3_reads_93 (by decide) ?_
                refine lv_goto (tgt := 98) hx hb dX3_reads_94 (by decide) ?_
                exact wq_z (v := 1) hx hb hr rfl 1 ⟨⟨Or.inr rfl, (by decide)⟩, (by decide)⟩ (fun t ht hW => ⟨x_2956, x_2957, 0, p0, z_2917, z_2918, z_2919, z_2920, z_2921, z_2922, z_2923, f_2932, z_2924, z_2925, z_2926, z_2927, z_2928, x_2958, z_2930, z_2931, f_2933, f_2934, f_2935, f_2936, f_2937, f_2938, f_2939, f_2940, f_2941, f_2942, f_2943, (by decide), b_z_2923, b_z_2924, b_z_2927, b_x_2958, a_f_2934, a_f_2935, a_f_2942, (by first | omega | decide | assumption), hG, Bw.to hP hD hK ht hW⟩) hS dX3_reads_98 hlocks
          · skip
            have hG := hG.trans (if_pos c_2954)
            have gc_2954 := ti_eq c_2954 rfl kc_3
            refine lv_aload_n hx hb dX3_reads_67 rfl (lv_at hl 2 rfl) ?_
            have hMs := ml_of hD [true, true, false, true, false, false, false, false, false, false, false, false, false, false, false, false] (wc := [(oc3 oR z_2915 z_2916 0 rR_tape p0 z_2917 z_2918 z_2919 z_2920 z_2921 z_2922 oC z_2923 rR_names rR_keys), (arI rR_tape kR_tape 900 fR_tape), (arL rR_keys kR_keys 10 fR_keys)]) rfl
            have hFc := va_freeM hD hS hA _ hMs
            refine va_callv (va_runV (As := []) (rest := []) ⟨hx, hb, hml, hown, hts⟩ (tX3_nextToken l dC dI _ oR z_2915 z_2916 0 rR_tape fR_tape kR_tape p0 z_2917 z_2918 z_2919 z_2920 z_2921 z_2922 oC z_2923 rR_names rR_keys fR_keys kR_keys (by first | decide | omega) b_z_2923) (cwV 0 hts (wd_V wd_220 wd_221 wd_222 wd_15 (wd_c wd_223)) rfl rfl rfl dv_yX3_nextToken_0 ⟨Nat.le_of_ble_eq_true rfl, Nat.le_of_ble_eq_true rfl⟩) ⟨Pw.fb, recvX3 hK hP (q0 := 0) rfl, fun U hU hW => Pw.to (hP.ms _ hMs) (hD.ms _ hMs) (hK.ms [true, false, true, false, false, false, false, false, false, false, false, false, false, false] rfl) hE hS hFc hU hW⟩ rfl rfl hl.1 rfl (lv_room (Nat.le_of_ble_eq_true rfl)) dX3_reads_68 ⟨Nat.le_of_ble_eq_true rfl, Nat.le_of_ble_eq_true rfl⟩) hS (fun q _ h => hFc q h) hFc (fun u t H locs ht hvm hw hB hz1 hk1 hS => ?_)
            refine ex_6_1 hB (fun x_2961 x_2962 x_2963 y_2964 x_2965 x_2966 e_x_2961_0 hB => ?_)
            obtain ⟨hP, hD⟩ := Bw.goN (ws' := [(oc3 oR z_2915 z_2916 0 rR_tape p0 x_2961 x_2962 x_2963 y_2964 x_2965 x_2966 oC z_2923 rR_names rR_keys), (arI rR_tape kR_tape 900 fR_tape), (arL rR_names kR_names 18 f_2932), (arL rR_keys kR_keys 10 fR_keys), (oc1 oC z_2924 z_2925 z_2926 z_2927 z_2928 z_2929 z_2930 z_2931 rC_kind rC_parts rC_partNodes rC_weights rC_weightSums rC_toldWorths rC_steps rC_below rC_above rC_unsureWords rC_unsureWorths), (arI rC_kind kC_kind 18 f_2933), (arI rC_parts kC_parts 18 f_2934), (arI rC_partNodes kC_partNodes 72 f_2935), (arI rC_weights kC_weights 72 f_2936), (arI rC_weightSums kC_weightSums 18 f_2937), (arI rC_toldWorths kC_toldWorths 18 f_2938), (arI rC_steps kC_steps 18 f_2939), (arI rC_below kC_below 18 f_2940), (arI rC_above kC_above 18 f_2941), (arI rC_unsureWords kC_unsureWords 4 f_2942), (arI rC_unsureWorths kC_unsureWorths 4 f_2943)]) hB rfl ht hP hD _ hMs hk1 hFc rfl
            clear hz1 hk1 hvm ht hB hMs
            have rg_x_2961 := fb_rng x_2961
            have rg_x_2962 := fb_rng x_2962
            have rg_x_2963 := fb_rng x_2963
            have rg_x_2965 := fb_rng x_2965
            have rg_x_2966 := fb_rng x_2966
            have hG := hG.trans (un6_eq e_x_2961_0)
            refine lv_aload_n hx hb dX3_reads_71 rfl (lv_at hl 2 rfl) ?_
            have hFc := va_freeI hD hS hA
            refine va_calli (va_runV (As := []) (rest := []) ⟨hx, hb, hml, hown, hts⟩ (tX3_readLine l dC dI _ oR z_2915 z_2916 0 rR_tape fR_tape kR_tape p0 x_2961 x_2962 x_2963 y_2964 x_2965 x_2966 oC z_2923 rR_names f_2932 kR_names rR_keys fR_keys kR_keys z_2924 z_2925 z_2926 z_2927 z_2928 z_2929 z_2930 z_2931 rC_kind f_2933 kC_kind rC_parts f_2934 kC_parts rC_partNodes f_2935 kC_partNodes rC_weights f_2936 kC_weights rC_weightSums f_2937 kC_weightSums rC_toldWorths f_2938 kC_toldWorths rC_steps f_2939 kC_steps rC_below f_2940 kC_below rC_above f_2941 kC_above rC_unsureWords f_2942 kC_unsureWords rC_unsureWorths f_2943 kC_unsureWorths (by first | decide | omega) b_z_2923 b_z_2924 b_z_2927 b_z_2929 a_f_2934 a_f_2935 a_f_2942) (cwV 0 hts (wd_V wd_246 wd_247 wd_248 wd_15 (wd_c wd_249)) rfl rfl rfl dv_yX3_readLine_0 ⟨Nat.le_of_ble_eq_true rfl, Nat.le_of_ble_eq_true rfl⟩) ⟨Pw.fb, recvX3 hK hP (q0 := 0) rfl, fun U hU hW => Pw.to hP hD hK hE hS hFc hU hW⟩ rfl rfl hl.1 rfl (lv_room (Nat.le_of_ble_eq_true rfl)) dX3_reads_72 ⟨Nat.le_of_ble_eq_true rfl, Nat.le_of_ble_eq_true rfl⟩) hS (fun q _ h => hFc q h) hFc (fun r u t H locs ht hvm hw hB hz1 hk1 hS => ?_)
            have hru9 := hw.2
            have hw := hw.1
            refine ex_29_8 hB (fun x_2967 x_2968 x_2969 x_2970 x_2971 y_2972 x_2973 x_2974 x_2975 f_2976 x_2977 x_2978 x_2979 x_2980 x_2981 x_2982 x_2983 x_2984 f_2985 f_2986 f_2987 f_2988 f_2989 f_2990 f_2991 f_2992 f_2993 f_2994 f_2995 b_x_2975 b_x_2977 b_x_2980 b_x_2982 a_f_2986 a_f_2987 a_f_2994 e_x_2967_0 hB => ?_)
            obtain ⟨hP, hD⟩ := Bw.goA (ws' := [(oc3 oR x_2967 x_2968 0 rR_tape p0 x_2969 x_2970 x_2971 y_2972 x_2973 x_2974 oC x_2975 rR_names rR_keys), (arI rR_tape kR_tape 900 fR_tape), (arL rR_names kR_names 18 f_2976), (arL rR_keys kR_keys 10 fR_keys), (oc1 oC x_2977 x_2978 x_2979 x_2980 x_2981 x_2982 x_2983 x_2984 rC_kind rC_parts rC_partNodes rC_weights rC_weightSums rC_toldWorths rC_steps rC_below rC_above rC_unsureWords rC_unsureWorths), (arI rC_kind kC_kind 18 f_2985), (arI rC_parts kC_parts 18 f_2986), (arI rC_partNodes kC_partNodes 72 f_2987), (arI rC_weights kC_weights 72 f_2988), (arI rC_weightSums kC_weightSums 18 f_2989), (arI rC_toldWorths kC_toldWorths 18 f_2990), (arI rC_steps kC_steps 18 f_2991), (arI rC_below kC_below 18 f_2992), (arI rC_above kC_above 18 f_2993), (arI rC_unsureWords kC_unsureWords 4 f_2994), (arI rC_unsureWorths kC_unsureWorths 4 f_2995)]) hB rfl ht hFc rfl
            clear hz1 hk1 hvm ht hB
            have rg_x_2967 := fb_rng x_2967
            have rg_x_2968 := fb_rng x_2968
            have rg_x_2969 := fb_rng x_2969
            have rg_x_2970 := fb_rng x_2970
            have rg_x_2971 := fb_rng x_2971
            have rg_x_2973 := fb_rng x_2973
            have rg_x_2974 := fb_rng x_2974
            have rg_x_2975 := fb_rng x_2975
            have rg_x_2977 := fb_rng x_2977
            have rg_x_2978 := fb_rng x_2978
            have rg_x_2979 := fb_rng x_2979
            have rg_x_2980 := fb_rng x_2980
            have rg_x_2981 := fb_rng x_2981
            have rg_x_2982 := fb_rng x_2982
            have rg_x_2983 := fb_rng x_2983
            have rg_x_2984 := fb_rng x_2984
            rw [← hru9] at e_x_2967_0
            obtain ⟨x_2996, rfl⟩ : ∃ z, z = r := ⟨_, rfl⟩
            have hG := hG.trans (un30_eq e_x_2967_0)
            have rg_x_2996 := fb_rng x_2996
            have bx_2996 := hw.1
            have dx_2996 := bz_tb bx_2996
            refine lv_istore_n (lv' := [(2, .int x_2996), (3, .int z_2913), (0, .ref oR), (1, .int p0)]) hx hb dX3_reads_75 rfl hl (by decide) rfl (fun ls hl => ?_)
            obtain ⟨x_2997, ex_2997⟩ : ∃ z : Int32, z = z_2913 + Int32.ofInt 1 := ⟨_, rfl⟩
            have hG := hG.trans (lt_eq ex_2997)
            have vx_2997 : x_2997.toInt = z_2913.toInt + 1 := ti_add (y := 1) ex_2997 rfl kc_1 (om_4e4fce7e hi0_n_2944.1) (om_68b575cb gc_2945)
            refine lv_iinc (v := x_2997) (lv' := [(3, .int x_2997), (2, .int x_2996), (0, .ref oR), (1, .int p0)]) hx hb dX3_reads_76 hl (k := 1) rfl ex_2997.symm (by decide) rfl (fun ls hl => ?_)
            refine lv_goto (tgt := 48) hx hb dX3_reads_79 (by decide) ?_
            exact ih_n_2944 x_2997 x_2996 x_2967 x_2968 x_2969 x_2970 x_2971 y_2972 x_2973 x_2974 x_2975 x_2977 x_2978 x_2979 x_2980 x_2981 x_2982 x_2983 x_2984 f_2976 f_2985 f_2986 f_2987 f_2988 f_2989 f_2990 f_2991 f_2992 f_2993 f_2994 f_2995 _ _ _ b_x_2975 b_x_2977 b_x_2980 b_x_2982 a_f_2986 a_f_2987 a_f_2994 ⟨(om_83b90de5 hi0_n_2944.1 vx_2997), (om_ce9c42a0 gc_2945 vx_2997)⟩ (ms_lt hm_n_2944 (om_b9393183 vx_2997) (om_09c47414 gc_2945)) hG hP hD hS (lv_sub hl [0, 1, 2, 3] rfl)
  exact key_n_2944 (((2147483647 - (0 : Int32).toInt).toNat) + 1) 0 x_2912 x_2883 x_2884 x_2885 x_2886 x_2887 y_2888 x_2889 x_2890 x_2891 x_2893 x_2894 x_2895 x_2896 x_2897 x_2898 x_2899 x_2900 f_2892 f_2901 f_2902 f_2903 f_2904 f_2905 f_2906 f_2907 f_2908 f_2909 f_2910 f_2911 _ _ _ b_x_2891 b_x_2893 b_x_2896 b_x_2898 a_f_2902 a_f_2903 a_f_2910 ⟨(om_b1de7dbe kc_0), (om_daf17c64 kc_0)⟩ (Nat.lt_add_one _) hG hP hD hS hl
