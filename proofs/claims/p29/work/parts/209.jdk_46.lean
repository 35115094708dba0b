/-! Strings that are there, and Reader.nameOf -/
def Ps (dC : Nat → ClassId) (dI : Nat → Nat → Nat) (sz a v n : Nat) (f : Nat → Int32) (U : State) : Prop := Pw dC dI sz [] [] U ∧ Sw a v n f (va_A [] sz) U U.heap
theorem Ps.fb {av : List Value} {dC : Nat → ClassId} {dI : Nat → Nat → Nat} {sz a v n : Nat} {f : Nat → Int32} : FrameBlind (va_Pc av (Ps dC dI sz a v n f)) := by
  intro as U g mk q
  obtain ⟨q0, q1, q2⟩ := q
  obtain ⟨-, h⟩ := Pw.fb (av := []) #[] U g mk (⟨rfl, q1⟩ : va_Pc [] _ _ _)
  exact ⟨q0, h, Sw.call (V := U.calling g mk as) q2 (Vm.Alike.refl U.vm) rfl⟩
theorem Ps.to {av : List Value} {dC : Nat → ClassId} {dI : Nat → Nat → Nat} {a v n : Nat} {f : Nat → Int32} {A : Nat → Prop} {tys : List (ClassId × FieldType)} {s U : State} {H : Heap} {locs : List Loc} (hK : va_K (dC, dI) vwCl tys s) (hSw : Sw a v n f A s s.heap) (hE : Ev A s s.heap) (hS : va_S A s.heap H locs) (hA : ∀ q, s.heap.size ≤ q → A q) (hU : U.heap = H) (hW : s.WarmedH U.vm) : va_Pc av (Ps dC dI H.size a v n f) av.toArray U := by
  have hF : ∀ q, va_A [] H.size q → A q := fun q h => hA q (Nat.le_trans hS.1 (va_nilA h))
  refine ⟨rfl, ⟨by rw [hU], fun k q h => by simp at h, va_K.moved hW.alike (hK.sub (tys' := []) [] rfl), ⟨fun i j p q h => by simp at h, fun k q h => by simp at h⟩, hE.to hS hF hU hW⟩, hSw.to hS hF hU hW⟩
set_option maxHeartbeats 4000000 in
set_option maxRecDepth 100000 in
theorem c_coder (l : Launch) (dC : Nat → ClassId) (dI : Nat → Nat → Nat) (sz : Nat) (a v n : Nat) (f : Nat → Int32) : Met l yJ0_coder_7d493 (Cond.code yJ0_coder_7d493 cJ0_coder_7d493 1 (some .byte) :: wG) ({ frames := 0, cells := 0, slots := 0, locals := 0 }) (va_Pc [.ref a] (Ps dC dI sz a v n f)) (va_Qi (fun (r : Int32) (_ : Nat) => r = 0) (fun (_ : Nat) (_ : State) => True) (va_A [] sz)) 0 0 (va_A [] sz) := by
  refine Met.ofW (cc := cJ0_coder_7d493) (maxL := 1) (ret := (some .byte)) (by decide) rfl ?_
  intro p e s m args below meth c s₁ B hml hv
  obtain ⟨rfl, ⟨hPw, hSw⟩⟩ := hv
  obtain ⟨hsz, hP, hK, hD0, hE⟩ := hPw
  have hx := B.exec
  have hb := B.bytes
  have hr := B.returns
  have hts : ∀ w ∈ wG, w.before ([.ref a] : List Value).toArray s = true := fun w h => atoms_spec (ws := Cond.code yJ0_coder_7d493 cJ0_coder_7d493 1 (some .byte) :: wG) B.pre w (List.mem_cons_of_mem _ h)
  have hown : s.vm.findClass RJ0 = some m.cls := own_of B.named rfl
  have hlocks := B.notSynchronized
  subst hsz
  have hD := hD0.self (sz := s.heap.size)
  have hAe2 : ∀ q, va_A [] s.heap.size q → s.heap.size ≤ q := fun q h => va_nilA h
  generalize hAe : va_A [] s.heap.size = A at *
  have hA : ∀ q : Nat, s.heap.size ≤ q → A q := fun q h => by rw [← hAe]; exact Or.inr h
  have hS : va_S A s.heap s.heap [] := va_S.rf
  have hl := lv_entry ([.ref a]) (n := 1) (Nat.le_of_ble_eq_true rfl)
  rw [lg_entry_eq]
  generalize (lg_sl ([.ref a]) ++ List.replicate (1 - (lg_sl ([.ref a])).length) Slot.unset).toArray = ls at hl ⊢
  have hl : lv_has ls 1 [(0, .ref a)] := hl
  refine va_gets hx hb hE.2.1.1 hS hown (hts _ wd_81) (fun _ h9 => h9) dJ0_coder_7d493_0 ?_
  refine lv_if_eq (tgt := 13) hx hb dJ0_coder_7d493_3 (by decide) (fun c => absurd c (by decide)) (fun _ => ?_)
  refine lv_aload_n hx hb dJ0_coder_7d493_6 rfl (lv_at hl 0 rfl) ?_
  refine vk_getf hx hb hSw.2.1 hS hown (hts _ wd_82) (fun _ h9 => h9) dJ0_coder_7d493_7 ?_
  refine lv_goto (tgt := 14) hx hb dJ0_coder_7d493_10 (by decide) ?_
  exact wq_z (v := 0) hx hb hr rfl 0 rfl (fun t ht hW => trivial) hS dJ0_coder_7d493_14 hlocks
set_option maxHeartbeats 4000000 in
set_option maxRecDepth 100000 in
theorem c_isLatin1 (l : Launch) (dC : Nat → ClassId) (dI : Nat → Nat → Nat) (sz : Nat) (a v n : Nat) (f : Nat → Int32) : Met l yJ0_isLatin1_aae02 (Cond.code yJ0_isLatin1_aae02 cJ0_isLatin1_aae02 1 (some .boolean) :: wG) ({ frames := 0, cells := 0, slots := 0, locals := 0 }) (va_Pc [.ref a] (Ps dC dI sz a v n f)) (va_Qi (fun (r : Int32) (_ : Nat) => r = 1) (fun (_ : Nat) (_ : State) => True) (va_A [] sz)) 0 0 (va_A [] sz) := by
  refine Met.ofW (cc := cJ0_isLatin1_aae02) (maxL := 1) (ret := (some .boolean)) (by decide) rfl ?_
  intro p e s m args below meth c s₁ B hml hv
  obtain ⟨rfl, ⟨hPw, hSw⟩⟩ := hv
  obtain ⟨hsz, hP, hK, hD0, hE⟩ := hPw
  have hx := B.exec
  have hb := B.bytes
  have hr := B.returns
  have hts : ∀ w ∈ wG, w.before ([.ref a] : List Value).toArray s = true := fun w h => atoms_spec (ws := Cond.code yJ0_isLatin1_aae02 cJ0_isLatin1_aae02 1 (some .boolean) :: wG) B.pre w (List.mem_cons_of_mem _ h)
  have hown : s.vm.findClass RJ0 = some m.cls := own_of B.named rfl
  have hlocks := B.notSynchronized
  subst hsz
  have hD := hD0.self (sz := s.heap.size)
  have hAe2 : ∀ q, va_A [] s.heap.size q → s.heap.size ≤ q := fun q h => va_nilA h
  generalize hAe : va_A [] s.heap.size = A at *
  have hA : ∀ q : Nat, s.heap.size ≤ q → A q := fun q h => by rw [← hAe]; exact Or.inr h
  have hS : va_S A s.heap s.heap [] := va_S.rf
  have hl := lv_entry ([.ref a]) (n := 1) (Nat.le_of_ble_eq_true rfl)
  rw [lg_entry_eq]
  generalize (lg_sl ([.ref a]) ++ List.replicate (1 - (lg_sl ([.ref a])).length) Slot.unset).toArray = ls at hl ⊢
  have hl : lv_has ls 1 [(0, .ref a)] := hl
  refine va_gets hx hb hE.2.1.1 hS hown (hts _ wd_81) (fun _ h9 => h9) dJ0_isLatin1_aae02_0 ?_
  refine lv_if_eq (tgt := 17) hx hb dJ0_isLatin1_aae02_3 (by decide) (fun c => absurd c (by decide)) (fun _ => ?_)
  refine lv_aload_n hx hb dJ0_isLatin1_aae02_6 rfl (lv_at hl 0 rfl) ?_
  refine vk_getf hx hb hSw.2.1 hS hown (hts _ wd_82) (fun _ h9 => h9) dJ0_isLatin1_aae02_7 ?_
  refine lv_if_ne (tgt := 17) hx hb dJ0_isLatin1_aae02_10 (by decide) (fun c => absurd c (by decide)) (fun _ => ?_)
  refine lv_iconst (v := 1) hx hb dJ0_isLatin1_aae02_13 (by decide) ?_
  refine lv_goto (tgt := 18) hx hb dJ0_isLatin1_aae02_14 (by decide) ?_
  exact wq_z (v := 1) hx hb hr rfl 0 rfl (fun t ht hW => trivial) hS dJ0_isLatin1_aae02_18 hlocks
set_option maxHeartbeats 4000000 in
set_option maxRecDepth 100000 in
theorem c_length (l : Launch) (dC : Nat → ClassId) (dI : Nat → Nat → Nat) (sz : Nat) (a v n : Nat) (f : Nat → Int32) : Met l yJ0_length_8abf5 (Cond.code yJ0_length_8abf5 cJ0_length_8abf5 1 (some .int) :: wG) ({ frames := 1, cells := 0, slots := 0, locals := 30 }) (va_Pc [.ref a] (Ps dC dI sz a v n f)) (va_Qi (fun (r : Int32) (_ : Nat) => r = nI n) (fun (_ : Nat) (_ : State) => True) (va_A [] sz)) 0 0 (va_A [] sz) := by
  refine Met.ofW (cc := cJ0_length_8abf5) (maxL := 1) (ret := (some .int)) (by decide) rfl ?_
  intro p e s m args below meth c s₁ B hml hv
  obtain ⟨rfl, ⟨hPw, hSw⟩⟩ := hv
  obtain ⟨hsz, hP, hK, hD0, hE⟩ := hPw
  have hx := B.exec
  have hb := B.bytes
  have hr := B.returns
  have hts : ∀ w ∈ wG, w.before ([.ref a] : List Value).toArray s = true := fun w h => atoms_spec (ws := Cond.code yJ0_length_8abf5 cJ0_length_8abf5 1 (some .int) :: wG) B.pre w (List.mem_cons_of_mem _ h)
  have hown : s.vm.findClass RJ0 = some m.cls := own_of B.named rfl
  have hlocks := B.notSynchronized
  subst hsz
  have hD := hD0.self (sz := s.heap.size)
  have hAe2 : ∀ q, va_A [] s.heap.size q → s.heap.size ≤ q := fun q h => va_nilA h
  generalize hAe : va_A [] s.heap.size = A at *
  have hA : ∀ q : Nat, s.heap.size ≤ q → A q := fun q h => by rw [← hAe]; exact Or.inr h
  have hS : va_S A s.heap s.heap [] := va_S.rf
  have hl := lv_entry ([.ref a]) (n := 1) (Nat.le_of_ble_eq_true rfl)
  rw [lg_entry_eq]
  generalize (lg_sl ([.ref a]) ++ List.replicate (1 - (lg_sl ([.ref a])).length) Slot.unset).toArray = ls at hl ⊢
  have hl : lv_has ls 1 [(0, .ref a)] := hl
  refine lv_aload_n hx hb dJ0_length_8abf5_0 rfl (lv_at hl 0 rfl) ?_
  refine vk_getf hx hb hSw.2.2.1 hS hown (hts _ wd_76) (fun _ h9 => h9) dJ0_length_8abf5_1 ?_
  refine va_tlen (v := nI n) hx hb hSw.2.2.2 hS rfl dJ0_length_8abf5_4 ?_
  refine lv_aload_n hx hb dJ0_length_8abf5_5 rfl (lv_at hl 0 rfl) ?_
  refine va_calli (va_runV (As := []) (rest := [.int (nI n)]) ⟨hx, hb, hml, hown, hts⟩ (c_coder l dC dI _ a v n f) (cwV 0 hts (wd_V wd_77 wd_78 wd_79 wd_74 (wd_c wd_80)) rfl rfl rfl (by decide +kernel) ⟨Nat.le_of_ble_eq_true rfl, Nat.le_of_ble_eq_true rfl⟩) ⟨Ps.fb, va_Orecv hSw.1 hS, fun U hU hW => Ps.to hK hSw hE hS hA hU hW⟩ rfl rfl hl.1 rfl (lv_room (Nat.le_of_ble_eq_true rfl)) dJ0_length_8abf5_6 ⟨Nat.le_of_ble_eq_true rfl, Nat.le_of_ble_eq_true rfl⟩) hS (fun q _ h => hA q (Nat.le_trans hS.1 (va_nilA h))) (fun q h => hA q (Nat.le_trans hS.1 (va_nilA h))) (fun r u t H locs ht hvm hw hB hz1 hk1 hS => ?_)
  obtain rfl := hw
  refine lv_ishr hx hb dJ0_length_8abf5_9 ?_
  refine lv_topi (fun y ey => ?_)
  obtain rfl : y = nI n := ey.trans (sb_shr0 _)
  exact wq_i (v := nI n) hx hb hr 0 rfl (fun t ht hW => trivial) hS dJ0_length_8abf5_10 hlocks
set_option maxHeartbeats 4000000 in
set_option maxRecDepth 100000 in
theorem c_pre_r (l : Launch) (dC : Nat → ClassId) (dI : Nat → Nat → Nat) (sz : Nat) (k z : Nat) (N : Nat) (hk : k < N) (hN : N < 2 ^ 31) : Met l yJ3_checkIndex_8e157 (Cond.code yJ3_checkIndex_8e157 cJ3_checkIndex_8e157 3 (some .int) :: wG) ({ frames := 0, cells := 0, slots := 0, locals := 0 }) (va_Pc [.int (nI k), .int (nI N), .ref z] (Pw dC dI sz [] [])) (va_Qi (fun (_ : Int32) (_ : Nat) => True) (fun (_ : Nat) (_ : State) => True) (va_A [] sz)) 0 0 (va_A [] sz) := by
  refine Met.ofW (cc := cJ3_checkIndex_8e157) (maxL := 3) (ret := (some .int)) (by decide) rfl ?_
  intro p e s m args below meth c s₁ B hml hv
  obtain ⟨rfl, hPw⟩ := hv
  obtain ⟨hsz, hP, hK, hD0, hE⟩ := hPw
  have hx := B.exec
  have hb := B.bytes
  have hr := B.returns
  have hts : ∀ w ∈ wG, w.before ([.int (nI k), .int (nI N), .ref z] : List Value).toArray s = true := fun w h => atoms_spec (ws := Cond.code yJ3_checkIndex_8e157 cJ3_checkIndex_8e157 3 (some .int) :: wG) B.pre w (List.mem_cons_of_mem _ h)
  have hown : s.vm.findClass RJ3 = some m.cls := own_of B.named rfl
  have hlocks := B.notSynchronized
  subst hsz
  have hD := hD0.self (sz := s.heap.size)
  have hAe2 : ∀ q, va_A [] s.heap.size q → s.heap.size ≤ q := fun q h => va_nilA h
  generalize hAe : va_A [] s.heap.size = A at *
  have hA : ∀ q : Nat, s.heap.size ≤ q → A q := fun q h => by rw [← hAe]; exact Or.inr h
  have hS : va_S A s.heap s.heap [] := va_S.rf
  have hl := lv_entry ([.int (nI k), .int (nI N), .ref z]) (n := 3) (Nat.le_of_ble_eq_true rfl)
  rw [lg_entry_eq]
  generalize (lg_sl ([.int (nI k), .int (nI N), .ref z]) ++ List.replicate (3 - (lg_sl ([.int (nI k), .int (nI N), .ref z])).length) Slot.unset).toArray = ls at hl ⊢
  have hl : lv_has ls 3 [(0, .int (nI k)), (1, .int (nI N)), (2, .ref z)] := hl
  refine lv_iload_n hx hb dJ3_checkIndex_8e157_0 rfl (lv_at hl 0 rfl) ?_
  refine lv_if_lt (tgt := 9) hx hb dJ3_checkIndex_8e157_1 (by decide) (fun c => absurd c (nI_pos (by omega))) (fun _ => ?_)
  refine lv_iload_n hx hb dJ3_checkIndex_8e157_4 rfl (lv_at hl 0 rfl) ?_
  refine lv_iload_n hx hb dJ3_checkIndex_8e157_5 rfl (lv_at hl 1 rfl) ?_
  refine lv_icmp_lt (tgt := 16) hx hb dJ3_checkIndex_8e157_6 (by decide) (fun _ => ?_) (fun c => absurd (nI_lt hk hN) c)
  refine lv_iload_n hx hb dJ3_checkIndex_8e157_16 rfl (lv_at hl 0 rfl) ?_
  exact wq_i (v := nI k) hx hb hr 0 trivial (fun t ht hW => trivial) hS dJ3_checkIndex_8e157_17 hlocks
set_option maxHeartbeats 4000000 in
set_option maxRecDepth 100000 in
theorem c_pre_n (l : Launch) (dC : Nat → ClassId) (dI : Nat → Nat → Nat) (sz : Nat) (k : Nat) (N : Nat) (hk : k < N) (hN : N < 2 ^ 31) : Met l yJ3_checkIndex_8e157 (Cond.code yJ3_checkIndex_8e157 cJ3_checkIndex_8e157 3 (some .int) :: wG) ({ frames := 0, cells := 0, slots := 0, locals := 0 }) (va_Pc [.int (nI k), .int (nI N), .null] (Pw dC dI sz [] [])) (va_Qi (fun (_ : Int32) (_ : Nat) => True) (fun (_ : Nat) (_ : State) => True) (va_A [] sz)) 0 0 (va_A [] sz) := by
  refine Met.ofW (cc := cJ3_checkIndex_8e157) (maxL := 3) (ret := (some .int)) (by decide) rfl ?_
  intro p e s m args below meth c s₁ B hml hv
  obtain ⟨rfl, hPw⟩ := hv
  obtain ⟨hsz, hP, hK, hD0, hE⟩ := hPw
  have hx := B.exec
  have hb := B.bytes
  have hr := B.returns
  have hts : ∀ w ∈ wG, w.before ([.int (nI k), .int (nI N), .null] : List Value).toArray s = true := fun w h => atoms_spec (ws := Cond.code yJ3_checkIndex_8e157 cJ3_checkIndex_8e157 3 (some .int) :: wG) B.pre w (List.mem_cons_of_mem _ h)
  have hown : s.vm.findClass RJ3 = some m.cls := own_of B.named rfl
  have hlocks := B.notSynchronized
  subst hsz
  have hD := hD0.self (sz := s.heap.size)
  have hAe2 : ∀ q, va_A [] s.heap.size q → s.heap.size ≤ q := fun q h => va_nilA h
  generalize hAe : va_A [] s.heap.size = A at *
  have hA : ∀ q : Nat, s.heap.size ≤ q → A q := fun q h => by rw [← hAe]; exact Or.inr h
  have hS : va_S A s.heap s.heap [] := va_S.rf
  have hl := lv_entry ([.int (nI k), .int (nI N), .null]) (n := 3) (Nat.le_of_ble_eq_true rfl)
  rw [lg_entry_eq]
  generalize (lg_sl ([.int (nI k), .int (nI N), .null]) ++ List.replicate (3 - (lg_sl ([.int (nI k), .int (nI N), .null])).length) Slot.unset).toArray = ls at hl ⊢
  have hl : lv_has ls 3 [(0, .int (nI k)), (1, .int (nI N)), (2, .null)] := hl
  refine lv_iload_n hx hb dJ3_checkIndex_8e157_0 rfl (lv_at hl 0 rfl) ?_
  refine lv_if_lt (tgt := 9) hx hb dJ3_checkIndex_8e157_1 (by decide) (fun c => absurd c (nI_pos (by omega))) (fun _ => ?_)
  refine lv_iload_n hx hb dJ3_checkIndex_8e157_4 rfl (lv_at hl 0 rfl) ?_
  refine lv_iload_n hx hb dJ3_checkIndex_8e157_5 rfl (lv_at hl 1 rfl) ?_
  refine lv_icmp_lt (tgt := 16) hx hb dJ3_checkIndex_8e157_6 (by decide) (fun _ => ?_) (fun c => absurd (nI_lt hk hN) c)
  refine lv_iload_n hx hb dJ3_checkIndex_8e157_16 rfl (lv_at hl 0 rfl) ?_
  exact wq_i (v := nI k) hx hb hr 0 trivial (fun t ht hW => trivial) hS dJ3_checkIndex_8e157_17 hlocks
set_option maxHeartbeats 4000000 in
set_option maxRecDepth 100000 in
theorem c_check (l : Launch) (dC : Nat → ClassId) (dI : Nat → Nat → Nat) (sz : Nat) (k N : Nat) (hk : k < N) (hN : N < 2 ^ 31) : Met l yJ0_checkIndex_df160 (Cond.code yJ0_checkIndex_df160 cJ0_checkIndex_df160 2 none :: wG) ({ frames := 1, cells := 0, slots := 0, locals := 30 }) (va_Pc [.int (nI k), .int (nI N)] (Pw dC dI sz [] [])) (va_Qv (fun (_ : Nat) => True) (fun (_ : Nat) (_ : State) => True) (va_A [] sz)) 0 0 (va_A [] sz) := by
  refine Met.ofW (cc := cJ0_checkIndex_df160) (maxL := 2) (ret := none) (by decide) rfl ?_
  intro p e s m args below meth c s₁ B hml hv
  obtain ⟨rfl, hPw⟩ := hv
  obtain ⟨hsz, hP, hK, hD0, hE⟩ := hPw
  have hx := B.exec
  have hb := B.bytes
  have hr := B.returns
  have hts : ∀ w ∈ wG, w.before ([.int (nI k), .int (nI N)] : List Value).toArray s = true := fun w h => atoms_spec (ws := Cond.code yJ0_checkIndex_df160 cJ0_checkIndex_df160 2 none :: wG) B.pre w (List.mem_cons_of_mem _ h)
  have hown : s.vm.findClass RJ0 = some m.cls := own_of B.named rfl
  have hlocks := B.notSynchronized
  subst hsz
  have hD := hD0.self (sz := s.heap.size)
  have hAe2 : ∀ q, va_A [] s.heap.size q → s.heap.size ≤ q := fun q h => va_nilA h
  generalize hAe : va_A [] s.heap.size = A at *
  have hA : ∀ q : Nat, s.heap.size ≤ q → A q := fun q h => by rw [← hAe]; exact Or.inr h
  have hS : va_S A s.heap s.heap [] := va_S.rf
  have hl := lv_entry ([.int (nI k), .int (nI N)]) (n := 2) (Nat.le_of_ble_eq_true rfl)
  rw [lg_entry_eq]
  generalize (lg_sl ([.int (nI k), .int (nI N)]) ++ List.replicate (2 - (lg_sl ([.int (nI k), .int (nI N)])).length) Slot.unset).toArray = ls at hl ⊢
  have hl : lv_has ls 2 [(0, .int (nI k)), (1, .int (nI N))] := hl
  refine lv_iload_n hx hb dJ0_checkIndex_df160_0 rfl (lv_at hl 0 rfl) ?_
  refine lv_iload_n hx hb dJ0_checkIndex_df160_1 rfl (lv_at hl 1 rfl) ?_
  rcases hE.2.1.2 with hz | ⟨z, hz⟩
  · refine va_gets hx hb hz hS hown (hts _ wd_98) (fun _ h9 => h9) dJ0_checkIndex_df160_2 ?_
    refine va_calli (va_runS (As := [.int (nI k), .int (nI N), .null]) (rest := []) ⟨hx, hb, hml, hown, hts⟩ (c_pre_n l dC dI _ k N hk hN) (va_cwS 3 hts (wd_S wd_99 wd_100 wd_101 (wd_c wd_102)) rfl rfl rfl (by decide +kernel) ⟨Nat.le_of_ble_eq_true rfl, Nat.le_of_ble_eq_true rfl⟩) ⟨Pw.fb, fun U hU hW => Pn.to hK hE hS hA hU hW⟩ rfl rfl hl.1 rfl (lv_room (Nat.le_of_ble_eq_true rfl)) dJ0_checkIndex_df160_5 ⟨Nat.le_of_ble_eq_true rfl, Nat.le_of_ble_eq_true rfl⟩) hS (fun q _ h => hA q (Nat.le_trans hS.1 (va_nilA h))) (fun q h => hA q (Nat.le_trans hS.1 (va_nilA h))) (fun r u t H locs ht hvm hw hB hz1 hk1 hS => ?_)
    refine lv_pop hx hb dJ0_checkIndex_df160_8 rfl ?_
    exact wq_v hx hb hr 0 trivial (fun t ht hW => trivial) hS dJ0_checkIndex_df160_9 hlocks
  · refine va_gets hx hb hz hS hown (hts _ wd_98) (fun _ h9 => h9) dJ0_checkIndex_df160_2 ?_
    refine va_calli (va_runS (As := [.int (nI k), .int (nI N), .ref z]) (rest := []) ⟨hx, hb, hml, hown, hts⟩ (c_pre_r l dC dI _ k z N hk hN) (va_cwS 3 hts (wd_S wd_99 wd_100 wd_101 (wd_c wd_102)) rfl rfl rfl (by decide +kernel) ⟨Nat.le_of_ble_eq_true rfl, Nat.le_of_ble_eq_true rfl⟩) ⟨Pw.fb, fun U hU hW => Pn.to hK hE hS hA hU hW⟩ rfl rfl hl.1 rfl (lv_room (Nat.le_of_ble_eq_true rfl)) dJ0_checkIndex_df160_5 ⟨Nat.le_of_ble_eq_true rfl, Nat.le_of_ble_eq_true rfl⟩) hS (fun q _ h => hA q (Nat.le_trans hS.1 (va_nilA h))) (fun q h => hA q (Nat.le_trans hS.1 (va_nilA h))) (fun r u t H locs ht hvm hw hB hz1 hk1 hS => ?_)
    refine lv_pop hx hb dJ0_checkIndex_df160_8 rfl ?_
    exact wq_v hx hb hr 0 trivial (fun t ht hW => trivial) hS dJ0_checkIndex_df160_9 hlocks
set_option maxHeartbeats 4000000 in
set_option maxRecDepth 100000 in
theorem c_lat (l : Launch) (dC : Nat → ClassId) (dI : Nat → Nat → Nat) (sz : Nat) (a v n : Nat) (f : Nat → Int32) (k : Nat) (hk : k < n) (hn : n < 2 ^ 31) : Met l yJ1_charAt_3b067 (Cond.code yJ1_charAt_3b067 cJ1_charAt_3b067 2 (some .char) :: wG) ({ frames := 2, cells := 0, slots := 0, locals := 60 }) (va_Pc [.ref v, .int (nI k)] (Ps dC dI sz a v n f)) (va_Qi (fun (r : Int32) (_ : Nat) => narrow .char (.int r) = .int r ∧ r = chr_ (f k)) (fun (_ : Nat) (_ : State) => True) (va_A [] sz)) 0 0 (va_A [] sz) := by
  refine Met.ofW (cc := cJ1_charAt_3b067) (maxL := 2) (ret := (some .char)) (by decide) rfl ?_
  intro p e s m args below meth c s₁ B hml hv
  obtain ⟨rfl, ⟨hPw, hSw⟩⟩ := hv
  obtain ⟨hsz, hP, hK, hD0, hE⟩ := hPw
  have hx := B.exec
  have hb := B.bytes
  have hr := B.returns
  have hts : ∀ w ∈ wG, w.before ([.ref v, .int (nI k)] : List Value).toArray s = true := fun w h => atoms_spec (ws := Cond.code yJ1_charAt_3b067 cJ1_charAt_3b067 2 (some .char) :: wG) B.pre w (List.mem_cons_of_mem _ h)
  have hown : s.vm.findClass RJ1 = some m.cls := own_of B.named rfl
  have hlocks := B.notSynchronized
  subst hsz
  have hD := hD0.self (sz := s.heap.size)
  have hAe2 : ∀ q, va_A [] s.heap.size q → s.heap.size ≤ q := fun q h => va_nilA h
  generalize hAe : va_A [] s.heap.size = A at *
  have hA : ∀ q : Nat, s.heap.size ≤ q → A q := fun q h => by rw [← hAe]; exact Or.inr h
  have hS : va_S A s.heap s.heap [] := va_S.rf
  have hl := lv_entry ([.ref v, .int (nI k)]) (n := 2) (Nat.le_of_ble_eq_true rfl)
  rw [lg_entry_eq]
  generalize (lg_sl ([.ref v, .int (nI k)]) ++ List.replicate (2 - (lg_sl ([.ref v, .int (nI k)])).length) Slot.unset).toArray = ls at hl ⊢
  have hl : lv_has ls 2 [(0, .ref v), (1, .int (nI k))] := hl
  refine lv_iload_n hx hb dJ1_charAt_3b067_0 rfl (lv_at hl 1 rfl) ?_
  refine lv_aload_n hx hb dJ1_charAt_3b067_1 rfl (lv_at hl 0 rfl) ?_
  refine va_tlen (v := nI n) hx hb hSw.2.2.2 hS rfl dJ1_charAt_3b067_2 ?_
  refine va_callv (va_runS (As := [.int (nI k), .int (nI n)]) (rest := []) ⟨hx, hb, hml, hown, hts⟩ (c_check l dC dI _ k n hk hn) (va_cwS 2 hts (wd_S wd_95 wd_96 wd_74 (wd_c wd_97)) rfl rfl rfl (by decide +kernel) ⟨Nat.le_of_ble_eq_true rfl, Nat.le_of_ble_eq_true rfl⟩) ⟨Pw.fb, fun U hU hW => Pn.to hK hE hS hA hU hW⟩ rfl rfl hl.1 rfl (lv_room (Nat.le_of_ble_eq_true rfl)) dJ1_charAt_3b067_3 ⟨Nat.le_of_ble_eq_true rfl, Nat.le_of_ble_eq_true rfl⟩) hS (fun q _ h => hA q (Nat.le_trans hS.1 (va_nilA h))) (fun q h => hA q (Nat.le_trans hS.1 (va_nilA h))) (fun u t H locs ht hvm hw hB hz1 hk1 hS => ?_)
  refine lv_aload_n hx hb dJ1_charAt_3b067_6 rfl (lv_at hl 0 rfl) ?_
  refine lv_iload_n hx hb dJ1_charAt_3b067_7 rfl (lv_at hl 1 rfl) ?_
  refine va_tb hx hb hSw.2.2.2 hS (vp_in_nI hk hn) rfl dJ1_charAt_3b067_8 ?_
  refine lv_sipush (v := 255) hx hb dJ1_charAt_3b067_9 (by decide) ?_
  refine lv_iand hx hb dJ1_charAt_3b067_12 ?_
  refine lv_topi (fun y ey => ?_)
  refine lv_i2c (v := (y.toUInt32 % 65536).toInt32) hx hb dJ1_charAt_3b067_13 rfl ?_
  exact W.zret (v := (y.toUInt32 % 65536).toInt32) hx hb hr (pk_nc y) (fun t ht hW => ⟨⟨_, 0, rfl, ⟨pk_nc y, by rw [ey]; first | rfl | (rw [nI_clamp (by omega)]; rfl)⟩, trivial⟩, hS.F ht⟩) hS.2.2 dJ1_charAt_3b067_14
set_option maxHeartbeats 4000000 in
set_option maxRecDepth 100000 in
theorem c_charAt (l : Launch) (dC : Nat → ClassId) (dI : Nat → Nat → Nat) (sz : Nat) (a v n : Nat) (f : Nat → Int32) (k : Nat) (hk : k < n) (hn : n < 2 ^ 31) : Met l yJ0_charAt_5068e (Cond.code yJ0_charAt_5068e cJ0_charAt_5068e 2 (some .char) :: wG) ({ frames := 3, cells := 0, slots := 0, locals := 90 }) (va_Pc [.ref a, .int (nI k)] (Ps dC dI sz a v n f)) (va_Qi (fun (r : Int32) (_ : Nat) => narrow .char (.int r) = .int r ∧ r = chr_ (f k)) (fun (_ : Nat) (_ : State) => True) (va_A [] sz)) 0 0 (va_A [] sz) := by
  refine Met.ofW (cc := cJ0_charAt_5068e) (maxL := 2) (ret := (some .char)) (by decide) rfl ?_
  intro p e s m args below meth c s₁ B hml hv
  obtain ⟨rfl, ⟨hPw, hSw⟩⟩ := hv
  obtain ⟨hsz, hP, hK, hD0, hE⟩ := hPw
  have hx := B.exec
  have hb := B.bytes
  have hr := B.returns
  have hts : ∀ w ∈ wG, w.before ([.ref a, .int (nI k)] : List Value).toArray s = true := fun w h => atoms_spec (ws := Cond.code yJ0_charAt_5068e cJ0_charAt_5068e 2 (some .char) :: wG) B.pre w (List.mem_cons_of_mem _ h)
  have hown : s.vm.findClass RJ0 = some m.cls := own_of B.named rfl
  have hlocks := B.notSynchronized
  subst hsz
  have hD := hD0.self (sz := s.heap.size)
  have hAe2 : ∀ q, va_A [] s.heap.size q → s.heap.size ≤ q := fun q h => va_nilA h
  generalize hAe : va_A [] s.heap.size = A at *
  have hA : ∀ q : Nat, s.heap.size ≤ q → A q := fun q h => by rw [← hAe]; exact Or.inr h
  have hS : va_S A s.heap s.heap [] := va_S.rf
  have hl := lv_entry ([.ref a, .int (nI k)]) (n := 2) (Nat.le_of_ble_eq_true rfl)
  rw [lg_entry_eq]
  generalize (lg_sl ([.ref a, .int (nI k)]) ++ List.replicate (2 - (lg_sl ([.ref a, .int (nI k)])).length) Slot.unset).toArray = ls at hl ⊢
  have hl : lv_has ls 2 [(0, .ref a), (1, .int (nI k))] := hl
  refine lv_aload_n hx hb dJ0_charAt_5068e_0 rfl (lv_at hl 0 rfl) ?_
  refine va_calli (va_runV (As := []) (rest := []) ⟨hx, hb, hml, hown, hts⟩ (c_isLatin1 l dC dI _ a v n f) (cwV 0 hts (wd_V wd_87 wd_88 wd_89 wd_74 (wd_c wd_90)) rfl rfl rfl (by decide +kernel) ⟨Nat.le_of_ble_eq_true rfl, Nat.le_of_ble_eq_true rfl⟩) ⟨Ps.fb, va_Orecv hSw.1 hS, fun U hU hW => Ps.to hK hSw hE hS hA hU hW⟩ rfl rfl hl.1 rfl (lv_room (Nat.le_of_ble_eq_true rfl)) dJ0_charAt_5068e_1 ⟨Nat.le_of_ble_eq_true rfl, Nat.le_of_ble_eq_true rfl⟩) hS (fun q _ h => hA q (Nat.le_trans hS.1 (va_nilA h))) (fun q h => hA q (Nat.le_trans hS.1 (va_nilA h))) (fun r u t H locs ht hvm hw hB hz1 hk1 hS => ?_)
  obtain rfl := hw
  refine lv_if_eq (tgt := 16) hx hb dJ0_charAt_5068e_4 (by decide) (fun c => absurd c (by decide)) (fun _ => ?_)
  refine lv_aload_n hx hb dJ0_charAt_5068e_7 rfl (lv_at hl 0 rfl) ?_
  refine vk_getf hx hb hSw.2.2.1 hS hown (hts _ wd_76) (fun _ h9 => h9) dJ0_charAt_5068e_8 ?_
  refine lv_iload_n hx hb dJ0_charAt_5068e_11 rfl (lv_at hl 1 rfl) ?_
  refine va_calli (va_runS (As := [.ref v, .int (nI k)]) (rest := []) ⟨hx, hb, hml, hown, hts⟩ (c_lat l dC dI _ a v n f k hk hn) (va_cwS 2 hts (wd_S wd_91 wd_92 wd_93 (wd_c wd_94)) rfl rfl rfl (by decide +kernel) ⟨Nat.le_of_ble_eq_true rfl, Nat.le_of_ble_eq_true rfl⟩) ⟨Ps.fb, fun U hU hW => Ps.to hK hSw hE hS hA hU hW⟩ rfl rfl hl.1 rfl (lv_room (Nat.le_of_ble_eq_true rfl)) dJ0_charAt_5068e_12 ⟨Nat.le_of_ble_eq_true rfl, Nat.le_of_ble_eq_true rfl⟩) hS (fun q _ h => hA q (Nat.le_trans hS.1 (va_nilA h))) (fun q h => hA q (Nat.le_trans hS.1 (va_nilA h))) (fun r u t H locs ht hvm hw hB hz1 hk1 hS => ?_)
  exact wq_z (v := r) hx hb hr hw.1 0 hw (fun t ht hW => trivial) hS dJ0_charAt_5068e_15 hlocks
set_option maxHeartbeats 4000000 in
set_option maxRecDepth 100000 in
theorem c_nameOf (l : Launch) (dC : Nat → ClassId) (dI : Nat → Nat → Nat) (sz : Nat) (a v n : Nat) (f : Nat → Int32) (hn : n ≤ 8) : Met l yX3_nameOf (Cond.code yX3_nameOf cX3_nameOf 4 (some .long) :: wG) ({ frames := 4, cells := 0, slots := 0, locals := 120 }) (va_Pc [.ref a] (Ps dC dI sz a v n f)) (va_Ql (fun (r : Int64) (_ : Nat) => r = lcode (fun i => chr_ (f i)) n) (fun (_ : Nat) (_ : State) => True) (va_A [] sz)) 0 0 (va_A [] sz) := by
  refine Met.ofW (cc := cX3_nameOf) (maxL := 4) (ret := (some .long)) pnX3 rfl ?_
  intro p e s m args below meth c s₁ B hml hv
  obtain ⟨rfl, ⟨hPw, hSw⟩⟩ := hv
  obtain ⟨hsz, hP, hK, hD0, hE⟩ := hPw
  have hx := B.exec
  have hb := B.bytes
  have hr := B.returns
  have hts : ∀ w ∈ wG, w.before ([.ref a] : List Value).toArray s = true := fun w h => atoms_spec (ws := Cond.code yX3_nameOf cX3_nameOf 4 (some .long) :: wG) B.pre w (List.mem_cons_of_mem _ h)
  have hown : s.vm.findClass RX3 = some m.cls := own_of B.named rfl
  have hlocks := B.notSynchronized
  subst hsz
  have hD := hD0.self (sz := s.heap.size)
  have hAe2 : ∀ q, va_A [] s.heap.size q → s.heap.size ≤ q := fun q h => va_nilA h
  generalize hAe : va_A [] s.heap.size = A at *
  have hA : ∀ q : Nat, s.heap.size ≤ q → A q := fun q h => by rw [← hAe]; exact Or.inr h
  have hS : va_S A s.heap s.heap [] := va_S.rf
  have hl := lv_entry ([.ref a]) (n := 4) (Nat.le_of_ble_eq_true rfl)
  rw [lg_entry_eq]
  generalize (lg_sl ([.ref a]) ++ List.replicate (4 - (lg_sl ([.ref a])).length) Slot.unset).toArray = ls at hl ⊢
  have hl : lv_has ls 4 [(0, .ref a)] := hl
  refine lv_lconst (v := 0) hx hb dX3_nameOf_0 (by decide) ?_
  refine lv_lstore_n (lv' := [(1, .long 0), (0, .ref a)]) hx hb dX3_nameOf_1 rfl hl (by decide) rfl (fun ls hl => ?_)
  refine lv_iconst (v := 0) hx hb dX3_nameOf_2 (by decide) ?_
  refine lv_istore_n (lv' := [(3, .int 0), (1, .long 0), (0, .ref a)]) hx hb dX3_nameOf_3 rfl hl (by decide) rfl (fun ls hl => ?_)
  have key : ∀ (k i : Nat) (x : Int64) (H : Heap) (locs : List Loc) (ls : Array Slot), i ≤ n → n < i + k → x = lcode (fun i => chr_ (f i)) i → va_S A s.heap H locs → lv_has ls 4 [(3, .int (nI i)), (1, .long x), (0, .ref a)] → W p l e (headSpec (Cond.code yX3_nameOf cX3_nameOf 4 (some .long) :: wG) ({ frames := 4, cells := 0, slots := 0, locals := 120 })).room s m ([.ref a] : List Value).toArray below meth c H locs 0 0 (MQ below (va_Ql (fun (r : Int64) (_ : Nat) => r = lcode (fun i => chr_ (f i)) n) (fun (_ : Nat) (_ : State) => True) A) ([.ref a] : List Value).toArray s 0 0 A) (F0 m 4 ls []) := by
    intro k
    induction k with
    | zero => intro i x H locs ls h1 h2; exact absurd h2 (by omega)
    | succ k ih =>
      intro i x H locs ls h1 h2 hq hS hl
      refine lv_iload_n hx hb dX3_nameOf_4 rfl (lv_at hl 0 rfl) ?_
      refine lv_aload_n hx hb dX3_nameOf_5 rfl (lv_at hl 2 rfl) ?_
      refine va_calli (va_runV (As := []) (rest := [.int (nI i)]) ⟨hx, hb, hml, hown, hts⟩ (c_length l dC dI _ a v n f) (cwV 0 hts (wd_V wd_71 wd_72 wd_73 wd_74 (wd_c wd_75)) rfl rfl rfl (by decide +kernel) ⟨Nat.le_of_ble_eq_true rfl, Nat.le_of_ble_eq_true rfl⟩) ⟨Ps.fb, va_Orecv hSw.1 hS, fun U hU hW => Ps.to hK hSw hE hS hA hU hW⟩ rfl rfl hl.1 rfl (lv_room (Nat.le_of_ble_eq_true rfl)) dX3_nameOf_6 ⟨Nat.le_of_ble_eq_true rfl, Nat.le_of_ble_eq_true rfl⟩) hS (fun q _ h => hA q (Nat.le_trans hS.1 (va_nilA h))) (fun q h => hA q (Nat.le_trans hS.1 (va_nilA h))) (fun r u t H locs ht hvm hw hB hz1 hk1 hS => ?_)
      obtain rfl := hw
      refine lv_icmp_ge (tgt := 28) hx hb dX3_nameOf_9 (by decide) (fun c8 => ?_) (fun c9 => ?_)
      · refine lv_lload_n hx hb dX3_nameOf_28 rfl (lv_at hl 1 rfl) ?_
        have h3 : i = n := by rw [nI_leI (by omega) (by omega)] at c8; omega
        exact wq_l hx hb hr 0 (by rw [hq, h3]) (fun t ht hW => trivial) hS dX3_nameOf_29 hlocks
      · have h3 : i < n := by rcases Nat.lt_or_ge i n with q | q; exact q; exact absurd (nI_le q (by omega)) c9
        refine lv_lload_n hx hb dX3_nameOf_12 rfl (lv_at hl 1 rfl) ?_
        refine lv_aload_n hx hb dX3_nameOf_13 rfl (lv_at hl 2 rfl) ?_
        refine lv_iload_n hx hb dX3_nameOf_14 rfl (lv_at hl 0 rfl) ?_
        refine va_calli (va_runV (As := [.int (nI i)]) (rest := [.long x]) ⟨hx, hb, hml, hown, hts⟩ (c_charAt l dC dI _ a v n f i h3 (by omega)) (cwV 1 hts (wd_V wd_83 wd_84 wd_85 wd_74 (wd_c wd_86)) rfl rfl rfl (by decide +kernel) ⟨Nat.le_of_ble_eq_true rfl, Nat.le_of_ble_eq_true rfl⟩) ⟨Ps.fb, va_Orecv hSw.1 hS, fun U hU hW => Ps.to hK hSw hE hS hA hU hW⟩ rfl rfl hl.1 rfl (lv_room (Nat.le_of_ble_eq_true rfl)) dX3_nameOf_15 ⟨Nat.le_of_ble_eq_true rfl, Nat.le_of_ble_eq_true rfl⟩) hS (fun q _ h => hA q (Nat.le_trans hS.1 (va_nilA h))) (fun q h => hA q (Nat.le_trans hS.1 (va_nilA h))) (fun r u t H locs ht hvm hw hB hz1 hk1 hS => ?_)
        have hc9 := hw.2
        refine va_calll (va_runS (As := [.long x, .int r]) (rest := []) ⟨hx, hb, hml, hown, hts⟩ (tX3_withLetter l dC dI _ x r) (va_cwS 2 hts (wd_S wd_120 wd_121 wd_15 (wd_c wd_122)) rfl rfl rfl ds_yX3_withLetter_2 ⟨Nat.le_of_ble_eq_true rfl, Nat.le_of_ble_eq_true rfl⟩) ⟨Pw.fb, fun U hU hW => Pn.to hK hE hS hA hU hW⟩ rfl rfl hl.1 rfl (lv_room (Nat.le_of_ble_eq_true rfl)) dX3_nameOf_18 ⟨Nat.le_of_ble_eq_true rfl, Nat.le_of_ble_eq_true rfl⟩) hS (fun q _ h => hA q (Nat.le_trans hS.1 (va_nilA h))) (fun q h => hA q (Nat.le_trans hS.1 (va_nilA h))) (fun r u t H locs ht hvm hw hB hz1 hk1 hS => ?_)
        have hx2 := hw.2
        refine lv_topl (fun x2 ex2 => ?_)
        refine lv_lstore_n (lv' := [(1, .long x2), (3, .int (nI i)), (0, .ref a)]) hx hb dX3_nameOf_21 rfl hl (by decide) rfl (fun ls hl => ?_)
        refine lv_iinc (v := nI (i + 1)) (lv' := [(3, .int (nI (i + 1))), (1, .long x2), (0, .ref a)]) hx hb dX3_nameOf_22 hl (k := 1) rfl (nI_1 _) (by decide) rfl (fun ls hl => ?_)
        refine lv_goto (tgt := 4) hx hb dX3_nameOf_25 (by decide) ?_
        exact ih (i + 1) x2 _ _ _ (by omega) (by omega) (by rw [ex2, ← hx2, hc9, hq]; rfl) hS hl
  exact key (n + 1) 0 0 _ _ _ (Nat.zero_le n) (by omega) rfl hS hl
theorem c_charAt32 (l : Launch) (dC : Nat → ClassId) (dI : Nat → Nat → Nat) (sz : Nat) (a v n : Nat) (f : Nat → Int32) (k : Int32) (h0 : 0 ≤ k.toInt) (h1 : k.toInt < n) (hn : n ≤ 8) : Met l yJ0_charAt_5068e (Cond.code yJ0_charAt_5068e cJ0_charAt_5068e 2 (some .char) :: wG) ({ frames := 3, cells := 0, slots := 0, locals := 90 }) (va_Pc [.ref a, .int k] (Ps dC dI sz a v n f)) (va_Qi (fun (r : Int32) (_ : Nat) => narrow .char (.int r) = .int r ∧ r = chr_ (f k.toNatClampNeg)) (fun (_ : Nat) (_ : State) => True) (va_A [] sz)) 0 0 (va_A [] sz) := by
  have q := ti_cl (x := k) rfl h0
  have e : nI k.toNatClampNeg = k := Int32.toInt_inj.mp (by rw [nI_toInt (by omega)]; omega)
  have h := c_charAt l dC dI sz a v n f k.toNatClampNeg (by omega) (by omega)
  rw [e] at h
  exact h
/-- a contract's start where a String comes with the cells -/
def Pq (dC : Nat → ClassId) (dI : Nat → Nat → Nat) (sz : Nat) (ws : va_W) (tys : List (ClassId × FieldType)) (a v n : Nat) (f : Nat → Int32) (U : State) : Prop := Pw dC dI sz ws tys U ∧ Sw a v n f (va_A ws sz) U U.heap
theorem Pq.fb {av : List Value} {dC : Nat → ClassId} {dI : Nat → Nat → Nat} {sz : Nat} {ws : va_W} {tys : List (ClassId × FieldType)} {a v n : Nat} {f : Nat → Int32} : FrameBlind (va_Pc av (Pq dC dI sz ws tys a v n f)) := by
  intro as U g mk q
  obtain ⟨q0, q1, q2⟩ := q
  obtain ⟨-, h⟩ := Pw.fb (av := []) #[] U g mk (⟨rfl, q1⟩ : va_Pc [] _ _ _)
  exact ⟨q0, h, Sw.call (V := U.calling g mk as) q2 (Vm.Alike.refl U.vm) rfl⟩
theorem Pq.to {av : List Value} {dC : Nat → ClassId} {dI : Nat → Nat → Nat} {A : Nat → Prop} {ws : va_W} {tys : List (ClassId × FieldType)} {a v n : Nat} {f : Nat → Int32} {s U : State} {H : Heap} {locs : List Loc} (hP : va_P (dC, dI) vwCl ws H) (hD : va_D A ws) (hK : va_K (dC, dI) vwCl tys s) (hSw : Sw a v n f A s s.heap) (hE : Ev A s s.heap) (hS : va_S A s.heap H locs) (hF : ∀ q, va_A ws H.size q → A q) (hU : U.heap = H) (hW : s.WarmedH U.vm) : va_Pc av (Pq dC dI H.size ws tys a v n f) av.toArray U :=
  ⟨rfl, ⟨by rw [hU], by rw [hU]; exact hP, va_K.moved hW.alike hK, hD.weaken (fun _ _ _ _ => trivial), hE.to hS hF hU hW⟩, hSw.to hS hF hU hW⟩
