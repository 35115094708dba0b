set_option maxHeartbeats 4000000 in
set_option maxRecDepth 100000 in
theorem tX0_forget (l : Launch) (dC : Nat → ClassId) (dI : Nat → Nat → Nat) (sz : Nat) (oA : Nat) (iA_count : Int32) (rA_nodes : Nat) (rA_olds : Nat) (rA_says : Nat) (b_iA_count : 0 ≤ iA_count.toInt ∧ iA_count.toInt ≤ 16)  : Met l yX0_forget (Cond.code yX0_forget cX0_forget 1 none :: wG) ({ frames := 0, cells := 0, slots := 0, locals := 0 }) (va_Pc [.ref oA] (Pw dC dI sz [(oA, .inr (0, [.int iA_count, .ref rA_nodes, .ref rA_olds, .ref rA_says]))] [])) (va_Qv (fun (_ : Nat) => True) (fun (_ : Nat) (t : State) => ∃ (niA_count : Int32), (0 ≤ niA_count.toInt ∧ niA_count.toInt ≤ 0) ∧ (PX0_forget = niA_count) ∧ Bw dC dI (va_A [(oA, .inr (0, [.int iA_count, .ref rA_nodes, .ref rA_olds, .ref rA_says]))] sz) [(oA, .inr (0, [.int niA_count, .ref rA_nodes, .ref rA_olds, .ref rA_says]))] [] t) (va_A [(oA, .inr (0, [.int iA_count, .ref rA_nodes, .ref rA_olds, .ref rA_says]))] sz)) 0 0 (va_A [(oA, .inr (0, [.int iA_count, .ref rA_nodes, .ref rA_olds, .ref rA_says]))] sz) := by
  refine Met.ofW (cc := cX0_forget) (maxL := 1) (ret := none) (by decide) rfl ?_
  intro p e s m args below meth c s₁ B hml hv
  obtain ⟨rfl, hsz, hP, hK, hD0, hE⟩ := hv
  have hx := B.exec
  have hb := B.bytes
  have hr := B.returns
  have hts : ∀ w ∈ wG, w.before ([.ref oA] : List Value).toArray s = true := fun w h => atoms_spec (ws := Cond.code yX0_forget cX0_forget 1 none :: wG) B.pre w (List.mem_cons_of_mem _ h)
  have hown : s.vm.findClass RX0 = some m.cls := findClass_of_methodNamed B.named
  have hlocks := B.notSynchronized
  subst hsz
  have hD := hD0.self (sz := s.heap.size)
  generalize hAe : va_A [(oA, .inr (0, [.int iA_count, .ref rA_nodes, .ref rA_olds, .ref rA_says]))] s.heap.size = A at hD hE ⊢
  have hA : ∀ q : Nat, s.heap.size ≤ q → A q := fun q h => by rw [← hAe]; exact Or.inr h
  have hS : va_S A s.heap s.heap [] := va_S.rf
  have hl := lv_entry ([.ref oA]) (n := 1) (Nat.le_of_ble_eq_true rfl)
  rw [lg_entry_eq]
  generalize (lg_sl ([.ref oA]) ++ List.replicate (1 - (lg_sl ([.ref oA])).length) Slot.unset).toArray = ls at hl ⊢
  have hl : lv_has ls 1 [(0, .ref oA)] := hl
  have hG := PX0_forget_eq
  refine lv_aload_n hx hb dX0_forget_0 rfl (lv_at hl 0 rfl) ?_
  refine lv_iconst (v := 0) hx hb dX0_forget_1 (by decide) ?_
  refine va_put (D := (dC, dI)) (ci := 0) (v := .int 0) (ty := .int) (C := RX0) (T := TX0) (N := 4) hx hb hts inX0 tyX0 tyX0_ok nmX0 hown hK hP hD hS 0 rfl rfl 0 (by decide) (hts _ wd_374) (fun _ h9 => h9) rfl (by decide +kernel) rfl rfl (Nat.le_of_ble_eq_true rfl) dX0_forget_2 (fun H locs hP hD hS => ?_)
  have hP : va_P (dC, dI) vwCl [(oA, .inr (0, [.int 0, .ref rA_nodes, .ref rA_olds, .ref rA_says]))] H := hP
  have hD : va_D A [(oA, .inr (0, [.int 0, .ref rA_nodes, .ref rA_olds, .ref rA_says]))] := hD
  have hP9 := hP.sub (ws' := [(oA, .inr (0, [.int 0, .ref rA_nodes, .ref rA_olds, .ref rA_says]))]) [0] rfl
  have hD9 := hD.sub (ws' := [(oA, .inr (0, [.int 0, .ref rA_nodes, .ref rA_olds, .ref rA_says]))]) [0] (by decide) rfl
  have hK9 := hK.sub (tys' := []) [] rfl
  exact W.vret hx hb hr (fun t ht hW => ⟨⟨0, rfl, trivial, ⟨0, (by decide), hG, Bw.to hP9 hD9 hK9 ht hW⟩⟩, hS.F ht⟩) hS.2.2 dX0_forget_5
set_option maxHeartbeats 4000000 in
set_option maxRecDepth 100000 in
theorem tX0_dropOldest (l : Launch) (dC : Nat → ClassId) (dI : Nat → Nat → Nat) (sz : Nat) (oA : Nat) (iA_count : Int32) (rA_nodes : Nat) (fA_nodes : Nat → Int32) (kA_nodes : ClassId) (rA_olds : Nat) (fA_olds : Nat → Int32) (kA_olds : ClassId) (rA_says : Nat) (fA_says : Nat → Int32) (kA_says : ClassId) (b_iA_count : 0 ≤ iA_count.toInt ∧ iA_count.toInt ≤ 16) (a_fA_nodes : ∀ j : Nat, j < 16 → 0 ≤ (fA_nodes j).toInt ∧ (fA_nodes j).toInt ≤ 17) (a_fA_says : ∀ j : Nat, j < 16 → 0 ≤ (fA_says j).toInt ∧ (fA_says j).toInt ≤ 1) (r_A : ∀ j : Nat, j < 16 → fA_says j = 0 → 0 ≤ (fA_olds j).toInt ∧ (fA_olds j).toInt ≤ 3)  : Met l yX0_dropOldest (Cond.code yX0_dropOldest cX0_dropOldest 2 none :: wG) ({ frames := 0, cells := 0, slots := 0, locals := 0 }) (va_Pc [.ref oA] (Pw dC dI sz [(oA, .inr (0, [.int iA_count, .ref rA_nodes, .ref rA_olds, .ref rA_says])), (rA_nodes, .inl (kA_nodes, 16, .inl fA_nodes)), (rA_olds, .inl (kA_olds, 16, .inl fA_olds)), (rA_says, .inl (kA_says, 16, .inl fA_says))] [(kA_nodes, .int), (kA_olds, .int), (kA_says, .boolean)])) (va_Qv (fun (_ : Nat) => True) (fun (_ : Nat) (t : State) => ∃ (niA_count : Int32) (nfA_nodes : Nat → Int32) (nfA_olds : Nat → Int32) (nfA_says : Nat → Int32), (15 ≤ niA_count.toInt ∧ niA_count.toInt ≤ 15) ∧ (∀ j : Nat, j < 16 → 0 ≤ (nfA_nodes j).toInt ∧ (nfA_nodes j).toInt ≤ 17) ∧ (∀ j : Nat, j < 16 → 0 ≤ (nfA_says j).toInt ∧ (nfA_says j).toInt ≤ 1) ∧ (∀ j : Nat, j < 16 → nfA_says j = 0 → 0 ≤ (nfA_olds j).toInt ∧ (nfA_olds j).toInt ≤ 3) ∧ Bw dC dI (va_A [(oA, .inr (0, [.int iA_count, .ref rA_nodes, .ref rA_olds, .ref rA_says])), (rA_nodes, .inl (kA_nodes, 16, .inl fA_nodes)), (rA_olds, .inl (kA_olds, 16, .inl fA_olds)), (rA_says, .inl (kA_says, 16, .inl fA_says))] sz) [(oA, .inr (0, [.int niA_count, .ref rA_nodes, .ref rA_olds, .ref rA_says])), (rA_nodes, .inl (kA_nodes, 16, .inl nfA_nodes)), (rA_olds, .inl (kA_olds, 16, .inl nfA_olds)), (rA_says, .inl (kA_says, 16, .inl nfA_says))] [(kA_nodes, .int), (kA_olds, .int), (kA_says, .boolean)] t) (va_A [(oA, .inr (0, [.int iA_count, .ref rA_nodes, .ref rA_olds, .ref rA_says])), (rA_nodes, .inl (kA_nodes, 16, .inl fA_nodes)), (rA_olds, .inl (kA_olds, 16, .inl fA_olds)), (rA_says, .inl (kA_says, 16, .inl fA_says))] sz)) 0 0 (va_A [(oA, .inr (0, [.int iA_count, .ref rA_nodes, .ref rA_olds, .ref rA_says])), (rA_nodes, .inl (kA_nodes, 16, .inl fA_nodes)), (rA_olds, .inl (kA_olds, 16, .inl fA_olds)), (rA_says, .inl (kA_says, 16, .inl fA_says))] sz) := by
  refine Met.ofW (cc := cX0_dropOldest) (maxL := 2) (ret := none) (by decide) rfl ?_
  intro p e s m args below meth c s₁ B hml hv
  obtain ⟨rfl, hsz, hP, hK, hD0, hE⟩ := hv
  have hx := B.exec
  have hb := B.bytes
  have hr := B.returns
  have hts : ∀ w ∈ wG, w.before ([.ref oA] : List Value).toArray s = true := fun w h => atoms_spec (ws := Cond.code yX0_dropOldest cX0_dropOldest 2 none :: wG) B.pre w (List.mem_cons_of_mem _ h)
  have hown : s.vm.findClass RX0 = some m.cls := findClass_of_methodNamed B.named
  have hlocks := B.notSynchronized
  subst hsz
  have hD := hD0.self (sz := s.heap.size)
  generalize hAe : va_A [(oA, .inr (0, [.int iA_count, .ref rA_nodes, .ref rA_olds, .ref rA_says])), (rA_nodes, .inl (kA_nodes, 16, .inl fA_nodes)), (rA_olds, .inl (kA_olds, 16, .inl fA_olds)), (rA_says, .inl (kA_says, 16, .inl fA_says))] s.heap.size = A at hD hE ⊢
  have hA : ∀ q : Nat, s.heap.size ≤ q → A q := fun q h => by rw [← hAe]; exact Or.inr h
  have hS : va_S A s.heap s.heap [] := va_S.rf
  have hl := lv_entry ([.ref oA]) (n := 2) (Nat.le_of_ble_eq_true rfl)
  rw [lg_entry_eq]
  generalize (lg_sl ([.ref oA]) ++ List.replicate (2 - (lg_sl ([.ref oA])).length) Slot.unset).toArray = ls at hl ⊢
  have hl : lv_has ls 2 [(0, .ref oA)] := hl
  refine lv_iconst (v := 1) hx hb dX0_dropOldest_0 (by decide) ?_
  refine lv_istore_n (lv' := [(1, .int 1), (0, .ref oA)]) hx hb dX0_dropOldest_1 rfl hl (by decide) rfl (fun ls hl => ?_)
  have hl := lv_sub hl (l' := [(1, .int 1), (0, .ref oA)]) [0, 1] rfl
  have key_n_784 : ∀ (n_784 : Nat) (z_780 : Int32) (f_781 : Nat → Int32) (f_782 : Nat → Int32) (f_783 : Nat → Int32) (H : Heap) (locs : List Loc) (ls : Array Slot), (∀ j : Nat, j < 16 → 0 ≤ (f_782 j).toInt ∧ (f_782 j).toInt ≤ 1) → (∀ j : Nat, j < 16 → 0 ≤ (f_783 j).toInt ∧ (f_783 j).toInt ≤ 17) → (1 ≤ z_780.toInt ∧ z_780.toInt ≤ 16) → (∀ j : Nat, j < 16 → f_782 j = 0 → 0 ≤ (f_781 j).toInt ∧ (f_781 j).toInt ≤ 3) → (16 - z_780.toInt).toNat < n_784 → va_P (dC, dI) vwCl [(oA, .inr (0, [.int iA_count, .ref rA_nodes, .ref rA_olds, .ref rA_says])), (rA_nodes, .inl (kA_nodes, 16, .inl f_783)), (rA_olds, .inl (kA_olds, 16, .inl f_781)), (rA_says, .inl (kA_says, 16, .inl f_782))] H → va_D A [(oA, .inr (0, [.int iA_count, .ref rA_nodes, .ref rA_olds, .ref rA_says])), (rA_nodes, .inl (kA_nodes, 16, .inl f_783)), (rA_olds, .inl (kA_olds, 16, .inl f_781)), (rA_says, .inl (kA_says, 16, .inl f_782))] → va_S A s.heap H locs → lv_has ls 2 [(1, .int z_780), (0, .ref oA)] → W p l e (headSpec (Cond.code yX0_dropOldest cX0_dropOldest 2 none :: wG) ({ frames := 0, cells := 0, slots := 0, locals := 0 })).room s m ([.ref oA] : List Value).toArray below meth c H locs 0 0 (MQ below (va_Qv (fun (_ : Nat) => True) (fun (_ : Nat) (t : State) => ∃ (niA_count : Int32) (nfA_nodes : Nat → Int32) (nfA_olds : Nat → Int32) (nfA_says : Nat → Int32), (15 ≤ niA_count.toInt ∧ niA_count.toInt ≤ 15) ∧ (∀ j : Nat, j < 16 → 0 ≤ (nfA_nodes j).toInt ∧ (nfA_nodes j).toInt ≤ 17) ∧ (∀ j : Nat, j < 16 → 0 ≤ (nfA_says j).toInt ∧ (nfA_says j).toInt ≤ 1) ∧ (∀ j : Nat, j < 16 → nfA_says j = 0 → 0 ≤ (nfA_olds j).toInt ∧ (nfA_olds j).toInt ≤ 3) ∧ Bw dC dI A [(oA, .inr (0, [.int niA_count, .ref rA_nodes, .ref rA_olds, .ref rA_says])), (rA_nodes, .inl (kA_nodes, 16, .inl nfA_nodes)), (rA_olds, .inl (kA_olds, 16, .inl nfA_olds)), (rA_says, .inl (kA_says, 16, .inl nfA_says))] [(kA_nodes, .int), (kA_olds, .int), (kA_says, .boolean)] t) A) ([.ref oA] : List Value).toArray s 0 0 A) (F0 m 2 ls []) := by
    intro n_784
    induction n_784 with
    | zero => intro z_780 f_781 f_782 f_783 H locs ls a_f_782 a_f_783 hi0_n_784 hi1_n_784 hm; exact absurd hm (by omega)
    | succ n_784 ih_n_784 =>
      intro z_780 f_781 f_782 f_783 H locs ls a_f_782 a_f_783 hi0_n_784 hi1_n_784 hm hP hD hS hl
      have rg_z_780 := fb_rng z_780
      refine lv_iload_n hx hb dX0_dropOldest_2 rfl (lv_at hl 0 rfl) ?_
      refine lv_bipush (v := 16) hx hb dX0_dropOldest_3 (by decide) ?_
      refine lv_icmp_ge (tgt := 56) hx hb dX0_dropOldest_5 (by decide) (fun c_785 => ?_) (fun c_785 => ?_)
      · skip
        have gc_785 := ti_le c_785 kc_16 rfl
        refine lv_aload_n hx hb dX0_dropOldest_56 rfl (lv_at hl 1 rfl) ?_
        refine lv_bipush (v := 15) hx hb dX0_dropOldest_57 (by decide) ?_
        refine va_put (D := (dC, dI)) (ci := 0) (v := .int 15) (ty := .int) (C := RX0) (T := TX0) (N := 4) hx hb hts inX0 tyX0 tyX0_ok nmX0 hown hK hP hD hS 0 rfl rfl 0 (by decide) (hts _ wd_374) (fun _ h9 => h9) rfl (by decide +kernel) rfl rfl (Nat.le_of_ble_eq_true rfl) dX0_dropOldest_59 (fun H locs hP hD hS => ?_)
        have hP : va_P (dC, dI) vwCl [(oA, .inr (0, [.int 15, .ref rA_nodes, .ref rA_olds, .ref rA_says])), (rA_nodes, .inl (kA_nodes, 16, .inl f_783)), (rA_olds, .inl (kA_olds, 16, .inl f_781)), (rA_says, .inl (kA_says, 16, .inl f_782))] H := hP
        have hD : va_D A [(oA, .inr (0, [.int 15, .ref rA_nodes, .ref rA_olds, .ref rA_says])), (rA_nodes, .inl (kA_nodes, 16, .inl f_783)), (rA_olds, .inl (kA_olds, 16, .inl f_781)), (rA_says, .inl (kA_says, 16, .inl f_782))] := hD
        have hP9 := hP.sub (ws' := [(oA, .inr (0, [.int 15, .ref rA_nodes, .ref rA_olds, .ref rA_says])), (rA_nodes, .inl (kA_nodes, 16, .inl f_783)), (rA_olds, .inl (kA_olds, 16, .inl f_781)), (rA_says, .inl (kA_says, 16, .inl f_782))]) [0, 1, 2, 3] rfl
        have hD9 := hD.sub (ws' := [(oA, .inr (0, [.int 15, .ref rA_nodes, .ref rA_olds, .ref rA_says])), (rA_nodes, .inl (kA_nodes, 16, .inl f_783)), (rA_olds, .inl (kA_olds, 16, .inl f_781)), (rA_says, .inl (kA_says, 16, .inl f_782))]) [0, 1, 2, 3] (by decide) rfl
        have hK9 := hK.sub (tys' := [(kA_nodes, .int), (kA_olds, .int), (kA_says, .boolean)]) [0, 1, 2] rfl
        exact W.vret hx hb hr (fun t ht hW => ⟨⟨0, rfl, trivial, ⟨15, f_783, f_781, f_782, (by decide), a_f_783, a_f_782, (by first | omega | decide | assumption), Bw.to hP9 hD9 hK9 ht hW⟩⟩, hS.F ht⟩) hS.2.2 dX0_dropOldest_62
      · skip
        have gc_785 := ti_nle c_785 kc_16 rfl
        refine lv_aload_n hx hb dX0_dropOldest_8 rfl (lv_at hl 1 rfl) ?_
        refine va_get (D := (dC, dI)) (ci := 0) (v := .ref rA_nodes) (C := RX0) (T := TX0) (N := 4) hx hb hts inX0 hown hK hP 0 rfl rfl 1 (by decide) (hts _ wd_134) (fun _ h9 => h9) rfl dX0_dropOldest_9 ?_
        refine lv_iload_n hx hb dX0_dropOldest_12 rfl (lv_at hl 0 rfl) ?_
        refine lv_iconst (v := 1) hx hb dX0_dropOldest_13 (by decide) ?_
        refine lv_isub hx hb dX0_dropOldest_14 ?_
        refine lv_topi (fun x_786 ex_786 => ?_)
        have vx_786 : x_786.toInt = z_780.toInt + (-1) := by have q := ti_sub ex_786 rfl kc_1 (by omega) (by omega); omega
        refine lv_aload_n hx hb dX0_dropOldest_15 rfl (lv_at hl 1 rfl) ?_
        refine va_get (D := (dC, dI)) (ci := 0) (v := .ref rA_nodes) (C := RX0) (T := TX0) (N := 4) hx hb hts inX0 hown hK hP 0 rfl rfl 1 (by decide) (hts _ wd_134) (fun _ h9 => h9) rfl dX0_dropOldest_16 ?_
        refine lv_iload_n hx hb dX0_dropOldest_19 rfl (lv_at hl 0 rfl) ?_
        refine va_iald hx hb hK hP 1 0 rfl rfl (ti_in rfl (by omega) (by omega)) dX0_dropOldest_20 ?_
        refine lv_topi (fun x_787 ex_787 => ?_)
        have rg_x_787 := fb_rng x_787
        have kx_787 : (f_783 z_780.toNatClampNeg).toInt = x_787.toInt := by rw [ex_787]
        have ux_787 := a_f_783 _ (by have q := ti_cl (x := z_780) rfl (by omega); omega : z_780.toNatClampNeg < 16)
        rw [show f_783 z_780.toNatClampNeg = x_787 from ex_787.symm] at ux_787
        refine vi_iast (lo := 0) (hi := 17) hx hb hK hP hD hS 1 0 rfl rfl (ti_in vx_786 (by omega) (by omega)) a_f_783 (by omega) dX0_dropOldest_21 (fun H locs f_788 a_f_788 hP hD hS => ?_)
        have hP : va_P (dC, dI) vwCl [(oA, .inr (0, [.int iA_count, .ref rA_nodes, .ref rA_olds, .ref rA_says])), (rA_nodes, .inl (kA_nodes, 16, .inl f_788)), (rA_olds, .inl (kA_olds, 16, .inl f_781)), (rA_says, .inl (kA_says, 16, .inl f_782))] H := hP
        have hD : va_D A [(oA, .inr (0, [.int iA_count, .ref rA_nodes, .ref rA_olds, .ref rA_says])), (rA_nodes, .inl (kA_nodes, 16, .inl f_788)), (rA_olds, .inl (kA_olds, 16, .inl f_781)), (rA_says, .inl (kA_says, 16, .inl f_782))] := hD
        refine lv_aload_n hx hb dX0_dropOldest_22 rfl (lv_at hl 1 rfl) ?_
        refine va_get (D := (dC, dI)) (ci := 0) (v := .ref rA_olds) (C := RX0) (T := TX0) (N := 4) hx hb hts inX0 hown hK hP 0 rfl rfl 2 (by decide) (hts _ wd_135) (fun _ h9 => h9) rfl dX0_dropOldest_23 ?_
        refine lv_iload_n hx hb dX0_dropOldest_26 rfl (lv_at hl 0 rfl) ?_
        refine lv_iconst (v := 1) hx hb dX0_dropOldest_27 (by decide) ?_
        refine lv_isub hx hb dX0_dropOldest_28 ?_
        refine lv_topi (fun x_789 ex_789 => ?_)
        have vx_789 : x_789.toInt = z_780.toInt + (-1) := by have q := ti_sub ex_789 rfl kc_1 (by omega) (by omega); omega
        refine lv_aload_n hx hb dX0_dropOldest_29 rfl (lv_at hl 1 rfl) ?_
        refine va_get (D := (dC, dI)) (ci := 0) (v := .ref rA_olds) (C := RX0) (T := TX0) (N := 4) hx hb hts inX0 hown hK hP 0 rfl rfl 2 (by decide) (hts _ wd_135) (fun _ h9 => h9) rfl dX0_dropOldest_30 ?_
        refine lv_iload_n hx hb dX0_dropOldest_33 rfl (lv_at hl 0 rfl) ?_
        refine va_iald hx hb hK hP 2 1 rfl rfl (ti_in rfl (by omega) (by omega)) dX0_dropOldest_34 ?_
        refine lv_topi (fun x_790 ex_790 => ?_)
        have rg_x_790 := fb_rng x_790
        have kx_790 : (f_781 z_780.toNatClampNeg).toInt = x_790.toInt := by rw [ex_790]
        refine va_iast hx hb hK hP hD hS 2 1 rfl rfl (ti_in vx_789 (by omega) (by omega)) dX0_dropOldest_35 (fun H locs hP hD hS => ?_)
        obtain ⟨f_792, ef_792⟩ : ∃ g : Nat → Int32, g = upd f_781 x_789.toNatClampNeg x_790 := ⟨_, rfl⟩
        rw [← ef_792] at hP hD
        have hP : va_P (dC, dI) vwCl [(oA, .inr (0, [.int iA_count, .ref rA_nodes, .ref rA_olds, .ref rA_says])), (rA_nodes, .inl (kA_nodes, 16, .inl f_788)), (rA_olds, .inl (kA_olds, 16, .inl f_792)), (rA_says, .inl (kA_says, 16, .inl f_782))] H := hP
        have hD : va_D A [(oA, .inr (0, [.int iA_count, .ref rA_nodes, .ref rA_olds, .ref rA_says])), (rA_nodes, .inl (kA_nodes, 16, .inl f_788)), (rA_olds, .inl (kA_olds, 16, .inl f_792)), (rA_says, .inl (kA_says, 16, .inl f_782))] := hD
        refine lv_aload_n hx hb dX0_dropOldest_36 rfl (lv_at hl 1 rfl) ?_
        refine va_get (D := (dC, dI)) (ci := 0) (v := .ref rA_says) (C := RX0) (T := TX0) (N := 4) hx hb hts inX0 hown hK hP 0 rfl rfl 3 (by decide) (hts _ wd_137) (fun _ h9 => h9) rfl dX0_dropOldest_37 ?_
        refine lv_iload_n hx hb dX0_dropOldest_40 rfl (lv_at hl 0 rfl) ?_
        refine lv_iconst (v := 1) hx hb dX0_dropOldest_41 (by decide) ?_
        refine lv_isub hx hb dX0_dropOldest_42 ?_
        refine lv_topi (fun x_793 ex_793 => ?_)
        have vx_793 : x_793.toInt = z_780.toInt + (-1) := by have q := ti_sub ex_793 rfl kc_1 (by omega) (by omega); omega
        refine lv_aload_n hx hb dX0_dropOldest_43 rfl (lv_at hl 1 rfl) ?_
        refine va_get (D := (dC, dI)) (ci := 0) (v := .ref rA_says) (C := RX0) (T := TX0) (N := 4) hx hb hts inX0 hown hK hP 0 rfl rfl 3 (by decide) (hts _ wd_137) (fun _ h9 => h9) rfl dX0_dropOldest_44 ?_
        refine lv_iload_n hx hb dX0_dropOldest_47 rfl (lv_at hl 0 rfl) ?_
        refine va_zald hx hb hK hP 3 2 rfl rfl (ti_in rfl (by omega) (by omega)) dX0_dropOldest_48 ?_
        refine lv_topi (fun x_794 ex_794 => ?_)
        have rg_x_794 := fb_rng x_794
        have kx_794 : (f_782 z_780.toNatClampNeg).toInt = x_794.toInt := by rw [ex_794]
        have ux_794 := a_f_782 _ (by have q := ti_cl (x := z_780) rfl (by omega); omega : z_780.toNatClampNeg < 16)
        rw [show f_782 z_780.toNatClampNeg = x_794 from ex_794.symm] at ux_794
        refine va_zast hx hb hK hP hD hS 3 2 rfl rfl (ti_in vx_793 (by omega) (by omega)) dX0_dropOldest_49 (fun H locs hP hD hS => ?_)
        obtain ⟨f_796, ef_796⟩ : ∃ g : Nat → Int32, g = upd f_782 x_793.toNatClampNeg (vp_nar .boolean x_794) := ⟨_, rfl⟩
        rw [← ef_796] at hP hD
        have hP : va_P (dC, dI) vwCl [(oA, .inr (0, [.int iA_count, .ref rA_nodes, .ref rA_olds, .ref rA_says])), (rA_nodes, .inl (kA_nodes, 16, .inl f_788)), (rA_olds, .inl (kA_olds, 16, .inl f_792)), (rA_says, .inl (kA_says, 16, .inl f_796))] H := hP
        have hD : va_D A [(oA, .inr (0, [.int iA_count, .ref rA_nodes, .ref rA_olds, .ref rA_says])), (rA_nodes, .inl (kA_nodes, 16, .inl f_788)), (rA_olds, .inl (kA_olds, 16, .inl f_792)), (rA_says, .inl (kA_says, 16, .inl f_796))] := hD
        have a_f_796 : ∀ j : Nat, j < 16 → 0 ≤ (f_796 j).toInt ∧ (f_796 j).toInt ≤ 1 := by rw [ef_796]; exact upd_in a_f_782 (by rw [zb_nar (by omega)]; omega)
        have ix_f_796 : x_793 = x_789 := by rw [fz_eq]; omega
        have r_f_796 : ∀ j : Nat, j < 16 → f_796 j = 0 → 0 ≤ (f_792 j).toInt ∧ (f_792 j).toInt ≤ 3 := by rw [ef_796, ef_792, ix_f_796]; exact rel_upd (x := x_790) (s := vp_nar .boolean x_794) (by assumption) (fun h0 => by rw [zb_nar (by omega)] at h0; first | exact hk0 h0 | (rw [ex_790]; exact (show ∀ j : Nat, j < 16 → f_782 j = 0 → 0 ≤ (f_781 j).toInt ∧ (f_781 j).toInt ≤ 3 by assumption) _ (by have q := ti_cl (x := z_780) rfl (by omega); omega) (ex_794 ▸ h0)))
        obtain ⟨x_797, ex_797⟩ : ∃ z : Int32, z = z_780 + Int32.ofInt 1 := ⟨_, rfl⟩
        have vx_797 : x_797.toInt = z_780.toInt + 1 := by have q := ti_add (y := 1) ex_797 rfl kc_1 (by omega) (by omega); omega
        refine lv_iinc (v := x_797) (lv' := [(1, .int x_797), (0, .ref oA)]) hx hb dX0_dropOldest_50 hl (k := 0) rfl ex_797.symm (by decide) rfl (fun ls hl => ?_)
        refine lv_goto (tgt := 2) hx hb dX0_dropOldest_53 (by decide) ?_
        exact ih_n_784 x_797 f_792 f_796 f_788 _ _ _ a_f_796 a_f_788 (by first | omega | decide | assumption) (by first | omega | decide | assumption) (by omega) (hP.sub [0, 1, 2, 3] rfl) (hD.sub [0, 1, 2, 3] (by decide) rfl) hS (lv_sub hl [0, 1] rfl)
  exact key_n_784 (((16 - (1 : Int32).toInt).toNat) + 1) 1 fA_olds fA_says fA_nodes _ _ _ a_fA_says a_fA_nodes (by first | omega | decide | assumption | (have q0 := kc_0; have q1 := kc_1; omega)) (by first | omega | decide | assumption | (have q0 := kc_0; have q1 := kc_1; omega)) (by omega) hP hD hS hl
set_option maxHeartbeats 4000000 in
set_option maxRecDepth 100000 in
theorem tX0_keep (l : Launch) (dC : Nat → ClassId) (dI : Nat → Nat → Nat) (sz : Nat) (oA : Nat) (iA_count : Int32) (rA_nodes : Nat) (fA_nodes : Nat → Int32) (kA_nodes : ClassId) (rA_olds : Nat) (fA_olds : Nat → Int32) (kA_olds : ClassId) (rA_says : Nat) (fA_says : Nat → Int32) (kA_says : ClassId) (p0 : Int32) (p1 : Int32) (p2 : Int32) (b_iA_count : 0 ≤ iA_count.toInt ∧ iA_count.toInt ≤ 16) (a_fA_nodes : ∀ j : Nat, j < 16 → 0 ≤ (fA_nodes j).toInt ∧ (fA_nodes j).toInt ≤ 17) (a_fA_says : ∀ j : Nat, j < 16 → 0 ≤ (fA_says j).toInt ∧ (fA_says j).toInt ≤ 1) (r_A : ∀ j : Nat, j < 16 → fA_says j = 0 → 0 ≤ (fA_olds j).toInt ∧ (fA_olds j).toInt ≤ 3) (hp0 : 0 ≤ p0.toInt ∧ p0.toInt ≤ 17) (hp2 : 0 ≤ p2.toInt ∧ p2.toInt ≤ 1) (hk0 : p2 = 0 → 0 ≤ p1.toInt ∧ p1.toInt ≤ 3) : Met l yX0_keep (Cond.code yX0_keep cX0_keep 4 none :: wG) ({ frames := 1, cells := 0, slots := 0, locals := 21 }) (va_Pc [.ref oA, .int p0, .int p1, .int p2] (Pw dC dI sz [(oA, .inr (0, [.int iA_count, .ref rA_nodes, .ref rA_olds, .ref rA_says])), (rA_nodes, .inl (kA_nodes, 16, .inl fA_nodes)), (rA_olds, .inl (kA_olds, 16, .inl fA_olds)), (rA_says, .inl (kA_says, 16, .inl fA_says))] [(kA_nodes, .int), (kA_olds, .int), (kA_says, .boolean)])) (va_Qv (fun (_ : Nat) => True) (fun (_ : Nat) (t : State) => ∃ (niA_count : Int32) (nfA_nodes : Nat → Int32) (nfA_olds : Nat → Int32) (nfA_says : Nat → Int32), (0 ≤ niA_count.toInt ∧ niA_count.toInt ≤ 16) ∧ (∀ j : Nat, j < 16 → 0 ≤ (nfA_nodes j).toInt ∧ (nfA_nodes j).toInt ≤ 17) ∧ (∀ j : Nat, j < 16 → 0 ≤ (nfA_says j).toInt ∧ (nfA_says j).toInt ≤ 1) ∧ (∀ j : Nat, j < 16 → nfA_says j = 0 → 0 ≤ (nfA_olds j).toInt ∧ (nfA_olds j).toInt ≤ 3) ∧ Bw dC dI (va_A [(oA, .inr (0, [.int iA_count, .ref rA_nodes, .ref rA_olds, .ref rA_says])), (rA_nodes, .inl (kA_nodes, 16, .inl fA_nodes)), (rA_olds, .inl (kA_olds, 16, .inl fA_olds)), (rA_says, .inl (kA_says, 16, .inl fA_says))] sz) [(oA, .inr (0, [.int niA_count, .ref rA_nodes, .ref rA_olds, .ref rA_says])), (rA_nodes, .inl (kA_nodes, 16, .inl nfA_nodes)), (rA_olds, .inl (kA_olds, 16, .inl nfA_olds)), (rA_says, .inl (kA_says, 16, .inl nfA_says))] [(kA_nodes, .int), (kA_olds, .int), (kA_says, .boolean)] t) (va_A [(oA, .inr (0, [.int iA_count, .ref rA_nodes, .ref rA_olds, .ref rA_says])), (rA_nodes, .inl (kA_nodes, 16, .inl fA_nodes)), (rA_olds, .inl (kA_olds, 16, .inl fA_olds)), (rA_says, .inl (kA_says, 16, .inl fA_says))] sz)) 0 0 (va_A [(oA, .inr (0, [.int iA_count, .ref rA_nodes, .ref rA_olds, .ref rA_says])), (rA_nodes, .inl (kA_nodes, 16, .inl fA_nodes)), (rA_olds, .inl (kA_olds, 16, .inl fA_olds)), (rA_says, .inl (kA_says, 16, .inl fA_says))] sz) := by
  refine Met.ofW (cc := cX0_keep) (maxL := 4) (ret := none) (by decide) rfl ?_
  intro p e s m args below meth c s₁ B hml hv
  obtain ⟨rfl, hsz, hP, hK, hD0, hE⟩ := hv
  have hx := B.exec
  have hb := B.bytes
  have hr := B.returns
  have hts : ∀ w ∈ wG, w.before ([.ref oA, .int p0, .int p1, .int p2] : List Value).toArray s = true := fun w h => atoms_spec (ws := Cond.code yX0_keep cX0_keep 4 none :: wG) B.pre w (List.mem_cons_of_mem _ h)
  have hown : s.vm.findClass RX0 = some m.cls := findClass_of_methodNamed B.named
  have hlocks := B.notSynchronized
  subst hsz
  have hD := hD0.self (sz := s.heap.size)
  generalize hAe : va_A [(oA, .inr (0, [.int iA_count, .ref rA_nodes, .ref rA_olds, .ref rA_says])), (rA_nodes, .inl (kA_nodes, 16, .inl fA_nodes)), (rA_olds, .inl (kA_olds, 16, .inl fA_olds)), (rA_says, .inl (kA_says, 16, .inl fA_says))] s.heap.size = A at hD hE ⊢
  have hA : ∀ q : Nat, s.heap.size ≤ q → A q := fun q h => by rw [← hAe]; exact Or.inr h
  have hS : va_S A s.heap s.heap [] := va_S.rf
  have hl := lv_entry ([.ref oA, .int p0, .int p1, .int p2]) (n := 4) (Nat.le_of_ble_eq_true rfl)
  rw [lg_entry_eq]
  generalize (lg_sl ([.ref oA, .int p0, .int p1, .int p2]) ++ List.replicate (4 - (lg_sl ([.ref oA, .int p0, .int p1, .int p2])).length) Slot.unset).toArray = ls at hl ⊢
  have hl : lv_has ls 4 [(0, .ref oA), (1, .int p0), (2, .int p1), (3, .int p2)] := hl
  have rg_p0 := fb_rng p0
  have rg_p1 := fb_rng p1
  have rg_p2 := fb_rng p2
  refine lv_aload_n hx hb dX0_keep_0 rfl (lv_at hl 0 rfl) ?_
  refine va_get (D := (dC, dI)) (ci := 0) (v := .int iA_count) (C := RX0) (T := TX0) (N := 4) hx hb hts inX0 hown hK hP 0 rfl rfl 0 (by decide) (hts _ wd_374) (fun _ h9 => h9) rfl dX0_keep_1 ?_
  have rg_iA_count := fb_rng iA_count
  refine lv_bipush (v := 16) hx hb dX0_keep_4 (by decide) ?_
  refine lv_icmp_ne (tgt := 13) hx hb dX0_keep_6 (by decide) (fun c_815 => ?_) (fun c_815 => ?_)
  · skip
    have gc_815 := ti_ne c_815 rfl kc_16
    refine lv_aload_n hx hb dX0_keep_13 rfl (lv_at hl 0 rfl) ?_
    refine va_get (D := (dC, dI)) (ci := 0) (v := .ref rA_nodes) (C := RX0) (T := TX0) (N := 4) hx hb hts inX0 hown hK hP 0 rfl rfl 1 (by decide) (hts _ wd_134) (fun _ h9 => h9) rfl dX0_keep_14 ?_
    refine lv_aload_n hx hb dX0_keep_17 rfl (lv_at hl 0 rfl) ?_
    refine va_get (D := (dC, dI)) (ci := 0) (v := .int iA_count) (C := RX0) (T := TX0) (N := 4) hx hb hts inX0 hown hK hP 0 rfl rfl 0 (by decide) (hts _ wd_374) (fun _ h9 => h9) rfl dX0_keep_18 ?_
    refine lv_iload_n hx hb dX0_keep_21 rfl (lv_at hl 1 rfl) ?_
    refine vi_iast (lo := 0) (hi := 17) hx hb hK hP hD hS 1 0 rfl rfl (ti_in rfl (by omega) (by omega)) a_fA_nodes (by omega) dX0_keep_22 (fun H locs f_816 a_f_816 hP hD hS => ?_)
    have hP : va_P (dC, dI) vwCl [(oA, .inr (0, [.int iA_count, .ref rA_nodes, .ref rA_olds, .ref rA_says])), (rA_nodes, .inl (kA_nodes, 16, .inl f_816)), (rA_olds, .inl (kA_olds, 16, .inl fA_olds)), (rA_says, .inl (kA_says, 16, .inl fA_says))] H := hP
    have hD : va_D A [(oA, .inr (0, [.int iA_count, .ref rA_nodes, .ref rA_olds, .ref rA_says])), (rA_nodes, .inl (kA_nodes, 16, .inl f_816)), (rA_olds, .inl (kA_olds, 16, .inl fA_olds)), (rA_says, .inl (kA_says, 16, .inl fA_says))] := hD
    refine lv_aload_n hx hb dX0_keep_23 rfl (lv_at hl 0 rfl) ?_
    refine va_get (D := (dC, dI)) (ci := 0) (v := .ref rA_olds) (C := RX0) (T := TX0) (N := 4) hx hb hts inX0 hown hK hP 0 rfl rfl 2 (by decide) (hts _ wd_135) (fun _ h9 => h9) rfl dX0_keep_24 ?_
    refine lv_aload_n hx hb dX0_keep_27 rfl (lv_at hl 0 rfl) ?_
    refine va_get (D := (dC, dI)) (ci := 0) (v := .int iA_count) (C := RX0) (T := TX0) (N := 4) hx hb hts inX0 hown hK hP 0 rfl rfl 0 (by decide) (hts _ wd_374) (fun _ h9 => h9) rfl dX0_keep_28 ?_
    refine lv_iload_n hx hb dX0_keep_31 rfl (lv_at hl 2 rfl) ?_
    refine va_iast hx hb hK hP hD hS 2 1 rfl rfl (ti_in rfl (by omega) (by omega)) dX0_keep_32 (fun H locs hP hD hS => ?_)
    obtain ⟨f_818, ef_818⟩ : ∃ g : Nat → Int32, g = upd fA_olds iA_count.toNatClampNeg p1 := ⟨_, rfl⟩
    rw [← ef_818] at hP hD
    have hP : va_P (dC, dI) vwCl [(oA, .inr (0, [.int iA_count, .ref rA_nodes, .ref rA_olds, .ref rA_says])), (rA_nodes, .inl (kA_nodes, 16, .inl f_816)), (rA_olds, .inl (kA_olds, 16, .inl f_818)), (rA_says, .inl (kA_says, 16, .inl fA_says))] H := hP
    have hD : va_D A [(oA, .inr (0, [.int iA_count, .ref rA_nodes, .ref rA_olds, .ref rA_says])), (rA_nodes, .inl (kA_nodes, 16, .inl f_816)), (rA_olds, .inl (kA_olds, 16, .inl f_818)), (rA_says, .inl (kA_says, 16, .inl fA_says))] := hD
    refine lv_aload_n hx hb dX0_keep_33 rfl (lv_at hl 0 rfl) ?_
    refine va_get (D := (dC, dI)) (ci := 0) (v := .ref rA_says) (C := RX0) (T := TX0) (N := 4) hx hb hts inX0 hown hK hP 0 rfl rfl 3 (by decide) (hts _ wd_137) (fun _ h9 => h9) rfl dX0_keep_34 ?_
    refine lv_aload_n hx hb dX0_keep_37 rfl (lv_at hl 0 rfl) ?_
    refine va_get (D := (dC, dI)) (ci := 0) (v := .int iA_count) (C := RX0) (T := TX0) (N := 4) hx hb hts inX0 hown hK hP 0 rfl rfl 0 (by decide) (hts _ wd_374) (fun _ h9 => h9) rfl dX0_keep_38 ?_
    refine lv_iload_n hx hb dX0_keep_41 rfl (lv_at hl 3 rfl) ?_
    refine va_zast hx hb hK hP hD hS 3 2 rfl rfl (ti_in rfl (by omega) (by omega)) dX0_keep_42 (fun H locs hP hD hS => ?_)
    obtain ⟨f_820, ef_820⟩ : ∃ g : Nat → Int32, g = upd fA_says iA_count.toNatClampNeg (vp_nar .boolean p2) := ⟨_, rfl⟩
    rw [← ef_820] at hP hD
    have hP : va_P (dC, dI) vwCl [(oA, .inr (0, [.int iA_count, .ref rA_nodes, .ref rA_olds, .ref rA_says])), (rA_nodes, .inl (kA_nodes, 16, .inl f_816)), (rA_olds, .inl (kA_olds, 16, .inl f_818)), (rA_says, .inl (kA_says, 16, .inl f_820))] H := hP
    have hD : va_D A [(oA, .inr (0, [.int iA_count, .ref rA_nodes, .ref rA_olds, .ref rA_says])), (rA_nodes, .inl (kA_nodes, 16, .inl f_816)), (rA_olds, .inl (kA_olds, 16, .inl f_818)), (rA_says, .inl (kA_says, 16, .inl f_820))] := hD
    have a_f_820 : ∀ j : Nat, j < 16 → 0 ≤ (f_820 j).toInt ∧ (f_820 j).toInt ≤ 1 := by rw [ef_820]; exact upd_in a_fA_says (by rw [zb_nar (by omega)]; omega)
    have r_f_820 : ∀ j : Nat, j < 16 → f_820 j = 0 → 0 ≤ (f_818 j).toInt ∧ (f_818 j).toInt ≤ 3 := by rw [ef_820, ef_818]; exact rel_upd (x := p1) (s := vp_nar .boolean p2) (by assumption) (fun h0 => by rw [zb_nar (by omega)] at h0; first | exact hk0 h0 | (rw [ep1]; exact (show ∀ j : Nat, j < 16 → fA_says j = 0 → 0 ≤ (fA_olds j).toInt ∧ (fA_olds j).toInt ≤ 3 by assumption) _ (by have q := ti_cl (x := iA_count) rfl (by omega); omega) (ep2 ▸ h0)))
    refine lv_aload_n hx hb dX0_keep_43 rfl (lv_at hl 0 rfl) ?_
    refine lv_dup hx hb dX0_keep_44 rfl ?_
    refine va_get (D := (dC, dI)) (ci := 0) (v := .int iA_count) (C := RX0) (T := TX0) (N := 4) hx hb hts inX0 hown hK hP 0 rfl rfl 0 (by decide) (hts _ wd_374) (fun _ h9 => h9) rfl dX0_keep_45 ?_
    refine lv_iconst (v := 1) hx hb dX0_keep_48 (by decide) ?_
    refine lv_iadd hx hb dX0_keep_49 ?_
    refine lv_topi (fun x_821 ex_821 => ?_)
    have vx_821 : x_821.toInt = iA_count.toInt + 1 := by have q := ti_add ex_821 rfl kc_1 (by omega) (by omega); omega
    refine va_put (D := (dC, dI)) (ci := 0) (v := .int x_821) (ty := .int) (C := RX0) (T := TX0) (N := 4) hx hb hts inX0 tyX0 tyX0_ok nmX0 hown hK hP hD hS 0 rfl rfl 0 (by decide) (hts _ wd_374) (fun _ h9 => h9) rfl (by decide +kernel) rfl rfl (Nat.le_of_ble_eq_true rfl) dX0_keep_50 (fun H locs hP hD hS => ?_)
    have hP : va_P (dC, dI) vwCl [(oA, .inr (0, [.int x_821, .ref rA_nodes, .ref rA_olds, .ref rA_says])), (rA_nodes, .inl (kA_nodes, 16, .inl f_816)), (rA_olds, .inl (kA_olds, 16, .inl f_818)), (rA_says, .inl (kA_says, 16, .inl f_820))] H := hP
    have hD : va_D A [(oA, .inr (0, [.int x_821, .ref rA_nodes, .ref rA_olds, .ref rA_says])), (rA_nodes, .inl (kA_nodes, 16, .inl f_816)), (rA_olds, .inl (kA_olds, 16, .inl f_818)), (rA_says, .inl (kA_says, 16, .inl f_820))] := hD
    have hP9 := hP.sub (ws' := [(oA, .inr (0, [.int x_821, .ref rA_nodes, .ref rA_olds, .ref rA_says])), (rA_nodes, .inl (kA_nodes, 16, .inl f_816)), (rA_olds, .inl (kA_olds, 16, .inl f_818)), (rA_says, .inl (kA_says, 16, .inl f_820))]) [0, 1, 2, 3] rfl
    have hD9 := hD.sub (ws' := [(oA, .inr (0, [.int x_821, .ref rA_nodes, .ref rA_olds, .ref rA_says])), (rA_nodes, .inl (kA_nodes, 16, .inl f_816)), (rA_olds, .inl (kA_olds, 16, .inl f_818)), (rA_says, .inl (kA_says, 16, .inl f_820))]) [0, 1, 2, 3] (by decide) rfl
    have hK9 := hK.sub (tys' := [(kA_nodes, .int), (kA_olds, .int), (kA_says, .boolean)]) [0, 1, 2] rfl
    exact W.vret hx hb hr (fun t ht hW => ⟨⟨0, rfl, trivial, ⟨x_821, f_816, f_818, f_820, (by have q := vx_821; omega), a_f_816, a_f_820, (by first | omega | decide | assumption), Bw.to hP9 hD9 hK9 ht hW⟩⟩, hS.F ht⟩) hS.2.2 dX0_keep_53
  · skip
    have gc_815 := ti_eq c_815 rfl kc_16
    refine lv_aload_n hx hb dX0_keep_9 rfl (lv_at hl 0 rfl) ?_
    have hPc := hP.sub (ws' := [(oA, .inr (0, [.int iA_count, .ref rA_nodes, .ref rA_olds, .ref rA_says])), (rA_nodes, .inl (kA_nodes, 16, .inl fA_nodes)), (rA_olds, .inl (kA_olds, 16, .inl fA_olds)), (rA_says, .inl (kA_says, 16, .inl fA_says))]) [0, 1, 2, 3] rfl
    have hDc := hD.sub (ws' := [(oA, .inr (0, [.int iA_count, .ref rA_nodes, .ref rA_olds, .ref rA_says])), (rA_nodes, .inl (kA_nodes, 16, .inl fA_nodes)), (rA_olds, .inl (kA_olds, 16, .inl fA_olds)), (rA_says, .inl (kA_says, 16, .inl fA_says))]) [0, 1, 2, 3] (by decide) rfl
    have hKc := hK.sub (tys' := [(kA_nodes, .int), (kA_olds, .int), (kA_says, .boolean)]) [0, 1, 2] rfl
    have hFc := va_free (wc := [(oA, .inr (0, [.int iA_count, .ref rA_nodes, .ref rA_olds, .ref rA_says])), (rA_nodes, .inl (kA_nodes, 16, .inl fA_nodes)), (rA_olds, .inl (kA_olds, 16, .inl fA_olds)), (rA_says, .inl (kA_says, 16, .inl fA_says))]) hD hS hA [0, 1, 2, 3] rfl
    refine va_callv (va_runV (As := []) (rest := []) ⟨hx, hb, hml, hown, hts⟩ (tX0_dropOldest l dC dI _ oA iA_count rA_nodes fA_nodes kA_nodes rA_olds fA_olds kA_olds rA_says fA_says kA_says (by first | omega | decide) a_fA_nodes a_fA_says (by assumption)) (cwV 0 hts (wd_V wd_1369 wd_1370 wd_1371 wd_29 (wd_c wd_1372)) rfl rfl rfl (by decide +kernel) ⟨Nat.le_of_ble_eq_true rfl, Nat.le_of_ble_eq_true rfl⟩) ⟨Pw.fb, va_recv hKc hPc (ci := 0) (q0 := 0) rfl rfl, fun U hU hW => Pw.to hPc hDc hKc hE hS hFc hU hW⟩ rfl rfl hl.1 rfl (lv_room (Nat.le_of_ble_eq_true rfl)) dX0_keep_10 ⟨Nat.le_of_ble_eq_true rfl, Nat.le_of_ble_eq_true rfl⟩) hS (fun q _ h => hFc q h) hFc (fun u t H locs ht hvm hw hB hz1 hk1 hS => ?_)
    obtain ⟨x_822, f_823, f_824, f_825, b_x_822, a_f_823, a_f_825, e_x_822_0, hB⟩ := hB
    obtain ⟨hP, hD, hK⟩ := Bw.back (wc := [(oA, .inr (0, [.int iA_count, .ref rA_nodes, .ref rA_olds, .ref rA_says])), (rA_nodes, .inl (kA_nodes, 16, .inl fA_nodes)), (rA_olds, .inl (kA_olds, 16, .inl fA_olds)), (rA_says, .inl (kA_says, 16, .inl fA_says))]) (wr := []) (tyr := []) hB rfl ht hvm hP hD hK [0, 1, 2, 3] [] rfl rfl (by decide) (by decide) [] rfl hk1 hFc
    have hP : va_P (dC, dI) vwCl [(oA, .inr (0, [.int x_822, .ref rA_nodes, .ref rA_olds, .ref rA_says])), (rA_nodes, .inl (kA_nodes, 16, .inl f_823)), (rA_olds, .inl (kA_olds, 16, .inl f_824)), (rA_says, .inl (kA_says, 16, .inl f_825))] H := hP
    have hD : va_D A [(oA, .inr (0, [.int x_822, .ref rA_nodes, .ref rA_olds, .ref rA_says])), (rA_nodes, .inl (kA_nodes, 16, .inl f_823)), (rA_olds, .inl (kA_olds, 16, .inl f_824)), (rA_says, .inl (kA_says, 16, .inl f_825))] := hD
    have hK : va_K (dC, dI) vwCl [(kA_nodes, .int), (kA_olds, .int), (kA_says, .boolean)] s := hK
    have rg_x_822 := fb_rng x_822
    refine lv_aload_n hx hb dX0_keep_13 rfl (lv_at hl 0 rfl) ?_
    refine va_get (D := (dC, dI)) (ci := 0) (v := .ref rA_nodes) (C := RX0) (T := TX0) (N := 4) hx hb hts inX0 hown hK hP 0 rfl rfl 1 (by decide) (hts _ wd_134) (fun _ h9 => h9) rfl dX0_keep_14 ?_
    refine lv_aload_n hx hb dX0_keep_17 rfl (lv_at hl 0 rfl) ?_
    refine va_get (D := (dC, dI)) (ci := 0) (v := .int x_822) (C := RX0) (T := TX0) (N := 4) hx hb hts inX0 hown hK hP 0 rfl rfl 0 (by decide) (hts _ wd_374) (fun _ h9 => h9) rfl dX0_keep_18 ?_
    refine lv_iload_n hx hb dX0_keep_21 rfl (lv_at hl 1 rfl) ?_
    refine vi_iast (lo := 0) (hi := 17) hx hb hK hP hD hS 1 0 rfl rfl (ti_in rfl (by omega) (by omega)) a_f_823 (by omega) dX0_keep_22 (fun H locs f_826 a_f_826 hP hD hS => ?_)
    have hP : va_P (dC, dI) vwCl [(oA, .inr (0, [.int x_822, .ref rA_nodes, .ref rA_olds, .ref rA_says])), (rA_nodes, .inl (kA_nodes, 16, .inl f_826)), (rA_olds, .inl (kA_olds, 16, .inl f_824)), (rA_says, .inl (kA_says, 16, .inl f_825))] H := hP
    have hD : va_D A [(oA, .inr (0, [.int x_822, .ref rA_nodes, .ref rA_olds, .ref rA_says])), (rA_nodes, .inl (kA_nodes, 16, .inl f_826)), (rA_olds, .inl (kA_olds, 16, .inl f_824)), (rA_says, .inl (kA_says, 16, .inl f_825))] := hD
    refine lv_aload_n hx hb dX0_keep_23 rfl (lv_at hl 0 rfl) ?_
    refine va_get (D := (dC, dI)) (ci := 0) (v := .ref rA_olds) (C := RX0) (T := TX0) (N := 4) hx hb hts inX0 hown hK hP 0 rfl rfl 2 (by decide) (hts _ wd_135) (fun _ h9 => h9) rfl dX0_keep_24 ?_
    refine lv_aload_n hx hb dX0_keep_27 rfl (lv_at hl 0 rfl) ?_
    refine va_get (D := (dC, dI)) (ci := 0) (v := .int x_822) (C := RX0) (T := TX0) (N := 4) hx hb hts inX0 hown hK hP 0 rfl rfl 0 (by decide) (hts _ wd_374) (fun _ h9 => h9) rfl dX0_keep_28 ?_
    refine lv_iload_n hx hb dX0_keep_31 rfl (lv_at hl 2 rfl) ?_
    refine va_iast hx hb hK hP hD hS 2 1 rfl rfl (ti_in rfl (by omega) (by omega)) dX0_keep_32 (fun H locs hP hD hS => ?_)
    obtain ⟨f_828, ef_828⟩ : ∃ g : Nat → Int32, g = upd f_824 x_822.toNatClampNeg p1 := ⟨_, rfl⟩
    rw [← ef_828] at hP hD
    have hP : va_P (dC, dI) vwCl [(oA, .inr (0, [.int x_822, .ref rA_nodes, .ref rA_olds, .ref rA_says])), (rA_nodes, .inl (kA_nodes, 16, .inl f_826)), (rA_olds, .inl (kA_olds, 16, .inl f_828)), (rA_says, .inl (kA_says, 16, .inl f_825))] H := hP
    have hD : va_D A [(oA, .inr (0, [.int x_822, .ref rA_nodes, .ref rA_olds, .ref rA_says])), (rA_nodes, .inl (kA_nodes, 16, .inl f_826)), (rA_olds, .inl (kA_olds, 16, .inl f_828)), (rA_says, .inl (kA_says, 16, .inl f_825))] := hD
    refine lv_aload_n hx hb dX0_keep_33 rfl (lv_at hl 0 rfl) ?_
    refine va_get (D := (dC, dI)) (ci := 0) (v := .ref rA_says) (C := RX0) (T := TX0) (N := 4) hx hb hts inX0 hown hK hP 0 rfl rfl 3 (by decide) (hts _ wd_137) (fun _ h9 => h9) rfl dX0_keep_34 ?_
    refine lv_aload_n hx hb dX0_keep_37 rfl (lv_at hl 0 rfl) ?_
    refine va_get (D := (dC, dI)) (ci := 0) (v := .int x_822) (C := RX0) (T := TX0) (N := 4) hx hb hts inX0 hown hK hP 0 rfl rfl 0 (by decide) (hts _ wd_374) (fun _ h9 => h9) rfl dX0_keep_38 ?_
    refine lv_iload_n hx hb dX0_keep_41 rfl (lv_at hl 3 rfl) ?_
    refine va_zast hx hb hK hP hD hS 3 2 rfl rfl (ti_in rfl (by omega) (by omega)) dX0_keep_42 (fun H locs hP hD hS => ?_)
    obtain ⟨f_830, ef_830⟩ : ∃ g : Nat → Int32, g = upd f_825 x_822.toNatClampNeg (vp_nar .boolean p2) := ⟨_, rfl⟩
    rw [← ef_830] at hP hD
    have hP : va_P (dC, dI) vwCl [(oA, .inr (0, [.int x_822, .ref rA_nodes, .ref rA_olds, .ref rA_says])), (rA_nodes, .inl (kA_nodes, 16, .inl f_826)), (rA_olds, .inl (kA_olds, 16, .inl f_828)), (rA_says, .inl (kA_says, 16, .inl f_830))] H := hP
    have hD : va_D A [(oA, .inr (0, [.int x_822, .ref rA_nodes, .ref rA_olds, .ref rA_says])), (rA_nodes, .inl (kA_nodes, 16, .inl f_826)), (rA_olds, .inl (kA_olds, 16, .inl f_828)), (rA_says, .inl (kA_says, 16, .inl f_830))] := hD
    have a_f_830 : ∀ j : Nat, j < 16 → 0 ≤ (f_830 j).toInt ∧ (f_830 j).toInt ≤ 1 := by rw [ef_830]; exact upd_in a_f_825 (by rw [zb_nar (by omega)]; omega)
    have r_f_830 : ∀ j : Nat, j < 16 → f_830 j = 0 → 0 ≤ (f_828 j).toInt ∧ (f_828 j).toInt ≤ 3 := by rw [ef_830, ef_828]; exact rel_upd (x := p1) (s := vp_nar .boolean p2) (by assumption) (fun h0 => by rw [zb_nar (by omega)] at h0; first | exact hk0 h0 | (rw [ep1]; exact (show ∀ j : Nat, j < 16 → f_825 j = 0 → 0 ≤ (f_824 j).toInt ∧ (f_824 j).toInt ≤ 3 by assumption) _ (by have q := ti_cl (x := x_822) rfl (by omega); omega) (ep2 ▸ h0)))
    refine lv_aload_n hx hb dX0_keep_43 rfl (lv_at hl 0 rfl) ?_
    refine lv_dup hx hb dX0_keep_44 rfl ?_
    refine va_get (D := (dC, dI)) (ci := 0) (v := .int x_822) (C := RX0) (T := TX0) (N := 4) hx hb hts inX0 hown hK hP 0 rfl rfl 0 (by decide) (hts _ wd_374) (fun _ h9 => h9) rfl dX0_keep_45 ?_
    refine lv_iconst (v := 1) hx hb dX0_keep_48 (by decide) ?_
    refine lv_iadd hx hb dX0_keep_49 ?_
    refine lv_topi (fun x_831 ex_831 => ?_)
    have vx_831 : x_831.toInt = x_822.toInt + 1 := by have q := ti_add ex_831 rfl kc_1 (by omega) (by omega); omega
    refine va_put (D := (dC, dI)) (ci := 0) (v := .int x_831) (ty := .int) (C := RX0) (T := TX0) (N := 4) hx hb hts inX0 tyX0 tyX0_ok nmX0 hown hK hP hD hS 0 rfl rfl 0 (by decide) (hts _ wd_374) (fun _ h9 => h9) rfl (by decide +kernel) rfl rfl (Nat.le_of_ble_eq_true rfl) dX0_keep_50 (fun H locs hP hD hS => ?_)
    have hP : va_P (dC, dI) vwCl [(oA, .inr (0, [.int x_831, .ref rA_nodes, .ref rA_olds, .ref rA_says])), (rA_nodes, .inl (kA_nodes, 16, .inl f_826)), (rA_olds, .inl (kA_olds, 16, .inl f_828)), (rA_says, .inl (kA_says, 16, .inl f_830))] H := hP
    have hD : va_D A [(oA, .inr (0, [.int x_831, .ref rA_nodes, .ref rA_olds, .ref rA_says])), (rA_nodes, .inl (kA_nodes, 16, .inl f_826)), (rA_olds, .inl (kA_olds, 16, .inl f_828)), (rA_says, .inl (kA_says, 16, .inl f_830))] := hD
    have hP9 := hP.sub (ws' := [(oA, .inr (0, [.int x_831, .ref rA_nodes, .ref rA_olds, .ref rA_says])), (rA_nodes, .inl (kA_nodes, 16, .inl f_826)), (rA_olds, .inl (kA_olds, 16, .inl f_828)), (rA_says, .inl (kA_says, 16, .inl f_830))]) [0, 1, 2, 3] rfl
    have hD9 := hD.sub (ws' := [(oA, .inr (0, [.int x_831, .ref rA_nodes, .ref rA_olds, .ref rA_says])), (rA_nodes, .inl (kA_nodes, 16, .inl f_826)), (rA_olds, .inl (kA_olds, 16, .inl f_828)), (rA_says, .inl (kA_says, 16, .inl f_830))]) [0, 1, 2, 3] (by decide) rfl
    have hK9 := hK.sub (tys' := [(kA_nodes, .int), (kA_olds, .int), (kA_says, .boolean)]) [0, 1, 2] rfl
    exact W.vret hx hb hr (fun t ht hW => ⟨⟨0, rfl, trivial, ⟨x_831, f_826, f_828, f_830, (by have q := vx_831; omega), a_f_826, a_f_830, (by first | omega | decide | assumption), Bw.to hP9 hD9 hK9 ht hW⟩⟩, hS.F ht⟩) hS.2.2 dX0_keep_53
set_option maxHeartbeats 4000000 in
set_option maxRecDepth 100000 in
theorem tX0_takeBack (l : Launch) (dC : Nat → ClassId) (dI : Nat → Nat → Nat) (sz : Nat) (oA : Nat) (iA_count : Int32) (rA_nodes : Nat) (fA_nodes : Nat → Int32) (kA_nodes : ClassId) (rA_olds : Nat) (fA_olds : Nat → Int32) (kA_olds : ClassId) (rA_says : Nat) (fA_says : Nat → Int32) (kA_says : ClassId) (oS : Nat) (rS_worths : Nat) (fS_worths : Nat → Int32) (kS_worths : ClassId) (rS_order : Nat) (fS_order : Nat → Int32) (kS_order : ClassId) (rS_left : Nat) (b_iA_count : 0 ≤ iA_count.toInt ∧ iA_count.toInt ≤ 16) (a_fA_nodes : ∀ j : Nat, j < 16 → 0 ≤ (fA_nodes j).toInt ∧ (fA_nodes j).toInt ≤ 17) (a_fA_says : ∀ j : Nat, j < 16 → 0 ≤ (fA_says j).toInt ∧ (fA_says j).toInt ≤ 1) (a_fS_order : ∀ j : Nat, j < 72 → 0 ≤ (fS_order j).toInt ∧ (fS_order j).toInt ≤ 3) (r_A : ∀ j : Nat, j < 16 → fA_says j = 0 → 0 ≤ (fA_olds j).toInt ∧ (fA_olds j).toInt ≤ 3)  : Met l yX0_takeBack (Cond.code yX0_takeBack cX0_takeBack 2 (some .boolean) :: wG) ({ frames := 1, cells := 0, slots := 0, locals := 25 }) (va_Pc [.ref oA, .ref oS] (Pw dC dI sz [(oA, .inr (0, [.int iA_count, .ref rA_nodes, .ref rA_olds, .ref rA_says])), (rA_nodes, .inl (kA_nodes, 16, .inl fA_nodes)), (rA_olds, .inl (kA_olds, 16, .inl fA_olds)), (rA_says, .inl (kA_says, 16, .inl fA_says)), (oS, .inr (5, [.ref rS_worths, .ref rS_order, .ref rS_left])), (rS_worths, .inl (kS_worths, 18, .inl fS_worths)), (rS_order, .inl (kS_order, 72, .inl fS_order))] [(kA_nodes, .int), (kA_olds, .int), (kA_says, .boolean), (kS_worths, .int), (kS_order, .int)])) (va_Qi (fun (r : Int32) (_ : Nat) => (r = 0 ∨ r = 1) ∧ True) (fun (_ : Nat) (t : State) => ∃ (niA_count : Int32) (nfS_worths : Nat → Int32) (nfS_order : Nat → Int32), (0 ≤ niA_count.toInt ∧ niA_count.toInt ≤ 16) ∧ (∀ j : Nat, j < 72 → 0 ≤ (nfS_order j).toInt ∧ (nfS_order j).toInt ≤ 3) ∧ Bw dC dI (va_A [(oA, .inr (0, [.int iA_count, .ref rA_nodes, .ref rA_olds, .ref rA_says])), (rA_nodes, .inl (kA_nodes, 16, .inl fA_nodes)), (rA_olds, .inl (kA_olds, 16, .inl fA_olds)), (rA_says, .inl (kA_says, 16, .inl fA_says)), (oS, .inr (5, [.ref rS_worths, .ref rS_order, .ref rS_left])), (rS_worths, .inl (kS_worths, 18, .inl fS_worths)), (rS_order, .inl (kS_order, 72, .inl fS_order))] sz) [(oA, .inr (0, [.int niA_count, .ref rA_nodes, .ref rA_olds, .ref rA_says])), (rA_nodes, .inl (kA_nodes, 16, .inl fA_nodes)), (rA_olds, .inl (kA_olds, 16, .inl fA_olds)), (rA_says, .inl (kA_says, 16, .inl fA_says)), (oS, .inr (5, [.ref rS_worths, .ref rS_order, .ref rS_left])), (rS_worths, .inl (kS_worths, 18, .inl nfS_worths)), (rS_order, .inl (kS_order, 72, .inl nfS_order))] [(kA_nodes, .int), (kA_olds, .int), (kA_says, .boolean), (kS_worths, .int), (kS_order, .int)] t) (va_A [(oA, .inr (0, [.int iA_count, .ref rA_nodes, .ref rA_olds, .ref rA_says])), (rA_nodes, .inl (kA_nodes, 16, .inl fA_nodes)), (rA_olds, .inl (kA_olds, 16, .inl fA_olds)), (rA_says, .inl (kA_says, 16, .inl fA_says)), (oS, .inr (5, [.ref rS_worths, .ref rS_order, .ref rS_left])), (rS_worths, .inl (kS_worths, 18, .inl fS_worths)), (rS_order, .inl (kS_order, 72, .inl fS_order))] sz)) 0 0 (va_A [(oA, .inr (0, [.int iA_count, .ref rA_nodes, .ref rA_olds, .ref rA_says])), (rA_nodes, .inl (kA_nodes, 16, .inl fA_nodes)), (rA_olds, .inl (kA_olds, 16, .inl fA_olds)), (rA_says, .inl (kA_says, 16, .inl fA_says)), (oS, .inr (5, [.ref rS_worths, .ref rS_order, .ref rS_left])), (rS_worths, .inl (kS_worths, 18, .inl fS_worths)), (rS_order, .inl (kS_order, 72, .inl fS_order))] sz) := by
  refine Met.ofW (cc := cX0_takeBack) (maxL := 2) (ret := (some .boolean)) (by decide) rfl ?_
  intro p e s m args below meth c s₁ B hml hv
  obtain ⟨rfl, hsz, hP, hK, hD0, hE⟩ := hv
  have hx := B.exec
  have hb := B.bytes
  have hr := B.returns
  have hts : ∀ w ∈ wG, w.before ([.ref oA, .ref oS] : List Value).toArray s = true := fun w h => atoms_spec (ws := Cond.code yX0_takeBack cX0_takeBack 2 (some .boolean) :: wG) B.pre w (List.mem_cons_of_mem _ h)
  have hown : s.vm.findClass RX0 = some m.cls := findClass_of_methodNamed B.named
  have hlocks := B.notSynchronized
  subst hsz
  have hD := hD0.self (sz := s.heap.size)
  generalize hAe : va_A [(oA, .inr (0, [.int iA_count, .ref rA_nodes, .ref rA_olds, .ref rA_says])), (rA_nodes, .inl (kA_nodes, 16, .inl fA_nodes)), (rA_olds, .inl (kA_olds, 16, .inl fA_olds)), (rA_says, .inl (kA_says, 16, .inl fA_says)), (oS, .inr (5, [.ref rS_worths, .ref rS_order, .ref rS_left])), (rS_worths, .inl (kS_worths, 18, .inl fS_worths)), (rS_order, .inl (kS_order, 72, .inl fS_order))] s.heap.size = A at hD hE ⊢
  have hA : ∀ q : Nat, s.heap.size ≤ q → A q := fun q h => by rw [← hAe]; exact Or.inr h
  have hS : va_S A s.heap s.heap [] := va_S.rf
  have hl := lv_entry ([.ref oA, .ref oS]) (n := 2) (Nat.le_of_ble_eq_true rfl)
  rw [lg_entry_eq]
  generalize (lg_sl ([.ref oA, .ref oS]) ++ List.replicate (2 - (lg_sl ([.ref oA, .ref oS])).length) Slot.unset).toArray = ls at hl ⊢
  have hl : lv_has ls 2 [(0, .ref oA), (1, .ref oS)] := hl
  refine lv_aload_n hx hb dX0_takeBack_0 rfl (lv_at hl 0 rfl) ?_
  refine va_get (D := (dC, dI)) (ci := 0) (v := .int iA_count) (C := RX0) (T := TX0) (N := 4) hx hb hts inX0 hown hK hP 0 rfl rfl 0 (by decide) (hts _ wd_374) (fun _ h9 => h9) rfl dX0_takeBack_1 ?_
  have rg_iA_count := fb_rng iA_count
  refine lv_if_ne (tgt := 9) hx hb dX0_takeBack_4 (by decide) (fun c_842 => ?_) (fun c_842 => ?_)
  · skip
    have gc_842 := ti_ne c_842 rfl kc_0
    refine lv_aload_n hx hb dX0_takeBack_9 rfl (lv_at hl 0 rfl) ?_
    refine lv_dup hx hb dX0_takeBack_10 rfl ?_
    refine va_get (D := (dC, dI)) (ci := 0) (v := .int iA_count) (C := RX0) (T := TX0) (N := 4) hx hb hts inX0 hown hK hP 0 rfl rfl 0 (by decide) (hts _ wd_374) (fun _ h9 => h9) rfl dX0_takeBack_11 ?_
    refine lv_iconst (v := 1) hx hb dX0_takeBack_14 (by decide) ?_
    refine lv_isub hx hb dX0_takeBack_15 ?_
    refine lv_topi (fun x_843 ex_843 => ?_)
    have vx_843 : x_843.toInt = iA_count.toInt + (-1) := by have q := ti_sub ex_843 rfl kc_1 (by omega) (by omega); omega
    refine va_put (D := (dC, dI)) (ci := 0) (v := .int x_843) (ty := .int) (C := RX0) (T := TX0) (N := 4) hx hb hts inX0 tyX0 tyX0_ok nmX0 hown hK hP hD hS 0 rfl rfl 0 (by decide) (hts _ wd_374) (fun _ h9 => h9) rfl (by decide +kernel) rfl rfl (Nat.le_of_ble_eq_true rfl) dX0_takeBack_16 (fun H locs hP hD hS => ?_)
    have hP : va_P (dC, dI) vwCl [(oA, .inr (0, [.int x_843, .ref rA_nodes, .ref rA_olds, .ref rA_says])), (rA_nodes, .inl (kA_nodes, 16, .inl fA_nodes)), (rA_olds, .inl (kA_olds, 16, .inl fA_olds)), (rA_says, .inl (kA_says, 16, .inl fA_says)), (oS, .inr (5, [.ref rS_worths, .ref rS_order, .ref rS_left])), (rS_worths, .inl (kS_worths, 18, .inl fS_worths)), (rS_order, .inl (kS_order, 72, .inl fS_order))] H := hP
    have hD : va_D A [(oA, .inr (0, [.int x_843, .ref rA_nodes, .ref rA_olds, .ref rA_says])), (rA_nodes, .inl (kA_nodes, 16, .inl fA_nodes)), (rA_olds, .inl (kA_olds, 16, .inl fA_olds)), (rA_says, .inl (kA_says, 16, .inl fA_says)), (oS, .inr (5, [.ref rS_worths, .ref rS_order, .ref rS_left])), (rS_worths, .inl (kS_worths, 18, .inl fS_worths)), (rS_order, .inl (kS_order, 72, .inl fS_order))] := hD
    refine lv_aload_n hx hb dX0_takeBack_19 rfl (lv_at hl 0 rfl) ?_
    refine va_get (D := (dC, dI)) (ci := 0) (v := .ref rA_says) (C := RX0) (T := TX0) (N := 4) hx hb hts inX0 hown hK hP 0 rfl rfl 3 (by decide) (hts _ wd_137) (fun _ h9 => h9) rfl dX0_takeBack_20 ?_
    refine lv_aload_n hx hb dX0_takeBack_23 rfl (lv_at hl 0 rfl) ?_
    refine va_get (D := (dC, dI)) (ci := 0) (v := .int x_843) (C := RX0) (T := TX0) (N := 4) hx hb hts inX0 hown hK hP 0 rfl rfl 0 (by decide) (hts _ wd_374) (fun _ h9 => h9) rfl dX0_takeBack_24 ?_
    refine va_zald hx hb hK hP 3 2 rfl rfl (ti_in vx_843 (by omega) (by omega)) dX0_takeBack_27 ?_
    refine lv_topi (fun x_844 ex_844 => ?_)
    have rg_x_844 := fb_rng x_844
    have kx_844 : (fA_says x_843.toNatClampNeg).toInt = x_844.toInt := by rw [ex_844]
    have ux_844 := a_fA_says _ (by have q := ti_cl (x := x_843) vx_843 (by omega); omega : x_843.toNatClampNeg < 16)
    rw [show fA_says x_843.toNatClampNeg = x_844 from ex_844.symm] at ux_844
    refine lv_if_eq (tgt := 57) hx hb dX0_takeBack_28 (by decide) (fun c_845 => ?_) (fun c_845 => ?_)
    · skip
      have gc_845 := ti_eq c_845 rfl kc_0
      refine lv_aload_n hx hb dX0_takeBack_57 rfl (lv_at hl 1 rfl) ?_
      refine lv_aload_n hx hb dX0_takeBack_58 rfl (lv_at hl 0 rfl) ?_
      refine va_get (D := (dC, dI)) (ci := 0) (v := .ref rA_nodes) (C := RX0) (T := TX0) (N := 4) hx hb hts inX0 hown hK hP 0 rfl rfl 1 (by decide) (hts _ wd_134) (fun _ h9 => h9) rfl dX0_takeBack_59 ?_
      refine lv_aload_n hx hb dX0_takeBack_62 rfl (lv_at hl 0 rfl) ?_
      refine va_get (D := (dC, dI)) (ci := 0) (v := .int x_843) (C := RX0) (T := TX0) (N := 4) hx hb hts inX0 hown hK hP 0 rfl rfl 0 (by decide) (hts _ wd_374) (fun _ h9 => h9) rfl dX0_takeBack_63 ?_
      refine va_iald hx hb hK hP 1 0 rfl rfl (ti_in vx_843 (by omega) (by omega)) dX0_takeBack_66 ?_
      refine lv_topi (fun x_846 ex_846 => ?_)
      have rg_x_846 := fb_rng x_846
      have kx_846 : (fA_nodes x_843.toNatClampNeg).toInt = x_846.toInt := by rw [ex_846]
      have ux_846 := a_fA_nodes _ (by have q := ti_cl (x := x_843) vx_843 (by omega); omega : x_843.toNatClampNeg < 16)
      rw [show fA_nodes x_843.toNatClampNeg = x_846 from ex_846.symm] at ux_846
      refine lv_aload_n hx hb dX0_takeBack_67 rfl (lv_at hl 0 rfl) ?_
      refine va_get (D := (dC, dI)) (ci := 0) (v := .ref rA_olds) (C := RX0) (T := TX0) (N := 4) hx hb hts inX0 hown hK hP 0 rfl rfl 2 (by decide) (hts _ wd_135) (fun _ h9 => h9) rfl dX0_takeBack_68 ?_
      refine lv_aload_n hx hb dX0_takeBack_71 rfl (lv_at hl 0 rfl) ?_
      refine va_get (D := (dC, dI)) (ci := 0) (v := .int x_843) (C := RX0) (T := TX0) (N := 4) hx hb hts inX0 hown hK hP 0 rfl rfl 0 (by decide) (hts _ wd_374) (fun _ h9 => h9) rfl dX0_takeBack_72 ?_
      refine va_iald hx hb hK hP 2 1 rfl rfl (ti_in vx_843 (by omega) (by omega)) dX0_takeBack_75 ?_
      refine lv_topi (fun x_847 ex_847 => ?_)
      have rg_x_847 := fb_rng x_847
      have kx_847 : (fA_olds x_843.toNatClampNeg).toInt = x_847.toInt := by rw [ex_847]
      have o_x_847 : (fA_says x_843.toNatClampNeg).toInt = 0 → 0 ≤ x_847.toInt ∧ x_847.toInt ≤ 3 := fun h9 => by rw [ex_847]; exact (show ∀ j : Nat, j < 16 → fA_says j = 0 → 0 ≤ (fA_olds j).toInt ∧ (fA_olds j).toInt ≤ 3 by assumption) _ (by have q := ti_cl (x := x_843) vx_843 (by omega); omega) (by rw [fz_eq, h9]; exact kc_0.symm)
      have hPc := hP.sub (ws' := [(oS, .inr (5, [.ref rS_worths, .ref rS_order, .ref rS_left])), (rS_order, .inl (kS_order, 72, .inl fS_order))]) [4, 6] rfl
      have hDc := hD.sub (ws' := [(oS, .inr (5, [.ref rS_worths, .ref rS_order, .ref rS_left])), (rS_order, .inl (kS_order, 72, .inl fS_order))]) [4, 6] (by decide) rfl
      have hKc := hK.sub (tys' := [(kS_order, .int)]) [4] rfl
      have hFc := va_free (wc := [(oS, .inr (5, [.ref rS_worths, .ref rS_order, .ref rS_left])), (rS_order, .inl (kS_order, 72, .inl fS_order))]) hD hS hA [4, 6] rfl
      refine va_callv (va_runV (As := [.int x_846, .int x_847]) (rest := []) ⟨hx, hb, hml, hown, hts⟩ (tX5_sendBack l dC dI _ oS rS_worths rS_order fS_order kS_order rS_left x_846 x_847 a_fS_order (by first | omega | decide | assumption | (have q0 := kc_0; have q1 := kc_1; omega) | (intro h; exact absurd h (by decide))) (by first | omega | decide | assumption | (have q0 := kc_0; have q1 := kc_1; omega) | (intro h; exact absurd h (by decide)))) (cwV 2 hts (wd_V wd_1403 wd_1404 wd_1405 wd_23 (wd_c wd_1406)) rfl rfl rfl (by decide +kernel) ⟨Nat.le_of_ble_eq_true rfl, Nat.le_of_ble_eq_true rfl⟩) ⟨Pw.fb, va_recv hKc hPc (ci := 5) (q0 := 0) rfl rfl, fun U hU hW => Pw.to hPc hDc hKc hE hS hFc hU hW⟩ rfl rfl hl.1 rfl (lv_room (Nat.le_of_ble_eq_true rfl)) dX0_takeBack_76 ⟨Nat.le_of_ble_eq_true rfl, Nat.le_of_ble_eq_true rfl⟩) hS (fun q _ h => hFc q h) hFc (fun u t H locs ht hvm hw hB hz1 hk1 hS => ?_)
      obtain ⟨f_848, a_f_848, hB⟩ := hB
      obtain ⟨hP, hD, hK⟩ := Bw.back (wc := [(oS, .inr (5, [.ref rS_worths, .ref rS_order, .ref rS_left])), (rS_order, .inl (kS_order, 72, .inl fS_order))]) (wr := [(oA, .inr (0, [.int x_843, .ref rA_nodes, .ref rA_olds, .ref rA_says])), (rA_nodes, .inl (kA_nodes, 16, .inl fA_nodes)), (rA_olds, .inl (kA_olds, 16, .inl fA_olds)), (rA_says, .inl (kA_says, 16, .inl fA_says)), (rS_worths, .inl (kS_worths, 18, .inl fS_worths))]) (tyr := [(kA_nodes, .int), (kA_olds, .int), (kA_says, .boolean), (kS_worths, .int)]) hB rfl ht hvm hP hD hK [4, 6] [0, 1, 2, 3, 5] rfl rfl (by decide) (by decide) [0, 1, 2, 3] rfl hk1 hFc
      have hP : va_P (dC, dI) vwCl [(oA, .inr (0, [.int x_843, .ref rA_nodes, .ref rA_olds, .ref rA_says])), (rA_nodes, .inl (kA_nodes, 16, .inl fA_nodes)), (rA_olds, .inl (kA_olds, 16, .inl fA_olds)), (rA_says, .inl (kA_says, 16, .inl fA_says)), (rS_worths, .inl (kS_worths, 18, .inl fS_worths)), (oS, .inr (5, [.ref rS_worths, .ref rS_order, .ref rS_left])), (rS_order, .inl (kS_order, 72, .inl f_848))] H := hP
      have hD : va_D A [(oA, .inr (0, [.int x_843, .ref rA_nodes, .ref rA_olds, .ref rA_says])), (rA_nodes, .inl (kA_nodes, 16, .inl fA_nodes)), (rA_olds, .inl (kA_olds, 16, .inl fA_olds)), (rA_says, .inl (kA_says, 16, .inl fA_says)), (rS_worths, .inl (kS_worths, 18, .inl fS_worths)), (oS, .inr (5, [.ref rS_worths, .ref rS_order, .ref rS_left])), (rS_order, .inl (kS_order, 72, .inl f_848))] := hD
      have hK : va_K (dC, dI) vwCl [(kA_nodes, .int), (kA_olds, .int), (kA_says, .boolean), (kS_worths, .int), (kS_order, .int)] s := hK
      refine lv_iconst (v := 1) hx hb dX0_takeBack_79 (by decide) ?_
      have hP9 := hP.sub (ws' := [(oA, .inr (0, [.int x_843, .ref rA_nodes, .ref rA_olds, .ref rA_says])), (rA_nodes, .inl (kA_nodes, 16, .inl fA_nodes)), (rA_olds, .inl (kA_olds, 16, .inl fA_olds)), (rA_says, .inl (kA_says, 16, .inl fA_says)), (oS, .inr (5, [.ref rS_worths, .ref rS_order, .ref rS_left])), (rS_worths, .inl (kS_worths, 18, .inl fS_worths)), (rS_order, .inl (kS_order, 72, .inl f_848))]) [0, 1, 2, 3, 5, 4, 6] rfl
      have hD9 := hD.sub (ws' := [(oA, .inr (0, [.int x_843, .ref rA_nodes, .ref rA_olds, .ref rA_says])), (rA_nodes, .inl (kA_nodes, 16, .inl fA_nodes)), (rA_olds, .inl (kA_olds, 16, .inl fA_olds)), (rA_says, .inl (kA_says, 16, .inl fA_says)), (oS, .inr (5, [.ref rS_worths, .ref rS_order, .ref rS_left])), (rS_worths, .inl (kS_worths, 18, .inl fS_worths)), (rS_order, .inl (kS_order, 72, .inl f_848))]) [0, 1, 2, 3, 5, 4, 6] (by decide) rfl
      have hK9 := hK.sub (tys' := [(kA_nodes, .int), (kA_olds, .int), (kA_says, .boolean), (kS_worths, .int), (kS_order, .int)]) [0, 1, 2, 3, 4] rfl
      exact W.zret (v := 1) hx hb hr rfl (fun t ht hW => ⟨⟨_, 0, rfl, ⟨Or.inr rfl, trivial⟩, ⟨x_843, fS_worths, f_848, (by have q := vx_843; omega), a_f_848, Bw.to hP9 hD9 hK9 ht hW⟩⟩, hS.F ht⟩) hS.2.2 dX0_takeBack_80
    · skip
      have gc_845 := ti_ne c_845 rfl kc_0
      refine lv_aload_n hx hb dX0_takeBack_31 rfl (lv_at hl 1 rfl) ?_
      refine va_get (D := (dC, dI)) (ci := 5) (v := .ref rS_worths) (C := RX5) (T := TX5) (N := 3) hx hb hts inX5 hown hK hP 4 rfl rfl 0 (by decide) (hts _ wd_1402) (fun _ h9 => h9) rfl dX0_takeBack_32 ?_
      refine lv_aload_n hx hb dX0_takeBack_35 rfl (lv_at hl 0 rfl) ?_
      refine va_get (D := (dC, dI)) (ci := 0) (v := .ref rA_nodes) (C := RX0) (T := TX0) (N := 4) hx hb hts inX0 hown hK hP 0 rfl rfl 1 (by decide) (hts _ wd_134) (fun _ h9 => h9) rfl dX0_takeBack_36 ?_
      refine lv_aload_n hx hb dX0_takeBack_39 rfl (lv_at hl 0 rfl) ?_
      refine va_get (D := (dC, dI)) (ci := 0) (v := .int x_843) (C := RX0) (T := TX0) (N := 4) hx hb hts inX0 hown hK hP 0 rfl rfl 0 (by decide) (hts _ wd_374) (fun _ h9 => h9) rfl dX0_takeBack_40 ?_
      refine va_iald hx hb hK hP 1 0 rfl rfl (ti_in vx_843 (by omega) (by omega)) dX0_takeBack_43 ?_
      refine lv_topi (fun x_849 ex_849 => ?_)
      have rg_x_849 := fb_rng x_849
      have kx_849 : (fA_nodes x_843.toNatClampNeg).toInt = x_849.toInt := by rw [ex_849]
      have ux_849 := a_fA_nodes _ (by have q := ti_cl (x := x_843) vx_843 (by omega); omega : x_843.toNatClampNeg < 16)
      rw [show fA_nodes x_843.toNatClampNeg = x_849 from ex_849.symm] at ux_849
      refine lv_aload_n hx hb dX0_takeBack_44 rfl (lv_at hl 0 rfl) ?_
      refine va_get (D := (dC, dI)) (ci := 0) (v := .ref rA_olds) (C := RX0) (T := TX0) (N := 4) hx hb hts inX0 hown hK hP 0 rfl rfl 2 (by decide) (hts _ wd_135) (fun _ h9 => h9) rfl dX0_takeBack_45 ?_
      refine lv_aload_n hx hb dX0_takeBack_48 rfl (lv_at hl 0 rfl) ?_
      refine va_get (D := (dC, dI)) (ci := 0) (v := .int x_843) (C := RX0) (T := TX0) (N := 4) hx hb hts inX0 hown hK hP 0 rfl rfl 0 (by decide) (hts _ wd_374) (fun _ h9 => h9) rfl dX0_takeBack_49 ?_
      refine va_iald hx hb hK hP 2 1 rfl rfl (ti_in vx_843 (by omega) (by omega)) dX0_takeBack_52 ?_
      refine lv_topi (fun x_850 ex_850 => ?_)
      have rg_x_850 := fb_rng x_850
      have kx_850 : (fA_olds x_843.toNatClampNeg).toInt = x_850.toInt := by rw [ex_850]
      have o_x_850 : (fA_says x_843.toNatClampNeg).toInt = 0 → 0 ≤ x_850.toInt ∧ x_850.toInt ≤ 3 := fun h9 => by rw [ex_850]; exact (show ∀ j : Nat, j < 16 → fA_says j = 0 → 0 ≤ (fA_olds j).toInt ∧ (fA_olds j).toInt ≤ 3 by assumption) _ (by have q := ti_cl (x := x_843) vx_843 (by omega); omega) (by rw [fz_eq, h9]; exact kc_0.symm)
      refine vz_iast hx hb hK hP hD hS 5 3 rfl rfl (ti_in rfl (by omega) (by omega)) dX0_takeBack_53 (fun H locs f_851 hP hD hS => ?_)
      have hP : va_P (dC, dI) vwCl [(oA, .inr (0, [.int x_843, .ref rA_nodes, .ref rA_olds, .ref rA_says])), (rA_nodes, .inl (kA_nodes, 16, .inl fA_nodes)), (rA_olds, .inl (kA_olds, 16, .inl fA_olds)), (rA_says, .inl (kA_says, 16, .inl fA_says)), (oS, .inr (5, [.ref rS_worths, .ref rS_order, .ref rS_left])), (rS_worths, .inl (kS_worths, 18, .inl f_851)), (rS_order, .inl (kS_order, 72, .inl fS_order))] H := hP
      have hD : va_D A [(oA, .inr (0, [.int x_843, .ref rA_nodes, .ref rA_olds, .ref rA_says])), (rA_nodes, .inl (kA_nodes, 16, .inl fA_nodes)), (rA_olds, .inl (kA_olds, 16, .inl fA_olds)), (rA_says, .inl (kA_says, 16, .inl fA_says)), (oS, .inr (5, [.ref rS_worths, .ref rS_order, .ref rS_left])), (rS_worths, .inl (kS_worths, 18, .inl f_851)), (rS_order, .inl (kS_order, 72, .inl fS_order))] := hD
      refine lv_goto (tgt := 79) hx hb dX0_takeBack_54 (by decide) ?_
      refine lv_iconst (v := 1) hx hb dX0_takeBack_79 (by decide) ?_
      have hP9 := hP.sub (ws' := [(oA, .inr (0, [.int x_843, .ref rA_nodes, .ref rA_olds, .ref rA_says])), (rA_nodes, .inl (kA_nodes, 16, .inl fA_nodes)), (rA_olds, .inl (kA_olds, 16, .inl fA_olds)), (rA_says, .inl (kA_says, 16, .inl fA_says)), (oS, .inr (5, [.ref rS_worths, .ref rS_order, .ref rS_left])), (rS_worths, .inl (kS_worths, 18, .inl f_851)), (rS_order, .inl (kS_order, 72, .inl fS_order))]) [0, 1, 2, 3, 4, 5, 6] rfl
      have hD9 := hD.sub (ws' := [(oA, .inr (0, [.int x_843, .ref rA_nodes, .ref rA_olds, .ref rA_says])), (rA_nodes, .inl (kA_nodes, 16, .inl fA_nodes)), (rA_olds, .inl (kA_olds, 16, .inl fA_olds)), (rA_says, .inl (kA_says, 16, .inl fA_says)), (oS, .inr (5, [.ref rS_worths, .ref rS_order, .ref rS_left])), (rS_worths, .inl (kS_worths, 18, .inl f_851)), (rS_order, .inl (kS_order, 72, .inl fS_order))]) [0, 1, 2, 3, 4, 5, 6] (by decide) rfl
      have hK9 := hK.sub (tys' := [(kA_nodes, .int), (kA_olds, .int), (kA_says, .boolean), (kS_worths, .int), (kS_order, .int)]) [0, 1, 2, 3, 4] rfl
      exact W.zret (v := 1) hx hb hr rfl (fun t ht hW => ⟨⟨_, 0, rfl, ⟨Or.inr rfl, trivial⟩, ⟨x_843, f_851, fS_order, (by have q := vx_843; omega), a_fS_order, Bw.to hP9 hD9 hK9 ht hW⟩⟩, hS.F ht⟩) hS.2.2 dX0_takeBack_80
  · skip
    have gc_842 := ti_eq c_842 rfl kc_0
    refine lv_iconst (v := 0) hx hb dX0_takeBack_7 (by decide) ?_
    have hP9 := hP.sub (ws' := [(oA, .inr (0, [.int iA_count, .ref rA_nodes, .ref rA_olds, .ref rA_says])), (rA_nodes, .inl (kA_nodes, 16, .inl fA_nodes)), (rA_olds, .inl (kA_olds, 16, .inl fA_olds)), (rA_says, .inl (kA_says, 16, .inl fA_says)), (oS, .inr (5, [.ref rS_worths, .ref rS_order, .ref rS_left])), (rS_worths, .inl (kS_worths, 18, .inl fS_worths)), (rS_order, .inl (kS_order, 72, .inl fS_order))]) [0, 1, 2, 3, 4, 5, 6] rfl
    have hD9 := hD.sub (ws' := [(oA, .inr (0, [.int iA_count, .ref rA_nodes, .ref rA_olds, .ref rA_says])), (rA_nodes, .inl (kA_nodes, 16, .inl fA_nodes)), (rA_olds, .inl (kA_olds, 16, .inl fA_olds)), (rA_says, .inl (kA_says, 16, .inl fA_says)), (oS, .inr (5, [.ref rS_worths, .ref rS_order, .ref rS_left])), (rS_worths, .inl (kS_worths, 18, .inl fS_worths)), (rS_order, .inl (kS_order, 72, .inl fS_order))]) [0, 1, 2, 3, 4, 5, 6] (by decide) rfl
    have hK9 := hK.sub (tys' := [(kA_nodes, .int), (kA_olds, .int), (kA_says, .boolean), (kS_worths, .int), (kS_order, .int)]) [0, 1, 2, 3, 4] rfl
    exact W.zret (v := 0) hx hb hr rfl (fun t ht hW => ⟨⟨_, 0, rfl, ⟨Or.inl rfl, trivial⟩, ⟨iA_count, fS_worths, fS_order, (by omega), a_fS_order, Bw.to hP9 hD9 hK9 ht hW⟩⟩, hS.F ht⟩) hS.2.2 dX0_takeBack_8
