set_option maxHeartbeats 4000000 in
set_option maxRecDepth 100000 in
theorem tX0_forget (l : Launch) (dC : Nat → ClassId) (dI : Nat → Nat → Nat) (sz : Nat) (oA : Nat) (iA_count : Int32) (rA_nodes : Nat) (rA_olds : Nat) (rA_says : Nat) (b_iA_count : 0 ≤ iA_count.toInt ∧ iA_count.toInt ≤ 16)  : Met l yX0_forget (Cond.code yX0_forget cX0_forget 1 none :: wG) ({ frames := 0, cells := 0, slots := 0, locals := 0 }) (va_Pc [.ref oA] (Pw dC dI sz [(oc0 oA iA_count rA_nodes rA_olds rA_says)] [])) (va_Qv (fun (_ : Nat) => True) (fun (_ : Nat) (t : State) => ∃ (niA_count : Int32), (0 ≤ niA_count.toInt ∧ niA_count.toInt ≤ 0) ∧ (PX0_forget = niA_count) ∧ Bw dC dI (va_A [(oc0 oA iA_count rA_nodes rA_olds rA_says)] sz) [(oc0 oA niA_count rA_nodes rA_olds rA_says)] [] t) (va_A [(oc0 oA iA_count rA_nodes rA_olds rA_says)] sz)) 0 0 (va_A [(oc0 oA iA_count rA_nodes rA_olds rA_says)] sz) := by
  refine Met.ofW (cc := cX0_forget) (maxL := 1) (ret := none) pnX0 rfl ?_
  intro p e s m args below meth c s₁ B hml hv
  obtain ⟨rfl, hsz, hP, hK, hD0, hE⟩ := hv
  have hx := B.exec
  have hb := B.bytes
  have hr := B.returns
  have hts : ∀ w ∈ wG, w.before ([.ref oA] : List Value).toArray s = true := fun w h => atoms_spec (ws := Cond.code yX0_forget cX0_forget 1 none :: wG) B.pre w (List.mem_cons_of_mem _ h)
  have hown : s.vm.findClass RX0 = some m.cls := own_of B.named rfl
  have hlocks := B.notSynchronized
  subst hsz
  have hD := hD0.self (sz := s.heap.size)
  generalize hAe : va_A [(oc0 oA iA_count rA_nodes rA_olds rA_says)] s.heap.size = A at hD hE ⊢
  have hA : ∀ q : Nat, s.heap.size ≤ q → A q := fun q h => by rw [← hAe]; exact Or.inr h
  have hS : va_S A s.heap s.heap [] := va_S.rf
  have hl := lv_entry ([.ref oA]) (n := 1) (Nat.le_of_ble_eq_true rfl)
  rw [lg_entry_eq]
  generalize (lg_sl ([.ref oA]) ++ List.replicate (1 - (lg_sl ([.ref oA])).length) Slot.unset).toArray = ls at hl ⊢
  have hl : lv_has ls 1 [(0, .ref oA)] := hl
  have hG := PX0_forget_eq
  refine lv_aload_n hx hb dX0_forget_0 rfl (lv_at hl 0 rfl) ?_
  refine lv_iconst (v := 0) hx hb dX0_forget_1 (by decide) ?_
  refine va_put (D := (dC, dI)) (ci := 0) (v := .int 0) (ty := .int) (C := RX0) (T := TX0) (N := 4) hx hb hts inX0 tyX0 tyX0_ok nmX0 hown hK hP hD hS 0 rfl rfl 0 (by decide) (hts _ wd_374) (fun _ h9 => h9) rfl (by decide +kernel) rfl rfl (Nat.le_of_ble_eq_true rfl) dX0_forget_2 (fun H locs hP hD hS => ?_)
  obtain ⟨hP, hD⟩ := wl2 (ws' := [(oc0 oA 0 rA_nodes rA_olds rA_says)]) hP hD rfl
  exact wq_v hx hb hr 0 trivial (fun t ht hW => ⟨0, (by decide), hG, Bw.to hP hD hK ht hW⟩) hS dX0_forget_5 hlocks
set_option maxHeartbeats 4000000 in
set_option maxRecDepth 100000 in
theorem tX0_dropOldest (l : Launch) (dC : Nat → ClassId) (dI : Nat → Nat → Nat) (sz : Nat) (oA : Nat) (iA_count : Int32) (rA_nodes : Nat) (fA_nodes : Nat → Int32) (kA_nodes : ClassId) (rA_olds : Nat) (fA_olds : Nat → Int32) (kA_olds : ClassId) (rA_says : Nat) (fA_says : Nat → Int32) (kA_says : ClassId) (b_iA_count : 0 ≤ iA_count.toInt ∧ iA_count.toInt ≤ 16) (a_fA_nodes : ∀ j : Nat, j < 16 → 0 ≤ (fA_nodes j).toInt ∧ (fA_nodes j).toInt ≤ 17) (a_fA_says : ∀ j : Nat, j < 16 → 0 ≤ (fA_says j).toInt ∧ (fA_says j).toInt ≤ 1) (r_A : ∀ j : Nat, j < 16 → fA_says j = 0 → 0 ≤ (fA_olds j).toInt ∧ (fA_olds j).toInt ≤ 3)  : Met l yX0_dropOldest (Cond.code yX0_dropOldest cX0_dropOldest 2 none :: wG) ({ frames := 0, cells := 0, slots := 0, locals := 0 }) (va_Pc [.ref oA] (Pw dC dI sz [(oc0 oA iA_count rA_nodes rA_olds rA_says), (arI rA_nodes kA_nodes 16 fA_nodes), (arI rA_olds kA_olds 16 fA_olds), (arI rA_says kA_says 16 fA_says)] [(kA_nodes, .int), (kA_olds, .int), (kA_says, .boolean)])) (va_Qv (fun (_ : Nat) => True) (fun (_ : Nat) (t : State) => ∃ (niA_count : Int32) (nfA_nodes : Nat → Int32) (nfA_olds : Nat → Int32) (nfA_says : Nat → Int32), (15 ≤ niA_count.toInt ∧ niA_count.toInt ≤ 15) ∧ (∀ j : Nat, j < 16 → 0 ≤ (nfA_nodes j).toInt ∧ (nfA_nodes j).toInt ≤ 17) ∧ (∀ j : Nat, j < 16 → 0 ≤ (nfA_says j).toInt ∧ (nfA_says j).toInt ≤ 1) ∧ (∀ j : Nat, j < 16 → nfA_says j = 0 → 0 ≤ (nfA_olds j).toInt ∧ (nfA_olds j).toInt ≤ 3) ∧ (PX0_dropOldest fA_nodes fA_olds fA_says = (niA_count, nfA_nodes, nfA_olds, nfA_says)) ∧ Bw dC dI (va_A [(oc0 oA iA_count rA_nodes rA_olds rA_says), (arI rA_nodes kA_nodes 16 fA_nodes), (arI rA_olds kA_olds 16 fA_olds), (arI rA_says kA_says 16 fA_says)] sz) [(oc0 oA niA_count rA_nodes rA_olds rA_says), (arI rA_nodes kA_nodes 16 nfA_nodes), (arI rA_olds kA_olds 16 nfA_olds), (arI rA_says kA_says 16 nfA_says)] [(kA_nodes, .int), (kA_olds, .int), (kA_says, .boolean)] t) (va_A [(oc0 oA iA_count rA_nodes rA_olds rA_says), (arI rA_nodes kA_nodes 16 fA_nodes), (arI rA_olds kA_olds 16 fA_olds), (arI rA_says kA_says 16 fA_says)] sz)) 0 0 (va_A [(oc0 oA iA_count rA_nodes rA_olds rA_says), (arI rA_nodes kA_nodes 16 fA_nodes), (arI rA_olds kA_olds 16 fA_olds), (arI rA_says kA_says 16 fA_says)] sz) := by
  refine Met.ofW (cc := cX0_dropOldest) (maxL := 2) (ret := none) pnX0 rfl ?_
  intro p e s m args below meth c s₁ B hml hv
  obtain ⟨rfl, hsz, hP, hK, hD0, hE⟩ := hv
  have hx := B.exec
  have hb := B.bytes
  have hr := B.returns
  have hts : ∀ w ∈ wG, w.before ([.ref oA] : List Value).toArray s = true := fun w h => atoms_spec (ws := Cond.code yX0_dropOldest cX0_dropOldest 2 none :: wG) B.pre w (List.mem_cons_of_mem _ h)
  have hown : s.vm.findClass RX0 = some m.cls := own_of B.named rfl
  have hlocks := B.notSynchronized
  subst hsz
  have hD := hD0.self (sz := s.heap.size)
  generalize hAe : va_A [(oc0 oA iA_count rA_nodes rA_olds rA_says), (arI rA_nodes kA_nodes 16 fA_nodes), (arI rA_olds kA_olds 16 fA_olds), (arI rA_says kA_says 16 fA_says)] s.heap.size = A at hD hE ⊢
  have hA : ∀ q : Nat, s.heap.size ≤ q → A q := fun q h => by rw [← hAe]; exact Or.inr h
  have hS : va_S A s.heap s.heap [] := va_S.rf
  have hl := lv_entry ([.ref oA]) (n := 2) (Nat.le_of_ble_eq_true rfl)
  rw [lg_entry_eq]
  generalize (lg_sl ([.ref oA]) ++ List.replicate (2 - (lg_sl ([.ref oA])).length) Slot.unset).toArray = ls at hl ⊢
  have hl : lv_has ls 2 [(0, .ref oA)] := hl
  have hG := PX0_dropOldest_eq fA_nodes fA_olds fA_says
  refine lv_iconst (v := 1) hx hb dX0_dropOldest_0 (by decide) ?_
  refine lv_istore_n (lv' := [(1, .int 1), (0, .ref oA)]) hx hb dX0_dropOldest_1 rfl hl (by decide) rfl (fun ls hl => ?_)
  have hl := lv_sub hl (l' := [(1, .int 1), (0, .ref oA)]) [0, 1] rfl
  have key_n_793 : ∀ (n_793 : Nat) (z_789 : Int32) (f_790 : Nat → Int32) (f_791 : Nat → Int32) (f_792 : Nat → Int32) (H : Heap) (locs : List Loc) (ls : Array Slot), (∀ j : Nat, j < 16 → 0 ≤ (f_791 j).toInt ∧ (f_791 j).toInt ≤ 1) → (∀ j : Nat, j < 16 → 0 ≤ (f_792 j).toInt ∧ (f_792 j).toInt ≤ 17) → (1 ≤ z_789.toInt ∧ z_789.toInt ≤ 16) → (∀ j : Nat, j < 16 → f_791 j = 0 → 0 ≤ (f_790 j).toInt ∧ (f_790 j).toInt ≤ 3) → (16 - z_789.toInt).toNat < n_793 → (PX0_dropOldest fA_nodes fA_olds fA_says = HX0_dropOldest_0 n_793 z_789 f_790 f_791 f_792) → va_P (dC, dI) vwCl [(oc0 oA iA_count rA_nodes rA_olds rA_says), (arI rA_nodes kA_nodes 16 f_792), (arI rA_olds kA_olds 16 f_790), (arI rA_says kA_says 16 f_791)] H → va_D A [(oc0 oA iA_count rA_nodes rA_olds rA_says), (arI rA_nodes kA_nodes 16 f_792), (arI rA_olds kA_olds 16 f_790), (arI rA_says kA_says 16 f_791)] → va_S A s.heap H locs → lv_has ls 2 [(1, .int z_789), (0, .ref oA)] → W p l e (headSpec (Cond.code yX0_dropOldest cX0_dropOldest 2 none :: wG) ({ frames := 0, cells := 0, slots := 0, locals := 0 })).room s m ([.ref oA] : List Value).toArray below meth c H locs 0 0 (MQ below (va_Qv (fun (_ : Nat) => True) (fun (_ : Nat) (t : State) => ∃ (niA_count : Int32) (nfA_nodes : Nat → Int32) (nfA_olds : Nat → Int32) (nfA_says : Nat → Int32), (15 ≤ niA_count.toInt ∧ niA_count.toInt ≤ 15) ∧ (∀ j : Nat, j < 16 → 0 ≤ (nfA_nodes j).toInt ∧ (nfA_nodes j).toInt ≤ 17) ∧ (∀ j : Nat, j < 16 → 0 ≤ (nfA_says j).toInt ∧ (nfA_says j).toInt ≤ 1) ∧ (∀ j : Nat, j < 16 → nfA_says j = 0 → 0 ≤ (nfA_olds j).toInt ∧ (nfA_olds j).toInt ≤ 3) ∧ (PX0_dropOldest fA_nodes fA_olds fA_says = (niA_count, nfA_nodes, nfA_olds, nfA_says)) ∧ Bw dC dI A [(oc0 oA niA_count rA_nodes rA_olds rA_says), (arI rA_nodes kA_nodes 16 nfA_nodes), (arI rA_olds kA_olds 16 nfA_olds), (arI rA_says kA_says 16 nfA_says)] [(kA_nodes, .int), (kA_olds, .int), (kA_says, .boolean)] t) A) ([.ref oA] : List Value).toArray s 0 0 A) (F0 m 2 ls []) := by
    intro n_793
    induction n_793 with
    | zero => intro z_789 f_790 f_791 f_792 H locs ls a_f_791 a_f_792 hi0_n_793 hi1_n_793 hm; exact absurd hm (Nat.not_lt_zero _)
    | succ n_793 ih_n_793 =>
      intro z_789 f_790 f_791 f_792 H locs ls a_f_791 a_f_792 hi0_n_793 hi1_n_793 hm_n_793 hG hP hD hS hl
      have hG := hG.trans (HX0_dropOldest_0_eq _ _ _ _ _)
      refine lv_iload_n hx hb dX0_dropOldest_2 rfl (lv_at hl 0 rfl) ?_
      refine lv_bipush (v := 16) hx hb dX0_dropOldest_3 (by decide) ?_
      refine lv_icmp_ge (tgt := 56) hx hb dX0_dropOldest_5 (by decide) (fun c_794 => ?_) (fun c_794 => ?_)
      · skip
        have hG := hG.trans (if_pos c_794)
        have gc_794 := ti_le c_794 kc_16 rfl
        refine lv_aload_n hx hb dX0_dropOldest_56 rfl (lv_at hl 1 rfl) ?_
        refine lv_bipush (v := 15) hx hb dX0_dropOldest_57 (by decide) ?_
        refine va_put (D := (dC, dI)) (ci := 0) (v := .int 15) (ty := .int) (C := RX0) (T := TX0) (N := 4) hx hb hts inX0 tyX0 tyX0_ok nmX0 hown hK hP hD hS 0 rfl rfl 0 (by decide) (hts _ wd_374) (fun _ h9 => h9) rfl (by decide +kernel) rfl rfl (Nat.le_of_ble_eq_true rfl) dX0_dropOldest_59 (fun H locs hP hD hS => ?_)
        obtain ⟨hP, hD⟩ := wl2 (ws' := [(oc0 oA 15 rA_nodes rA_olds rA_says), (arI rA_nodes kA_nodes 16 f_792), (arI rA_olds kA_olds 16 f_790), (arI rA_says kA_says 16 f_791)]) hP hD rfl
        exact wq_v hx hb hr 0 trivial (fun t ht hW => ⟨15, f_792, f_790, f_791, (by decide), a_f_792, a_f_791, (by first | assumption | omega | decide), hG, Bw.to hP hD hK ht hW⟩) hS dX0_dropOldest_62 hlocks
      · skip
        have hG := hG.trans (if_neg c_794)
        have gc_794 := ti_nle c_794 kc_16 rfl
        refine lv_aload_n hx hb dX0_dropOldest_8 rfl (lv_at hl 1 rfl) ?_
        refine va_get (D := (dC, dI)) (ci := 0) (v := .ref rA_nodes) (C := RX0) (T := TX0) (N := 4) hx hb hts inX0 hown hK hP 0 rfl rfl 1 (by decide) (hts _ wd_134) (fun _ h9 => h9) rfl dX0_dropOldest_9 ?_
        refine lv_iload_n hx hb dX0_dropOldest_12 rfl (lv_at hl 0 rfl) ?_
        refine lv_iconst (v := 1) hx hb dX0_dropOldest_13 (by decide) ?_
        refine lv_isub hx hb dX0_dropOldest_14 ?_
        refine lv_topi (fun x_795 ex_795 => ?_)
        have hG := hG.trans (lt_eq ex_795)
        have vx_795 : x_795.toInt = z_789.toInt + (-1) := om_89646172 (ti_sub ex_795 rfl kc_1 (om_32108caa hi0_n_793.1) (om_cb379553 hi0_n_793.2))
        refine lv_aload_n hx hb dX0_dropOldest_15 rfl (lv_at hl 1 rfl) ?_
        refine va_get (D := (dC, dI)) (ci := 0) (v := .ref rA_nodes) (C := RX0) (T := TX0) (N := 4) hx hb hts inX0 hown hK hP 0 rfl rfl 1 (by decide) (hts _ wd_134) (fun _ h9 => h9) rfl dX0_dropOldest_16 ?_
        refine lv_iload_n hx hb dX0_dropOldest_19 rfl (lv_at hl 0 rfl) ?_
        refine va_iald hx hb hK hP 1 0 rfl rfl (ti_in rfl (om_71d41aa1 hi0_n_793.1) (om_ed5512fd gc_794)) dX0_dropOldest_20 ?_
        refine lv_topi (fun x_796 ex_796 => ?_)
        have hG := hG.trans (lt_eq ex_796)
        have kx_796 : (f_792 z_789.toNatClampNeg).toInt = x_796.toInt := by rw [ex_796]
        have ux_796 := a_f_792 z_789.toNatClampNeg (cl_lt rfl (om_71d41aa1 hi0_n_793.1) (om_ed5512fd gc_794))
        rw [show f_792 z_789.toNatClampNeg = x_796 from ex_796.symm] at ux_796
        refine va_iast hx hb hK hP hD hS 1 0 rfl rfl (ti_in vx_795 (om_201a3488 hi0_n_793.1) (om_e671a815 hi0_n_793.2)) dX0_dropOldest_21 (fun H locs hP hD hS => ?_)
        obtain ⟨f_798, ef_798⟩ : ∃ g : Nat → Int32, g = upd f_792 x_795.toNatClampNeg x_796 := ⟨_, rfl⟩
        rw [← ef_798] at hP hD
        have hG := hG.trans (lt_eq ef_798)
        obtain ⟨hP, hD⟩ := wl2 (ws' := [(oc0 oA iA_count rA_nodes rA_olds rA_says), (arI rA_nodes kA_nodes 16 f_798), (arI rA_olds kA_olds 16 f_790), (arI rA_says kA_says 16 f_791)]) hP hD rfl
        have a_f_798 : ∀ j : Nat, j < 16 → 0 ≤ (f_798 j).toInt ∧ (f_798 j).toInt ≤ 17 := by rw [ef_798]; exact upd_in a_f_792 ux_796
        refine lv_aload_n hx hb dX0_dropOldest_22 rfl (lv_at hl 1 rfl) ?_
        refine va_get (D := (dC, dI)) (ci := 0) (v := .ref rA_olds) (C := RX0) (T := TX0) (N := 4) hx hb hts inX0 hown hK hP 0 rfl rfl 2 (by decide) (hts _ wd_135) (fun _ h9 => h9) rfl dX0_dropOldest_23 ?_
        refine lv_iload_n hx hb dX0_dropOldest_26 rfl (lv_at hl 0 rfl) ?_
        refine lv_iconst (v := 1) hx hb dX0_dropOldest_27 (by decide) ?_
        refine lv_isub hx hb dX0_dropOldest_28 ?_
        refine lv_topi (fun x_799 ex_799 => ?_)
        have hG := hG.trans (lt_eq ex_799)
        have vx_799 : x_799.toInt = z_789.toInt + (-1) := om_89646172 (ti_sub ex_799 rfl kc_1 (om_32108caa hi0_n_793.1) (om_cb379553 hi0_n_793.2))
        refine lv_aload_n hx hb dX0_dropOldest_29 rfl (lv_at hl 1 rfl) ?_
        refine va_get (D := (dC, dI)) (ci := 0) (v := .ref rA_olds) (C := RX0) (T := TX0) (N := 4) hx hb hts inX0 hown hK hP 0 rfl rfl 2 (by decide) (hts _ wd_135) (fun _ h9 => h9) rfl dX0_dropOldest_30 ?_
        refine lv_iload_n hx hb dX0_dropOldest_33 rfl (lv_at hl 0 rfl) ?_
        refine va_iald hx hb hK hP 2 1 rfl rfl (ti_in rfl (om_71d41aa1 hi0_n_793.1) (om_ed5512fd gc_794)) dX0_dropOldest_34 ?_
        refine lv_topi (fun x_800 ex_800 => ?_)
        have hG := hG.trans (lt_eq ex_800)
        have kx_800 : (f_790 z_789.toNatClampNeg).toInt = x_800.toInt := by rw [ex_800]
        refine va_iast hx hb hK hP hD hS 2 1 rfl rfl (ti_in vx_799 (om_201a3488 hi0_n_793.1) (om_e671a815 hi0_n_793.2)) dX0_dropOldest_35 (fun H locs hP hD hS => ?_)
        obtain ⟨f_802, ef_802⟩ : ∃ g : Nat → Int32, g = upd f_790 x_799.toNatClampNeg x_800 := ⟨_, rfl⟩
        rw [← ef_802] at hP hD
        have hG := hG.trans (lt_eq ef_802)
        obtain ⟨hP, hD⟩ := wl2 (ws' := [(oc0 oA iA_count rA_nodes rA_olds rA_says), (arI rA_nodes kA_nodes 16 f_798), (arI rA_olds kA_olds 16 f_802), (arI rA_says kA_says 16 f_791)]) hP hD rfl
        refine lv_aload_n hx hb dX0_dropOldest_36 rfl (lv_at hl 1 rfl) ?_
        refine va_get (D := (dC, dI)) (ci := 0) (v := .ref rA_says) (C := RX0) (T := TX0) (N := 4) hx hb hts inX0 hown hK hP 0 rfl rfl 3 (by decide) (hts _ wd_137) (fun _ h9 => h9) rfl dX0_dropOldest_37 ?_
        refine lv_iload_n hx hb dX0_dropOldest_40 rfl (lv_at hl 0 rfl) ?_
        refine lv_iconst (v := 1) hx hb dX0_dropOldest_41 (by decide) ?_
        refine lv_isub hx hb dX0_dropOldest_42 ?_
        refine lv_topi (fun x_803 ex_803 => ?_)
        have hG := hG.trans (lt_eq ex_803)
        have vx_803 : x_803.toInt = z_789.toInt + (-1) := om_89646172 (ti_sub ex_803 rfl kc_1 (om_32108caa hi0_n_793.1) (om_cb379553 hi0_n_793.2))
        refine lv_aload_n hx hb dX0_dropOldest_43 rfl (lv_at hl 1 rfl) ?_
        refine va_get (D := (dC, dI)) (ci := 0) (v := .ref rA_says) (C := RX0) (T := TX0) (N := 4) hx hb hts inX0 hown hK hP 0 rfl rfl 3 (by decide) (hts _ wd_137) (fun _ h9 => h9) rfl dX0_dropOldest_44 ?_
        refine lv_iload_n hx hb dX0_dropOldest_47 rfl (lv_at hl 0 rfl) ?_
        refine va_zald hx hb hK hP 3 2 rfl rfl (ti_in rfl (om_71d41aa1 hi0_n_793.1) (om_ed5512fd gc_794)) dX0_dropOldest_48 ?_
        refine lv_topi (fun x_804 ex_804 => ?_)
        have hG := hG.trans (lt_eq ex_804)
        have kx_804 : (f_791 z_789.toNatClampNeg).toInt = x_804.toInt := by rw [ex_804]
        have ux_804 := a_f_791 z_789.toNatClampNeg (cl_lt rfl (om_71d41aa1 hi0_n_793.1) (om_ed5512fd gc_794))
        rw [show f_791 z_789.toNatClampNeg = x_804 from ex_804.symm] at ux_804
        refine va_zast hx hb hK hP hD hS 3 2 rfl rfl (ti_in vx_803 (om_201a3488 hi0_n_793.1) (om_e671a815 hi0_n_793.2)) dX0_dropOldest_49 (fun H locs hP hD hS => ?_)
        obtain ⟨f_806, ef_806⟩ : ∃ g : Nat → Int32, g = upd f_791 x_803.toNatClampNeg (vp_nar .boolean x_804) := ⟨_, rfl⟩
        rw [← ef_806] at hP hD
        have hG := hG.trans (lt_eq ef_806)
        obtain ⟨hP, hD⟩ := wl2 (ws' := [(oc0 oA iA_count rA_nodes rA_olds rA_says), (arI rA_nodes kA_nodes 16 f_798), (arI rA_olds kA_olds 16 f_802), (arI rA_says kA_says 16 f_806)]) hP hD rfl
        have a_f_806 : ∀ j : Nat, j < 16 → 0 ≤ (f_806 j).toInt ∧ (f_806 j).toInt ≤ 1 := by rw [ef_806]; exact upd_in a_f_791 (by rw [zb_nar (by omega)]; omega)
        have ix_f_806 : x_803 = x_799 := by rw [fz_eq]; omega
        have r_f_806 : ∀ j : Nat, j < 16 → f_806 j = 0 → 0 ≤ (f_802 j).toInt ∧ (f_802 j).toInt ≤ 3 := by rw [ef_806, ef_802, ix_f_806]; exact rel_upd (x := x_800) (s := vp_nar .boolean x_804) (by assumption) (fun h0 => by rw [zb_nar (by omega)] at h0; first | exact hk0 h0 | (rw [ex_800]; exact (show ∀ j : Nat, j < 16 → f_791 j = 0 → 0 ≤ (f_790 j).toInt ∧ (f_790 j).toInt ≤ 3 by assumption) _ (by have q := ti_cl (x := z_789) rfl (om_71d41aa1 hi0_n_793.1); omega) (ex_804 ▸ h0)))
        obtain ⟨x_807, ex_807⟩ : ∃ z : Int32, z = z_789 + Int32.ofInt 1 := ⟨_, rfl⟩
        have hG := hG.trans (lt_eq ex_807)
        have vx_807 : x_807.toInt = z_789.toInt + 1 := ti_add (y := 1) ex_807 rfl kc_1 (om_6872dcca hi0_n_793.1) (om_f5e430c4 hi0_n_793.2)
        refine lv_iinc (v := x_807) (lv' := [(1, .int x_807), (0, .ref oA)]) hx hb dX0_dropOldest_50 hl (k := 0) rfl ex_807.symm (by decide) rfl (fun ls hl => ?_)
        refine lv_goto (tgt := 2) hx hb dX0_dropOldest_53 (by decide) ?_
        exact ih_n_793 x_807 f_802 f_806 f_798 _ _ _ a_f_806 a_f_798 ⟨(om_3b07fe9e hi0_n_793.1 vx_807), (om_145e734a gc_794 vx_807)⟩ (by first | assumption | omega | decide) (ms_lt hm_n_793 (om_29546207 vx_807) (om_e0241e09 gc_794)) hG hP hD hS (lv_sub hl [0, 1] rfl)
  exact key_n_793 (((16 - (1 : Int32).toInt).toNat) + 1) 1 fA_olds fA_says fA_nodes _ _ _ a_fA_says a_fA_nodes ⟨(om_c083232f kc_1), (om_41d8dd7f kc_1)⟩ (by first | assumption | omega | decide) (Nat.lt_add_one _) hG hP hD hS hl
set_option maxHeartbeats 4000000 in
set_option maxRecDepth 100000 in
theorem tX0_keep (l : Launch) (dC : Nat → ClassId) (dI : Nat → Nat → Nat) (sz : Nat) (oA : Nat) (iA_count : Int32) (rA_nodes : Nat) (fA_nodes : Nat → Int32) (kA_nodes : ClassId) (rA_olds : Nat) (fA_olds : Nat → Int32) (kA_olds : ClassId) (rA_says : Nat) (fA_says : Nat → Int32) (kA_says : ClassId) (p0 : Int32) (p1 : Int32) (p2 : Int32) (b_iA_count : 0 ≤ iA_count.toInt ∧ iA_count.toInt ≤ 16) (a_fA_nodes : ∀ j : Nat, j < 16 → 0 ≤ (fA_nodes j).toInt ∧ (fA_nodes j).toInt ≤ 17) (a_fA_says : ∀ j : Nat, j < 16 → 0 ≤ (fA_says j).toInt ∧ (fA_says j).toInt ≤ 1) (r_A : ∀ j : Nat, j < 16 → fA_says j = 0 → 0 ≤ (fA_olds j).toInt ∧ (fA_olds j).toInt ≤ 3) (hp0 : 0 ≤ p0.toInt ∧ p0.toInt ≤ 17) (hp2 : 0 ≤ p2.toInt ∧ p2.toInt ≤ 1) (hk0 : p2 = 0 → 0 ≤ p1.toInt ∧ p1.toInt ≤ 3) : Met l yX0_keep (Cond.code yX0_keep cX0_keep 4 none :: wG) ({ frames := 1, cells := 0, slots := 0, locals := 21 }) (va_Pc [.ref oA, .int p0, .int p1, .int p2] (Pw dC dI sz [(oc0 oA iA_count rA_nodes rA_olds rA_says), (arI rA_nodes kA_nodes 16 fA_nodes), (arI rA_olds kA_olds 16 fA_olds), (arI rA_says kA_says 16 fA_says)] [(kA_nodes, .int), (kA_olds, .int), (kA_says, .boolean)])) (va_Qv (fun (_ : Nat) => True) (fun (_ : Nat) (t : State) => ∃ (niA_count : Int32) (nfA_nodes : Nat → Int32) (nfA_olds : Nat → Int32) (nfA_says : Nat → Int32), (0 ≤ niA_count.toInt ∧ niA_count.toInt ≤ 16) ∧ (∀ j : Nat, j < 16 → 0 ≤ (nfA_nodes j).toInt ∧ (nfA_nodes j).toInt ≤ 17) ∧ (∀ j : Nat, j < 16 → 0 ≤ (nfA_says j).toInt ∧ (nfA_says j).toInt ≤ 1) ∧ (∀ j : Nat, j < 16 → nfA_says j = 0 → 0 ≤ (nfA_olds j).toInt ∧ (nfA_olds j).toInt ≤ 3) ∧ (PX0_keep iA_count fA_nodes fA_olds fA_says p0 p1 p2 = (niA_count, nfA_nodes, nfA_olds, nfA_says)) ∧ Bw dC dI (va_A [(oc0 oA iA_count rA_nodes rA_olds rA_says), (arI rA_nodes kA_nodes 16 fA_nodes), (arI rA_olds kA_olds 16 fA_olds), (arI rA_says kA_says 16 fA_says)] sz) [(oc0 oA niA_count rA_nodes rA_olds rA_says), (arI rA_nodes kA_nodes 16 nfA_nodes), (arI rA_olds kA_olds 16 nfA_olds), (arI rA_says kA_says 16 nfA_says)] [(kA_nodes, .int), (kA_olds, .int), (kA_says, .boolean)] t) (va_A [(oc0 oA iA_count rA_nodes rA_olds rA_says), (arI rA_nodes kA_nodes 16 fA_nodes), (arI rA_olds kA_olds 16 fA_olds), (arI rA_says kA_says 16 fA_says)] sz)) 0 0 (va_A [(oc0 oA iA_count rA_nodes rA_olds rA_says), (arI rA_nodes kA_nodes 16 fA_nodes), (arI rA_olds kA_olds 16 fA_olds), (arI rA_says kA_says 16 fA_says)] sz) := by
  refine Met.ofW (cc := cX0_keep) (maxL := 4) (ret := none) pnX0 rfl ?_
  intro p e s m args below meth c s₁ B hml hv
  obtain ⟨rfl, hsz, hP, hK, hD0, hE⟩ := hv
  have hx := B.exec
  have hb := B.bytes
  have hr := B.returns
  have hts : ∀ w ∈ wG, w.before ([.ref oA, .int p0, .int p1, .int p2] : List Value).toArray s = true := fun w h => atoms_spec (ws := Cond.code yX0_keep cX0_keep 4 none :: wG) B.pre w (List.mem_cons_of_mem _ h)
  have hown : s.vm.findClass RX0 = some m.cls := own_of B.named rfl
  have hlocks := B.notSynchronized
  subst hsz
  have hD := hD0.self (sz := s.heap.size)
  generalize hAe : va_A [(oc0 oA iA_count rA_nodes rA_olds rA_says), (arI rA_nodes kA_nodes 16 fA_nodes), (arI rA_olds kA_olds 16 fA_olds), (arI rA_says kA_says 16 fA_says)] s.heap.size = A at hD hE ⊢
  have hA : ∀ q : Nat, s.heap.size ≤ q → A q := fun q h => by rw [← hAe]; exact Or.inr h
  have hS : va_S A s.heap s.heap [] := va_S.rf
  have hl := lv_entry ([.ref oA, .int p0, .int p1, .int p2]) (n := 4) (Nat.le_of_ble_eq_true rfl)
  rw [lg_entry_eq]
  generalize (lg_sl ([.ref oA, .int p0, .int p1, .int p2]) ++ List.replicate (4 - (lg_sl ([.ref oA, .int p0, .int p1, .int p2])).length) Slot.unset).toArray = ls at hl ⊢
  have hl : lv_has ls 4 [(0, .ref oA), (1, .int p0), (2, .int p1), (3, .int p2)] := hl
  have hG := PX0_keep_eq iA_count fA_nodes fA_olds fA_says p0 p1 p2
  refine lv_aload_n hx hb dX0_keep_0 rfl (lv_at hl 0 rfl) ?_
  refine va_get (D := (dC, dI)) (ci := 0) (v := .int iA_count) (C := RX0) (T := TX0) (N := 4) hx hb hts inX0 hown hK hP 0 rfl rfl 0 (by decide) (hts _ wd_374) (fun _ h9 => h9) rfl dX0_keep_1 ?_
  refine lv_bipush (v := 16) hx hb dX0_keep_4 (by decide) ?_
  refine lv_icmp_ne (tgt := 13) hx hb dX0_keep_6 (by decide) (fun c_825 => ?_) (fun c_825 => ?_)
  · skip
    have hG := hG.trans (if_neg c_825)
    have gc_825 := ti_ne c_825 rfl kc_16
    refine lv_aload_n hx hb dX0_keep_13 rfl (lv_at hl 0 rfl) ?_
    refine va_get (D := (dC, dI)) (ci := 0) (v := .ref rA_nodes) (C := RX0) (T := TX0) (N := 4) hx hb hts inX0 hown hK hP 0 rfl rfl 1 (by decide) (hts _ wd_134) (fun _ h9 => h9) rfl dX0_keep_14 ?_
    refine lv_aload_n hx hb dX0_keep_17 rfl (lv_at hl 0 rfl) ?_
    refine va_get (D := (dC, dI)) (ci := 0) (v := .int iA_count) (C := RX0) (T := TX0) (N := 4) hx hb hts inX0 hown hK hP 0 rfl rfl 0 (by decide) (hts _ wd_374) (fun _ h9 => h9) rfl dX0_keep_18 ?_
    refine lv_iload_n hx hb dX0_keep_21 rfl (lv_at hl 1 rfl) ?_
    refine va_iast hx hb hK hP hD hS 1 0 rfl rfl (ti_in rfl b_iA_count.1 (by omega)) dX0_keep_22 (fun H locs hP hD hS => ?_)
    obtain ⟨f_827, ef_827⟩ : ∃ g : Nat → Int32, g = upd fA_nodes iA_count.toNatClampNeg p0 := ⟨_, rfl⟩
    rw [← ef_827] at hP hD
    have hG := hG.trans (lt_eq ef_827)
    obtain ⟨hP, hD⟩ := wl2 (ws' := [(oc0 oA iA_count rA_nodes rA_olds rA_says), (arI rA_nodes kA_nodes 16 f_827), (arI rA_olds kA_olds 16 fA_olds), (arI rA_says kA_says 16 fA_says)]) hP hD rfl
    have a_f_827 : ∀ j : Nat, j < 16 → 0 ≤ (f_827 j).toInt ∧ (f_827 j).toInt ≤ 17 := by rw [ef_827]; exact upd_in a_fA_nodes ⟨hp0.1, hp0.2⟩
    refine lv_aload_n hx hb dX0_keep_23 rfl (lv_at hl 0 rfl) ?_
    refine va_get (D := (dC, dI)) (ci := 0) (v := .ref rA_olds) (C := RX0) (T := TX0) (N := 4) hx hb hts inX0 hown hK hP 0 rfl rfl 2 (by decide) (hts _ wd_135) (fun _ h9 => h9) rfl dX0_keep_24 ?_
    refine lv_aload_n hx hb dX0_keep_27 rfl (lv_at hl 0 rfl) ?_
    refine va_get (D := (dC, dI)) (ci := 0) (v := .int iA_count) (C := RX0) (T := TX0) (N := 4) hx hb hts inX0 hown hK hP 0 rfl rfl 0 (by decide) (hts _ wd_374) (fun _ h9 => h9) rfl dX0_keep_28 ?_
    refine lv_iload_n hx hb dX0_keep_31 rfl (lv_at hl 2 rfl) ?_
    refine va_iast hx hb hK hP hD hS 2 1 rfl rfl (ti_in rfl b_iA_count.1 (by omega)) dX0_keep_32 (fun H locs hP hD hS => ?_)
    obtain ⟨f_829, ef_829⟩ : ∃ g : Nat → Int32, g = upd fA_olds iA_count.toNatClampNeg p1 := ⟨_, rfl⟩
    rw [← ef_829] at hP hD
    have hG := hG.trans (lt_eq ef_829)
    obtain ⟨hP, hD⟩ := wl2 (ws' := [(oc0 oA iA_count rA_nodes rA_olds rA_says), (arI rA_nodes kA_nodes 16 f_827), (arI rA_olds kA_olds 16 f_829), (arI rA_says kA_says 16 fA_says)]) hP hD rfl
    refine lv_aload_n hx hb dX0_keep_33 rfl (lv_at hl 0 rfl) ?_
    refine va_get (D := (dC, dI)) (ci := 0) (v := .ref rA_says) (C := RX0) (T := TX0) (N := 4) hx hb hts inX0 hown hK hP 0 rfl rfl 3 (by decide) (hts _ wd_137) (fun _ h9 => h9) rfl dX0_keep_34 ?_
    refine lv_aload_n hx hb dX0_keep_37 rfl (lv_at hl 0 rfl) ?_
    refine va_get (D := (dC, dI)) (ci := 0) (v := .int iA_count) (C := RX0) (T := TX0) (N := 4) hx hb hts inX0 hown hK hP 0 rfl rfl 0 (by decide) (hts _ wd_374) (fun _ h9 => h9) rfl dX0_keep_38 ?_
    refine lv_iload_n hx hb dX0_keep_41 rfl (lv_at hl 3 rfl) ?_
    refine va_zast hx hb hK hP hD hS 3 2 rfl rfl (ti_in rfl b_iA_count.1 (by omega)) dX0_keep_42 (fun H locs hP hD hS => ?_)
    obtain ⟨f_831, ef_831⟩ : ∃ g : Nat → Int32, g = upd fA_says iA_count.toNatClampNeg (vp_nar .boolean p2) := ⟨_, rfl⟩
    rw [← ef_831] at hP hD
    have hG := hG.trans (lt_eq ef_831)
    obtain ⟨hP, hD⟩ := wl2 (ws' := [(oc0 oA iA_count rA_nodes rA_olds rA_says), (arI rA_nodes kA_nodes 16 f_827), (arI rA_olds kA_olds 16 f_829), (arI rA_says kA_says 16 f_831)]) hP hD rfl
    have a_f_831 : ∀ j : Nat, j < 16 → 0 ≤ (f_831 j).toInt ∧ (f_831 j).toInt ≤ 1 := by rw [ef_831]; exact upd_in a_fA_says (by rw [zb_nar (by omega)]; omega)
    have r_f_831 : ∀ j : Nat, j < 16 → f_831 j = 0 → 0 ≤ (f_829 j).toInt ∧ (f_829 j).toInt ≤ 3 := by rw [ef_831, ef_829]; exact rel_upd (x := p1) (s := vp_nar .boolean p2) (by assumption) (fun h0 => by rw [zb_nar (by omega)] at h0; first | exact hk0 h0 | (rw [ep1]; exact (show ∀ j : Nat, j < 16 → fA_says j = 0 → 0 ≤ (fA_olds j).toInt ∧ (fA_olds j).toInt ≤ 3 by assumption) _ (by have q := ti_cl (x := iA_count) rfl b_iA_count.1; omega) (ep2 ▸ h0)))
    refine lv_aload_n hx hb dX0_keep_43 rfl (lv_at hl 0 rfl) ?_
    refine lv_dup hx hb dX0_keep_44 rfl ?_
    refine va_get (D := (dC, dI)) (ci := 0) (v := .int iA_count) (C := RX0) (T := TX0) (N := 4) hx hb hts inX0 hown hK hP 0 rfl rfl 0 (by decide) (hts _ wd_374) (fun _ h9 => h9) rfl dX0_keep_45 ?_
    refine lv_iconst (v := 1) hx hb dX0_keep_48 (by decide) ?_
    refine lv_iadd hx hb dX0_keep_49 ?_
    refine lv_topi (fun x_832 ex_832 => ?_)
    have hG := hG.trans (lt_eq ex_832)
    have vx_832 : x_832.toInt = iA_count.toInt + 1 := ti_add ex_832 rfl kc_1 (om_4e4fce7e b_iA_count.1) (om_f5e430c4 b_iA_count.2)
    refine va_put (D := (dC, dI)) (ci := 0) (v := .int x_832) (ty := .int) (C := RX0) (T := TX0) (N := 4) hx hb hts inX0 tyX0 tyX0_ok nmX0 hown hK hP hD hS 0 rfl rfl 0 (by decide) (hts _ wd_374) (fun _ h9 => h9) rfl (by decide +kernel) rfl rfl (Nat.le_of_ble_eq_true rfl) dX0_keep_50 (fun H locs hP hD hS => ?_)
    obtain ⟨hP, hD⟩ := wl2 (ws' := [(oc0 oA x_832 rA_nodes rA_olds rA_says), (arI rA_nodes kA_nodes 16 f_827), (arI rA_olds kA_olds 16 f_829), (arI rA_says kA_says 16 f_831)]) hP hD rfl
    exact wq_v hx hb hr 0 trivial (fun t ht hW => ⟨x_832, f_827, f_829, f_831, (by have q := vx_832; exact ⟨by omega, by omega⟩), a_f_827, a_f_831, (by first | assumption | omega | decide), hG, Bw.to hP hD hK ht hW⟩) hS dX0_keep_53 hlocks
  · skip
    have hG := hG.trans (if_pos c_825)
    have gc_825 := ti_eq c_825 rfl kc_16
    refine lv_aload_n hx hb dX0_keep_9 rfl (lv_at hl 0 rfl) ?_
    have hFc := va_freeI hD hS hA
    refine va_callv (va_runV (As := []) (rest := []) ⟨hx, hb, hml, hown, hts⟩ (tX0_dropOldest l dC dI _ oA iA_count rA_nodes fA_nodes kA_nodes rA_olds fA_olds kA_olds rA_says fA_says kA_says b_iA_count a_fA_nodes a_fA_says (by assumption)) (cwV 0 hts (wd_V wd_1369 wd_1370 wd_1371 wd_29 (wd_c wd_1372)) rfl rfl rfl dv_yX0_dropOldest_0 ⟨Nat.le_of_ble_eq_true rfl, Nat.le_of_ble_eq_true rfl⟩) ⟨Pw.fb, recvX0 hK hP (q0 := 0) rfl, fun U hU hW => Pw.to hP hD hK hE hS hFc hU hW⟩ rfl rfl hl.1 rfl (lv_room (Nat.le_of_ble_eq_true rfl)) dX0_keep_10 ⟨Nat.le_of_ble_eq_true rfl, Nat.le_of_ble_eq_true rfl⟩) hS (fun q _ h => hFc q h) hFc (fun u t H locs ht hvm hw hB hz1 hk1 hS => ?_)
    refine ex_4_5 hB (fun x_833 f_834 f_835 f_836 b_x_833 a_f_834 a_f_836 e_x_833_0 e_x_833_1 hB => ?_)
    obtain ⟨hP, hD⟩ := Bw.goA (ws' := [(oc0 oA x_833 rA_nodes rA_olds rA_says), (arI rA_nodes kA_nodes 16 f_834), (arI rA_olds kA_olds 16 f_835), (arI rA_says kA_says 16 f_836)]) hB rfl ht hFc rfl
    clear hz1 hk1 hvm ht hB
    have hG := hG.trans (un4_eq e_x_833_1)
    refine lv_aload_n hx hb dX0_keep_13 rfl (lv_at hl 0 rfl) ?_
    refine va_get (D := (dC, dI)) (ci := 0) (v := .ref rA_nodes) (C := RX0) (T := TX0) (N := 4) hx hb hts inX0 hown hK hP 0 rfl rfl 1 (by decide) (hts _ wd_134) (fun _ h9 => h9) rfl dX0_keep_14 ?_
    refine lv_aload_n hx hb dX0_keep_17 rfl (lv_at hl 0 rfl) ?_
    refine va_get (D := (dC, dI)) (ci := 0) (v := .int x_833) (C := RX0) (T := TX0) (N := 4) hx hb hts inX0 hown hK hP 0 rfl rfl 0 (by decide) (hts _ wd_374) (fun _ h9 => h9) rfl dX0_keep_18 ?_
    refine lv_iload_n hx hb dX0_keep_21 rfl (lv_at hl 1 rfl) ?_
    refine va_iast hx hb hK hP hD hS 1 0 rfl rfl (ti_in rfl (om_de94ac6e b_x_833.1) (om_eaf6b467 b_x_833.2)) dX0_keep_22 (fun H locs hP hD hS => ?_)
    obtain ⟨f_838, ef_838⟩ : ∃ g : Nat → Int32, g = upd f_834 x_833.toNatClampNeg p0 := ⟨_, rfl⟩
    rw [← ef_838] at hP hD
    have hG := hG.trans (lt_eq ef_838)
    obtain ⟨hP, hD⟩ := wl2 (ws' := [(oc0 oA x_833 rA_nodes rA_olds rA_says), (arI rA_nodes kA_nodes 16 f_838), (arI rA_olds kA_olds 16 f_835), (arI rA_says kA_says 16 f_836)]) hP hD rfl
    have a_f_838 : ∀ j : Nat, j < 16 → 0 ≤ (f_838 j).toInt ∧ (f_838 j).toInt ≤ 17 := by rw [ef_838]; exact upd_in a_f_834 ⟨hp0.1, hp0.2⟩
    refine lv_aload_n hx hb dX0_keep_23 rfl (lv_at hl 0 rfl) ?_
    refine va_get (D := (dC, dI)) (ci := 0) (v := .ref rA_olds) (C := RX0) (T := TX0) (N := 4) hx hb hts inX0 hown hK hP 0 rfl rfl 2 (by decide) (hts _ wd_135) (fun _ h9 => h9) rfl dX0_keep_24 ?_
    refine lv_aload_n hx hb dX0_keep_27 rfl (lv_at hl 0 rfl) ?_
    refine va_get (D := (dC, dI)) (ci := 0) (v := .int x_833) (C := RX0) (T := TX0) (N := 4) hx hb hts inX0 hown hK hP 0 rfl rfl 0 (by decide) (hts _ wd_374) (fun _ h9 => h9) rfl dX0_keep_28 ?_
    refine lv_iload_n hx hb dX0_keep_31 rfl (lv_at hl 2 rfl) ?_
    refine va_iast hx hb hK hP hD hS 2 1 rfl rfl (ti_in rfl (om_de94ac6e b_x_833.1) (om_eaf6b467 b_x_833.2)) dX0_keep_32 (fun H locs hP hD hS => ?_)
    obtain ⟨f_840, ef_840⟩ : ∃ g : Nat → Int32, g = upd f_835 x_833.toNatClampNeg p1 := ⟨_, rfl⟩
    rw [← ef_840] at hP hD
    have hG := hG.trans (lt_eq ef_840)
    obtain ⟨hP, hD⟩ := wl2 (ws' := [(oc0 oA x_833 rA_nodes rA_olds rA_says), (arI rA_nodes kA_nodes 16 f_838), (arI rA_olds kA_olds 16 f_840), (arI rA_says kA_says 16 f_836)]) hP hD rfl
    refine lv_aload_n hx hb dX0_keep_33 rfl (lv_at hl 0 rfl) ?_
    refine va_get (D := (dC, dI)) (ci := 0) (v := .ref rA_says) (C := RX0) (T := TX0) (N := 4) hx hb hts inX0 hown hK hP 0 rfl rfl 3 (by decide) (hts _ wd_137) (fun _ h9 => h9) rfl dX0_keep_34 ?_
    refine lv_aload_n hx hb dX0_keep_37 rfl (lv_at hl 0 rfl) ?_
    refine va_get (D := (dC, dI)) (ci := 0) (v := .int x_833) (C := RX0) (T := TX0) (N := 4) hx hb hts inX0 hown hK hP 0 rfl rfl 0 (by decide) (hts _ wd_374) (fun _ h9 => h9) rfl dX0_keep_38 ?_
    refine lv_iload_n hx hb dX0_keep_41 rfl (lv_at hl 3 rfl) ?_
    refine va_zast hx hb hK hP hD hS 3 2 rfl rfl (ti_in rfl (om_de94ac6e b_x_833.1) (om_eaf6b467 b_x_833.2)) dX0_keep_42 (fun H locs hP hD hS => ?_)
    obtain ⟨f_842, ef_842⟩ : ∃ g : Nat → Int32, g = upd f_836 x_833.toNatClampNeg (vp_nar .boolean p2) := ⟨_, rfl⟩
    rw [← ef_842] at hP hD
    have hG := hG.trans (lt_eq ef_842)
    obtain ⟨hP, hD⟩ := wl2 (ws' := [(oc0 oA x_833 rA_nodes rA_olds rA_says), (arI rA_nodes kA_nodes 16 f_838), (arI rA_olds kA_olds 16 f_840), (arI rA_says kA_says 16 f_842)]) hP hD rfl
    have a_f_842 : ∀ j : Nat, j < 16 → 0 ≤ (f_842 j).toInt ∧ (f_842 j).toInt ≤ 1 := by rw [ef_842]; exact upd_in a_f_836 (by rw [zb_nar (by omega)]; omega)
    have r_f_842 : ∀ j : Nat, j < 16 → f_842 j = 0 → 0 ≤ (f_840 j).toInt ∧ (f_840 j).toInt ≤ 3 := by rw [ef_842, ef_840]; exact rel_upd (x := p1) (s := vp_nar .boolean p2) (by assumption) (fun h0 => by rw [zb_nar (by omega)] at h0; first | exact hk0 h0 | (rw [ep1]; exact (show ∀ j : Nat, j < 16 → f_836 j = 0 → 0 ≤ (f_835 j).toInt ∧ (f_835 j).toInt ≤ 3 by assumption) _ (by have q := ti_cl (x := x_833) rfl (om_de94ac6e b_x_833.1); omega) (ep2 ▸ h0)))
    refine lv_aload_n hx hb dX0_keep_43 rfl (lv_at hl 0 rfl) ?_
    refine lv_dup hx hb dX0_keep_44 rfl ?_
    refine va_get (D := (dC, dI)) (ci := 0) (v := .int x_833) (C := RX0) (T := TX0) (N := 4) hx hb hts inX0 hown hK hP 0 rfl rfl 0 (by decide) (hts _ wd_374) (fun _ h9 => h9) rfl dX0_keep_45 ?_
    refine lv_iconst (v := 1) hx hb dX0_keep_48 (by decide) ?_
    refine lv_iadd hx hb dX0_keep_49 ?_
    refine lv_topi (fun x_843 ex_843 => ?_)
    have hG := hG.trans (lt_eq ex_843)
    have vx_843 : x_843.toInt = x_833.toInt + 1 := ti_add ex_843 rfl kc_1 (om_47296397 b_x_833.1) (om_33b66284 b_x_833.2)
    refine va_put (D := (dC, dI)) (ci := 0) (v := .int x_843) (ty := .int) (C := RX0) (T := TX0) (N := 4) hx hb hts inX0 tyX0 tyX0_ok nmX0 hown hK hP hD hS 0 rfl rfl 0 (by decide) (hts _ wd_374) (fun _ h9 => h9) rfl (by decide +kernel) rfl rfl (Nat.le_of_ble_eq_true rfl) dX0_keep_50 (fun H locs hP hD hS => ?_)
    obtain ⟨hP, hD⟩ := wl2 (ws' := [(oc0 oA x_843 rA_nodes rA_olds rA_says), (arI rA_nodes kA_nodes 16 f_838), (arI rA_olds kA_olds 16 f_840), (arI rA_says kA_says 16 f_842)]) hP hD rfl
    exact wq_v hx hb hr 0 trivial (fun t ht hW => ⟨x_843, f_838, f_840, f_842, ⟨(om_82d14459 b_x_833.1 vx_843), (om_c3f6ceea b_x_833.2 vx_843)⟩, a_f_838, a_f_842, (by first | assumption | omega | decide), hG, Bw.to hP hD hK ht hW⟩) hS dX0_keep_53 hlocks
set_option maxHeartbeats 4000000 in
set_option maxRecDepth 100000 in
theorem tX0_takeBack (l : Launch) (dC : Nat → ClassId) (dI : Nat → Nat → Nat) (sz : Nat) (oA : Nat) (iA_count : Int32) (rA_nodes : Nat) (fA_nodes : Nat → Int32) (kA_nodes : ClassId) (rA_olds : Nat) (fA_olds : Nat → Int32) (kA_olds : ClassId) (rA_says : Nat) (fA_says : Nat → Int32) (kA_says : ClassId) (oS : Nat) (rS_worths : Nat) (fS_worths : Nat → Int32) (kS_worths : ClassId) (rS_order : Nat) (fS_order : Nat → Int32) (kS_order : ClassId) (rS_left : Nat) (b_iA_count : 0 ≤ iA_count.toInt ∧ iA_count.toInt ≤ 16) (a_fA_nodes : ∀ j : Nat, j < 16 → 0 ≤ (fA_nodes j).toInt ∧ (fA_nodes j).toInt ≤ 17) (a_fA_says : ∀ j : Nat, j < 16 → 0 ≤ (fA_says j).toInt ∧ (fA_says j).toInt ≤ 1) (a_fS_order : ∀ j : Nat, j < 72 → 0 ≤ (fS_order j).toInt ∧ (fS_order j).toInt ≤ 3) (r_A : ∀ j : Nat, j < 16 → fA_says j = 0 → 0 ≤ (fA_olds j).toInt ∧ (fA_olds j).toInt ≤ 3)  : Met l yX0_takeBack (Cond.code yX0_takeBack cX0_takeBack 2 (some .boolean) :: wG) ({ frames := 1, cells := 0, slots := 0, locals := 25 }) (va_Pc [.ref oA, .ref oS] (Pw dC dI sz [(oc0 oA iA_count rA_nodes rA_olds rA_says), (arI rA_nodes kA_nodes 16 fA_nodes), (arI rA_olds kA_olds 16 fA_olds), (arI rA_says kA_says 16 fA_says), (oc5 oS rS_worths rS_order rS_left), (arI rS_worths kS_worths 18 fS_worths), (arI rS_order kS_order 72 fS_order)] [(kA_nodes, .int), (kA_olds, .int), (kA_says, .boolean), (kS_worths, .int), (kS_order, .int)])) (va_Qi (fun (r : Int32) (u : Nat) => ((r = 0 ∨ r = 1) ∧ True) ∧ r = Int32.ofNat u) (fun (u : Nat) (t : State) => ∃ (niA_count : Int32) (nfS_worths : Nat → Int32) (nfS_order : Nat → Int32), (0 ≤ niA_count.toInt ∧ niA_count.toInt ≤ 16) ∧ (∀ j : Nat, j < 72 → 0 ≤ (nfS_order j).toInt ∧ (nfS_order j).toInt ≤ 3) ∧ (PX0_takeBack iA_count fA_nodes fA_olds fA_says fS_worths fS_order = (Int32.ofNat u, niA_count, nfS_worths, nfS_order)) ∧ Bw dC dI (va_A [(oc0 oA iA_count rA_nodes rA_olds rA_says), (arI rA_nodes kA_nodes 16 fA_nodes), (arI rA_olds kA_olds 16 fA_olds), (arI rA_says kA_says 16 fA_says), (oc5 oS rS_worths rS_order rS_left), (arI rS_worths kS_worths 18 fS_worths), (arI rS_order kS_order 72 fS_order)] sz) [(oc0 oA niA_count rA_nodes rA_olds rA_says), (arI rA_nodes kA_nodes 16 fA_nodes), (arI rA_olds kA_olds 16 fA_olds), (arI rA_says kA_says 16 fA_says), (oc5 oS rS_worths rS_order rS_left), (arI rS_worths kS_worths 18 nfS_worths), (arI rS_order kS_order 72 nfS_order)] [(kA_nodes, .int), (kA_olds, .int), (kA_says, .boolean), (kS_worths, .int), (kS_order, .int)] t) (va_A [(oc0 oA iA_count rA_nodes rA_olds rA_says), (arI rA_nodes kA_nodes 16 fA_nodes), (arI rA_olds kA_olds 16 fA_olds), (arI rA_says kA_says 16 fA_says), (oc5 oS rS_worths rS_order rS_left), (arI rS_worths kS_worths 18 fS_worths), (arI rS_order kS_order 72 fS_order)] sz)) 0 0 (va_A [(oc0 oA iA_count rA_nodes rA_olds rA_says), (arI rA_nodes kA_nodes 16 fA_nodes), (arI rA_olds kA_olds 16 fA_olds), (arI rA_says kA_says 16 fA_says), (oc5 oS rS_worths rS_order rS_left), (arI rS_worths kS_worths 18 fS_worths), (arI rS_order kS_order 72 fS_order)] sz) := by
  refine Met.ofW (cc := cX0_takeBack) (maxL := 2) (ret := (some .boolean)) pnX0 rfl ?_
  intro p e s m args below meth c s₁ B hml hv
  obtain ⟨rfl, hsz, hP, hK, hD0, hE⟩ := hv
  have hx := B.exec
  have hb := B.bytes
  have hr := B.returns
  have hts : ∀ w ∈ wG, w.before ([.ref oA, .ref oS] : List Value).toArray s = true := fun w h => atoms_spec (ws := Cond.code yX0_takeBack cX0_takeBack 2 (some .boolean) :: wG) B.pre w (List.mem_cons_of_mem _ h)
  have hown : s.vm.findClass RX0 = some m.cls := own_of B.named rfl
  have hlocks := B.notSynchronized
  subst hsz
  have hD := hD0.self (sz := s.heap.size)
  generalize hAe : va_A [(oc0 oA iA_count rA_nodes rA_olds rA_says), (arI rA_nodes kA_nodes 16 fA_nodes), (arI rA_olds kA_olds 16 fA_olds), (arI rA_says kA_says 16 fA_says), (oc5 oS rS_worths rS_order rS_left), (arI rS_worths kS_worths 18 fS_worths), (arI rS_order kS_order 72 fS_order)] s.heap.size = A at hD hE ⊢
  have hA : ∀ q : Nat, s.heap.size ≤ q → A q := fun q h => by rw [← hAe]; exact Or.inr h
  have hS : va_S A s.heap s.heap [] := va_S.rf
  have hl := lv_entry ([.ref oA, .ref oS]) (n := 2) (Nat.le_of_ble_eq_true rfl)
  rw [lg_entry_eq]
  generalize (lg_sl ([.ref oA, .ref oS]) ++ List.replicate (2 - (lg_sl ([.ref oA, .ref oS])).length) Slot.unset).toArray = ls at hl ⊢
  have hl : lv_has ls 2 [(0, .ref oA), (1, .ref oS)] := hl
  have hG := PX0_takeBack_eq iA_count fA_nodes fA_olds fA_says fS_worths fS_order
  refine lv_aload_n hx hb dX0_takeBack_0 rfl (lv_at hl 0 rfl) ?_
  refine va_get (D := (dC, dI)) (ci := 0) (v := .int iA_count) (C := RX0) (T := TX0) (N := 4) hx hb hts inX0 hown hK hP 0 rfl rfl 0 (by decide) (hts _ wd_374) (fun _ h9 => h9) rfl dX0_takeBack_1 ?_
  refine lv_if_ne (tgt := 9) hx hb dX0_takeBack_4 (by decide) (fun c_854 => ?_) (fun c_854 => ?_)
  · skip
    have hG := hG.trans (if_neg c_854)
    have gc_854 := ti_ne c_854 rfl kc_0
    refine lv_aload_n hx hb dX0_takeBack_9 rfl (lv_at hl 0 rfl) ?_
    refine lv_dup hx hb dX0_takeBack_10 rfl ?_
    refine va_get (D := (dC, dI)) (ci := 0) (v := .int iA_count) (C := RX0) (T := TX0) (N := 4) hx hb hts inX0 hown hK hP 0 rfl rfl 0 (by decide) (hts _ wd_374) (fun _ h9 => h9) rfl dX0_takeBack_11 ?_
    refine lv_iconst (v := 1) hx hb dX0_takeBack_14 (by decide) ?_
    refine lv_isub hx hb dX0_takeBack_15 ?_
    refine lv_topi (fun x_855 ex_855 => ?_)
    have hG := hG.trans (lt_eq ex_855)
    have vx_855 : x_855.toInt = iA_count.toInt + (-1) := om_89646172 (ti_sub ex_855 rfl kc_1 (om_e65a73c2 b_iA_count.1) (om_cb379553 b_iA_count.2))
    refine va_put (D := (dC, dI)) (ci := 0) (v := .int x_855) (ty := .int) (C := RX0) (T := TX0) (N := 4) hx hb hts inX0 tyX0 tyX0_ok nmX0 hown hK hP hD hS 0 rfl rfl 0 (by decide) (hts _ wd_374) (fun _ h9 => h9) rfl (by decide +kernel) rfl rfl (Nat.le_of_ble_eq_true rfl) dX0_takeBack_16 (fun H locs hP hD hS => ?_)
    obtain ⟨hP, hD⟩ := wl2 (ws' := [(oc0 oA x_855 rA_nodes rA_olds rA_says), (arI rA_nodes kA_nodes 16 fA_nodes), (arI rA_olds kA_olds 16 fA_olds), (arI rA_says kA_says 16 fA_says), (oc5 oS rS_worths rS_order rS_left), (arI rS_worths kS_worths 18 fS_worths), (arI rS_order kS_order 72 fS_order)]) hP hD rfl
    refine lv_aload_n hx hb dX0_takeBack_19 rfl (lv_at hl 0 rfl) ?_
    refine va_get (D := (dC, dI)) (ci := 0) (v := .ref rA_says) (C := RX0) (T := TX0) (N := 4) hx hb hts inX0 hown hK hP 0 rfl rfl 3 (by decide) (hts _ wd_137) (fun _ h9 => h9) rfl dX0_takeBack_20 ?_
    refine lv_aload_n hx hb dX0_takeBack_23 rfl (lv_at hl 0 rfl) ?_
    refine va_get (D := (dC, dI)) (ci := 0) (v := .int x_855) (C := RX0) (T := TX0) (N := 4) hx hb hts inX0 hown hK hP 0 rfl rfl 0 (by decide) (hts _ wd_374) (fun _ h9 => h9) rfl dX0_takeBack_24 ?_
    refine va_zald hx hb hK hP 3 2 rfl rfl (ti_in vx_855 (by omega) (om_e671a815 b_iA_count.2)) dX0_takeBack_27 ?_
    refine lv_topi (fun x_856 ex_856 => ?_)
    have hG := hG.trans (lt_eq ex_856)
    have kx_856 : (fA_says x_855.toNatClampNeg).toInt = x_856.toInt := by rw [ex_856]
    have ux_856 := a_fA_says _ (by have q := ti_cl (x := x_855) vx_855 (by omega); omega : x_855.toNatClampNeg < 16)
    rw [show fA_says x_855.toNatClampNeg = x_856 from ex_856.symm] at ux_856
    refine lv_if_eq (tgt := 57) hx hb dX0_takeBack_28 (by decide) (fun c_857 => ?_) (fun c_857 => ?_)
    · skip
      have hG := hG.trans (if_pos c_857)
      have gc_857 := ti_eq c_857 rfl kc_0
      refine lv_aload_n hx hb dX0_takeBack_57 rfl (lv_at hl 1 rfl) ?_
      refine lv_aload_n hx hb dX0_takeBack_58 rfl (lv_at hl 0 rfl) ?_
      refine va_get (D := (dC, dI)) (ci := 0) (v := .ref rA_nodes) (C := RX0) (T := TX0) (N := 4) hx hb hts inX0 hown hK hP 0 rfl rfl 1 (by decide) (hts _ wd_134) (fun _ h9 => h9) rfl dX0_takeBack_59 ?_
      refine lv_aload_n hx hb dX0_takeBack_62 rfl (lv_at hl 0 rfl) ?_
      refine va_get (D := (dC, dI)) (ci := 0) (v := .int x_855) (C := RX0) (T := TX0) (N := 4) hx hb hts inX0 hown hK hP 0 rfl rfl 0 (by decide) (hts _ wd_374) (fun _ h9 => h9) rfl dX0_takeBack_63 ?_
      refine va_iald hx hb hK hP 1 0 rfl rfl (ti_in vx_855 (by omega) (om_e671a815 b_iA_count.2)) dX0_takeBack_66 ?_
      refine lv_topi (fun x_858 ex_858 => ?_)
      have hG := hG.trans (lt_eq ex_858)
      have kx_858 : (fA_nodes x_855.toNatClampNeg).toInt = x_858.toInt := by rw [ex_858]
      have ux_858 := a_fA_nodes _ (by have q := ti_cl (x := x_855) vx_855 (by omega); omega : x_855.toNatClampNeg < 16)
      rw [show fA_nodes x_855.toNatClampNeg = x_858 from ex_858.symm] at ux_858
      refine lv_aload_n hx hb dX0_takeBack_67 rfl (lv_at hl 0 rfl) ?_
      refine va_get (D := (dC, dI)) (ci := 0) (v := .ref rA_olds) (C := RX0) (T := TX0) (N := 4) hx hb hts inX0 hown hK hP 0 rfl rfl 2 (by decide) (hts _ wd_135) (fun _ h9 => h9) rfl dX0_takeBack_68 ?_
      refine lv_aload_n hx hb dX0_takeBack_71 rfl (lv_at hl 0 rfl) ?_
      refine va_get (D := (dC, dI)) (ci := 0) (v := .int x_855) (C := RX0) (T := TX0) (N := 4) hx hb hts inX0 hown hK hP 0 rfl rfl 0 (by decide) (hts _ wd_374) (fun _ h9 => h9) rfl dX0_takeBack_72 ?_
      refine va_iald hx hb hK hP 2 1 rfl rfl (ti_in vx_855 (by omega) (om_e671a815 b_iA_count.2)) dX0_takeBack_75 ?_
      refine lv_topi (fun x_859 ex_859 => ?_)
      have hG := hG.trans (lt_eq ex_859)
      have kx_859 : (fA_olds x_855.toNatClampNeg).toInt = x_859.toInt := by rw [ex_859]
      have o_x_859 : (fA_says x_855.toNatClampNeg).toInt = 0 → 0 ≤ x_859.toInt ∧ x_859.toInt ≤ 3 := fun h9 => by rw [ex_859]; exact (show ∀ j : Nat, j < 16 → fA_says j = 0 → 0 ≤ (fA_olds j).toInt ∧ (fA_olds j).toInt ≤ 3 by assumption) _ (by have q := ti_cl (x := x_855) vx_855 (by omega); omega) (by rw [fz_eq, h9]; exact kc_0.symm)
      have hMs := ml_of hD [false, false, false, false, true, false, true] (wc := [(oc5 oS rS_worths rS_order rS_left), (arI rS_order kS_order 72 fS_order)]) rfl
      have hFc := va_freeM hD hS hA _ hMs
      refine va_callv (va_runV (As := [.int x_858, .int x_859]) (rest := []) ⟨hx, hb, hml, hown, hts⟩ (tX5_sendBack l dC dI _ oS rS_worths rS_order fS_order kS_order rS_left x_858 x_859 a_fS_order ⟨ux_858.1, ux_858.2⟩ (by first | assumption | (have q0 := kc_0; have q1 := kc_1; first | exact ⟨by omega, by omega⟩ | omega) | decide | (intro h; exact absurd h (by decide)))) (cwV 2 hts (wd_V wd_1403 wd_1404 wd_1405 wd_23 (wd_c wd_1406)) rfl rfl rfl dv_yX5_sendBack_2 ⟨Nat.le_of_ble_eq_true rfl, Nat.le_of_ble_eq_true rfl⟩) ⟨Pw.fb, recvX5 hK hP (q0 := 4) rfl, fun U hU hW => Pw.to (hP.ms _ hMs) (hD.ms _ hMs) (hK.ms [false, false, false, false, true] rfl) hE hS hFc hU hW⟩ rfl rfl hl.1 rfl (lv_room (Nat.le_of_ble_eq_true rfl)) dX0_takeBack_76 ⟨Nat.le_of_ble_eq_true rfl, Nat.le_of_ble_eq_true rfl⟩) hS (fun q _ h => hFc q h) hFc (fun u t H locs ht hvm hw hB hz1 hk1 hS => ?_)
      refine ex_1_2 hB (fun f_860 a_f_860 e_f_860_0 hB => ?_)
      obtain ⟨hP, hD⟩ := Bw.goN (ws' := [(oc0 oA x_855 rA_nodes rA_olds rA_says), (arI rA_nodes kA_nodes 16 fA_nodes), (arI rA_olds kA_olds 16 fA_olds), (arI rA_says kA_says 16 fA_says), (oc5 oS rS_worths rS_order rS_left), (arI rS_worths kS_worths 18 fS_worths), (arI rS_order kS_order 72 f_860)]) hB rfl ht hP hD _ hMs hk1 hFc rfl
      clear hz1 hk1 hvm ht hB hMs
      have hG := hG.trans (lt_eq e_f_860_0.symm)
      refine lv_iconst (v := 1) hx hb dX0_takeBack_79 (by decide) ?_
      exact wq_z (v := 1) hx hb hr rfl (cI 1) ⟨⟨Or.inr rfl, trivial⟩, (cI_of 1)⟩ (fun t ht hW => ⟨x_855, fS_worths, f_860, (by have q := vx_855; exact ⟨by omega, by omega⟩), a_f_860, (cI_tup hG), Bw.to hP hD hK ht hW⟩) hS dX0_takeBack_80 hlocks
    · skip
      have hG := hG.trans (if_neg c_857)
      have gc_857 := ti_ne c_857 rfl kc_0
      refine lv_aload_n hx hb dX0_takeBack_31 rfl (lv_at hl 1 rfl) ?_
      refine va_get (D := (dC, dI)) (ci := 5) (v := .ref rS_worths) (C := RX5) (T := TX5) (N := 3) hx hb hts inX5 hown hK hP 4 rfl rfl 0 (by decide) (hts _ wd_1402) (fun _ h9 => h9) rfl dX0_takeBack_32 ?_
      refine lv_aload_n hx hb dX0_takeBack_35 rfl (lv_at hl 0 rfl) ?_
      refine va_get (D := (dC, dI)) (ci := 0) (v := .ref rA_nodes) (C := RX0) (T := TX0) (N := 4) hx hb hts inX0 hown hK hP 0 rfl rfl 1 (by decide) (hts _ wd_134) (fun _ h9 => h9) rfl dX0_takeBack_36 ?_
      refine lv_aload_n hx hb dX0_takeBack_39 rfl (lv_at hl 0 rfl) ?_
      refine va_get (D := (dC, dI)) (ci := 0) (v := .int x_855) (C := RX0) (T := TX0) (N := 4) hx hb hts inX0 hown hK hP 0 rfl rfl 0 (by decide) (hts _ wd_374) (fun _ h9 => h9) rfl dX0_takeBack_40 ?_
      refine va_iald hx hb hK hP 1 0 rfl rfl (ti_in vx_855 (by omega) (om_e671a815 b_iA_count.2)) dX0_takeBack_43 ?_
      refine lv_topi (fun x_861 ex_861 => ?_)
      have hG := hG.trans (lt_eq ex_861)
      have kx_861 : (fA_nodes x_855.toNatClampNeg).toInt = x_861.toInt := by rw [ex_861]
      have ux_861 := a_fA_nodes _ (by have q := ti_cl (x := x_855) vx_855 (by omega); omega : x_855.toNatClampNeg < 16)
      rw [show fA_nodes x_855.toNatClampNeg = x_861 from ex_861.symm] at ux_861
      refine lv_aload_n hx hb dX0_takeBack_44 rfl (lv_at hl 0 rfl) ?_
      refine va_get (D := (dC, dI)) (ci := 0) (v := .ref rA_olds) (C := RX0) (T := TX0) (N := 4) hx hb hts inX0 hown hK hP 0 rfl rfl 2 (by decide) (hts _ wd_135) (fun _ h9 => h9) rfl dX0_takeBack_45 ?_
      refine lv_aload_n hx hb dX0_takeBack_48 rfl (lv_at hl 0 rfl) ?_
      refine va_get (D := (dC, dI)) (ci := 0) (v := .int x_855) (C := RX0) (T := TX0) (N := 4) hx hb hts inX0 hown hK hP 0 rfl rfl 0 (by decide) (hts _ wd_374) (fun _ h9 => h9) rfl dX0_takeBack_49 ?_
      refine va_iald hx hb hK hP 2 1 rfl rfl (ti_in vx_855 (by omega) (om_e671a815 b_iA_count.2)) dX0_takeBack_52 ?_
      refine lv_topi (fun x_862 ex_862 => ?_)
      have hG := hG.trans (lt_eq ex_862)
      have kx_862 : (fA_olds x_855.toNatClampNeg).toInt = x_862.toInt := by rw [ex_862]
      have o_x_862 : (fA_says x_855.toNatClampNeg).toInt = 0 → 0 ≤ x_862.toInt ∧ x_862.toInt ≤ 3 := fun h9 => by rw [ex_862]; exact (show ∀ j : Nat, j < 16 → fA_says j = 0 → 0 ≤ (fA_olds j).toInt ∧ (fA_olds j).toInt ≤ 3 by assumption) _ (by have q := ti_cl (x := x_855) vx_855 (by omega); omega) (by rw [fz_eq, h9]; exact kc_0.symm)
      refine va_iast hx hb hK hP hD hS 5 3 rfl rfl (ti_in rfl ux_861.1 (om_b3735a34 ux_861.2)) dX0_takeBack_53 (fun H locs hP hD hS => ?_)
      obtain ⟨f_864, ef_864⟩ : ∃ g : Nat → Int32, g = upd fS_worths x_861.toNatClampNeg x_862 := ⟨_, rfl⟩
      rw [← ef_864] at hP hD
      have hG := hG.trans (lt_eq ef_864)
      obtain ⟨hP, hD⟩ := wl2 (ws' := [(oc0 oA x_855 rA_nodes rA_olds rA_says), (arI rA_nodes kA_nodes 16 fA_nodes), (arI rA_olds kA_olds 16 fA_olds), (arI rA_says kA_says 16 fA_says), (oc5 oS rS_worths rS_order rS_left), (arI rS_worths kS_worths 18 f_864), (arI rS_order kS_order 72 fS_order)]) hP hD rfl
      refine lv_goto (tgt := 79) hx hb dX0_takeBack_54 (by decide) ?_
      refine lv_iconst (v := 1) hx hb dX0_takeBack_79 (by decide) ?_
      exact wq_z (v := 1) hx hb hr rfl (cI 1) ⟨⟨Or.inr rfl, trivial⟩, (cI_of 1)⟩ (fun t ht hW => ⟨x_855, f_864, fS_order, (by have q := vx_855; exact ⟨by omega, by omega⟩), a_fS_order, (cI_tup hG), Bw.to hP hD hK ht hW⟩) hS dX0_takeBack_80 hlocks
  · skip
    have hG := hG.trans (if_pos c_854)
    have gc_854 := ti_eq c_854 rfl kc_0
    refine lv_iconst (v := 0) hx hb dX0_takeBack_7 (by decide) ?_
    exact wq_z (v := 0) hx hb hr rfl (cI 0) ⟨⟨Or.inl rfl, trivial⟩, (cI_of 0)⟩ (fun t ht hW => ⟨iA_count, fS_worths, fS_order, b_iA_count, a_fS_order, (cI_tup hG), Bw.to hP hD hK ht hW⟩) hS dX0_takeBack_8 hlocks
