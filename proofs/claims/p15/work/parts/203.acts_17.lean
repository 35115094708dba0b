set_option maxHeartbeats 4000000 in
set_option maxRecDepth 100000 in
theorem tX0_forget (l : Launch) (dC : Nat → ClassId) (dI : Nat → Nat → Nat) (sz : Nat) (oA : Nat) (iA_count : Int32) (rA_nodes : Nat) (rA_olds : Nat) (rA_says : Nat) (b_iA_count : 0 ≤ iA_count.toInt ∧ iA_count.toInt ≤ 16)  : Met l yX0_forget (Cond.code yX0_forget cX0_forget 1 none :: wG) ({ frames := 0, cells := 0, slots := 0, locals := 0 }) (va_Pc [.ref oA] (Pw dC dI sz [(oc0 oA iA_count rA_nodes rA_olds rA_says)] [])) (va_Qv (fun (_ : Nat) => True) (fun (_ : Nat) (t : State) => ∃ (niA_count : Int32), (0 ≤ niA_count.toInt ∧ niA_count.toInt ≤ 0) ∧ (PX0_forget = niA_count) ∧ Bw dC dI (va_A [(oc0 oA iA_count rA_nodes rA_olds rA_says)] sz) [(oc0 oA niA_count rA_nodes rA_olds rA_says)] [] t) (va_A [(oc0 oA iA_count rA_nodes rA_olds rA_says)] sz)) 0 0 (va_A [(oc0 oA iA_count rA_nodes rA_olds rA_says)] sz) := by
  refine Met.ofW (cc := cX0_forget) (maxL := 1) (ret := none) pnX0 rfl ?_
  intro p e s m args below meth c s₁ B hml hv
  obtain ⟨rfl, hsz, hP, hK, hD0, hE⟩ := hv
  have hx := B.exec
  have hb := B.bytes
  have hr := B.returns
  have hts : ∀ w ∈ wG, w.before ([.ref oA] : List Value).toArray s = true := fun w h => atoms_spec (ws := Cond.code yX0_forget cX0_forget 1 none :: wG) B.pre w (List.mem_cons_of_mem _ h)
  have hown : s.vm.findClass RX0 = some m.cls := own_of B.named rfl
  have hlocks := B.notSynchronized
  subst hsz
  have hD := hD0.self (sz := s.heap.size)
  generalize hAe : va_A [(oc0 oA iA_count rA_nodes rA_olds rA_says)] s.heap.size = A at hD hE ⊢
  have hA : ∀ q : Nat, s.heap.size ≤ q → A q := fun q h => by rw [← hAe]; exact Or.inr h
  have hS : va_S A s.heap s.heap [] := va_S.rf
  have hl := lv_entry ([.ref oA]) (n := 1) (Nat.le_of_ble_eq_true rfl)
  rw [lg_entry_eq]
  generalize (lg_sl ([.ref oA]) ++ List.replicate (1 - (lg_sl ([.ref oA])).length) Slot.unset).toArray = ls at hl ⊢
  have hl : lv_has ls 1 [(0, .ref oA)] := hl
  have hG := PX0_forget_eq
  refine lv_aload_n hx hb dX0_forget_0 rfl (lv_at hl 0 rfl) ?_
  refine lv_iconst (v := 0) hx hb dX0_forget_1 (by decide) ?_
  refine va_put (D := (dC, dI)) (ci := 0) (v := .int 0) (ty := .int) (C := RX0) (T := TX0) (N := 4) hx hb hts inX0 tyX0 tyX0_ok nmX0 hown hK hP hD hS 0 rfl rfl 0 (by decide) (hts _ wd_374) (fun _ h9 => h9) rfl (by decide +kernel) rfl rfl (Nat.le_of_ble_eq_true rfl) dX0_forget_2 (fun H locs hP hD hS => ?_)
  obtain ⟨hP, hD⟩ := wl2 (ws' := [(oc0 oA 0 rA_nodes rA_olds rA_says)]) hP hD rfl
  exact wq_v hx hb hr 0 trivial (fun t ht hW => ⟨0, (by decide), hG, Bw.to hP hD hK ht hW⟩) hS dX0_forget_5 hlocks
set_option maxHeartbeats 4000000 in
set_option maxRecDepth 100000 in
theorem tX0_dropOldest (l : Launch) (dC : Nat → ClassId) (dI : Nat → Nat → Nat) (sz : Nat) (oA : Nat) (iA_count : Int32) (rA_nodes : Nat) (fA_nodes : Nat → Int32) (kA_nodes : ClassId) (rA_olds : Nat) (fA_olds : Nat → Int32) (kA_olds : ClassId) (rA_says : Nat) (fA_says : Nat → Int32) (kA_says : ClassId) (b_iA_count : 0 ≤ iA_count.toInt ∧ iA_count.toInt ≤ 16) (a_fA_nodes : ∀ j : Nat, j < 16 → 0 ≤ (fA_nodes j).toInt ∧ (fA_nodes j).toInt ≤ 17) (a_fA_says : ∀ j : Nat, j < 16 → 0 ≤ (fA_says j).toInt ∧ (fA_says j).toInt ≤ 1) (r_A : ∀ j : Nat, j < 16 → fA_says j = 0 → 0 ≤ (fA_olds j).toInt ∧ (fA_olds j).toInt ≤ 3)  : Met l yX0_dropOldest (Cond.code yX0_dropOldest cX0_dropOldest 2 none :: wG) ({ frames := 0, cells := 0, slots := 0, locals := 0 }) (va_Pc [.ref oA] (Pw dC dI sz [(oc0 oA iA_count rA_nodes rA_olds rA_says), (arI rA_nodes kA_nodes 16 fA_nodes), (arI rA_olds kA_olds 16 fA_olds), (arI rA_says kA_says 16 fA_says)] [(kA_nodes, .int), (kA_olds, .int), (kA_says, .boolean)])) (va_Qv (fun (_ : Nat) => True) (fun (_ : Nat) (t : State) => ∃ (niA_count : Int32) (nfA_nodes : Nat → Int32) (nfA_olds : Nat → Int32) (nfA_says : Nat → Int32), (15 ≤ niA_count.toInt ∧ niA_count.toInt ≤ 15) ∧ (∀ j : Nat, j < 16 → 0 ≤ (nfA_nodes j).toInt ∧ (nfA_nodes j).toInt ≤ 17) ∧ (∀ j : Nat, j < 16 → 0 ≤ (nfA_says j).toInt ∧ (nfA_says j).toInt ≤ 1) ∧ (∀ j : Nat, j < 16 → nfA_says j = 0 → 0 ≤ (nfA_olds j).toInt ∧ (nfA_olds j).toInt ≤ 3) ∧ (PX0_dropOldest fA_nodes fA_olds fA_says = (niA_count, nfA_nodes, nfA_olds, nfA_says)) ∧ Bw dC dI (va_A [(oc0 oA iA_count rA_nodes rA_olds rA_says), (arI rA_nodes kA_nodes 16 fA_nodes), (arI rA_olds kA_olds 16 fA_olds), (arI rA_says kA_says 16 fA_says)] sz) [(oc0 oA niA_count rA_nodes rA_olds rA_says), (arI rA_nodes kA_nodes 16 nfA_nodes), (arI rA_olds kA_olds 16 nfA_olds), (arI rA_says kA_says 16 nfA_says)] [(kA_nodes, .int), (kA_olds, .int), (kA_says, .boolean)] t) (va_A [(oc0 oA iA_count rA_nodes rA_olds rA_says), (arI rA_nodes kA_nodes 16 fA_nodes), (arI rA_olds kA_olds 16 fA_olds), (arI rA_says kA_says 16 fA_says)] sz)) 0 0 (va_A [(oc0 oA iA_count rA_nodes rA_olds rA_says), (arI rA_nodes kA_nodes 16 fA_nodes), (arI rA_olds kA_olds 16 fA_olds), (arI rA_says kA_says 16 fA_says)] sz) := by
  refine Met.ofW (cc := cX0_dropOldest) (maxL := 2) (ret := none) pnX0 rfl ?_
  intro p e s m args below meth c s₁ B hml hv
  obtain ⟨rfl, hsz, hP, hK, hD0, hE⟩ := hv
  have hx := B.exec
  have hb := B.bytes
  have hr := B.returns
  have hts : ∀ w ∈ wG, w.before ([.ref oA] : List Value).toArray s = true := fun w h => atoms_spec (ws := Cond.code yX0_dropOldest cX0_dropOldest 2 none :: wG) B.pre w (List.mem_cons_of_mem _ h)
  have hown : s.vm.findClass RX0 = some m.cls := own_of B.named rfl
  have hlocks := B.notSynchronized
  subst hsz
  have hD := hD0.self (sz := s.heap.size)
  generalize hAe : va_A [(oc0 oA iA_count rA_nodes rA_olds rA_says), (arI rA_nodes kA_nodes 16 fA_nodes), (arI rA_olds kA_olds 16 fA_olds), (arI rA_says kA_says 16 fA_says)] s.heap.size = A at hD hE ⊢
  have hA : ∀ q : Nat, s.heap.size ≤ q → A q := fun q h => by rw [← hAe]; exact Or.inr h
  have hS : va_S A s.heap s.heap [] := va_S.rf
  have hl := lv_entry ([.ref oA]) (n := 2) (Nat.le_of_ble_eq_true rfl)
  rw [lg_entry_eq]
  generalize (lg_sl ([.ref oA]) ++ List.replicate (2 - (lg_sl ([.ref oA])).length) Slot.unset).toArray = ls at hl ⊢
  have hl : lv_has ls 2 [(0, .ref oA)] := hl
  have hG := PX0_dropOldest_eq fA_nodes fA_olds fA_says
  refine lv_iconst (v := 1) hx hb dX0_dropOldest_0 (by decide) ?_
  refine lv_istore_n (lv' := [(1, .int 1), (0, .ref oA)]) hx hb dX0_dropOldest_1 rfl hl (by decide) rfl (fun ls hl => ?_)
  have hl := lv_sub hl (l' := [(1, .int 1), (0, .ref oA)]) [0, 1] rfl
  have key_n_788 : ∀ (n_788 : Nat) (z_784 : Int32) (f_785 : Nat → Int32) (f_786 : Nat → Int32) (f_787 : Nat → Int32) (H : Heap) (locs : List Loc) (ls : Array Slot), (∀ j : Nat, j < 16 → 0 ≤ (f_786 j).toInt ∧ (f_786 j).toInt ≤ 1) → (∀ j : Nat, j < 16 → 0 ≤ (f_787 j).toInt ∧ (f_787 j).toInt ≤ 17) → (1 ≤ z_784.toInt ∧ z_784.toInt ≤ 16) → (∀ j : Nat, j < 16 → f_786 j = 0 → 0 ≤ (f_785 j).toInt ∧ (f_785 j).toInt ≤ 3) → (16 - z_784.toInt).toNat < n_788 → (PX0_dropOldest fA_nodes fA_olds fA_says = HX0_dropOldest_0 n_788 z_784 f_785 f_786 f_787) → va_P (dC, dI) vwCl [(oc0 oA iA_count rA_nodes rA_olds rA_says), (arI rA_nodes kA_nodes 16 f_787), (arI rA_olds kA_olds 16 f_785), (arI rA_says kA_says 16 f_786)] H → va_D A [(oc0 oA iA_count rA_nodes rA_olds rA_says), (arI rA_nodes kA_nodes 16 f_787), (arI rA_olds kA_olds 16 f_785), (arI rA_says kA_says 16 f_786)] → va_S A s.heap H locs → lv_has ls 2 [(1, .int z_784), (0, .ref oA)] → W p l e (headSpec (Cond.code yX0_dropOldest cX0_dropOldest 2 none :: wG) ({ frames := 0, cells := 0, slots := 0, locals := 0 })).room s m ([.ref oA] : List Value).toArray below meth c H locs 0 0 (MQ below (va_Qv (fun (_ : Nat) => True) (fun (_ : Nat) (t : State) => ∃ (niA_count : Int32) (nfA_nodes : Nat → Int32) (nfA_olds : Nat → Int32) (nfA_says : Nat → Int32), (15 ≤ niA_count.toInt ∧ niA_count.toInt ≤ 15) ∧ (∀ j : Nat, j < 16 → 0 ≤ (nfA_nodes j).toInt ∧ (nfA_nodes j).toInt ≤ 17) ∧ (∀ j : Nat, j < 16 → 0 ≤ (nfA_says j).toInt ∧ (nfA_says j).toInt ≤ 1) ∧ (∀ j : Nat, j < 16 → nfA_says j = 0 → 0 ≤ (nfA_olds j).toInt ∧ (nfA_olds j).toInt ≤ 3) ∧ (PX0_dropOldest fA_nodes fA_olds fA_says = (niA_count, nfA_nodes, nfA_olds, nfA_says)) ∧ Bw dC dI A [(oc0 oA niA_count rA_nodes rA_olds rA_says), (arI rA_nodes kA_nodes 16 nfA_nodes), (arI rA_olds kA_olds 16 nfA_olds), (arI rA_says kA_says 16 nfA_says)] [(kA_nodes, .int), (kA_olds, .int), (kA_says, .boolean)] t) A) ([.ref oA] : List Value).toArray s 0 0 A) (F0 m 2 ls []) := by
    intro n_788
    induction n_788 with
    | zero => intro z_784 f_785 f_786 f_787 H locs ls a_f_786 a_f_787 hi0_n_788 hi1_n_788 hm; exact absurd hm (Nat.not_lt_zero _)
    | succ n_788 ih_n_788 =>
      intro z_784 f_785 f_786 f_787 H locs ls a_f_786 a_f_787 hi0_n_788 hi1_n_788 hm_n_788 hG hP hD hS hl
      have hG := hG.trans (HX0_dropOldest_0_eq _ _ _ _ _)
      refine lv_iload_n hx hb dX0_dropOldest_2 rfl (lv_at hl 0 rfl) ?_
      refine lv_bipush (v := 16) hx hb dX0_dropOldest_3 (by decide) ?_
      refine lv_icmp_ge (tgt := 56) hx hb dX0_dropOldest_5 (by decide) (fun c_789 => ?_) (fun c_789 => ?_)
      · skip
        have hG := hG.trans (if_pos c_789)
        have gc_789 := ti_le c_789 kc_16 rfl
        refine lv_aload_n hx hb dX0_dropOldest_56 rfl (lv_at hl 1 rfl) ?_
        refine lv_bipush (v := 15) hx hb dX0_dropOldest_57 (by decide) ?_
        refine va_put (D := (dC, dI)) (ci := 0) (v := .int 15) (ty := .int) (C := RX0) (T := TX0) (N := 4) hx hb hts inX0 tyX0 tyX0_ok nmX0 hown hK hP hD hS 0 rfl rfl 0 (by decide) (hts _ wd_374) (fun _ h9 => h9) rfl (by decide +kernel) rfl rfl (Nat.le_of_ble_eq_true rfl) dX0_dropOldest_59 (fun H locs hP hD hS => ?_)
        obtain ⟨hP, hD⟩ := wl2 (ws' := [(oc0 oA 15 rA_nodes rA_olds rA_says), (arI rA_nodes kA_nodes 16 f_787), (arI rA_olds kA_olds 16 f_785), (arI rA_says kA_says 16 f_786)]) hP hD rfl
        exact wq_v hx hb hr 0 trivial (fun t ht hW => ⟨15, f_787, f_785, f_786, (by decide), a_f_787, a_f_786, (by first | assumption | omega | decide), hG, Bw.to hP hD hK ht hW⟩) hS dX0_dropOldest_62 hlocks
      · skip
        have hG := hG.trans (if_neg c_789)
        have gc_789 := ti_nle c_789 kc_16 rfl
        refine lv_aload_n hx hb dX0_dropOldest_8 rfl (lv_at hl 1 rfl) ?_
        refine va_get (D := (dC, dI)) (ci := 0) (v := .ref rA_nodes) (C := RX0) (T := TX0) (N := 4) hx hb hts inX0 hown hK hP 0 rfl rfl 1 (by decide) (hts _ wd_134) (fun _ h9 => h9) rfl dX0_dropOldest_9 ?_
        refine lv_iload_n hx hb dX0_dropOldest_12 rfl (lv_at hl 0 rfl) ?_
        refine lv_iconst (v := 1) hx hb dX0_dropOldest_13 (by decide) ?_
        refine lv_isub hx hb dX0_dropOldest_14 ?_
        refine lv_topi (fun x_790 ex_790 => ?_)
        have hG := hG.trans (lt_eq ex_790)
        have vx_790 : x_790.toInt = z_784.toInt + (-1) := om_89646172 (ti_sub ex_790 rfl kc_1 (om_32108caa hi0_n_788.1) (om_cb379553 hi0_n_788.2))
        refine lv_aload_n hx hb dX0_dropOldest_15 rfl (lv_at hl 1 rfl) ?_
        refine va_get (D := (dC, dI)) (ci := 0) (v := .ref rA_nodes) (C := RX0) (T := TX0) (N := 4) hx hb hts inX0 hown hK hP 0 rfl rfl 1 (by decide) (hts _ wd_134) (fun _ h9 => h9) rfl dX0_dropOldest_16 ?_
        refine lv_iload_n hx hb dX0_dropOldest_19 rfl (lv_at hl 0 rfl) ?_
        refine va_iald hx hb hK hP 1 0 rfl rfl (ti_in rfl (om_71d41aa1 hi0_n_788.1) (om_ed5512fd gc_789)) dX0_dropOldest_20 ?_
        refine lv_topi (fun x_791 ex_791 => ?_)
        have hG := hG.trans (lt_eq ex_791)
        have kx_791 : (f_787 z_784.toNatClampNeg).toInt = x_791.toInt := by rw [ex_791]
        have ux_791 := a_f_787 z_784.toNatClampNeg (cl_lt rfl (om_71d41aa1 hi0_n_788.1) (om_ed5512fd gc_789))
        rw [show f_787 z_784.toNatClampNeg = x_791 from ex_791.symm] at ux_791
        refine va_iast hx hb hK hP hD hS 1 0 rfl rfl (ti_in vx_790 (om_201a3488 hi0_n_788.1) (om_e671a815 hi0_n_788.2)) dX0_dropOldest_21 (fun H locs hP hD hS => ?_)
        obtain ⟨f_793, ef_793⟩ : ∃ g : Nat → Int32, g = upd f_787 x_790.toNatClampNeg x_791 := ⟨_, rfl⟩
        rw [← ef_793] at hP hD
        have hG := hG.trans (lt_eq ef_793)
        obtain ⟨hP, hD⟩ := wl2 (ws' := [(oc0 oA iA_count rA_nodes rA_olds rA_says), (arI rA_nodes kA_nodes 16 f_793), (arI rA_olds kA_olds 16 f_785), (arI rA_says kA_says 16 f_786)]) hP hD rfl
        have a_f_793 : ∀ j : Nat, j < 16 → 0 ≤ (f_793 j).toInt ∧ (f_793 j).toInt ≤ 17 := by rw [ef_793]; exact upd_in a_f_787 ux_791
        refine lv_aload_n hx hb dX0_dropOldest_22 rfl (lv_at hl 1 rfl) ?_
        refine va_get (D := (dC, dI)) (ci := 0) (v := .ref rA_olds) (C := RX0) (T := TX0) (N := 4) hx hb hts inX0 hown hK hP 0 rfl rfl 2 (by decide) (hts _ wd_135) (fun _ h9 => h9) rfl dX0_dropOldest_23 ?_
        refine lv_iload_n hx hb dX0_dropOldest_26 rfl (lv_at hl 0 rfl) ?_
        refine lv_iconst (v := 1) hx hb dX0_dropOldest_27 (by decide) ?_
        refine lv_isub hx hb dX0_dropOldest_28 ?_
        refine lv_topi (fun x_794 ex_794 => ?_)
        have hG := hG.trans (lt_eq ex_794)
        have vx_794 : x_794.toInt = z_784.toInt + (-1) := om_89646172 (ti_sub ex_794 rfl kc_1 (om_32108caa hi0_n_788.1) (om_cb379553 hi0_n_788.2))
        refine lv_aload_n hx hb dX0_dropOldest_29 rfl (lv_at hl 1 rfl) ?_
        refine va_get (D := (dC, dI)) (ci := 0) (v := .ref rA_olds) (C := RX0) (T := TX0) (N := 4) hx hb hts inX0 hown hK hP 0 rfl rfl 2 (by decide) (hts _ wd_135) (fun _ h9 => h9) rfl dX0_dropOldest_30 ?_
        refine lv_iload_n hx hb dX0_dropOldest_33 rfl (lv_at hl 0 rfl) ?_
        refine va_iald hx hb hK hP 2 1 rfl rfl (ti_in rfl (om_71d41aa1 hi0_n_788.1) (om_ed5512fd gc_789)) dX0_dropOldest_34 ?_
        refine lv_topi (fun x_795 ex_795 => ?_)
        have hG := hG.trans (lt_eq ex_795)
        have kx_795 : (f_785 z_784.toNatClampNeg).toInt = x_795.toInt := by rw [ex_795]
        refine va_iast hx hb hK hP hD hS 2 1 rfl rfl (ti_in vx_794 (om_201a3488 hi0_n_788.1) (om_e671a815 hi0_n_788.2)) dX0_dropOldest_35 (fun H locs hP hD hS => ?_)
        obtain ⟨f_797, ef_797⟩ : ∃ g : Nat → Int32, g = upd f_785 x_794.toNatClampNeg x_795 := ⟨_, rfl⟩
        rw [← ef_797] at hP hD
        have hG := hG.trans (lt_eq ef_797)
        obtain ⟨hP, hD⟩ := wl2 (ws' := [(oc0 oA iA_count rA_nodes rA_olds rA_says), (arI rA_nodes kA_nodes 16 f_793), (arI rA_olds kA_olds 16 f_797), (arI rA_says kA_says 16 f_786)]) hP hD rfl
        refine lv_aload_n hx hb dX0_dropOldest_36 rfl (lv_at hl 1 rfl) ?_
        refine va_get (D := (dC, dI)) (ci := 0) (v := .ref rA_says) (C := RX0) (T := TX0) (N := 4) hx hb hts inX0 hown hK hP 0 rfl rfl 3 (by decide) (hts _ wd_137) (fun _ h9 => h9) rfl dX0_dropOldest_37 ?_
        refine lv_iload_n hx hb dX0_dropOldest_40 rfl (lv_at hl 0 rfl) ?_
        refine lv_iconst (v := 1) hx hb dX0_dropOldest_41 (by decide) ?_
        refine lv_isub hx hb dX0_dropOldest_42 ?_
        refine lv_topi (fun x_798 ex_798 => ?_)
        have hG := hG.trans (lt_eq ex_798)
        have vx_798 : x_798.toInt = z_784.toInt + (-1) := om_89646172 (ti_sub ex_798 rfl kc_1 (om_32108caa hi0_n_788.1) (om_cb379553 hi0_n_788.2))
        refine lv_aload_n hx hb dX0_dropOldest_43 rfl (lv_at hl 1 rfl) ?_
        refine va_get (D := (dC, dI)) (ci := 0) (v := .ref rA_says) (C := RX0) (T := TX0) (N := 4) hx hb hts inX0 hown hK hP 0 rfl rfl 3 (by decide) (hts _ wd_137) (fun _ h9 => h9) rfl dX0_dropOldest_44 ?_
        refine lv_iload_n hx hb dX0_dropOldest_47 rfl (lv_at hl 0 rfl) ?_
        refine va_zald hx hb hK hP 3 2 rfl rfl (ti_in rfl (om_71d41aa1 hi0_n_788.1) (om_ed5512fd gc_789)) dX0_dropOldest_48 ?_
        refine lv_topi (fun x_799 ex_799 => ?_)
        have hG := hG.trans (lt_eq ex_799)
        have kx_799 : (f_786 z_784.toNatClampNeg).toInt = x_799.toInt := by rw [ex_799]
        have ux_799 := a_f_786 z_784.toNatClampNeg (cl_lt rfl (om_71d41aa1 hi0_n_788.1) (om_ed5512fd gc_789))
        rw [show f_786 z_784.toNatClampNeg = x_799 from ex_799.symm] at ux_799
        refine va_zast hx hb hK hP hD hS 3 2 rfl rfl (ti_in vx_798 (om_201a3488 hi0_n_788.1) (om_e671a815 hi0_n_788.2)) dX0_dropOldest_49 (fun H locs hP hD hS => ?_)
        obtain ⟨f_801, ef_801⟩ : ∃ g : Nat → Int32, g = upd f_786 x_798.toNatClampNeg (vp_nar .boolean x_799) := ⟨_, rfl⟩
        rw [← ef_801] at hP hD
        have hG := hG.trans (lt_eq ef_801)
        obtain ⟨hP, hD⟩ := wl2 (ws' := [(oc0 oA iA_count rA_nodes rA_olds rA_says), (arI rA_nodes kA_nodes 16 f_793), (arI rA_olds kA_olds 16 f_797), (arI rA_says kA_says 16 f_801)]) hP hD rfl
        have a_f_801 : ∀ j : Nat, j < 16 → 0 ≤ (f_801 j).toInt ∧ (f_801 j).toInt ≤ 1 := by rw [ef_801]; exact upd_in a_f_786 (by rw [zb_nar (by omega)]; omega)
        have ix_f_801 : x_798 = x_794 := by rw [fz_eq]; omega
        have r_f_801 : ∀ j : Nat, j < 16 → f_801 j = 0 → 0 ≤ (f_797 j).toInt ∧ (f_797 j).toInt ≤ 3 := by rw [ef_801, ef_797, ix_f_801]; exact rel_upd (x := x_795) (s := vp_nar .boolean x_799) (by assumption) (fun h0 => by rw [zb_nar (by omega)] at h0; first | exact hk0 h0 | (rw [ex_795]; exact (show ∀ j : Nat, j < 16 → f_786 j = 0 → 0 ≤ (f_785 j).toInt ∧ (f_785 j).toInt ≤ 3 by assumption) _ (by have q := ti_cl (x := z_784) rfl (om_71d41aa1 hi0_n_788.1); omega) (ex_799 ▸ h0)))
        obtain ⟨x_802, ex_802⟩ : ∃ z : Int32, z = z_784 + Int32.ofInt 1 := ⟨_, rfl⟩
        have hG := hG.trans (lt_eq ex_802)
        have vx_802 : x_802.toInt = z_784.toInt + 1 := ti_add (y := 1) ex_802 rfl kc_1 (om_6872dcca hi0_n_788.1) (om_f5e430c4 hi0_n_788.2)
        refine lv_iinc (v := x_802) (lv' := [(1, .int x_802), (0, .ref oA)]) hx hb dX0_dropOldest_50 hl (k := 0) rfl ex_802.symm (by decide) rfl (fun ls hl => ?_)
        refine lv_goto (tgt := 2) hx hb dX0_dropOldest_53 (by decide) ?_
        exact ih_n_788 x_802 f_797 f_801 f_793 _ _ _ a_f_801 a_f_793 ⟨(om_3b07fe9e hi0_n_788.1 vx_802), (om_145e734a gc_789 vx_802)⟩ (by first | assumption | omega | decide) (ms_lt hm_n_788 (om_29546207 vx_802) (om_e0241e09 gc_789)) hG hP hD hS (lv_sub hl [0, 1] rfl)
  exact key_n_788 (((16 - (1 : Int32).toInt).toNat) + 1) 1 fA_olds fA_says fA_nodes _ _ _ a_fA_says a_fA_nodes ⟨(om_c083232f kc_1), (om_41d8dd7f kc_1)⟩ (by first | assumption | omega | decide) (Nat.lt_add_one _) hG hP hD hS hl
set_option maxHeartbeats 4000000 in
set_option maxRecDepth 100000 in
theorem tX0_keep (l : Launch) (dC : Nat → ClassId) (dI : Nat → Nat → Nat) (sz : Nat) (oA : Nat) (iA_count : Int32) (rA_nodes : Nat) (fA_nodes : Nat → Int32) (kA_nodes : ClassId) (rA_olds : Nat) (fA_olds : Nat → Int32) (kA_olds : ClassId) (rA_says : Nat) (fA_says : Nat → Int32) (kA_says : ClassId) (p0 : Int32) (p1 : Int32) (p2 : Int32) (b_iA_count : 0 ≤ iA_count.toInt ∧ iA_count.toInt ≤ 16) (a_fA_nodes : ∀ j : Nat, j < 16 → 0 ≤ (fA_nodes j).toInt ∧ (fA_nodes j).toInt ≤ 17) (a_fA_says : ∀ j : Nat, j < 16 → 0 ≤ (fA_says j).toInt ∧ (fA_says j).toInt ≤ 1) (r_A : ∀ j : Nat, j < 16 → fA_says j = 0 → 0 ≤ (fA_olds j).toInt ∧ (fA_olds j).toInt ≤ 3) (hp0 : 0 ≤ p0.toInt ∧ p0.toInt ≤ 17) (hp2 : 0 ≤ p2.toInt ∧ p2.toInt ≤ 1) (hk0 : p2 = 0 → 0 ≤ p1.toInt ∧ p1.toInt ≤ 3) : Met l yX0_keep (Cond.code yX0_keep cX0_keep 4 none :: wG) ({ frames := 1, cells := 0, slots := 0, locals := 21 }) (va_Pc [.ref oA, .int p0, .int p1, .int p2] (Pw dC dI sz [(oc0 oA iA_count rA_nodes rA_olds rA_says), (arI rA_nodes kA_nodes 16 fA_nodes), (arI rA_olds kA_olds 16 fA_olds), (arI rA_says kA_says 16 fA_says)] [(kA_nodes, .int), (kA_olds, .int), (kA_says, .boolean)])) (va_Qv (fun (_ : Nat) => True) (fun (_ : Nat) (t : State) => ∃ (niA_count : Int32) (nfA_nodes : Nat → Int32) (nfA_olds : Nat → Int32) (nfA_says : Nat → Int32), (0 ≤ niA_count.toInt ∧ niA_count.toInt ≤ 16) ∧ (∀ j : Nat, j < 16 → 0 ≤ (nfA_nodes j).toInt ∧ (nfA_nodes j).toInt ≤ 17) ∧ (∀ j : Nat, j < 16 → 0 ≤ (nfA_says j).toInt ∧ (nfA_says j).toInt ≤ 1) ∧ (∀ j : Nat, j < 16 → nfA_says j = 0 → 0 ≤ (nfA_olds j).toInt ∧ (nfA_olds j).toInt ≤ 3) ∧ (PX0_keep iA_count fA_nodes fA_olds fA_says p0 p1 p2 = (niA_count, nfA_nodes, nfA_olds, nfA_says)) ∧ Bw dC dI (va_A [(oc0 oA iA_count rA_nodes rA_olds rA_says), (arI rA_nodes kA_nodes 16 fA_nodes), (arI rA_olds kA_olds 16 fA_olds), (arI rA_says kA_says 16 fA_says)] sz) [(oc0 oA niA_count rA_nodes rA_olds rA_says), (arI rA_nodes kA_nodes 16 nfA_nodes), (arI rA_olds kA_olds 16 nfA_olds), (arI rA_says kA_says 16 nfA_says)] [(kA_nodes, .int), (kA_olds, .int), (kA_says, .boolean)] t) (va_A [(oc0 oA iA_count rA_nodes rA_olds rA_says), (arI rA_nodes kA_nodes 16 fA_nodes), (arI rA_olds kA_olds 16 fA_olds), (arI rA_says kA_says 16 fA_says)] sz)) 0 0 (va_A [(oc0 oA iA_count rA_nodes rA_olds rA_says), (arI rA_nodes kA_nodes 16 fA_nodes), (arI rA_olds kA_olds 16 fA_olds), (arI rA_says kA_says 16 fA_says)] sz) := by
  refine Met.ofW (cc := cX0_keep) (maxL := 4) (ret := none) pnX0 rfl ?_
  intro p e s m args below meth c s₁ B hml hv
  obtain ⟨rfl, hsz, hP, hK, hD0, hE⟩ := hv
  have hx := B.exec
  have hb := B.bytes
  have hr := B.returns
  have hts : ∀ w ∈ wG, w.before ([.ref oA, .int p0, .int p1, .int p2] : List Value).toArray s = true := fun w h => atoms_spec (ws := Cond.code yX0_keep cX0_keep 4 none :: wG) B.pre w (List.mem_cons_of_mem _ h)
  have hown : s.vm.findClass RX0 = some m.cls := own_of B.named rfl
  have hlocks := B.notSynchronized
  subst hsz
  have hD := hD0.self (sz := s.heap.size)
  generalize hAe : va_A [(oc0 oA iA_count rA_nodes rA_olds rA_says), (arI rA_nodes kA_nodes 16 fA_nodes), (arI rA_olds kA_olds 16 fA_olds), (arI rA_says kA_says 16 fA_says)] s.heap.size = A at hD hE ⊢
  have hA : ∀ q : Nat, s.heap.size ≤ q → A q := fun q h => by rw [← hAe]; exact Or.inr h
  have hS : va_S A s.heap s.heap [] := va_S.rf
  have hl := lv_entry ([.ref oA, .int p0, .int p1, .int p2]) (n := 4) (Nat.le_of_ble_eq_true rfl)
  rw [lg_entry_eq]
  generalize (lg_sl ([.ref oA, .int p0, .int p1, .int p2]) ++ List.replicate (4 - (lg_sl ([.ref oA, .int p0, .int p1, .int p2])).length) Slot.unset).toArray = ls at hl ⊢
  have hl : lv_has ls 4 [(0, .ref oA), (1, .int p0), (2, .int p1), (3, .int p2)] := hl
  have hG := PX0_keep_eq iA_count fA_nodes fA_olds fA_says p0 p1 p2
  refine lv_aload_n hx hb dX0_keep_0 rfl (lv_at hl 0 rfl) ?_
  refine va_get (D := (dC, dI)) (ci := 0) (v := .int iA_count) (C := RX0) (T := TX0) (N := 4) hx hb hts inX0 hown hK hP 0 rfl rfl 0 (by decide) (hts _ wd_374) (fun _ h9 => h9) rfl dX0_keep_1 ?_
  refine lv_bipush (v := 16) hx hb dX0_keep_4 (by decide) ?_
  refine lv_icmp_ne (tgt := 13) hx hb dX0_keep_6 (by decide) (fun c_820 => ?_) (fun c_820 => ?_)
  · skip
    have hG := hG.trans (if_neg c_820)
    have gc_820 := ti_ne c_820 rfl kc_16
    refine lv_aload_n hx hb dX0_keep_13 rfl (lv_at hl 0 rfl) ?_
    refine va_get (D := (dC, dI)) (ci := 0) (v := .ref rA_nodes) (C := RX0) (T := TX0) (N := 4) hx hb hts inX0 hown hK hP 0 rfl rfl 1 (by decide) (hts _ wd_134) (fun _ h9 => h9) rfl dX0_keep_14 ?_
    refine lv_aload_n hx hb dX0_keep_17 rfl (lv_at hl 0 rfl) ?_
    refine va_get (D := (dC, dI)) (ci := 0) (v := .int iA_count) (C := RX0) (T := TX0) (N := 4) hx hb hts inX0 hown hK hP 0 rfl rfl 0 (by decide) (hts _ wd_374) (fun _ h9 => h9) rfl dX0_keep_18 ?_
    refine lv_iload_n hx hb dX0_keep_21 rfl (lv_at hl 1 rfl) ?_
    refine va_iast hx hb hK hP hD hS 1 0 rfl rfl (ti_in rfl b_iA_count.1 (by omega)) dX0_keep_22 (fun H locs hP hD hS => ?_)
    obtain ⟨f_822, ef_822⟩ : ∃ g : Nat → Int32, g = upd fA_nodes iA_count.toNatClampNeg p0 := ⟨_, rfl⟩
    rw [← ef_822] at hP hD
    have hG := hG.trans (lt_eq ef_822)
    obtain ⟨hP, hD⟩ := wl2 (ws' := [(oc0 oA iA_count rA_nodes rA_olds rA_says), (arI rA_nodes kA_nodes 16 f_822), (arI rA_olds kA_olds 16 fA_olds), (arI rA_says kA_says 16 fA_says)]) hP hD rfl
    have a_f_822 : ∀ j : Nat, j < 16 → 0 ≤ (f_822 j).toInt ∧ (f_822 j).toInt ≤ 17 := by rw [ef_822]; exact upd_in a_fA_nodes ⟨hp0.1, hp0.2⟩
    refine lv_aload_n hx hb dX0_keep_23 rfl (lv_at hl 0 rfl) ?_
    refine va_get (D := (dC, dI)) (ci := 0) (v := .ref rA_olds) (C := RX0) (T := TX0) (N := 4) hx hb hts inX0 hown hK hP 0 rfl rfl 2 (by decide) (hts _ wd_135) (fun _ h9 => h9) rfl dX0_keep_24 ?_
    refine lv_aload_n hx hb dX0_keep_27 rfl (lv_at hl 0 rfl) ?_
    refine va_get (D := (dC, dI)) (ci := 0) (v := .int iA_count) (C := RX0) (T := TX0) (N := 4) hx hb hts inX0 hown hK hP 0 rfl rfl 0 (by decide) (hts _ wd_374) (fun _ h9 => h9) rfl dX0_keep_28 ?_
    refine lv_iload_n hx hb dX0_keep_31 rfl (lv_at hl 2 rfl) ?_
    refine va_iast hx hb hK hP hD hS 2 1 rfl rfl (ti_in rfl b_iA_count.1 (by omega)) dX0_keep_32 (fun H locs hP hD hS => ?_)
    obtain ⟨f_824, ef_824⟩ : ∃ g : Nat → Int32, g = upd fA_olds iA_count.toNatClampNeg p1 := ⟨_, rfl⟩
    rw [← ef_824] at hP hD
    have hG := hG.trans (lt_eq ef_824)
    obtain ⟨hP, hD⟩ := wl2 (ws' := [(oc0 oA iA_count rA_nodes rA_olds rA_says), (arI rA_nodes kA_nodes 16 f_822), (arI rA_olds kA_olds 16 f_824), (arI rA_says kA_says 16 fA_says)]) hP hD rfl
    refine lv_aload_n hx hb dX0_keep_33 rfl (lv_at hl 0 rfl) ?_
    refine va_get (D := (dC, dI)) (ci := 0) (v := .ref rA_says) (C := RX0) (T := TX0) (N := 4) hx hb hts inX0 hown hK hP 0 rfl rfl 3 (by decide) (hts _ wd_137) (fun _ h9 => h9) rfl dX0_keep_34 ?_
    refine lv_aload_n hx hb dX0_keep_37 rfl (lv_at hl 0 rfl) ?_
    refine va_get (D := (dC, dI)) (ci := 0) (v := .int iA_count) (C := RX0) (T := TX0) (N := 4) hx hb hts inX0 hown hK hP 0 rfl rfl 0 (by decide) (hts _ wd_374) (fun _ h9 => h9) rfl dX0_keep_38 ?_
    refine lv_iload_n hx hb dX0_keep_41 rfl (lv_at hl 3 rfl) ?_
    refine va_zast hx hb hK hP hD hS 3 2 rfl rfl (ti_in rfl b_iA_count.1 (by omega)) dX0_keep_42 (fun H locs hP hD hS => ?_)
    obtain ⟨f_826, ef_826⟩ : ∃ g : Nat → Int32, g = upd fA_says iA_count.toNatClampNeg (vp_nar .boolean p2) := ⟨_, rfl⟩
    rw [← ef_826] at hP hD
    have hG := hG.trans (lt_eq ef_826)
    obtain ⟨hP, hD⟩ := wl2 (ws' := [(oc0 oA iA_count rA_nodes rA_olds rA_says), (arI rA_nodes kA_nodes 16 f_822), (arI rA_olds kA_olds 16 f_824), (arI rA_says kA_says 16 f_826)]) hP hD rfl
    have a_f_826 : ∀ j : Nat, j < 16 → 0 ≤ (f_826 j).toInt ∧ (f_826 j).toInt ≤ 1 := by rw [ef_826]; exact upd_in a_fA_says (by rw [zb_nar (by omega)]; omega)
    have r_f_826 : ∀ j : Nat, j < 16 → f_826 j = 0 → 0 ≤ (f_824 j).toInt ∧ (f_824 j).toInt ≤ 3 := by rw [ef_826, ef_824]; exact rel_upd (x := p1) (s := vp_nar .boolean p2) (by assumption) (fun h0 => by rw [zb_nar (by omega)] at h0; first | exact hk0 h0 | (rw [ep1]; exact (show ∀ j : Nat, j < 16 → fA_says j = 0 → 0 ≤ (fA_olds j).toInt ∧ (fA_olds j).toInt ≤ 3 by assumption) _ (by have q := ti_cl (x := iA_count) rfl b_iA_count.1; omega) (ep2 ▸ h0)))
    refine lv_aload_n hx hb dX0_keep_43 rfl (lv_at hl 0 rfl) ?_
    refine lv_dup hx hb dX0_keep_44 rfl ?_
    refine va_get (D := (dC, dI)) (ci := 0) (v := .int iA_count) (C := RX0) (T := TX0) (N := 4) hx hb hts inX0 hown hK hP 0 rfl rfl 0 (by decide) (hts _ wd_374) (fun _ h9 => h9) rfl dX0_keep_45 ?_
    refine lv_iconst (v := 1) hx hb dX0_keep_48 (by decide) ?_
    refine lv_iadd hx hb dX0_keep_49 ?_
    refine lv_topi (fun x_827 ex_827 => ?_)
    have hG := hG.trans (lt_eq ex_827)
    have vx_827 : x_827.toInt = iA_count.toInt + 1 := ti_add ex_827 rfl kc_1 (om_4e4fce7e b_iA_count.1) (om_f5e430c4 b_iA_count.2)
    refine va_put (D := (dC, dI)) (ci := 0) (v := .int x_827) (ty := .int) (C := RX0) (T := TX0) (N := 4) hx hb hts inX0 tyX0 tyX0_ok nmX0 hown hK hP hD hS 0 rfl rfl 0 (by decide) (hts _ wd_374) (fun _ h9 => h9) rfl (by decide +kernel) rfl rfl (Nat.le_of_ble_eq_true rfl) dX0_keep_50 (fun H locs hP hD hS => ?_)
    obtain ⟨hP, hD⟩ := wl2 (ws' := [(oc0 oA x_827 rA_nodes rA_olds rA_says), (arI rA_nodes kA_nodes 16 f_822), (arI rA_olds kA_olds 16 f_824), (arI rA_says kA_says 16 f_826)]) hP hD rfl
    exact wq_v hx hb hr 0 trivial (fun t ht hW => ⟨x_827, f_822, f_824, f_826, (by have q := vx_827; exact ⟨by omega, by omega⟩), a_f_822, a_f_826, (by first | assumption | omega | decide), hG, Bw.to hP hD hK ht hW⟩) hS dX0_keep_53 hlocks
  · skip
    have hG := hG.trans (if_pos c_820)
    have gc_820 := ti_eq c_820 rfl kc_16
    refine lv_aload_n hx hb dX0_keep_9 rfl (lv_at hl 0 rfl) ?_
    have hFc := va_freeI hD hS hA
    refine va_callv (va_runV (As := []) (rest := []) ⟨hx, hb, hml, hown, hts⟩ (tX0_dropOldest l dC dI _ oA iA_count rA_nodes fA_nodes kA_nodes rA_olds fA_olds kA_olds rA_says fA_says kA_says b_iA_count a_fA_nodes a_fA_says (by assumption)) (cwV 0 hts (wd_V wd_1369 wd_1370 wd_1371 wd_29 (wd_c wd_1372)) rfl rfl rfl dv_yX0_dropOldest_0 ⟨Nat.le_of_ble_eq_true rfl, Nat.le_of_ble_eq_true rfl⟩) ⟨Pw.fb, recvX0 hK hP (q0 := 0) rfl, fun U hU hW => Pw.to hP hD hK hE hS hFc hU hW⟩ rfl rfl hl.1 rfl (lv_room (Nat.le_of_ble_eq_true rfl)) dX0_keep_10 ⟨Nat.le_of_ble_eq_true rfl, Nat.le_of_ble_eq_true rfl⟩) hS (fun q _ h => hFc q h) hFc (fun u t H locs ht hvm hw hB hz1 hk1 hS => ?_)
    refine ex_4_5 hB (fun x_828 f_829 f_830 f_831 b_x_828 a_f_829 a_f_831 e_x_828_0 e_x_828_1 hB => ?_)
    obtain ⟨hP, hD⟩ := Bw.goA (ws' := [(oc0 oA x_828 rA_nodes rA_olds rA_says), (arI rA_nodes kA_nodes 16 f_829), (arI rA_olds kA_olds 16 f_830), (arI rA_says kA_says 16 f_831)]) hB rfl ht hFc rfl
    clear hz1 hk1 hvm ht hB
    have hG := hG.trans (un4_eq e_x_828_1)
    refine lv_aload_n hx hb dX0_keep_13 rfl (lv_at hl 0 rfl) ?_
    refine va_get (D := (dC, dI)) (ci := 0) (v := .ref rA_nodes) (C := RX0) (T := TX0) (N := 4) hx hb hts inX0 hown hK hP 0 rfl rfl 1 (by decide) (hts _ wd_134) (fun _ h9 => h9) rfl dX0_keep_14 ?_
    refine lv_aload_n hx hb dX0_keep_17 rfl (lv_at hl 0 rfl) ?_
    refine va_get (D := (dC, dI)) (ci := 0) (v := .int x_828) (C := RX0) (T := TX0) (N := 4) hx hb hts inX0 hown hK hP 0 rfl rfl 0 (by decide) (hts _ wd_374) (fun _ h9 => h9) rfl dX0_keep_18 ?_
    refine lv_iload_n hx hb dX0_keep_21 rfl (lv_at hl 1 rfl) ?_
    refine va_iast hx hb hK hP hD hS 1 0 rfl rfl (ti_in rfl (om_de94ac6e b_x_828.1) (om_eaf6b467 b_x_828.2)) dX0_keep_22 (fun H locs hP hD hS => ?_)
    obtain ⟨f_833, ef_833⟩ : ∃ g : Nat → Int32, g = upd f_829 x_828.toNatClampNeg p0 := ⟨_, rfl⟩
    rw [← ef_833] at hP hD
    have hG := hG.trans (lt_eq ef_833)
    obtain ⟨hP, hD⟩ := wl2 (ws' := [(oc0 oA x_828 rA_nodes rA_olds rA_says), (arI rA_nodes kA_nodes 16 f_833), (arI rA_olds kA_olds 16 f_830), (arI rA_says kA_says 16 f_831)]) hP hD rfl
    have a_f_833 : ∀ j : Nat, j < 16 → 0 ≤ (f_833 j).toInt ∧ (f_833 j).toInt ≤ 17 := by rw [ef_833]; exact upd_in a_f_829 ⟨hp0.1, hp0.2⟩
    refine lv_aload_n hx hb dX0_keep_23 rfl (lv_at hl 0 rfl) ?_
    refine va_get (D := (dC, dI)) (ci := 0) (v := .ref rA_olds) (C := RX0) (T := TX0) (N := 4) hx hb hts inX0 hown hK hP 0 rfl rfl 2 (by decide) (hts _ wd_135) (fun _ h9 => h9) rfl dX0_keep_24 ?_
    refine lv_aload_n hx hb dX0_keep_27 rfl (lv_at hl 0 rfl) ?_
    refine va_get (D := (dC, dI)) (ci := 0) (v := .int x_828) (C := RX0) (T := TX0) (N := 4) hx hb hts inX0 hown hK hP 0 rfl rfl 0 (by decide) (hts _ wd_374) (fun _ h9 => h9) rfl dX0_keep_28 ?_
    refine lv_iload_n hx hb dX0_keep_31 rfl (lv_at hl 2 rfl) ?_
    refine va_iast hx hb hK hP hD hS 2 1 rfl rfl (ti_in rfl (om_de94ac6e b_x_828.1) (om_eaf6b467 b_x_828.2)) dX0_keep_32 (fun H locs hP hD hS => ?_)
    obtain ⟨f_835, ef_835⟩ : ∃ g : Nat → Int32, g = upd f_830 x_828.toNatClampNeg p1 := ⟨_, rfl⟩
    rw [← ef_835] at hP hD
    have hG := hG.trans (lt_eq ef_835)
    obtain ⟨hP, hD⟩ := wl2 (ws' := [(oc0 oA x_828 rA_nodes rA_olds rA_says), (arI rA_nodes kA_nodes 16 f_833), (arI rA_olds kA_olds 16 f_835), (arI rA_says kA_says 16 f_831)]) hP hD rfl
    refine lv_aload_n hx hb dX0_keep_33 rfl (lv_at hl 0 rfl) ?_
    refine va_get (D := (dC, dI)) (ci := 0) (v := .ref rA_says) (C := RX0) (T := TX0) (N := 4) hx hb hts inX0 hown hK hP 0 rfl rfl 3 (by decide) (hts _ wd_137) (fun _ h9 => h9) rfl dX0_keep_34 ?_
    refine lv_aload_n hx hb dX0_keep_37 rfl (lv_at hl 0 rfl) ?_
    refine va_get (D := (dC, dI)) (ci := 0) (v := .int x_828) (C := RX0) (T := TX0) (N := 4) hx hb hts inX0 hown hK hP 0 rfl rfl 0 (by decide) (hts _ wd_374) (fun _ h9 => h9) rfl dX0_keep_38 ?_
    refine lv_iload_n hx hb dX0_keep_41 rfl (lv_at hl 3 rfl) ?_
    refine va_zast hx hb hK hP hD hS 3 2 rfl rfl (ti_in rfl (om_de94ac6e b_x_828.1) (om_eaf6b467 b_x_828.2)) dX0_keep_42 (fun H locs hP hD hS => ?_)
    obtain ⟨f_837, ef_837⟩ : ∃ g : Nat → Int32, g = upd f_831 x_828.toNatClampNeg (vp_nar .boolean p2) := ⟨_, rfl⟩
    rw [← ef_837] at hP hD
    have hG := hG.trans (lt_eq ef_837)
    obtain ⟨hP, hD⟩ := wl2 (ws' := [(oc0 oA x_828 rA_nodes rA_olds rA_says), (arI rA_nodes kA_nodes 16 f_833), (arI rA_olds kA_olds 16 f_835), (arI rA_says kA_says 16 f_837)]) hP hD rfl
    have a_f_837 : ∀ j : Nat, j < 16 → 0 ≤ (f_837 j).toInt ∧ (f_837 j).toInt ≤ 1 := by rw [ef_837]; exact upd_in a_f_831 (by rw [zb_nar (by omega)]; omega)
    have r_f_837 : ∀ j : Nat, j < 16 → f_837 j = 0 → 0 ≤ (f_835 j).toInt ∧ (f_835 j).toInt ≤ 3 := by rw [ef_837, ef_835]; exact rel_upd (x := p1) (s := vp_nar .boolean p2) (by assumption) (fun h0 => by rw [zb_nar (by omega)] at h0; first | exact hk0 h0 | (rw [ep1]; exact (show ∀ j : Nat, j < 16 → f_831 j = 0 → 0 ≤ (f_830 j).toInt ∧ (f_830 j).toInt ≤ 3 by assumption) _ (by have q := ti_cl (x := x_828) rfl (om_de94ac6e b_x_828.1); omega) (ep2 ▸ h0)))
    refine lv_aload_n hx hb dX0_keep_43 rfl (lv_at hl 0 rfl) ?_
    refine lv_dup hx hb dX0_keep_44 rfl ?_
    refine va_get (D := (dC, dI)) (ci := 0) (v := .int x_828) (C := RX0) (T := TX0) (N := 4) hx hb hts inX0 hown hK hP 0 rfl rfl 0 (by decide) (hts _ wd_374) (fun _ h9 => h9) rfl dX0_keep_45 ?_
    refine lv_iconst (v := 1) hx hb dX0_keep_48 (by decide) ?_
    refine lv_iadd hx hb dX0_keep_49 ?_
    refine lv_topi (fun x_838 ex_838 => ?_)
    have hG := hG.trans (lt_eq ex_838)
    have vx_838 : x_838.toInt = x_828.toInt + 1 := ti_add ex_838 rfl kc_1 (om_47296397 b_x_828.1) (om_33b66284 b_x_828.2)
    refine va_put (D := (dC, dI)) (ci := 0) (v := .int x_838) (ty := .int) (C := RX0) (T := TX0) (N := 4) hx hb hts inX0 tyX0 tyX0_ok nmX0 hown hK hP hD hS 0 rfl rfl 0 (by decide) (hts _ wd_374) (fun _ h9 => h9) rfl (by decide +kernel) rfl rfl (Nat.le_of_ble_eq_true rfl) dX0_keep_50 (fun H locs hP hD hS => ?_)
    obtain ⟨hP, hD⟩ := wl2 (ws' := [(oc0 oA x_838 rA_nodes rA_olds rA_says), (arI rA_nodes kA_nodes 16 f_833), (arI rA_olds kA_olds 16 f_835), (arI rA_says kA_says 16 f_837)]) hP hD rfl
    exact wq_v hx hb hr 0 trivial (fun t ht hW => ⟨x_838, f_833, f_835, f_837, ⟨(om_82d14459 b_x_828.1 vx_838), (om_c3f6ceea b_x_828.2 vx_838)⟩, a_f_833, a_f_837, (by first | assumption | omega | decide), hG, Bw.to hP hD hK ht hW⟩) hS dX0_keep_53 hlocks
set_option maxHeartbeats 4000000 in
set_option maxRecDepth 100000 in
theorem tX0_takeBack (l : Launch) (dC : Nat → ClassId) (dI : Nat → Nat → Nat) (sz : Nat) (oA : Nat) (iA_count : Int32) (rA_nodes : Nat) (fA_nodes : Nat → Int32) (kA_nodes : ClassId) (rA_olds : Nat) (fA_olds : Nat → Int32) (kA_olds : ClassId) (rA_says : Nat) (fA_says : Nat → Int32) (kA_says : ClassId) (oS : Nat) (rS_worths : Nat) (fS_worths : Nat → Int32) (kS_worths : ClassId) (rS_order : Nat) (fS_order : Nat → Int32) (kS_order : ClassId) (rS_left : Nat) (b_iA_count : 0 ≤ iA_count.toInt ∧ iA_count.toInt ≤ 16) (a_fA_nodes : ∀ j : Nat, j < 16 → 0 ≤ (fA_nodes j).toInt ∧ (fA_nodes j).toInt ≤ 17) (a_fA_says : ∀ j : Nat, j < 16 → 0 ≤ (fA_says j).toInt ∧ (fA_says j).toInt ≤ 1) (a_fS_order : ∀ j : Nat, j < 72 → 0 ≤ (fS_order j).toInt ∧ (fS_order j).toInt ≤ 3) (r_A : ∀ j : Nat, j < 16 → fA_says j = 0 → 0 ≤ (fA_olds j).toInt ∧ (fA_olds j).toInt ≤ 3)  : Met l yX0_takeBack (Cond.code yX0_takeBack cX0_takeBack 2 (some .boolean) :: wG) ({ frames := 1, cells := 0, slots := 0, locals := 25 }) (va_Pc [.ref oA, .ref oS] (Pw dC dI sz [(oc0 oA iA_count rA_nodes rA_olds rA_says), (arI rA_nodes kA_nodes 16 fA_nodes), (arI rA_olds kA_olds 16 fA_olds), (arI rA_says kA_says 16 fA_says), (oc5 oS rS_worths rS_order rS_left), (arI rS_worths kS_worths 18 fS_worths), (arI rS_order kS_order 72 fS_order)] [(kA_nodes, .int), (kA_olds, .int), (kA_says, .boolean), (kS_worths, .int), (kS_order, .int)])) (va_Qi (fun (r : Int32) (u : Nat) => ((r = 0 ∨ r = 1) ∧ True) ∧ r = Int32.ofNat u) (fun (u : Nat) (t : State) => ∃ (niA_count : Int32) (nfS_worths : Nat → Int32) (nfS_order : Nat → Int32), (0 ≤ niA_count.toInt ∧ niA_count.toInt ≤ 16) ∧ (∀ j : Nat, j < 72 → 0 ≤ (nfS_order j).toInt ∧ (nfS_order j).toInt ≤ 3) ∧ (PX0_takeBack iA_count fA_nodes fA_olds fA_says fS_worths fS_order = (Int32.ofNat u, niA_count, nfS_worths, nfS_order)) ∧ Bw dC dI (va_A [(oc0 oA iA_count rA_nodes rA_olds rA_says), (arI rA_nodes kA_nodes 16 fA_nodes), (arI rA_olds kA_olds 16 fA_olds), (arI rA_says kA_says 16 fA_says), (oc5 oS rS_worths rS_order rS_left), (arI rS_worths kS_worths 18 fS_worths), (arI rS_order kS_order 72 fS_order)] sz) [(oc0 oA niA_count rA_nodes rA_olds rA_says), (arI rA_nodes kA_nodes 16 fA_nodes), (arI rA_olds kA_olds 16 fA_olds), (arI rA_says kA_says 16 fA_says), (oc5 oS rS_worths rS_order rS_left), (arI rS_worths kS_worths 18 nfS_worths), (arI rS_order kS_order 72 nfS_order)] [(kA_nodes, .int), (kA_olds, .int), (kA_says, .boolean), (kS_worths, .int), (kS_order, .int)] t) (va_A [(oc0 oA iA_count rA_nodes rA_olds rA_says), (arI rA_nodes kA_nodes 16 fA_nodes), (arI rA_olds kA_olds 16 fA_olds), (arI rA_says kA_says 16 fA_says), (oc5 oS rS_worths rS_order rS_left), (arI rS_worths kS_worths 18 fS_worths), (arI rS_order kS_order 72 fS_order)] sz)) 0 0 (va_A [(oc0 oA iA_count rA_nodes rA_olds rA_says), (arI rA_nodes kA_nodes 16 fA_nodes), (arI rA_olds kA_olds 16 fA_olds), (arI rA_says kA_says 16 fA_says), (oc5 oS rS_worths rS_order rS_left), (arI rS_worths kS_worths 18 fS_worths), (arI rS_order kS_order 72 fS_order)] sz) := by
  refine Met.ofW (cc := cX0_takeBack) (maxL := 2) (ret := (some .boolean)) pnX0 rfl ?_
  intro p e s m args below meth c s₁ B hml hv
  obtain ⟨rfl, hsz, hP, hK, hD0, hE⟩ := hv
  have hx := B.exec
  have hb := B.bytes
  have hr := B.returns
  have hts : ∀ w ∈ wG, w.before ([.ref oA, .ref oS] : List Value).toArray s = true := fun w h => atoms_spec (ws := Cond.code yX0_takeBack cX0_takeBack 2 (some .boolean) :: wG) B.pre w (List.mem_cons_of_mem _ h)
  have hown : s.vm.findClass RX0 = some m.cls := own_of B.named rfl
  have hlocks := B.notSynchronized
  subst hsz
  have hD := hD0.self (sz := s.heap.size)
  generalize hAe : va_A [(oc0 oA iA_count rA_nodes rA_olds rA_says), (arI rA_nodes kA_nodes 16 fA_nodes), (arI rA_olds kA_olds 16 fA_olds), (arI rA_says kA_says 16 fA_says), (oc5 oS rS_worths rS_order rS_left), (arI rS_worths kS_worths 18 fS_worths), (arI rS_order kS_order 72 fS_order)] s.heap.size = A at hD hE ⊢
  have hA : ∀ q : Nat, s.heap.size ≤ q → A q := fun q h => by rw [← hAe]; exact Or.inr h
  have hS : va_S A s.heap s.heap [] := va_S.rf
  have hl := lv_entry ([.ref oA, .ref oS]) (n := 2) (Nat.le_of_ble_eq_true rfl)
  rw [lg_entry_eq]
  generalize (lg_sl ([.ref oA, .ref oS]) ++ List.replicate (2 - (lg_sl ([.ref oA, .ref oS])).length) Slot.unset).toArray = ls at hl ⊢
  have hl : lv_has ls 2 [(0, .ref oA), (1, .ref oS)] := hl
  have hG := PX0_takeBack_eq iA_count fA_nodes fA_olds fA_says fS_worths fS_order
  refine lv_aload_n hx hb dX0_takeBack_0 rfl (lv_at hl 0 rfl) ?_
  refine va_get (D := (dC, dI)) (ci := 0) (v := .int iA_count) (C := RX0) (T := TX0) (N := 4) hx hb hts inX0 hown hK hP 0 rfl rfl 0 (by decide) (hts _ wd_374) (fun _ h9 => h9) rfl dX0_takeBack_1 ?_
  refine lv_if_ne (tgt := 9) hx hb dX0_takeBack_4 (by decide) (fun c_849 => ?_) (fun c_849 => ?_)
  · skip
    have hG := hG.trans (if_neg c_849)
    have gc_849 := ti_ne c_849 rfl kc_0
    refine lv_aload_n hx hb dX0_takeBack_9 rfl (lv_at hl 0 rfl) ?_
    refine lv_dup hx hb dX0_takeBack_10 rfl ?_
    refine va_get (D := (dC, dI)) (ci := 0) (v := .int iA_count) (C := RX0) (T := TX0) (N := 4) hx hb hts inX0 hown hK hP 0 rfl rfl 0 (by decide) (hts _ wd_374) (fun _ h9 => h9) rfl dX0_takeBack_11 ?_
    refine lv_iconst (v := 1) hx hb dX0_takeBack_14 (by decide) ?_
    refine lv_isub hx hb dX0_takeBack_15 ?_
    refine lv_topi (fun x_850 ex_850 => ?_)
    have hG := hG.trans (lt_eq ex_850)
    have vx_850 : x_850.toInt = iA_count.toInt + (-1) := om_89646172 (ti_sub ex_850 rfl kc_1 (om_e65a73c2 b_iA_count.1) (om_cb379553 b_iA_count.2))
    refine va_put (D := (dC, dI)) (ci := 0) (v := .int x_850) (ty := .int) (C := RX0) (T := TX0) (N := 4) hx hb hts inX0 tyX0 tyX0_ok nmX0 hown hK hP hD hS 0 rfl rfl 0 (by decide) (hts _ wd_374) (fun _ h9 => h9) rfl (by decide +kernel) rfl rfl (Nat.le_of_ble_eq_true rfl) dX0_takeBack_16 (fun H locs hP hD hS => ?_)
    obtain ⟨hP, hD⟩ := wl2 (ws' := [(oc0 oA x_850 rA_nodes rA_olds rA_says), (arI rA_nodes kA_nodes 16 fA_nodes), (arI rA_olds kA_olds 16 fA_olds), (arI rA_says kA_says 16 fA_says), (oc5 oS rS_worths rS_order rS_left), (arI rS_worths kS_worths 18 fS_worths), (arI rS_order kS_order 72 fS_order)]) hP hD rfl
    refine lv_aload_n hx hb dX0_takeBack_19 rfl (lv_at hl 0 rfl) ?_
    refine va_get (D := (dC, dI)) (ci := 0) (v := .ref rA_says) (C := RX0) (T := TX0) (N := 4) hx hb hts inX0 hown hK hP 0 rfl rfl 3 (by decide) (hts _ wd_137) (fun _ h9 => h9) rfl dX0_takeBack_20 ?_
    refine lv_aload_n hx hb dX0_takeBack_23 rfl (lv_at hl 0 rfl) ?_
    refine va_get (D := (dC, dI)) (ci := 0) (v := .int x_850) (C := RX0) (T := TX0) (N := 4) hx hb hts inX0 hown hK hP 0 rfl rfl 0 (by decide) (hts _ wd_374) (fun _ h9 => h9) rfl dX0_takeBack_24 ?_
    refine va_zald hx hb hK hP 3 2 rfl rfl (ti_in vx_850 (by omega) (om_e671a815 b_iA_count.2)) dX0_takeBack_27 ?_
    refine lv_topi (fun x_851 ex_851 => ?_)
    have hG := hG.trans (lt_eq ex_851)
    have kx_851 : (fA_says x_850.toNatClampNeg).toInt = x_851.toInt := by rw [ex_851]
    have ux_851 := a_fA_says _ (by have q := ti_cl (x := x_850) vx_850 (by omega); omega : x_850.toNatClampNeg < 16)
    rw [show fA_says x_850.toNatClampNeg = x_851 from ex_851.symm] at ux_851
    refine lv_if_eq (tgt := 57) hx hb dX0_takeBack_28 (by decide) (fun c_852 => ?_) (fun c_852 => ?_)
    · skip
      have hG := hG.trans (if_pos c_852)
      have gc_852 := ti_eq c_852 rfl kc_0
      refine lv_aload_n hx hb dX0_takeBack_57 rfl (lv_at hl 1 rfl) ?_
      refine lv_aload_n hx hb dX0_takeBack_58 rfl (lv_at hl 0 rfl) ?_
      refine va_get (D := (dC, dI)) (ci := 0) (v := .ref rA_nodes) (C := RX0) (T := TX0) (N := 4) hx hb hts inX0 hown hK hP 0 rfl rfl 1 (by decide) (hts _ wd_134) (fun _ h9 => h9) rfl dX0_takeBack_59 ?_
      refine lv_aload_n hx hb dX0_takeBack_62 rfl (lv_at hl 0 rfl) ?_
      refine va_get (D := (dC, dI)) (ci := 0) (v := .int x_850) (C := RX0) (T := TX0) (N := 4) hx hb hts inX0 hown hK hP 0 rfl rfl 0 (by decide) (hts _ wd_374) (fun _ h9 => h9) rfl dX0_takeBack_63 ?_
      refine va_iald hx hb hK hP 1 0 rfl rfl (ti_in vx_850 (by omega) (om_e671a815 b_iA_count.2)) dX0_takeBack_66 ?_
      refine lv_topi (fun x_853 ex_853 => ?_)
      have hG := hG.trans (lt_eq ex_853)
      have kx_853 : (fA_nodes x_850.toNatClampNeg).toInt = x_853.toInt := by rw [ex_853]
      have ux_853 := a_fA_nodes _ (by have q := ti_cl (x := x_850) vx_850 (by omega); omega : x_850.toNatClampNeg < 16)
      rw [show fA_nodes x_850.toNatClampNeg = x_853 from ex_853.symm] at ux_853
      refine lv_aload_n hx hb dX0_takeBack_67 rfl (lv_at hl 0 rfl) ?_
      refine va_get (D := (dC, dI)) (ci := 0) (v := .ref rA_olds) (C := RX0) (T := TX0) (N := 4) hx hb hts inX0 hown hK hP 0 rfl rfl 2 (by decide) (hts _ wd_135) (fun _ h9 => h9) rfl dX0_takeBack_68 ?_
      refine lv_aload_n hx hb dX0_takeBack_71 rfl (lv_at hl 0 rfl) ?_
      refine va_get (D := (dC, dI)) (ci := 0) (v := .int x_850) (C := RX0) (T := TX0) (N := 4) hx hb hts inX0 hown hK hP 0 rfl rfl 0 (by decide) (hts _ wd_374) (fun _ h9 => h9) rfl dX0_takeBack_72 ?_
      refine va_iald hx hb hK hP 2 1 rfl rfl (ti_in vx_850 (by omega) (om_e671a815 b_iA_count.2)) dX0_takeBack_75 ?_
      refine lv_topi (fun x_854 ex_854 => ?_)
      have hG := hG.trans (lt_eq ex_854)
      have kx_854 : (fA_olds x_850.toNatClampNeg).toInt = x_854.toInt := by rw [ex_854]
      have o_x_854 : (fA_says x_850.toNatClampNeg).toInt = 0 → 0 ≤ x_854.toInt ∧ x_854.toInt ≤ 3 := fun h9 => by rw [ex_854]; exact (show ∀ j : Nat, j < 16 → fA_says j = 0 → 0 ≤ (fA_olds j).toInt ∧ (fA_olds j).toInt ≤ 3 by assumption) _ (by have q := ti_cl (x := x_850) vx_850 (by omega); omega) (by rw [fz_eq, h9]; exact kc_0.symm)
      have hMs := ml_of hD [false, false, false, false, true, false, true] (wc := [(oc5 oS rS_worths rS_order rS_left), (arI rS_order kS_order 72 fS_order)]) rfl
      have hFc := va_freeM hD hS hA _ hMs
      refine va_callv (va_runV (As := [.int x_853, .int x_854]) (rest := []) ⟨hx, hb, hml, hown, hts⟩ (tX5_sendBack l dC dI _ oS rS_worths rS_order fS_order kS_order rS_left x_853 x_854 a_fS_order ⟨ux_853.1, ux_853.2⟩ (by first | assumption | (have q0 := kc_0; have q1 := kc_1; first | exact ⟨by omega, by omega⟩ | omega) | decide | (intro h; exact absurd h (by decide)))) (cwV 2 hts (wd_V wd_1403 wd_1404 wd_1405 wd_23 (wd_c wd_1406)) rfl rfl rfl dv_yX5_sendBack_2 ⟨Nat.le_of_ble_eq_true rfl, Nat.le_of_ble_eq_true rfl⟩) ⟨Pw.fb, recvX5 hK hP (q0 := 4) rfl, fun U hU hW => Pw.to (hP.ms _ hMs) (hD.ms _ hMs) (hK.ms [false, false, false, false, true] rfl) hE hS hFc hU hW⟩ rfl rfl hl.1 rfl (lv_room (Nat.le_of_ble_eq_true rfl)) dX0_takeBack_76 ⟨Nat.le_of_ble_eq_true rfl, Nat.le_of_ble_eq_true rfl⟩) hS (fun q _ h => hFc q h) hFc (fun u t H locs ht hvm hw hB hz1 hk1 hS => ?_)
      refine ex_1_2 hB (fun f_855 a_f_855 e_f_855_0 hB => ?_)
      obtain ⟨hP, hD⟩ := Bw.goN (ws' := [(oc0 oA x_850 rA_nodes rA_olds rA_says), (arI rA_nodes kA_nodes 16 fA_nodes), (arI rA_olds kA_olds 16 fA_olds), (arI rA_says kA_says 16 fA_says), (oc5 oS rS_worths rS_order rS_left), (arI rS_worths kS_worths 18 fS_worths), (arI rS_order kS_order 72 f_855)]) hB rfl ht hP hD _ hMs hk1 hFc rfl
      clear hz1 hk1 hvm ht hB hMs
      have hG := hG.trans (lt_eq e_f_855_0.symm)
      refine lv_iconst (v := 1) hx hb dX0_takeBack_79 (by decide) ?_
      exact wq_z (v := 1) hx hb hr rfl (cI 1) ⟨⟨Or.inr rfl, trivial⟩, (cI_of 1)⟩ (fun t ht hW => ⟨x_850, fS_worths, f_855, (by have q := vx_850; exact ⟨by omega, by omega⟩), a_f_855, (cI_tup hG), Bw.to hP hD hK ht hW⟩) hS dX0_takeBack_80 hlocks
    · skip
      have hG := hG.trans (if_neg c_852)
      have gc_852 := ti_ne c_852 rfl kc_0
      refine lv_aload_n hx hb dX0_takeBack_31 rfl (lv_at hl 1 rfl) ?_
      refine va_get (D := (dC, dI)) (ci := 5) (v := .ref rS_worths) (C := RX5) (T := TX5) (N := 3) hx hb hts inX5 hown hK hP 4 rfl rfl 0 (by decide) (hts _ wd_1402) (fun _ h9 => h9) rfl dX0_takeBack_32 ?_
      refine lv_aload_n hx hb dX0_takeBack_35 rfl (lv_at hl 0 rfl) ?_
      refine va_get (D := (dC, dI)) (ci := 0) (v := .ref rA_nodes) (C := RX0) (T := TX0) (N := 4) hx hb hts inX0 hown hK hP 0 rfl rfl 1 (by decide) (hts _ wd_134) (fun _ h9 => h9) rfl dX0_takeBack_36 ?_
      refine lv_aload_n hx hb dX0_takeBack_39 rfl (lv_at hl 0 rfl) ?_
      refine va_get (D := (dC, dI)) (ci := 0) (v := .int x_850) (C := RX0) (T := TX0) (N := 4) hx hb hts inX0 hown hK hP 0 rfl rfl 0 (by decide) (hts _ wd_374) (fun _ h9 => h9) rfl dX0_takeBack_40 ?_
      refine va_iald hx hb hK hP 1 0 rfl rfl (ti_in vx_850 (by omega) (om_e671a815 b_iA_count.2)) dX0_takeBack_43 ?_
      refine lv_topi (fun x_856 ex_856 => ?_)
      have hG := hG.trans (lt_eq ex_856)
      have kx_856 : (fA_nodes x_850.toNatClampNeg).toInt = x_856.toInt := by rw [ex_856]
      have ux_856 := a_fA_nodes _ (by have q := ti_cl (x := x_850) vx_850 (by omega); omega : x_850.toNatClampNeg < 16)
      rw [show fA_nodes x_850.toNatClampNeg = x_856 from ex_856.symm] at ux_856
      refine lv_aload_n hx hb dX0_takeBack_44 rfl (lv_at hl 0 rfl) ?_
      refine va_get (D := (dC, dI)) (ci := 0) (v := .ref rA_olds) (C := RX0) (T := TX0) (N := 4) hx hb hts inX0 hown hK hP 0 rfl rfl 2 (by decide) (hts _ wd_135) (fun _ h9 => h9) rfl dX0_takeBack_45 ?_
      refine lv_aload_n hx hb dX0_takeBack_48 rfl (lv_at hl 0 rfl) ?_
      refine va_get (D := (dC, dI)) (ci := 0) (v := .int x_850) (C := RX0) (T := TX0) (N := 4) hx hb hts inX0 hown hK hP 0 rfl rfl 0 (by decide) (hts _ wd_374) (fun _ h9 => h9) rfl dX0_takeBack_49 ?_
      refine va_iald hx hb hK hP 2 1 rfl rfl (ti_in vx_850 (by omega) (om_e671a815 b_iA_count.2)) dX0_takeBack_52 ?_
      refine lv_topi (fun x_857 ex_857 => ?_)
      have hG := hG.trans (lt_eq ex_857)
      have kx_857 : (fA_olds x_850.toNatClampNeg).toInt = x_857.toInt := by rw [ex_857]
      have o_x_857 : (fA_says x_850.toNatClampNeg).toInt = 0 → 0 ≤ x_857.toInt ∧ x_857.toInt ≤ 3 := fun h9 => by rw [ex_857]; exact (show ∀ j : Nat, j < 16 → fA_says j = 0 → 0 ≤ (fA_olds j).toInt ∧ (fA_olds j).toInt ≤ 3 by assumption) _ (by have q := ti_cl (x := x_850) vx_850 (by omega); omega) (by rw [fz_eq, h9]; exact kc_0.symm)
      refine va_iast hx hb hK hP hD hS 5 3 rfl rfl (ti_in rfl ux_856.1 (om_b3735a34 ux_856.2)) dX0_takeBack_53 (fun H locs hP hD hS => ?_)
      obtain ⟨f_859, ef_859⟩ : ∃ g : Nat → Int32, g = upd fS_worths x_856.toNatClampNeg x_857 := ⟨_, rfl⟩
      rw [← ef_859] at hP hD
      have hG := hG.trans (lt_eq ef_859)
      obtain ⟨hP, hD⟩ := wl2 (ws' := [(oc0 oA x_850 rA_nodes rA_olds rA_says), (arI rA_nodes kA_nodes 16 fA_nodes), (arI rA_olds kA_olds 16 fA_olds), (arI rA_says kA_says 16 fA_says), (oc5 oS rS_worths rS_order rS_left), (arI rS_worths kS_worths 18 f_859), (arI rS_order kS_order 72 fS_order)]) hP hD rfl
      refine lv_goto (tgt := 79) hx hb dX0_takeBack_54 (by decide) ?_
      refine lv_iconst (v := 1) hx hb dX0_takeBack_79 (by decide) ?_
      exact wq_z (v := 1) hx hb hr rfl (cI 1) ⟨⟨Or.inr rfl, trivial⟩, (cI_of 1)⟩ (fun t ht hW => ⟨x_850, f_859, fS_order, (by have q := vx_850; exact ⟨by omega, by omega⟩), a_fS_order, (cI_tup hG), Bw.to hP hD hK ht hW⟩) hS dX0_takeBack_80 hlocks
  · skip
    have hG := hG.trans (if_pos c_849)
    have gc_849 := ti_eq c_849 rfl kc_0
    refine lv_iconst (v := 0) hx hb dX0_takeBack_7 (by decide) ?_
    exact wq_z (v := 0) hx hb hr rfl (cI 0) ⟨⟨Or.inl rfl, trivial⟩, (cI_of 0)⟩ (fun t ht hW => ⟨iA_count, fS_worths, fS_order, b_iA_count, a_fS_order, (cI_tup hG), Bw.to hP hD hK ht hW⟩) hS dX0_takeBack_8 hlocks
