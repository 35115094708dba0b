theorem dL_led_0 : decode cL_led 0 = .ok (.aload_n 2, 1) := by decide +kernel
theorem dL_led_1 : decode cL_led 1 = .ok (.iconst 0, 1) := by decide +kernel
theorem dL_led_2 : decode cL_led 2 = .ok (.aload_n 0, 1) := by decide +kernel
theorem dL_led_3 : decode cL_led 3 = .ok (.iload_n 1, 1) := by decide +kernel
theorem dL_led_4 : decode cL_led 4 = .ok (.invokevirtual 7, 3) := by decide +kernel
theorem dL_led_12 : decode cL_led 12 = .ok (.astore_n 3, 1) := by decide +kernel
theorem dL_led_13 : decode cL_led 13 = .ok (.iconst 1, 1) := by decide +kernel
theorem dL_led_14 : decode cL_led 14 = .ok (.ireturn, 1) := by decide +kernel
theorem dX6_led_0 : decode cX6_led 0 = .ok (.aload_n 0, 1) := by decide +kernel
theorem dX6_led_1 : decode cX6_led 1 = .ok (.getfield 19, 3) := by decide +kernel
theorem dX6_led_4 : decode cX6_led 4 = .ok (.getfield 103, 3) := by decide +kernel
theorem dX6_led_7 : decode cX6_led 7 = .ok (.ifCond .le 11, 3) := by decide +kernel
theorem dX6_led_18 : decode cX6_led 18 = .ok (.iconst (-1), 1) := by decide +kernel
theorem dX6_led_19 : decode cX6_led 19 = .ok (.istore_n 2, 1) := by decide +kernel
theorem dX6_led_20 : decode cX6_led 20 = .ok (.iload_n 2, 1) := by decide +kernel
theorem dX6_led_21 : decode cX6_led 21 = .ok (.ifCond .ge 14, 3) := by decide +kernel
theorem dX6_led_24 : decode cX6_led 24 = .ok (.new 360, 3) := by decide +kernel
theorem dX6_led_27 : decode cX6_led 27 = .ok (.dup, 1) := by decide +kernel
theorem dX6_led_28 : decode cX6_led 28 = .ok (.ldc_w 362, 3) := by decide +kernel
theorem dX6_led_31 : decode cX6_led 31 = .ok (.invokespecial 364, 3) := by decide +kernel
theorem dX6_led_34 : decode cX6_led 34 = .ok (.athrow, 1) := by decide +kernel
def nsN : String := "java/util/NoSuchElementException"
def rtN : String := "java/lang/RuntimeException"
def exN : String := "java/lang/Exception"
theorem mem_r {big : List Cond} (ws : List Cond) (ps : List Nat) (hp : ws = ps.filterMap (fun i => big[i]?)) : ∀ w ∈ ws, w ∈ big := by
  intro w hw
  rw [hp] at hw
  obtain ⟨i, -, hi⟩ := List.mem_filterMap.mp hw
  first | exact List.mem_of_getElem? hi | exact List.getElem?_mem hi
def nsL : List Cond := vx_atX RX6 364 nsN 13 prog_24_method_4_code [rtN, exN]
set_option maxRecDepth 20000 in
theorem nsL_in : ∀ w ∈ nsL, w ∈ lw_tbl := mem_r nsL [136, 1187, 1196, 1198, 1201, 1203, 1188, 1189, 146, 147, 1190, 1195, 1199, 1219, 1177, 1220, 1179, 1221, 1181, 1191, 1193, 1183, 1215, 1216, 1218, 1183, 1206, 1207, 1208, 1209, 1169, 1209, 1210, 1211, 1212, 1171, 1212, 1213, 1214, 1215, 1173, 1205, 1166, 1167, 1174, 1175, 1176, 1178, 1180, 1182, 1186, 1185, 1184] (by decide +kernel)
def nsB : List Cond := [.declares (Bundle.initS rtN), .declares (Bundle.initS exN), .declares (Bundle.initS Bundle.tN), .castable nsN nsN]
set_option maxRecDepth 20000 in
theorem nsB_has : ∀ w ∈ nsL.filter (fun w => !goodWord w), w ∈ nsB := by decide +kernel
set_option maxRecDepth 20000 in
theorem nsB_in : ∀ w ∈ nsB, w ∈ nsL := by decide +kernel
set_option maxRecDepth 20000 in
theorem nsL_ot : ∀ w ∈ Cond.classLink RX6 360 nsN :: Cond.initialized nsN :: nsL, vx_ot w = true := fun w h => List.all_eq_true.mp (show (Cond.classLink RX6 360 nsN :: Cond.initialized nsN :: nsL).all vx_ot = true by decide +kernel) w h
def nsE : List Cond := [.classLink RX6 360 nsN, .initialized nsN, .codeWith yL_led cL_led 4 (some .int) [(0, 9, 12, 13)]]
theorem nsE_in : ∀ w ∈ nsE, w ∈ lw_tbl := List.forall_mem_cons.mpr ⟨List.mem_append_right _ (List.mem_of_getElem? (i := 1045) (by decide +kernel)), List.forall_mem_cons.mpr ⟨List.mem_append_right _ (List.mem_of_getElem? (i := 19) (by decide +kernel)), List.forall_mem_cons.mpr ⟨List.mem_append_right _ (List.mem_of_getElem? (i := 1035) (by decide +kernel)), fun _ h => absurd h List.not_mem_nil⟩⟩⟩
theorem nsE_good : ∀ w ∈ nsE, goodWord w = true := fun w h => List.all_eq_true.mp (show nsE.all goodWord = true by decide +kernel) w h
def wN : List Cond := wG ++ (nsE ++ nsL.filter goodWord)
theorem wN_in : ∀ w ∈ wN, w ∈ lw_tbl := List.forall_mem_append.mpr ⟨wG_in, List.forall_mem_append.mpr ⟨nsE_in, fun w h => nsL_in w (List.mem_filter.mp h).1⟩⟩
theorem wN_good : ∀ w ∈ wN, goodWord w = true := List.forall_mem_append.mpr ⟨wG_good, List.forall_mem_append.mpr ⟨nsE_good, fun w h => (List.mem_filter.mp h).2⟩⟩
theorem wn_gw {w : Cond} (h : w ∈ wN) : w ∈ wN ∧ ((w.onTables && w.keeps) = true ∨ ∃ ty, w = .arrayClass ty) := ⟨h, good_of_word (wN_good w h)⟩
theorem wn_c {w : Cond} (h : w ∈ wN) : GoodIn wN (w :: wN) := fun w' hw => (List.mem_cons.mp hw).elim (fun e => by rw [e]; exact wn_gw h) (fun h => wn_gw h)
theorem wn_V {own C : String} {idx : Nat} {y : MethodName} {ws : List Cond} (h1 : Cond.methodLink own idx y ∈ wN) (h2 : Cond.instanceMethod y ∈ wN) (h3 : Cond.selects C y y ∈ wN) (h4 : Cond.initialized C ∈ wN) (h : GoodIn wN ws) : GoodIn wN (wsV own idx C y ws) := by
  intro w hw
  rcases List.mem_append.mp hw with hw | hw
  · simp only [List.mem_cons, List.not_mem_nil, or_false] at hw
    rcases hw with rfl | rfl | rfl | rfl
    · exact wn_gw h1
    · exact wn_gw h2
    · exact wn_gw h3
    · exact wn_gw h4
  · exact h w hw
theorem wn_S {own : String} {idx : Nat} {y : MethodName} {ws : List Cond} (h1 : Cond.methodLink own idx y ∈ wN) (h2 : Cond.static y ∈ wN) (h4 : Cond.initialized y.cls ∈ wN) (h : GoodIn wN ws) : GoodIn wN (va_wsS own idx y ws) := by
  intro w hw
  rcases List.mem_append.mp hw with hw | hw
  · simp only [List.mem_cons, List.not_mem_nil, or_false] at hw
    rcases hw with rfl | rfl | rfl
    · exact wn_gw h1
    · exact wn_gw h2
    · exact wn_gw h4
  · exact h w hw
theorem wn_g {w : Cond} (h : w ∈ wG) : w ∈ wN := List.mem_append_left _ h
theorem wn_e {w : Cond} (h : w ∈ nsE) : w ∈ wN := List.mem_append_right _ (List.mem_append_left _ h)
theorem wn_l {w : Cond} (h : w ∈ nsL.filter goodWord) : w ∈ wN := List.mem_append_right _ (List.mem_append_right _ h)
/-- what the throw needs beside the cells -/
def Ex (A : Nat → Prop) (U : State) (H : Heap) : Prop := (∃ a : Nat, vk_R RX6 362 "no such word" a U) ∧ vx_Zq Bundle.tN "UNASSIGNED_STACK" Bundle.steD A U H ∧ vx_Zq Bundle.tN "SUPPRESSED_SENTINEL" Bundle.listD A U H ∧ ∀ w ∈ nsB, va_Nw w U
theorem Ex.to {A B : Nat → Prop} {s U : State} {H : Heap} {locs : List Loc} (h : Ex A s s.heap) (hS : va_S A s.heap H locs) (hF : ∀ q, B q → A q) (hU : U.heap = H) (hW : s.WarmedH U.vm) : Ex B U U.heap := by
  obtain ⟨⟨a, h1⟩, h2, h3, h4⟩ := h
  rw [hU]
  refine ⟨⟨a, vk_R.warm hW h1⟩, vx_Zq.moved hW.alike ((h2.kept hS.2.1).narrow hF), vx_Zq.moved hW.alike ((h3.kept hS.2.1).narrow hF), ?_⟩
  exact List.forall_mem_cons.mpr ⟨va_Nw.warmD hW (h4 _ (by simp [nsB])), List.forall_mem_cons.mpr ⟨va_Nw.warmD hW (h4 _ (by simp [nsB])), List.forall_mem_cons.mpr ⟨va_Nw.warmD hW (h4 _ (by simp [nsB])), List.forall_mem_cons.mpr ⟨va_Nw.warmC hW (h4 _ (by simp [nsB])), fun _ h => absurd h List.not_mem_nil⟩⟩⟩⟩
theorem Ex.call {A : Nat → Prop} {U V : State} (h : Ex A U U.heap) (hv : V.vm = U.vm) (hh : V.heap = U.heap) : Ex A V V.heap := by
  obtain ⟨⟨a, h1⟩, h2, h3, h4⟩ := h
  have ha : U.vm.Alike V.vm := by rw [hv]; exact Vm.Alike.refl _
  rw [hh]
  refine ⟨⟨a, vk_R.same hv h1⟩, vx_Zq.moved ha h2, vx_Zq.moved ha h3, ?_⟩
  exact List.forall_mem_cons.mpr ⟨va_Nw.same rfl hv.symm (h4 _ (by simp [nsB])), List.forall_mem_cons.mpr ⟨va_Nw.same rfl hv.symm (h4 _ (by simp [nsB])), List.forall_mem_cons.mpr ⟨va_Nw.same rfl hv.symm (h4 _ (by simp [nsB])), List.forall_mem_cons.mpr ⟨va_Nw.same rfl hv.symm (h4 _ (by simp [nsB])), fun _ h => absurd h List.not_mem_nil⟩⟩⟩⟩
def Px (dC : Nat → ClassId) (dI : Nat → Nat → Nat) (sz : Nat) (ws : va_W) (U : State) : Prop := Pw dC dI sz ws [] U ∧ Ex (va_A ws sz) U U.heap
theorem Px.fb {av : List Value} {dC : Nat → ClassId} {dI : Nat → Nat → Nat} {sz : Nat} {ws : va_W} : FrameBlind (va_Pc av (Px dC dI sz ws)) := by
  intro as U g mk q
  obtain ⟨q0, q1, q2⟩ := q
  obtain ⟨-, h⟩ := Pw.fb (av := []) #[] U g mk (⟨rfl, q1⟩ : va_Pc [] _ _ _)
  exact ⟨q0, h, Ex.call (V := U.calling g mk as) q2 rfl rfl⟩
theorem Px.to {av : List Value} {dC : Nat → ClassId} {dI : Nat → Nat → Nat} {A : Nat → Prop} {ws : va_W} {s U : State} {H : Heap} {locs : List Loc} (hP : va_P (dC, dI) vwCl ws H) (hD : va_D A ws) (hK : va_K (dC, dI) vwCl [] s) (hE : Ev A s s.heap) (hX : Ex A s s.heap) (hS : va_S A s.heap H locs) (hF : ∀ q, va_A ws H.size q → A q) (hU : U.heap = H) (hW : s.WarmedH U.vm) : va_Pc av (Px dC dI H.size ws) av.toArray U := by
  obtain ⟨h0, h1⟩ := Pw.to (av := av) hP hD hK hE hS hF hU hW
  exact ⟨h0, h1, hX.to hS hF hU hW⟩
set_option maxRecDepth 100000 in
theorem ex_start {s : State} {b : Nat} (hts : ∀ w ∈ lw_tbl, w.before #[Value.ref b] s = true) (hs : ∀ c ∈ flatC (Jvm.Cond.and given_1 narrow_1), c.before #[Value.ref b] s = true) {A : Nat → Prop} (hA : ∀ a : Nat, a < s.heap.size → ¬ A a) : Ex A s s.heap := by
  refine ⟨?_, ?_, ?_, fun w h => va_Nw.of (List.all_eq_true.mp (show nsB.all Cond.onTables = true by decide +kernel) w h) (hts w (nsL_in w (nsB_in w h)))⟩
  · obtain ⟨a, c, cA, kA, q1, -⟩ := Cond.exactly_spec (args := #[Value.ref b]) (first := s) (o := none) (s := s) (idx := []) (t := Term.string "KingHears" 362) (cls := "java/lang/String") (hs (Cond.exactly (Term.string "KingHears" 362) "java/lang/String") (by decide +kernel))
    exact ⟨a, vk_R.of (hts _ (List.mem_append_right _ (List.mem_of_getElem? (i := 1084) (by decide +kernel)))) q1⟩
  · exact vx_Zqof (args := #[Value.ref b]) (hts _ (List.mem_append_right _ (List.mem_of_getElem? (i := 1072) (by decide +kernel)))) (hts _ (List.mem_append_right _ (List.mem_of_getElem? (i := 16) (by decide +kernel)))) (hs (Cond.isRef (.static "java/lang/Throwable" "UNASSIGNED_STACK" "[Ljava/lang/StackTraceElement;")) (by decide +kernel)) hA
  · exact vx_Zqof (args := #[Value.ref b]) (hts _ (List.mem_append_right _ (List.mem_of_getElem? (i := 1074) (by decide +kernel)))) (hts _ (List.mem_append_right _ (List.mem_of_getElem? (i := 16) (by decide +kernel)))) (hs (Cond.isRef (.static "java/lang/Throwable" "SUPPRESSED_SENTINEL" "Ljava/util/List;")) (by decide +kernel)) hA
set_option maxHeartbeats 4000000 in
set_option maxRecDepth 100000 in
theorem c_led (l : Launch) (hl8 : l.stackTraces = false) (dC : Nat → ClassId) (dI : Nat → Nat → Nat) (sz : Nat) (h0 : Nat) (p0 : Int32) (h1 : Nat) (h2 : Nat) (h3 : Nat) (h4 : Nat) (h5 : Nat) (h6 : Nat) (h7 : Nat) (h8 : Nat) (h9 : Nat) (h10 : Nat) (h11 : Nat) (h12 : Nat) (h13 : Nat) (h14 : Nat) (h15 : Nat) (h16 : Nat) (h17 : Nat) (h18 : Nat) (h19 : Nat) : vx_Met l yX6_led (Cond.code yX6_led cX6_led 3 (some .int) :: wN) ({ frames := 6, cells := 1, slots := 6, locals := 120 }) (va_Pc [.ref h0, .int p0] (Px dC dI sz [(h0, .inr (6, [.ref h1, .ref h2, .ref h3, .ref h4, .ref h5, .int 0, .ref h6, .ref h7, .ref h8, .int 0, .int 0, .int 0])), (h2, .inr (1, [.int 0, .int 0, .int 0, .int 0, .int 0, .int (-1), .int (-1), .int 1, .ref h9, .ref h10, .ref h11, .ref h12, .ref h13, .ref h14, .ref h15, .ref h16, .ref h17, .ref h18, .ref h19]))])) (va_Qi (fun (_ : Int32) (_ : Nat) => False) (fun (_ : Nat) (_ : State) => True) (va_A [(h0, .inr (6, [.ref h1, .ref h2, .ref h3, .ref h4, .ref h5, .int 0, .ref h6, .ref h7, .ref h8, .int 0, .int 0, .int 0])), (h2, .inr (1, [.int 0, .int 0, .int 0, .int 0, .int 0, .int (-1), .int (-1), .int 1, .ref h9, .ref h10, .ref h11, .ref h12, .ref h13, .ref h14, .ref h15, .ref h16, .ref h17, .ref h18, .ref h19]))] sz)) (vx_X (fun (_ : Nat) => True) (fun E (_ : Nat) (_ : State) => E = nsN) (va_A [(h0, .inr (6, [.ref h1, .ref h2, .ref h3, .ref h4, .ref h5, .int 0, .ref h6, .ref h7, .ref h8, .int 0, .int 0, .int 0])), (h2, .inr (1, [.int 0, .int 0, .int 0, .int 0, .int 0, .int (-1), .int (-1), .int 1, .ref h9, .ref h10, .ref h11, .ref h12, .ref h13, .ref h14, .ref h15, .ref h16, .ref h17, .ref h18, .ref h19]))] sz)) 1 6 (va_A [(h0, .inr (6, [.ref h1, .ref h2, .ref h3, .ref h4, .ref h5, .int 0, .ref h6, .ref h7, .ref h8, .int 0, .int 0, .int 0])), (h2, .inr (1, [.int 0, .int 0, .int 0, .int 0, .int 0, .int (-1), .int (-1), .int 1, .ref h9, .ref h10, .ref h11, .ref h12, .ref h13, .ref h14, .ref h15, .ref h16, .ref h17, .ref h18, .ref h19]))] sz) := by
  refine vx_ofW (cc := cX6_led) (maxL := 3) (ret := (some .int)) (by decide) rfl ?_
  intro p e s m args below meth c s₁ B hml hno hv
  obtain ⟨rfl, ⟨hsz, hP, hK, hD0, hE⟩, hX9⟩ := hv
  have hx := B.exec
  have hb := B.bytes
  have hr := B.returns
  have hts : ∀ w ∈ wN, w.before ([.ref h0, .int p0] : List Value).toArray s = true := fun w h => atoms_spec (ws := Cond.code yX6_led cX6_led 3 (some .int) :: wN) B.pre w (List.mem_cons_of_mem _ h)
  have htsG : ∀ w ∈ wG, w.before ([.ref h0, .int p0] : List Value).toArray s = true := fun w h => hts w (wn_g h)
  have hown : s.vm.findClass RX6 = some m.cls := findClass_of_methodNamed B.named
  have hlocks := B.notSynchronized
  subst hsz
  have hD := hD0.self (sz := s.heap.size)
  generalize hAe : va_A [(h0, .inr (6, [.ref h1, .ref h2, .ref h3, .ref h4, .ref h5, .int 0, .ref h6, .ref h7, .ref h8, .int 0, .int 0, .int 0])), (h2, .inr (1, [.int 0, .int 0, .int 0, .int 0, .int 0, .int (-1), .int (-1), .int 1, .ref h9, .ref h10, .ref h11, .ref h12, .ref h13, .ref h14, .ref h15, .ref h16, .ref h17, .ref h18, .ref h19]))] s.heap.size = A at hD hE hX9 ⊢
  have hA : ∀ q : Nat, s.heap.size ≤ q → A q := fun q h => by rw [← hAe]; exact Or.inr h
  have hS : va_S A s.heap s.heap [] := va_S.rf
  have hl := lv_entry ([.ref h0, .int p0]) (n := 3) (Nat.le_of_ble_eq_true rfl)
  rw [lg_entry_eq]
  generalize (lg_sl ([.ref h0, .int p0]) ++ List.replicate (3 - (lg_sl ([.ref h0, .int p0])).length) Slot.unset).toArray = ls at hl ⊢
  have hl : lv_has ls 3 [(0, .ref h0), (1, .int p0)] := hl
  refine lv_aload_n hx hb dX6_led_0 rfl (lv_at hl 0 rfl) ?_
  refine va_get (D := (dC, dI)) (ci := 6) (v := .ref h2) (C := RX6) (T := TX6) (N := 12) hx hb htsG inX6 hown hK hP 0 rfl rfl 1 (by decide) (htsG _ wd_80) (fun _ h9 => h9) rfl dX6_led_1 ?_
  refine va_get (D := (dC, dI)) (ci := 1) (v := .int 0) (C := RX1) (T := TX1) (N := 19) hx hb htsG inX1 hown hK hP 1 rfl rfl 0 (by decide) (htsG _ wd_141) (fun _ h9 => h9) rfl dX6_led_4 ?_
  refine lv_if_le (tgt := 18) hx hb dX6_led_7 (by decide) (fun _ => ?_) (fun c => absurd c (by decide))
  refine lv_iconst (v := (-1)) hx hb dX6_led_18 (by decide) ?_
  refine lv_istore_n (lv' := [(2, .int (-1)), (0, .ref h0), (1, .int p0)]) hx hb dX6_led_19 rfl hl (by decide) rfl (fun ls hl => ?_)
  refine lv_iload_n hx hb dX6_led_20 rfl (lv_at hl 0 rfl) ?_
  refine lv_if_ge (tgt := 35) hx hb dX6_led_21 (by decide) (fun c => absurd c (by decide)) (fun _ => ?_)
  obtain ⟨sa, hstr⟩ := hX9.1
  have hat : ∀ w ∈ nsL, w.before ([.ref h0, .int p0] : List Value).toArray s = true := vx_hat (B := nsB) (fun w h => hts w (wn_l h)) nsB_has (fun w h => va_Nw.use (List.all_eq_true.mp (show nsB.all Cond.onTables = true by decide +kernel) w h) (hX9.2.2.2 w h))
  exact vx_throwSX (cc := cX6_led) (ix := 13) (rx := prog_24_method_4_code) (own := RX6) (cls := nsN) (text := "no such word") (names := [rtN, exN]) (ik := 360) (is := 362) (ic := 364) hx hb hl8 (by decide +kernel) (by decide +kernel) (by decide +kernel) (by decide +kernel) hown (by decide +kernel) (by decide +kernel) (hts _ (wn_e (by simp [nsE]))) (hts _ (wn_e (by simp [nsE]))) hstr hat nsL_ot hX9.2.1 hX9.2.2.1 hS (hl.1.trans hml.symm) dX6_led_24 dX6_led_27 dX6_led_28 dX6_led_31 dX6_led_34 (fun x hx => (hno x hx).elim) (Nat.le_of_ble_eq_true rfl) (Nat.le_of_ble_eq_true rfl) (Nat.le_of_ble_eq_true rfl) (Nat.le_of_ble_eq_true rfl) hlocks (fun t _ h1 h2 => ⟨0, trivial, rfl, Nat.le_trans hS.1 h1, fun q hq hnq => (h2 q (Nat.lt_of_lt_of_le hq hS.1)).trans (hS.2.1 q hq hnq)⟩) hS.2.2 (Nat.le_refl _) (Nat.le_refl _)
set_option maxHeartbeats 4000000 in
set_option maxRecDepth 100000 in
theorem c_Lled (l : Launch) (hl8 : l.stackTraces = false) (dC : Nat → ClassId) (dI : Nat → Nat → Nat) (sz : Nat) (h0 : Nat) (p0 : Int32) (h1 : Nat) (h2 : Nat) (h3 : Nat) (h4 : Nat) (h5 : Nat) (h6 : Nat) (h7 : Nat) (h8 : Nat) (h9 : Nat) (h10 : Nat) (h11 : Nat) (h12 : Nat) (h13 : Nat) (h14 : Nat) (h15 : Nat) (h16 : Nat) (h17 : Nat) (h18 : Nat) (h19 : Nat) (zq : Nat) : Met l yL_led (Cond.codeWith yL_led cL_led 4 (some .int) [(0, 9, 12, 13)] :: wN) ({ frames := 7, cells := 1, slots := 6, locals := 150 }) (va_Pc [.ref h0, .int p0, .ref zq] (Px dC dI sz [(h0, .inr (6, [.ref h1, .ref h2, .ref h3, .ref h4, .ref h5, .int 0, .ref h6, .ref h7, .ref h8, .int 0, .int 0, .int 0])), (h2, .inr (1, [.int 0, .int 0, .int 0, .int 0, .int 0, .int (-1), .int (-1), .int 1, .ref h9, .ref h10, .ref h11, .ref h12, .ref h13, .ref h14, .ref h15, .ref h16, .ref h17, .ref h18, .ref h19]))])) (va_Qi (fun (r : Int32) (_ : Nat) => r = 1) (fun (_ : Nat) (_ : State) => True) (va_A [(h0, .inr (6, [.ref h1, .ref h2, .ref h3, .ref h4, .ref h5, .int 0, .ref h6, .ref h7, .ref h8, .int 0, .int 0, .int 0])), (h2, .inr (1, [.int 0, .int 0, .int 0, .int 0, .int 0, .int (-1), .int (-1), .int 1, .ref h9, .ref h10, .ref h11, .ref h12, .ref h13, .ref h14, .ref h15, .ref h16, .ref h17, .ref h18, .ref h19]))] sz)) 1 6 (va_A [(h0, .inr (6, [.ref h1, .ref h2, .ref h3, .ref h4, .ref h5, .int 0, .ref h6, .ref h7, .ref h8, .int 0, .int 0, .int 0])), (h2, .inr (1, [.int 0, .int 0, .int 0, .int 0, .int 0, .int (-1), .int (-1), .int 1, .ref h9, .ref h10, .ref h11, .ref h12, .ref h13, .ref h14, .ref h15, .ref h16, .ref h17, .ref h18, .ref h19]))] sz) := by
  refine va_MetW (cc := cL_led) (maxL := 4) (ret := (some .int)) (hh := [(0, 9, 12, 13)]) (by decide) rfl ?_
  intro p e s m args below meth c s₁ B hml hv
  obtain ⟨rfl, ⟨hsz, hP, hK, hD0, hE⟩, hX9⟩ := hv
  have hx := B.exec
  have hb := B.bytes
  have hr := B.returns
  have hts : ∀ w ∈ wN, w.before ([.ref h0, .int p0, .ref zq] : List Value).toArray s = true := fun w h => atoms_spec (ws := Cond.codeWith yL_led cL_led 4 (some .int) [(0, 9, 12, 13)] :: wN) B.pre w (List.mem_cons_of_mem _ h)
  have htsG : ∀ w ∈ wG, w.before ([.ref h0, .int p0, .ref zq] : List Value).toArray s = true := fun w h => hts w (wn_g h)
  have hown : s.vm.findClass RL = some m.cls := findClass_of_methodNamed B.named
  have hlocks := B.notSynchronized
  have htab : c.exceptionTable.toList = tableOf [(0, 9, 12, 13)] := vx_table (x := yL_led) B (atoms_spec (ws := Cond.codeWith yL_led cL_led 4 (some .int) [(0, 9, 12, 13)] :: wN) B.pre _ List.mem_cons_self)
  subst hsz
  have hD := hD0.self (sz := s.heap.size)
  generalize hAe : va_A [(h0, .inr (6, [.ref h1, .ref h2, .ref h3, .ref h4, .ref h5, .int 0, .ref h6, .ref h7, .ref h8, .int 0, .int 0, .int 0])), (h2, .inr (1, [.int 0, .int 0, .int 0, .int 0, .int 0, .int (-1), .int (-1), .int 1, .ref h9, .ref h10, .ref h11, .ref h12, .ref h13, .ref h14, .ref h15, .ref h16, .ref h17, .ref h18, .ref h19]))] s.heap.size = A at hD hE hX9 ⊢
  have hA : ∀ q : Nat, s.heap.size ≤ q → A q := fun q h => by rw [← hAe]; exact Or.inr h
  have hS : va_S A s.heap s.heap [] := va_S.rf
  have hl := lv_entry ([.ref h0, .int p0, .ref zq]) (n := 4) (Nat.le_of_ble_eq_true rfl)
  rw [lg_entry_eq]
  generalize (lg_sl ([.ref h0, .int p0, .ref zq]) ++ List.replicate (4 - (lg_sl ([.ref h0, .int p0, .ref zq])).length) Slot.unset).toArray = ls at hl ⊢
  have hl : lv_has ls 4 [(0, .ref h0), (1, .int p0), (2, .ref zq)] := hl
  refine lv_aload_n hx hb dL_led_0 rfl (lv_at hl 2 rfl) ?_
  refine lv_iconst (v := 0) hx hb dL_led_1 (by decide) ?_
  refine lv_aload_n hx hb dL_led_2 rfl (lv_at hl 0 rfl) ?_
  refine lv_iload_n hx hb dL_led_3 rfl (lv_at hl 1 rfl) ?_
  have hFc := va_free (wc := [(h0, .inr (6, [.ref h1, .ref h2, .ref h3, .ref h4, .ref h5, .int 0, .ref h6, .ref h7, .ref h8, .int 0, .int 0, .int 0])), (h2, .inr (1, [.int 0, .int 0, .int 0, .int 0, .int 0, .int (-1), .int (-1), .int 1, .ref h9, .ref h10, .ref h11, .ref h12, .ref h13, .ref h14, .ref h15, .ref h16, .ref h17, .ref h18, .ref h19]))]) hD hS hA [0, 1] rfl
  refine vx_calli (vx_runV (As := [.int p0]) (rest := [.int 0, .ref zq]) ⟨hx, hb, hml, hown, hts⟩ (c_led l hl8 dC dI _ h0 p0 h1 h2 h3 h4 h5 h6 h7 h8 h9 h10 h11 h12 h13 h14 h15 h16 h17 h18 h19) (cwV 1 hts (wn_V (wn_g wd_427) (wn_g wd_757) (wn_g wd_758) (wn_g wd_147) (wn_c (wn_g wd_759))) rfl rfl rfl (by decide +kernel) ⟨Nat.le_of_ble_eq_true rfl, Nat.le_of_ble_eq_true rfl⟩) ⟨Px.fb, va_recv hK hP (ci := 6) (q0 := 0) rfl rfl, fun U hU hW => Px.to hP hD hK hE hX9 hS hFc hU hW⟩ rfl rfl hl.1 rfl (lv_room (Nat.le_of_ble_eq_true rfl)) dL_led_4 ⟨Nat.le_of_ble_eq_true rfl, Nat.le_of_ble_eq_true rfl⟩) hS (fun q _ h => hFc q h) hFc (fun q _ h => hFc q h) (fun E ce q9 u t H locs ht hvm hpx hBX hz hk hS hcell hv hcl => ?_) (fun r u t H locs ht hvm hw hB hz1 hk1 hS => hw.elim)
  subst hBX
  refine vx_catch (own := RL) (name := nsN) (E := nsN) hown [] (tableOf [(0, 9, 12, 13)])[0] [] (htab.trans rfl) (fun z hz => absurd hz List.not_mem_nil) (by decide) (by decide) (hts (.classLink RL 13 nsN) (wn_g wd_426)) (va_Nw.use rfl (hX9.2.2.2 (.castable nsN nsN) (by simp [nsB]))) hcell hv hcl ?_
  refine W.eq (g2 := F0 m 12 ls [.ref q9]) rfl ?_
  refine lv_astore_n (lv' := [(3, .ref q9), (0, .ref h0), (1, .int p0), (2, .ref zq)]) hx hb dL_led_12 rfl hl (by decide) rfl (fun ls hl => ?_)
  refine lv_iconst (v := 1) hx hb dL_led_13 (by decide) ?_
  refine W.widen (k := 1) (n := 6) (Nat.le_of_ble_eq_true rfl) (Nat.le_of_ble_eq_true rfl) ?_
  exact W.iret (v := 1) hx hb hr (fun t ht hW => ⟨⟨_, 0, rfl, rfl, trivial⟩, hS.F ht⟩) hS.2.2 dL_led_14
