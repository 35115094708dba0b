def nsN : String := "java/util/NoSuchElementException"
def rtN : String := "java/lang/RuntimeException"
def exN : String := "java/lang/Exception"
theorem mem_r {big : List Cond} (ws : List Cond) (ps : List Nat) (hp : ws = ps.filterMap (fun i => big[i]?)) : ∀ w ∈ ws, w ∈ big := by
  intro w hw
  rw [hp] at hw
  obtain ⟨i, -, hi⟩ := List.mem_filterMap.mp hw
  first | exact List.mem_of_getElem? hi | exact List.getElem?_mem hi
def nsL : List Cond := vx_atX RX6 364 nsN 13 prog_24_method_4_code [rtN, exN]
set_option maxRecDepth 20000 in
theorem nsL_in : ∀ w ∈ nsL, w ∈ lw_tbl := mem_r nsL [136, 1187, 1196, 1198, 1201, 1203, 1188, 1189, 146, 147, 1190, 1195, 1199, 1219, 1177, 1220, 1179, 1221, 1181, 1191, 1193, 1183, 1215, 1216, 1218, 1183, 1206, 1207, 1208, 1209, 1169, 1209, 1210, 1211, 1212, 1171, 1212, 1213, 1214, 1215, 1173, 1205, 1166, 1167, 1174, 1175, 1176, 1178, 1180, 1182, 1186, 1185, 1184] (by decide +kernel)
def nsB : List Cond := [.declares (Bundle.initS rtN), .declares (Bundle.initS exN), .declares (Bundle.initS Bundle.tN), .castable nsN nsN]
set_option maxRecDepth 20000 in
theorem nsB_has : ∀ w ∈ nsL.filter (fun w => !goodWord w), w ∈ nsB := by decide +kernel
set_option maxRecDepth 20000 in
theorem nsB_in : ∀ w ∈ nsB, w ∈ nsL := by decide +kernel
set_option maxRecDepth 20000 in
theorem nsL_ot : ∀ w ∈ Cond.classLink RX6 360 nsN :: Cond.initialized nsN :: nsL, vx_ot w = true := fun w h => List.all_eq_true.mp (show (Cond.classLink RX6 360 nsN :: Cond.initialized nsN :: nsL).all vx_ot = true by decide +kernel) w h
def nsE : List Cond := [.classLink RX6 360 nsN, .initialized nsN, .codeWith yL_led cL_led 4 (some .int) [(0, 9, 12, 13)]]
theorem nsE_in : ∀ w ∈ nsE, w ∈ lw_tbl := List.forall_mem_cons.mpr ⟨List.mem_append_right _ (List.mem_of_getElem? (i := 1045) (by decide +kernel)), List.forall_mem_cons.mpr ⟨List.mem_append_right _ (List.mem_of_getElem? (i := 19) (by decide +kernel)), List.forall_mem_cons.mpr ⟨List.mem_append_right _ (List.mem_of_getElem? (i := 1035) (by decide +kernel)), fun _ h => absurd h List.not_mem_nil⟩⟩⟩
theorem nsE_good : ∀ w ∈ nsE, goodWord w = true := fun w h => List.all_eq_true.mp (show nsE.all goodWord = true by decide +kernel) w h
def wN : List Cond := wG ++ (nsE ++ nsL.filter goodWord)
theorem wN_in : ∀ w ∈ wN, w ∈ lw_tbl := List.forall_mem_append.mpr ⟨wG_in, List.forall_mem_append.mpr ⟨nsE_in, fun w h => nsL_in w (List.mem_filter.mp h).1⟩⟩
theorem wN_good : ∀ w ∈ wN, goodWord w = true := List.forall_mem_append.mpr ⟨wG_good, List.forall_mem_append.mpr ⟨nsE_good, fun w h => (List.mem_filter.mp h).2⟩⟩
theorem wn_gw {w : Cond} (h : w ∈ wN) : w ∈ wN ∧ ((w.onTables && w.keeps) = true ∨ ∃ ty, w = .arrayClass ty) := ⟨h, good_of_word (wN_good w h)⟩
theorem wn_c {w : Cond} (h : w ∈ wN) : GoodIn wN (w :: wN) := fun w' hw => (List.mem_cons.mp hw).elim (fun e => by rw [e]; exact wn_gw h) (fun h => wn_gw h)
theorem wn_V {own C : String} {idx : Nat} {y : MethodName} {ws : List Cond} (h1 : Cond.methodLink own idx y ∈ wN) (h2 : Cond.instanceMethod y ∈ wN) (h3 : Cond.selects C y y ∈ wN) (h4 : Cond.initialized C ∈ wN) (h : GoodIn wN ws) : GoodIn wN (wsV own idx C y ws) := by
  intro w hw
  rcases List.mem_append.mp hw with hw | hw
  · simp only [List.mem_cons, List.not_mem_nil, or_false] at hw
    rcases hw with rfl | rfl | rfl | rfl
    · exact wn_gw h1
    · exact wn_gw h2
    · exact wn_gw h3
    · exact wn_gw h4
  · exact h w hw
theorem wn_S {own : String} {idx : Nat} {y : MethodName} {ws : List Cond} (h1 : Cond.methodLink own idx y ∈ wN) (h2 : Cond.static y ∈ wN) (h4 : Cond.initialized y.cls ∈ wN) (h : GoodIn wN ws) : GoodIn wN (va_wsS own idx y ws) := by
  intro w hw
  rcases List.mem_append.mp hw with hw | hw
  · simp only [List.mem_cons, List.not_mem_nil, or_false] at hw
    rcases hw with rfl | rfl | rfl
    · exact wn_gw h1
    · exact wn_gw h2
    · exact wn_gw h4
  · exact h w hw
theorem wn_g {w : Cond} (h : w ∈ wG) : w ∈ wN := List.mem_append_left _ h
theorem wn_e {w : Cond} (h : w ∈ nsE) : w ∈ wN := List.mem_append_right _ (List.mem_append_left _ h)
theorem wn_l {w : Cond} (h : w ∈ nsL.filter goodWord) : w ∈ wN := List.mem_append_right _ (List.mem_append_right _ h)
/-- what the throw needs beside the cells -/
def Ex (A : Nat → Prop) (U : State) (H : Heap) : Prop := (∃ a : Nat, vk_R RX6 362 "no such word" a U) ∧ vx_Zq Bundle.tN "UNASSIGNED_STACK" Bundle.steD A U H ∧ vx_Zq Bundle.tN "SUPPRESSED_SENTINEL" Bundle.listD A U H ∧ ∀ w ∈ nsB, va_Nw w U
theorem Ex.to {A B : Nat → Prop} {s U : State} {H : Heap} {locs : List Loc} (h : Ex A s s.heap) (hS : va_S A s.heap H locs) (hF : ∀ q, B q → A q) (hU : U.heap = H) (hW : s.WarmedH U.vm) : Ex B U U.heap := by
  obtain ⟨⟨a, h1⟩, h2, h3, h4⟩ := h
  rw [hU]
  refine ⟨⟨a, vk_R.warm hW h1⟩, vx_Zq.moved hW.alike ((h2.kept hS.2.1).narrow hF), vx_Zq.moved hW.alike ((h3.kept hS.2.1).narrow hF), ?_⟩
  exact List.forall_mem_cons.mpr ⟨va_Nw.warmD hW (h4 _ (by simp [nsB])), List.forall_mem_cons.mpr ⟨va_Nw.warmD hW (h4 _ (by simp [nsB])), List.forall_mem_cons.mpr ⟨va_Nw.warmD hW (h4 _ (by simp [nsB])), List.forall_mem_cons.mpr ⟨va_Nw.warmC hW (h4 _ (by simp [nsB])), fun _ h => absurd h List.not_mem_nil⟩⟩⟩⟩
theorem Ex.call {A : Nat → Prop} {U V : State} (h : Ex A U U.heap) (hv : V.vm = U.vm) (hh : V.heap = U.heap) : Ex A V V.heap := by
  obtain ⟨⟨a, h1⟩, h2, h3, h4⟩ := h
  have ha : U.vm.Alike V.vm := by rw [hv]; exact Vm.Alike.refl _
  rw [hh]
  refine ⟨⟨a, vk_R.same hv h1⟩, vx_Zq.moved ha h2, vx_Zq.moved ha h3, ?_⟩
  exact List.forall_mem_cons.mpr ⟨va_Nw.same rfl hv.symm (h4 _ (by simp [nsB])), List.forall_mem_cons.mpr ⟨va_Nw.same rfl hv.symm (h4 _ (by simp [nsB])), List.forall_mem_cons.mpr ⟨va_Nw.same rfl hv.symm (h4 _ (by simp [nsB])), List.forall_mem_cons.mpr ⟨va_Nw.same rfl hv.symm (h4 _ (by simp [nsB])), fun _ h => absurd h List.not_mem_nil⟩⟩⟩⟩
def Px (dC : Nat → ClassId) (dI : Nat → Nat → Nat) (sz : Nat) (ws : va_W) (tys : List (ClassId × FieldType)) (U : State) : Prop := Pw dC dI sz ws tys U ∧ Ex (va_A ws sz) U U.heap
theorem Px.fb {av : List Value} {dC : Nat → ClassId} {dI : Nat → Nat → Nat} {sz : Nat} {ws : va_W} {tys : List (ClassId × FieldType)} : FrameBlind (va_Pc av (Px dC dI sz ws tys)) := by
  intro as U g mk q
  obtain ⟨q0, q1, q2⟩ := q
  obtain ⟨-, h⟩ := Pw.fb (av := []) #[] U g mk (⟨rfl, q1⟩ : va_Pc [] _ _ _)
  exact ⟨q0, h, Ex.call (V := U.calling g mk as) q2 rfl rfl⟩
theorem Px.to {av : List Value} {dC : Nat → ClassId} {dI : Nat → Nat → Nat} {A : Nat → Prop} {ws : va_W} {tys : List (ClassId × FieldType)} {s U : State} {H : Heap} {locs : List Loc} (hP : va_P (dC, dI) vwCl ws H) (hD : va_D A ws) (hK : va_K (dC, dI) vwCl tys s) (hE : Ev A s s.heap) (hX : Ex A s s.heap) (hS : va_S A s.heap H locs) (hF : ∀ q, va_A ws H.size q → A q) (hU : U.heap = H) (hW : s.WarmedH U.vm) : va_Pc av (Px dC dI H.size ws tys) av.toArray U := by
  obtain ⟨h0, h1⟩ := Pw.to (av := av) hP hD hK hE hS hF hU hW
  exact ⟨h0, h1, hX.to hS hF hU hW⟩
set_option maxRecDepth 100000 in
theorem ex_start {s : State} {b : Nat} (hts : ∀ w ∈ lw_tbl, w.before #[Value.ref b] s = true) (hs : ∀ c ∈ flatC (Jvm.Cond.and given_1 narrow_1), c.before #[Value.ref b] s = true) {A : Nat → Prop} (hA : ∀ a : Nat, a < s.heap.size → ¬ A a) : Ex A s s.heap := by
  refine ⟨?_, ?_, ?_, fun w h => va_Nw.of (List.all_eq_true.mp (show nsB.all Cond.onTables = true by decide +kernel) w h) (hts w (nsL_in w (nsB_in w h)))⟩
  · obtain ⟨a, c, cA, kA, q1, -⟩ := Cond.exactly_spec (args := #[Value.ref b]) (first := s) (o := none) (s := s) (idx := []) (t := Term.string "KingHears" 362) (cls := "java/lang/String") (hs (Cond.exactly (Term.string "KingHears" 362) "java/lang/String") (by decide +kernel))
    exact ⟨a, vk_R.of (hts _ (List.mem_append_right _ (List.mem_of_getElem? (i := 1084) (by decide +kernel)))) q1⟩
  · exact vx_Zqof (args := #[Value.ref b]) (hts _ (List.mem_append_right _ (List.mem_of_getElem? (i := 1072) (by decide +kernel)))) (hts _ (List.mem_append_right _ (List.mem_of_getElem? (i := 16) (by decide +kernel)))) (hs (Cond.isRef (.static "java/lang/Throwable" "UNASSIGNED_STACK" "[Ljava/lang/StackTraceElement;")) (by decide +kernel)) hA
  · exact vx_Zqof (args := #[Value.ref b]) (hts _ (List.mem_append_right _ (List.mem_of_getElem? (i := 1074) (by decide +kernel)))) (hts _ (List.mem_append_right _ (List.mem_of_getElem? (i := 16) (by decide +kernel)))) (hs (Cond.isRef (.static "java/lang/Throwable" "SUPPRESSED_SENTINEL" "Ljava/util/List;")) (by decide +kernel)) hA
set_option maxHeartbeats 4000000 in
set_option maxRecDepth 100000 in
theorem k_unheardWord (l : Launch) (dC : Nat → ClassId) (dI : Nat → Nat → Nat) (sz : Nat) (p0 : Int32) {oK : Nat} {iR_tapeSize : Int32} {fR_tape : Nat → Int32} {fR_keys : Nat → Int64} {iK_latestFault : Int32} {ws : va_W} {tys : List (ClassId × FieldType)} (h9 : KW oK iR_tapeSize fR_tape fR_keys iK_latestFault ws tys) : Met l yX6_unheardWord (Cond.code yX6_unheardWord cX6_unheardWord 4 (some .int) :: wG) ({ frames := 29, cells := 0, slots := 0, locals := 824 }) (va_Pc [.ref oK, .int p0] (Pw dC dI sz ws tys)) (va_Qi (fun (r : Int32) (u : Nat) => True) (fun (u : Nat) (t : State) => ∃ (ws9 : va_W) (tys9 : List (ClassId × FieldType)) , KW oK iR_tapeSize fR_tape fR_keys iK_latestFault ws9 tys9 ∧ True ∧ Bw dC dI (va_A ws sz) ws9 tys9 t) (va_A ws sz)) 0 0 (va_A ws sz) := by
  refine KW.elim (Q := fun (ws : va_W) (tys : List (ClassId × FieldType)) => Met l yX6_unheardWord (Cond.code yX6_unheardWord cX6_unheardWord 4 (some .int) :: wG) ({ frames := 29, cells := 0, slots := 0, locals := 824 }) (va_Pc [.ref oK, .int p0] (Pw dC dI sz ws tys)) (va_Qi (fun (r : Int32) (u : Nat) => True) (fun (u : Nat) (t : State) => ∃ (ws9 : va_W) (tys9 : List (ClassId × FieldType)) , KW oK iR_tapeSize fR_tape fR_keys iK_latestFault ws9 tys9 ∧ True ∧ Bw dC dI (va_A ws sz) ws9 tys9 t) (va_A ws sz)) 0 0 (va_A ws sz)) h9 ?_
  clear h9
  intro oR oC oS oT rK_images iK_imageCount oA oH oL iK_refusal iK_latestPlace iC_nodes iC_words iC_chances iC_unsures iC_slips iC_throneNode iC_saidWorth iC_unit rC_kind fC_kind kC_kind rC_parts fC_parts kC_parts rC_partNodes fC_partNodes kC_partNodes rC_weights fC_weights kC_weights rC_weightSums fC_weightSums kC_weightSums rC_toldWorths fC_toldWorths kC_toldWorths rC_steps fC_steps kC_steps rC_below fC_below kC_below rC_above fC_above kC_above rC_unsureWords fC_unsureWords kC_unsureWords rC_unsureWorths fC_unsureWorths kC_unsureWorths rS_worths fS_worths kS_worths rS_order fS_order kS_order rS_left fS_left kS_left rT_worths fT_worths kT_worths rT_order fT_order kT_order rT_left fT_left kT_left iA_count rA_nodes fA_nodes kA_nodes rA_olds fA_olds kA_olds rA_says fA_says kA_says iH_breaths iH_heardBits iH_cutCount iH_halfBreaths iH_halfQuestions rH_heardWords fH_heardWords kH_heardWords rH_cutParts fH_cutParts kH_cutParts rL_values fL_values kL_values rL_supposed fL_supposed kL_supposed iR_faultNumber iR_faultPlace rR_tape kR_tape iR_end iR_tokenKind iR_tokenFrom iR_tokenTo iR_tokenName iR_tokenKey iR_tokenWhole oD iR_courtTold rR_names fR_names kR_names rR_keys kR_keys iD_nodes iD_words iD_chances iD_unsures iD_slips iD_throneNode iD_saidWorth iD_unit rD_kind fD_kind kD_kind rD_parts fD_parts kD_parts rD_partNodes fD_partNodes kD_partNodes rD_weights fD_weights kD_weights rD_weightSums fD_weightSums kD_weightSums rD_toldWorths fD_toldWorths kD_toldWorths rD_steps fD_steps kD_steps rD_below fD_below kD_below rD_above fD_above kD_above rD_unsureWords fD_unsureWords kD_unsureWords rD_unsureWorths fD_unsureWorths kD_unsureWorths oI0 rI0_worths fI0_worths kI0_worths rI0_order fI0_order kI0_order rI0_left fI0_left kI0_left oI1 rI1_worths fI1_worths kI1_worths rI1_order fI1_order kI1_order rI1_left fI1_left kI1_left oI2 rI2_worths fI2_worths kI2_worths rI2_order fI2_order kI2_order rI2_left fI2_left kI2_left kK_images fK_images b_iK_imageCount b_iC_nodes b_iC_unsures b_iC_throneNode a_fC_parts a_fC_partNodes a_fC_unsureWords a_fS_order a_fS_left a_fT_order a_fT_left b_iA_count a_fA_nodes a_fA_says b_iH_breaths b_iH_cutCount b_iR_tapeSize b_iR_courtTold b_iD_nodes b_iD_unsures b_iD_throneNode a_fD_parts a_fD_partNodes a_fD_unsureWords a_fI0_order a_fI0_left a_fI1_order a_fI1_left a_fI2_order a_fI2_left r_I0 r_I1 r_I2 r_A hthr
  refine Met.wideI (wr := [(rC_toldWorths, .inl (kC_toldWorths, 18, .inl fC_toldWorths)), (rC_steps, .inl (kC_steps, 18, .inl fC_steps)), (rC_below, .inl (kC_below, 18, .inl fC_below)), (rC_above, .inl (kC_above, 18, .inl fC_above)), (rC_unsureWords, .inl (kC_unsureWords, 4, .inl fC_unsureWords)), (rC_unsureWorths, .inl (kC_unsureWorths, 4, .inl fC_unsureWorths)), (rS_left, .inl (kS_left, 4, .inl fS_left)), (oT, .inr (5, [.ref rT_worths, .ref rT_order, .ref rT_left])), (rT_worths, .inl (kT_worths, 18, .inl fT_worths)), (rT_order, .inl (kT_order, 72, .inl fT_order)), (rT_left, .inl (kT_left, 4, .inl fT_left)), (oA, .inr (0, [.int iA_count, .ref rA_nodes, .ref rA_olds, .ref rA_says])), (rA_nodes, .inl (kA_nodes, 16, .inl fA_nodes)), (rA_olds, .inl (kA_olds, 16, .inl fA_olds)), (rA_says, .inl (kA_says, 16, .inl fA_says)), (oL, .inr (4, [.ref rL_values, .ref rL_supposed])), (rL_values, .inl (kL_values, 18, .inl fL_values)), (rL_supposed, .inl (kL_supposed, 18, .inl fL_supposed)), (oR, .inr (3, [.int iR_faultNumber, .int iR_faultPlace, .int iR_tapeSize, .ref rR_tape, .int iR_end, .int iR_tokenKind, .int iR_tokenFrom, .int iR_tokenTo, .long iR_tokenName, .int iR_tokenKey, .int iR_tokenWhole, .ref oD, .int iR_courtTold, .ref rR_names, .ref rR_keys])), (rR_tape, .inl (kR_tape, 900, .inl fR_tape)), (rR_names, .inl (kR_names, 18, .inr (.inl fR_names))), (rR_keys, .inl (kR_keys, 10, .inr (.inl fR_keys))), (oD, .inr (1, [.int iD_nodes, .int iD_words, .int iD_chances, .int iD_unsures, .int iD_slips, .int iD_throneNode, .int iD_saidWorth, .int iD_unit, .ref rD_kind, .ref rD_parts, .ref rD_partNodes, .ref rD_weights, .ref rD_weightSums, .ref rD_toldWorths, .ref rD_steps, .ref rD_below, .ref rD_above, .ref rD_unsureWords, .ref rD_unsureWorths])), (rD_kind, .inl (kD_kind, 18, .inl fD_kind)), (rD_parts, .inl (kD_parts, 18, .inl fD_parts)), (rD_partNodes, .inl (kD_partNodes, 72, .inl fD_partNodes)), (rD_weights, .inl (kD_weights, 72, .inl fD_weights)), (rD_weightSums, .inl (kD_weightSums, 18, .inl fD_weightSums)), (rD_toldWorths, .inl (kD_toldWorths, 18, .inl fD_toldWorths)), (rD_steps, .inl (kD_steps, 18, .inl fD_steps)), (rD_below, .inl (kD_below, 18, .inl fD_below)), (rD_above, .inl (kD_above, 18, .inl fD_above)), (rD_unsureWords, .inl (kD_unsureWords, 4, .inl fD_unsureWords)), (rD_unsureWorths, .inl (kD_unsureWorths, 4, .inl fD_unsureWorths)), (oI0, .inr (5, [.ref rI0_worths, .ref rI0_order, .ref rI0_left])), (rI0_worths, .inl (kI0_worths, 18, .inl fI0_worths)), (rI0_order, .inl (kI0_order, 72, .inl fI0_order)), (rI0_left, .inl (kI0_left, 4, .inl fI0_left)), (oI1, .inr (5, [.ref rI1_worths, .ref rI1_order, .ref rI1_left])), (rI1_worths, .inl (kI1_worths, 18, .inl fI1_worths)), (rI1_order, .inl (kI1_order, 72, .inl fI1_order)), (rI1_left, .inl (kI1_left, 4, .inl fI1_left)), (oI2, .inr (5, [.ref rI2_worths, .ref rI2_order, .ref rI2_left])), (rI2_worths, .inl (kI2_worths, 18, .inl fI2_worths)), (rI2_order, .inl (kI2_order, 72, .inl fI2_order)), (rI2_left, .inl (kI2_left, 4, .inl fI2_left)), (rK_images, .inl (kK_images, 3, .inr (.inr (.inr (.inr fK_images)))))]) (tyr := [(kC_toldWorths, .int), (kC_steps, .int), (kC_below, .int), (kC_above, .int), (kC_unsureWords, .int), (kC_unsureWorths, .int), (kS_left, .int), (kT_worths, .int), (kT_order, .int), (kT_left, .int), (kA_nodes, .int), (kA_olds, .int), (kA_says, .boolean), (kL_values, .int), (kL_supposed, .int), (kR_tape, .byte), (kR_names, .long), (kR_keys, .long), (kD_kind, .int), (kD_parts, .int), (kD_partNodes, .int), (kD_weights, .int), (kD_weightSums, .int), (kD_toldWorths, .int), (kD_steps, .int), (kD_below, .int), (kD_above, .int), (kD_unsureWords, .int), (kD_unsureWorths, .int), (kI0_worths, .int), (kI0_order, .int), (kI0_left, .int), (kI1_worths, .int), (kI1_order, .int), (kI1_left, .int), (kI2_worths, .int), (kI2_order, .int), (kI2_left, .int), (kK_images, .object "KingHears$Stand")]) (tX6_unheardWord l dC dI sz oK oR oC oS oT rK_images iK_imageCount oA oH oL iK_refusal iK_latestFault iK_latestPlace iC_nodes iC_words iC_chances iC_unsures iC_slips iC_throneNode iC_saidWorth iC_unit rC_kind fC_kind kC_kind rC_parts fC_parts kC_parts rC_partNodes fC_partNodes kC_partNodes rC_weights fC_weights kC_weights rC_weightSums fC_weightSums kC_weightSums rC_toldWorths rC_steps rC_below rC_above rC_unsureWords rC_unsureWorths rS_worths fS_worths kS_worths rS_order fS_order kS_order rS_left iH_breaths iH_heardBits iH_cutCount iH_halfBreaths iH_halfQuestions rH_heardWords fH_heardWords kH_heardWords rH_cutParts fH_cutParts kH_cutParts p0 b_iK_imageCount b_iC_nodes b_iC_unsures b_iC_throneNode a_fC_parts a_fC_partNodes a_fS_order b_iH_breaths b_iH_cutCount) [0, 1, 2, 3, 4, 5, 6, 13, 14, 15, 25, 26, 27] [7, 8, 9, 10, 11, 12, 16, 17, 18, 19, 20, 21, 22, 23, 24, 28, 29, 30, 31, 32, 33, 34, 35, 36, 37, 38, 39, 40, 41, 42, 43, 44, 45, 46, 47, 48, 49, 50, 51, 52, 53, 54, 55, 56, 57, 58, 59] rfl rfl rfl (by decide +kernel) (by decide +kernel) (by decide +kernel) [0, 1, 2, 3, 4, 11, 12, 20, 21] [5, 6, 7, 8, 9, 10, 13, 14, 15, 16, 17, 18, 19, 22, 23, 24, 25, 26, 27, 28, 29, 30, 31, 32, 33, 34, 35, 36, 37, 38, 39, 40, 41, 42, 43, 44, 45, 46, 47] rfl rfl (fun r u t hp hB hJ => ?_)
  obtain ⟨n9_0, n9_1, n9_2, n9_3, n9_4, b9_0, b9_2, hB⟩ := hB
  have hB := hJ _ _ hB
  exact ⟨trivial, _, _, KW.mk iR_tapeSize fR_tape fR_keys iK_latestFault oR oC oS oT rK_images iK_imageCount oA oH oL iK_refusal iK_latestPlace iC_nodes iC_words iC_chances iC_unsures iC_slips iC_throneNode iC_saidWorth iC_unit rC_kind fC_kind kC_kind rC_parts fC_parts kC_parts rC_partNodes fC_partNodes kC_partNodes rC_weights fC_weights kC_weights rC_weightSums fC_weightSums kC_weightSums rC_toldWorths fC_toldWorths kC_toldWorths rC_steps fC_steps kC_steps rC_below fC_below kC_below rC_above fC_above kC_above rC_unsureWords fC_unsureWords kC_unsureWords rC_unsureWorths fC_unsureWorths kC_unsureWorths rS_worths fS_worths kS_worths rS_order fS_order kS_order rS_left fS_left kS_left rT_worths fT_worths kT_worths rT_order fT_order kT_order rT_left fT_left kT_left iA_count rA_nodes fA_nodes kA_nodes rA_olds fA_olds kA_olds rA_says fA_says kA_says n9_0 n9_1 n9_2 iH_halfBreaths iH_halfQuestions rH_heardWords n9_3 kH_heardWords rH_cutParts n9_4 kH_cutParts rL_values fL_values kL_values rL_supposed fL_supposed kL_supposed iR_faultNumber iR_faultPlace rR_tape kR_tape iR_end iR_tokenKind iR_tokenFrom iR_tokenTo iR_tokenName iR_tokenKey iR_tokenWhole oD iR_courtTold rR_names fR_names kR_names rR_keys kR_keys iD_nodes iD_words iD_chances iD_unsures iD_slips iD_throneNode iD_saidWorth iD_unit rD_kind fD_kind kD_kind rD_parts fD_parts kD_parts rD_partNodes fD_partNodes kD_partNodes rD_weights fD_weights kD_weights rD_weightSums fD_weightSums kD_weightSums rD_toldWorths fD_toldWorths kD_toldWorths rD_steps fD_steps kD_steps rD_below fD_below kD_below rD_above fD_above kD_above rD_unsureWords fD_unsureWords kD_unsureWords rD_unsureWorths fD_unsureWorths kD_unsureWorths oI0 rI0_worths fI0_worths kI0_worths rI0_order fI0_order kI0_order rI0_left fI0_left kI0_left oI1 rI1_worths fI1_worths kI1_worths rI1_order fI1_order kI1_order rI1_left fI1_left kI1_left oI2 rI2_worths fI2_worths kI2_worths rI2_order fI2_order kI2_order rI2_left fI2_left kI2_left kK_images fK_images b_iK_imageCount b_iC_nodes b_iC_unsures b_iC_throneNode a_fC_parts a_fC_partNodes a_fC_unsureWords a_fS_order a_fS_left a_fT_order a_fT_left b_iA_count a_fA_nodes a_fA_says (by first | assumption | omega) (by first | assumption | omega) b_iR_tapeSize b_iR_courtTold b_iD_nodes b_iD_unsures b_iD_throneNode a_fD_parts a_fD_partNodes a_fD_unsureWords a_fI0_order a_fI0_left a_fI1_order a_fI1_left a_fI2_order a_fI2_left r_I0 r_I1 r_I2 r_A hthr, trivial, hB.re [47, 48, 49, 50, 51, 52, 53, 0, 1, 2, 3, 4, 5, 54, 55, 56, 6, 7, 8, 9, 10, 11, 12, 13, 14, 57, 58, 59, 15, 16, 17, 18, 19, 20, 21, 22, 23, 24, 25, 26, 27, 28, 29, 30, 31, 32, 33, 34, 35, 36, 37, 38, 39, 40, 41, 42, 43, 44, 45, 46] rfl rfl (by decide +kernel) [39, 40, 41, 42, 43, 0, 1, 2, 3, 4, 5, 44, 45, 6, 7, 8, 9, 10, 11, 12, 46, 47, 13, 14, 15, 16, 17, 18, 19, 20, 21, 22, 23, 24, 25, 26, 27, 28, 29, 30, 31, 32, 33, 34, 35, 36, 37, 38] rfl⟩
theorem GoodIn_n {w : Cond} (h : w ∈ wN) : GoodIn wN (w :: wG) := fun w' hw => (List.mem_cons.mp hw).elim (fun e => by rw [e]; exact wn_gw h) (fun h => wn_gw (wn_g h))
set_option maxHeartbeats 4000000 in
set_option maxRecDepth 100000 in
theorem k_led (l : Launch) (hl8 : l.stackTraces = false) (dC : Nat → ClassId) (dI : Nat → Nat → Nat) (sz : Nat) (p0 : Int32) {oK : Nat} {iR_tapeSize : Int32} {fR_tape : Nat → Int32} {fR_keys : Nat → Int64} {iK_latestFault : Int32} {ws : va_W} {tys : List (ClassId × FieldType)} (h9 : KW oK iR_tapeSize fR_tape fR_keys iK_latestFault ws tys) : vx_Met l yX6_led (Cond.code yX6_led cX6_led 3 (some .int) :: wN) ({ frames := 31, cells := 1, slots := 6, locals := 884 }) (va_Pc [.ref oK, .int p0] (Px dC dI sz ws tys)) (va_Qi (fun (_ : Int32) (_ : Nat) => True) (fun (_ : Nat) (t : State) => ∃ (ws9 : va_W) (tys9 : List (ClassId × FieldType)), KW oK iR_tapeSize fR_tape fR_keys iK_latestFault ws9 tys9 ∧ Bw dC dI (va_A ws sz) ws9 tys9 t) (va_A ws sz)) (vx_X (fun (_ : Nat) => True) (fun E (_ : Nat) (t : State) => E = nsN ∧ ∃ (ws9 : va_W) (tys9 : List (ClassId × FieldType)), KW oK iR_tapeSize fR_tape fR_keys iK_latestFault ws9 tys9 ∧ Bw dC dI (va_A ws sz) ws9 tys9 t) (va_A ws sz)) 1 6 (va_A ws sz) := by
  refine vx_ofW (cc := cX6_led) (maxL := 3) (ret := (some .int)) (by decide) rfl ?_
  intro p e s m args below meth c s₁ B hml hno hv
  obtain ⟨rfl, ⟨hsz, hP, hK, hD0, hE⟩, hX9⟩ := hv
  have hx := B.exec
  have hb := B.bytes
  have hr := B.returns
  have hts : ∀ w ∈ wN, w.before ([.ref oK, .int p0] : List Value).toArray s = true := fun w h => atoms_spec (ws := Cond.code yX6_led cX6_led 3 (some .int) :: wN) B.pre w (List.mem_cons_of_mem _ h)
  have htsG : ∀ w ∈ wG, w.before ([.ref oK, .int p0] : List Value).toArray s = true := fun w h => hts w (wn_g h)
  have hown : s.vm.findClass RX6 = some m.cls := findClass_of_methodNamed B.named
  have hlocks := B.notSynchronized
  subst hsz
  have hD := hD0.self (sz := s.heap.size)
  generalize hAe : va_A ws s.heap.size = A at hD hE hX9 ⊢
  have hA : ∀ q : Nat, s.heap.size ≤ q → A q := fun q h => by rw [← hAe]; exact Or.inr h
  have hS : va_S A s.heap s.heap [] := va_S.rf
  have hl := lv_entry ([.ref oK, .int p0]) (n := 3) (Nat.le_of_ble_eq_true rfl)
  rw [lg_entry_eq]
  generalize (lg_sl ([.ref oK, .int p0]) ++ List.replicate (3 - (lg_sl ([.ref oK, .int p0])).length) Slot.unset).toArray = ls at hl ⊢
  have hl : lv_has ls 3 [(0, .ref oK), (1, .int p0)] := hl
  have thr : ∀ (H : Heap) (locs : List Loc) (ls : Array Slot) (k9 : Int32) (w1 : va_W) (ty1 : List (ClassId × FieldType)), KW oK iR_tapeSize fR_tape fR_keys iK_latestFault w1 ty1 → va_P (dC, dI) vwCl w1 H → va_D A w1 → va_K (dC, dI) vwCl ty1 s → va_S A s.heap H locs → lv_has ls 3 [(2, .int k9), (0, .ref oK), (1, .int p0)] → W p l e (headSpec (Cond.code yX6_led cX6_led 3 (some .int) :: wN) ({ frames := 31, cells := 1, slots := 6, locals := 884 })).room s m ([.ref oK, .int p0] : List Value).toArray below meth c H locs 0 0 (vx_MQ below (va_Qi (fun (_ : Int32) (_ : Nat) => True) (fun (_ : Nat) (t : State) => ∃ (ws9 : va_W) (tys9 : List (ClassId × FieldType)), KW oK iR_tapeSize fR_tape fR_keys iK_latestFault ws9 tys9 ∧ Bw dC dI A ws9 tys9 t) A) (vx_X (fun (_ : Nat) => True) (fun E (_ : Nat) (t : State) => E = nsN ∧ ∃ (ws9 : va_W) (tys9 : List (ClassId × FieldType)), KW oK iR_tapeSize fR_tape fR_keys iK_latestFault ws9 tys9 ∧ Bw dC dI A ws9 tys9 t) A) ([.ref oK, .int p0] : List Value).toArray s 1 6 A) (F0 m 20 ls []) := by
    intro H locs ls k9 w1 ty1 h1 hP hD hK hS hl
    refine lv_iload_n hx hb dX6_led_20 rfl (lv_at hl 0 rfl) ?_
    refine lv_if_ge (tgt := 35) hx hb dX6_led_21 (by decide) (fun _ => ?_) (fun _ => ?_)
    · refine lv_iload_n hx hb dX6_led_35 rfl (lv_at hl 0 rfl) ?_
      refine W.widen (k := 1) (n := 6) (Nat.le_of_ble_eq_true rfl) (Nat.le_of_ble_eq_true rfl) ?_
      exact vx_ret (W.iret hx hb hr (fun t ht hW => ⟨⟨_, 0, rfl, trivial, _, _, h1, Bw.to hP hD hK ht hW⟩, hS.F ht⟩) hS.2.2 dX6_led_36)
    · obtain ⟨sa, hstr⟩ := hX9.1
      have hat : ∀ w ∈ nsL, w.before ([.ref oK, .int p0] : List Value).toArray s = true := vx_hat (B := nsB) (fun w h => hts w (wn_l h)) nsB_has (fun w h => va_Nw.use (List.all_eq_true.mp (show nsB.all Cond.onTables = true by decide +kernel) w h) (hX9.2.2.2 w h))
      exact vx_throwSX (cc := cX6_led) (ix := 13) (rx := prog_24_method_4_code) (own := RX6) (cls := nsN) (text := "no such word") (names := [rtN, exN]) (ik := 360) (is := 362) (ic := 364) hx hb hl8 (by decide +kernel) (by decide +kernel) (by decide +kernel) (by decide +kernel) hown (by decide +kernel) (by decide +kernel) (hts _ (wn_e (by simp [nsE]))) (hts _ (wn_e (by simp [nsE]))) hstr hat nsL_ot hX9.2.1 hX9.2.2.1 hS (hl.1.trans hml.symm) dX6_led_24 dX6_led_27 dX6_led_28 dX6_led_31 dX6_led_34 (fun x hx => (hno x hx).elim) (Nat.le_of_ble_eq_true rfl) (Nat.le_of_ble_eq_true rfl) (Nat.le_of_ble_eq_true rfl) (Nat.le_of_ble_eq_true rfl) hlocks (fun t hal h1s h2s => ⟨0, trivial, ⟨rfl, _, _, h1, keptA hP h2s, va_K.moved hal hK, hD⟩, Nat.le_trans hS.1 h1s, fun q hq hnq => (h2s q (Nat.lt_of_lt_of_le hq hS.1)).trans (hS.2.1 q hq hnq)⟩) hS.2.2 (Nat.le_refl _) (Nat.le_refl _)
  have h90 := h9
  revert h90
  revert hD
  revert hAe
  revert hD0
  revert hK
  revert hP
  refine KW.elim (Q := fun (ws : va_W) (tys : List (ClassId × FieldType)) => va_P (dC, dI) vwCl ws s.heap → va_K (dC, dI) vwCl tys s → va_D (fun _ => True) ws → va_A ws s.heap.size = A → va_D A ws → KW oK iR_tapeSize fR_tape fR_keys iK_latestFault ws tys → W p l e (headSpec (Cond.code yX6_led cX6_led 3 (some .int) :: wN) ({ frames := 31, cells := 1, slots := 6, locals := 884 })).room s m ([.ref oK, .int p0] : List Value).toArray below meth c s.heap [] 0 0 (vx_MQ below (va_Qi (fun (_ : Int32) (_ : Nat) => True) (fun (_ : Nat) (t : State) => ∃ (ws9 : va_W) (tys9 : List (ClassId × FieldType)), KW oK iR_tapeSize fR_tape fR_keys iK_latestFault ws9 tys9 ∧ Bw dC dI A ws9 tys9 t) A) (vx_X (fun (_ : Nat) => True) (fun E (_ : Nat) (t : State) => E = nsN ∧ ∃ (ws9 : va_W) (tys9 : List (ClassId × FieldType)), KW oK iR_tapeSize fR_tape fR_keys iK_latestFault ws9 tys9 ∧ Bw dC dI A ws9 tys9 t) A) ([.ref oK, .int p0] : List Value).toArray s 1 6 A) (F0 m 0 ls [])) h9 ?_
  clear h9
  intro oR oC oS oT rK_images iK_imageCount oA oH oL iK_refusal iK_latestPlace iC_nodes iC_words iC_chances iC_unsures iC_slips iC_throneNode iC_saidWorth iC_unit rC_kind fC_kind kC_kind rC_parts fC_parts kC_parts rC_partNodes fC_partNodes kC_partNodes rC_weights fC_weights kC_weights rC_weightSums fC_weightSums kC_weightSums rC_toldWorths fC_toldWorths kC_toldWorths rC_steps fC_steps kC_steps rC_below fC_below kC_below rC_above fC_above kC_above rC_unsureWords fC_unsureWords kC_unsureWords rC_unsureWorths fC_unsureWorths kC_unsureWorths rS_worths fS_worths kS_worths rS_order fS_order kS_order rS_left fS_left kS_left rT_worths fT_worths kT_worths rT_order fT_order kT_order rT_left fT_left kT_left iA_count rA_nodes fA_nodes kA_nodes rA_olds fA_olds kA_olds rA_says fA_says kA_says iH_breaths iH_heardBits iH_cutCount iH_halfBreaths iH_halfQuestions rH_heardWords fH_heardWords kH_heardWords rH_cutParts fH_cutParts kH_cutParts rL_values fL_values kL_values rL_supposed fL_supposed kL_supposed iR_faultNumber iR_faultPlace rR_tape kR_tape iR_end iR_tokenKind iR_tokenFrom iR_tokenTo iR_tokenName iR_tokenKey iR_tokenWhole oD iR_courtTold rR_names fR_names kR_names rR_keys kR_keys iD_nodes iD_words iD_chances iD_unsures iD_slips iD_throneNode iD_saidWorth iD_unit rD_kind fD_kind kD_kind rD_parts fD_parts kD_parts rD_partNodes fD_partNodes kD_partNodes rD_weights fD_weights kD_weights rD_weightSums fD_weightSums kD_weightSums rD_toldWorths fD_toldWorths kD_toldWorths rD_steps fD_steps kD_steps rD_below fD_below kD_below rD_above fD_above kD_above rD_unsureWords fD_unsureWords kD_unsureWords rD_unsureWorths fD_unsureWorths kD_unsureWorths oI0 rI0_worths fI0_worths kI0_worths rI0_order fI0_order kI0_order rI0_left fI0_left kI0_left oI1 rI1_worths fI1_worths kI1_worths rI1_order fI1_order kI1_order rI1_left fI1_left kI1_left oI2 rI2_worths fI2_worths kI2_worths rI2_order fI2_order kI2_order rI2_left fI2_left kI2_left kK_images fK_images b_iK_imageCount b_iC_nodes b_iC_unsures b_iC_throneNode a_fC_parts a_fC_partNodes a_fC_unsureWords a_fS_order a_fS_left a_fT_order a_fT_left b_iA_count a_fA_nodes a_fA_says b_iH_breaths b_iH_cutCount b_iR_tapeSize b_iR_courtTold b_iD_nodes b_iD_unsures b_iD_throneNode a_fD_parts a_fD_partNodes a_fD_unsureWords a_fI0_order a_fI0_left a_fI1_order a_fI1_left a_fI2_order a_fI2_left r_I0 r_I1 r_I2 r_A hthr hP hK hD0 hAe hD h90
  refine lv_aload_n hx hb dX6_led_0 rfl (lv_at hl 0 rfl) ?_
  refine va_get (D := (dC, dI)) (ci := 6) (v := .ref oC) (C := RX6) (T := TX6) (N := 12) hx hb htsG inX6 hown hK hP 0 rfl rfl 1 (by decide) (htsG _ wd_20) (fun _ h9 => h9) rfl dX6_led_1 ?_
  refine va_get (D := (dC, dI)) (ci := 1) (v := .int iC_nodes) (C := RX1) (T := TX1) (N := 19) hx hb htsG inX1 hown hK hP 1 rfl rfl 0 (by decide) (htsG _ wd_196) (fun _ h9 => h9) rfl dX6_led_4 ?_
  refine lv_if_le (tgt := 18) hx hb dX6_led_7 (by decide) (fun _ => ?_) (fun _ => ?_)
  · refine lv_iconst (v := (-1)) hx hb dX6_led_18 (by decide) ?_
    refine lv_istore_n (lv' := [(2, .int (-1)), (0, .ref oK), (1, .int p0)]) hx hb dX6_led_19 rfl hl (by decide) rfl (fun ls hl => ?_)
    exact thr _ _ _ _ _ _ h90 hP hD hK hS hl
  · refine lv_aload_n hx hb dX6_led_10 rfl (lv_at hl 0 rfl) ?_
    refine lv_iload_n hx hb dX6_led_11 rfl (lv_at hl 1 rfl) ?_
    have hFc := freeA hD hS hA
    refine va_calli (va_runV (As := [.int p0]) (rest := []) ⟨hx, hb, hml, hown, hts⟩ (k_unheardWord l dC dI _ p0 h90) (cwV 1 hts (wn_V (wn_g wd_1438) (wn_g wd_1439) (wn_g wd_1440) (wn_g wd_2) (GoodIn_n (wn_g wd_1441))) rfl rfl rfl (by decide +kernel) ⟨Nat.le_of_ble_eq_true rfl, Nat.le_of_ble_eq_true rfl⟩) ⟨Pw.fb, va_recv hK hP (ci := 6) (q0 := 0) rfl rfl, fun U hU hW => Pw.to hP hD hK hE hS hFc hU hW⟩ rfl rfl hl.1 rfl (lv_room (Nat.le_of_ble_eq_true rfl)) dX6_led_12 ⟨Nat.le_of_ble_eq_true rfl, Nat.le_of_ble_eq_true rfl⟩) hS (fun q _ h => hFc q h) hFc (fun r u t H locs ht hvm hw hB hz1 hk1 hS => ?_)
    obtain ⟨w1, ty1, h1, -, hB⟩ := hB
    obtain ⟨gP, gK, gD⟩ := hB
    rw [ht] at gP
    refine lv_goto (tgt := 19) hx hb dX6_led_15 (by decide) ?_
    refine lv_istore_n (lv' := [(2, .int r), (0, .ref oK), (1, .int p0)]) hx hb dX6_led_19 rfl hl (by decide) rfl (fun ls hl => ?_)
    exact thr _ _ _ _ _ _ h1 gP (gD.weaken (fun k q _ h => hFc q.1 h)) (va_K.moved hvm.symm gK) hS hl
set_option maxHeartbeats 4000000 in
set_option maxRecDepth 100000 in
theorem KW.recv {dC : Nat → ClassId} {dI : Nat → Nat → Nat} {oK : Nat} {iR_tapeSize : Int32} {fR_tape : Nat → Int32} {fR_keys : Nat → Int64} {iK_latestFault : Int32} {ws : va_W} {tys : List (ClassId × FieldType)} {s : State} {H : Heap} (hK : va_K (dC, dI) vwCl tys s) (hP : va_P (dC, dI) vwCl ws H) (h9 : KW oK iR_tapeSize fR_tape fR_keys iK_latestFault ws tys) : ∃ cell : Cell, H[oK]? = some cell ∧ cell.vm.isStatics = false ∧ s.vm.findClass RX6 = some cell.cls := by
  revert hK hP
  refine KW.elim (Q := fun (ws : va_W) (tys : List (ClassId × FieldType)) => va_K (dC, dI) vwCl tys s → va_P (dC, dI) vwCl ws H → ∃ cell : Cell, H[oK]? = some cell ∧ cell.vm.isStatics = false ∧ s.vm.findClass RX6 = some cell.cls) h9 ?_
  intro oR oC oS oT rK_images iK_imageCount oA oH oL iK_refusal iK_latestPlace iC_nodes iC_words iC_chances iC_unsures iC_slips iC_throneNode iC_saidWorth iC_unit rC_kind fC_kind kC_kind rC_parts fC_parts kC_parts rC_partNodes fC_partNodes kC_partNodes rC_weights fC_weights kC_weights rC_weightSums fC_weightSums kC_weightSums rC_toldWorths fC_toldWorths kC_toldWorths rC_steps fC_steps kC_steps rC_below fC_below kC_below rC_above fC_above kC_above rC_unsureWords fC_unsureWords kC_unsureWords rC_unsureWorths fC_unsureWorths kC_unsureWorths rS_worths fS_worths kS_worths rS_order fS_order kS_order rS_left fS_left kS_left rT_worths fT_worths kT_worths rT_order fT_order kT_order rT_left fT_left kT_left iA_count rA_nodes fA_nodes kA_nodes rA_olds fA_olds kA_olds rA_says fA_says kA_says iH_breaths iH_heardBits iH_cutCount iH_halfBreaths iH_halfQuestions rH_heardWords fH_heardWords kH_heardWords rH_cutParts fH_cutParts kH_cutParts rL_values fL_values kL_values rL_supposed fL_supposed kL_supposed iR_faultNumber iR_faultPlace rR_tape kR_tape iR_end iR_tokenKind iR_tokenFrom iR_tokenTo iR_tokenName iR_tokenKey iR_tokenWhole oD iR_courtTold rR_names fR_names kR_names rR_keys kR_keys iD_nodes iD_words iD_chances iD_unsures iD_slips iD_throneNode iD_saidWorth iD_unit rD_kind fD_kind kD_kind rD_parts fD_parts kD_parts rD_partNodes fD_partNodes kD_partNodes rD_weights fD_weights kD_weights rD_weightSums fD_weightSums kD_weightSums rD_toldWorths fD_toldWorths kD_toldWorths rD_steps fD_steps kD_steps rD_below fD_below kD_below rD_above fD_above kD_above rD_unsureWords fD_unsureWords kD_unsureWords rD_unsureWorths fD_unsureWorths kD_unsureWorths oI0 rI0_worths fI0_worths kI0_worths rI0_order fI0_order kI0_order rI0_left fI0_left kI0_left oI1 rI1_worths fI1_worths kI1_worths rI1_order fI1_order kI1_order rI1_left fI1_left kI1_left oI2 rI2_worths fI2_worths kI2_worths rI2_order fI2_order kI2_order rI2_left fI2_left kI2_left kK_images fK_images b_iK_imageCount b_iC_nodes b_iC_unsures b_iC_throneNode a_fC_parts a_fC_partNodes a_fC_unsureWords a_fS_order a_fS_left a_fT_order a_fT_left b_iA_count a_fA_nodes a_fA_says b_iH_breaths b_iH_cutCount b_iR_tapeSize b_iR_courtTold b_iD_nodes b_iD_unsures b_iD_throneNode a_fD_parts a_fD_partNodes a_fD_unsureWords a_fI0_order a_fI0_left a_fI1_order a_fI1_left a_fI2_order a_fI2_left r_I0 r_I1 r_I2 r_A hthr hK hP
  exact va_recv hK hP (ci := 6) (q0 := 0) rfl rfl
set_option maxHeartbeats 4000000 in
set_option maxRecDepth 100000 in
theorem MW.recv {dC : Nat → ClassId} {dI : Nat → Nat → Nat} {oM : Nat} {iM_taped : Int32} {fM_tape : Nat → Int32} {iM_fault : Int32} {ws : va_W} {tys : List (ClassId × FieldType)} {s : State} {H : Heap} (hK : va_K (dC, dI) vwCl tys s) (hP : va_P (dC, dI) vwCl ws H) (h9 : MW oM iM_taped fM_tape iM_fault ws tys) : ∃ cell : Cell, H[oM]? = some cell ∧ cell.vm.isStatics = false ∧ s.vm.findClass RX7 = some cell.cls := by
  revert hK hP
  refine MW.elim (Q := fun (ws : va_W) (tys : List (ClassId × FieldType)) => va_K (dC, dI) vwCl tys s → va_P (dC, dI) vwCl ws H → ∃ cell : Cell, H[oM]? = some cell ∧ cell.vm.isStatics = false ∧ s.vm.findClass RX7 = some cell.cls) h9 ?_
  intro iM_thrown rM_tape kM_tape iM_size iM_at iM_end iM_token iM_whole iM_nameSize iM_place iM_trouble rM_letters fM_letters kM_letters iM_failed iM_hasCourt rM_r fM_r kM_r rM_fresh fM_fresh kM_fresh rM_told fM_told kM_told rM_read fM_read kM_read rM_st fM_st kM_st rM_undone fM_undone kM_undone rM_kept fM_kept kM_kept iM_undos iM_images rM_fresher fM_fresher kM_fresher iM_fresherSize iM_scale iM_night rM_heardRow fM_heardRow kM_heardRow rM_cutRow fM_cutRow kM_cutRow iM_breaths iM_cutMany iM_allBreaths rM_trial fM_trial kM_trial rM_words fM_words kM_words iM_fewestBreaths iM_orderMany iM_orderSum iM_leastOrder rM_often fM_often kM_often iM_setMany iM_someOf iM_allOf iM_allWeight iM_enoughWeight iM_worthSum iM_firstRest iM_leastDrawn b_iM_taped b_iM_size b_iM_end b_iM_nameSize b_iM_failed b_iM_hasCourt b_iM_undos b_iM_images b_iM_scale b_iM_breaths b_iM_cutMany r_R r_C r_st r_told r_wst r_un r_ke r_T hnt hK hP
  exact va_recv hK hP (ci := 7) (q0 := 0) rfl rfl
set_option maxHeartbeats 4000000 in
set_option maxRecDepth 100000 in
theorem k_Lled (l : Launch) (hl8 : l.stackTraces = false) (dC : Nat → ClassId) (dI : Nat → Nat → Nat) (sz : Nat) (p0 : Int32) (oO : Nat) (kO : ClassId) (fO : Nat → Int64) {oK : Nat} {iR_tapeSize : Int32} {fR_tape : Nat → Int32} {fR_keys : Nat → Int64} {iK_latestFault : Int32} {ws : va_W} {tys : List (ClassId × FieldType)} (h9 : KW oK iR_tapeSize fR_tape fR_keys iK_latestFault ws tys) : Met l yL_led (Cond.codeWith yL_led cL_led 4 (some .int) [(0, 9, 12, 13)] :: wN) ({ frames := 32, cells := 1, slots := 6, locals := 944 }) (va_Pc [.ref oK, .int p0, .ref oO] (Px dC dI sz ([(oO, .inl (kO, 1, .inr (.inl fO)))] ++ ws) ([(kO, .long)] ++ tys))) (va_Qi (fun (_ : Int32) (_ : Nat) => True) (fun (_ : Nat) (t : State) => ∃ (ws9 : va_W) (tys9 : List (ClassId × FieldType)) (fO9 : Nat → Int64), KW oK iR_tapeSize fR_tape fR_keys iK_latestFault ws9 tys9 ∧ Bw dC dI (va_A ([(oO, .inl (kO, 1, .inr (.inl fO)))] ++ ws) sz) ([(oO, .inl (kO, 1, .inr (.inl fO9)))] ++ ws9) ([(kO, .long)] ++ tys9) t) (va_A ([(oO, .inl (kO, 1, .inr (.inl fO)))] ++ ws) sz)) 1 6 (va_A ([(oO, .inl (kO, 1, .inr (.inl fO)))] ++ ws) sz) := by
  refine va_MetW (cc := cL_led) (maxL := 4) (ret := (some .int)) (hh := [(0, 9, 12, 13)]) (by decide) rfl ?_
  intro p e s m args below meth c s₁ B hml hv
  obtain ⟨rfl, ⟨hsz, hP, hK, hD0, hE⟩, hX9⟩ := hv
  have hx := B.exec
  have hb := B.bytes
  have hr := B.returns
  have hts : ∀ w ∈ wN, w.before ([.ref oK, .int p0, .ref oO] : List Value).toArray s = true := fun w h => atoms_spec (ws := Cond.codeWith yL_led cL_led 4 (some .int) [(0, 9, 12, 13)] :: wN) B.pre w (List.mem_cons_of_mem _ h)
  have hown : s.vm.findClass RL = some m.cls := findClass_of_methodNamed B.named
  have hlocks := B.notSynchronized
  have htab : c.exceptionTable.toList = tableOf [(0, 9, 12, 13)] := vx_table (x := yL_led) B (atoms_spec (ws := Cond.codeWith yL_led cL_led 4 (some .int) [(0, 9, 12, 13)] :: wN) B.pre _ List.mem_cons_self)
  subst hsz
  have hD := hD0.self (sz := s.heap.size)
  generalize hAe : va_A ([(oO, .inl (kO, 1, .inr (.inl fO)))] ++ ws) s.heap.size = A at hD hE hX9 ⊢
  have hA : ∀ q : Nat, s.heap.size ≤ q → A q := fun q h => by rw [← hAe]; exact Or.inr h
  have hS : va_S A s.heap s.heap [] := va_S.rf
  have hl := lv_entry ([.ref oK, .int p0, .ref oO]) (n := 4) (Nat.le_of_ble_eq_true rfl)
  rw [lg_entry_eq]
  generalize (lg_sl ([.ref oK, .int p0, .ref oO]) ++ List.replicate (4 - (lg_sl ([.ref oK, .int p0, .ref oO])).length) Slot.unset).toArray = ls at hl ⊢
  have hl : lv_has ls 4 [(0, .ref oK), (1, .int p0), (2, .ref oO)] := hl
  refine lv_aload_n hx hb dL_led_0 rfl (lv_at hl 2 rfl) ?_
  refine lv_iconst (v := 0) hx hb dL_led_1 (by decide) ?_
  refine lv_aload_n hx hb dL_led_2 rfl (lv_at hl 0 rfl) ?_
  refine lv_iload_n hx hb dL_led_3 rfl (lv_at hl 1 rfl) ?_
  have hPc := pA_r hP
  have hDc := dA_r hD
  have hKc := kA_r hK
  have hFc := freeA hDc hS hA
  refine vx_calli (vx_runV (As := [.int p0]) (rest := [.int 0, .ref oO]) ⟨hx, hb, hml, hown, hts⟩ (k_led l hl8 dC dI _ p0 h9) (cwV 1 hts (wn_V (wn_g wd_1432) (wn_g wd_1433) (wn_g wd_1434) (wn_g wd_2) (wn_c (wn_g wd_1435))) rfl rfl rfl (by decide +kernel) ⟨Nat.le_of_ble_eq_true rfl, Nat.le_of_ble_eq_true rfl⟩) ⟨Px.fb, KW.recv hKc hPc h9, fun U hU hW => Px.to hPc hDc hKc hE hX9 hS hFc hU hW⟩ rfl rfl hl.1 rfl (lv_room (Nat.le_of_ble_eq_true rfl)) dL_led_4 ⟨Nat.le_of_ble_eq_true rfl, Nat.le_of_ble_eq_true rfl⟩) hS (fun q _ h => hFc q h) hFc (fun q _ h => hFc q h) (fun E ce q9 u t H locs ht hvm hpx hBX hz hk hS hcell hv hcl => ?_) (fun r u t H locs ht hvm hw hB hz1 hk1 hS => ?_)
  · obtain ⟨rfl, w1, ty1, h1, gP, gK, gD⟩ := hBX
    rw [ht] at gP
    obtain ⟨jP, jD⟩ := joinA hP hD hk hFc gP gD
    refine vx_catch (own := RL) (name := nsN) (E := nsN) hown [] (tableOf [(0, 9, 12, 13)])[0] [] (htab.trans rfl) (fun z hz => absurd hz List.not_mem_nil) (by decide) (by decide) (hts (.classLink RL 13 nsN) (wn_g wd_1431)) (va_Nw.use rfl (hX9.2.2.2 (.castable nsN nsN) (by simp [nsB]))) hcell hv hcl ?_
    refine W.eq (g2 := F0 m 12 ls [.ref q9]) rfl ?_
    refine lv_astore_n (lv' := [(3, .ref q9), (0, .ref oK), (1, .int p0), (2, .ref oO)]) hx hb dL_led_12 rfl hl (by decide) rfl (fun ls hl => ?_)
    refine lv_iconst (v := 1) hx hb dL_led_13 (by decide) ?_
    refine W.widen (k := 1) (n := 6) (Nat.le_of_ble_eq_true rfl) (Nat.le_of_ble_eq_true rfl) ?_
    exact W.iret (v := 1) hx hb hr (fun t ht hW => ⟨⟨_, 0, rfl, trivial, _, _, _, h1, Bw.to jP jD (va_K.app (kA_l hK) (va_K.moved hvm.symm gK)) ht hW⟩, hS.F ht⟩) hS.2.2 dL_led_14
  · obtain ⟨w1, ty1, h1, gP, gK, gD⟩ := hB
    rw [ht] at gP
    obtain ⟨jP, jD⟩ := joinA hP hD hk1 hFc gP gD
    have jK := va_K.app (kA_l hK) (va_K.moved hvm.symm gK)
    obtain ⟨y9, ey9⟩ : ∃ z : Int64, z = r.toInt64 := ⟨_, rfl⟩
    refine lv_i2l (v := y9) hx hb dL_led_7 ey9.symm ?_
    refine vz_last hx hb jK jP jD hS 0 0 rfl rfl (by unfold vp_in; decide) dL_led_8 (fun H locs f9 jP jD hS => ?_)
    refine lv_goto (tgt := 15) hx hb dL_led_9 (by decide) ?_
    refine lv_iconst (v := 0) hx hb dL_led_15 (by decide) ?_
    refine W.widen (k := 1) (n := 6) (Nat.le_of_ble_eq_true rfl) (Nat.le_of_ble_eq_true rfl) ?_
    exact W.iret (v := 0) hx hb hr (fun t ht hW => ⟨⟨_, 0, rfl, trivial, _, _, f9, h1, Bw.to jP jD jK ht hW⟩, hS.F ht⟩) hS.2.2 dL_led_16
