/-! the words that every contract carries: one list for all; the world's standing premises -/
theorem wd_gw {w : Cond} (h : w ∈ wG) : w ∈ wG ∧ ((w.onTables && w.keeps) = true ∨ ∃ ty, w = .arrayClass ty) := ⟨h, good_of_word (wG_good w h)⟩
theorem wd_c {w : Cond} (h : w ∈ wG) : GoodIn wG (w :: wG) := fun w' hw => (List.mem_cons.mp hw).elim (fun e => by rw [e]; exact wd_gw h) (fun h => wd_gw h)
theorem wd_V {own C : String} {idx : Nat} {y : MethodName} {ws : List Cond} (h1 : Cond.methodLink own idx y ∈ wG) (h2 : Cond.instanceMethod y ∈ wG) (h3 : Cond.selects C y y ∈ wG) (h4 : Cond.initialized C ∈ wG) (h : GoodIn wG ws) : GoodIn wG (wsV own idx C y ws) := by
  intro w hw
  rcases List.mem_append.mp hw with hw | hw
  · simp only [List.mem_cons, List.not_mem_nil, or_false] at hw
    rcases hw with rfl | rfl | rfl | rfl
    · exact wd_gw h1
    · exact wd_gw h2
    · exact wd_gw h3
    · exact wd_gw h4
  · exact h w hw
theorem wd_S {own : String} {idx : Nat} {y : MethodName} {ws : List Cond} (h1 : Cond.methodLink own idx y ∈ wG) (h2 : Cond.static y ∈ wG) (h4 : Cond.initialized y.cls ∈ wG) (h : GoodIn wG ws) : GoodIn wG (va_wsS own idx y ws) := by
  intro w hw
  rcases List.mem_append.mp hw with hw | hw
  · simp only [List.mem_cons, List.not_mem_nil, or_false] at hw
    rcases hw with rfl | rfl | rfl
    · exact wd_gw h1
    · exact wd_gw h2
    · exact wd_gw h4
  · exact h w hw
/-- a String that is there: coder 0, its bytes -/
def Sw (a v n : Nat) (f : Nat → Int32) (A : Nat → Prop) (U : State) (H : Heap) : Prop := va_O "java/lang/String" a A U H ∧ va_OF "java/lang/String" "coder" "B" (.int 0) a A U H ∧ va_OF "java/lang/String" "value" "[B" (.ref v) a A U H ∧ va_T .byte v n (fun j => .int (f j)) A U H
def Jz (A : Nat → Prop) (U : State) (H : Heap) : Prop := va_Z "java/lang/String" "COMPACT_STRINGS" "Z" (.int 1) A U H ∧ va_Zq "jdk/internal/util/Preconditions" "SIOOBE_FORMATTER" "Ljava/util/function/BiFunction;" A U H
theorem Sw.to {a v n : Nat} {f : Nat → Int32} {A B : Nat → Prop} {s U : State} {H : Heap} {locs : List Loc} (h : Sw a v n f A s s.heap) (hS : va_S A s.heap H locs) (hF : ∀ q, B q → A q) (hU : U.heap = H) (hW : s.WarmedH U.vm) : Sw a v n f B U U.heap := by
  rw [hU]
  obtain ⟨h1, h2, h3, h4⟩ := h
  exact ⟨va_O.moved hW.alike ((h1.kept hS.2.1).narrow hF), va_OF.moved hW.alike ((h2.kept hS.2.1).narrow hF), va_OF.moved hW.alike ((h3.kept hS.2.1).narrow hF), va_T.moved hW.alike ((h4.kept hS.2.1).narrow hF)⟩
theorem Jz.to {A B : Nat → Prop} {s U : State} {H : Heap} {locs : List Loc} (h : Jz A s s.heap) (hS : va_S A s.heap H locs) (hF : ∀ q, B q → A q) (hU : U.heap = H) (hW : s.WarmedH U.vm) : Jz B U U.heap := by
  rw [hU]
  exact ⟨va_Z.moved hW.alike ((h.1.kept hS.2.1).narrow hF), va_Zq.moved hW.alike ((h.2.kept hS.2.1).narrow hF)⟩
theorem Sw.call {a v n : Nat} {f : Nat → Int32} {A : Nat → Prop} {U V : State} (h : Sw a v n f A U U.heap) (hv : U.vm.Alike V.vm) (hh : V.heap = U.heap) : Sw a v n f A V V.heap := by
  rw [hh]
  obtain ⟨h1, h2, h3, h4⟩ := h
  exact ⟨va_O.moved hv h1, va_OF.moved hv h2, va_OF.moved hv h3, va_T.moved hv h4⟩
theorem Jz.call {A : Nat → Prop} {U V : State} (h : Jz A U U.heap) (hv : U.vm.Alike V.vm) (hh : V.heap = U.heap) : Jz A V V.heap := by
  rw [hh]
  exact ⟨va_Z.moved hv h.1, va_Zq.moved hv h.2⟩
def lits3 : List (Nat × String × List Int32) := [(29, "word", [119, 111, 114, 100]), (35, "king", [107, 105, 110, 103]), (37, "queen", [113, 117, 101, 101, 110]), (39, "chance", [99, 104, 97, 110, 99, 101]), (41, "court", [99, 111, 117, 114, 116]), (42, "throne", [116, 104, 114, 111, 110, 101]), (44, "unsure", [117, 110, 115, 117, 114, 101]), (46, "said", [115, 97, 105, 100]), (48, "slips", [115, 108, 105, 112, 115]), (50, "worth", [119, 111, 114, 116, 104])]
def lits7 : List (Nat × String × List Int32) := [(134, "court", [99, 111, 117, 114, 116]), (136, "word", [119, 111, 114, 100]), (138, "king", [107, 105, 110, 103]), (140, "queen", [113, 117, 101, 101, 110]), (142, "chance", [99, 104, 97, 110, 99, 101]), (144, "throne", [116, 104, 114, 111, 110, 101]), (146, "unsure", [117, 110, 115, 117, 114, 101]), (148, "said", [115, 97, 105, 100]), (222, "slips", [115, 108, 105, 112, 115]), (231, "worth", [119, 111, 114, 116, 104])]
def nests : List (String × Nat × MethodName) := [(RX6, 25, yX5_init), (RX6, 39, yX0_init), (RX6, 46, yX2_init), (RX6, 53, yX4_init), (RX4, 57, yX6_wholeOf), (RX2, 97, yX6_wholeOf)]
/-- what stands beside the cells: the Strings, the JDK's statics, the links among nest mates, the array class of Stands -/
def Ev (A : Nat → Prop) (U : State) (H : Heap) : Prop := (∀ q ∈ lits3, ∃ (a v n : Nat) (f : Nat → Int32), n ≤ 8 ∧ n = q.2.2.length ∧ f = (fun j => q.2.2.getD j 0) ∧ vk_R RX3 q.1 q.2.1 a U ∧ Sw a v n f A U H) ∧ Jz A U H ∧ (∀ q ∈ lits7, ∃ (a v n : Nat) (f : Nat → Int32), n ≤ 8 ∧ n = q.2.2.length ∧ f = (fun j => q.2.2.getD j 0) ∧ vk_R RX7 q.1 q.2.1 a U ∧ Sw a v n f A U H) ∧ (∀ q ∈ nests, va_Nw (.methodLinkNest q.1 q.2.1 q.2.2 "KingHears") U) ∧ va_AO RX5 U
theorem Ev.to {A B : Nat → Prop} {s U : State} {H : Heap} {locs : List Loc} (h : Ev A s s.heap) (hS : va_S A s.heap H locs) (hF : ∀ q, B q → A q) (hU : U.heap = H) (hW : s.WarmedH U.vm) : Ev B U U.heap := by
  obtain ⟨h1, h2, h3, h4, h5⟩ := h
  refine ⟨fun q hq => ?_, h2.to hS hF hU hW, fun q hq => ?_, fun q hq => va_Nw.warmM hW (h4 q hq), va_AO.moved hW.alike h5⟩
  · obtain ⟨a, v, n, f, g1, g4, g5, g2, g3⟩ := h1 q hq
    exact ⟨a, v, n, f, g1, g4, g5, vk_R.warm hW g2, g3.to hS hF hU hW⟩
  · obtain ⟨a, v, n, f, g1, g4, g5, g2, g3⟩ := h3 q hq
    exact ⟨a, v, n, f, g1, g4, g5, vk_R.warm hW g2, g3.to hS hF hU hW⟩
theorem Ev.call {A : Nat → Prop} {U V : State} (h : Ev A U U.heap) (hv : V.vm = U.vm) (hh : V.heap = U.heap) : Ev A V V.heap := by
  obtain ⟨h1, h2, h3, h4, h5⟩ := h
  have ha : U.vm.Alike V.vm := by rw [hv]; exact Vm.Alike.refl _
  refine ⟨fun q hq => ?_, h2.call ha hh, fun q hq => ?_, fun q hq => va_Nw.same rfl hv.symm (h4 q hq), va_AO.moved ha h5⟩
  · obtain ⟨a, v, n, f, g1, g4, g5, g2, g3⟩ := h1 q hq
    exact ⟨a, v, n, f, g1, g4, g5, vk_R.same hv g2, g3.call ha hh⟩
  · obtain ⟨a, v, n, f, g1, g4, g5, g2, g3⟩ := h3 q hq
    exact ⟨a, v, n, f, g1, g4, g5, vk_R.same hv g2, g3.call ha hh⟩
/-- a contract's start: the cells, the array classes, what stands beside them -/
def Pw (dC : Nat → ClassId) (dI : Nat → Nat → Nat) (sz : Nat) (ws : va_W) (tys : List (ClassId × FieldType)) (U : State) : Prop := U.heap.size = sz ∧ va_P (dC, dI) vwCl ws U.heap ∧ va_K (dC, dI) vwCl tys U ∧ va_D (fun _ => True) ws ∧ Ev (va_A ws sz) U U.heap
/-- a contract's end -/
def Bw (dC : Nat → ClassId) (dI : Nat → Nat → Nat) (A : Nat → Prop) (ws : va_W) (tys : List (ClassId × FieldType)) (t : State) : Prop := va_P (dC, dI) vwCl ws t.heap ∧ va_K (dC, dI) vwCl tys t ∧ va_D A ws
theorem Pw.fb {av : List Value} {dC : Nat → ClassId} {dI : Nat → Nat → Nat} {sz : Nat} {ws : va_W} {tys : List (ClassId × FieldType)} : FrameBlind (va_Pc av (Pw dC dI sz ws tys)) := by
  intro a U g mk q
  obtain ⟨q0, q1, qP, qK, qD, qE⟩ := q
  exact ⟨q0, q1, qP, va_K.moved (u := U) (U := U.calling g mk a) (Vm.Alike.refl U.vm) qK, qD, Ev.call (V := U.calling g mk a) qE rfl rfl⟩
theorem Pw.to {av : List Value} {dC : Nat → ClassId} {dI : Nat → Nat → Nat} {A : Nat → Prop} {ws : va_W} {tys : List (ClassId × FieldType)} {s U : State} {H : Heap} {locs : List Loc} (hP : va_P (dC, dI) vwCl ws H) (hD : va_D A ws) (hK : va_K (dC, dI) vwCl tys s) (hE : Ev A s s.heap) (hS : va_S A s.heap H locs) (hF : ∀ q, va_A ws H.size q → A q) (hU : U.heap = H) (hW : s.WarmedH U.vm) : va_Pc av (Pw dC dI H.size ws tys) av.toArray U :=
  ⟨rfl, by rw [hU], by rw [hU]; exact hP, va_K.moved hW.alike hK, hD.weaken (fun _ _ _ _ => trivial), hE.to hS hF hU hW⟩
theorem Bw.to {dC : Nat → ClassId} {dI : Nat → Nat → Nat} {A : Nat → Prop} {ws : va_W} {tys : List (ClassId × FieldType)} {s t : State} {H : Heap} (hP : va_P (dC, dI) vwCl ws H) (hD : va_D A ws) (hK : va_K (dC, dI) vwCl tys s) (ht : t.heap = H) (hW : s.WarmedH t.vm) : Bw dC dI A ws tys t :=
  ⟨by rw [ht]; exact hP, va_K.moved hW.alike hK, hD⟩
theorem Bw.back {dC : Nat → ClassId} {dI : Nat → Nat → Nat} {A0 A : Nat → Prop} {ws wc wr w1 : va_W} {tys tyr ty1 : List (ClassId × FieldType)} {s t : State} {H H1 : Heap} (h : Bw dC dI A w1 ty1 t) (hA : A = va_A wc H.size) (ht : t.heap = H1) (hvm : s.vm.Alike t.vm) (hP : va_P (dC, dI) vwCl ws H) (hD : va_D A0 ws) (hK : va_K (dC, dI) vwCl tys s) (isC isR : List Nat) (hC : isC.map (fun i => ws[i]?) = wc.map some) (hR : isR.map (fun i => ws[i]?) = wr.map some) (hn : va_nd isR = true) (hdis : ∀ i ∈ isR, i ∉ isC) (isT : List Nat) (hT : isT.filterMap (fun i => tys[i]?) = tyr)
    (hk : ∀ q : Nat, q < H.size → ¬ va_A wc H.size q → H1[q]? = H[q]?) (hF : ∀ q, va_A wc H.size q → A0 q) : va_P (dC, dI) vwCl (wr ++ w1) H1 ∧ va_D A0 (wr ++ w1) ∧ va_K (dC, dI) vwCl (tyr ++ ty1) s := by
  subst hA
  obtain ⟨hP1, hK1, hD1⟩ := h
  rw [ht] at hP1
  obtain ⟨gP, gD⟩ := va_join (wr := wr) (w1 := w1) hP hD isC isR hC hR hn hdis hk hF hP1 hD1
  exact ⟨gP, gD, (hK.sub (tys' := tyr) isT hT).app (va_K.moved hvm.symm hK1)⟩
theorem fz_lt (a b : Int32) : a < b ↔ a.toInt < b.toInt := Int32.lt_iff_toInt_lt
theorem fz_le (a b : Int32) : a ≤ b ↔ a.toInt ≤ b.toInt := Int32.le_iff_toInt_le
theorem fz_eq (a b : Int32) : a = b ↔ a.toInt = b.toInt := Int32.toInt_inj.symm
theorem Bw.nil {dC : Nat → ClassId} {dI : Nat → Nat → Nat} {A : Nat → Prop} {tys : List (ClassId × FieldType)} {s t : State} (_ : True) (hvm : s.vm.Alike t.vm) (hK : va_K (dC, dI) vwCl tys s) : Bw dC dI A [] [] t :=
  ⟨fun k q h => by simp at h, va_K.moved hvm (hK.sub (tys' := []) [] rfl), ⟨fun i j p q h => by simp at h, fun k q h => by simp at h⟩⟩
section VZ
variable {p : Program} {l : Launch} {e : Env} {R : Room} {s : State} {m : MethodId} {args : Array Value} {below : List Frame} {meth : Method} {c : Code} {H : Heap} {locs : List Loc} {cells slots : Nat} {Q : State → Prop}
variable {cc : ByteArray} {pc : Nat} {ls : Array Slot} {rest : List Value} {D : va_G} {cl : List vw_C} {A : Nat → Prop} {a : Nat} {tys : List (ClassId × FieldType)} {ws : va_W} {H0 : Heap}
theorem vz_iast (hexec : p.tables.exec = Jvm.exec) (hb : c.code = cc) (hK : va_K D cl tys s) (hP : va_P D cl ws H) (hD : va_D A ws) (hS : va_S A H0 H locs) (q0 t0 : Nat) {cA : ClassId} {n : Nat} {f : Nat → Int32} (ha : ws[q0]? = some (a, .inl (cA, n, .inl f))) (ht : tys[t0]? = some (cA, .int)) {i : Int32} {x : Int32} (hin : vp_in i n) (hdg : decode cc pc = .ok (.iastore, 1))
    (kk : ∀ (H1 : Heap) (locs1 : List Loc) (g : Nat → Int32), va_P D cl (ws.set q0 (a, .inl (cA, n, .inl g))) H1 → va_D A (ws.set q0 (a, .inl (cA, n, .inl g))) → va_S A H0 H1 locs1 → W p l e R s m args below meth c H1 locs1 cells slots Q (F0 m (pc + 1) ls rest)) : W p l e R s m args below meth c H locs cells slots Q (F0 m pc ls (.int x :: .int i :: .ref a :: rest)) :=
  va_iast hexec hb hK hP hD hS q0 t0 ha ht hin hdg (fun H1 locs1 h1 h2 h3 => kk H1 locs1 _ h1 h2 h3)
theorem vz_bast (hexec : p.tables.exec = Jvm.exec) (hb : c.code = cc) (hK : va_K D cl tys s) (hP : va_P D cl ws H) (hD : va_D A ws) (hS : va_S A H0 H locs) (q0 t0 : Nat) {cA : ClassId} {n : Nat} {f : Nat → Int32} (ha : ws[q0]? = some (a, .inl (cA, n, .inl f))) (ht : tys[t0]? = some (cA, .byte)) {i : Int32} {x : Int32} (hin : vp_in i n) (hdg : decode cc pc = .ok (.bastore, 1))
    (kk : ∀ (H1 : Heap) (locs1 : List Loc) (g : Nat → Int32), va_P D cl (ws.set q0 (a, .inl (cA, n, .inl g))) H1 → va_D A (ws.set q0 (a, .inl (cA, n, .inl g))) → va_S A H0 H1 locs1 → W p l e R s m args below meth c H1 locs1 cells slots Q (F0 m (pc + 1) ls rest)) : W p l e R s m args below meth c H locs cells slots Q (F0 m pc ls (.int x :: .int i :: .ref a :: rest)) :=
  va_bast hexec hb hK hP hD hS q0 t0 ha ht hin hdg (fun H1 locs1 h1 h2 h3 => kk H1 locs1 _ h1 h2 h3)
theorem vz_last (hexec : p.tables.exec = Jvm.exec) (hb : c.code = cc) (hK : va_K D cl tys s) (hP : va_P D cl ws H) (hD : va_D A ws) (hS : va_S A H0 H locs) (q0 t0 : Nat) {cA : ClassId} {n : Nat} {f : Nat → Int64} (ha : ws[q0]? = some (a, .inl (cA, n, .inr (.inl f)))) (ht : tys[t0]? = some (cA, .long)) {i : Int32} {x : Int64} (hin : vp_in i n) (hdg : decode cc pc = .ok (.lastore, 1))
    (kk : ∀ (H1 : Heap) (locs1 : List Loc) (g : Nat → Int64), va_P D cl (ws.set q0 (a, .inl (cA, n, .inr (.inl g)))) H1 → va_D A (ws.set q0 (a, .inl (cA, n, .inr (.inl g)))) → va_S A H0 H1 locs1 → W p l e R s m args below meth c H1 locs1 cells slots Q (F0 m (pc + 1) ls rest)) : W p l e R s m args below meth c H locs cells slots Q (F0 m pc ls (.long x :: .int i :: .ref a :: rest)) :=
  va_last hexec hb hK hP hD hS q0 t0 ha ht hin hdg (fun H1 locs1 h1 h2 h3 => kk H1 locs1 _ h1 h2 h3)
theorem vz_astq (hexec : p.tables.exec = Jvm.exec) (hb : c.code = cc) (hK : va_K D cl tys s) (hP : va_P D cl ws H) (hD : va_D A ws) (hS : va_S A H0 H locs) (q0 t0 qk ci : Nat) {cA : ClassId} {r : vw_C} {n v : Nat} {vs : List Value} {f : Nat → Option Nat} (ha : ws[q0]? = some (a, .inl (cA, n, .inr (.inr (.inr (.inr f)))))) (ht : tys[t0]? = some (cA, .object r.1)) (hv : ws[qk]? = some (v, .inr (ci, vs))) (hc : cl[ci]? = some r) {i : Int32} (hin : vp_in i n) (hdg : decode cc pc = .ok (.aastore, 1))
    (kk : ∀ (H1 : Heap) (locs1 : List Loc) (g : Nat → Option Nat), va_P D cl (ws.set q0 (a, .inl (cA, n, .inr (.inr (.inr (.inr g)))))) H1 → va_D A (ws.set q0 (a, .inl (cA, n, .inr (.inr (.inr (.inr g)))))) → va_S A H0 H1 locs1 → W p l e R s m args below meth c H1 locs1 cells slots Q (F0 m (pc + 1) ls rest)) : W p l e R s m args below meth c H locs cells slots Q (F0 m pc ls (.ref v :: .int i :: .ref a :: rest)) :=
  va_astq hexec hb hK hP hD hS q0 t0 qk ci ha ht hv hc hin hdg (fun H1 locs1 h1 h2 h3 => kk H1 locs1 _ h1 h2 h3)
theorem vz_jge (hexec : p.tables.exec = Jvm.exec) (hb : c.code = cc) {x y : Int32} (d0 : decode cc pc = .ok (.if_icmp .ge 7, 3)) (d1 : decode cc (pc + 3) = .ok (.iconst 1, 1)) (d2 : decode cc (pc + 4) = .ok (.goto 4, 3)) (d3 : decode cc (pc + 7) = .ok (.iconst 0, 1))
    (kk : ∀ b : Int32, W p l e R s m args below meth c H locs cells slots Q (F0 m (pc + 8) ls (.int b :: rest))) : W p l e R s m args below meth c H locs cells slots Q (F0 m pc ls (.int y :: .int x :: rest)) :=
  lv_icmp_ge (tgt := pc + 7) hexec hb d0 (by omega) (fun _ => lv_iconst (v := 0) hexec hb d3 (by decide) (kk 0)) (fun _ => lv_iconst (v := 1) hexec hb d1 (by decide) (lv_goto (tgt := pc + 8) hexec hb d2 (by omega) (kk 1)))
theorem vz_jeq (hexec : p.tables.exec = Jvm.exec) (hb : c.code = cc) {x : Int32} (d0 : decode cc pc = .ok (.ifCond .eq 7, 3)) (d1 : decode cc (pc + 3) = .ok (.iconst 1, 1)) (d2 : decode cc (pc + 4) = .ok (.goto 4, 3)) (d3 : decode cc (pc + 7) = .ok (.iconst 0, 1))
    (kk : ∀ b : Int32, W p l e R s m args below meth c H locs cells slots Q (F0 m (pc + 8) ls (.int b :: rest))) : W p l e R s m args below meth c H locs cells slots Q (F0 m pc ls (.int x :: rest)) :=
  lv_if_eq (tgt := pc + 7) hexec hb d0 (by omega) (fun _ => lv_iconst (v := 0) hexec hb d3 (by decide) (kk 0)) (fun _ => lv_iconst (v := 1) hexec hb d1 (by decide) (lv_goto (tgt := pc + 8) hexec hb d2 (by omega) (kk 1)))
end VZ
theorem fb_rng (x : Int32) : -2147483648 ≤ x.toInt ∧ x.toInt < 2147483648 := by
  have h1 := Int32.le_toInt x
  have h2 := Int32.toInt_lt x
  omega
theorem fb_bmod {z : Int} (h1 : -2147483648 ≤ z) (h2 : z < 2147483648) : z.bmod (2 ^ 32) = z := by
  rw [Int.bmod_eq_of_le (by omega) (by omega)]
theorem fb_addI {x y : Int32} (h1 : -2147483648 ≤ x.toInt + y.toInt) (h2 : x.toInt + y.toInt < 2147483648) : (x + y).toInt = x.toInt + y.toInt := by
  rw [Int32.toInt_add, fb_bmod h1 h2]
theorem fb_subI {x y : Int32} (h1 : -2147483648 ≤ x.toInt - y.toInt) (h2 : x.toInt - y.toInt < 2147483648) : (x - y).toInt = x.toInt - y.toInt := by
  rw [Int32.toInt_sub, fb_bmod h1 h2]
theorem fb_mulI {x y : Int32} (h1 : -2147483648 ≤ x.toInt * y.toInt) (h2 : x.toInt * y.toInt < 2147483648) : (x * y).toInt = x.toInt * y.toInt := by
  rw [Int32.toInt_mul, fb_bmod h1 h2]
theorem fb_negI {x : Int32} (h : x.toInt ≠ -2147483648) : (-x).toInt = -x.toInt := by
  have := fb_rng x
  rw [Int32.toInt_neg, fb_bmod (by omega) (by omega)]
theorem fb_ofI {z : Int} (h1 : -2147483648 ≤ z) (h2 : z < 2147483648) : (Int32.ofInt z).toInt = z := by
  rw [Int32.toInt_ofInt, fb_bmod h1 h2]
theorem fb_asI (x : Int32) : Int32.ofInt x.toInt = x := Int32.ofInt_toInt x
theorem fb_rngL (x : Int64) : -9223372036854775808 ≤ x.toInt ∧ x.toInt < 9223372036854775808 := by
  have h1 := Int64.le_toInt x
  have h2 := Int64.toInt_lt x
  omega
theorem fb_bmodL {z : Int} (h1 : -9223372036854775808 ≤ z) (h2 : z < 9223372036854775808) : z.bmod (2 ^ 64) = z := by
  rw [Int.bmod_eq_of_le (by omega) (by omega)]
theorem fb_addL {x y : Int64} (h1 : -9223372036854775808 ≤ x.toInt + y.toInt) (h2 : x.toInt + y.toInt < 9223372036854775808) : (x + y).toInt = x.toInt + y.toInt := by
  rw [Int64.toInt_add, fb_bmodL h1 h2]
theorem fb_subL {x y : Int64} (h1 : -9223372036854775808 ≤ x.toInt - y.toInt) (h2 : x.toInt - y.toInt < 9223372036854775808) : (x - y).toInt = x.toInt - y.toInt := by
  rw [Int64.toInt_sub, fb_bmodL h1 h2]
theorem fb_mulL {x y : Int64} (h1 : -9223372036854775808 ≤ x.toInt * y.toInt) (h2 : x.toInt * y.toInt < 9223372036854775808) : (x * y).toInt = x.toInt * y.toInt := by
  rw [Int64.toInt_mul, fb_bmodL h1 h2]
/-! numbers by their toInt: facts for omega -/
theorem ti_add {x y z : Int32} {a b : Int} (h : z = x + y) (hx : x.toInt = a) (hy : y.toInt = b) (h1 : -2147483648 ≤ a + b) (h2 : a + b < 2147483648) : z.toInt = a + b := by
  subst hx; subst hy; rw [h]; exact fb_addI h1 h2
theorem ti_sub {x y z : Int32} {a b : Int} (h : z = x - y) (hx : x.toInt = a) (hy : y.toInt = b) (h1 : -2147483648 ≤ a - b) (h2 : a - b < 2147483648) : z.toInt = a - b := by
  subst hx; subst hy; rw [h]; exact fb_subI h1 h2
theorem ti_mul {x y z : Int32} {a b : Int} (h : z = x * y) (hx : x.toInt = a) (hy : y.toInt = b) (h1 : -2147483648 ≤ a * b) (h2 : a * b < 2147483648) : z.toInt = a * b := by
  subst hx; subst hy; rw [h]; exact fb_mulI h1 h2
theorem ti_lt {x y : Int32} {a b : Int} (c : x < y) (hx : x.toInt = a) (hy : y.toInt = b) : a < b := by
  subst hx; subst hy; exact (fz_lt _ _).mp c
theorem ti_nlt {x y : Int32} {a b : Int} (c : ¬ x < y) (hx : x.toInt = a) (hy : y.toInt = b) : b ≤ a := by
  subst hx; subst hy; rw [fz_lt] at c; omega
theorem ti_le {x y : Int32} {a b : Int} (c : x ≤ y) (hx : x.toInt = a) (hy : y.toInt = b) : a ≤ b := by
  subst hx; subst hy; exact (fz_le _ _).mp c
theorem ti_nle {x y : Int32} {a b : Int} (c : ¬ x ≤ y) (hx : x.toInt = a) (hy : y.toInt = b) : b < a := by
  subst hx; subst hy; rw [fz_le] at c; omega
theorem ti_eq {x y : Int32} {a b : Int} (c : x = y) (hx : x.toInt = a) (hy : y.toInt = b) : a = b := by
  subst hx; subst hy; rw [c]
theorem ti_ne {x y : Int32} {a b : Int} (c : ¬ x = y) (hx : x.toInt = a) (hy : y.toInt = b) : a ≠ b := by
  subst hx; subst hy; exact fun h => c (Int32.toInt_inj.mp h)
theorem ti_in {x : Int32} {a : Int} {n : Nat} (hx : x.toInt = a) (h1 : 0 ≤ a) (h2 : a < n) : vp_in x n := vp_in_iff.mpr (by rw [hx]; exact ⟨h1, h2⟩)
theorem ti_cl {x : Int32} {a : Int} (hx : x.toInt = a) (h : 0 ≤ a) : (x.toNatClampNeg : Int) = a := by
  have hc : x.toNatClampNeg = x.toInt.toNat := rfl
  rw [hc, hx]; omega
theorem ti_n0 {x : Int32} {a : Int} (hx : x.toInt = a) (h : a ≠ 0) : ¬ x = 0 := fun e => h (by rw [← hx, e]; decide)
theorem bz_nar {v : Int32} (h : v = 0 ∨ v = 1) : narrow .boolean (.int v) = .int v := by rcases h with rfl | rfl <;> rfl
theorem va_nilA {sz q : Nat} (h : va_A [] sz q) : sz ≤ q := by
  rcases h with ⟨k, e, h⟩ | h
  · simp at h
  · exact h
theorem Pn.to {av : List Value} {dC : Nat → ClassId} {dI : Nat → Nat → Nat} {A : Nat → Prop} {tys : List (ClassId × FieldType)} {s U : State} {H : Heap} {locs : List Loc} (hK : va_K (dC, dI) vwCl tys s) (hE : Ev A s s.heap) (hS : va_S A s.heap H locs) (hA : ∀ q, s.heap.size ≤ q → A q) (hU : U.heap = H) (hW : s.WarmedH U.vm) : va_Pc av (Pw dC dI H.size [] []) av.toArray U := by
  have hF : ∀ q, va_A [] H.size q → A q := fun q h => hA q (Nat.le_trans hS.1 (va_nilA h))
  exact ⟨rfl, by rw [hU], fun k q h => by simp at h, va_K.moved hW.alike (hK.sub (tys' := []) [] rfl), ⟨fun i j p q h => by simp at h, fun k q h => by simp at h⟩, hE.to hS hF hU hW⟩
theorem lg_nz {z : Int32} {x : Int64} (e : z = lg_cmp x 0) (h : ¬ z = 0) : ¬ x = 0 := fun hx => h (by rw [e, hx]; decide)
theorem lg_ze {z : Int32} {x : Int64} (e : z = lg_cmp x 0) (h : z = 0) : x = 0 := by
  rw [e] at h
  unfold lg_cmp at h
  by_cases h1 : x > 0
  · rw [if_pos h1] at h; exact absurd h (by decide)
  · rw [if_neg h1] at h
    by_cases h2 : x = 0
    · exact h2
    · rw [if_neg h2] at h; exact absurd h (by decide)
theorem lg_rem (x y : Int64) (hy : ¬ y = 0) : (x - x / y * y).toInt.natAbs < y.toInt.natAbs := by
  have hy0 : y.toInt ≠ 0 := fun h => hy (Int64.toInt_inj.mp (by rw [h]; decide))
  have hx := fb_rngL x
  have hyr := fb_rngL y
  have key : (x - x / y * y).toInt = x.toInt.tmod y.toInt := by
    rw [Int64.toInt_sub, Int64.toInt_mul, Int64.toInt_div]
    have h1 : x.toInt.tmod y.toInt = x.toInt - y.toInt * x.toInt.tdiv y.toInt := Int.tmod_def _ _
    have h2 : (x.toInt.tmod y.toInt).natAbs < y.toInt.natAbs := by rw [Int.natAbs_tmod]; exact Nat.mod_lt _ (by omega)
    rw [← fb_bmodL (z := x.toInt.tmod y.toInt) (by omega) (by omega), h1]
    simp only [Int.sub_bmod_bmod, Int.bmod_mul_bmod, Int.mul_comm]
    rw [← Int.sub_bmod_bmod, Int.mul_bmod_bmod, Int.sub_bmod_bmod]
  rw [key, Int.natAbs_tmod]
  exact Nat.mod_lt _ (by omega)
theorem bz_fit {v : Int32} (h : v = 0 ∨ v = 1) : fits .boolean (.int v) = true := by rcases h with rfl | rfl <;> rfl
theorem upd_in {f : Nat → Int32} {n k : Nat} {x : Int32} {lo hi : Int} (h : ∀ j : Nat, j < n → lo ≤ (f j).toInt ∧ (f j).toInt ≤ hi) (hx : lo ≤ x.toInt ∧ x.toInt ≤ hi) : ∀ j : Nat, j < n → lo ≤ (upd f k x j).toInt ∧ (upd f k x j).toInt ≤ hi := by
  intro j hj
  by_cases hk : j = k
  · subst hk; rw [pk_us]; exact hx
  · rw [pk_un hk]; exact h j hj
section VI
variable {p : Program} {l : Launch} {e : Env} {R : Room} {s : State} {m : MethodId} {args : Array Value} {below : List Frame} {meth : Method} {c : Code} {H : Heap} {locs : List Loc} {cells slots : Nat} {Q : State → Prop}
variable {cc : ByteArray} {pc : Nat} {ls : Array Slot} {rest : List Value} {D : va_G} {cl : List vw_C} {A : Nat → Prop} {a : Nat} {tys : List (ClassId × FieldType)} {ws : va_W} {H0 : Heap}
theorem vi_iast {lo hi : Int} (hexec : p.tables.exec = Jvm.exec) (hb : c.code = cc) (hK : va_K D cl tys s) (hP : va_P D cl ws H) (hD : va_D A ws) (hS : va_S A H0 H locs) (q0 t0 : Nat) {cA : ClassId} {n : Nat} {f : Nat → Int32} (ha : ws[q0]? = some (a, .inl (cA, n, .inl f))) (ht : tys[t0]? = some (cA, .int)) {i : Int32} {x : Int32} (hin : vp_in i n) (hf : ∀ j : Nat, j < n → lo ≤ (f j).toInt ∧ (f j).toInt ≤ hi) (hxb : lo ≤ x.toInt ∧ x.toInt ≤ hi) (hdg : decode cc pc = .ok (.iastore, 1))
    (kk : ∀ (H1 : Heap) (locs1 : List Loc) (g : Nat → Int32), (∀ j : Nat, j < n → lo ≤ (g j).toInt ∧ (g j).toInt ≤ hi) → va_P D cl (ws.set q0 (a, .inl (cA, n, .inl g))) H1 → va_D A (ws.set q0 (a, .inl (cA, n, .inl g))) → va_S A H0 H1 locs1 → W p l e R s m args below meth c H1 locs1 cells slots Q (F0 m (pc + 1) ls rest)) : W p l e R s m args below meth c H locs cells slots Q (F0 m pc ls (.int x :: .int i :: .ref a :: rest)) :=
  va_iast hexec hb hK hP hD hS q0 t0 ha ht hin hdg (fun H1 locs1 h1 h2 h3 => kk H1 locs1 _ (upd_in hf hxb) h1 h2 h3)
end VI
