def R_law : String := "KingHearsLaw"
def lw_P (b : Addr) (xs : List Int32) (args : Array Value) (s : State) : Prop := args = #[.ref b] ∧ s.IntsAt b xs ∧ xs.length ≤ 384 ∧ (Jvm.Cond.and given_1 narrow_1).before args s = true
def lw_Q (_ : Array Value) (s : State) (o : Outcome) (t : State) : Prop := o = .returned (some (.int 1)) ∧ Framed s o t [] 600128 7301097
def lw_Z (below : List Frame) (a : Array Value) (s : State) : State → Prop := fun t => ∃ o, t.status = .running ∧ Ended t below o ∧ lw_Q a s o t
/-- the law's own end, with 1 on the stack, nothing written that was there before, its room as the claim has it -/
theorem lw_ret {p : Program} {l : Launch} {e : Env} {s : State} {m : MethodId} {below : List Frame} {meth : Method} {c : Code} {b : Nat} (hx : p.tables.exec = Jvm.exec) (hb : c.code = code) (hr : meth.sig.returnType = ret) (hlocks : meth.locks = false) {pc : Nat} {H : Heap} {ls : Array Slot} (hdg : decode code pc = .ok (.ireturn, 1)) : W p l e room_1 s m #[Value.ref b] below meth c H [] 600128 7301097 (lw_Z below #[Value.ref b] s) (F0 m pc ls [.int 1]) := by
  intro T hT X
  obtain ⟨fs, hret, hrun, hended, hW, hframe⟩ := X.leave (v := some (.int 1)) (hlocks := hlocks) (fun h => by rw [hr] at h; cases h)
  have hmeth' : T.vm.method? m = some meth := X.method'
  refine ⟨T.setFrames fs, ?_, .returned (some (.int 1)), hrun, hended, rfl, ⟨_, rfl⟩, hW, hframe⟩
  jvm_step X.here [X.here.top, hx, hb, hdg, hmeth', hr, ret, narrow_b1]
  (try refine ⟨rfl, ?_⟩); (try refine ⟨rfl, ?_⟩)
  first | (intro acts; rw [hret _ acts rfl rfl rfl]) | rw [hret _ _ rfl rfl rfl]
  exact Steps.refl _
/-- what holds at the law's entry: the machine, the code, the tables' words (any of lw_tbl by 'hts w (by decide +kernel)'), the script of L ints xs at the cell b, what the Statement gives of the start (any of its parts by flat_of_before) -/
def lw_At (p : Program) (s : State) (m : MethodId) (meth : Method) (c : Code) (b L : Nat) (xs : Nat → Int32) : Prop :=
  p.tables.exec = Jvm.exec ∧ c.code = code ∧ meth.sig.returnType = ret ∧ c.maxLocals = 7 ∧ s.vm.findClass R_law = some m.cls ∧ (∀ w ∈ lw_tbl, w.before #[Value.ref b] s = true) ∧ va_X b L xs s s.heap ∧ b < s.heap.size ∧ meth.locks = false ∧ (Jvm.Cond.and given_1 narrow_1).before #[Value.ref b] s = true
section ROT
variable {D : va_G} {cl : List vw_C} {A : Nat → Prop} {H : Heap} {a b x : va_W} {s : State} {t0 t1 t2 : List (ClassId × FieldType)}
theorem pA_rot2 (h : va_P D cl ((x ++ b) ++ a) H) : va_P D cl (b ++ (x ++ a)) H := va_P.app (pA_r (pA_l h)) (va_P.app (pA_l (pA_l h)) (pA_r h))
theorem pA_rot3 (h : va_P D cl (b ++ (x ++ a)) H) : va_P D cl ((x ++ b) ++ a) H := va_P.app (va_P.app (pA_l (pA_r h)) (pA_l h)) (pA_r (pA_r h))
theorem dA_rot2 (h : va_D A ((x ++ b) ++ a)) : va_D A (b ++ (x ++ a)) := by
  have h1 := dA_rot h
  refine va_D.app (dA_r (dA_l h)) (dA_l h1) (fun i j p q hi hj e => ?_)
  exact dA_x h1 j i q p hj hi e.symm
theorem dA_rot3 (h : va_D A (b ++ (x ++ a))) : va_D A ((x ++ b) ++ a) := by
  refine dA_rot (x := x) (b := a) (a := b) (va_D.app (dA_r h) (dA_l h) (fun i j p q hi hj e => ?_))
  exact dA_x h j i q p hj hi e.symm
theorem kA_rot2 (h : va_K D cl ((t0 ++ t2) ++ t1) s) : va_K D cl (t2 ++ (t0 ++ t1)) s := va_K.app (kA_r (kA_l h)) (va_K.app (kA_l (kA_l h)) (kA_r h))
theorem kA_rot3 (h : va_K D cl (t2 ++ (t0 ++ t1)) s) : va_K D cl ((t0 ++ t2) ++ t1) s := va_K.app (va_K.app (kA_l (kA_r h)) (kA_l h)) (kA_r (kA_r h))
end ROT
set_option maxHeartbeats 4000000 in
set_option maxRecDepth 100000 in
theorem law_exit {p : Program} {l : Launch} {e : Env} {s : State} {m : MethodId} {below : List Frame} {meth : Method} {c : Code} {b L : Nat} {xs : Nat → Int32} (C0 : lw_At p s m meth c b L xs) (hL : L ≤ 384) {A : Nat → Prop} (hA : ∀ q, s.heap.size ≤ q → A q) (hAs : ∀ q, A q → s.heap.size ≤ q) (hE : Ev A s s.heap) (hX9 : Ex A s s.heap) (hl8 : l.stackTraces = false) {dC : Nat → ClassId} {dI : Nat → Nat → Nat} {oK oM oO : Nat} {i cells slots : Nat} (h9 : L < i + 6) (hi9 : i ≤ L + 6) (hc : cells ≤ 600128) (hs : slots ≤ 7301097) {H : Heap} {locs : List Loc} {ls : Array Slot} (hS : va_S A s.heap H locs) (hl : lv_has ls 7 [(4, .int (nI i)), (3, .ref oO), (2, .ref oM), (1, .ref oK), (0, .ref b)]) : W p l e room_1 s m #[Value.ref b] below meth c H locs (cells) (slots) (lw_Z below #[Value.ref b] s) (F0 m 23 ls []) := by
  obtain ⟨hx, hb, hr, hml, hown, hts0, hX, hbl, hlocks, hgv⟩ := id C0
  have hbA : ¬ A b := fun h => Nat.lt_irrefl _ (Nat.lt_of_lt_of_le hbl (hAs b h))
  refine lv_iload hx hb dL_law_23 (lv_at hl 0 rfl) ?_
  refine lv_aload_n hx hb dL_law_25 rfl (lv_at hl 4 rfl) ?_
  refine va_slen hx hb hX hbl hbA hS dL_law_26 ?_
  refine lv_bipush (v := 6) hx hb dL_law_27 (by decide) ?_
  refine lv_isub hx hb dL_law_29 ?_
  refine lv_topi (fun y ey => ?_)
  have hy : y.toInt = (L : Int) - 6 := ti_sub ey (nI_toInt (n := L) (by omega)) kc_6 (by omega) (by omega)
  refine lv_icmp_gt (tgt := 1833) hx hb dL_law_30 (by decide) (fun _ => ?_) (fun c => absurd ((fz_lt y (nI i)).mpr (by rw [hy, nI_toInt (by omega)]; omega)) c)
  refine lv_iconst (v := 1) hx hb dL_law_1833 (by decide) ?_
  refine va_forget (fun q hq => hAs _ (hS.2.2 q hq)) ?_
  refine W.widen (k := 600128) (n := 7301097) hc hs ?_
  exact lw_ret hx hb hr hlocks dL_law_1834
