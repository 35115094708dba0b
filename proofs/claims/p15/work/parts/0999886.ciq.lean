/-! reading keeps what a court that was read keeps -/
section E2
theorem sw_Q {β : Type} {Q : β → Prop} {x : Int32} {lo : Int} {l : List β} {d : β} (hl : ∀ a, a ∈ l → Q a) (hd : Q d) : Q (sw_ x lo l d) := by
  unfold sw_
  refine ite_Q (fun _ => hd) (fun _ => ?_)
  cases h : l[(x.toInt - lo).toNat]? with
  | none => exact hd
  | some a => exact hl a (List.mem_of_getElem? h)
def Q3 (P : Prop) (c : Int32 × Int32 × Int32) : Prop := ¬ c.1 = 0 → P
theorem told_ok {fn fp kd fr key nodes a b c : Int32} {x : Int64} {names : Nat → Int64} (h : PX3_isToldName fn fp kd fr x key names nodes = (a, b, c)) (ha : ¬ a = 0) : (0 : Int32) ≤ PX3_toldNode x names nodes := by
  have q : Q3 ((0 : Int32) ≤ PX3_toldNode x names nodes) (PX3_isToldName fn fp kd fr x key names nodes) := by
    rw [PX3_isToldName_eq]
    refine ite_Q (fun _ => ?_) (fun _ => un3_Q (fun _ _ _ _ q => absurd rfl q))
    refine lt_Q (fun _ _ => ite_Q (fun _ => ?_) (fun _ => un3_Q (fun _ _ _ _ q => absurd rfl q)))
    refine lt_Q (fun v hv => ite_Q (fun h0 _ => ?_) (fun _ => un3_Q (fun _ _ _ _ q => absurd rfl q)))
    rw [hv]
    exact h0
  rw [h] at q
  exact q ha
theorem add_px {N m j : Nat} {parts : Nat → Int32} (hN : N < 18) (hm : m < 4) (hp : parts N = nI m) (hj : j < N) (pn wt ws steps below above : Nat → Int32) (w : Int32) : PX1_addPart (nI N) parts pn wt ws steps below above (nI j) w = (upd parts N (nI (m + 1)), upd pn (4 * N + m) (nI j), upd wt (4 * N + m) w, upd ws N (ws N + w), upd steps N (if steps N < steps j + 1 then steps j + 1 else steps N), upd below N (below N ||| below j), upd above j (above j ||| ((1 : Int32) <<< (nI N &&& 31)))) := by
  have cN : (nI N).toNatClampNeg = N := nI_clamp (by omega)
  have cj : (nI j).toNatClampNeg = j := nI_clamp (by omega)
  rw [PX1_addPart_eq, room_p hN (by omega) hp, if_pos hm, PX1_hasNode_eq, if_neg (nI_pos (by omega)), if_neg (show ¬ nI N ≤ nI j by rw [nI_leI (by omega) (by omega)]; omega)]
  dsimp only [lt_]
  rw [if_pos rfl, if_pos rfl, cN, hp, cl_add (mul4 (by omega)) (by omega), nI_1, cj]
theorem begin_x {N : Nat} (hN : N < 18) (kind parts ws tw steps below above : Nat → Int32) (p0 : Int32) : PX1_beginNode (nI N) kind parts ws tw steps below above p0 = (upd kind N p0, upd parts N 0, upd ws N 0, upd tw N 0, upd steps N 0, upd below N (if p0 = 0 then (1 : Int32) <<< (nI N &&& 31) else 0), upd above N 0) := by
  have k18 : (18 : Int32).toInt = 18 := by decide
  have cN : (nI N).toNatClampNeg = N := nI_clamp (by omega)
  rw [PX1_beginNode_eq, if_neg (show ¬ (18 : Int32) ≤ nI N by rw [fz_le, k18, nI_toInt (by omega)]; omega)]
  dsimp only [lt_]
  rw [cN]
  by_cases h : p0 = 0
  · rw [if_pos h, if_pos h]
  · rw [if_neg h, if_neg h]
theorem end_x {N : Nat} (hN : N < 18) (names : Nat → Int64) (words chances unit : Int32) (kind ws tw : Nat → Int32) (x : Int64) (p : Int32) : ∃ (nm2 : Nat → Int64) (w2 c2 : Int32) (t2 : Nat → Int32), PX3_endNode names (nI N) words chances unit kind ws tw x p = (nm2, nI (N + 1), w2, c2, if kind N = 3 then unit * ws N else unit, t2) := by
  have k18 : (18 : Int32).toInt = 18 := by decide
  have cN : (nI N).toNatClampNeg = N := nI_clamp (by omega)
  have c : ¬ (18 : Int32) ≤ nI N := by rw [fz_le, k18, nI_toInt (by omega)]; omega
  rw [PX3_endNode_eq, if_neg c, PX1_endNode_eq, if_neg c]
  dsimp only [lt_]
  rw [cN, nI_1]
  by_cases h0 : kind N = 0
  · have h3 : ¬ kind N = 3 := by rw [h0]; decide
    rw [if_pos h0, if_neg h3, if_neg h3]
    exact ⟨_, _, _, _, rfl⟩
  · rw [if_neg h0]
    by_cases h3 : kind N = 3
    · rw [if_pos h3, if_pos h3]; exact ⟨_, _, _, _, rfl⟩
    · rw [if_neg h3, if_neg h3]; exact ⟨_, _, _, _, rfl⟩
theorem room_n {N : Nat} {words chances p a : Int32} (hN : N ≤ 18) (h : PX1_hasRoomFor (nI N) words chances p = a) (ha : a = 1) : N < 18 := by
  have k18 : (18 : Int32).toInt = 18 := by decide
  rw [PX1_hasRoomFor_eq] at h
  by_cases c : nI N < (18 : Int32)
  · rw [fz_lt, k18, nI_toInt (by omega)] at c; omega
  · rw [if_neg c, ha] at h; exact absurd h (by decide)
def QP (N : Nat) (unit : Int32) (kind : Nat → Int32) (c : Int32 × Int32 × Int32 × Int32 × Int32 × Int32 × Int64 × Int32 × Int32 × (Nat → Int32) × (Nat → Int32) × (Nat → Int32) × (Nat → Int32) × (Nat → Int32) × (Nat → Int32) × (Nat → Int32)) : Prop := ¬ c.1 = 0 → ∃ m : Nat, CP N m unit kind c.2.2.2.2.2.2.2.2.2.1 c.2.2.2.2.2.2.2.2.2.2.1 c.2.2.2.2.2.2.2.2.2.2.2.1 c.2.2.2.2.2.2.2.2.2.2.2.2.1 c.2.2.2.2.2.2.2.2.2.2.2.2.2.1 c.2.2.2.2.2.2.2.2.2.2.2.2.2.2.1 c.2.2.2.2.2.2.2.2.2.2.2.2.2.2.2
def QR (c : Int32 × Int32 × Int32 × Int32 × Int32 × Int32 × Int64 × Int32 × Int32 × (Nat → Int64) × Int32 × Int32 × Int32 × Int32 × (Nat → Int32) × (Nat → Int32) × (Nat → Int32) × (Nat → Int32) × (Nat → Int32) × (Nat → Int32) × (Nat → Int32) × (Nat → Int32) × (Nat → Int32)) : Prop := ¬ c.1 = 0 → CIS c.2.2.2.2.2.2.2.2.2.2.1 c.2.2.2.2.2.2.2.2.2.2.2.2.2.1 c.2.2.2.2.2.2.2.2.2.2.2.2.2.2.1 c.2.2.2.2.2.2.2.2.2.2.2.2.2.2.2.1 c.2.2.2.2.2.2.2.2.2.2.2.2.2.2.2.2.1 c.2.2.2.2.2.2.2.2.2.2.2.2.2.2.2.2.2.1 c.2.2.2.2.2.2.2.2.2.2.2.2.2.2.2.2.2.2.1 c.2.2.2.2.2.2.2.2.2.2.2.2.2.2.2.2.2.2.2.2.1 c.2.2.2.2.2.2.2.2.2.2.2.2.2.2.2.2.2.2.2.2.2.1 c.2.2.2.2.2.2.2.2.2.2.2.2.2.2.2.2.2.2.2.2.2.2
def QW (pn wt : Nat → Int32) (c : Int32 × Int32 × Int32 × Int32 × Int32 × Int32 × Int64 × Int32 × Int32 × (Nat → Int64) × Int32 × Int32 × Int32 × Int32 × (Nat → Int32) × (Nat → Int32) × (Nat → Int32) × (Nat → Int32) × (Nat → Int32) × (Nat → Int32) × (Nat → Int32)) : Prop := ¬ c.1 = 0 → CIS c.2.2.2.2.2.2.2.2.2.2.1 c.2.2.2.2.2.2.2.2.2.2.2.2.2.1 c.2.2.2.2.2.2.2.2.2.2.2.2.2.2.1 c.2.2.2.2.2.2.2.2.2.2.2.2.2.2.2.1 pn wt c.2.2.2.2.2.2.2.2.2.2.2.2.2.2.2.2.1 c.2.2.2.2.2.2.2.2.2.2.2.2.2.2.2.2.2.2.1 c.2.2.2.2.2.2.2.2.2.2.2.2.2.2.2.2.2.2.2.1 c.2.2.2.2.2.2.2.2.2.2.2.2.2.2.2.2.2.2.2.2
def QL (c : Int32 × Int32 × Int32 × Int32 × Int32 × Int32 × Int64 × Int32 × Int32 × Int32 × (Nat → Int64) × Int32 × Int32 × Int32 × Int32 × Int32 × Int32 × Int32 × Int32 × (Nat → Int32) × (Nat → Int32) × (Nat → Int32) × (Nat → Int32) × (Nat → Int32) × (Nat → Int32) × (Nat → Int32) × (Nat → Int32) × (Nat → Int32) × (Nat → Int32) × (Nat → Int32)) : Prop := ¬ c.1 = 0 → CIS c.2.2.2.2.2.2.2.2.2.2.2.1 c.2.2.2.2.2.2.2.2.2.2.2.2.2.2.2.2.2.2.1 c.2.2.2.2.2.2.2.2.2.2.2.2.2.2.2.2.2.2.2.1 c.2.2.2.2.2.2.2.2.2.2.2.2.2.2.2.2.2.2.2.2.1 c.2.2.2.2.2.2.2.2.2.2.2.2.2.2.2.2.2.2.2.2.2.1 c.2.2.2.2.2.2.2.2.2.2.2.2.2.2.2.2.2.2.2.2.2.2.1 c.2.2.2.2.2.2.2.2.2.2.2.2.2.2.2.2.2.2.2.2.2.2.2.1 c.2.2.2.2.2.2.2.2.2.2.2.2.2.2.2.2.2.2.2.2.2.2.2.2.2.1 c.2.2.2.2.2.2.2.2.2.2.2.2.2.2.2.2.2.2.2.2.2.2.2.2.2.2.1 c.2.2.2.2.2.2.2.2.2.2.2.2.2.2.2.2.2.2.2.2.2.2.2.2.2.2.2.1
def QS (c : Int32 × Int32 × Int32 × Int32 × Int32 × Int32 × Int32 × Int32 × Int64 × Int32 × Int32 × Int32 × (Nat → Int64) × Int32 × Int32 × Int32 × Int32 × Int32 × Int32 × Int32 × Int32 × (Nat → Int32) × (Nat → Int32) × (Nat → Int32) × (Nat → Int32) × (Nat → Int32) × (Nat → Int32) × (Nat → Int32) × (Nat → Int32) × (Nat → Int32) × (Nat → Int32) × (Nat → Int32)) : Prop := ¬ c.1 = 0 → CIS c.2.2.2.2.2.2.2.2.2.2.2.2.2.1 c.2.2.2.2.2.2.2.2.2.2.2.2.2.2.2.2.2.2.2.2.1 c.2.2.2.2.2.2.2.2.2.2.2.2.2.2.2.2.2.2.2.2.2.1 c.2.2.2.2.2.2.2.2.2.2.2.2.2.2.2.2.2.2.2.2.2.2.1 c.2.2.2.2.2.2.2.2.2.2.2.2.2.2.2.2.2.2.2.2.2.2.2.1 c.2.2.2.2.2.2.2.2.2.2.2.2.2.2.2.2.2.2.2.2.2.2.2.2.1 c.2.2.2.2.2.2.2.2.2.2.2.2.2.2.2.2.2.2.2.2.2.2.2.2.2.1 c.2.2.2.2.2.2.2.2.2.2.2.2.2.2.2.2.2.2.2.2.2.2.2.2.2.2.2.1 c.2.2.2.2.2.2.2.2.2.2.2.2.2.2.2.2.2.2.2.2.2.2.2.2.2.2.2.2.1 c.2.2.2.2.2.2.2.2.2.2.2.2.2.2.2.2.2.2.2.2.2.2.2.2.2.2.2.2.2.1
theorem rp_Q {N m : Nat} {unit : Int32} {kind : Nat → Int32} {iR_faultNumber : Int32} {iR_faultPlace : Int32} {fR_tape : Nat → Int32} {iR_end : Int32} {iR_tokenKind : Int32} {iR_tokenFrom : Int32} {iR_tokenTo : Int32} {iR_tokenName : Int64} {iR_tokenKey : Int32} {iR_tokenWhole : Int32} {fR_names : Nat → Int64} {fR_keys : Nat → Int64} {fC_parts : Nat → Int32} {fC_partNodes : Nat → Int32} {fC_weights : Nat → Int32} {fC_weightSums : Nat → Int32} {fC_steps : Nat → Int32} {fC_below : Nat → Int32} {fC_above : Nat → Int32} {p0 : Int32} (h : CP N m unit kind fC_parts fC_partNodes fC_weights fC_weightSums fC_steps fC_below fC_above) : QP N unit kind (PX3_readPart iR_faultNumber iR_faultPlace fR_tape iR_end iR_tokenKind iR_tokenFrom iR_tokenTo iR_tokenName iR_tokenKey iR_tokenWhole fR_names fR_keys (nI N) fC_parts fC_partNodes fC_weights fC_weightSums fC_steps fC_below fC_above p0) := by
  have hN : N < 18 := h.1
  have hp := h.2.1
  have hm4 : m ≤ 4 := h.2.2.1.1
  rw [PX3_readPart_eq]
  refine un3_Q (fun a b c h1 => ite_Q (fun _ q => absurd rfl q) (fun ha => ?_))
  have h0 := told_ok h1 ha
  refine lt_Q (fun v hv => ?_)
  rw [hv] at h0
  refine lt_Q (fun w hw => ite_Q (fun h3 => ?_) (fun _ => un3_Q (fun _ _ _ _ q => absurd rfl q)))
  obtain ⟨j, hj, rfl⟩ : ∃ j : Nat, j < N ∧ v = nI j := by
    rcases told_num (x := iR_tokenName) (names := fR_names) (N := N) (by omega) with e | ⟨j, hj, e⟩
    · rw [hv] at e; rw [e] at h0; exact absurd h0 (by decide)
    · exact ⟨j, hj, hv.symm.trans e⟩
  have hn : ¬ ∃ i : Nat, i < m ∧ fC_partNodes (4 * N + i) = nI j := fun c => (place_eq hN hm4 hp).1 c (by rw [hw]; exact h3)
  refine lt_Q (fun y hy => ite_Q (fun h4 => ?_) (fun _ => un3_Q (fun _ _ _ _ q => absurd rfl q)))
  have hm : m < 4 := by
    rw [room_p hN hm4 hp] at hy
    by_cases g : m < 4
    · exact g
    · rw [if_neg g] at hy; rw [← hy] at h4; exact absurd h4 (by decide)
  refine un6_Q (fun _ _ _ _ _ _ _ => ite_Q (fun _ => ?_) (fun _ => ?_))
  · refine un3_Q (fun _ _ _ _ => ite_Q (fun _ q => absurd rfl q) (fun _ => un6_Q (fun _ _ _ _ _ _ _ => ?_)))
    rw [add_px hN hm hp hj, un7_eq rfl]
    exact fun _ => ⟨m + 1, h.add hm hj hn⟩
  · rw [add_px hN hm hp hj, un7_eq rfl]
    exact fun _ => ⟨m + 1, h.add hm hj hn⟩
theorem rp_Q' {N m : Nat} {unit : Int32} {kind : Nat → Int32} {iR_faultNumber : Int32} {iR_faultPlace : Int32} {fR_tape : Nat → Int32} {iR_end : Int32} {iR_tokenKind : Int32} {iR_tokenFrom : Int32} {iR_tokenTo : Int32} {iR_tokenName : Int64} {iR_tokenKey : Int32} {iR_tokenWhole : Int32} {fR_names : Nat → Int64} {fR_keys : Nat → Int64} {fC_parts : Nat → Int32} {fC_partNodes : Nat → Int32} {fC_weights : Nat → Int32} {fC_weightSums : Nat → Int32} {fC_steps : Nat → Int32} {fC_below : Nat → Int32} {fC_above : Nat → Int32} {p0 : Int32} {t : Int32 × Int32 × Int32 × Int32 × Int32 × Int32 × Int64 × Int32 × Int32 × (Nat → Int32) × (Nat → Int32) × (Nat → Int32) × (Nat → Int32) × (Nat → Int32) × (Nat → Int32) × (Nat → Int32)} (h : CP N m unit kind fC_parts fC_partNodes fC_weights fC_weightSums fC_steps fC_below fC_above) (e : PX3_readPart iR_faultNumber iR_faultPlace fR_tape iR_end iR_tokenKind iR_tokenFrom iR_tokenTo iR_tokenName iR_tokenKey iR_tokenWhole fR_names fR_keys (nI N) fC_parts fC_partNodes fC_weights fC_weightSums fC_steps fC_below fC_above p0 = t) : QP N unit kind t := by
  rw [← e]
  exact rp_Q h
theorem rl_Q {N : Nat} {fR_tape : Nat → Int32} {iR_end : Int32} {fR_names : Nat → Int64} {fR_keys : Nat → Int64} {iC_words : Int32} {iC_chances : Int32} {iC_unit : Int32} {p0 : Int32} {f_2871 : Nat → Int32} {f_2874 : Nat → Int32} {y_2881 : Int64} : ∀ (f : Nat) (z_2910 : Int32) (z_2911 : Int32) (z_2912 : Int32) (z_2913 : Int32) (z_2914 : Int32) (z_2915 : Int32) (z_2916 : Int32) (z_2917 : Int64) (z_2918 : Int32) (z_2919 : Int32) (f_2920 : Nat → Int32) (f_2921 : Nat → Int32) (f_2922 : Nat → Int32) (f_2923 : Nat → Int32) (f_2924 : Nat → Int32) (f_2925 : Nat → Int32) (f_2926 : Nat → Int32), (¬ z_2911 = 0 → ∃ m : Nat, CP N m iC_unit f_2871 f_2920 f_2921 f_2922 f_2923 f_2924 f_2925 f_2926) → QR (HX3_readRuler_0 fR_tape iR_end fR_names fR_keys (nI N) iC_words iC_chances iC_unit p0 f_2871 f_2874 y_2881 f z_2910 z_2911 z_2912 z_2913 z_2914 z_2915 z_2916 z_2917 z_2918 z_2919 f_2920 f_2921 f_2922 f_2923 f_2924 f_2925 f_2926)
  | 0, _, _, _, _, _, _, _, _, _, _, _, _, _, _, _, _, _, _ => fun q => absurd rfl q
  | f + 1, z_2910, z_2911, z_2912, z_2913, z_2914, z_2915, z_2916, z_2917, z_2918, z_2919, f_2920, f_2921, f_2922, f_2923, f_2924, f_2925, f_2926, h => by
    rw [HX3_readRuler_0_eq]
    refine ite_Q (fun _ => ite_Q (fun h0 q => absurd h0 q) (fun h1 => ?_)) (fun _ => ite_Q (fun h0 => ite_Q (fun _ q => absurd h0 q) (fun hx => absurd h0 hx)) (fun h1 => ite_Q (fun _ => ?_) (fun _ => ite_Q (fun hz => absurd hz h1) (fun _ => ?_))))
    · obtain ⟨m, hm⟩ := h h1
      obtain ⟨nm2, w2, c2, t2, e⟩ := end_x hm.1 fR_names iC_words iC_chances iC_unit f_2871 f_2923 f_2874 y_2881 0
      rw [e, un6_eq rfl]
      exact fun _ => ⟨N + 1, rfl, hm.fin⟩
    · obtain ⟨m, hm⟩ := h h1
      refine un6_Q (fun _ _ _ _ _ _ _ => un16_Q (fun a0 a1 a2 a3 a4 a5 a6 a7 a8 a9 a10 a11 a12 a13 a14 a15 h2 => lt_Q (fun _ _ => ?_)))
      exact rl_Q f _ a0 a1 a2 a3 a4 a5 a6 a7 a8 a9 a10 a11 a12 a13 a14 a15 (fun q => rp_Q' hm h2 q)
    · obtain ⟨m, hm⟩ := h h1
      obtain ⟨nm2, w2, c2, t2, e⟩ := end_x hm.1 fR_names iC_words iC_chances iC_unit f_2871 f_2923 f_2874 y_2881 0
      rw [e, un6_eq rfl]
      exact fun _ => ⟨N + 1, rfl, hm.fin⟩
theorem rr_Q {N : Nat} {iR_faultNumber : Int32} {iR_faultPlace : Int32} {fR_tape : Nat → Int32} {iR_end : Int32} {iR_tokenKind : Int32} {iR_tokenFrom : Int32} {iR_tokenTo : Int32} {iR_tokenName : Int64} {iR_tokenKey : Int32} {iR_tokenWhole : Int32} {fR_names : Nat → Int64} {fR_keys : Nat → Int64} {iC_words : Int32} {iC_chances : Int32} {iC_unit : Int32} {fC_kind : Nat → Int32} {fC_parts : Nat → Int32} {fC_partNodes : Nat → Int32} {fC_weights : Nat → Int32} {fC_weightSums : Nat → Int32} {fC_toldWorths : Nat → Int32} {fC_steps : Nat → Int32} {fC_below : Nat → Int32} {fC_above : Nat → Int32} {p0 : Int32} (h : CI N iC_unit fC_kind fC_parts fC_partNodes fC_weights fC_weightSums fC_steps fC_below fC_above) : QR (PX3_readRuler iR_faultNumber iR_faultPlace fR_tape iR_end iR_tokenKind iR_tokenFrom iR_tokenTo iR_tokenName iR_tokenKey iR_tokenWhole fR_names fR_keys (nI N) iC_words iC_chances iC_unit fC_kind fC_parts fC_partNodes fC_weights fC_weightSums fC_toldWorths fC_steps fC_below fC_above p0) := by
  rw [PX3_readRuler_eq]
  refine lt_Q (fun a ha => ite_Q (fun h1 => ?_) (fun _ => un3_Q (fun _ _ _ _ q => absurd rfl q)))
  have hN : N < 18 := room_n h.1 ha h1
  have hb := h.beg (p0 := p0) hN
  rw [begin_x hN, un7_eq rfl]
  refine un6_Q (fun _ _ _ _ _ _ _ => un3_Q (fun _ _ _ _ => ite_Q (fun _ q => absurd rfl q) (fun _ => un6_Q (fun _ _ _ _ _ _ _ => un16_Q (fun a0 a1 a2 a3 a4 a5 a6 a7 a8 a9 a10 a11 a12 a13 a14 a15 h2 => ?_)))))
  exact rl_Q _ _ a0 a1 a2 a3 a4 a5 a6 a7 a8 a9 a10 a11 a12 a13 a14 a15 (fun q => rp_Q' hb h2 q)
theorem rw_Q {N : Nat} {fC_partNodes fC_weights : Nat → Int32} {iR_faultNumber : Int32} {iR_faultPlace : Int32} {fR_tape : Nat → Int32} {iR_end : Int32} {iR_tokenKind : Int32} {iR_tokenFrom : Int32} {iR_tokenTo : Int32} {iR_tokenName : Int64} {iR_tokenKey : Int32} {iR_tokenWhole : Int32} {fR_names : Nat → Int64} {fR_keys : Nat → Int64} {iC_words : Int32} {iC_chances : Int32} {iC_unit : Int32} {fC_kind : Nat → Int32} {fC_parts : Nat → Int32} {fC_weightSums : Nat → Int32} {fC_toldWorths : Nat → Int32} {fC_steps : Nat → Int32} {fC_below : Nat → Int32} {fC_above : Nat → Int32} (h : CI N iC_unit fC_kind fC_parts fC_partNodes fC_weights fC_weightSums fC_steps fC_below fC_above) : QW fC_partNodes fC_weights (PX3_readWord iR_faultNumber iR_faultPlace fR_tape iR_end iR_tokenKind iR_tokenFrom iR_tokenTo iR_tokenName iR_tokenKey iR_tokenWhole fR_names fR_keys (nI N) iC_words iC_chances iC_unit fC_kind fC_parts fC_weightSums fC_toldWorths fC_steps fC_below fC_above) := by
  rw [PX3_readWord_eq]
  refine lt_Q (fun a ha => ite_Q (fun h1 => ?_) (fun _ => un3_Q (fun _ _ _ _ q => absurd rfl q)))
  have hN : N < 18 := room_n h.1 ha h1
  have hb := h.beg (p0 := 0) hN
  rw [begin_x hN, un7_eq rfl]
  refine un6_Q (fun _ _ _ y _ _ _ => un3_Q (fun _ _ _ _ => ite_Q (fun _ q => absurd rfl q) (fun _ => un6_Q (fun _ _ _ _ _ _ _ => ite_Q (fun _ => un6_Q (fun _ _ _ _ _ w _ => un3_Q (fun _ _ _ _ => ite_Q (fun _ q => absurd rfl q) (fun _ => ?_)))) (fun _ => un3_Q (fun _ _ _ _ q => absurd rfl q))))))
  obtain ⟨nm2, w2, c2, t2, e⟩ := end_x hN fR_names iC_words iC_chances iC_unit (upd fC_kind N 0) (upd fC_weightSums N 0) (upd fC_toldWorths N 0) y w
  rw [e, un6_eq rfl]
  refine un6_Q (fun _ _ _ _ _ _ _ => ?_)
  exact fun _ => ⟨N + 1, rfl, hb.fin⟩
theorem rr_Q' {N : Nat} {iR_faultNumber : Int32} {iR_faultPlace : Int32} {fR_tape : Nat → Int32} {iR_end : Int32} {iR_tokenKind : Int32} {iR_tokenFrom : Int32} {iR_tokenTo : Int32} {iR_tokenName : Int64} {iR_tokenKey : Int32} {iR_tokenWhole : Int32} {fR_names : Nat → Int64} {fR_keys : Nat → Int64} {iC_words : Int32} {iC_chances : Int32} {iC_unit : Int32} {fC_kind : Nat → Int32} {fC_parts : Nat → Int32} {fC_partNodes : Nat → Int32} {fC_weights : Nat → Int32} {fC_weightSums : Nat → Int32} {fC_toldWorths : Nat → Int32} {fC_steps : Nat → Int32} {fC_below : Nat → Int32} {fC_above : Nat → Int32} {p0 : Int32} {t : Int32 × Int32 × Int32 × Int32 × Int32 × Int32 × Int64 × Int32 × Int32 × (Nat → Int64) × Int32 × Int32 × Int32 × Int32 × (Nat → Int32) × (Nat → Int32) × (Nat → Int32) × (Nat → Int32) × (Nat → Int32) × (Nat → Int32) × (Nat → Int32) × (Nat → Int32) × (Nat → Int32)} (h : CI N iC_unit fC_kind fC_parts fC_partNodes fC_weights fC_weightSums fC_steps fC_below fC_above) (e : PX3_readRuler iR_faultNumber iR_faultPlace fR_tape iR_end iR_tokenKind iR_tokenFrom iR_tokenTo iR_tokenName iR_tokenKey iR_tokenWhole fR_names fR_keys (nI N) iC_words iC_chances iC_unit fC_kind fC_parts fC_partNodes fC_weights fC_weightSums fC_toldWorths fC_steps fC_below fC_above p0 = t) : QR t := by
  rw [← e]
  exact rr_Q h
theorem rw_Q' {N : Nat} {fC_partNodes fC_weights : Nat → Int32} {iR_faultNumber : Int32} {iR_faultPlace : Int32} {fR_tape : Nat → Int32} {iR_end : Int32} {iR_tokenKind : Int32} {iR_tokenFrom : Int32} {iR_tokenTo : Int32} {iR_tokenName : Int64} {iR_tokenKey : Int32} {iR_tokenWhole : Int32} {fR_names : Nat → Int64} {fR_keys : Nat → Int64} {iC_words : Int32} {iC_chances : Int32} {iC_unit : Int32} {fC_kind : Nat → Int32} {fC_parts : Nat → Int32} {fC_weightSums : Nat → Int32} {fC_toldWorths : Nat → Int32} {fC_steps : Nat → Int32} {fC_below : Nat → Int32} {fC_above : Nat → Int32} {t : Int32 × Int32 × Int32 × Int32 × Int32 × Int32 × Int64 × Int32 × Int32 × (Nat → Int64) × Int32 × Int32 × Int32 × Int32 × (Nat → Int32) × (Nat → Int32) × (Nat → Int32) × (Nat → Int32) × (Nat → Int32) × (Nat → Int32) × (Nat → Int32)} (h : CI N iC_unit fC_kind fC_parts fC_partNodes fC_weights fC_weightSums fC_steps fC_below fC_above) (e : PX3_readWord iR_faultNumber iR_faultPlace fR_tape iR_end iR_tokenKind iR_tokenFrom iR_tokenTo iR_tokenName iR_tokenKey iR_tokenWhole fR_names fR_keys (nI N) iC_words iC_chances iC_unit fC_kind fC_parts fC_weightSums fC_toldWorths fC_steps fC_below fC_above = t) : QW fC_partNodes fC_weights t := by
  rw [← e]
  exact rw_Q h
theorem rL_Q {N : Nat} {iR_faultNumber : Int32} {iR_faultPlace : Int32} {fR_tape : Nat → Int32} {iR_end : Int32} {iR_tokenKind : Int32} {iR_tokenFrom : Int32} {iR_tokenTo : Int32} {iR_tokenName : Int64} {iR_tokenKey : Int32} {iR_tokenWhole : Int32} {iR_courtTold : Int32} {fR_names : Nat → Int64} {fR_keys : Nat → Int64} {iC_words : Int32} {iC_chances : Int32} {iC_unsures : Int32} {iC_slips : Int32} {iC_throneNode : Int32} {iC_saidWorth : Int32} {iC_unit : Int32} {fC_kind : Nat → Int32} {fC_parts : Nat → Int32} {fC_partNodes : Nat → Int32} {fC_weights : Nat → Int32} {fC_weightSums : Nat → Int32} {fC_toldWorths : Nat → Int32} {fC_steps : Nat → Int32} {fC_below : Nat → Int32} {fC_above : Nat → Int32} {fC_unsureWords : Nat → Int32} {fC_unsureWorths : Nat → Int32} (h : CI N iC_unit fC_kind fC_parts fC_partNodes fC_weights fC_weightSums fC_steps fC_below fC_above) : QL (PX3_readLine iR_faultNumber iR_faultPlace fR_tape iR_end iR_tokenKind iR_tokenFrom iR_tokenTo iR_tokenName iR_tokenKey iR_tokenWhole iR_courtTold fR_names fR_keys (nI N) iC_words iC_chances iC_unsures iC_slips iC_throneNode iC_saidWorth iC_unit fC_kind fC_parts fC_partNodes fC_weights fC_weightSums fC_toldWorths fC_steps fC_below fC_above fC_unsureWords fC_unsureWorths) := by
  rw [PX3_readLine_eq]
  refine lt_Q (fun x_3445 _ => ?_)
  refine ite_Q (fun hc => ?_) (fun hc => ?_)
  · skip
    refine un3_Q (fun x_3742 x_3739 x_3740 ex_3742 => ?_)
    exact fun q => absurd rfl q
  · skip
    refine ite_Q (fun hc => ?_) (fun hc => ?_)
    · skip
      refine ite_Q (fun hc => ?_) (fun hc => ?_)
      · skip
        refine sw_Q (fun a ha => ?_) ?_
        · simp only [List.mem_cons, List.not_mem_nil, or_false] at ha
          rcases ha with rfl | rfl | rfl | rfl | rfl | rfl | rfl
          · skip
            refine un21_Q (fun x_3632 x_3612 x_3613 x_3614 x_3615 x_3616 y_3617 x_3618 x_3619 f_3620 x_3621 x_3622 x_3623 x_3624 f_3625 f_3626 f_3627 f_3628 f_3629 f_3630 f_3631 ex_3632 => ?_)
            exact fun q => rw_Q' h ex_3632 q
          · skip
            refine un23_Q (fun x_3655 x_3633 x_3634 x_3635 x_3636 x_3637 y_3638 x_3639 x_3640 f_3641 x_3642 x_3643 x_3644 x_3645 f_3646 f_3647 f_3648 f_3649 f_3650 f_3651 f_3652 f_3653 f_3654 ex_3655 => ?_)
            exact fun q => rr_Q' h ex_3655 q
          · skip
            refine un23_Q (fun x_3678 x_3656 x_3657 x_3658 x_3659 x_3660 y_3661 x_3662 x_3663 f_3664 x_3665 x_3666 x_3667 x_3668 f_3669 f_3670 f_3671 f_3672 f_3673 f_3674 f_3675 f_3676 f_3677 ex_3678 => ?_)
            exact fun q => rr_Q' h ex_3678 q
          · skip
            refine un23_Q (fun x_3701 x_3679 x_3680 x_3681 x_3682 x_3683 y_3684 x_3685 x_3686 f_3687 x_3688 x_3689 x_3690 x_3691 f_3692 f_3693 f_3694 f_3695 f_3696 f_3697 f_3698 f_3699 f_3700 ex_3701 => ?_)
            exact fun q => rr_Q' h ex_3701 q
          · skip
            refine un11_Q (fun x_3712 x_3702 x_3703 x_3704 x_3705 x_3706 y_3707 x_3708 x_3709 x_3710 x_3711 ex_3712 => ?_)
            exact fun _ => ⟨N, rfl, h⟩
          · skip
            refine un10_Q (fun x_3722 x_3713 x_3714 x_3715 x_3716 x_3717 y_3718 x_3719 x_3720 x_3721 ex_3722 => ?_)
            exact fun _ => ⟨N, rfl, h⟩
          · skip
            refine un12_Q (fun x_3734 x_3723 x_3724 x_3725 x_3726 x_3727 y_3728 x_3729 x_3730 x_3731 f_3732 f_3733 ex_3734 => ?_)
            exact fun _ => ⟨N, rfl, h⟩
        · skip
          refine un10_Q (fun x_3601 x_3592 x_3593 x_3594 x_3595 x_3596 y_3597 x_3598 x_3599 x_3600 ex_3601 => ?_)
          exact fun _ => ⟨N, rfl, h⟩
      · skip
        refine un3_Q (fun x_3738 x_3735 x_3736 ex_3738 => ?_)
        exact fun q => absurd rfl q
    · skip
      refine sw_Q (fun a ha => ?_) ?_
      · simp only [List.mem_cons, List.not_mem_nil, or_false] at ha
        rcases ha with rfl | rfl | rfl | rfl | rfl | rfl | rfl
        · skip
          refine un21_Q (fun x_3488 x_3468 x_3469 x_3470 x_3471 x_3472 y_3473 x_3474 x_3475 f_3476 x_3477 x_3478 x_3479 x_3480 f_3481 f_3482 f_3483 f_3484 f_3485 f_3486 f_3487 ex_3488 => ?_)
          exact fun q => rw_Q' h ex_3488 q
        · skip
          refine un23_Q (fun x_3511 x_3489 x_3490 x_3491 x_3492 x_3493 y_3494 x_3495 x_3496 f_3497 x_3498 x_3499 x_3500 x_3501 f_3502 f_3503 f_3504 f_3505 f_3506 f_3507 f_3508 f_3509 f_3510 ex_3511 => ?_)
          exact fun q => rr_Q' h ex_3511 q
        · skip
          refine un23_Q (fun x_3534 x_3512 x_3513 x_3514 x_3515 x_3516 y_3517 x_3518 x_3519 f_3520 x_3521 x_3522 x_3523 x_3524 f_3525 f_3526 f_3527 f_3528 f_3529 f_3530 f_3531 f_3532 f_3533 ex_3534 => ?_)
          exact fun q => rr_Q' h ex_3534 q
        · skip
          refine un23_Q (fun x_3557 x_3535 x_3536 x_3537 x_3538 x_3539 y_3540 x_3541 x_3542 f_3543 x_3544 x_3545 x_3546 x_3547 f_3548 f_3549 f_3550 f_3551 f_3552 f_3553 f_3554 f_3555 f_3556 ex_3557 => ?_)
          exact fun q => rr_Q' h ex_3557 q
        · skip
          refine un11_Q (fun x_3568 x_3558 x_3559 x_3560 x_3561 x_3562 y_3563 x_3564 x_3565 x_3566 x_3567 ex_3568 => ?_)
          exact fun _ => ⟨N, rfl, h⟩
        · skip
          refine un10_Q (fun x_3578 x_3569 x_3570 x_3571 x_3572 x_3573 y_3574 x_3575 x_3576 x_3577 ex_3578 => ?_)
          exact fun _ => ⟨N, rfl, h⟩
        · skip
          refine un12_Q (fun x_3590 x_3579 x_3580 x_3581 x_3582 x_3583 y_3584 x_3585 x_3586 x_3587 f_3588 f_3589 ex_3590 => ?_)
          exact fun _ => ⟨N, rfl, h⟩
      · skip
        refine un10_Q (fun x_3457 x_3448 x_3449 x_3450 x_3451 x_3452 y_3453 x_3454 x_3455 x_3456 ex_3457 => ?_)
        exact fun _ => ⟨N, rfl, h⟩
theorem rL_Q' {N : Nat} {iR_faultNumber : Int32} {iR_faultPlace : Int32} {fR_tape : Nat → Int32} {iR_end : Int32} {iR_tokenKind : Int32} {iR_tokenFrom : Int32} {iR_tokenTo : Int32} {iR_tokenName : Int64} {iR_tokenKey : Int32} {iR_tokenWhole : Int32} {iR_courtTold : Int32} {fR_names : Nat → Int64} {fR_keys : Nat → Int64} {iC_words : Int32} {iC_chances : Int32} {iC_unsures : Int32} {iC_slips : Int32} {iC_throneNode : Int32} {iC_saidWorth : Int32} {iC_unit : Int32} {fC_kind : Nat → Int32} {fC_parts : Nat → Int32} {fC_partNodes : Nat → Int32} {fC_weights : Nat → Int32} {fC_weightSums : Nat → Int32} {fC_toldWorths : Nat → Int32} {fC_steps : Nat → Int32} {fC_below : Nat → Int32} {fC_above : Nat → Int32} {fC_unsureWords : Nat → Int32} {fC_unsureWorths : Nat → Int32} {t : Int32 × Int32 × Int32 × Int32 × Int32 × Int32 × Int64 × Int32 × Int32 × Int32 × (Nat → Int64) × Int32 × Int32 × Int32 × Int32 × Int32 × Int32 × Int32 × Int32 × (Nat → Int32) × (Nat → Int32) × (Nat → Int32) × (Nat → Int32) × (Nat → Int32) × (Nat → Int32) × (Nat → Int32) × (Nat → Int32) × (Nat → Int32) × (Nat → Int32) × (Nat → Int32)} (h : CI N iC_unit fC_kind fC_parts fC_partNodes fC_weights fC_weightSums fC_steps fC_below fC_above) (e : PX3_readLine iR_faultNumber iR_faultPlace fR_tape iR_end iR_tokenKind iR_tokenFrom iR_tokenTo iR_tokenName iR_tokenKey iR_tokenWhole iR_courtTold fR_names fR_keys (nI N) iC_words iC_chances iC_unsures iC_slips iC_throneNode iC_saidWorth iC_unit fC_kind fC_parts fC_partNodes fC_weights fC_weightSums fC_toldWorths fC_steps fC_below fC_above fC_unsureWords fC_unsureWorths = t) : QL t := by
  rw [← e]
  exact rL_Q h
theorem rs_Q {fR_tape : Nat → Int32} {fR_keys : Nat → Int64} {p0 : Int32} : ∀ (f : Nat) (z_4037 : Int32) (z_4038 : Int32) (z_4039 : Int32) (z_4040 : Int32) (z_4041 : Int32) (z_4042 : Int32) (z_4043 : Int32) (z_4044 : Int64) (z_4045 : Int32) (z_4046 : Int32) (z_4047 : Int32) (z_4048 : Int32) (z_4049 : Int32) (z_4050 : Int32) (z_4051 : Int32) (z_4052 : Int32) (z_4053 : Int32) (z_4054 : Int32) (z_4055 : Int32) (f_4056 : Nat → Int64) (f_4057 : Nat → Int32) (f_4058 : Nat → Int32) (f_4059 : Nat → Int32) (f_4060 : Nat → Int32) (f_4061 : Nat → Int32) (f_4062 : Nat → Int32) (f_4063 : Nat → Int32) (f_4064 : Nat → Int32) (f_4065 : Nat → Int32) (f_4066 : Nat → Int32) (f_4067 : Nat → Int32), (¬ z_4038 = 0 → CIS z_4048 z_4055 f_4057 f_4058 f_4059 f_4060 f_4061 f_4063 f_4064 f_4065) → QS (HX3_reads_0 fR_tape fR_keys p0 f z_4037 z_4038 z_4039 z_4040 z_4041 z_4042 z_4043 z_4044 z_4045 z_4046 z_4047 z_4048 z_4049 z_4050 z_4051 z_4052 z_4053 z_4054 z_4055 f_4056 f_4057 f_4058 f_4059 f_4060 f_4061 f_4062 f_4063 f_4064 f_4065 f_4066 f_4067)
  | 0, _, _, _, _, _, _, _, _, _, _, _, _, _, _, _, _, _, _, _, _, _, _, _, _, _, _, _, _, _, _, _, _ => fun q => absurd rfl q
  | f + 1, z_4037, z_4038, z_4039, z_4040, z_4041, z_4042, z_4043, z_4044, z_4045, z_4046, z_4047, z_4048, z_4049, z_4050, z_4051, z_4052, z_4053, z_4054, z_4055, f_4056, f_4057, f_4058, f_4059, f_4060, f_4061, f_4062, f_4063, f_4064, f_4065, f_4066, f_4067, h => by
    rw [HX3_reads_0_eq]
    refine ite_Q (fun hc => ?_) (fun hc => ?_)
    · skip
      refine ite_Q (fun h0 => ?_) (fun hfine => ?_)
      · skip
        exact fun q => absurd rfl q
      · skip
        refine un4_Q (fun x_4074 x_4071 x_4072 x_4073 ex_4074 => ?_)
        refine ite_Q (fun hc => ?_) (fun hc => ?_)
        · skip
          exact fun q => absurd rfl q
        · skip
          exact fun _ => h hfine
    · skip
      refine ite_Q (fun h0 => ?_) (fun hfine => ?_)
      · skip
        refine ite_Q (fun _ => ?_) (fun _ => ?_)
        · skip
          exact fun q => absurd rfl q
        · skip
          exact fun q => absurd rfl q
      · skip
        refine ite_Q (fun hc => ?_) (fun hc => ?_)
        · skip
          refine un6_Q (fun x_4085 x_4086 x_4087 y_4088 x_4089 x_4090 ex_4085 => ?_)
          refine un30_Q (fun x_4120 x_4091 x_4092 x_4093 x_4094 x_4095 y_4096 x_4097 x_4098 x_4099 f_4100 x_4101 x_4102 x_4103 x_4104 x_4105 x_4106 x_4107 x_4108 f_4109 f_4110 f_4111 f_4112 f_4113 f_4114 f_4115 f_4116 f_4117 f_4118 f_4119 ex_4120 => ?_)
          obtain ⟨N, hN9, hI9⟩ := h hfine
          rw [hN9] at ex_4120
          have g9 := rL_Q' hI9 ex_4120
          refine lt_Q (fun x_4121 _ => ?_)
          exact rs_Q f _ x_4120 x_4091 x_4092 x_4093 x_4094 x_4095 y_4096 x_4097 x_4098 x_4099 x_4101 x_4102 x_4103 x_4104 x_4105 x_4106 x_4107 x_4108 f_4100 f_4109 f_4110 f_4111 f_4112 f_4113 f_4114 f_4115 f_4116 f_4117 f_4118 f_4119 (fun q => g9 q)
        · skip
          refine ite_Q (fun h0 => ?_) (fun hfine => ?_)
          · skip
            exact fun q => absurd rfl q
          · skip
            refine un4_Q (fun x_4083 x_4080 x_4081 x_4082 ex_4083 => ?_)
            refine ite_Q (fun hc => ?_) (fun hc => ?_)
            · skip
              exact fun q => absurd rfl q
            · skip
              exact fun _ => h hfine
/-- a court that was read -/
theorem reads_Q {fR_tape : Nat → Int32} {iR_tokenName : Int64} {iR_tokenWhole : Int32} {fR_names : Nat → Int64} {fR_keys : Nat → Int64} {fC_kind : Nat → Int32} {fC_parts : Nat → Int32} {fC_partNodes : Nat → Int32} {fC_weights : Nat → Int32} {fC_weightSums : Nat → Int32} {fC_toldWorths : Nat → Int32} {fC_steps : Nat → Int32} {fC_below : Nat → Int32} {fC_above : Nat → Int32} {fC_unsureWords : Nat → Int32} {fC_unsureWorths : Nat → Int32} {p0 : Int32} : QS (PX3_reads fR_tape iR_tokenName iR_tokenWhole fR_names fR_keys fC_kind fC_parts fC_partNodes fC_weights fC_weightSums fC_toldWorths fC_steps fC_below fC_above fC_unsureWords fC_unsureWorths p0) := by
  rw [PX3_reads_eq, PX1_clear_eq, un8_eq rfl]
  refine un6_Q (fun _ _ _ _ _ _ _ => un30_Q (fun a0 a1 a2 a3 a4 a5 a6 a7 a8 a9 a10 a11 a12 a13 a14 a15 a16 a17 a18 a19 a20 a21 a22 a23 a24 a25 a26 a27 a28 a29 e => ?_))
  have h0 : CI 0 1 fC_kind fC_parts fC_partNodes fC_weights fC_weightSums fC_steps fC_below fC_above := ⟨Nat.zero_le _, fun k hk => absurd hk (by omega), rfl, fun k hk => absurd hk (by omega)⟩
  exact rs_Q _ _ a0 a1 a2 a3 a4 a5 a6 a7 a8 a9 a11 a12 a13 a14 a15 a16 a17 a18 a10 a19 a20 a21 a22 a23 a24 a25 a26 a27 a28 a29 (fun q => rL_Q' (N := 0) h0 e q)
theorem reads_Q' {fR_tape : Nat → Int32} {iR_tokenName : Int64} {iR_tokenWhole : Int32} {fR_names : Nat → Int64} {fR_keys : Nat → Int64} {fC_kind : Nat → Int32} {fC_parts : Nat → Int32} {fC_partNodes : Nat → Int32} {fC_weights : Nat → Int32} {fC_weightSums : Nat → Int32} {fC_toldWorths : Nat → Int32} {fC_steps : Nat → Int32} {fC_below : Nat → Int32} {fC_above : Nat → Int32} {fC_unsureWords : Nat → Int32} {fC_unsureWorths : Nat → Int32} {p0 : Int32} {t : Int32 × Int32 × Int32 × Int32 × Int32 × Int32 × Int32 × Int32 × Int64 × Int32 × Int32 × Int32 × (Nat → Int64) × Int32 × Int32 × Int32 × Int32 × Int32 × Int32 × Int32 × Int32 × (Nat → Int32) × (Nat → Int32) × (Nat → Int32) × (Nat → Int32) × (Nat → Int32) × (Nat → Int32) × (Nat → Int32) × (Nat → Int32) × (Nat → Int32) × (Nat → Int32) × (Nat → Int32)} (e : PX3_reads fR_tape iR_tokenName iR_tokenWhole fR_names fR_keys fC_kind fC_parts fC_partNodes fC_weights fC_weightSums fC_toldWorths fC_steps fC_below fC_above fC_unsureWords fC_unsureWorths p0 = t) : QS t := by
  rw [← e]
  exact reads_Q
end E2
