/-! reading keeps what a court that was read keeps -/
section E2
theorem sw_Q {β : Type} {Q : β → Prop} {x : Int32} {lo : Int} {l : List β} {d : β} (hl : ∀ a, a ∈ l → Q a) (hd : Q d) : Q (sw_ x lo l d) := by
  unfold sw_
  refine ite_Q (fun _ => hd) (fun _ => ?_)
  cases h : l[(x.toInt - lo).toNat]? with
  | none => exact hd
  | some a => exact hl a (List.mem_of_getElem? h)
def Q3 (P : Prop) (c : Int32 × Int32 × Int32) : Prop := ¬ c.1 = 0 → P
theorem told_ok {fn fp kd fr key nodes a b c : Int32} {x : Int64} {names : Nat → Int64} (h : PX3_isToldName fn fp kd fr x key names nodes = (a, b, c)) (ha : ¬ a = 0) : (0 : Int32) ≤ PX3_toldNode x names nodes := by
  have q : Q3 ((0 : Int32) ≤ PX3_toldNode x names nodes) (PX3_isToldName fn fp kd fr x key names nodes) := by
    rw [PX3_isToldName_eq]
    refine ite_Q (fun _ => ?_) (fun _ => un3_Q (fun _ _ _ _ q => absurd rfl q))
    refine lt_Q (fun _ _ => ite_Q (fun _ => ?_) (fun _ => un3_Q (fun _ _ _ _ q => absurd rfl q)))
    refine lt_Q (fun v hv => ite_Q (fun h0 _ => ?_) (fun _ => un3_Q (fun _ _ _ _ q => absurd rfl q)))
    rw [hv]
    exact h0
  rw [h] at q
  exact q ha
theorem add_px {N m j : Nat} {parts : Nat → Int32} (hN : N < 18) (hm : m < 4) (hp : parts N = nI m) (hj : j < N) (pn wt ws steps below above : Nat → Int32) (w : Int32) : PX1_addPart (nI N) parts pn wt ws steps below above (nI j) w = (upd parts N (nI (m + 1)), upd pn (4 * N + m) (nI j), upd wt (4 * N + m) w, upd ws N (ws N + w), upd steps N (if steps N < steps j + 1 then steps j + 1 else steps N), upd below N (below N ||| below j), upd above j (above j ||| ((1 : Int32) <<< (nI N &&& 31)))) := by
  have cN : (nI N).toNatClampNeg = N := nI_clamp (by omega)
  have cj : (nI j).toNatClampNeg = j := nI_clamp (by omega)
  rw [PX1_addPart_eq, room_p hN (by omega) hp, if_pos hm, PX1_hasNode_eq, if_neg (nI_pos (by omega)), if_neg (show ¬ nI N ≤ nI j by rw [nI_leI (by omega) (by omega)]; omega)]
  dsimp only [lt_]
  rw [if_pos rfl, if_pos rfl, cN, hp, cl_add (mul4 (by omega)) (by omega), nI_1, cj]
theorem begin_x {N : Nat} (hN : N < 18) (kind parts ws tw steps below above : Nat → Int32) (p0 : Int32) : PX1_beginNode (nI N) kind parts ws tw steps below above p0 = (upd kind N p0, upd parts N 0, upd ws N 0, upd tw N 0, upd steps N 0, upd below N (if p0 = 0 then (1 : Int32) <<< (nI N &&& 31) else 0), upd above N 0) := by
  have k18 : (18 : Int32).toInt = 18 := by decide
  have cN : (nI N).toNatClampNeg = N := nI_clamp (by omega)
  rw [PX1_beginNode_eq, if_neg (show ¬ (18 : Int32) ≤ nI N by rw [fz_le, k18, nI_toInt (by omega)]; omega)]
  dsimp only [lt_]
  rw [cN]
  by_cases h : p0 = 0
  · rw [if_pos h, if_pos h]
  · rw [if_neg h, if_neg h]
theorem end_x {N : Nat} (hN : N < 18) (names : Nat → Int64) (words chances unit : Int32) (kind ws tw : Nat → Int32) (x : Int64) (p : Int32) : ∃ (nm2 : Nat → Int64) (w2 c2 : Int32) (t2 : Nat → Int32), PX3_endNode names (nI N) words chances unit kind ws tw x p = (nm2, nI (N + 1), w2, c2, if kind N = 3 then unit * ws N else unit, t2) := by
  have k18 : (18 : Int32).toInt = 18 := by decide
  have cN : (nI N).toNatClampNeg = N := nI_clamp (by omega)
  have c : ¬ (18 : Int32) ≤ nI N := by rw [fz_le, k18, nI_toInt (by omega)]; omega
  rw [PX3_endNode_eq, if_neg c, PX1_endNode_eq, if_neg c]
  dsimp only [lt_]
  rw [cN, nI_1]
  by_cases h0 : kind N = 0
  · have h3 : ¬ kind N = 3 := by rw [h0]; decide
    rw [if_pos h0, if_neg h3, if_neg h3]
    exact ⟨_, _, _, _, rfl⟩
  · rw [if_neg h0]
    by_cases h3 : kind N = 3
    · rw [if_pos h3, if_pos h3]; exact ⟨_, _, _, _, rfl⟩
    · rw [if_neg h3, if_neg h3]; exact ⟨_, _, _, _, rfl⟩
theorem room_n {N : Nat} {words chances p a : Int32} (hN : N ≤ 18) (h : PX1_hasRoomFor (nI N) words chances p = a) (ha : a = 1) : N < 18 := by
  have k18 : (18 : Int32).toInt = 18 := by decide
  rw [PX1_hasRoomFor_eq] at h
  by_cases c : nI N < (18 : Int32)
  · rw [fz_lt, k18, nI_toInt (by omega)] at c; omega
  · rw [if_neg c, ha] at h; exact absurd h (by decide)
def QP (N : Nat) (unit : Int32) (kind : Nat → Int32) (c : Int32 × Int32 × Int32 × Int32 × Int32 × Int32 × Int64 × Int32 × Int32 × (Nat → Int32) × (Nat → Int32) × (Nat → Int32) × (Nat → Int32) × (Nat → Int32) × (Nat → Int32) × (Nat → Int32)) : Prop := ¬ c.1 = 0 → ∃ m : Nat, CP N m unit kind c.2.2.2.2.2.2.2.2.2.1 c.2.2.2.2.2.2.2.2.2.2.1 c.2.2.2.2.2.2.2.2.2.2.2.1 c.2.2.2.2.2.2.2.2.2.2.2.2.1 c.2.2.2.2.2.2.2.2.2.2.2.2.2.1 c.2.2.2.2.2.2.2.2.2.2.2.2.2.2.1 c.2.2.2.2.2.2.2.2.2.2.2.2.2.2.2
def QR (c : Int32 × Int32 × Int32 × Int32 × Int32 × Int32 × Int64 × Int32 × Int32 × (Nat → Int64) × Int32 × Int32 × Int32 × Int32 × (Nat → Int32) × (Nat → Int32) × (Nat → Int32) × (Nat → Int32) × (Nat → Int32) × (Nat → Int32) × (Nat → Int32) × (Nat → Int32) × (Nat → Int32)) : Prop := ¬ c.1 = 0 → CIS c.2.2.2.2.2.2.2.2.2.2.1 c.2.2.2.2.2.2.2.2.2.2.2.2.2.1 c.2.2.2.2.2.2.2.2.2.2.2.2.2.2.1 c.2.2.2.2.2.2.2.2.2.2.2.2.2.2.2.1 c.2.2.2.2.2.2.2.2.2.2.2.2.2.2.2.2.1 c.2.2.2.2.2.2.2.2.2.2.2.2.2.2.2.2.2.1 c.2.2.2.2.2.2.2.2.2.2.2.2.2.2.2.2.2.2.1 c.2.2.2.2.2.2.2.2.2.2.2.2.2.2.2.2.2.2.2.2.1 c.2.2.2.2.2.2.2.2.2.2.2.2.2.2.2.2.2.2.2.2.2.1 c.2.2.2.2.2.2.2.2.2.2.2.2.2.2.2.2.2.2.2.2.2.2
def QW (pn wt : Nat → Int32) (c : Int32 × Int32 × Int32 × Int32 × Int32 × Int32 × Int64 × Int32 × Int32 × (Nat → Int64) × Int32 × Int32 × Int32 × Int32 × (Nat → Int32) × (Nat → Int32) × (Nat → Int32) × (Nat → Int32) × (Nat → Int32) × (Nat → Int32) × (Nat → Int32)) : Prop := ¬ c.1 = 0 → CIS c.2.2.2.2.2.2.2.2.2.2.1 c.2.2.2.2.2.2.2.2.2.2.2.2.2.1 c.2.2.2.2.2.2.2.2.2.2.2.2.2.2.1 c.2.2.2.2.2.2.2.2.2.2.2.2.2.2.2.1 pn wt c.2.2.2.2.2.2.2.2.2.2.2.2.2.2.2.2.1 c.2.2.2.2.2.2.2.2.2.2.2.2.2.2.2.2.2.2.1 c.2.2.2.2.2.2.2.2.2.2.2.2.2.2.2.2.2.2.2.1 c.2.2.2.2.2.2.2.2.2.2.2.2.2.2.2.2.2.2.2.2
def QL (c : Int32 × Int32 × Int32 × Int32 × Int32 × Int32 × Int64 × Int32 × Int32 × Int32 × (Nat → Int64) × Int32 × Int32 × Int32 × Int32 × Int32 × Int32 × Int32 × Int32 × (Nat → Int32) × (Nat → Int32) × (Nat → Int32) × (Nat → Int32) × (Nat → Int32) × (Nat → Int32) × (Nat → Int32) × (Nat → Int32) × (Nat → Int32) × (Nat → Int32) × (Nat → Int32)) : Prop := ¬ c.1 = 0 → CIS c.2.2.2.2.2.2.2.2.2.2.2.1 c.2.2.2.2.2.2.2.2.2.2.2.2.2.2.2.2.2.2.1 c.2.2.2.2.2.2.2.2.2.2.2.2.2.2.2.2.2.2.2.1 c.2.2.2.2.2.2.2.2.2.2.2.2.2.2.2.2.2.2.2.2.1 c.2.2.2.2.2.2.2.2.2.2.2.2.2.2.2.2.2.2.2.2.2.1 c.2.2.2.2.2.2.2.2.2.2.2.2.2.2.2.2.2.2.2.2.2.2.1 c.2.2.2.2.2.2.2.2.2.2.2.2.2.2.2.2.2.2.2.2.2.2.2.1 c.2.2.2.2.2.2.2.2.2.2.2.2.2.2.2.2.2.2.2.2.2.2.2.2.2.1 c.2.2.2.2.2.2.2.2.2.2.2.2.2.2.2.2.2.2.2.2.2.2.2.2.2.2.1 c.2.2.2.2.2.2.2.2.2.2.2.2.2.2.2.2.2.2.2.2.2.2.2.2.2.2.2.1
def QS (c : Int32 × Int32 × Int32 × Int32 × Int32 × Int32 × Int32 × Int32 × Int64 × Int32 × Int32 × Int32 × (Nat → Int64) × Int32 × Int32 × Int32 × Int32 × Int32 × Int32 × Int32 × Int32 × (Nat → Int32) × (Nat → Int32) × (Nat → Int32) × (Nat → Int32) × (Nat → Int32) × (Nat → Int32) × (Nat → Int32) × (Nat → Int32) × (Nat → Int32) × (Nat → Int32) × (Nat → Int32)) : Prop := ¬ c.1 = 0 → CIS c.2.2.2.2.2.2.2.2.2.2.2.2.2.1 c.2.2.2.2.2.2.2.2.2.2.2.2.2.2.2.2.2.2.2.2.1 c.2.2.2.2.2.2.2.2.2.2.2.2.2.2.2.2.2.2.2.2.2.1 c.2.2.2.2.2.2.2.2.2.2.2.2.2.2.2.2.2.2.2.2.2.2.1 c.2.2.2.2.2.2.2.2.2.2.2.2.2.2.2.2.2.2.2.2.2.2.2.1 c.2.2.2.2.2.2.2.2.2.2.2.2.2.2.2.2.2.2.2.2.2.2.2.2.1 c.2.2.2.2.2.2.2.2.2.2.2.2.2.2.2.2.2.2.2.2.2.2.2.2.2.1 c.2.2.2.2.2.2.2.2.2.2.2.2.2.2.2.2.2.2.2.2.2.2.2.2.2.2.2.1 c.2.2.2.2.2.2.2.2.2.2.2.2.2.2.2.2.2.2.2.2.2.2.2.2.2.2.2.2.1 c.2.2.2.2.2.2.2.2.2.2.2.2.2.2.2.2.2.2.2.2.2.2.2.2.2.2.2.2.2.1
theorem rp_Q {N m : Nat} {unit : Int32} {kind : Nat → Int32} {iR_faultNumber : Int32} {iR_faultPlace : Int32} {fR_tape : Nat → Int32} {iR_end : Int32} {iR_tokenKind : Int32} {iR_tokenFrom : Int32} {iR_tokenTo : Int32} {iR_tokenName : Int64} {iR_tokenKey : Int32} {iR_tokenWhole : Int32} {fR_names : Nat → Int64} {fR_keys : Nat → Int64} {fC_parts : Nat → Int32} {fC_partNodes : Nat → Int32} {fC_weights : Nat → Int32} {fC_weightSums : Nat → Int32} {fC_steps : Nat → Int32} {fC_below : Nat → Int32} {fC_above : Nat → Int32} {p0 : Int32} (h : CP N m unit kind fC_parts fC_partNodes fC_weights fC_weightSums fC_steps fC_below fC_above) : QP N unit kind (PX3_readPart iR_faultNumber iR_faultPlace fR_tape iR_end iR_tokenKind iR_tokenFrom iR_tokenTo iR_tokenName iR_tokenKey iR_tokenWhole fR_names fR_keys (nI N) fC_parts fC_partNodes fC_weights fC_weightSums fC_steps fC_below fC_above p0) := by
  have hN : N < 18 := h.1
  have hp := h.2.1
  have hm4 : m ≤ 4 := h.2.2.1.1
  rw [PX3_readPart_eq]
  refine un3_Q (fun a b c h1 => ite_Q (fun _ q => absurd rfl q) (fun ha => ?_))
  have h0 := told_ok h1 ha
  refine lt_Q (fun v hv => ?_)
  rw [hv] at h0
  refine lt_Q (fun w hw => ite_Q (fun h3 => ?_) (fun _ => un3_Q (fun _ _ _ _ q => absurd rfl q)))
  obtain ⟨j, hj, rfl⟩ : ∃ j : Nat, j < N ∧ v = nI j := by
    rcases told_num (x := iR_tokenName) (names := fR_names) (N := N) (by omega) with e | ⟨j, hj, e⟩
    · rw [hv] at e; rw [e] at h0; exact absurd h0 (by decide)
    · exact ⟨j, hj, hv.symm.trans e⟩
  have hn : ¬ ∃ i : Nat, i < m ∧ fC_partNodes (4 * N + i) = nI j := fun c => (place_eq hN hm4 hp).1 c (by rw [hw]; exact h3)
  refine lt_Q (fun y hy => ite_Q (fun h4 => ?_) (fun _ => un3_Q (fun _ _ _ _ q => absurd rfl q)))
  have hm : m < 4 := by
    rw [room_p hN hm4 hp] at hy
    by_cases g : m < 4
    · exact g
    · rw [if_neg g] at hy; rw [← hy] at h4; exact absurd h4 (by decide)
  refine un6_Q (fun _ _ _ _ _ _ _ => ite_Q (fun _ => ?_) (fun _ => ?_))
  · refine un3_Q (fun _ _ _ _ => ite_Q (fun _ q => absurd rfl q) (fun _ => un6_Q (fun _ _ _ _ _ _ _ => ?_)))
    rw [add_px hN hm hp hj, un7_eq rfl]
    exact fun _ => ⟨m + 1, h.add hm hj hn⟩
  · rw [add_px hN hm hp hj, un7_eq rfl]
    exact fun _ => ⟨m + 1, h.add hm hj hn⟩
theorem rp_Q' {N m : Nat} {unit : Int32} {kind : Nat → Int32} {iR_faultNumber : Int32} {iR_faultPlace : Int32} {fR_tape : Nat → Int32} {iR_end : Int32} {iR_tokenKind : Int32} {iR_tokenFrom : Int32} {iR_tokenTo : Int32} {iR_tokenName : Int64} {iR_tokenKey : Int32} {iR_tokenWhole : Int32} {fR_names : Nat → Int64} {fR_keys : Nat → Int64} {fC_parts : Nat → Int32} {fC_partNodes : Nat → Int32} {fC_weights : Nat → Int32} {fC_weightSums : Nat → Int32} {fC_steps : Nat → Int32} {fC_below : Nat → Int32} {fC_above : Nat → Int32} {p0 : Int32} {t : Int32 × Int32 × Int32 × Int32 × Int32 × Int32 × Int64 × Int32 × Int32 × (Nat → Int32) × (Nat → Int32) × (Nat → Int32) × (Nat → Int32) × (Nat → Int32) × (Nat → Int32) × (Nat → Int32)} (h : CP N m unit kind fC_parts fC_partNodes fC_weights fC_weightSums fC_steps fC_below fC_above) (e : PX3_readPart iR_faultNumber iR_faultPlace fR_tape iR_end iR_tokenKind iR_tokenFrom iR_tokenTo iR_tokenName iR_tokenKey iR_tokenWhole fR_names fR_keys (nI N) fC_parts fC_partNodes fC_weights fC_weightSums fC_steps fC_below fC_above p0 = t) : QP N unit kind t := by
  rw [← e]
  exact rp_Q h
theorem rl_Q {N : Nat} {fR_tape : Nat → Int32} {iR_end : Int32} {fR_names : Nat → Int64} {fR_keys : Nat → Int64} {iC_words : Int32} {iC_chances : Int32} {iC_unit : Int32} {p0 : Int32} {f_2877 : Nat → Int32} {f_2880 : Nat → Int32} {y_2887 : Int64} : ∀ (f : Nat) (z_2916 : Int32) (z_2917 : Int32) (z_2918 : Int32) (z_2919 : Int32) (z_2920 : Int32) (z_2921 : Int32) (z_2922 : Int32) (z_2923 : Int64) (z_2924 : Int32) (z_2925 : Int32) (f_2926 : Nat → Int32) (f_2927 : Nat → Int32) (f_2928 : Nat → Int32) (f_2929 : Nat → Int32) (f_2930 : Nat → Int32) (f_2931 : Nat → Int32) (f_2932 : Nat → Int32), (¬ z_2917 = 0 → ∃ m : Nat, CP N m iC_unit f_2877 f_2926 f_2927 f_2928 f_2929 f_2930 f_2931 f_2932) → QR (HX3_readRuler_0 fR_tape iR_end fR_names fR_keys (nI N) iC_words iC_chances iC_unit p0 f_2877 f_2880 y_2887 f z_2916 z_2917 z_2918 z_2919 z_2920 z_2921 z_2922 z_2923 z_2924 z_2925 f_2926 f_2927 f_2928 f_2929 f_2930 f_2931 f_2932)
  | 0, _, _, _, _, _, _, _, _, _, _, _, _, _, _, _, _, _, _ => fun q => absurd rfl q
  | f + 1, z_2916, z_2917, z_2918, z_2919, z_2920, z_2921, z_2922, z_2923, z_2924, z_2925, f_2926, f_2927, f_2928, f_2929, f_2930, f_2931, f_2932, h => by
    rw [HX3_readRuler_0_eq]
    refine ite_Q (fun _ => ite_Q (fun h0 q => absurd h0 q) (fun h1 => ?_)) (fun _ => ite_Q (fun h0 => ite_Q (fun _ q => absurd h0 q) (fun hx => absurd h0 hx)) (fun h1 => ite_Q (fun _ => ?_) (fun _ => ite_Q (fun hz => absurd hz h1) (fun _ => ?_))))
    · obtain ⟨m, hm⟩ := h h1
      obtain ⟨nm2, w2, c2, t2, e⟩ := end_x hm.1 fR_names iC_words iC_chances iC_unit f_2877 f_2929 f_2880 y_2887 0
      rw [e, un6_eq rfl]
      exact fun _ => ⟨N + 1, rfl, hm.fin⟩
    · obtain ⟨m, hm⟩ := h h1
      refine un6_Q (fun _ _ _ _ _ _ _ => un16_Q (fun a0 a1 a2 a3 a4 a5 a6 a7 a8 a9 a10 a11 a12 a13 a14 a15 h2 => lt_Q (fun _ _ => ?_)))
      exact rl_Q f _ a0 a1 a2 a3 a4 a5 a6 a7 a8 a9 a10 a11 a12 a13 a14 a15 (fun q => rp_Q' hm h2 q)
    · obtain ⟨m, hm⟩ := h h1
      obtain ⟨nm2, w2, c2, t2, e⟩ := end_x hm.1 fR_names iC_words iC_chances iC_unit f_2877 f_2929 f_2880 y_2887 0
      rw [e, un6_eq rfl]
      exact fun _ => ⟨N + 1, rfl, hm.fin⟩
theorem rr_Q {N : Nat} {iR_faultNumber : Int32} {iR_faultPlace : Int32} {fR_tape : Nat → Int32} {iR_end : Int32} {iR_tokenKind : Int32} {iR_tokenFrom : Int32} {iR_tokenTo : Int32} {iR_tokenName : Int64} {iR_tokenKey : Int32} {iR_tokenWhole : Int32} {fR_names : Nat → Int64} {fR_keys : Nat → Int64} {iC_words : Int32} {iC_chances : Int32} {iC_unit : Int32} {fC_kind : Nat → Int32} {fC_parts : Nat → Int32} {fC_partNodes : Nat → Int32} {fC_weights : Nat → Int32} {fC_weightSums : Nat → Int32} {fC_toldWorths : Nat → Int32} {fC_steps : Nat → Int32} {fC_below : Nat → Int32} {fC_above : Nat → Int32} {p0 : Int32} (h : CI N iC_unit fC_kind fC_parts fC_partNodes fC_weights fC_weightSums fC_steps fC_below fC_above) : QR (PX3_readRuler iR_faultNumber iR_faultPlace fR_tape iR_end iR_tokenKind iR_tokenFrom iR_tokenTo iR_tokenName iR_tokenKey iR_tokenWhole fR_names fR_keys (nI N) iC_words iC_chances iC_unit fC_kind fC_parts fC_partNodes fC_weights fC_weightSums fC_toldWorths fC_steps fC_below fC_above p0) := by
  rw [PX3_readRuler_eq]
  refine lt_Q (fun a ha => ite_Q (fun h1 => ?_) (fun _ => un3_Q (fun _ _ _ _ q => absurd rfl q)))
  have hN : N < 18 := room_n h.1 ha h1
  have hb := h.beg (p0 := p0) hN
  rw [begin_x hN, un7_eq rfl]
  refine un6_Q (fun _ _ _ _ _ _ _ => un3_Q (fun _ _ _ _ => ite_Q (fun _ q => absurd rfl q) (fun _ => un6_Q (fun _ _ _ _ _ _ _ => un16_Q (fun a0 a1 a2 a3 a4 a5 a6 a7 a8 a9 a10 a11 a12 a13 a14 a15 h2 => ?_)))))
  exact rl_Q _ _ a0 a1 a2 a3 a4 a5 a6 a7 a8 a9 a10 a11 a12 a13 a14 a15 (fun q => rp_Q' hb h2 q)
theorem rw_Q {N : Nat} {fC_partNodes fC_weights : Nat → Int32} {iR_faultNumber : Int32} {iR_faultPlace : Int32} {fR_tape : Nat → Int32} {iR_end : Int32} {iR_tokenKind : Int32} {iR_tokenFrom : Int32} {iR_tokenTo : Int32} {iR_tokenName : Int64} {iR_tokenKey : Int32} {iR_tokenWhole : Int32} {fR_names : Nat → Int64} {fR_keys : Nat → Int64} {iC_words : Int32} {iC_chances : Int32} {iC_unit : Int32} {fC_kind : Nat → Int32} {fC_parts : Nat → Int32} {fC_weightSums : Nat → Int32} {fC_toldWorths : Nat → Int32} {fC_steps : Nat → Int32} {fC_below : Nat → Int32} {fC_above : Nat → Int32} (h : CI N iC_unit fC_kind fC_parts fC_partNodes fC_weights fC_weightSums fC_steps fC_below fC_above) : QW fC_partNodes fC_weights (PX3_readWord iR_faultNumber iR_faultPlace fR_tape iR_end iR_tokenKind iR_tokenFrom iR_tokenTo iR_tokenName iR_tokenKey iR_tokenWhole fR_names fR_keys (nI N) iC_words iC_chances iC_unit fC_kind fC_parts fC_weightSums fC_toldWorths fC_steps fC_below fC_above) := by
  rw [PX3_readWord_eq]
  refine lt_Q (fun a ha => ite_Q (fun h1 => ?_) (fun _ => un3_Q (fun _ _ _ _ q => absurd rfl q)))
  have hN : N < 18 := room_n h.1 ha h1
  have hb := h.beg (p0 := 0) hN
  rw [begin_x hN, un7_eq rfl]
  refine un6_Q (fun _ _ _ y _ _ _ => un3_Q (fun _ _ _ _ => ite_Q (fun _ q => absurd rfl q) (fun _ => un6_Q (fun _ _ _ _ _ _ _ => ite_Q (fun _ => un6_Q (fun _ _ _ _ _ w _ => un3_Q (fun _ _ _ _ => ite_Q (fun _ q => absurd rfl q) (fun _ => ?_)))) (fun _ => un3_Q (fun _ _ _ _ q => absurd rfl q))))))
  obtain ⟨nm2, w2, c2, t2, e⟩ := end_x hN fR_names iC_words iC_chances iC_unit (upd fC_kind N 0) (upd fC_weightSums N 0) (upd fC_toldWorths N 0) y w
  rw [e, un6_eq rfl]
  refine un6_Q (fun _ _ _ _ _ _ _ => ?_)
  exact fun _ => ⟨N + 1, rfl, hb.fin⟩
theorem rr_Q' {N : Nat} {iR_faultNumber : Int32} {iR_faultPlace : Int32} {fR_tape : Nat → Int32} {iR_end : Int32} {iR_tokenKind : Int32} {iR_tokenFrom : Int32} {iR_tokenTo : Int32} {iR_tokenName : Int64} {iR_tokenKey : Int32} {iR_tokenWhole : Int32} {fR_names : Nat → Int64} {fR_keys : Nat → Int64} {iC_words : Int32} {iC_chances : Int32} {iC_unit : Int32} {fC_kind : Nat → Int32} {fC_parts : Nat → Int32} {fC_partNodes : Nat → Int32} {fC_weights : Nat → Int32} {fC_weightSums : Nat → Int32} {fC_toldWorths : Nat → Int32} {fC_steps : Nat → Int32} {fC_below : Nat → Int32} {fC_above : Nat → Int32} {p0 : Int32} {t : Int32 × Int32 × Int32 × Int32 × Int32 × Int32 × Int64 × Int32 × Int32 × (Nat → Int64) × Int32 × Int32 × Int32 × Int32 × (Nat → Int32) × (Nat → Int32) × (Nat → Int32) × (Nat → Int32) × (Nat → Int32) × (Nat → Int32) × (Nat → Int32) × (Nat → Int32) × (Nat → Int32)} (h : CI N iC_unit fC_kind fC_parts fC_partNodes fC_weights fC_weightSums fC_steps fC_below fC_above) (e : PX3_readRuler iR_faultNumber iR_faultPlace fR_tape iR_end iR_tokenKind iR_tokenFrom iR_tokenTo iR_tokenName iR_tokenKey iR_tokenWhole fR_names fR_keys (nI N) iC_words iC_chances iC_unit fC_kind fC_parts fC_partNodes fC_weights fC_weightSums fC_toldWorths fC_steps fC_below fC_above p0 = t) : QR t := by
  rw [← e]
  exact rr_Q h
theorem rw_Q' {N : Nat} {fC_partNodes fC_weights : Nat → Int32} {iR_faultNumber : Int32} {iR_faultPlace : Int32} {fR_tape : Nat → Int32} {iR_end : Int32} {iR_tokenKind : Int32} {iR_tokenFrom : Int32} {iR_tokenTo : Int32} {iR_tokenName : Int64} {iR_tokenKey : Int32} {iR_tokenWhole : Int32} {fR_names : Nat → Int64} {fR_keys : Nat → Int64} {iC_words : Int32} {iC_chances : Int32} {iC_unit : Int32} {fC_kind : Nat → Int32} {fC_parts : Nat → Int32} {fC_weightSums : Nat → Int32} {fC_toldWorths : Nat → Int32} {fC_steps : Nat → Int32} {fC_below : Nat → Int32} {fC_above : Nat → Int32} {t : Int32 × Int32 × Int32 × Int32 × Int32 × Int32 × Int64 × Int32 × Int32 × (Nat → Int64) × Int32 × Int32 × Int32 × Int32 × (Nat → Int32) × (Nat → Int32) × (Nat → Int32) × (Nat → Int32) × (Nat → Int32) × (Nat → Int32) × (Nat → Int32)} (h : CI N iC_unit fC_kind fC_parts fC_partNodes fC_weights fC_weightSums fC_steps fC_below fC_above) (e : PX3_readWord iR_faultNumber iR_faultPlace fR_tape iR_end iR_tokenKind iR_tokenFrom iR_tokenTo iR_tokenName iR_tokenKey iR_tokenWhole fR_names fR_keys (nI N) iC_words iC_chances iC_unit fC_kind fC_parts fC_weightSums fC_toldWorths fC_steps fC_below fC_above = t) : QW fC_partNodes fC_weights t := by
  rw [← e]
  exact rw_Q h
theorem rL_Q {N : Nat} {iR_faultNumber : Int32} {iR_faultPlace : Int32} {fR_tape : Nat → Int32} {iR_end : Int32} {iR_tokenKind : Int32} {iR_tokenFrom : Int32} {iR_tokenTo : Int32} {iR_tokenName : Int64} {iR_tokenKey : Int32} {iR_tokenWhole : Int32} {iR_courtTold : Int32} {fR_names : Nat → Int64} {fR_keys : Nat → Int64} {iC_words : Int32} {iC_chances : Int32} {iC_unsures : Int32} {iC_slips : Int32} {iC_throneNode : Int32} {iC_saidWorth : Int32} {iC_unit : Int32} {fC_kind : Nat → Int32} {fC_parts : Nat → Int32} {fC_partNodes : Nat → Int32} {fC_weights : Nat → Int32} {fC_weightSums : Nat → Int32} {fC_toldWorths : Nat → Int32} {fC_steps : Nat → Int32} {fC_below : Nat → Int32} {fC_above : Nat → Int32} {fC_unsureWords : Nat → Int32} {fC_unsureWorths : Nat → Int32} (h : CI N iC_unit fC_kind fC_parts fC_partNodes fC_weights fC_weightSums fC_steps fC_below fC_above) : QL (PX3_readLine iR_faultNumber iR_faultPlace fR_tape iR_end iR_tokenKind iR_tokenFrom iR_tokenTo iR_tokenName iR_tokenKey iR_tokenWhole iR_courtTold fR_names fR_keys (nI N) iC_words iC_chances iC_unsures iC_slips iC_throneNode iC_saidWorth iC_unit fC_kind fC_parts fC_partNodes fC_weights fC_weightSums fC_toldWorths fC_steps fC_below fC_above fC_unsureWords fC_unsureWorths) := by
  rw [PX3_readLine_eq]
  refine lt_Q (fun x_3451 _ => ?_)
  refine ite_Q (fun hc => ?_) (fun hc => ?_)
  · skip
    refine un3_Q (fun x_3748 x_3745 x_3746 ex_3748 => ?_)
    exact fun q => absurd rfl q
  · skip
    refine ite_Q (fun hc => ?_) (fun hc => ?_)
    · skip
      refine ite_Q (fun hc => ?_) (fun hc => ?_)
      · skip
        refine sw_Q (fun a ha => ?_) ?_
        · simp only [List.mem_cons, List.not_mem_nil, or_false] at ha
          rcases ha with rfl | rfl | rfl | rfl | rfl | rfl | rfl
          · skip
            refine un21_Q (fun x_3638 x_3618 x_3619 x_3620 x_3621 x_3622 y_3623 x_3624 x_3625 f_3626 x_3627 x_3628 x_3629 x_3630 f_3631 f_3632 f_3633 f_3634 f_3635 f_3636 f_3637 ex_3638 => ?_)
            exact fun q => rw_Q' h ex_3638 q
          · skip
            refine un23_Q (fun x_3661 x_3639 x_3640 x_3641 x_3642 x_3643 y_3644 x_3645 x_3646 f_3647 x_3648 x_3649 x_3650 x_3651 f_3652 f_3653 f_3654 f_3655 f_3656 f_3657 f_3658 f_3659 f_3660 ex_3661 => ?_)
            exact fun q => rr_Q' h ex_3661 q
          · skip
            refine un23_Q (fun x_3684 x_3662 x_3663 x_3664 x_3665 x_3666 y_3667 x_3668 x_3669 f_3670 x_3671 x_3672 x_3673 x_3674 f_3675 f_3676 f_3677 f_3678 f_3679 f_3680 f_3681 f_3682 f_3683 ex_3684 => ?_)
            exact fun q => rr_Q' h ex_3684 q
          · skip
            refine un23_Q (fun x_3707 x_3685 x_3686 x_3687 x_3688 x_3689 y_3690 x_3691 x_3692 f_3693 x_3694 x_3695 x_3696 x_3697 f_3698 f_3699 f_3700 f_3701 f_3702 f_3703 f_3704 f_3705 f_3706 ex_3707 => ?_)
            exact fun q => rr_Q' h ex_3707 q
          · skip
            refine un11_Q (fun x_3718 x_3708 x_3709 x_3710 x_3711 x_3712 y_3713 x_3714 x_3715 x_3716 x_3717 ex_3718 => ?_)
            exact fun _ => ⟨N, rfl, h⟩
          · skip
            refine un10_Q (fun x_3728 x_3719 x_3720 x_3721 x_3722 x_3723 y_3724 x_3725 x_3726 x_3727 ex_3728 => ?_)
            exact fun _ => ⟨N, rfl, h⟩
          · skip
            refine un12_Q (fun x_3740 x_3729 x_3730 x_3731 x_3732 x_3733 y_3734 x_3735 x_3736 x_3737 f_3738 f_3739 ex_3740 => ?_)
            exact fun _ => ⟨N, rfl, h⟩
        · skip
          refine un10_Q (fun x_3607 x_3598 x_3599 x_3600 x_3601 x_3602 y_3603 x_3604 x_3605 x_3606 ex_3607 => ?_)
          exact fun _ => ⟨N, rfl, h⟩
      · skip
        refine un3_Q (fun x_3744 x_3741 x_3742 ex_3744 => ?_)
        exact fun q => absurd rfl q
    · skip
      refine sw_Q (fun a ha => ?_) ?_
      · simp only [List.mem_cons, List.not_mem_nil, or_false] at ha
        rcases ha with rfl | rfl | rfl | rfl | rfl | rfl | rfl
        · skip
          refine un21_Q (fun x_3494 x_3474 x_3475 x_3476 x_3477 x_3478 y_3479 x_3480 x_3481 f_3482 x_3483 x_3484 x_3485 x_3486 f_3487 f_3488 f_3489 f_3490 f_3491 f_3492 f_3493 ex_3494 => ?_)
          exact fun q => rw_Q' h ex_3494 q
        · skip
          refine un23_Q (fun x_3517 x_3495 x_3496 x_3497 x_3498 x_3499 y_3500 x_3501 x_3502 f_3503 x_3504 x_3505 x_3506 x_3507 f_3508 f_3509 f_3510 f_3511 f_3512 f_3513 f_3514 f_3515 f_3516 ex_3517 => ?_)
          exact fun q => rr_Q' h ex_3517 q
        · skip
          refine un23_Q (fun x_3540 x_3518 x_3519 x_3520 x_3521 x_3522 y_3523 x_3524 x_3525 f_3526 x_3527 x_3528 x_3529 x_3530 f_3531 f_3532 f_3533 f_3534 f_3535 f_3536 f_3537 f_3538 f_3539 ex_3540 => ?_)
          exact fun q => rr_Q' h ex_3540 q
        · skip
          refine un23_Q (fun x_3563 x_3541 x_3542 x_3543 x_3544 x_3545 y_3546 x_3547 x_3548 f_3549 x_3550 x_3551 x_3552 x_3553 f_3554 f_3555 f_3556 f_3557 f_3558 f_3559 f_3560 f_3561 f_3562 ex_3563 => ?_)
          exact fun q => rr_Q' h ex_3563 q
        · skip
          refine un11_Q (fun x_3574 x_3564 x_3565 x_3566 x_3567 x_3568 y_3569 x_3570 x_3571 x_3572 x_3573 ex_3574 => ?_)
          exact fun _ => ⟨N, rfl, h⟩
        · skip
          refine un10_Q (fun x_3584 x_3575 x_3576 x_3577 x_3578 x_3579 y_3580 x_3581 x_3582 x_3583 ex_3584 => ?_)
          exact fun _ => ⟨N, rfl, h⟩
        · skip
          refine un12_Q (fun x_3596 x_3585 x_3586 x_3587 x_3588 x_3589 y_3590 x_3591 x_3592 x_3593 f_3594 f_3595 ex_3596 => ?_)
          exact fun _ => ⟨N, rfl, h⟩
      · skip
        refine un10_Q (fun x_3463 x_3454 x_3455 x_3456 x_3457 x_3458 y_3459 x_3460 x_3461 x_3462 ex_3463 => ?_)
        exact fun _ => ⟨N, rfl, h⟩
theorem rL_Q' {N : Nat} {iR_faultNumber : Int32} {iR_faultPlace : Int32} {fR_tape : Nat → Int32} {iR_end : Int32} {iR_tokenKind : Int32} {iR_tokenFrom : Int32} {iR_tokenTo : Int32} {iR_tokenName : Int64} {iR_tokenKey : Int32} {iR_tokenWhole : Int32} {iR_courtTold : Int32} {fR_names : Nat → Int64} {fR_keys : Nat → Int64} {iC_words : Int32} {iC_chances : Int32} {iC_unsures : Int32} {iC_slips : Int32} {iC_throneNode : Int32} {iC_saidWorth : Int32} {iC_unit : Int32} {fC_kind : Nat → Int32} {fC_parts : Nat → Int32} {fC_partNodes : Nat → Int32} {fC_weights : Nat → Int32} {fC_weightSums : Nat → Int32} {fC_toldWorths : Nat → Int32} {fC_steps : Nat → Int32} {fC_below : Nat → Int32} {fC_above : Nat → Int32} {fC_unsureWords : Nat → Int32} {fC_unsureWorths : Nat → Int32} {t : Int32 × Int32 × Int32 × Int32 × Int32 × Int32 × Int64 × Int32 × Int32 × Int32 × (Nat → Int64) × Int32 × Int32 × Int32 × Int32 × Int32 × Int32 × Int32 × Int32 × (Nat → Int32) × (Nat → Int32) × (Nat → Int32) × (Nat → Int32) × (Nat → Int32) × (Nat → Int32) × (Nat → Int32) × (Nat → Int32) × (Nat → Int32) × (Nat → Int32) × (Nat → Int32)} (h : CI N iC_unit fC_kind fC_parts fC_partNodes fC_weights fC_weightSums fC_steps fC_below fC_above) (e : PX3_readLine iR_faultNumber iR_faultPlace fR_tape iR_end iR_tokenKind iR_tokenFrom iR_tokenTo iR_tokenName iR_tokenKey iR_tokenWhole iR_courtTold fR_names fR_keys (nI N) iC_words iC_chances iC_unsures iC_slips iC_throneNode iC_saidWorth iC_unit fC_kind fC_parts fC_partNodes fC_weights fC_weightSums fC_toldWorths fC_steps fC_below fC_above fC_unsureWords fC_unsureWorths = t) : QL t := by
  rw [← e]
  exact rL_Q h
theorem rs_Q {fR_tape : Nat → Int32} {fR_keys : Nat → Int64} {p0 : Int32} : ∀ (f : Nat) (z_4043 : Int32) (z_4044 : Int32) (z_4045 : Int32) (z_4046 : Int32) (z_4047 : Int32) (z_4048 : Int32) (z_4049 : Int32) (z_4050 : Int64) (z_4051 : Int32) (z_4052 : Int32) (z_4053 : Int32) (z_4054 : Int32) (z_4055 : Int32) (z_4056 : Int32) (z_4057 : Int32) (z_4058 : Int32) (z_4059 : Int32) (z_4060 : Int32) (z_4061 : Int32) (f_4062 : Nat → Int64) (f_4063 : Nat → Int32) (f_4064 : Nat → Int32) (f_4065 : Nat → Int32) (f_4066 : Nat → Int32) (f_4067 : Nat → Int32) (f_4068 : Nat → Int32) (f_4069 : Nat → Int32) (f_4070 : Nat → Int32) (f_4071 : Nat → Int32) (f_4072 : Nat → Int32) (f_4073 : Nat → Int32), (¬ z_4044 = 0 → CIS z_4054 z_4061 f_4063 f_4064 f_4065 f_4066 f_4067 f_4069 f_4070 f_4071) → QS (HX3_reads_0 fR_tape fR_keys p0 f z_4043 z_4044 z_4045 z_4046 z_4047 z_4048 z_4049 z_4050 z_4051 z_4052 z_4053 z_4054 z_4055 z_4056 z_4057 z_4058 z_4059 z_4060 z_4061 f_4062 f_4063 f_4064 f_4065 f_4066 f_4067 f_4068 f_4069 f_4070 f_4071 f_4072 f_4073)
  | 0, _, _, _, _, _, _, _, _, _, _, _, _, _, _, _, _, _, _, _, _, _, _, _, _, _, _, _, _, _, _, _, _ => fun q => absurd rfl q
  | f + 1, z_4043, z_4044, z_4045, z_4046, z_4047, z_4048, z_4049, z_4050, z_4051, z_4052, z_4053, z_4054, z_4055, z_4056, z_4057, z_4058, z_4059, z_4060, z_4061, f_4062, f_4063, f_4064, f_4065, f_4066, f_4067, f_4068, f_4069, f_4070, f_4071, f_4072, f_4073, h => by
    rw [HX3_reads_0_eq]
    refine ite_Q (fun hc => ?_) (fun hc => ?_)
    · skip
      refine ite_Q (fun h0 => ?_) (fun hfine => ?_)
      · skip
        exact fun q => absurd rfl q
      · skip
        refine un4_Q (fun x_4080 x_4077 x_4078 x_4079 ex_4080 => ?_)
        refine ite_Q (fun hc => ?_) (fun hc => ?_)
        · skip
          exact fun q => absurd rfl q
        · skip
          exact fun _ => h hfine
    · skip
      refine ite_Q (fun h0 => ?_) (fun hfine => ?_)
      · skip
        refine ite_Q (fun _ => ?_) (fun _ => ?_)
        · skip
          exact fun q => absurd rfl q
        · skip
          exact fun q => absurd rfl q
      · skip
        refine ite_Q (fun hc => ?_) (fun hc => ?_)
        · skip
          refine un6_Q (fun x_4091 x_4092 x_4093 y_4094 x_4095 x_4096 ex_4091 => ?_)
          refine un30_Q (fun x_4126 x_4097 x_4098 x_4099 x_4100 x_4101 y_4102 x_4103 x_4104 x_4105 f_4106 x_4107 x_4108 x_4109 x_4110 x_4111 x_4112 x_4113 x_4114 f_4115 f_4116 f_4117 f_4118 f_4119 f_4120 f_4121 f_4122 f_4123 f_4124 f_4125 ex_4126 => ?_)
          obtain ⟨N, hN9, hI9⟩ := h hfine
          rw [hN9] at ex_4126
          have g9 := rL_Q' hI9 ex_4126
          refine lt_Q (fun x_4127 _ => ?_)
          exact rs_Q f _ x_4126 x_4097 x_4098 x_4099 x_4100 x_4101 y_4102 x_4103 x_4104 x_4105 x_4107 x_4108 x_4109 x_4110 x_4111 x_4112 x_4113 x_4114 f_4106 f_4115 f_4116 f_4117 f_4118 f_4119 f_4120 f_4121 f_4122 f_4123 f_4124 f_4125 (fun q => g9 q)
        · skip
          refine ite_Q (fun h0 => ?_) (fun hfine => ?_)
          · skip
            exact fun q => absurd rfl q
          · skip
            refine un4_Q (fun x_4089 x_4086 x_4087 x_4088 ex_4089 => ?_)
            refine ite_Q (fun hc => ?_) (fun hc => ?_)
            · skip
              exact fun q => absurd rfl q
            · skip
              exact fun _ => h hfine
/-- a court that was read -/
theorem reads_Q {fR_tape : Nat → Int32} {iR_tokenName : Int64} {iR_tokenWhole : Int32} {fR_names : Nat → Int64} {fR_keys : Nat → Int64} {fC_kind : Nat → Int32} {fC_parts : Nat → Int32} {fC_partNodes : Nat → Int32} {fC_weights : Nat → Int32} {fC_weightSums : Nat → Int32} {fC_toldWorths : Nat → Int32} {fC_steps : Nat → Int32} {fC_below : Nat → Int32} {fC_above : Nat → Int32} {fC_unsureWords : Nat → Int32} {fC_unsureWorths : Nat → Int32} {p0 : Int32} : QS (PX3_reads fR_tape iR_tokenName iR_tokenWhole fR_names fR_keys fC_kind fC_parts fC_partNodes fC_weights fC_weightSums fC_toldWorths fC_steps fC_below fC_above fC_unsureWords fC_unsureWorths p0) := by
  rw [PX3_reads_eq, PX1_clear_eq, un8_eq rfl]
  refine un6_Q (fun _ _ _ _ _ _ _ => un30_Q (fun a0 a1 a2 a3 a4 a5 a6 a7 a8 a9 a10 a11 a12 a13 a14 a15 a16 a17 a18 a19 a20 a21 a22 a23 a24 a25 a26 a27 a28 a29 e => ?_))
  have h0 : CI 0 1 fC_kind fC_parts fC_partNodes fC_weights fC_weightSums fC_steps fC_below fC_above := ⟨Nat.zero_le _, fun k hk => absurd hk (by omega), rfl, fun k hk => absurd hk (by omega)⟩
  exact rs_Q _ _ a0 a1 a2 a3 a4 a5 a6 a7 a8 a9 a11 a12 a13 a14 a15 a16 a17 a18 a10 a19 a20 a21 a22 a23 a24 a25 a26 a27 a28 a29 (fun q => rL_Q' (N := 0) h0 e q)
theorem reads_Q' {fR_tape : Nat → Int32} {iR_tokenName : Int64} {iR_tokenWhole : Int32} {fR_names : Nat → Int64} {fR_keys : Nat → Int64} {fC_kind : Nat → Int32} {fC_parts : Nat → Int32} {fC_partNodes : Nat → Int32} {fC_weights : Nat → Int32} {fC_weightSums : Nat → Int32} {fC_toldWorths : Nat → Int32} {fC_steps : Nat → Int32} {fC_below : Nat → Int32} {fC_above : Nat → Int32} {fC_unsureWords : Nat → Int32} {fC_unsureWorths : Nat → Int32} {p0 : Int32} {t : Int32 × Int32 × Int32 × Int32 × Int32 × Int32 × Int32 × Int32 × Int64 × Int32 × Int32 × Int32 × (Nat → Int64) × Int32 × Int32 × Int32 × Int32 × Int32 × Int32 × Int32 × Int32 × (Nat → Int32) × (Nat → Int32) × (Nat → Int32) × (Nat → Int32) × (Nat → Int32) × (Nat → Int32) × (Nat → Int32) × (Nat → Int32) × (Nat → Int32) × (Nat → Int32) × (Nat → Int32)} (e : PX3_reads fR_tape iR_tokenName iR_tokenWhole fR_names fR_keys fC_kind fC_parts fC_partNodes fC_weights fC_weightSums fC_toldWorths fC_steps fC_below fC_above fC_unsureWords fC_unsureWorths p0 = t) : QS t := by
  rw [← e]
  exact reads_Q
end E2
