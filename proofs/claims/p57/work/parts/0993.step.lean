/-! one step of reading on both sides -/
def TS (keys : Nat → Int64) (n lo : Nat) (kd fr to : Int32) (x : Int64) (key wh at7 en tk w2 ns : Int32) (L : Nat → Int32) : Prop := ∃ a b : Nat, fr = nI a ∧ at7 = nI a ∧ to = nI b ∧ en = nI b ∧ (lo ≤ a ∧ a ≤ b) ∧ b ≤ n ∧ TokC keys a b kd key wh tk w2 ns x L
/-- the next token, wherever the last one ended -/
def NX (T U : Nat → Int32) (keys : Nat → Int64) (n lo : Nat) (to en : Int32) (nm : Int64) (w : Int32) (L9 : Nat → Int32) (kd fr to' : Int32) (x : Int64) (key wh at7 en' tk w2 ns : Int32) (L : Nat → Int32) : Prop := PX3_nextToken T (nI n) to nm w keys = (kd, fr, to', x, key, wh) ∧ PX7_next U (nI n) en L9 = (at7, en', tk, w2, ns, L) ∧ TS keys n lo kd fr to' x key wh at7 en' tk w2 ns L ∧ True
theorem ts_next {T U : Nat → Int32} {n lo b : Nat} {keys : Nat → Int64} (hT : TR T U n) (hn : n ≤ 900) (hb : b ≤ n) (hlo : lo ≤ b) (nm : Int64) (w : Int32) (L9 : Nat → Int32) : ∃ (kd fr to' : Int32) (x : Int64) (key wh at7 en' tk w2 ns : Int32) (L : Nat → Int32), NX T U keys n lo (nI b) (nI b) nm w L9 kd fr to' x key wh at7 en' tk w2 ns L := by
  obtain ⟨a, c, kd, key, wh, tk, w2, ns, x, L, h1, h2, h3, h4, h5, h6⟩ := tok_sim (keys := keys) (nm := nm) (wh := w) (L := L9) hT hn hb
  exact ⟨kd, nI a, nI c, x, key, wh, nI a, nI c, tk, w2, ns, L, h1, h2, ⟨a, c, rfl, rfl, rfl, rfl, ⟨by omega, h4⟩, h5, h6⟩, trivial⟩
theorem TS.next {T U : Nat → Int32} {n lo : Nat} {keys : Nat → Int64} {kd fr to : Int32} {x : Int64} {key wh at7 en tk w2 ns : Int32} {L : Nat → Int32} (h : TS keys n lo kd fr to x key wh at7 en tk w2 ns L) (hT : TR T U n) (hn : n ≤ 900) (nm : Int64) (w : Int32) (L9 : Nat → Int32) : ∃ (kd' fr' to' : Int32) (x' : Int64) (key' wh' at' en' tk' w2' ns' : Int32) (L' : Nat → Int32), NX T U keys n lo to en nm w L9 kd' fr' to' x' key' wh' at' en' tk' w2' ns' L' := by
  obtain ⟨a, b, -, -, h3, h4, h5, h6, -⟩ := h
  rw [h3, h4]
  exact ts_next hT hn h6 (by omega) nm w L9
/-- behind a semicolon one is farther -/
theorem TS.semi {T U : Nat → Int32} {n lo : Nat} {keys : Nat → Int64} {kd fr to : Int32} {x : Int64} {key wh at7 en tk w2 ns : Int32} {L : Nat → Int32} (h : TS keys n lo kd fr to x key wh at7 en tk w2 ns L) (hs : kd = 3) (hT : TR T U n) (hn : n ≤ 900) (nm : Int64) (w : Int32) (L9 : Nat → Int32) : lo < n ∧ ∃ (kd' fr' to' : Int32) (x' : Int64) (key' wh' at' en' tk' w2' ns' : Int32) (L' : Nat → Int32), NX T U keys n (lo + 1) to en nm w L9 kd' fr' to' x' key' wh' at' en' tk' w2' ns' L' := by
  obtain ⟨a, b, -, -, h3, h4, h5, h6, h7⟩ := h
  have hab : a < b := by
    rcases h7 with ⟨q, -⟩ | ⟨q, -⟩ | ⟨q, -⟩ | ⟨q, -⟩ | ⟨-, -, -, q⟩ | ⟨q, -⟩
    · exact absurd (q.symm.trans hs) (by decide)
    · exact absurd (q.symm.trans hs) (by decide)
    · exact absurd (q.symm.trans hs) (by decide)
    · exact absurd (q.symm.trans hs) (by decide)
    · omega
    · exact absurd (q.symm.trans hs) (by decide)
  rw [h3, h4]
  exact ⟨by omega, ts_next hT hn h6 (by omega) nm w L9⟩
theorem fl0 (fr q : Int32) : PX3_faulty fr q = (0, q, fr) := PX3_faulty_eq fr q
theorem in_eq (v lo hi : Int32) : PX7_in v lo hi = if lo.toInt ≤ v.toInt ∧ v.toInt ≤ hi.toInt then 1 else 0 := by
  rw [PX7_in_eq]
  by_cases h1 : v < lo
  · rw [if_pos h1, if_neg (by rw [fz_lt] at h1; omega)]
  · rw [if_neg h1]
    by_cases h2 : hi < v
    · rw [if_pos h2, if_neg (by rw [fz_lt] at h2; omega)]
    · rw [if_neg h2, if_pos (by rw [fz_lt] at h1 h2; omega)]
section NS
variable {T U : Nat → Int32} {n lo : Nat} {keys : Nat → Int64} {kd fr to : Int32} {x : Int64} {key wh at7 en tk w2 ns : Int32} {L : Nat → Int32}
theorem TS.frq (h : TS keys n lo kd fr to x key wh at7 en tk w2 ns L) : fr = at7 := by
  obtain ⟨a, b, h1, h2, -⟩ := h
  rw [h1, h2]
theorem TS.tok (h : TS keys n lo kd fr to x key wh at7 en tk w2 ns L) : ∃ a b : Nat, TokC keys a b kd key wh tk w2 ns x L := by
  obtain ⟨a, b, -, -, -, -, -, -, h⟩ := h
  exact ⟨a, b, h⟩
theorem TS.k2 (h : TS keys n lo kd fr to x key wh at7 en tk w2 ns L) : (kd = 2 ∧ tk = 3 ∧ wh = w2) ∨ (¬ kd = 2 ∧ ¬ tk = 3) := by
  obtain ⟨a, b, -, -, -, -, -, -, h⟩ := h
  rcases h with ⟨p, q, -⟩ | ⟨p, q, -⟩ | ⟨p, q, -⟩ | ⟨p, q, -, e⟩ | ⟨p, q, -⟩ | ⟨p, q, -⟩
  · exact Or.inr ⟨by rw [p]; decide, by rw [q]; decide⟩
  · exact Or.inr ⟨by rw [p]; decide, by rw [q]; decide⟩
  · exact Or.inr ⟨by rw [p]; decide, by rw [q]; decide⟩
  · exact Or.inl ⟨p, q, e⟩
  · exact Or.inr ⟨by rw [p]; decide, by rw [q]; decide⟩
  · exact Or.inr ⟨by rw [p]; decide, by rw [q]; decide⟩
/-- a whole number within bounds -/
theorem num_sim (h : TS keys n lo kd fr to x key wh at7 en tk w2 ns L) (hT : TR T U n) (hn : n ≤ 900) (lw hg fn fp fa pl : Int32) :
    (lw.toInt ≤ wh.toInt ∧ wh.toInt ≤ hg.toInt ∧ PX3_isWholeWithin fn fp kd fr wh lw hg = (1, fn, fp) ∧ ∃ (kd' fr' to' : Int32) (x' : Int64) (key' wh' at' en' tk' w2' ns' : Int32) (L' : Nat → Int32), NX T U keys n lo to en x wh L kd' fr' to' x' key' wh' at' en' tk' w2' ns' L' ∧ PX7_number U (nI n) at7 en tk w2 ns fa pl L 0 lw hg = (wh, at', en', tk', w2', ns', fa, pl, 0, L'))
    ∨ ∃ q : Int32, PX3_isWholeWithin fn fp kd fr wh lw hg = (0, q, at7) ∧ PX7_number U (nI n) at7 en tk w2 ns fa pl L 0 lw hg = (lw, at7, en, tk, w2, ns, q, at7, 1, L) := by
  have hfr := h.frq
  rw [PX3_isWholeWithin_eq, PX7_number_eq, if_pos rfl]
  rcases h.k2 with ⟨e1, e2, e3⟩ | ⟨e1, e2⟩
  · rw [if_pos e1, if_pos e2, in_eq]
    dsimp only [lt_]
    by_cases hb : lw.toInt ≤ w2.toInt ∧ w2.toInt ≤ hg.toInt
    · left
      obtain ⟨kd', fr', to', x', key', wh', at', en', tk', w2', ns', L', g⟩ := h.next hT hn x wh L
      refine ⟨by rw [e3]; exact hb.1, by rw [e3]; exact hb.2, ?_, kd', fr', to', x', key', wh', at', en', tk', w2', ns', L', g, ?_⟩
      · rw [if_neg (by rw [fz_lt, e3]; omega), if_pos (by rw [fz_le, e3]; omega)]
      · rw [if_pos hb, if_neg (show ¬ (1 : Int32) = 0 by decide), if_pos rfl, un6_eq g.2.1, e3]
    · right
      refine ⟨4, ?_, ?_⟩
      · by_cases h1 : wh < lw
        · rw [if_pos h1, fl0, hfr]; rfl
        · rw [if_neg h1, if_neg (by rw [fz_lt] at h1; rw [fz_le, e3]; rw [e3] at h1; omega), fl0, hfr]; rfl
      · rw [if_neg hb, if_pos rfl, wr0]; rfl
  · right
    refine ⟨1, ?_, ?_⟩
    · rw [if_neg e1, fl0, hfr]; rfl
    · rw [if_neg e2, wr0]; rfl
/-- a name that isn't told yet -/
theorem new_sim (hK : KwOk keys) (h : TS keys n lo kd fr to x key wh at7 en tk w2 ns L) (hT : TR T U n) (hn : n ≤ 900) {names : Nat → Int64} {fsh : Nat → Int32} {N : Nat} (hN : N ≤ 18) (hR : NamesR names fsh N) (fn fp fa pl fs : Int32) (fsr : Nat → Int32) :
    (PX3_isNewName fn fp kd fr x key names (nI N) = (1, fn, fp) ∧ (∃ len : Nat, 1 ≤ len ∧ len ≤ 8 ∧ ns = nI len ∧ Lets L len ∧ x = lcode L len) ∧ ∃ (kd' fr' to' : Int32) (x' : Int64) (key' wh' at' en' tk' w2' ns' : Int32) (L' : Nat → Int32), NX T U keys n lo to en x wh L kd' fr' to' x' key' wh' at' en' tk' w2' ns' L' ∧ PX7_newName U (nI n) at7 en tk w2 ns fa pl L 0 fsh fsr fs = (at', en', tk', w2', ns', fa, pl, 0, ns, L', cpF L fsr 0 0 8))
    ∨ ∃ q : Int32, PX3_isNewName fn fp kd fr x key names (nI N) = (0, q, at7) ∧ PX7_newName U (nI n) at7 en tk w2 ns fa pl L 0 fsh fsr fs = (at7, en, tk, w2, ns, q, at7, 1, fs, L, fsr) := by
  have hfr := h.frq
  obtain ⟨a, b, hC⟩ := h.tok
  rw [PX3_isNewName_eq, PX7_newName_eq, if_pos rfl, mn_eq hK hC]
  dsimp only [lt_]
  by_cases hq : kd = 1 ∧ PX3_isLineKey key = 0
  · obtain ⟨len, l1, l2, l3, l4, l5, -⟩ : ∃ len : Nat, 1 ≤ len ∧ len ≤ 8 ∧ ns = nI len ∧ Lets L len ∧ x = lcode L len ∧ KeyC keys x key := by
      have hk := hq.1
      rcases hC with ⟨p, -⟩ | ⟨p, -⟩ | ⟨-, -, q⟩ | ⟨p, -⟩ | ⟨p, -⟩ | ⟨p, -⟩
      · exact absurd (p.symm.trans hk) (by decide)
      · exact absurd (p.symm.trans hk) (by decide)
      · exact q
      · exact absurd (p.symm.trans hk) (by decide)
      · exact absurd (p.symm.trans hk) (by decide)
      · exact absurd (p.symm.trans hk) (by decide)
    have hf : PX7_find ns L fsh = PX3_toldNode x names (nI N) := by rw [l3]; exact find_eq hN hR l1 l2 l4 l5
    rw [if_pos hq.1, if_pos hq.2, if_pos hq]
    rcases told_num (names := names) (x := x) hN with g | ⟨j, g1, g2⟩
    · left
      obtain ⟨kd', fr', to', x', key', wh', at', en', tk', w2', ns', L', w⟩ := h.next hT hn x wh L
      refine ⟨?_, ⟨len, l1, l2, l3, l4, l5⟩, kd', fr', to', x', key', wh', at', en', tk', w2', ns', L', w, ?_⟩
      · rw [g, if_pos (show (-1 : Int32) < 0 by decide)]
      · rw [un3_eq (t := (fa, pl, 0)) rfl, if_pos rfl, hf, g, if_pos (show (-1 : Int32) < 0 by decide), if_pos rfl, un6_eq w.2.1]
        rfl
    · right
      refine ⟨3, ?_, ?_⟩
      · rw [g2, if_neg (nI_pos (by omega)), fl0, hfr]; rfl
      · rw [un3_eq (t := (fa, pl, 0)) rfl, if_pos rfl, hf, g2, if_neg (nI_pos (by omega)), wr0]; rfl
  · right
    rw [if_neg hq, un3_eq (t := (1, at7, 1)) rfl, if_neg (show ¬ (1 : Int32) = 0 by decide), if_neg (show ¬ (1 : Int32) = 0 by decide)]
    refine ⟨1, ?_, rfl⟩
    by_cases h1 : kd = 1
    · rw [if_pos h1, if_neg (fun h2 => hq ⟨h1, h2⟩), fl0, hfr]; rfl
    · rw [if_neg h1, fl0, hfr]; rfl
/-- a told name -/
theorem told_sim (hK : KwOk keys) (h : TS keys n lo kd fr to x key wh at7 en tk w2 ns L) {names : Nat → Int64} {fsh : Nat → Int32} {N : Nat} (hN : N ≤ 18) (hR : NamesR names fsh N) (fn fp fa pl : Int32) :
    (PX3_isToldName fn fp kd fr x key names (nI N) = (1, fn, fp) ∧ ∃ j : Nat, j < N ∧ PX3_toldNode x names (nI N) = nI j ∧ PX7_nodeHere at7 tk ns fa pl L 0 fsh = (nI j, fa, pl, 0))
    ∨ ∃ q : Int32, PX3_isToldName fn fp kd fr x key names (nI N) = (0, q, at7) ∧ PX7_nodeHere at7 tk ns fa pl L 0 fsh = (0, q, at7, 1) := by
  have hfr := h.frq
  obtain ⟨a, b, hC⟩ := h.tok
  rw [PX3_isToldName_eq, PX7_nodeHere_eq, if_pos rfl, mn_eq hK hC]
  dsimp only [lt_]
  by_cases hq : kd = 1 ∧ PX3_isLineKey key = 0
  · obtain ⟨len, l1, l2, l3, l4, l5, -⟩ : ∃ len : Nat, 1 ≤ len ∧ len ≤ 8 ∧ ns = nI len ∧ Lets L len ∧ x = lcode L len ∧ KeyC keys x key := by
      have hk := hq.1
      rcases hC with ⟨p, -⟩ | ⟨p, -⟩ | ⟨-, -, q⟩ | ⟨p, -⟩ | ⟨p, -⟩ | ⟨p, -⟩
      · exact absurd (p.symm.trans hk) (by decide)
      · exact absurd (p.symm.trans hk) (by decide)
      · exact q
      · exact absurd (p.symm.trans hk) (by decide)
      · exact absurd (p.symm.trans hk) (by decide)
      · exact absurd (p.symm.trans hk) (by decide)
    have hf : PX7_find ns L fsh = PX3_toldNode x names (nI N) := by rw [l3]; exact find_eq hN hR l1 l2 l4 l5
    rw [if_pos hq.1, if_pos hq.2, if_pos hq, un3_eq (t := (fa, pl, 0)) rfl, if_pos rfl, hf]
    rcases told_num (names := names) (x := x) hN with g | ⟨j, g1, g2⟩
    · right
      refine ⟨2, ?_, ?_⟩
      · rw [g, if_neg (show ¬ (0 : Int32) ≤ -1 by decide), fl0, hfr]; rfl
      · rw [g, if_neg (show ¬ (0 : Int32) ≤ -1 by decide), wr0]; rfl
    · left
      refine ⟨?_, j, g1, g2, ?_⟩
      · rw [g2, if_pos (nI_pos' (by omega))]
      · rw [g2, if_pos (nI_pos' (by omega)), if_pos rfl]
  · right
    rw [if_neg hq, un3_eq (t := (1, at7, 1)) rfl, if_neg (show ¬ (1 : Int32) = 0 by decide)]
    refine ⟨1, ?_, rfl⟩
    by_cases h1 : kd = 1
    · rw [if_pos h1, if_neg (fun h2 => hq ⟨h1, h2⟩), fl0, hfr]; rfl
    · rw [if_neg h1, fl0, hfr]; rfl
end NS
