section
/-! a word's line on both sides -/
def layF (fsh fsr : Nat → Int32) (fs kd : Int32) (N : Nat) : Nat → Int32 := fun j => if j = 1 then nI (N + 1) else if j = 9 + N then kd else if j = 125 + N then fs else if 143 + 8 * N ≤ j ∧ j < 143 + 8 * N + 8 then fsr (j - (143 + 8 * N)) else fsh j
theorem cl_143b {k : Nat} (hk : k < 18) : ((143 : Int32) + (8 : Int32) * nI k).toNatClampNeg = 143 + 8 * k := by
  have e1 : ((8 : Int32) * nI k).toInt = 8 * (k : Int) := by
    rw [fb_mulI (by rw [kc_8, nI_toInt (by omega)]; omega) (by rw [kc_8, nI_toInt (by omega)]; omega), kc_8, nI_toInt (by omega)]
  have h143 : (143 : Int32).toInt = 143 := by decide
  have e2 : ((143 : Int32) + (8 : Int32) * nI k).toInt = ((143 + 8 * k : Nat) : Int) := by
    rw [fb_addI (by rw [h143, e1]; omega) (by rw [h143, e1]; omega), h143, e1]
    omega
  have q := ti_cl e2 (by omega)
  omega
theorem eight_cl : (8 : Int32).toNatClampNeg = 8 := by decide
theorem two_cl : (2 : Int32).toNatClampNeg = 2 := by decide
theorem three_cl : (3 : Int32).toNatClampNeg = 3 := by decide
theorem lay_eq {fsh fsr : Nat → Int32} {fs kd : Int32} {N : Nat} (hN : N < 18) (h1 : fsh 1 = nI N) : PX7_lay 0 fsh fsr fs kd = layF fsh fsr fs kd N := by
  rw [PX7_lay_eq, if_pos rfl]
  dsimp only [lt_]
  rw [one_cl, h1, cl_143b hN, cl_125 hN, zero_cl, eight_cl, cl_add (c := 9) (by decide) (by omega)]
  have e : upd (upd (cpF fsr fsh 0 (143 + 8 * N) 8) (125 + N) fs) (9 + N) kd 1 = nI N := by
    rw [upd_ne (by omega), upd_ne (by omega)]
    show (if 143 + 8 * N ≤ 1 ∧ 1 < 143 + 8 * N + 8 then fsr (0 + (1 - (143 + 8 * N))) else fsh 1) = nI N
    rw [if_neg (by omega), h1]
  rw [e, nI_1]
  funext j
  show (if j = 1 then nI (N + 1) else if j = 9 + N then kd else if j = 125 + N then fs else if 143 + 8 * N ≤ j ∧ j < 143 + 8 * N + 8 then fsr (0 + (j - (143 + 8 * N))) else fsh j) = layF fsh fsr fs kd N j
  rw [Nat.zero_add]
  rfl
theorem layF_ne {fsh fsr : Nat → Int32} {fs kd : Int32} {N j : Nat} (h1 : ¬ j = 1) (h2 : ¬ j = 9 + N) (h3 : ¬ j = 125 + N) (h4 : j < 143 + 8 * N ∨ 143 + 8 * N + 8 ≤ j) : layF fsh fsr fs kd N j = fsh j := by
  show (if j = 1 then nI (N + 1) else if j = 9 + N then kd else if j = 125 + N then fs else if 143 + 8 * N ≤ j ∧ j < 143 + 8 * N + 8 then fsr (j - (143 + 8 * N)) else fsh j) = fsh j
  rw [if_neg h1, if_neg h2, if_neg h3, if_neg (by omega)]
theorem layF_kd {fsh fsr : Nat → Int32} {fs kd : Int32} {N : Nat} : layF fsh fsr fs kd N (9 + N) = kd := by
  show (if 9 + N = 1 then _ else if 9 + N = 9 + N then kd else _) = kd
  rw [if_neg (by omega), if_pos rfl]
theorem layF_sz {fsh fsr : Nat → Int32} {fs kd : Int32} {N : Nat} : layF fsh fsr fs kd N (125 + N) = fs := by
  show (if 125 + N = 1 then _ else if 125 + N = 9 + N then kd else if 125 + N = 125 + N then fs else _) = fs
  rw [if_neg (by omega), if_neg (by omega), if_pos rfl]
theorem layF_let {fsh fsr : Nat → Int32} {fs kd : Int32} {N i : Nat} (hN : N < 18) (hi : i < 8) : layF fsh fsr fs kd N (143 + 8 * N + i) = fsr i := by
  show (if 143 + 8 * N + i = 1 then _ else if 143 + 8 * N + i = 9 + N then kd else if 143 + 8 * N + i = 125 + N then fs else if 143 + 8 * N ≤ 143 + 8 * N + i ∧ 143 + 8 * N + i < 143 + 8 * N + 8 then fsr (143 + 8 * N + i - (143 + 8 * N)) else _) = fsr i
  rw [if_neg (by omega), if_neg (by omega), if_neg (by omega), if_pos (by omega), Nat.add_sub_cancel_left]
theorem layF_1 {fsh fsr : Nat → Int32} {fs kd : Int32} {N : Nat} : layF fsh fsr fs kd N 1 = nI (N + 1) := rfl
theorem updL_ne {f : Nat → Int64} {i j : Nat} {v : Int64} (h : ¬ j = i) : vp_updL f i v j = f j := if_neg h
theorem updL_at (f : Nat → Int64) (i : Nat) (v : Int64) : vp_updL f i v i = v := if_pos rfl
/-- one name more -/
theorem NamesR.lay {names : Nat → Int64} {fsh fsr L g : Nat → Int32} {fs kd : Int32} {N len : Nat} {x : Int64} (h : NamesR names fsh N) (hN : N < 18) (l1 : 1 ≤ len) (l2 : len ≤ 8) (l3 : fs = nI len) (l4 : Lets L len) (l5 : x = lcode L len) (hf : ∀ i : Nat, i < 8 → fsr i = L i) (hg : ∀ j : Nat, 125 ≤ j → g j = layF fsh fsr fs kd N j) : NamesR (vp_updL names N x) g (N + 1) := by
  refine ⟨fun k hk => ?_, fun k h1 h2 => ?_⟩
  · by_cases hkN : k = N
    · subst hkN
      refine ⟨len, l1, l2, by rw [hg _ (by omega), layF_sz]; exact l3, fun i hi => ?_, ?_⟩
      · show 97 ≤ (g (143 + 8 * k + i)).toInt ∧ (g (143 + 8 * k + i)).toInt ≤ 122
        rw [hg _ (by omega), layF_let hN (by omega), hf i (by omega)]
        exact l4 i hi
      · rw [updL_at, l5]
        exact lcode_congr (fun i hi => by rw [hg _ (by omega), layF_let hN (by omega), hf i (by omega)])
    · obtain ⟨m, m1, m2, m3, m4, m5⟩ := h.1 k (by omega)
      refine ⟨m, m1, m2, by rw [hg _ (by omega), layF_ne (by omega) (by omega) (by omega) (by omega)]; exact m3, fun i hi => ?_, ?_⟩
      · show 97 ≤ (g (143 + 8 * k + i)).toInt ∧ (g (143 + 8 * k + i)).toInt ≤ 122
        rw [hg _ (by omega), layF_ne (by omega) (by omega) (by omega) (by omega)]
        exact m4 i hi
      · rw [updL_ne hkN, m5]
        exact lcode_congr (fun i hi => by rw [hg _ (by omega), layF_ne (by omega) (by omega) (by omega) (by omega)])
  · rw [hg _ (by omega), layF_ne (by omega) (by omega) (by omega) (by omega)]
    exact h.2 k (by omega) h2
section WD
variable {T U : Nat → Int32} {n lo : Nat} {keys : Nat → Int64} {kd fr to : Int32} {x : Int64} {key wh at7 en tk w2 ns : Int32} {L : Nat → Int32}
theorem room_w {N W C : Nat} (hN : N < 18 ∨ 10 ≤ W) (hW : W ≤ 10) (h18 : N ≤ 18) : PX1_hasRoomFor (nI N) (nI W) (nI C) 0 = if W < 10 then 1 else 0 := by
  have k18 : (18 : Int32).toInt = 18 := by decide
  rw [PX1_hasRoomFor_eq]
  by_cases h1 : W < 10
  · rw [if_pos (show nI N < 18 by rw [fz_lt, k18, nI_toInt (by omega)]; omega), if_pos rfl, if_neg (show ¬ (10 : Int32) ≤ nI W by rw [fz_le, kc_10, nI_toInt (by omega)]; omega), if_pos h1]
  · by_cases h2 : nI N < (18 : Int32)
    · rw [if_pos h2, if_pos rfl, if_pos (show (10 : Int32) ≤ nI W by rw [fz_le, kc_10, nI_toInt (by omega)]; omega), if_neg h1]
    · rw [if_neg h2, if_neg h1]
theorem begin_w {N : Nat} (hN : N < 18) (kind parts ws tw steps below above : Nat → Int32) : ∃ (b8 : Nat → Int32), PX1_beginNode (nI N) kind parts ws tw steps below above 0 = (upd kind N 0, upd parts N 0, upd ws N 0, upd tw N 0, upd steps N 0, b8, upd above N 0) := by
  have k18 : (18 : Int32).toInt = 18 := by decide
  rw [PX1_beginNode_eq, if_neg (show ¬ (18 : Int32) ≤ nI N by rw [fz_le, k18, nI_toInt (by omega)]; omega)]
  dsimp only [lt_]
  rw [if_pos rfl, nI_clamp (by omega)]
  exact ⟨_, rfl⟩
theorem end_w {N W C : Nat} (hN : N < 18) {names : Nat → Int64} {unit : Int32} {kind ws tw : Nat → Int32} (hk : kind N = 0) (nm : Int64) (w : Int32) : PX3_endNode names (nI N) (nI W) (nI C) unit kind ws tw nm w = (vp_updL names N nm, nI (N + 1), nI (W + 1), nI C, unit, upd tw N w) := by
  have k18 : (18 : Int32).toInt = 18 := by decide
  have c : ¬ (18 : Int32) ≤ nI N := by rw [fz_le, k18, nI_toInt (by omega)]; omega
  rw [PX3_endNode_eq, if_neg c, PX1_endNode_eq, if_neg c]
  dsimp only [lt_]
  rw [nI_clamp (by omega), hk, if_pos rfl, if_neg (show ¬ (0 : Int32) = 3 by decide), nI_1, nI_1]
  rfl
/-- a word's line, once its first word is passed -/
theorem word_sim (hK : KwOk keys) (h : TS keys n lo kd fr to x key wh at7 en tk w2 ns L) (hT : TR T U n) (hn : n ≤ 900) {names : Nat → Int64} {told slips throne said : Int32} {N W C Q : Nat} {kind parts pn wt tw uw uo fsh rd fsr : Nat → Int32} (hH : HR N W C Q told (nI N) (nI W) (nI C) (nI Q) slips throne said fsh) (hKR : KR N kind parts pn wt tw fsh rd) (hUR : UR Q uw uo fsh) (hNR : NamesR names fsh N) (hW : W < 10) (ht : ¬ told = 0) (ws steps below above : Nat → Int32) (unit fn fp fa pl fs : Int32) {kd1 fr1 to1 : Int32} {x1 : Int64} {key1 wh1 at1 en1 tk1 w1 ns1 : Int32} {L1 : Nat → Int32} (g1 : PX3_nextToken T (nI n) to x wh keys = (kd1, fr1, to1, x1, key1, wh1)) (g3 : TS keys n lo kd1 fr1 to1 x1 key1 wh1 at1 en1 tk1 w1 ns1 L1) :
    (∃ (kd8 fr8 to8 : Int32) (x8 : Int64) (key8 wh8 at8 en8 tk8 w8 ns8 f8 : Int32) (L8 sr8 : Nat → Int32) (nm8 : Nat → Int64) (k8 p8 s8 t8 e8 b8 a8 F8 R8 : Nat → Int32), TS keys n lo kd8 fr8 to8 x8 key8 wh8 at8 en8 tk8 w8 ns8 L8 ∧ SR nm8 told (nI (N + 1)) (nI (W + 1)) (nI C) (nI Q) slips throne said k8 p8 pn wt t8 uw uo F8 R8 ∧ PX3_readWord fn fp T (nI n) kd fr to x key wh names keys (nI N) (nI W) (nI C) unit kind parts ws tw steps below above = (1, fn, fp, kd8, fr8, to8, x8, key8, wh8, nm8, nI (N + 1), nI (W + 1), nI C, unit, k8, p8, s8, t8, e8, b8, a8) ∧ PX7_wordLine U (nI n) at1 en1 tk1 w1 ns1 fa pl L1 0 fsh rd fsr fs = (at8, en8, tk8, w8, ns8, fa, pl, 0, f8, L8, F8, R8, sr8))
    ∨ ∃ (q z c1 c2 c3 : Int32) (c4 : Int64) (c5 c6 : Int32) (m1 : Nat → Int64) (c7 c8 c9 e1 : Int32) (m2 m3 m4 m5 m6 m7 m8 : Nat → Int32) (d1 d2 d3 d4 d5 d6 : Int32) (M F R S : Nat → Int32), PX3_readWord fn fp T (nI n) kd fr to x key wh names keys (nI N) (nI W) (nI C) unit kind parts ws tw steps below above = (0, q, z, c1, c2, c3, c4, c5, c6, m1, c7, c8, c9, e1, m2, m3, m4, m5, m6, m7, m8) ∧ PX7_wordLine U (nI n) at1 en1 tk1 w1 ns1 fa pl L1 0 fsh rd fsr fs = (d1, d2, d3, d4, d5, q, z, 1, d6, M, F, R, S) := by
  have hN18 := hH.N18
  obtain ⟨a1, a2, a3, a4, a5, a6, a7, a8, a9, b1, b2, b3, b4, b5, b6, b7, b8, b9, c1, c2, c3, c4, c5, c6⟩ := id hH
  have hN : N < 18 := by omega
  obtain ⟨bl, hbg⟩ := begin_w hN kind parts ws tw steps below above
  rw [PX3_readWord_eq, room_w (Or.inl hN) (by omega) hN18, if_pos hW, PX7_wordLine_eq, if_pos rfl]
  dsimp only [lt_]
  rw [if_pos rfl, un7_eq hbg, un6_eq g1]
  rcases new_sim hK g3 hT hn hN18 hNR fn fp fa pl fs fsr with ⟨e1, ⟨len, l1, l2, l3, l4, l5⟩, kd2, fr2, to2, x2, key2, wh2, at9, en9, tk9, w9, ns9, L9, ⟨k1, k2, k3, -⟩, e2⟩ | ⟨q, e1, e2⟩
  · rw [un3_eq e1, if_neg (show ¬ (1 : Int32) = 0 by decide), un6_eq k1, un11_eq e2]
    rcases after_9 hK k3 hT hn 0 99 fn fp fa pl with ⟨kd4, fr4, to4, x4, key4, wh4, kd5, fr5, to5, x5, key5, wh5, at8, en8, tk8, w8, ns8, L8, p1, p2, p3, p4, p5, p6, p7, p8⟩ | ⟨p1, p2⟩ | ⟨kd4, fr4, to4, x4, key4, wh4, q, z, at8, en8, tk8, w8, ns8, L8, p1, p2, p3, p4⟩
    · left
      rw [if_pos (show key2 = 9 from p1), un6_eq p2, un3_eq p3, if_neg (show ¬ (1 : Int32) = 0 by decide), end_w hN (upd_at _ _ _), un6_eq rfl, un6_eq p6, un10_eq p8, if_pos rfl, one_cl, b1, cl_add (c := 72) (by decide) (by omega), lay_eq hN b1, two_cl, layF_ne (by decide) (by omega) (by omega) (by omega), b2, nI_1]
      refine ⟨kd5, fr5, to5, x5, key5, wh5, at8, en8, tk8, w8, ns8, ns1, L8, cpF L1 fsr 0 0 8, vp_updL names N x1, upd kind N 0, upd parts N 0, upd ws N 0, upd (upd tw N 0) N wh4, upd steps N 0, bl, upd above N 0, upd (layF fsh (cpF L1 fsr 0 0 8) ns1 0 N) 2 (nI (W + 1)), upd rd (72 + N) wh4, p7, ⟨N + 1, W + 1, C, Q, ⟨rfl, rfl, rfl, rfl, by omega, by omega, by omega, a8, a9, ?_, upd_at _ _ _, ?_, ?_, ?_, b6, ?_, ?_, ?_, ?_, c2, by omega, c4, c5, fun q => absurd q ht⟩, ⟨fun k hk => ?_, fun k h1 h2 => ?_⟩, fun j hj => ?_, ?_⟩, rfl, rfl⟩
      · rw [upd_ne (by decide), layF_1]
      · rw [upd_ne (by decide), layF_ne (by decide) (by omega) (by omega) (by omega), show N + 1 - (W + 1) = N - W from by omega]; exact b3
      · rw [upd_ne (by decide), layF_ne (by decide) (by omega) (by omega) (by omega)]; exact b4
      · rw [upd_ne (by decide), layF_ne (by decide) (by omega) (by omega) (by omega)]; exact b5
      · rw [upd_ne (by decide), layF_ne (by decide) (by omega) (by omega) (by omega)]; exact b7
      · rw [upd_ne (by decide), layF_ne (by decide) (by omega) (by omega) (by omega)]; exact b8
      · rw [upd_ne (by decide), layF_ne (by decide) (by omega) (by omega) (by omega)]; exact b9
      · rw [upd_ne (by decide), layF_ne (by decide) (by omega) (by omega) (by omega)]; exact c1
      · by_cases hkN : k = N
        · subst hkN
          have q0 := (hKR.2 k (Nat.le_refl _) hN).1
          rw [upd_ne (show ¬ 9 + k = 2 by omega), layF_kd, upd_ne (show ¬ 27 + k = 2 by omega), layF_ne (by omega) (by omega) (by omega) (by omega), q0, upd_at, upd_at, upd_at, upd_at]
          exact ⟨rfl, rfl, rfl, by decide, by decide, fun i hi => absurd hi (by rw [kc_0]; omega)⟩
        · obtain ⟨r1, r2, r3, r4, r5, r6⟩ := hKR.1 k (by omega)
          rw [upd_ne (show ¬ 9 + k = 2 by omega), layF_ne (by omega) (by omega) (by omega) (by omega), upd_ne (show ¬ 27 + k = 2 by omega), layF_ne (by omega) (by omega) (by omega) (by omega), upd_ne hkN, upd_ne hkN, upd_ne hkN, upd_ne hkN, upd_ne (show ¬ 72 + k = 72 + N by omega)]
          refine ⟨r1, r2, r3, r4, r5, fun i hi => ?_⟩
          rw [upd_ne (show ¬ 4 * k + i = 72 + N by omega), upd_ne (show ¬ 45 + 4 * k + i = 2 by omega), layF_ne (by omega) (by omega) (by omega) (by omega)]
          exact r6 i hi
      · obtain ⟨r1, r2⟩ := hKR.2 k (by omega) h2
        rw [upd_ne (show ¬ 27 + k = 2 by omega), layF_ne (by omega) (by omega) (by omega) (by omega), upd_ne (show ¬ 72 + k = 72 + N by omega)]
        exact ⟨r1, r2⟩
      · rw [upd_ne (show ¬ 117 + 2 * j = 2 by omega), layF_ne (by omega) (by omega) (by omega) (by omega), upd_ne (show ¬ 118 + 2 * j = 2 by omega), layF_ne (by omega) (by omega) (by omega) (by omega)]
        exact hUR j hj
      · exact hNR.lay hN l1 l2 l3 l4 l5 (fun i hi => by
          show (if 0 ≤ i ∧ i < 0 + 8 then L1 (0 + (i - 0)) else fsr i) = L1 i
          rw [if_pos (by omega), Nat.zero_add, Nat.sub_zero]) (fun j hj => upd_ne (by omega))
    · right
      rw [if_neg (show ¬ key2 = 9 from p1), fl0, un3_eq rfl, un10_eq p2, if_neg (show ¬ (1 : Int32) = 0 by decide), k3.frq]
      exact ⟨_, _, _, _, _, _, _, _, _, _, _, _, _, _, _, _, _, _, _, _, _, _, _, _, _, _, _, _, _, _, rfl, rfl⟩
    · right
      rw [if_pos (show key2 = 9 from p1), un6_eq p2, un3_eq p3, if_pos rfl, un10_eq p4, if_neg (show ¬ (1 : Int32) = 0 by decide)]
      exact ⟨_, _, _, _, _, _, _, _, _, _, _, _, _, _, _, _, _, _, _, _, _, _, _, _, _, _, _, _, _, _, rfl, rfl⟩
  · right
    rw [un3_eq e1, if_pos rfl, un11_eq e2]
    have af : PX7_after U (nI n) at1 en1 tk1 w1 ns1 q at1 L1 1 0 99 5 (fun j => ([119, 111, 114, 116, 104] : List Int32).getD j 0) = (0, at1, en1, tk1, w1, ns1, q, at1, 1, L1) := by
      rw [PX7_after_eq, PX7_must_eq, if_neg (show ¬ (1 : Int32) = 0 by decide), un9_eq rfl, num_f (by decide), un10_eq rfl]
    rw [un10_eq af, if_neg (show ¬ (1 : Int32) = 0 by decide)]
    exact ⟨_, _, _, _, _, _, _, _, _, _, _, _, _, _, _, _, _, _, _, _, _, _, _, _, _, _, _, _, _, _, rfl, rfl⟩
end WD
end
section
/-! a line of a word of which nobody is sure -/
section UN
variable {T U : Nat → Int32} {n lo : Nat} {keys : Nat → Int64} {kd fr to : Int32} {x : Int64} {key wh at7 en tk w2 ns : Int32} {L : Nat → Int32}
theorem mul2 {k : Nat} (hk : k < 1000) : ((2 : Int32) * nI k).toInt = 2 * (k : Int) := by
  rw [fb_mulI (by rw [kc_2, nI_toInt (by omega)]; omega) (by rw [kc_2, nI_toInt (by omega)]; omega), kc_2, nI_toInt (by omega)]
theorem i117 {k : Nat} (hk : k < 8) : ((117 : Int32) + (2 : Int32) * nI k).toInt = ((117 + 2 * k : Nat) : Int) := by
  have h117 : (117 : Int32).toInt = 117 := by decide
  rw [fb_addI (by rw [h117, mul2 (by omega)]; omega) (by rw [h117, mul2 (by omega)]; omega), h117, mul2 (by omega)]
  omega
theorem cl_117 {k : Nat} (hk : k < 8) : ((117 : Int32) + (2 : Int32) * nI k).toNatClampNeg = 117 + 2 * k := by
  have q := ti_cl (i117 hk) (by omega)
  omega
theorem cl_118 {k : Nat} (hk : k < 8) : ((117 : Int32) + (2 : Int32) * nI k + 1).toNatClampNeg = 118 + 2 * k := by
  have e : ((117 : Int32) + (2 : Int32) * nI k + 1).toInt = ((118 + 2 * k : Nat) : Int) := by
    rw [fb_addI (by rw [i117 hk, kc_1]; omega) (by rw [i117 hk, kc_1]; omega), i117 hk, kc_1]
    omega
  have q := ti_cl e (by omega)
  omega
theorem isU {Q : Nat} {uw : Nat → Int32} {v : Int32} (hQ : Q ≤ 4) : ∀ (m k f : Nat), Q - k = m → k ≤ Q → m < f → ((∃ i : Nat, k ≤ i ∧ i < Q ∧ uw i = v) → HX1_isUnsure_0 (nI Q) uw v f (nI k) = 1) ∧ ((¬ ∃ i : Nat, k ≤ i ∧ i < Q ∧ uw i = v) → HX1_isUnsure_0 (nI Q) uw v f (nI k) = 0) := by
  intro m
  induction m with
  | zero =>
    intro k f hm hk hf
    obtain ⟨f, rfl⟩ : ∃ g, f = g + 1 := ⟨f - 1, by omega⟩
    rw [HX1_isUnsure_0_eq, if_pos (nI_le (by omega) (by omega))]
    exact ⟨fun ⟨i, h1, h2, _⟩ => absurd h2 (by omega), fun _ => rfl⟩
  | succ m ih =>
    intro k f hm hk hf
    obtain ⟨f, rfl⟩ : ∃ g, f = g + 1 := ⟨f - 1, by omega⟩
    rw [HX1_isUnsure_0_eq, if_neg (by rw [nI_leI (by omega) (by omega)]; omega)]
    dsimp only [lt_]
    rw [nI_clamp (by omega), nI_o1]
    by_cases h : uw k = v
    · rw [if_pos h]
      exact ⟨fun _ => rfl, fun q => absurd ⟨k, Nat.le_refl _, by omega, h⟩ q⟩
    · rw [if_neg h]
      obtain ⟨g1, g2⟩ := ih (k + 1) f (by omega) (by omega) (by omega)
      refine ⟨fun ⟨i, h1, h2, h3⟩ => g1 ⟨i, ?_, h2, h3⟩, fun q => g2 (fun ⟨i, h1, h2, h3⟩ => q ⟨i, by omega, h2, h3⟩)⟩
      rcases Nat.lt_or_ge k i with c | c
      · exact c
      · exact absurd ((show i = k by omega) ▸ h3) h
theorem isU_eq {Q : Nat} {uw : Nat → Int32} {v : Int32} (hQ : Q ≤ 4) : ((∃ i : Nat, i < Q ∧ uw i = v) → PX1_isUnsure (nI Q) uw v = 1) ∧ ((¬ ∃ i : Nat, i < Q ∧ uw i = v) → PX1_isUnsure (nI Q) uw v = 0) := by
  rw [PX1_isUnsure_eq]
  obtain ⟨g1, g2⟩ := isU (uw := uw) (v := v) hQ Q 0 ((2147483647 - (0 : Int32).toInt).toNat + 1) rfl (by omega) (by rw [kc_0]; omega)
  rw [nI_0] at g1 g2
  exact ⟨fun ⟨i, h1, h2⟩ => g1 ⟨i, Nat.zero_le _, h1, h2⟩, fun q => g2 (fun ⟨i, _, h1, h2⟩ => q ⟨i, h1, h2⟩)⟩
theorem un_f {fsh : Nat → Int32} {Q : Nat} (hQ : Q ≤ 4) (h3 : fsh 3 = nI Q) {i0 v q z : Int32} : ∀ (m k f : Nat), Q - k = m → k ≤ Q → m < f → HX7_unsureLine_0 U (nI n) at7 en tk w2 ns L fsh i0 v f (nI k) 1 q z = (at7, en, tk, w2, ns, q, z, 1, L, fsh) := by
  intro m
  induction m with
  | zero =>
    intro k f hm hk hf
    obtain ⟨f, rfl⟩ : ∃ g, f = g + 1 := ⟨f - 1, by omega⟩
    rw [HX7_unsureLine_0_eq]
    dsimp only [lt_]
    rw [three_cl, h3, if_pos (nI_le (by omega) (by omega)), pass0 (by decide), un6_eq rfl, num_f (by decide), un10_eq rfl, if_neg (show ¬ (1 : Int32) = 0 by decide)]
  | succ m ih =>
    intro k f hm hk hf
    obtain ⟨f, rfl⟩ : ∃ g, f = g + 1 := ⟨f - 1, by omega⟩
    rw [HX7_unsureLine_0_eq]
    dsimp only [lt_]
    rw [three_cl, h3, if_neg (by rw [nI_leI (by omega) (by omega)]; omega), if_neg (show ¬ (1 : Int32) = 0 by decide), nI_o1]
    exact ih (k + 1) f (by omega) (by omega) (by omega)
theorem un_f1 {fsh : Nat → Int32} {Q : Nat} (hQ : Q ≤ 4) (h3 : fsh 3 = nI Q) {q z : Int32} : ∀ (m k f : Nat), Q - k = m → k ≤ Q → m < f → HX7_unsureLine_1 U (nI n) at7 en tk w2 ns L fsh f (nI k) 1 q z = (at7, en, tk, w2, ns, q, z, 1, L, fsh) := by
  intro m
  induction m with
  | zero =>
    intro k f hm hk hf
    obtain ⟨f, rfl⟩ : ∃ g, f = g + 1 := ⟨f - 1, by omega⟩
    rw [HX7_unsureLine_1_eq]
    dsimp only [lt_]
    rw [three_cl, h3, if_pos (nI_le (by omega) (by omega)), pass0 (by decide), un6_eq rfl, num_f (by decide), un10_eq rfl, if_neg (show ¬ (1 : Int32) = 0 by decide)]
  | succ m ih =>
    intro k f hm hk hf
    obtain ⟨f, rfl⟩ : ∃ g, f = g + 1 := ⟨f - 1, by omega⟩
    rw [HX7_unsureLine_1_eq]
    dsimp only [lt_]
    rw [three_cl, h3, if_neg (by rw [nI_leI (by omega) (by omega)]; omega), if_neg (show ¬ (1 : Int32) = 0 by decide), nI_o1]
    exact ih (k + 1) f (by omega) (by omega) (by omega)
theorem un_loop {fsh : Nat → Int32} {Q : Nat} (hQ : Q ≤ 4) (h3 : fsh 3 = nI Q) {i0 v fa pl : Int32} : ∀ (m k f : Nat), Q - k = m → k ≤ Q → m < f → ((∃ i : Nat, k ≤ i ∧ i < Q ∧ fsh (117 + 2 * i) = v) → HX7_unsureLine_0 U (nI n) at7 en tk w2 ns L fsh i0 v f (nI k) 0 fa pl = (at7, en, tk, w2, ns, 3, at7, 1, L, fsh)) ∧ ((¬ ∃ i : Nat, k ≤ i ∧ i < Q ∧ fsh (117 + 2 * i) = v) → ∃ g : Nat, HX7_unsureLine_0 U (nI n) at7 en tk w2 ns L fsh i0 v f (nI k) 0 fa pl = HX7_unsureLine_0 U (nI n) at7 en tk w2 ns L fsh i0 v (g + 1) (nI Q) 0 fa pl) := by
  intro m
  induction m with
  | zero =>
    intro k f hm hk hf
    obtain ⟨f, rfl⟩ : ∃ g, f = g + 1 := ⟨f - 1, by omega⟩
    obtain rfl : k = Q := by omega
    exact ⟨fun ⟨i, h1, h2, _⟩ => absurd h2 (by omega), fun _ => ⟨f, rfl⟩⟩
  | succ m ih =>
    intro k f hm hk hf
    obtain ⟨f, rfl⟩ : ∃ g, f = g + 1 := ⟨f - 1, by omega⟩
    have hst : HX7_unsureLine_0 U (nI n) at7 en tk w2 ns L fsh i0 v (f + 1) (nI k) 0 fa pl = if fsh (117 + 2 * k) = v then HX7_unsureLine_0 U (nI n) at7 en tk w2 ns L fsh i0 v f (nI (k + 1)) 1 3 at7 else HX7_unsureLine_0 U (nI n) at7 en tk w2 ns L fsh i0 v f (nI (k + 1)) 0 fa pl := by
      rw [HX7_unsureLine_0_eq]
      dsimp only [lt_]
      rw [three_cl, h3, if_neg (by rw [nI_leI (by omega) (by omega)]; omega), if_pos rfl, nI_o1, cl_117 (by omega), wr0, un3_eq rfl]
    obtain ⟨g1, g2⟩ := ih (k + 1) f (by omega) (by omega) (by omega)
    by_cases h : fsh (117 + 2 * k) = v
    · rw [if_pos h] at hst
      clear g1 g2
      have hkQ : k < Q := by omega
      have hh := hst.trans (un_f hQ h3 m (k + 1) f (by omega) (by omega) (by omega))
      refine ⟨fun _ => hh, fun q => absurd ⟨k, Nat.le_refl _, hkQ, h⟩ q⟩
    · rw [if_neg h] at hst
      refine ⟨fun ⟨i, h1, h2, h3⟩ => hst.trans (g1 ⟨i, ?_, h2, h3⟩), fun q => ?_⟩
      · rcases Nat.lt_or_ge k i with c | c
        · exact c
        · exact absurd ((show i = k by omega) ▸ h3) h
      · obtain ⟨g, hg⟩ := g2 (fun ⟨i, h1, h2, h3⟩ => q ⟨i, by omega, h2, h3⟩)
        exact ⟨g, hst.trans hg⟩
theorem hasW {N j : Nat} (hN : N ≤ 18) (hj : j < N) (kind : Nat → Int32) : PX1_hasWord (nI N) kind (nI j) = if kind j = 0 then 1 else 0 := by
  rw [PX1_hasWord_eq, PX1_hasNode_eq]
  dsimp only [lt_]
  rw [if_neg (nI_pos (by omega)), if_neg (show ¬ nI N ≤ nI j by rw [nI_leI (by omega) (by omega)]; omega), if_pos rfl, nI_clamp (by omega)]
/-- the line, once its first word is passed -/
theorem unsure_sim (hK : KwOk keys) (h : TS keys n lo kd fr to x key wh at7 en tk w2 ns L) (hT : TR T U n) (hn : n ≤ 900) {names : Nat → Int64} {told slips throne said : Int32} {N W C Q : Nat} {kind parts pn wt tw uw uo fsh rd : Nat → Int32} (hH : HR N W C Q told (nI N) (nI W) (nI C) (nI Q) slips throne said fsh) (hKR : KR N kind parts pn wt tw fsh rd) (hUR : UR Q uw uo fsh) (hNR : NamesR names fsh N) (hQ : Q < 4) (ht : ¬ told = 0) (fn fp fa pl : Int32) {kd1 fr1 to1 : Int32} {x1 : Int64} {key1 wh1 at1 en1 tk1 w1 ns1 : Int32} {L1 : Nat → Int32} (g1 : PX3_nextToken T (nI n) to x wh keys = (kd1, fr1, to1, x1, key1, wh1)) (g3 : TS keys n lo kd1 fr1 to1 x1 key1 wh1 at1 en1 tk1 w1 ns1 L1) :
    (∃ (kd8 fr8 to8 : Int32) (x8 : Int64) (key8 wh8 at8 en8 tk8 w8 ns8 : Int32) (L8 u8 o8 F8 : Nat → Int32), TS keys n lo kd8 fr8 to8 x8 key8 wh8 at8 en8 tk8 w8 ns8 L8 ∧ SR names told (nI N) (nI W) (nI C) (nI (Q + 1)) slips throne said kind parts pn wt tw u8 o8 F8 rd ∧ PX3_readUnsure fn fp T (nI n) kd fr to x key wh names keys (nI N) (nI Q) kind uw uo = (1, fn, fp, kd8, fr8, to8, x8, key8, wh8, nI (Q + 1), u8, o8) ∧ PX7_unsureLine U (nI n) at1 en1 tk1 w1 ns1 fa pl L1 0 fsh = (at8, en8, tk8, w8, ns8, fa, pl, 0, L8, F8))
    ∨ ∃ (q z c1 c2 c3 : Int32) (c4 : Int64) (c5 c6 c7 : Int32) (m1 m2 : Nat → Int32) (d1 d2 d3 d4 d5 : Int32) (M F : Nat → Int32), PX3_readUnsure fn fp T (nI n) kd fr to x key wh names keys (nI N) (nI Q) kind uw uo = (0, q, z, c1, c2, c3, c4, c5, c6, c7, m1, m2) ∧ PX7_unsureLine U (nI n) at1 en1 tk1 w1 ns1 fa pl L1 0 fsh = (d1, d2, d3, d4, d5, q, z, 1, M, F) := by
  have hN18 := hH.N18
  obtain ⟨a1, a2, a3, a4, a5, a6, a7, a8, a9, b1, b2, b3, b4, b5, b6, b7, b8, b9, c1, c2, c3, c4, c5, c6⟩ := id hH
  have k4 : (4 : Int32).toInt = 4 := by decide
  have hfu : Q < (4 - (0 : Int32).toInt).toNat + 1 := by rw [kc_0]; omega
  rw [PX3_readUnsure_eq, if_pos (show nI Q < 4 by rw [fz_lt, k4, nI_toInt (by omega)]; omega), un6_eq g1, PX7_unsureLine_eq, if_pos rfl]
  dsimp only [lt_]
  rw [three_cl, b5]
  rcases told_sim hK g3 hN18 hNR fn fp fa pl with ⟨e1, j, e2, e3, e4⟩ | ⟨q, e1, e2⟩
  · rw [un3_eq e1, if_neg (show ¬ (1 : Int32) = 0 by decide), e3, hasW hN18 e2, un4_eq e4, if_pos rfl, cl_add (c := 9) (by decide) (by omega)]
    have ek := (hKR.1 j e2).1
    rw [← ek]
    by_cases hk : kind j = 0
    · rw [if_pos hk, if_pos rfl, if_pos hk]
      have hu : (∃ i : Nat, i < Q ∧ uw i = nI j) ↔ ∃ i : Nat, 0 ≤ i ∧ i < Q ∧ fsh (117 + 2 * i) = nI j := by
        constructor
        · rintro ⟨i, i1, i2⟩
          exact ⟨i, Nat.zero_le _, i1, by rw [← (hUR i i1).1]; exact i2⟩
        · rintro ⟨i, -, i1, i2⟩
          exact ⟨i, i1, by rw [(hUR i i1).1]; exact i2⟩
      obtain ⟨v1, v2⟩ := un_loop (U := U) (n := n) (at7 := at1) (en := en1) (tk := tk1) (w2 := w1) (ns := ns1) (L := L1) (fsh := fsh) (i0 := 117 + 2 * nI Q) (v := nI j) (fa := fa) (pl := pl) (by omega) b5 Q 0 ((4 - (0 : Int32).toInt).toNat + 1) rfl (by omega) hfu
      rw [nI_0] at v1 v2
      by_cases hx : ∃ i : Nat, i < Q ∧ uw i = nI j
      · right
        rw [(isU_eq (by omega)).1 hx, if_neg (show ¬ (1 : Int32) = 0 by decide), fl0, un3_eq rfl, v1 (hu.mp hx), g3.frq]
        exact ⟨_, _, _, _, _, _, _, _, _, _, _, _, _, _, _, _, _, _, rfl, rfl⟩
      · rw [(isU_eq (by omega)).2 hx, if_pos rfl]
        obtain ⟨g, hg⟩ := v2 (fun q => hx (hu.mpr q))
        obtain ⟨kd2, fr2, to2, x2, key2, wh2, at2, en2, tk2, w3, ns2, L2, k1, k2, k3, -⟩ := g3.next hT hn x1 wh1 L1
        rw [un6_eq k1, hg, HX7_unsureLine_0_eq]
        dsimp only [lt_]
        rw [three_cl, b5, if_pos (nI_le (Nat.le_refl _) (by omega)), pass1 k2, un6_eq rfl]
        rcases num_sim k3 hT hn 0 99 fn fp fa pl with ⟨q1, q2, q3, kd4, fr4, to4, x4, key4, wh4, at9, en9, tk9, w9, ns9, L9, ⟨r1, r2, r3, -⟩, r4⟩ | ⟨q, r1, r2⟩
        · left
          have hadd : PX1_addUnsure (nI Q) uw uo (nI j) wh2 = (nI (Q + 1), upd uw Q (nI j), upd uo Q wh2) := by
            rw [PX1_addUnsure_eq, if_neg (show ¬ (4 : Int32) ≤ nI Q by rw [fz_le, k4, nI_toInt (by omega)]; omega)]
            dsimp only [lt_]
            rw [nI_clamp (by omega), nI_1]
          have hq3 : upd (upd fsh (117 + 2 * Q) (nI j)) (118 + 2 * Q) wh2 3 = nI Q := by rw [upd_ne (by omega), upd_ne (by omega)]; exact b5
          rw [un3_eq q3, if_neg (show ¬ (1 : Int32) = 0 by decide), un3_eq hadd, un6_eq r1, un10_eq r4, if_pos rfl, cl_117 (by omega), cl_118 (by omega), hq3, nI_1]
          refine ⟨kd4, fr4, to4, x4, key4, wh4, at9, en9, tk9, w9, ns9, L9, upd uw Q (nI j), upd uo Q wh2, upd (upd (upd fsh (117 + 2 * Q) (nI j)) (118 + 2 * Q) wh2) 3 (nI (Q + 1)), r3, ⟨N, W, C, Q + 1, ⟨rfl, rfl, rfl, rfl, a5, a6, a7, a8, by omega, ?_, ?_, ?_, ?_, upd_at _ _ _, b6, ?_, ?_, ?_, ?_, c2, c3, c4, c5, fun q => absurd q ht⟩, hKR.congr hN18 (fun i z1 z2 => by rw [upd_ne (by omega), upd_ne (by omega), upd_ne (by omega)]), fun i hi => ?_, hNR.congr hN18 (fun i z1 z2 => by rw [upd_ne (by omega), upd_ne (by omega), upd_ne (by omega)])⟩, rfl, rfl⟩
          · rw [upd_ne (by omega), upd_ne (by omega), upd_ne (by omega)]; exact b1
          · rw [upd_ne (by omega), upd_ne (by omega), upd_ne (by omega)]; exact b2
          · rw [upd_ne (by omega), upd_ne (by omega), upd_ne (by omega)]; exact b3
          · rw [upd_ne (by omega), upd_ne (by omega), upd_ne (by omega)]; exact b4
          · rw [upd_ne (by omega), upd_ne (by omega), upd_ne (by omega)]; exact b7
          · rw [upd_ne (by omega), upd_ne (by omega), upd_ne (by omega)]; exact b8
          · rw [upd_ne (by omega), upd_ne (by omega), upd_ne (by omega)]; exact b9
          · rw [upd_ne (by omega), upd_ne (by omega), upd_ne (by omega)]; exact c1
          · by_cases hiQ : i = Q
            · subst hiQ
              rw [upd_at, upd_at, upd_ne (show ¬ 117 + 2 * i = 3 by omega), upd_ne (show ¬ 117 + 2 * i = 118 + 2 * i by omega), upd_at, upd_ne (show ¬ 118 + 2 * i = 3 by omega), upd_at]
              exact ⟨rfl, rfl⟩
            · rw [upd_ne hiQ, upd_ne hiQ, upd_ne (show ¬ 117 + 2 * i = 3 by omega), upd_ne (show ¬ 117 + 2 * i = 118 + 2 * Q by omega), upd_ne (show ¬ 117 + 2 * i = 117 + 2 * Q by omega), upd_ne (show ¬ 118 + 2 * i = 3 by omega), upd_ne (show ¬ 118 + 2 * i = 118 + 2 * Q by omega), upd_ne (show ¬ 118 + 2 * i = 117 + 2 * Q by omega)]
              exact hUR i (by omega)
        · right
          rw [un3_eq r1, if_pos rfl, un10_eq r2, if_neg (show ¬ (1 : Int32) = 0 by decide)]
          exact ⟨_, _, _, _, _, _, _, _, _, _, _, _, _, _, _, _, _, _, rfl, rfl⟩
    · right
      have u1 := un_f1 (U := U) (n := n) (at7 := at1) (en := en1) (tk := tk1) (w2 := w1) (ns := ns1) (L := L1) (fsh := fsh) (q := 2) (z := at1) (show Q ≤ 4 by omega) b5 Q 0 ((4 - (0 : Int32).toInt).toNat + 1) rfl (by omega) hfu
      rw [nI_0] at u1
      rw [if_neg hk, if_neg (show ¬ (0 : Int32) = 1 by decide), fl0, un3_eq rfl, if_neg hk, wr0, un3_eq rfl, u1, g3.frq]
      exact ⟨_, _, _, _, _, _, _, _, _, _, _, _, _, _, _, _, _, _, rfl, rfl⟩
  · right
    have u1 := un_f1 (U := U) (n := n) (at7 := at1) (en := en1) (tk := tk1) (w2 := w1) (ns := ns1) (L := L1) (fsh := fsh) (q := q) (z := at1) (show Q ≤ 4 by omega) b5 Q 0 ((4 - (0 : Int32).toInt).toNat + 1) rfl (by omega) hfu
    rw [nI_0] at u1
    rw [un3_eq e1, if_pos rfl, un4_eq e2, if_neg (show ¬ (1 : Int32) = 0 by decide), u1]
    exact ⟨_, _, _, _, _, _, _, _, _, _, _, _, _, _, _, _, _, _, rfl, rfl⟩
end UN
end
section
/-! one part of a counsel on both sides -/
section PT
variable {T U : Nat → Int32} {n lo : Nat} {keys : Nat → Int64} {kd fr to : Int32} {x : Int64} {key wh at7 en tk w2 ns : Int32} {L : Nat → Int32}
theorem mul4 {k : Nat} (hk : k < 1000) : (nI k * (4 : Int32)).toInt = ((4 * k : Nat) : Int) := by
  rw [fb_mulI (by rw [kc_4, nI_toInt (by omega)]; omega) (by rw [kc_4, nI_toInt (by omega)]; omega), kc_4, nI_toInt (by omega)]
  omega
theorem mul4' {k : Nat} (hk : k < 1000) : ((4 : Int32) * nI k).toInt = ((4 * k : Nat) : Int) := by
  rw [fb_mulI (by rw [kc_4, nI_toInt (by omega)]; omega) (by rw [kc_4, nI_toInt (by omega)]; omega), kc_4, nI_toInt (by omega)]
  omega
theorem add45 {k : Nat} (hk : k < 1000) : ((45 : Int32) + (4 : Int32) * nI k).toInt = ((45 + 4 * k : Nat) : Int) := by
  rw [fb_addI (by rw [kc_45, mul4' hk]; omega) (by rw [kc_45, mul4' hk]; omega), kc_45, mul4' hk]
  omega
theorem place_loop {N m : Nat} {parts pn : Nat → Int32} {v : Int32} (hN : N < 18) (hm : m ≤ 4) (hp : parts N = nI m) : ∀ (r i f : Nat), m - i = r → i ≤ m → r < f → ((∃ j : Nat, i ≤ j ∧ j < m ∧ pn (4 * N + j) = v) → ¬ HX1_placeOfPart_0 parts pn (nI N) v f (nI i) < 0) ∧ ((¬ ∃ j : Nat, i ≤ j ∧ j < m ∧ pn (4 * N + j) = v) → HX1_placeOfPart_0 parts pn (nI N) v f (nI i) < 0) := by
  intro r
  induction r with
  | zero =>
    intro i f hr hi hf
    obtain ⟨f, rfl⟩ : ∃ g, f = g + 1 := ⟨f - 1, by omega⟩
    rw [HX1_placeOfPart_0_eq]
    dsimp only [lt_]
    rw [nI_clamp (by omega), hp, if_pos (nI_le (by omega) (by omega))]
    exact ⟨fun ⟨j, h1, h2, _⟩ => absurd h2 (by omega), fun _ => by decide⟩
  | succ r ih =>
    intro i f hr hi hf
    obtain ⟨f, rfl⟩ : ∃ g, f = g + 1 := ⟨f - 1, by omega⟩
    rw [HX1_placeOfPart_0_eq]
    dsimp only [lt_]
    rw [cl_add (mul4 (by omega)) (by omega), nI_clamp (by omega), hp, if_neg (by rw [nI_leI (by omega) (by omega)]; omega), nI_o1]
    by_cases h : pn (4 * N + i) = v
    · rw [if_pos h]
      exact ⟨fun _ => nI_pos (by omega), fun q => absurd ⟨i, Nat.le_refl _, by omega, h⟩ q⟩
    · rw [if_neg h]
      obtain ⟨g1, g2⟩ := ih (i + 1) f (by omega) (by omega) (by omega)
      refine ⟨fun ⟨j, h1, h2, h3⟩ => g1 ⟨j, ?_, h2, h3⟩, fun q => g2 (fun ⟨j, h1, h2, h3⟩ => q ⟨j, by omega, h2, h3⟩)⟩
      rcases Nat.lt_or_ge i j with c | c
      · exact c
      · exact absurd ((show j = i by omega) ▸ h3) h
theorem place_eq {N m : Nat} {parts pn : Nat → Int32} {v : Int32} (hN : N < 18) (hm : m ≤ 4) (hp : parts N = nI m) : ((∃ j : Nat, j < m ∧ pn (4 * N + j) = v) → ¬ PX1_placeOfPart parts pn (nI N) v < 0) ∧ ((¬ ∃ j : Nat, j < m ∧ pn (4 * N + j) = v) → PX1_placeOfPart parts pn (nI N) v < 0) := by
  have k18 : (18 : Int32).toInt = 18 := by decide
  rw [PX1_placeOfPart_eq, if_neg (nI_pos (by omega)), if_pos (show nI N < 18 by rw [fz_lt, k18, nI_toInt (by omega)]; omega)]
  obtain ⟨g1, g2⟩ := place_loop (pn := pn) (v := v) hN hm hp m 0 ((2147483647 - (0 : Int32).toInt).toNat + 1) rfl (by omega) (by rw [kc_0]; omega)
  rw [nI_0] at g1 g2
  exact ⟨fun ⟨j, h1, h2⟩ => g1 ⟨j, Nat.zero_le _, h1, h2⟩, fun q => g2 (fun ⟨j, _, h1, h2⟩ => q ⟨j, h1, h2⟩)⟩
theorem room_p {N m : Nat} {parts : Nat → Int32} (hN : N < 18) (hm : m ≤ 4) (hp : parts N = nI m) : PX1_hasRoomForPart (nI N) parts = if m < 4 then 1 else 0 := by
  have k18 : (18 : Int32).toInt = 18 := by decide
  rw [PX1_hasRoomForPart_eq, if_neg (show ¬ (18 : Int32) ≤ nI N by rw [fz_le, k18, nI_toInt (by omega)]; omega)]
  dsimp only [lt_]
  rw [nI_clamp (by omega), hp]
  by_cases h : m < 4
  · rw [if_neg (show ¬ (4 : Int32) ≤ nI m by rw [fz_le, kc_4, nI_toInt (by omega)]; omega), if_pos h]
  · rw [if_pos (show (4 : Int32) ≤ nI m by rw [fz_le, kc_4, nI_toInt (by omega)]; omega), if_neg h]
theorem add_p {N m j : Nat} {parts : Nat → Int32} (hN : N < 18) (hm : m < 4) (hp : parts N = nI m) (hj : j < N) (pn wt ws steps below above : Nat → Int32) (w : Int32) : ∃ s8 e8 b8 a8 : Nat → Int32, PX1_addPart (nI N) parts pn wt ws steps below above (nI j) w = (upd parts N (nI (m + 1)), upd pn (4 * N + m) (nI j), upd wt (4 * N + m) w, s8, e8, b8, a8) := by
  rw [PX1_addPart_eq, room_p hN (by omega) hp, if_pos hm, PX1_hasNode_eq, if_neg (nI_pos (by omega)), if_neg (show ¬ nI N ≤ nI j by rw [nI_leI (by omega) (by omega)]; omega)]
  dsimp only [lt_]
  rw [if_pos rfl, if_pos rfl, nI_clamp (by omega), hp, cl_add (mul4 (by omega)) (by omega), nI_1]
  exact ⟨_, _, _, _, rfl⟩
theorem in_f {p0 fs q z : Int32} {fsr fsh rd : Nat → Int32} {N m : Nat} {v : Int32} {K : Int32 → Int32 → Int32 → Int32 → Int32 → Int32 → Int32 → Int32 → Int32 → Int32 → (Nat → Int32) → (Nat → Int32) → (Nat → Int32) → Int32 × Int32 × Int32 × Int32 × Int32 × Int32 × Int32 × Int32 × Int32 × (Nat → Int32) × (Nat → Int32) × (Nat → Int32) × (Nat → Int32)} (hm : m ≤ 4) : ∀ (r i f : Nat), m - i = r → i ≤ m → r < f → HX7_innerLine_1 U (nI n) p0 fs fsr (nI N) (nI m) at7 en tk w2 ns L fsh rd v K f (nI i) 1 q z = (at7, en, tk, w2, ns, q, z, 1, fs, L, fsh, rd, fsr) := by
  intro r
  induction r with
  | zero =>
    intro i f hr hi hf
    obtain ⟨f, rfl⟩ : ∃ g, f = g + 1 := ⟨f - 1, by omega⟩
    rw [HX7_innerLine_1_eq, if_pos (nI_le (by omega) (by omega)), if_neg (show ¬ (1 : Int32) = 0 by decide), pass0 (by decide), un6_eq rfl]
    by_cases h3 : p0 = 3
    · rw [if_pos h3, num_f (by decide), un10_eq rfl, if_neg (show ¬ (1 : Int32) = 0 by decide)]
    · rw [if_neg h3, if_neg (show ¬ (1 : Int32) = 0 by decide)]
  | succ r ih =>
    intro i f hr hi hf
    obtain ⟨f, rfl⟩ : ∃ g, f = g + 1 := ⟨f - 1, by omega⟩
    rw [HX7_innerLine_1_eq, if_neg (by rw [nI_leI (by omega) (by omega)]; omega), if_neg (show ¬ (1 : Int32) = 0 by decide)]
    dsimp only [lt_]
    rw [nI_o1]
    exact ih (i + 1) f (by omega) (by omega) (by omega)
theorem in_loop {p0 fs fa pl : Int32} {fsr fsh rd : Nat → Int32} {N m : Nat} {v : Int32} {K : Int32 → Int32 → Int32 → Int32 → Int32 → Int32 → Int32 → Int32 → Int32 → Int32 → (Nat → Int32) → (Nat → Int32) → (Nat → Int32) → Int32 × Int32 × Int32 × Int32 × Int32 × Int32 × Int32 × Int32 × Int32 × (Nat → Int32) × (Nat → Int32) × (Nat → Int32) × (Nat → Int32)} (hN : N < 18) (hm : m ≤ 4) : ∀ (r i f : Nat), m - i = r → i ≤ m → r < f → ((∃ j : Nat, i ≤ j ∧ j < m ∧ rd (4 * N + j) = v) → HX7_innerLine_1 U (nI n) p0 fs fsr (nI N) (nI m) at7 en tk w2 ns L fsh rd v K f (nI i) 0 fa pl = (at7, en, tk, w2, ns, 3, at7, 1, fs, L, fsh, rd, fsr)) ∧ ((¬ ∃ j : Nat, i ≤ j ∧ j < m ∧ rd (4 * N + j) = v) → ∃ g : Nat, HX7_innerLine_1 U (nI n) p0 fs fsr (nI N) (nI m) at7 en tk w2 ns L fsh rd v K f (nI i) 0 fa pl = HX7_innerLine_1 U (nI n) p0 fs fsr (nI N) (nI m) at7 en tk w2 ns L fsh rd v K (g + 1) (nI m) 0 fa pl) := by
  intro r
  induction r with
  | zero =>
    intro i f hr hi hf
    obtain ⟨f, rfl⟩ : ∃ g, f = g + 1 := ⟨f - 1, by omega⟩
    obtain rfl : i = m := by omega
    exact ⟨fun ⟨j, h1, h2, _⟩ => absurd h2 (by omega), fun _ => ⟨f, rfl⟩⟩
  | succ r ih =>
    intro i f hr hi hf
    obtain ⟨f, rfl⟩ : ∃ g, f = g + 1 := ⟨f - 1, by omega⟩
    have hst : HX7_innerLine_1 U (nI n) p0 fs fsr (nI N) (nI m) at7 en tk w2 ns L fsh rd v K (f + 1) (nI i) 0 fa pl = if rd (4 * N + i) = v then HX7_innerLine_1 U (nI n) p0 fs fsr (nI N) (nI m) at7 en tk w2 ns L fsh rd v K f (nI (i + 1)) 1 3 at7 else HX7_innerLine_1 U (nI n) p0 fs fsr (nI N) (nI m) at7 en tk w2 ns L fsh rd v K f (nI (i + 1)) 0 fa pl := by
      rw [HX7_innerLine_1_eq, if_neg (by rw [nI_leI (by omega) (by omega)]; omega), if_pos rfl]
      dsimp only [lt_]
      rw [nI_o1, cl_add (mul4' (by omega)) (by omega), wr0, un3_eq rfl]
    obtain ⟨g1, g2⟩ := ih (i + 1) f (by omega) (by omega) (by omega)
    by_cases h : rd (4 * N + i) = v
    · rw [if_pos h] at hst
      clear g1 g2
      have him : i < m := by omega
      have hh := hst.trans (in_f hm r (i + 1) f (by omega) (by omega) (by omega))
      refine ⟨fun _ => hh, fun q => absurd ⟨i, Nat.le_refl _, him, h⟩ q⟩
    · rw [if_neg h] at hst
      refine ⟨fun ⟨j, h1, h2, h3⟩ => hst.trans (g1 ⟨j, ?_, h2, h3⟩), fun q => ?_⟩
      · rcases Nat.lt_or_ge i j with c | c
        · exact c
        · exact absurd ((show j = i by omega) ▸ h3) h
      · obtain ⟨g, hg⟩ := g2 (fun ⟨j, h1, h2, h3⟩ => q ⟨j, by omega, h2, h3⟩)
        exact ⟨g, hst.trans hg⟩
/-- one part: the class's reading of it, and the reference's way to its loop's next turn -/
theorem part_sim (hK : KwOk keys) (h : TS keys n lo kd fr to x key wh at7 en tk w2 ns L) (hT : TR T U n) (hn : n ≤ 900) {names : Nat → Int64} {N m : Nat} {parts pn fsh rd fsr : Nat → Int32} (hN : N < 18) (hm : m ≤ 4) (hp : parts N = nI m) (hE : ∀ i : Nat, i < m → pn (4 * N + i) = rd (4 * N + i)) (hNR : NamesR names fsh N) (wt ws steps below above : Nat → Int32) (p0 fn fp fa pl fs : Int32) (K : Int32 → Int32 → Int32 → Int32 → Int32 → Int32 → Int32 → Int32 → Int32 → Int32 → (Nat → Int32) → (Nat → Int32) → (Nat → Int32) → Int32 × Int32 × Int32 × Int32 × Int32 × Int32 × Int32 × Int32 × Int32 × (Nat → Int32) × (Nat → Int32) × (Nat → Int32) × (Nat → Int32)) :
    (∃ (kd8 fr8 to8 : Int32) (x8 : Int64) (key8 wh8 at8 en8 tk8 w8 ns8 : Int32) (L8 : Nat → Int32) (j : Nat) (w : Int32) (s8 e8 b8 a8 : Nat → Int32), m < 4 ∧ TS keys n lo kd8 fr8 to8 x8 key8 wh8 at8 en8 tk8 w8 ns8 L8 ∧ PX3_readPart fn fp T (nI n) kd fr to x key wh names keys (nI N) parts pn wt ws steps below above p0 = (1, fn, fp, kd8, fr8, to8, x8, key8, wh8, upd parts N (nI (m + 1)), upd pn (4 * N + m) (nI j), upd wt (4 * N + m) w, s8, e8, b8, a8) ∧ un4_ (PX7_nodeHere at7 tk ns fa pl L 0 fsh) (fun v f1 p1 fd => HX7_innerLine_1 U (nI n) p0 fs fsr (nI N) (nI m) at7 en tk w2 ns L fsh rd v K (((nI m).toInt - (0 : Int32).toInt).toNat + 1) 0 fd f1 p1) = (if tk8 = 44 then un6_ (PX7_next U (nI n) en8 L8) (fun a b c d e M => K (nI (m + 1)) 1 a b c d e fa pl 0 M (upd fsh (45 + 4 * N + m) w) (upd rd (4 * N + m) (nI j))) else K (nI (m + 1)) 0 at8 en8 tk8 w8 ns8 fa pl 0 L8 (upd fsh (45 + 4 * N + m) w) (upd rd (4 * N + m) (nI j))))
    ∨ ∃ (q z c1 c2 c3 : Int32) (c4 : Int64) (c5 c6 : Int32) (m1 m2 m3 m4 m5 m6 m7 : Nat → Int32) (d1 d2 d3 d4 d5 : Int32) (M : Nat → Int32), PX3_readPart fn fp T (nI n) kd fr to x key wh names keys (nI N) parts pn wt ws steps below above p0 = (0, q, z, c1, c2, c3, c4, c5, c6, m1, m2, m3, m4, m5, m6, m7) ∧ un4_ (PX7_nodeHere at7 tk ns fa pl L 0 fsh) (fun v f1 p1 fd => HX7_innerLine_1 U (nI n) p0 fs fsr (nI N) (nI m) at7 en tk w2 ns L fsh rd v K (((nI m).toInt - (0 : Int32).toInt).toNat + 1) 0 fd f1 p1) = (d1, d2, d3, d4, d5, q, z, 1, fs, M, fsh, rd, fsr) := by
  have hfu : m < ((nI m).toInt - (0 : Int32).toInt).toNat + 1 := by rw [nI_toInt (by omega), kc_0]; omega
  rw [PX3_readPart_eq]
  rcases told_sim hK h (by omega) hNR fn fp fa pl with ⟨e1, j, e2, e3, e4⟩ | ⟨q, e1, e2⟩
  · rw [un3_eq e1, if_neg (show ¬ (1 : Int32) = 0 by decide), e3, un4_eq e4]
    dsimp only [lt_]
    obtain ⟨v1, v2⟩ := in_loop (U := U) (n := n) (p0 := p0) (fs := fs) (fa := fa) (pl := pl) (fsr := fsr) (fsh := fsh) (rd := rd) (v := nI j) (K := K) (at7 := at7) (en := en) (tk := tk) (w2 := w2) (ns := ns) (L := L) hN hm m 0 (((nI m).toInt - (0 : Int32).toInt).toNat + 1) rfl (by omega) hfu
    rw [nI_0] at v1 v2
    have hu : (∃ i : Nat, i < m ∧ pn (4 * N + i) = nI j) ↔ ∃ i : Nat, 0 ≤ i ∧ i < m ∧ rd (4 * N + i) = nI j := by
      constructor
      · rintro ⟨i, i1, i2⟩
        exact ⟨i, Nat.zero_le _, i1, by rw [← hE i i1]; exact i2⟩
      · rintro ⟨i, -, i1, i2⟩
        exact ⟨i, i1, by rw [hE i i1]; exact i2⟩
    by_cases hx : ∃ i : Nat, i < m ∧ pn (4 * N + i) = nI j
    · right
      rw [if_neg ((place_eq hN hm hp).1 hx), fl0, un3_eq rfl, v1 (hu.mp hx), h.frq]
      exact ⟨_, _, _, _, _, _, _, _, _, _, _, _, _, _, _, _, _, _, _, _, _, rfl, rfl⟩
    · rw [if_pos ((place_eq hN hm hp).2 hx), room_p hN hm hp]
      obtain ⟨g, hg⟩ := v2 (fun q => hx (hu.mpr q))
      rw [hg, HX7_innerLine_1_eq, if_pos (nI_le (Nat.le_refl _) (by omega)), if_pos rfl]
      dsimp only [lt_]
      by_cases h4 : m < 4
      · rw [if_pos h4, if_pos rfl, if_neg (show ¬ nI m = 4 from fun q => absurd ((nI_eq (a := m) (b := 4) (by omega) (by omega)).mp q) (by omega))]
        obtain ⟨kd1, fr1, to1, x1, key1, wh1, at1, en1, tk1, w1, ns1, L1, g1, g2, g3, -⟩ := h.next hT hn x wh L
        rw [un6_eq g1, pass1 g2, un6_eq rfl]
        by_cases h3 : p0 = 3
        · rw [if_pos h3, if_pos h3]
          rcases num_sim g3 hT hn 1 9 fn fp fa pl with ⟨b1, b2, b3, kd2, fr2, to2, x2, key2, wh2, at9, en9, tk9, w9, ns9, L9, ⟨c1, c2, c3, -⟩, c4⟩ | ⟨q, c1, c2⟩
          · left
            obtain ⟨s8, e8, b8, a8, ha⟩ := add_p hN h4 hp e2 pn wt ws steps below above wh1
            refine ⟨kd2, fr2, to2, x2, key2, wh2, at9, en9, tk9, w9, ns9, L9, j, wh1, s8, e8, b8, a8, h4, c3, ?_, ?_⟩
            · rw [un3_eq b3, if_neg (show ¬ (1 : Int32) = 0 by decide), un6_eq c1, un7_eq ha]
            · rw [un10_eq c4, if_pos rfl, cl_add (mul4' (by omega)) (by omega), cl_add (add45 (by omega)) (by omega), nI_o1]
          · right
            rw [un3_eq c1, if_pos rfl, un10_eq c2, if_neg (show ¬ (1 : Int32) = 0 by decide)]
            exact ⟨_, _, _, _, _, _, _, _, _, _, _, _, _, _, _, _, _, _, _, _, _, rfl, rfl⟩
        · left
          rw [if_neg h3, if_neg h3, if_pos rfl]
          obtain ⟨s8, e8, b8, a8, ha⟩ := add_p hN h4 hp e2 pn wt ws steps below above 0
          refine ⟨kd1, fr1, to1, x1, key1, wh1, at1, en1, tk1, w1, ns1, L1, j, 0, s8, e8, b8, a8, h4, g3, ?_, ?_⟩
          · rw [un7_eq ha]
          · rw [cl_add (mul4' (by omega)) (by omega), cl_add (add45 (by omega)) (by omega), nI_o1]
      · right
        have hm4 : m = 4 := by omega
        rw [if_neg h4, if_neg (show ¬ (0 : Int32) = 1 by decide), fl0, un3_eq rfl, if_pos (show nI m = 4 by rw [hm4]; rfl), wr0, un3_eq rfl, pass0 (by decide), un6_eq rfl, h.frq]
        by_cases h3 : p0 = 3
        · rw [if_pos h3, num_f (by decide), un10_eq rfl, if_neg (show ¬ (1 : Int32) = 0 by decide)]
          exact ⟨_, _, _, _, _, _, _, _, _, _, _, _, _, _, _, _, _, _, _, _, _, rfl, rfl⟩
        · rw [if_neg h3, if_neg (show ¬ (1 : Int32) = 0 by decide)]
          exact ⟨_, _, _, _, _, _, _, _, _, _, _, _, _, _, _, _, _, _, _, _, _, rfl, rfl⟩
  · right
    have u1 := in_f (U := U) (n := n) (p0 := p0) (fs := fs) (q := q) (z := at7) (fsr := fsr) (fsh := fsh) (rd := rd) (N := N) (v := 0) (K := K) (at7 := at7) (en := en) (tk := tk) (w2 := w2) (ns := ns) (L := L) hm m 0 (((nI m).toInt - (0 : Int32).toInt).toNat + 1) rfl (by omega) hfu
    rw [nI_0] at u1
    rw [un3_eq e1, if_pos rfl, un4_eq e2, u1]
    exact ⟨_, _, _, _, _, _, _, _, _, _, _, _, _, _, _, _, _, _, _, _, _, rfl, rfl⟩
end PT
end
section
/-! a counsel's line on both sides -/
section RL
variable {T U : Nat → Int32} {n lo : Nat} {keys : Nat → Int64} {kd fr to : Int32} {x : Int64} {key wh at7 en tk w2 ns : Int32} {L : Nat → Int32}
theorem TS.k4 (h : TS keys n lo kd fr to x key wh at7 en tk w2 ns L) : (kd = 4 ∧ tk = 44) ∨ (¬ kd = 4 ∧ ¬ tk = 44) := by
  obtain ⟨a, b, -, -, -, -, -, -, h⟩ := h
  rcases h with ⟨p, q, -⟩ | ⟨p, q, -⟩ | ⟨p, q, -⟩ | ⟨p, q, -⟩ | ⟨p, q, -⟩ | ⟨p, q, -⟩
  · exact Or.inr ⟨by rw [p]; decide, by rw [q]; decide⟩
  · exact Or.inr ⟨by rw [p]; decide, by rw [q]; decide⟩
  · exact Or.inr ⟨by rw [p]; decide, by rw [q]; decide⟩
  · exact Or.inr ⟨by rw [p]; decide, by rw [q]; decide⟩
  · exact Or.inr ⟨by rw [p]; decide, by rw [q]; decide⟩
  · exact Or.inl ⟨p, q⟩
theorem end_r {N W C C2 : Nat} (hN : N < 18) {names : Nat → Int64} {unit p0 : Int32} {kind ws tw : Nat → Int32} (hk : kind N = p0) (h0 : ¬ p0 = 0) (hc : (p0 = 3 ∧ C2 = C + 1) ∨ (¬ p0 = 3 ∧ C2 = C)) (nm : Int64) : ∃ u8 : Int32, PX3_endNode names (nI N) (nI W) (nI C) unit kind ws tw nm 0 = (vp_updL names N nm, nI (N + 1), nI W, nI C2, u8, upd tw N 0) := by
  have k18 : (18 : Int32).toInt = 18 := by decide
  have c : ¬ (18 : Int32) ≤ nI N := by rw [fz_le, k18, nI_toInt (by omega)]; omega
  rw [PX3_endNode_eq, if_neg c, PX1_endNode_eq, if_neg c]
  dsimp only [lt_]
  rw [nI_clamp (by omega), hk, if_neg h0, nI_1]
  rcases hc with ⟨h3, h4⟩ | ⟨h3, h4⟩
  · rw [if_pos h3, h4, nI_1]; exact ⟨_, rfl⟩
  · rw [if_neg h3, h4]; exact ⟨_, rfl⟩
theorem seven_cl : (7 : Int32).toNatClampNeg = 7 := by decide
theorem HR.congr {N W C Q : Nat} {told nodes words chances unsures slips throne said : Int32} {f g : Nat → Int32} (h : HR N W C Q told nodes words chances unsures slips throne said f) (e : ∀ j : Nat, j < 9 → g j = f j) : HR N W C Q told nodes words chances unsures slips throne said g := by
  unfold HR
  rw [e 0 (by decide), e 1 (by decide), e 2 (by decide), e 3 (by decide), e 4 (by decide), e 5 (by decide), e 6 (by decide), e 7 (by decide), e 8 (by decide)]
  exact h
theorem KR.part {N m : Nat} {kind parts pn wt tw fsh rd : Nat → Int32} {u v w : Int32} (h : KR N kind parts pn wt tw fsh rd) (hN : N < 18) (hm : m < 4) : KR N kind (upd parts N u) (upd pn (4 * N + m) v) (upd wt (4 * N + m) w) tw (upd fsh (45 + 4 * N + m) w) (upd rd (4 * N + m) v) := by
  refine ⟨fun k hk => ?_, fun k h1 h2 => ?_⟩
  · obtain ⟨r1, r2, r3, r4, r5, r6⟩ := h.1 k hk
    rw [upd_ne (show ¬ 9 + k = 45 + 4 * N + m by omega), upd_ne (show ¬ 27 + k = 45 + 4 * N + m by omega), upd_ne (show ¬ k = N by omega), upd_ne (show ¬ 72 + k = 4 * N + m by omega)]
    refine ⟨r1, r2, r3, r4, r5, fun i hi => ?_⟩
    rw [upd_ne (show ¬ 4 * k + i = 4 * N + m by omega), upd_ne (show ¬ 4 * k + i = 4 * N + m by omega), upd_ne (show ¬ 4 * k + i = 4 * N + m by omega), upd_ne (show ¬ 45 + 4 * k + i = 45 + 4 * N + m by omega)]
    exact r6 i hi
  · obtain ⟨r1, r2⟩ := h.2 k h1 h2
    rw [upd_ne (show ¬ 27 + k = 45 + 4 * N + m by omega), upd_ne (show ¬ 72 + k = 4 * N + m by omega)]
    exact ⟨r1, r2⟩
theorem begin_r {N : Nat} (hN : N < 18) {p0 : Int32} (h0 : ¬ p0 = 0) (kind parts ws tw steps below above : Nat → Int32) : PX1_beginNode (nI N) kind parts ws tw steps below above p0 = (upd kind N p0, upd parts N 0, upd ws N 0, upd tw N 0, upd steps N 0, upd below N 0, upd above N 0) := by
  have k18 : (18 : Int32).toInt = 18 := by decide
  rw [PX1_beginNode_eq, if_neg (show ¬ (18 : Int32) ≤ nI N by rw [fz_le, k18, nI_toInt (by omega)]; omega)]
  dsimp only [lt_]
  rw [if_neg h0, nI_clamp (by omega)]
theorem room_r {N W C : Nat} (hWN : W ≤ N) (hW : W ≤ 10) (h8 : N - W ≤ 8) (hC : C ≤ 2) {p0 : Int32} (h0 : ¬ p0 = 0) : ((N - W < 8 ∧ (p0 = 3 → C < 2)) → PX1_hasRoomFor (nI N) (nI W) (nI C) p0 = 1) ∧ (¬ (N - W < 8 ∧ (p0 = 3 → C < 2)) → PX1_hasRoomFor (nI N) (nI W) (nI C) p0 = 0) := by
  have k18 : (18 : Int32).toInt = 18 := by decide
  rw [PX1_hasRoomFor_eq]
  dsimp only [lt_]
  rw [nI_sub' hWN (by omega), if_neg h0]
  constructor
  · rintro ⟨h1, h2⟩
    rw [if_pos (show nI N < 18 by rw [fz_lt, k18, nI_toInt (by omega)]; omega), if_neg (show ¬ (8 : Int32) ≤ nI (N - W) by rw [fz_le, kc_8, nI_toInt (by omega)]; omega)]
    by_cases h3 : p0 = 3
    · have := h2 h3
      rw [if_pos h3, if_neg (show ¬ (2 : Int32) ≤ nI C by rw [fz_le, kc_2, nI_toInt (by omega)]; omega)]
    · rw [if_neg h3]
  · intro h1
    by_cases h18 : nI N < (18 : Int32)
    · rw [if_pos h18]
      by_cases h2 : N - W < 8
      · rw [if_neg (show ¬ (8 : Int32) ≤ nI (N - W) by rw [fz_le, kc_8, nI_toInt (by omega)]; omega)]
        by_cases h3 : p0 = 3
        · rw [if_pos h3, if_pos (show (2 : Int32) ≤ nI C by
            rw [fz_le, kc_2, nI_toInt (by omega)]
            rcases Nat.lt_or_ge C 2 with c | c
            · exact absurd ⟨h2, fun _ => c⟩ h1
            · omega)]
        · exact absurd ⟨h2, fun q => absurd q h3⟩ h1
      · rw [if_pos (show (8 : Int32) ≤ nI (N - W) by rw [fz_le, kc_8, nI_toInt (by omega)]; omega)]
    · rw [if_neg h18]
/-- the node is told -/
theorem fin_SR {names : Nat → Int64} {told slips throne said p0 fs : Int32} {N W C C2 Q m len : Nat} {kind parts pn wt tw uw uo fsh rd fsr L0 : Nat → Int32} {nm : Int64} (hH : HR N W C Q told (nI N) (nI W) (nI C) (nI Q) slips throne said fsh) (hKR : KR N kind parts pn wt tw fsh rd) (hUR : UR Q uw uo fsh) (hNR : NamesR names fsh N) (hN : N < 18) (h8 : N - W < 8) (hm : m ≤ 4) (hkN : kind N = p0) (hp : parts N = nI m) (hE : ∀ i : Nat, i < m → pn (4 * N + i) = rd (4 * N + i) ∧ wt (4 * N + i) = fsh (45 + 4 * N + i)) (hC2 : C2 ≤ 2) (ht : ¬ told = 0) (l1 : 1 ≤ len) (l2 : len ≤ 8) (l3 : fs = nI len) (l4 : Lets L0 len) (l5 : nm = lcode L0 len) (hf : ∀ i : Nat, i < 8 → fsr i = L0 i) : SR (vp_updL names N nm) told (nI (N + 1)) (nI W) (nI C2) (nI Q) slips throne said kind parts pn wt (upd tw N 0) uw uo (upd (upd (layF (upd fsh (27 + N) (nI m)) fsr fs p0 N) 7 (nI (N - W + 1))) 8 (nI C2)) rd := by
  obtain ⟨a1, a2, a3, a4, a5, a6, a7, a8, a9, b1, b2, b3, b4, b5, b6, b7, b8, b9, c1, c2, c3, c4, c5, c6⟩ := id hH
  have lo : ∀ j : Nat, ¬ j = 1 → j < 7 → upd (upd (layF (upd fsh (27 + N) (nI m)) fsr fs p0 N) 7 (nI (N - W + 1))) 8 (nI C2) j = fsh j := fun j h1 h2 => by
    rw [upd_ne (by omega), upd_ne (by omega), layF_ne (by omega) (by omega) (by omega) (by omega), upd_ne (by omega)]
  have hi : ∀ j : Nat, 9 ≤ j → j < 125 → ¬ j = 9 + N → ¬ j = 27 + N → upd (upd (layF (upd fsh (27 + N) (nI m)) fsr fs p0 N) 7 (nI (N - W + 1))) 8 (nI C2) j = fsh j := fun j h1 h2 h3 h4 => by
    rw [upd_ne (by omega), upd_ne (by omega), layF_ne (by omega) (by omega) (by omega) (by omega), upd_ne (by omega)]
  refine ⟨N + 1, W, C2, Q, ⟨rfl, rfl, rfl, rfl, by omega, a6, by omega, hC2, a9, ?_, ?_, ?_, upd_at _ _ _, ?_, b6, ?_, ?_, ?_, ?_, c2, by omega, c4, c5, fun q => absurd q ht⟩, ⟨fun k hk => ?_, fun k h1 h2 => ?_⟩, hUR.congr a9 (fun j q1 q2 => hi j (by omega) (by omega) (by omega) (by omega)), ?_⟩
  · rw [upd_ne (by decide), upd_ne (by decide), layF_1]
  · rw [lo 2 (by decide) (by decide)]; exact b2
  · rw [upd_ne (by decide), upd_at, show N + 1 - W = N - W + 1 from by omega]
  · rw [lo 3 (by decide) (by decide)]; exact b5
  · rw [lo 5 (by decide) (by decide)]; exact b7
  · rw [lo 0 (by decide) (by decide)]; exact b8
  · rw [lo 6 (by decide) (by decide)]; exact b9
  · rw [lo 4 (by decide) (by decide)]; exact c1
  · by_cases hkk : k = N
    · subst hkk
      have q0 := (hKR.2 k (Nat.le_refl _) hN).2
      have e1 : upd (upd (layF (upd fsh (27 + k) (nI m)) fsr fs p0 k) 7 (nI (k - W + 1))) 8 (nI C2) (9 + k) = p0 := by rw [upd_ne (by omega), upd_ne (by omega), layF_kd]
      have e2 : upd (upd (layF (upd fsh (27 + k) (nI m)) fsr fs p0 k) 7 (nI (k - W + 1))) 8 (nI C2) (27 + k) = nI m := by rw [upd_ne (by omega), upd_ne (by omega), layF_ne (by omega) (by omega) (by omega) (by omega), upd_at]
      rw [e1, e2, upd_at, q0, nI_toInt (by omega)]
      refine ⟨hkN, hp, rfl, by omega, by omega, fun i hi2 => ?_⟩
      rw [hi (45 + 4 * k + i) (by omega) (by omega) (by omega) (by omega)]
      exact hE i (by omega)
    · obtain ⟨r1, r2, r3, r4, r5, r6⟩ := hKR.1 k (by omega)
      rw [hi (9 + k) (by omega) (by omega) (by omega) (by omega), hi (27 + k) (by omega) (by omega) (by omega) (by omega), upd_ne hkk]
      refine ⟨r1, r2, r3, r4, r5, fun i hi2 => ?_⟩
      rw [hi (45 + 4 * k + i) (by omega) (by omega) (by omega) (by omega)]
      exact r6 i hi2
  · rw [hi (27 + k) (by omega) (by omega) (by omega) (by omega)]
    exact hKR.2 k (by omega) h2
  · have h0 : NamesR names (upd fsh (27 + N) (nI m)) N := hNR.congr (by omega) (fun j q1 q2 => upd_ne (by omega))
    exact h0.lay hN l1 l2 l3 l4 l5 hf (fun j hj => by rw [upd_ne (by omega), upd_ne (by omega)])
/-- the parts behind the first -/
theorem rl_loop (hK : KwOk keys) (hT : TR T U n) (hn : n ≤ 900) {names : Nat → Int64} {told slips throne said p0 fs unit fn fp fa pl : Int32} {N W C C2 Q len : Nat} {kind tw uw uo fsr L0 : Nat → Int32} {nm : Int64} (hN : N < 18) (h8 : N - W < 8) (hkN : kind N = p0) (h0 : ¬ p0 = 0) (hc : (p0 = 3 ∧ C2 = C + 1) ∨ (¬ p0 = 3 ∧ C2 = C)) (hC2 : C2 ≤ 2) (ht : ¬ told = 0) (l1 : 1 ≤ len) (l2 : len ≤ 8) (l3 : fs = nI len) (l4 : Lets L0 len) (l5 : nm = lcode L0 len) (hf : ∀ i : Nat, i < 8 → fsr i = L0 i) : ∀ (r m f1 f2 : Nat) (kd fr to : Int32) (x : Int64) (key wh at7 en tk w2 ns : Int32) (L parts pn wt ws steps below above fsh rd : Nat → Int32), 4 - m = r → 1 ≤ m → m ≤ 4 → 6 - m ≤ f1 → 5 - m ≤ f2 → TS keys n lo kd fr to x key wh at7 en tk w2 ns L → HR N W C Q told (nI N) (nI W) (nI C) (nI Q) slips throne said fsh → KR N kind parts pn wt tw fsh rd → UR Q uw uo fsh → NamesR names fsh N → parts N = nI m → (∀ i : Nat, i < m → pn (4 * N + i) = rd (4 * N + i) ∧ wt (4 * N + i) = fsh (45 + 4 * N + i)) →
    (∃ (kd8 fr8 to8 : Int32) (x8 : Int64) (key8 wh8 at8 en8 tk8 w8 ns8 u8 : Int32) (L8 p8 n8 v8 s8 e8 b8 a8 F8 R8 : Nat → Int32), TS keys n lo kd8 fr8 to8 x8 key8 wh8 at8 en8 tk8 w8 ns8 L8 ∧ SR (vp_updL names N nm) told (nI (N + 1)) (nI W) (nI C2) (nI Q) slips throne said kind p8 n8 v8 (upd tw N 0) uw uo F8 R8 ∧ HX3_readRuler_0 T (nI n) names keys (nI N) (nI W) (nI C) unit p0 kind tw nm f1 (nI (m - 1)) 1 fn fp kd fr to x key wh parts pn wt ws steps below above = (1, fn, fp, kd8, fr8, to8, x8, key8, wh8, vp_updL names N nm, nI (N + 1), nI W, nI C2, u8, kind, p8, n8, v8, s8, upd tw N 0, e8, b8, a8) ∧ (if tk = 44 then un6_ (PX7_next U (nI n) en L) (fun a b c d e M => HX7_innerLine_0 U (nI n) p0 fs fsr (nI N) f2 (nI m) 1 a b c d e fa pl 0 M fsh rd) else HX7_innerLine_0 U (nI n) p0 fs fsr (nI N) f2 (nI m) 0 at7 en tk w2 ns fa pl 0 L fsh rd) = (at8, en8, tk8, w8, ns8, fa, pl, 0, fs, L8, F8, R8, fsr))
    ∨ ∃ (q z c1 c2 c3 : Int32) (c4 : Int64) (c5 c6 : Int32) (m1 : Nat → Int64) (c7 c8 c9 e1 : Int32) (m2 m3 m4 m5 m6 m7 m8 m9 y1 : Nat → Int32) (d1 d2 d3 d4 d5 d6 : Int32) (M F R S : Nat → Int32), HX3_readRuler_0 T (nI n) names keys (nI N) (nI W) (nI C) unit p0 kind tw nm f1 (nI (m - 1)) 1 fn fp kd fr to x key wh parts pn wt ws steps below above = (0, q, z, c1, c2, c3, c4, c5, c6, m1, c7, c8, c9, e1, m2, m3, m4, m5, m6, m7, m8, m9, y1) ∧ (if tk = 44 then un6_ (PX7_next U (nI n) en L) (fun a b c d e M => HX7_innerLine_0 U (nI n) p0 fs fsr (nI N) f2 (nI m) 1 a b c d e fa pl 0 M fsh rd) else HX7_innerLine_0 U (nI n) p0 fs fsr (nI N) f2 (nI m) 0 at7 en tk w2 ns fa pl 0 L fsh rd) = (d1, d2, d3, d4, d5, q, z, 1, d6, M, F, R, S) := by
  intro r
  induction r using Nat.strongRecOn with
  | ind r ih =>
    intro m f1 f2 kd fr to x key wh at7 en tk w2 ns L parts pn wt ws steps below above fsh rd hr h1 h4 hf1 hf2 hTS hH hKR hUR hNR hp hE
    have hN18 : N ≤ 18 := by omega
    obtain ⟨a1, a2, a3, a4, a5, a6, a7, a8, a9, b1, b2, b3, b4, b5, b6, b7, b8, b9, c1, c2, c3, c4, c5, c6⟩ := id hH
    obtain ⟨f1, rfl⟩ : ∃ g, f1 = g + 1 := ⟨f1 - 1, by omega⟩
    obtain ⟨f2, rfl⟩ : ∃ g, f2 = g + 1 := ⟨f2 - 1, by omega⟩
    rw [HX3_readRuler_0_eq, if_neg (show ¬ (4 : Int32) < nI (m - 1) by rw [fz_lt, kc_4, nI_toInt (by omega)]; omega), if_neg (show ¬ (1 : Int32) = 0 by decide)]
    dsimp only [lt_]
    rcases hTS.k4 with ⟨k1, k2⟩ | ⟨k1, k2⟩
    · rw [if_pos k1, if_pos k2]
      obtain ⟨kd1, fr1, to1, x1, key1, wh1, at1, en1, tk1, w1, ns1, L1, g1, g2, g3, -⟩ := hTS.next hT hn x wh L
      rw [un6_eq g1, un6_eq g2, HX7_innerLine_0_eq, if_neg (show ¬ (1 : Int32) = 0 by decide), if_pos rfl, nI_o1, show m - 1 + 1 = m from by omega]
      rcases part_sim hK g3 hT hn hN h4 hp (fun i hi => (hE i hi).1) hNR wt ws steps below above p0 fn fp fa pl fs (rd := rd) (fsr := fsr) (fun z1 z2 z3 z4 z5 z6 z7 z8 z9 y0 y1 y2 y3 => HX7_innerLine_0 U (nI n) p0 fs fsr (nI N) f2 z1 z2 z3 z4 z5 z6 z7 z8 z9 y0 y1 y2 y3) with ⟨kd8, fr8, to8, x8, key8, wh8, at8, en8, tk8, w8, ns8, L8, j, w, s8, e8, q8, z8, hm4, e1, e2, e3⟩ | ⟨q, z, v1, v2, v3, v4, v5, v6, m1, m2, m3, m4, m5, m6, m7, d1, d2, d3, d4, d5, M, e1, e2⟩
      · have hih := ih (4 - (m + 1)) (by omega) (m + 1) f1 f2 kd8 fr8 to8 x8 key8 wh8 at8 en8 tk8 w8 ns8 L8 (upd parts N (nI (m + 1))) (upd pn (4 * N + m) (nI j)) (upd wt (4 * N + m) w) s8 e8 q8 z8 (upd fsh (45 + 4 * N + m) w) (upd rd (4 * N + m) (nI j)) rfl (by omega) (by omega) (by omega) (by omega) e1 (hH.congr (fun i hi => upd_ne (by omega))) (hKR.part hN hm4) (hUR.congr a9 (fun i z1 z2 => upd_ne (by omega))) (hNR.congr hN18 (fun i z1 z2 => upd_ne (by omega))) (upd_at _ _ _) (fun i hi => by
          by_cases hi2 : i = m
          · rw [hi2, upd_at, upd_at, upd_at, upd_at]; exact ⟨rfl, rfl⟩
          · rw [upd_ne (by omega), upd_ne (by omega), upd_ne (by omega), upd_ne (by omega)]; exact hE i (by omega))
        rw [Nat.add_sub_cancel] at hih
        rw [un16_eq e2, e3]
        exact hih
      · right
        obtain ⟨f1, rfl⟩ : ∃ g, f1 = g + 1 := ⟨f1 - 1, by omega⟩
        rw [un16_eq e1, HX3_readRuler_0_eq, if_neg (show ¬ (4 : Int32) < nI m by rw [fz_lt, kc_4, nI_toInt (by omega)]; omega), if_pos rfl, if_pos rfl, e2]
        exact ⟨_, _, _, _, _, _, _, _, _, _, _, _, _, _, _, _, _, _, _, _, _, _, _, _, _, _, _, _, _, _, _, _, rfl, rfl⟩
    · left
      obtain ⟨u8, he⟩ := end_r (W := W) (names := names) (unit := unit) (ws := ws) (tw := tw) hN hkN h0 hc nm
      have e1 : upd fsh (27 + N) (nI m) 1 = nI N := by rw [upd_ne (by omega)]; exact b1
      have e7 : layF (upd fsh (27 + N) (nI m)) fsr fs p0 N 7 = nI (N - W) := by rw [layF_ne (by omega) (by omega) (by omega) (by omega), upd_ne (by omega)]; exact b3
      have e8 : upd (layF (upd fsh (27 + N) (nI m)) fsr fs p0 N) 7 (nI (N - W + 1)) 8 = nI C := by rw [upd_ne (by decide), layF_ne (by omega) (by omega) (by omega) (by omega), upd_ne (by omega)]; exact b4
      rw [if_neg k1, if_neg (show ¬ (1 : Int32) = 0 by decide), un6_eq he, if_neg k2, HX7_innerLine_0_eq, if_pos rfl, if_pos rfl]
      dsimp only [lt_]
      rw [cl_add (c := 27) (by decide) (by omega), lay_eq hN e1, seven_cl, e7, nI_1, eight_cl, e8]
      refine ⟨kd, fr, to, x, key, wh, at7, en, tk, w2, ns, u8, L, parts, pn, wt, ws, steps, below, above, upd (upd (layF (upd fsh (27 + N) (nI m)) fsr fs p0 N) 7 (nI (N - W + 1))) 8 (nI C2), rd, hTS, fin_SR hH hKR hUR hNR hN h8 h4 hkN hp hE hC2 ht l1 l2 l3 l4 l5 hf, rfl, ?_⟩
      rcases hc with ⟨h3, hq⟩ | ⟨h3, hq⟩
      · rw [if_pos h3, nI_1, hq]
      · rw [if_neg h3, Int32.add_zero, hq]
theorem room_b (a : Int32) {b : Nat} (hb : a.toInt = (b : Int)) {k : Nat} (hk : k < 2 ^ 31) : (if a ≤ nI k then (0 : Int32) else 1) = if k < b then 1 else 0 := by
  by_cases h : k < b
  · rw [if_neg (show ¬ a ≤ nI k by rw [fz_le, hb, nI_toInt hk]; omega), if_pos h]
  · rw [if_pos (show a ≤ nI k by rw [fz_le, hb, nI_toInt hk]; omega), if_neg h]
/-- a counsel's line, once its first word is passed -/
theorem ruler_sim (hK : KwOk keys) (h : TS keys n lo kd fr to x key wh at7 en tk w2 ns L) (hT : TR T U n) (hn : n ≤ 900) {names : Nat → Int64} {told slips throne said p0 : Int32} {N W C C2 Q : Nat} {kind parts pn wt tw uw uo fsh rd fsr : Nat → Int32} (hH : HR N W C Q told (nI N) (nI W) (nI C) (nI Q) slips throne said fsh) (hKR : KR N kind parts pn wt tw fsh rd) (hUR : UR Q uw uo fsh) (hNR : NamesR names fsh N) (h8 : N - W < 8) (h0 : ¬ p0 = 0) (hc : (p0 = 3 ∧ C2 = C + 1) ∨ (¬ p0 = 3 ∧ C2 = C)) (hC2 : C2 ≤ 2) (ht : ¬ told = 0) (ws steps below above : Nat → Int32) (unit fn fp fa pl fs : Int32) {kd1 fr1 to1 : Int32} {x1 : Int64} {key1 wh1 at1 en1 tk1 w1 ns1 : Int32} {L1 : Nat → Int32} (g1 : PX3_nextToken T (nI n) to x wh keys = (kd1, fr1, to1, x1, key1, wh1)) (g3 : TS keys n lo kd1 fr1 to1 x1 key1 wh1 at1 en1 tk1 w1 ns1 L1) :
    (∃ (kd8 fr8 to8 : Int32) (x8 : Int64) (key8 wh8 at8 en8 tk8 w8 ns8 u8 f8 : Int32) (L8 sr8 : Nat → Int32) (nm8 : Nat → Int64) (k8 p8 n8 v8 s8 t8 e8 b8 a8 F8 R8 : Nat → Int32), TS keys n lo kd8 fr8 to8 x8 key8 wh8 at8 en8 tk8 w8 ns8 L8 ∧ SR nm8 told (nI (N + 1)) (nI W) (nI C2) (nI Q) slips throne said k8 p8 n8 v8 t8 uw uo F8 R8 ∧ PX3_readRuler fn fp T (nI n) kd fr to x key wh names keys (nI N) (nI W) (nI C) unit kind parts pn wt ws tw steps below above p0 = (1, fn, fp, kd8, fr8, to8, x8, key8, wh8, nm8, nI (N + 1), nI W, nI C2, u8, k8, p8, n8, v8, s8, t8, e8, b8, a8) ∧ PX7_innerLine U (nI n) at1 en1 tk1 w1 ns1 fa pl L1 0 fsh rd fsr fs p0 = (at8, en8, tk8, w8, ns8, fa, pl, 0, f8, L8, F8, R8, sr8))
    ∨ ∃ (q z c1 c2 c3 : Int32) (c4 : Int64) (c5 c6 : Int32) (m1 : Nat → Int64) (c7 c8 c9 e1 : Int32) (m2 m3 m4 m5 m6 m7 m8 m9 y1 : Nat → Int32) (d1 d2 d3 d4 d5 d6 : Int32) (M F R S : Nat → Int32), PX3_readRuler fn fp T (nI n) kd fr to x key wh names keys (nI N) (nI W) (nI C) unit kind parts pn wt ws tw steps below above p0 = (0, q, z, c1, c2, c3, c4, c5, c6, m1, c7, c8, c9, e1, m2, m3, m4, m5, m6, m7, m8, m9, y1) ∧ PX7_innerLine U (nI n) at1 en1 tk1 w1 ns1 fa pl L1 0 fsh rd fsr fs p0 = (d1, d2, d3, d4, d5, q, z, 1, d6, M, F, R, S) := by
  have hN18 := hH.N18
  obtain ⟨a1, a2, a3, a4, a5, a6, a7, a8, a9, b1, b2, b3, b4, b5, b6, b7, b8, b9, c1, c2, c3, c4, c5, c6⟩ := id hH
  have hN : N < 18 := by omega
  rw [PX3_readRuler_eq, (room_r a5 a6 a7 a8 h0).1 ⟨h8, fun q => by rcases hc with ⟨_, e⟩ | ⟨e, _⟩; omega; exact absurd q e⟩, begin_r hN h0, PX7_innerLine_eq, if_pos rfl]
  dsimp only [lt_]
  rw [if_pos rfl, un7_eq rfl, un6_eq g1, one_cl, b1]
  rcases new_sim hK g3 hT hn hN18 hNR fn fp fa pl fs fsr with ⟨e1, ⟨len, l1, l2, l3, l4, l5⟩, kd2, fr2, to2, x2, key2, wh2, at9, en9, tk9, w9, ns9, L9, ⟨k1, k2, k3, -⟩, e2⟩ | ⟨q, e1, e2⟩
  · rw [un3_eq e1, if_neg (show ¬ (1 : Int32) = 0 by decide), un6_eq k1, un11_eq e2, show ((4 - (0 : Int32).toInt).toNat) + 1 = 4 + 1 from by rw [kc_0]; rfl, HX7_innerLine_0_eq, if_neg (show ¬ (1 : Int32) = 0 by decide), if_pos rfl]
    have hKR0 : KR N (upd kind N p0) (upd parts N 0) pn wt (upd tw N 0) fsh rd := by
      refine ⟨fun k hk => ?_, hKR.2⟩
      rw [upd_ne (by omega), upd_ne (by omega), upd_ne (by omega)]
      exact hKR.1 k hk
    have hcp : ∀ i : Nat, i < 8 → cpF L1 fsr 0 0 8 i = L1 i := fun i hi => by
      show (if 0 ≤ i ∧ i < 0 + 8 then L1 (0 + (i - 0)) else fsr i) = L1 i
      rw [if_pos (by omega), Nat.zero_add, Nat.sub_zero]
    rcases part_sim hK k3 hT hn hN (m := 0) (by omega) (show upd parts N 0 N = nI 0 by rw [upd_at]; rfl) (pn := pn) (rd := rd) (fun i hi => absurd hi (by omega)) hNR wt (upd ws N 0) (upd steps N 0) (upd below N 0) (upd above N 0) p0 fn fp fa pl ns1 (fsr := cpF L1 fsr 0 0 8) (fun z1 z2 z3 z4 z5 z6 z7 z8 z9 y0 y1 y2 y3 => HX7_innerLine_0 U (nI n) p0 ns1 (cpF L1 fsr 0 0 8) (nI N) 4 z1 z2 z3 z4 z5 z6 z7 z8 z9 y0 y1 y2 y3) with ⟨kd8, fr8, to8, x8, key8, wh8, at8, en8, tk8, w8, ns8, L8, j, w, s8, e8, q8, z8, hm4, p1, p2, p3⟩ | ⟨q, z, v1, v2, v3, v4, v5, v6, m1, m2, m3, m4, m5, m6, m7, d1, d2, d3, d4, d5, M, p1, p2⟩
    · rw [nI_0] at p3
      rw [un16_eq p2, p3]
      have hl := rl_loop (fn := fn) (fp := fp) (fa := fa) (pl := pl) (unit := unit) (told := told) (slips := slips) (throne := throne) (said := said) (Q := Q) (uw := uw) (uo := uo) (names := names) (W := W) (C := C) hK hT hn hN h8 (show upd kind N p0 N = p0 from upd_at _ _ _) h0 hc hC2 ht l1 l2 l3 l4 l5 hcp 3 1 (((5 - (0 : Int32).toInt).toNat) + 1) 4 kd8 fr8 to8 x8 key8 wh8 at8 en8 tk8 w8 ns8 L8 (upd (upd parts N 0) N (nI (0 + 1))) (upd pn (4 * N + 0) (nI j)) (upd wt (4 * N + 0) w) s8 e8 q8 z8 (upd fsh (45 + 4 * N + 0) w) (upd rd (4 * N + 0) (nI j)) rfl (by omega) (by omega) (by rw [kc_0]; omega) (by omega) p1 (hH.congr (fun i hi => upd_ne (by omega))) (hKR0.part hN hm4) (hUR.congr a9 (fun i z1 z2 => upd_ne (by omega))) (hNR.congr hN18 (fun i z1 z2 => upd_ne (by omega))) (upd_at _ _ _) (fun i hi => by
          obtain rfl : i = 0 := by omega
          rw [upd_at, upd_at, upd_at, upd_at]; exact ⟨rfl, rfl⟩)
      rw [show nI (1 - 1) = 0 from rfl] at hl
      rcases hl with ⟨kd6, fr6, to6, x6, key6, wh6, at6, en6, tk6, w6, ns6, u6, L6, p6, n6, v6, s6, e6, b6, a6, F6, R6, q1, q2, q3, q4⟩ | ⟨q, z, v1, v2, v3, v4, v5, v6, m1, v7, v8, v9, o1, m2, m3, m4, m5, m6, m7, m8, m9, y1, d1, d2, d3, d4, d5, d6, M, F, R, S, q1, q2⟩
      · left
        exact ⟨kd6, fr6, to6, x6, key6, wh6, at6, en6, tk6, w6, ns6, u6, ns1, L6, cpF L1 fsr 0 0 8, vp_updL names N x1, upd kind N p0, p6, n6, v6, s6, upd (upd tw N 0) N 0, e6, b6, a6, F6, R6, q1, q2, q3, q4⟩
      · right
        exact ⟨q, z, v1, v2, v3, v4, v5, v6, m1, v7, v8, v9, o1, m2, m3, m4, m5, m6, m7, m8, m9, y1, d1, d2, d3, d4, d5, d6, M, F, R, S, q1, q2⟩
    · right
      rw [nI_0] at p2
      rw [un16_eq p1, show ((5 - (0 : Int32).toInt).toNat) + 1 = 5 + 1 from by rw [kc_0]; rfl, HX3_readRuler_0_eq, if_neg (show ¬ (4 : Int32) < 0 by decide), if_pos rfl, if_pos rfl, p2]
      exact ⟨_, _, _, _, _, _, _, _, _, _, _, _, _, _, _, _, _, _, _, _, _, _, _, _, _, _, _, _, _, _, _, _, rfl, rfl⟩
  · right
    rw [un3_eq e1, if_pos rfl, un11_eq e2, show ((4 - (0 : Int32).toInt).toNat) + 1 = 4 + 1 from by rw [kc_0]; rfl, HX7_innerLine_0_eq, if_neg (show ¬ (1 : Int32) = 0 by decide), if_neg (show ¬ (1 : Int32) = 0 by decide), if_neg (show ¬ (1 : Int32) = 0 by decide)]
    exact ⟨_, _, _, _, _, _, _, _, _, _, _, _, _, _, _, _, _, _, _, _, _, _, _, _, _, _, _, _, _, _, _, _, rfl, rfl⟩
end RL
end
