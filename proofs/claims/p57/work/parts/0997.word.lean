/-! a word's line on both sides -/
def layF (fsh fsr : Nat → Int32) (fs kd : Int32) (N : Nat) : Nat → Int32 := fun j => if j = 1 then nI (N + 1) else if j = 9 + N then kd else if j = 125 + N then fs else if 143 + 8 * N ≤ j ∧ j < 143 + 8 * N + 8 then fsr (j - (143 + 8 * N)) else fsh j
theorem cl_143b {k : Nat} (hk : k < 18) : ((143 : Int32) + (8 : Int32) * nI k).toNatClampNeg = 143 + 8 * k := by
  have e1 : ((8 : Int32) * nI k).toInt = 8 * (k : Int) := by
    rw [fb_mulI (by rw [kc_8, nI_toInt (by omega)]; omega) (by rw [kc_8, nI_toInt (by omega)]; omega), kc_8, nI_toInt (by omega)]
  have h143 : (143 : Int32).toInt = 143 := by decide
  have e2 : ((143 : Int32) + (8 : Int32) * nI k).toInt = ((143 + 8 * k : Nat) : Int) := by
    rw [fb_addI (by rw [h143, e1]; omega) (by rw [h143, e1]; omega), h143, e1]
    omega
  have q := ti_cl e2 (by omega)
  omega
theorem eight_cl : (8 : Int32).toNatClampNeg = 8 := by decide
theorem two_cl : (2 : Int32).toNatClampNeg = 2 := by decide
theorem three_cl : (3 : Int32).toNatClampNeg = 3 := by decide
theorem lay_eq {fsh fsr : Nat → Int32} {fs kd : Int32} {N : Nat} (hN : N < 18) (h1 : fsh 1 = nI N) : PX7_lay 0 fsh fsr fs kd = layF fsh fsr fs kd N := by
  rw [PX7_lay_eq, if_pos rfl]
  dsimp only [lt_]
  rw [one_cl, h1, cl_143b hN, cl_125 hN, zero_cl, eight_cl, cl_add (c := 9) (by decide) (by omega)]
  have e : upd (upd (cpF fsr fsh 0 (143 + 8 * N) 8) (125 + N) fs) (9 + N) kd 1 = nI N := by
    rw [upd_ne (by omega), upd_ne (by omega)]
    show (if 143 + 8 * N ≤ 1 ∧ 1 < 143 + 8 * N + 8 then fsr (0 + (1 - (143 + 8 * N))) else fsh 1) = nI N
    rw [if_neg (by omega), h1]
  rw [e, nI_1]
  funext j
  show (if j = 1 then nI (N + 1) else if j = 9 + N then kd else if j = 125 + N then fs else if 143 + 8 * N ≤ j ∧ j < 143 + 8 * N + 8 then fsr (0 + (j - (143 + 8 * N))) else fsh j) = layF fsh fsr fs kd N j
  rw [Nat.zero_add]
  rfl
theorem layF_ne {fsh fsr : Nat → Int32} {fs kd : Int32} {N j : Nat} (h1 : ¬ j = 1) (h2 : ¬ j = 9 + N) (h3 : ¬ j = 125 + N) (h4 : j < 143 + 8 * N ∨ 143 + 8 * N + 8 ≤ j) : layF fsh fsr fs kd N j = fsh j := by
  show (if j = 1 then nI (N + 1) else if j = 9 + N then kd else if j = 125 + N then fs else if 143 + 8 * N ≤ j ∧ j < 143 + 8 * N + 8 then fsr (j - (143 + 8 * N)) else fsh j) = fsh j
  rw [if_neg h1, if_neg h2, if_neg h3, if_neg (by omega)]
theorem layF_kd {fsh fsr : Nat → Int32} {fs kd : Int32} {N : Nat} : layF fsh fsr fs kd N (9 + N) = kd := by
  show (if 9 + N = 1 then _ else if 9 + N = 9 + N then kd else _) = kd
  rw [if_neg (by omega), if_pos rfl]
theorem layF_sz {fsh fsr : Nat → Int32} {fs kd : Int32} {N : Nat} : layF fsh fsr fs kd N (125 + N) = fs := by
  show (if 125 + N = 1 then _ else if 125 + N = 9 + N then kd else if 125 + N = 125 + N then fs else _) = fs
  rw [if_neg (by omega), if_neg (by omega), if_pos rfl]
theorem layF_let {fsh fsr : Nat → Int32} {fs kd : Int32} {N i : Nat} (hN : N < 18) (hi : i < 8) : layF fsh fsr fs kd N (143 + 8 * N + i) = fsr i := by
  show (if 143 + 8 * N + i = 1 then _ else if 143 + 8 * N + i = 9 + N then kd else if 143 + 8 * N + i = 125 + N then fs else if 143 + 8 * N ≤ 143 + 8 * N + i ∧ 143 + 8 * N + i < 143 + 8 * N + 8 then fsr (143 + 8 * N + i - (143 + 8 * N)) else _) = fsr i
  rw [if_neg (by omega), if_neg (by omega), if_neg (by omega), if_pos (by omega), Nat.add_sub_cancel_left]
theorem layF_1 {fsh fsr : Nat → Int32} {fs kd : Int32} {N : Nat} : layF fsh fsr fs kd N 1 = nI (N + 1) := rfl
theorem updL_ne {f : Nat → Int64} {i j : Nat} {v : Int64} (h : ¬ j = i) : vp_updL f i v j = f j := if_neg h
theorem updL_at (f : Nat → Int64) (i : Nat) (v : Int64) : vp_updL f i v i = v := if_pos rfl
/-- one name more -/
theorem NamesR.lay {names : Nat → Int64} {fsh fsr L g : Nat → Int32} {fs kd : Int32} {N len : Nat} {x : Int64} (h : NamesR names fsh N) (hN : N < 18) (l1 : 1 ≤ len) (l2 : len ≤ 8) (l3 : fs = nI len) (l4 : Lets L len) (l5 : x = lcode L len) (hf : ∀ i : Nat, i < 8 → fsr i = L i) (hg : ∀ j : Nat, 125 ≤ j → g j = layF fsh fsr fs kd N j) : NamesR (vp_updL names N x) g (N + 1) := by
  refine ⟨fun k hk => ?_, fun k h1 h2 => ?_⟩
  · by_cases hkN : k = N
    · subst hkN
      refine ⟨len, l1, l2, by rw [hg _ (by omega), layF_sz]; exact l3, fun i hi => ?_, ?_⟩
      · show 97 ≤ (g (143 + 8 * k + i)).toInt ∧ (g (143 + 8 * k + i)).toInt ≤ 122
        rw [hg _ (by omega), layF_let hN (by omega), hf i (by omega)]
        exact l4 i hi
      · rw [updL_at, l5]
        exact lcode_congr (fun i hi => by rw [hg _ (by omega), layF_let hN (by omega), hf i (by omega)])
    · obtain ⟨m, m1, m2, m3, m4, m5⟩ := h.1 k (by omega)
      refine ⟨m, m1, m2, by rw [hg _ (by omega), layF_ne (by omega) (by omega) (by omega) (by omega)]; exact m3, fun i hi => ?_, ?_⟩
      · show 97 ≤ (g (143 + 8 * k + i)).toInt ∧ (g (143 + 8 * k + i)).toInt ≤ 122
        rw [hg _ (by omega), layF_ne (by omega) (by omega) (by omega) (by omega)]
        exact m4 i hi
      · rw [updL_ne hkN, m5]
        exact lcode_congr (fun i hi => by rw [hg _ (by omega), layF_ne (by omega) (by omega) (by omega) (by omega)])
  · rw [hg _ (by omega), layF_ne (by omega) (by omega) (by omega) (by omega)]
    exact h.2 k (by omega) h2
section WD
variable {T U : Nat → Int32} {n lo : Nat} {keys : Nat → Int64} {kd fr to : Int32} {x : Int64} {key wh at7 en tk w2 ns : Int32} {L : Nat → Int32}
theorem room_w {N W C : Nat} (hN : N < 18 ∨ 10 ≤ W) (hW : W ≤ 10) (h18 : N ≤ 18) : PX1_hasRoomFor (nI N) (nI W) (nI C) 0 = if W < 10 then 1 else 0 := by
  have k18 : (18 : Int32).toInt = 18 := by decide
  rw [PX1_hasRoomFor_eq]
  by_cases h1 : W < 10
  · rw [if_pos (show nI N < 18 by rw [fz_lt, k18, nI_toInt (by omega)]; omega), if_pos rfl, if_neg (show ¬ (10 : Int32) ≤ nI W by rw [fz_le, kc_10, nI_toInt (by omega)]; omega), if_pos h1]
  · by_cases h2 : nI N < (18 : Int32)
    · rw [if_pos h2, if_pos rfl, if_pos (show (10 : Int32) ≤ nI W by rw [fz_le, kc_10, nI_toInt (by omega)]; omega), if_neg h1]
    · rw [if_neg h2, if_neg h1]
theorem begin_w {N : Nat} (hN : N < 18) (kind parts ws tw steps below above : Nat → Int32) : ∃ (b8 : Nat → Int32), PX1_beginNode (nI N) kind parts ws tw steps below above 0 = (upd kind N 0, upd parts N 0, upd ws N 0, upd tw N 0, upd steps N 0, b8, upd above N 0) := by
  have k18 : (18 : Int32).toInt = 18 := by decide
  rw [PX1_beginNode_eq, if_neg (show ¬ (18 : Int32) ≤ nI N by rw [fz_le, k18, nI_toInt (by omega)]; omega)]
  dsimp only [lt_]
  rw [if_pos rfl, nI_clamp (by omega)]
  exact ⟨_, rfl⟩
theorem end_w {N W C : Nat} (hN : N < 18) {names : Nat → Int64} {unit : Int32} {kind ws tw : Nat → Int32} (hk : kind N = 0) (nm : Int64) (w : Int32) : PX3_endNode names (nI N) (nI W) (nI C) unit kind ws tw nm w = (vp_updL names N nm, nI (N + 1), nI (W + 1), nI C, unit, upd tw N w) := by
  have k18 : (18 : Int32).toInt = 18 := by decide
  have c : ¬ (18 : Int32) ≤ nI N := by rw [fz_le, k18, nI_toInt (by omega)]; omega
  rw [PX3_endNode_eq, if_neg c, PX1_endNode_eq, if_neg c]
  dsimp only [lt_]
  rw [nI_clamp (by omega), hk, if_pos rfl, if_neg (show ¬ (0 : Int32) = 3 by decide), nI_1, nI_1]
  rfl
/-- a word's line, once its first word is passed -/
theorem word_sim (hK : KwOk keys) (h : TS keys n lo kd fr to x key wh at7 en tk w2 ns L) (hT : TR T U n) (hn : n ≤ 900) {names : Nat → Int64} {told slips throne said : Int32} {N W C Q : Nat} {kind parts pn wt tw uw uo fsh rd fsr : Nat → Int32} (hH : HR N W C Q told (nI N) (nI W) (nI C) (nI Q) slips throne said fsh) (hKR : KR N kind parts pn wt tw fsh rd) (hUR : UR Q uw uo fsh) (hNR : NamesR names fsh N) (hW : W < 10) (ht : ¬ told = 0) (ws steps below above : Nat → Int32) (unit fn fp fa pl fs : Int32) {kd1 fr1 to1 : Int32} {x1 : Int64} {key1 wh1 at1 en1 tk1 w1 ns1 : Int32} {L1 : Nat → Int32} (g1 : PX3_nextToken T (nI n) to x wh keys = (kd1, fr1, to1, x1, key1, wh1)) (g3 : TS keys n lo kd1 fr1 to1 x1 key1 wh1 at1 en1 tk1 w1 ns1 L1) :
    (∃ (kd8 fr8 to8 : Int32) (x8 : Int64) (key8 wh8 at8 en8 tk8 w8 ns8 f8 : Int32) (L8 sr8 : Nat → Int32) (nm8 : Nat → Int64) (k8 p8 s8 t8 e8 b8 a8 F8 R8 : Nat → Int32), TS keys n lo kd8 fr8 to8 x8 key8 wh8 at8 en8 tk8 w8 ns8 L8 ∧ SR nm8 told (nI (N + 1)) (nI (W + 1)) (nI C) (nI Q) slips throne said k8 p8 pn wt t8 uw uo F8 R8 ∧ PX3_readWord fn fp T (nI n) kd fr to x key wh names keys (nI N) (nI W) (nI C) unit kind parts ws tw steps below above = (1, fn, fp, kd8, fr8, to8, x8, key8, wh8, nm8, nI (N + 1), nI (W + 1), nI C, unit, k8, p8, s8, t8, e8, b8, a8) ∧ PX7_wordLine U (nI n) at1 en1 tk1 w1 ns1 fa pl L1 0 fsh rd fsr fs = (at8, en8, tk8, w8, ns8, fa, pl, 0, f8, L8, F8, R8, sr8))
    ∨ ∃ (q z c1 c2 c3 : Int32) (c4 : Int64) (c5 c6 : Int32) (m1 : Nat → Int64) (c7 c8 c9 e1 : Int32) (m2 m3 m4 m5 m6 m7 m8 : Nat → Int32) (d1 d2 d3 d4 d5 d6 : Int32) (M F R S : Nat → Int32), PX3_readWord fn fp T (nI n) kd fr to x key wh names keys (nI N) (nI W) (nI C) unit kind parts ws tw steps below above = (0, q, z, c1, c2, c3, c4, c5, c6, m1, c7, c8, c9, e1, m2, m3, m4, m5, m6, m7, m8) ∧ PX7_wordLine U (nI n) at1 en1 tk1 w1 ns1 fa pl L1 0 fsh rd fsr fs = (d1, d2, d3, d4, d5, q, z, 1, d6, M, F, R, S) := by
  have hN18 := hH.N18
  obtain ⟨a1, a2, a3, a4, a5, a6, a7, a8, a9, b1, b2, b3, b4, b5, b6, b7, b8, b9, c1, c2, c3, c4, c5, c6⟩ := id hH
  have hN : N < 18 := by omega
  obtain ⟨bl, hbg⟩ := begin_w hN kind parts ws tw steps below above
  rw [PX3_readWord_eq, room_w (Or.inl hN) (by omega) hN18, if_pos hW, PX7_wordLine_eq, if_pos rfl]
  dsimp only [lt_]
  rw [if_pos rfl, un7_eq hbg, un6_eq g1]
  rcases new_sim hK g3 hT hn hN18 hNR fn fp fa pl fs fsr with ⟨e1, ⟨len, l1, l2, l3, l4, l5⟩, kd2, fr2, to2, x2, key2, wh2, at9, en9, tk9, w9, ns9, L9, ⟨k1, k2, k3, -⟩, e2⟩ | ⟨q, e1, e2⟩
  · rw [un3_eq e1, if_neg (show ¬ (1 : Int32) = 0 by decide), un6_eq k1, un11_eq e2]
    rcases after_9 hK k3 hT hn 0 99 fn fp fa pl with ⟨kd4, fr4, to4, x4, key4, wh4, kd5, fr5, to5, x5, key5, wh5, at8, en8, tk8, w8, ns8, L8, p1, p2, p3, p4, p5, p6, p7, p8⟩ | ⟨p1, p2⟩ | ⟨kd4, fr4, to4, x4, key4, wh4, q, z, at8, en8, tk8, w8, ns8, L8, p1, p2, p3, p4⟩
    · left
      rw [if_pos (show key2 = 9 from p1), un6_eq p2, un3_eq p3, if_neg (show ¬ (1 : Int32) = 0 by decide), end_w hN (upd_at _ _ _), un6_eq rfl, un6_eq p6, un10_eq p8, if_pos rfl, one_cl, b1, cl_add (c := 72) (by decide) (by omega), lay_eq hN b1, two_cl, layF_ne (by decide) (by omega) (by omega) (by omega), b2, nI_1]
      refine ⟨kd5, fr5, to5, x5, key5, wh5, at8, en8, tk8, w8, ns8, ns1, L8, cpF L1 fsr 0 0 8, vp_updL names N x1, upd kind N 0, upd parts N 0, upd ws N 0, upd (upd tw N 0) N wh4, upd steps N 0, bl, upd above N 0, upd (layF fsh (cpF L1 fsr 0 0 8) ns1 0 N) 2 (nI (W + 1)), upd rd (72 + N) wh4, p7, ⟨N + 1, W + 1, C, Q, ⟨rfl, rfl, rfl, rfl, by omega, by omega, by omega, a8, a9, ?_, upd_at _ _ _, ?_, ?_, ?_, b6, ?_, ?_, ?_, ?_, c2, by omega, c4, c5, fun q => absurd q ht⟩, ⟨fun k hk => ?_, fun k h1 h2 => ?_⟩, fun j hj => ?_, ?_⟩, rfl, rfl⟩
      · rw [upd_ne (by decide), layF_1]
      · rw [upd_ne (by decide), layF_ne (by decide) (by omega) (by omega) (by omega), show N + 1 - (W + 1) = N - W from by omega]; exact b3
      · rw [upd_ne (by decide), layF_ne (by decide) (by omega) (by omega) (by omega)]; exact b4
      · rw [upd_ne (by decide), layF_ne (by decide) (by omega) (by omega) (by omega)]; exact b5
      · rw [upd_ne (by decide), layF_ne (by decide) (by omega) (by omega) (by omega)]; exact b7
      · rw [upd_ne (by decide), layF_ne (by decide) (by omega) (by omega) (by omega)]; exact b8
      · rw [upd_ne (by decide), layF_ne (by decide) (by omega) (by omega) (by omega)]; exact b9
      · rw [upd_ne (by decide), layF_ne (by decide) (by omega) (by omega) (by omega)]; exact c1
      · by_cases hkN : k = N
        · subst hkN
          have q0 := (hKR.2 k (Nat.le_refl _) hN).1
          rw [upd_ne (show ¬ 9 + k = 2 by omega), layF_kd, upd_ne (show ¬ 27 + k = 2 by omega), layF_ne (by omega) (by omega) (by omega) (by omega), q0, upd_at, upd_at, upd_at, upd_at]
          exact ⟨rfl, rfl, rfl, by decide, by decide, fun i hi => absurd hi (by rw [kc_0]; omega)⟩
        · obtain ⟨r1, r2, r3, r4, r5, r6⟩ := hKR.1 k (by omega)
          rw [upd_ne (show ¬ 9 + k = 2 by omega), layF_ne (by omega) (by omega) (by omega) (by omega), upd_ne (show ¬ 27 + k = 2 by omega), layF_ne (by omega) (by omega) (by omega) (by omega), upd_ne hkN, upd_ne hkN, upd_ne hkN, upd_ne hkN, upd_ne (show ¬ 72 + k = 72 + N by omega)]
          refine ⟨r1, r2, r3, r4, r5, fun i hi => ?_⟩
          rw [upd_ne (show ¬ 4 * k + i = 72 + N by omega), upd_ne (show ¬ 45 + 4 * k + i = 2 by omega), layF_ne (by omega) (by omega) (by omega) (by omega)]
          exact r6 i hi
      · obtain ⟨r1, r2⟩ := hKR.2 k (by omega) h2
        rw [upd_ne (show ¬ 27 + k = 2 by omega), layF_ne (by omega) (by omega) (by omega) (by omega), upd_ne (show ¬ 72 + k = 72 + N by omega)]
        exact ⟨r1, r2⟩
      · rw [upd_ne (show ¬ 117 + 2 * j = 2 by omega), layF_ne (by omega) (by omega) (by omega) (by omega), upd_ne (show ¬ 118 + 2 * j = 2 by omega), layF_ne (by omega) (by omega) (by omega) (by omega)]
        exact hUR j hj
      · exact hNR.lay hN l1 l2 l3 l4 l5 (fun i hi => by
          show (if 0 ≤ i ∧ i < 0 + 8 then L1 (0 + (i - 0)) else fsr i) = L1 i
          rw [if_pos (by omega), Nat.zero_add, Nat.sub_zero]) (fun j hj => upd_ne (by omega))
    · right
      rw [if_neg (show ¬ key2 = 9 from p1), fl0, un3_eq rfl, un10_eq p2, if_neg (show ¬ (1 : Int32) = 0 by decide), k3.frq]
      exact ⟨_, _, _, _, _, _, _, _, _, _, _, _, _, _, _, _, _, _, _, _, _, _, _, _, _, _, _, _, _, _, rfl, rfl⟩
    · right
      rw [if_pos (show key2 = 9 from p1), un6_eq p2, un3_eq p3, if_pos rfl, un10_eq p4, if_neg (show ¬ (1 : Int32) = 0 by decide)]
      exact ⟨_, _, _, _, _, _, _, _, _, _, _, _, _, _, _, _, _, _, _, _, _, _, _, _, _, _, _, _, _, _, rfl, rfl⟩
  · right
    rw [un3_eq e1, if_pos rfl, un11_eq e2]
    have af : PX7_after U (nI n) at1 en1 tk1 w1 ns1 q at1 L1 1 0 99 5 (fun j => ([119, 111, 114, 116, 104] : List Int32).getD j 0) = (0, at1, en1, tk1, w1, ns1, q, at1, 1, L1) := by
      rw [PX7_after_eq, PX7_must_eq, if_neg (show ¬ (1 : Int32) = 0 by decide), un9_eq rfl, num_f (by decide), un10_eq rfl]
    rw [un10_eq af, if_neg (show ¬ (1 : Int32) = 0 by decide)]
    exact ⟨_, _, _, _, _, _, _, _, _, _, _, _, _, _, _, _, _, _, _, _, _, _, _, _, _, _, _, _, _, _, rfl, rfl⟩
end WD
