/-! a counsel's line on both sides -/
section RL
variable {T U : Nat → Int32} {n lo : Nat} {keys : Nat → Int64} {kd fr to : Int32} {x : Int64} {key wh at7 en tk w2 ns : Int32} {L : Nat → Int32}
theorem TS.k4 (h : TS keys n lo kd fr to x key wh at7 en tk w2 ns L) : (kd = 4 ∧ tk = 44) ∨ (¬ kd = 4 ∧ ¬ tk = 44) := by
  obtain ⟨a, b, -, -, -, -, -, -, h⟩ := h
  rcases h with ⟨p, q, -⟩ | ⟨p, q, -⟩ | ⟨p, q, -⟩ | ⟨p, q, -⟩ | ⟨p, q, -⟩ | ⟨p, q, -⟩
  · exact Or.inr ⟨by rw [p]; decide, by rw [q]; decide⟩
  · exact Or.inr ⟨by rw [p]; decide, by rw [q]; decide⟩
  · exact Or.inr ⟨by rw [p]; decide, by rw [q]; decide⟩
  · exact Or.inr ⟨by rw [p]; decide, by rw [q]; decide⟩
  · exact Or.inr ⟨by rw [p]; decide, by rw [q]; decide⟩
  · exact Or.inl ⟨p, q⟩
theorem end_r {N W C C2 : Nat} (hN : N < 18) {names : Nat → Int64} {unit p0 : Int32} {kind ws tw : Nat → Int32} (hk : kind N = p0) (h0 : ¬ p0 = 0) (hc : (p0 = 3 ∧ C2 = C + 1) ∨ (¬ p0 = 3 ∧ C2 = C)) (nm : Int64) : ∃ u8 : Int32, PX3_endNode names (nI N) (nI W) (nI C) unit kind ws tw nm 0 = (vp_updL names N nm, nI (N + 1), nI W, nI C2, u8, upd tw N 0) := by
  have k18 : (18 : Int32).toInt = 18 := by decide
  have c : ¬ (18 : Int32) ≤ nI N := by rw [fz_le, k18, nI_toInt (by omega)]; omega
  rw [PX3_endNode_eq, if_neg c, PX1_endNode_eq, if_neg c]
  dsimp only [lt_]
  rw [nI_clamp (by omega), hk, if_neg h0, nI_1]
  rcases hc with ⟨h3, h4⟩ | ⟨h3, h4⟩
  · rw [if_pos h3, h4, nI_1]; exact ⟨_, rfl⟩
  · rw [if_neg h3, h4]; exact ⟨_, rfl⟩
theorem seven_cl : (7 : Int32).toNatClampNeg = 7 := by decide
theorem HR.congr {N W C Q : Nat} {told nodes words chances unsures slips throne said : Int32} {f g : Nat → Int32} (h : HR N W C Q told nodes words chances unsures slips throne said f) (e : ∀ j : Nat, j < 9 → g j = f j) : HR N W C Q told nodes words chances unsures slips throne said g := by
  unfold HR
  rw [e 0 (by decide), e 1 (by decide), e 2 (by decide), e 3 (by decide), e 4 (by decide), e 5 (by decide), e 6 (by decide), e 7 (by decide), e 8 (by decide)]
  exact h
theorem KR.part {N m : Nat} {kind parts pn wt tw fsh rd : Nat → Int32} {u v w : Int32} (h : KR N kind parts pn wt tw fsh rd) (hN : N < 18) (hm : m < 4) : KR N kind (upd parts N u) (upd pn (4 * N + m) v) (upd wt (4 * N + m) w) tw (upd fsh (45 + 4 * N + m) w) (upd rd (4 * N + m) v) := by
  refine ⟨fun k hk => ?_, fun k h1 h2 => ?_⟩
  · obtain ⟨r1, r2, r3, r4, r5, r6⟩ := h.1 k hk
    rw [upd_ne (show ¬ 9 + k = 45 + 4 * N + m by omega), upd_ne (show ¬ 27 + k = 45 + 4 * N + m by omega), upd_ne (show ¬ k = N by omega), upd_ne (show ¬ 72 + k = 4 * N + m by omega)]
    refine ⟨r1, r2, r3, r4, r5, fun i hi => ?_⟩
    rw [upd_ne (show ¬ 4 * k + i = 4 * N + m by omega), upd_ne (show ¬ 4 * k + i = 4 * N + m by omega), upd_ne (show ¬ 4 * k + i = 4 * N + m by omega), upd_ne (show ¬ 45 + 4 * k + i = 45 + 4 * N + m by omega)]
    exact r6 i hi
  · obtain ⟨r1, r2⟩ := h.2 k h1 h2
    rw [upd_ne (show ¬ 27 + k = 45 + 4 * N + m by omega), upd_ne (show ¬ 72 + k = 4 * N + m by omega)]
    exact ⟨r1, r2⟩
theorem begin_r {N : Nat} (hN : N < 18) {p0 : Int32} (h0 : ¬ p0 = 0) (kind parts ws tw steps below above : Nat → Int32) : PX1_beginNode (nI N) kind parts ws tw steps below above p0 = (upd kind N p0, upd parts N 0, upd ws N 0, upd tw N 0, upd steps N 0, upd below N 0, upd above N 0) := by
  have k18 : (18 : Int32).toInt = 18 := by decide
  rw [PX1_beginNode_eq, if_neg (show ¬ (18 : Int32) ≤ nI N by rw [fz_le, k18, nI_toInt (by omega)]; omega)]
  dsimp only [lt_]
  rw [if_neg h0, nI_clamp (by omega)]
theorem room_r {N W C : Nat} (hWN : W ≤ N) (hW : W ≤ 10) (h8 : N - W ≤ 8) (hC : C ≤ 2) {p0 : Int32} (h0 : ¬ p0 = 0) : ((N - W < 8 ∧ (p0 = 3 → C < 2)) → PX1_hasRoomFor (nI N) (nI W) (nI C) p0 = 1) ∧ (¬ (N - W < 8 ∧ (p0 = 3 → C < 2)) → PX1_hasRoomFor (nI N) (nI W) (nI C) p0 = 0) := by
  have k18 : (18 : Int32).toInt = 18 := by decide
  rw [PX1_hasRoomFor_eq]
  dsimp only [lt_]
  rw [nI_sub' hWN (by omega), if_neg h0]
  constructor
  · rintro ⟨h1, h2⟩
    rw [if_pos (show nI N < 18 by rw [fz_lt, k18, nI_toInt (by omega)]; omega), if_neg (show ¬ (8 : Int32) ≤ nI (N - W) by rw [fz_le, kc_8, nI_toInt (by omega)]; omega)]
    by_cases h3 : p0 = 3
    · have := h2 h3
      rw [if_pos h3, if_neg (show ¬ (2 : Int32) ≤ nI C by rw [fz_le, kc_2, nI_toInt (by omega)]; omega)]
    · rw [if_neg h3]
  · intro h1
    by_cases h18 : nI N < (18 : Int32)
    · rw [if_pos h18]
      by_cases h2 : N - W < 8
      · rw [if_neg (show ¬ (8 : Int32) ≤ nI (N - W) by rw [fz_le, kc_8, nI_toInt (by omega)]; omega)]
        by_cases h3 : p0 = 3
        · rw [if_pos h3, if_pos (show (2 : Int32) ≤ nI C by
            rw [fz_le, kc_2, nI_toInt (by omega)]
            rcases Nat.lt_or_ge C 2 with c | c
            · exact absurd ⟨h2, fun _ => c⟩ h1
            · omega)]
        · exact absurd ⟨h2, fun q => absurd q h3⟩ h1
      · rw [if_pos (show (8 : Int32) ≤ nI (N - W) by rw [fz_le, kc_8, nI_toInt (by omega)]; omega)]
    · rw [if_neg h18]
/-- the node is told -/
theorem fin_SR {names : Nat → Int64} {told slips throne said p0 fs : Int32} {N W C C2 Q m len : Nat} {kind parts pn wt tw uw uo fsh rd fsr L0 : Nat → Int32} {nm : Int64} (hH : HR N W C Q told (nI N) (nI W) (nI C) (nI Q) slips throne said fsh) (hKR : KR N kind parts pn wt tw fsh rd) (hUR : UR Q uw uo fsh) (hNR : NamesR names fsh N) (hN : N < 18) (h8 : N - W < 8) (hm : m ≤ 4) (hkN : kind N = p0) (hp : parts N = nI m) (hE : ∀ i : Nat, i < m → pn (4 * N + i) = rd (4 * N + i) ∧ wt (4 * N + i) = fsh (45 + 4 * N + i)) (hC2 : C2 ≤ 2) (ht : ¬ told = 0) (l1 : 1 ≤ len) (l2 : len ≤ 8) (l3 : fs = nI len) (l4 : Lets L0 len) (l5 : nm = lcode L0 len) (hf : ∀ i : Nat, i < 8 → fsr i = L0 i) : SR (vp_updL names N nm) told (nI (N + 1)) (nI W) (nI C2) (nI Q) slips throne said kind parts pn wt (upd tw N 0) uw uo (upd (upd (layF (upd fsh (27 + N) (nI m)) fsr fs p0 N) 7 (nI (N - W + 1))) 8 (nI C2)) rd := by
  obtain ⟨a1, a2, a3, a4, a5, a6, a7, a8, a9, b1, b2, b3, b4, b5, b6, b7, b8, b9, c1, c2, c3, c4, c5, c6⟩ := id hH
  have lo : ∀ j : Nat, ¬ j = 1 → j < 7 → upd (upd (layF (upd fsh (27 + N) (nI m)) fsr fs p0 N) 7 (nI (N - W + 1))) 8 (nI C2) j = fsh j := fun j h1 h2 => by
    rw [upd_ne (by omega), upd_ne (by omega), layF_ne (by omega) (by omega) (by omega) (by omega), upd_ne (by omega)]
  have hi : ∀ j : Nat, 9 ≤ j → j < 125 → ¬ j = 9 + N → ¬ j = 27 + N → upd (upd (layF (upd fsh (27 + N) (nI m)) fsr fs p0 N) 7 (nI (N - W + 1))) 8 (nI C2) j = fsh j := fun j h1 h2 h3 h4 => by
    rw [upd_ne (by omega), upd_ne (by omega), layF_ne (by omega) (by omega) (by omega) (by omega), upd_ne (by omega)]
  refine ⟨N + 1, W, C2, Q, ⟨rfl, rfl, rfl, rfl, by omega, a6, by omega, hC2, a9, ?_, ?_, ?_, upd_at _ _ _, ?_, b6, ?_, ?_, ?_, ?_, c2, by omega, c4, c5, fun q => absurd q ht⟩, ⟨fun k hk => ?_, fun k h1 h2 => ?_⟩, hUR.congr a9 (fun j q1 q2 => hi j (by omega) (by omega) (by omega) (by omega)), ?_⟩
  · rw [upd_ne (by decide), upd_ne (by decide), layF_1]
  · rw [lo 2 (by decide) (by decide)]; exact b2
  · rw [upd_ne (by decide), upd_at, show N + 1 - W = N - W + 1 from by omega]
  · rw [lo 3 (by decide) (by decide)]; exact b5
  · rw [lo 5 (by decide) (by decide)]; exact b7
  · rw [lo 0 (by decide) (by decide)]; exact b8
  · rw [lo 6 (by decide) (by decide)]; exact b9
  · rw [lo 4 (by decide) (by decide)]; exact c1
  · by_cases hkk : k = N
    · subst hkk
      have q0 := (hKR.2 k (Nat.le_refl _) hN).2
      have e1 : upd (upd (layF (upd fsh (27 + k) (nI m)) fsr fs p0 k) 7 (nI (k - W + 1))) 8 (nI C2) (9 + k) = p0 := by rw [upd_ne (by omega), upd_ne (by omega), layF_kd]
      have e2 : upd (upd (layF (upd fsh (27 + k) (nI m)) fsr fs p0 k) 7 (nI (k - W + 1))) 8 (nI C2) (27 + k) = nI m := by rw [upd_ne (by omega), upd_ne (by omega), layF_ne (by omega) (by omega) (by omega) (by omega), upd_at]
      rw [e1, e2, upd_at, q0, nI_toInt (by omega)]
      refine ⟨hkN, hp, rfl, by omega, by omega, fun i hi2 => ?_⟩
      rw [hi (45 + 4 * k + i) (by omega) (by omega) (by omega) (by omega)]
      exact hE i (by omega)
    · obtain ⟨r1, r2, r3, r4, r5, r6⟩ := hKR.1 k (by omega)
      rw [hi (9 + k) (by omega) (by omega) (by omega) (by omega), hi (27 + k) (by omega) (by omega) (by omega) (by omega), upd_ne hkk]
      refine ⟨r1, r2, r3, r4, r5, fun i hi2 => ?_⟩
      rw [hi (45 + 4 * k + i) (by omega) (by omega) (by omega) (by omega)]
      exact r6 i hi2
  · rw [hi (27 + k) (by omega) (by omega) (by omega) (by omega)]
    exact hKR.2 k (by omega) h2
  · have h0 : NamesR names (upd fsh (27 + N) (nI m)) N := hNR.congr (by omega) (fun j q1 q2 => upd_ne (by omega))
    exact h0.lay hN l1 l2 l3 l4 l5 hf (fun j hj => by rw [upd_ne (by omega), upd_ne (by omega)])
/-- the parts behind the first -/
theorem rl_loop (hK : KwOk keys) (hT : TR T U n) (hn : n ≤ 900) {names : Nat → Int64} {told slips throne said p0 fs unit fn fp fa pl : Int32} {N W C C2 Q len : Nat} {kind tw uw uo fsr L0 : Nat → Int32} {nm : Int64} (hN : N < 18) (h8 : N - W < 8) (hkN : kind N = p0) (h0 : ¬ p0 = 0) (hc : (p0 = 3 ∧ C2 = C + 1) ∨ (¬ p0 = 3 ∧ C2 = C)) (hC2 : C2 ≤ 2) (ht : ¬ told = 0) (l1 : 1 ≤ len) (l2 : len ≤ 8) (l3 : fs = nI len) (l4 : Lets L0 len) (l5 : nm = lcode L0 len) (hf : ∀ i : Nat, i < 8 → fsr i = L0 i) : ∀ (r m f1 f2 : Nat) (kd fr to : Int32) (x : Int64) (key wh at7 en tk w2 ns : Int32) (L parts pn wt ws steps below above fsh rd : Nat → Int32), 4 - m = r → 1 ≤ m → m ≤ 4 → 6 - m ≤ f1 → 5 - m ≤ f2 → TS keys n lo kd fr to x key wh at7 en tk w2 ns L → HR N W C Q told (nI N) (nI W) (nI C) (nI Q) slips throne said fsh → KR N kind parts pn wt tw fsh rd → UR Q uw uo fsh → NamesR names fsh N → parts N = nI m → (∀ i : Nat, i < m → pn (4 * N + i) = rd (4 * N + i) ∧ wt (4 * N + i) = fsh (45 + 4 * N + i)) →
    (∃ (kd8 fr8 to8 : Int32) (x8 : Int64) (key8 wh8 at8 en8 tk8 w8 ns8 u8 : Int32) (L8 p8 n8 v8 s8 e8 b8 a8 F8 R8 : Nat → Int32), TS keys n lo kd8 fr8 to8 x8 key8 wh8 at8 en8 tk8 w8 ns8 L8 ∧ SR (vp_updL names N nm) told (nI (N + 1)) (nI W) (nI C2) (nI Q) slips throne said kind p8 n8 v8 (upd tw N 0) uw uo F8 R8 ∧ HX3_readRuler_0 T (nI n) names keys (nI N) (nI W) (nI C) unit p0 kind tw nm f1 (nI (m - 1)) 1 fn fp kd fr to x key wh parts pn wt ws steps below above = (1, fn, fp, kd8, fr8, to8, x8, key8, wh8, vp_updL names N nm, nI (N + 1), nI W, nI C2, u8, kind, p8, n8, v8, s8, upd tw N 0, e8, b8, a8) ∧ (if tk = 44 then un6_ (PX7_next U (nI n) en L) (fun a b c d e M => HX7_innerLine_0 U (nI n) p0 fs fsr (nI N) f2 (nI m) 1 a b c d e fa pl 0 M fsh rd) else HX7_innerLine_0 U (nI n) p0 fs fsr (nI N) f2 (nI m) 0 at7 en tk w2 ns fa pl 0 L fsh rd) = (at8, en8, tk8, w8, ns8, fa, pl, 0, fs, L8, F8, R8, fsr))
    ∨ ∃ (q z c1 c2 c3 : Int32) (c4 : Int64) (c5 c6 : Int32) (m1 : Nat → Int64) (c7 c8 c9 e1 : Int32) (m2 m3 m4 m5 m6 m7 m8 m9 y1 : Nat → Int32) (d1 d2 d3 d4 d5 d6 : Int32) (M F R S : Nat → Int32), HX3_readRuler_0 T (nI n) names keys (nI N) (nI W) (nI C) unit p0 kind tw nm f1 (nI (m - 1)) 1 fn fp kd fr to x key wh parts pn wt ws steps below above = (0, q, z, c1, c2, c3, c4, c5, c6, m1, c7, c8, c9, e1, m2, m3, m4, m5, m6, m7, m8, m9, y1) ∧ (if tk = 44 then un6_ (PX7_next U (nI n) en L) (fun a b c d e M => HX7_innerLine_0 U (nI n) p0 fs fsr (nI N) f2 (nI m) 1 a b c d e fa pl 0 M fsh rd) else HX7_innerLine_0 U (nI n) p0 fs fsr (nI N) f2 (nI m) 0 at7 en tk w2 ns fa pl 0 L fsh rd) = (d1, d2, d3, d4, d5, q, z, 1, d6, M, F, R, S) := by
  intro r
  induction r using Nat.strongRecOn with
  | ind r ih =>
    intro m f1 f2 kd fr to x key wh at7 en tk w2 ns L parts pn wt ws steps below above fsh rd hr h1 h4 hf1 hf2 hTS hH hKR hUR hNR hp hE
    have hN18 : N ≤ 18 := by omega
    obtain ⟨a1, a2, a3, a4, a5, a6, a7, a8, a9, b1, b2, b3, b4, b5, b6, b7, b8, b9, c1, c2, c3, c4, c5, c6⟩ := id hH
    obtain ⟨f1, rfl⟩ : ∃ g, f1 = g + 1 := ⟨f1 - 1, by omega⟩
    obtain ⟨f2, rfl⟩ : ∃ g, f2 = g + 1 := ⟨f2 - 1, by omega⟩
    rw [HX3_readRuler_0_eq, if_neg (show ¬ (4 : Int32) < nI (m - 1) by rw [fz_lt, kc_4, nI_toInt (by omega)]; omega), if_neg (show ¬ (1 : Int32) = 0 by decide)]
    dsimp only [lt_]
    rcases hTS.k4 with ⟨k1, k2⟩ | ⟨k1, k2⟩
    · rw [if_pos k1, if_pos k2]
      obtain ⟨kd1, fr1, to1, x1, key1, wh1, at1, en1, tk1, w1, ns1, L1, g1, g2, g3, -⟩ := hTS.next hT hn x wh L
      rw [un6_eq g1, un6_eq g2, HX7_innerLine_0_eq, if_neg (show ¬ (1 : Int32) = 0 by decide), if_pos rfl, nI_o1, show m - 1 + 1 = m from by omega]
      rcases part_sim hK g3 hT hn hN h4 hp (fun i hi => (hE i hi).1) hNR wt ws steps below above p0 fn fp fa pl fs (rd := rd) (fsr := fsr) (fun z1 z2 z3 z4 z5 z6 z7 z8 z9 y0 y1 y2 y3 => HX7_innerLine_0 U (nI n) p0 fs fsr (nI N) f2 z1 z2 z3 z4 z5 z6 z7 z8 z9 y0 y1 y2 y3) with ⟨kd8, fr8, to8, x8, key8, wh8, at8, en8, tk8, w8, ns8, L8, j, w, s8, e8, q8, z8, hm4, e1, e2, e3⟩ | ⟨q, z, v1, v2, v3, v4, v5, v6, m1, m2, m3, m4, m5, m6, m7, d1, d2, d3, d4, d5, M, e1, e2⟩
      · have hih := ih (4 - (m + 1)) (by omega) (m + 1) f1 f2 kd8 fr8 to8 x8 key8 wh8 at8 en8 tk8 w8 ns8 L8 (upd parts N (nI (m + 1))) (upd pn (4 * N + m) (nI j)) (upd wt (4 * N + m) w) s8 e8 q8 z8 (upd fsh (45 + 4 * N + m) w) (upd rd (4 * N + m) (nI j)) rfl (by omega) (by omega) (by omega) (by omega) e1 (hH.congr (fun i hi => upd_ne (by omega))) (hKR.part hN hm4) (hUR.congr a9 (fun i z1 z2 => upd_ne (by omega))) (hNR.congr hN18 (fun i z1 z2 => upd_ne (by omega))) (upd_at _ _ _) (fun i hi => by
          by_cases hi2 : i = m
          · rw [hi2, upd_at, upd_at, upd_at, upd_at]; exact ⟨rfl, rfl⟩
          · rw [upd_ne (by omega), upd_ne (by omega), upd_ne (by omega), upd_ne (by omega)]; exact hE i (by omega))
        rw [Nat.add_sub_cancel] at hih
        rw [un16_eq e2, e3]
        exact hih
      · right
        obtain ⟨f1, rfl⟩ : ∃ g, f1 = g + 1 := ⟨f1 - 1, by omega⟩
        rw [un16_eq e1, HX3_readRuler_0_eq, if_neg (show ¬ (4 : Int32) < nI m by rw [fz_lt, kc_4, nI_toInt (by omega)]; omega), if_pos rfl, if_pos rfl, e2]
        exact ⟨_, _, _, _, _, _, _, _, _, _, _, _, _, _, _, _, _, _, _, _, _, _, _, _, _, _, _, _, _, _, _, _, rfl, rfl⟩
    · left
      obtain ⟨u8, he⟩ := end_r (W := W) (names := names) (unit := unit) (ws := ws) (tw := tw) hN hkN h0 hc nm
      have e1 : upd fsh (27 + N) (nI m) 1 = nI N := by rw [upd_ne (by omega)]; exact b1
      have e7 : layF (upd fsh (27 + N) (nI m)) fsr fs p0 N 7 = nI (N - W) := by rw [layF_ne (by omega) (by omega) (by omega) (by omega), upd_ne (by omega)]; exact b3
      have e8 : upd (layF (upd fsh (27 + N) (nI m)) fsr fs p0 N) 7 (nI (N - W + 1)) 8 = nI C := by rw [upd_ne (by decide), layF_ne (by omega) (by omega) (by omega) (by omega), upd_ne (by omega)]; exact b4
      rw [if_neg k1, if_neg (show ¬ (1 : Int32) = 0 by decide), un6_eq he, if_neg k2, HX7_innerLine_0_eq, if_pos rfl, if_pos rfl]
      dsimp only [lt_]
      rw [cl_add (c := 27) (by decide) (by omega), lay_eq hN e1, seven_cl, e7, nI_1, eight_cl, e8]
      refine ⟨kd, fr, to, x, key, wh, at7, en, tk, w2, ns, u8, L, parts, pn, wt, ws, steps, below, above, upd (upd (layF (upd fsh (27 + N) (nI m)) fsr fs p0 N) 7 (nI (N - W + 1))) 8 (nI C2), rd, hTS, fin_SR hH hKR hUR hNR hN h8 h4 hkN hp hE hC2 ht l1 l2 l3 l4 l5 hf, rfl, ?_⟩
      rcases hc with ⟨h3, hq⟩ | ⟨h3, hq⟩
      · rw [if_pos h3, nI_1, hq]
      · rw [if_neg h3, Int32.add_zero, hq]
theorem room_b (a : Int32) {b : Nat} (hb : a.toInt = (b : Int)) {k : Nat} (hk : k < 2 ^ 31) : (if a ≤ nI k then (0 : Int32) else 1) = if k < b then 1 else 0 := by
  by_cases h : k < b
  · rw [if_neg (show ¬ a ≤ nI k by rw [fz_le, hb, nI_toInt hk]; omega), if_pos h]
  · rw [if_pos (show a ≤ nI k by rw [fz_le, hb, nI_toInt hk]; omega), if_neg h]
/-- a counsel's line, once its first word is passed -/
theorem ruler_sim (hK : KwOk keys) (h : TS keys n lo kd fr to x key wh at7 en tk w2 ns L) (hT : TR T U n) (hn : n ≤ 900) {names : Nat → Int64} {told slips throne said p0 : Int32} {N W C C2 Q : Nat} {kind parts pn wt tw uw uo fsh rd fsr : Nat → Int32} (hH : HR N W C Q told (nI N) (nI W) (nI C) (nI Q) slips throne said fsh) (hKR : KR N kind parts pn wt tw fsh rd) (hUR : UR Q uw uo fsh) (hNR : NamesR names fsh N) (h8 : N - W < 8) (h0 : ¬ p0 = 0) (hc : (p0 = 3 ∧ C2 = C + 1) ∨ (¬ p0 = 3 ∧ C2 = C)) (hC2 : C2 ≤ 2) (ht : ¬ told = 0) (ws steps below above : Nat → Int32) (unit fn fp fa pl fs : Int32) {kd1 fr1 to1 : Int32} {x1 : Int64} {key1 wh1 at1 en1 tk1 w1 ns1 : Int32} {L1 : Nat → Int32} (g1 : PX3_nextToken T (nI n) to x wh keys = (kd1, fr1, to1, x1, key1, wh1)) (g3 : TS keys n lo kd1 fr1 to1 x1 key1 wh1 at1 en1 tk1 w1 ns1 L1) :
    (∃ (kd8 fr8 to8 : Int32) (x8 : Int64) (key8 wh8 at8 en8 tk8 w8 ns8 u8 f8 : Int32) (L8 sr8 : Nat → Int32) (nm8 : Nat → Int64) (k8 p8 n8 v8 s8 t8 e8 b8 a8 F8 R8 : Nat → Int32), TS keys n lo kd8 fr8 to8 x8 key8 wh8 at8 en8 tk8 w8 ns8 L8 ∧ SR nm8 told (nI (N + 1)) (nI W) (nI C2) (nI Q) slips throne said k8 p8 n8 v8 t8 uw uo F8 R8 ∧ PX3_readRuler fn fp T (nI n) kd fr to x key wh names keys (nI N) (nI W) (nI C) unit kind parts pn wt ws tw steps below above p0 = (1, fn, fp, kd8, fr8, to8, x8, key8, wh8, nm8, nI (N + 1), nI W, nI C2, u8, k8, p8, n8, v8, s8, t8, e8, b8, a8) ∧ PX7_innerLine U (nI n) at1 en1 tk1 w1 ns1 fa pl L1 0 fsh rd fsr fs p0 = (at8, en8, tk8, w8, ns8, fa, pl, 0, f8, L8, F8, R8, sr8))
    ∨ ∃ (q z c1 c2 c3 : Int32) (c4 : Int64) (c5 c6 : Int32) (m1 : Nat → Int64) (c7 c8 c9 e1 : Int32) (m2 m3 m4 m5 m6 m7 m8 m9 y1 : Nat → Int32) (d1 d2 d3 d4 d5 d6 : Int32) (M F R S : Nat → Int32), PX3_readRuler fn fp T (nI n) kd fr to x key wh names keys (nI N) (nI W) (nI C) unit kind parts pn wt ws tw steps below above p0 = (0, q, z, c1, c2, c3, c4, c5, c6, m1, c7, c8, c9, e1, m2, m3, m4, m5, m6, m7, m8, m9, y1) ∧ PX7_innerLine U (nI n) at1 en1 tk1 w1 ns1 fa pl L1 0 fsh rd fsr fs p0 = (d1, d2, d3, d4, d5, q, z, 1, d6, M, F, R, S) := by
  have hN18 := hH.N18
  obtain ⟨a1, a2, a3, a4, a5, a6, a7, a8, a9, b1, b2, b3, b4, b5, b6, b7, b8, b9, c1, c2, c3, c4, c5, c6⟩ := id hH
  have hN : N < 18 := by omega
  rw [PX3_readRuler_eq, (room_r a5 a6 a7 a8 h0).1 ⟨h8, fun q => by rcases hc with ⟨_, e⟩ | ⟨e, _⟩; omega; exact absurd q e⟩, begin_r hN h0, PX7_innerLine_eq, if_pos rfl]
  dsimp only [lt_]
  rw [if_pos rfl, un7_eq rfl, un6_eq g1, one_cl, b1]
  rcases new_sim hK g3 hT hn hN18 hNR fn fp fa pl fs fsr with ⟨e1, ⟨len, l1, l2, l3, l4, l5⟩, kd2, fr2, to2, x2, key2, wh2, at9, en9, tk9, w9, ns9, L9, ⟨k1, k2, k3, -⟩, e2⟩ | ⟨q, e1, e2⟩
  · rw [un3_eq e1, if_neg (show ¬ (1 : Int32) = 0 by decide), un6_eq k1, un11_eq e2, show ((4 - (0 : Int32).toInt).toNat) + 1 = 4 + 1 from by rw [kc_0]; rfl, HX7_innerLine_0_eq, if_neg (show ¬ (1 : Int32) = 0 by decide), if_pos rfl]
    have hKR0 : KR N (upd kind N p0) (upd parts N 0) pn wt (upd tw N 0) fsh rd := by
      refine ⟨fun k hk => ?_, hKR.2⟩
      rw [upd_ne (by omega), upd_ne (by omega), upd_ne (by omega)]
      exact hKR.1 k hk
    have hcp : ∀ i : Nat, i < 8 → cpF L1 fsr 0 0 8 i = L1 i := fun i hi => by
      show (if 0 ≤ i ∧ i < 0 + 8 then L1 (0 + (i - 0)) else fsr i) = L1 i
      rw [if_pos (by omega), Nat.zero_add, Nat.sub_zero]
    rcases part_sim hK k3 hT hn hN (m := 0) (by omega) (show upd parts N 0 N = nI 0 by rw [upd_at]; rfl) (pn := pn) (rd := rd) (fun i hi => absurd hi (by omega)) hNR wt (upd ws N 0) (upd steps N 0) (upd below N 0) (upd above N 0) p0 fn fp fa pl ns1 (fsr := cpF L1 fsr 0 0 8) (fun z1 z2 z3 z4 z5 z6 z7 z8 z9 y0 y1 y2 y3 => HX7_innerLine_0 U (nI n) p0 ns1 (cpF L1 fsr 0 0 8) (nI N) 4 z1 z2 z3 z4 z5 z6 z7 z8 z9 y0 y1 y2 y3) with ⟨kd8, fr8, to8, x8, key8, wh8, at8, en8, tk8, w8, ns8, L8, j, w, s8, e8, q8, z8, hm4, p1, p2, p3⟩ | ⟨q, z, v1, v2, v3, v4, v5, v6, m1, m2, m3, m4, m5, m6, m7, d1, d2, d3, d4, d5, M, p1, p2⟩
    · rw [nI_0] at p3
      rw [un16_eq p2, p3]
      have hl := rl_loop (fn := fn) (fp := fp) (fa := fa) (pl := pl) (unit := unit) (told := told) (slips := slips) (throne := throne) (said := said) (Q := Q) (uw := uw) (uo := uo) (names := names) (W := W) (C := C) hK hT hn hN h8 (show upd kind N p0 N = p0 from upd_at _ _ _) h0 hc hC2 ht l1 l2 l3 l4 l5 hcp 3 1 (((5 - (0 : Int32).toInt).toNat) + 1) 4 kd8 fr8 to8 x8 key8 wh8 at8 en8 tk8 w8 ns8 L8 (upd (upd parts N 0) N (nI (0 + 1))) (upd pn (4 * N + 0) (nI j)) (upd wt (4 * N + 0) w) s8 e8 q8 z8 (upd fsh (45 + 4 * N + 0) w) (upd rd (4 * N + 0) (nI j)) rfl (by omega) (by omega) (by rw [kc_0]; omega) (by omega) p1 (hH.congr (fun i hi => upd_ne (by omega))) (hKR0.part hN hm4) (hUR.congr a9 (fun i z1 z2 => upd_ne (by omega))) (hNR.congr hN18 (fun i z1 z2 => upd_ne (by omega))) (upd_at _ _ _) (fun i hi => by
          obtain rfl : i = 0 := by omega
          rw [upd_at, upd_at, upd_at, upd_at]; exact ⟨rfl, rfl⟩)
      rw [show nI (1 - 1) = 0 from rfl] at hl
      rcases hl with ⟨kd6, fr6, to6, x6, key6, wh6, at6, en6, tk6, w6, ns6, u6, L6, p6, n6, v6, s6, e6, b6, a6, F6, R6, q1, q2, q3, q4⟩ | ⟨q, z, v1, v2, v3, v4, v5, v6, m1, v7, v8, v9, o1, m2, m3, m4, m5, m6, m7, m8, m9, y1, d1, d2, d3, d4, d5, d6, M, F, R, S, q1, q2⟩
      · left
        exact ⟨kd6, fr6, to6, x6, key6, wh6, at6, en6, tk6, w6, ns6, u6, ns1, L6, cpF L1 fsr 0 0 8, vp_updL names N x1, upd kind N p0, p6, n6, v6, s6, upd (upd tw N 0) N 0, e6, b6, a6, F6, R6, q1, q2, q3, q4⟩
      · right
        exact ⟨q, z, v1, v2, v3, v4, v5, v6, m1, v7, v8, v9, o1, m2, m3, m4, m5, m6, m7, m8, m9, y1, d1, d2, d3, d4, d5, d6, M, F, R, S, q1, q2⟩
    · right
      rw [nI_0] at p2
      rw [un16_eq p1, show ((5 - (0 : Int32).toInt).toNat) + 1 = 5 + 1 from by rw [kc_0]; rfl, HX3_readRuler_0_eq, if_neg (show ¬ (4 : Int32) < 0 by decide), if_pos rfl, if_pos rfl, p2]
      exact ⟨_, _, _, _, _, _, _, _, _, _, _, _, _, _, _, _, _, _, _, _, _, _, _, _, _, _, _, _, _, _, _, _, rfl, rfl⟩
  · right
    rw [un3_eq e1, if_pos rfl, un11_eq e2, show ((4 - (0 : Int32).toInt).toNat) + 1 = 4 + 1 from by rw [kc_0]; rfl, HX7_innerLine_0_eq, if_neg (show ¬ (1 : Int32) = 0 by decide), if_neg (show ¬ (1 : Int32) = 0 by decide), if_neg (show ¬ (1 : Int32) = 0 by decide)]
    exact ⟨_, _, _, _, _, _, _, _, _, _, _, _, _, _, _, _, _, _, _, _, _, _, _, _, _, _, _, _, _, _, _, _, rfl, rfl⟩
end RL
