set_option maxHeartbeats 4000000 in
set_option maxRecDepth 100000 in
theorem law_loop {p : Program} {l : Launch} {e : Env} {s : State} {m : MethodId} {below : List Frame} {meth : Method} {c : Code} {b L : Nat} {xs : Nat → Int32} (C0 : lw_At p s m meth c b L xs) (hL : L ≤ 384) {A : Nat → Prop} (hA : ∀ q, s.heap.size ≤ q → A q) (hAs : ∀ q, A q → s.heap.size ≤ q) (hE : Ev A s s.heap) (hX9 : Ex A s s.heap) (hl8 : l.stackTraces = false) {dC : Nat → ClassId} {dI : Nat → Nat → Nat} {oK oM oO : Nat} : ∀ (n i cells slots : Nat) (H : Heap) (locs : List Loc) (ls : Array Slot), L + 6 ≤ i + 6 * n → i ≤ L + 6 → cells + n ≤ 600128 → slots + 6 * n ≤ 7301097 → LwS dC dI A s H oK oM oO → va_S A s.heap H locs → lv_has ls 7 [(4, .int (nI i)), (3, .ref oO), (2, .ref oM), (1, .ref oK), (0, .ref b)] → W p l e room_1 s m #[Value.ref b] below meth c H locs (cells) (slots) (lw_Z below #[Value.ref b] s) (F0 m 23 ls []) := by
  intro n
  induction n with
  | zero => intro i cells slots H locs ls h1 h2 h3 h4 hI hS hl; exact law_exit C0 hL hA hAs hE hX9 hl8 (dC := dC) (dI := dI) (by omega) (by omega) (by omega) (by omega) hS hl
  | succ n ih =>
    intro i cells slots H locs ls h1 h2 h3 h4 hI hS hl
    rcases Nat.lt_or_ge L (i + 6) with h9 | hi
    · exact law_exit C0 hL hA hAs hE hX9 hl8 (dC := dC) (dI := dI) h9 h2 (by omega) (by omega) hS hl
    have kk : ∀ (H : Heap) (locs : List Loc) (ls : Array Slot), LwS dC dI A s H oK oM oO → va_S A s.heap H locs → lv_has ls 7 [(4, .int (nI i)), (3, .ref oO), (2, .ref oM), (1, .ref oK), (0, .ref b)] → W p l e room_1 s m #[Value.ref b] below meth c H locs (cells + 1) (slots + 6) (lw_Z below #[Value.ref b] s) (F0 m 1827 ls []) := by
      intro H locs ls hI hS hl
      obtain ⟨hx, hb, hr, hml, hown, hts0, hX, hbl, hlocks, hgv⟩ := id C0
      refine lv_iinc (v := nI (i + 6)) (lv' := [(4, .int (nI (i + 6))), (3, .ref oO), (2, .ref oM), (1, .ref oK), (0, .ref b)]) hx hb dL_law_1827 hl (k := 0) rfl (nI_p6 i) (by decide) rfl (fun ls hl => ?_)
      refine lv_goto (tgt := 23) hx hb dL_law_1830 (by decide) ?_
      exact ih (i + 6) (cells + 1) (slots + 6) _ _ _ (by omega) (by omega) (by omega) (by omega) hI hS hl
    obtain ⟨hx, hb, hr, hml, hown, hts0, hX, hbl, hlocks, hgv⟩ := id C0
    have hbA : ¬ A b := fun h => Nat.lt_irrefl _ (Nat.lt_of_lt_of_le hbl (hAs b h))
    refine lv_iload hx hb dL_law_23 (lv_at hl 0 rfl) ?_
    refine lv_aload_n hx hb dL_law_25 rfl (lv_at hl 4 rfl) ?_
    refine va_slen hx hb hX hbl hbA hS dL_law_26 ?_
    refine lv_bipush (v := 6) hx hb dL_law_27 (by decide) ?_
    refine lv_isub hx hb dL_law_29 ?_
    refine lv_topi (fun y ey => ?_)
    have hy : y.toInt = (L : Int) - 6 := ti_sub ey (nI_toInt (n := L) (by omega)) kc_6 (by omega) (by omega)
    refine lv_icmp_gt (tgt := 1833) hx hb dL_law_30 (by decide) (fun c => absurd ((fz_lt y (nI i)).mp c) (by rw [hy, nI_toInt (by omega)]; omega)) (fun _ => ?_)
    refine lv_aload_n hx hb dL_law_33 rfl (lv_at hl 4 rfl) ?_
    refine lv_iload hx hb dL_law_34 (lv_at hl 0 rfl) ?_
    refine va_sld hx hb hX hbl hbA hS (vp_in_nI (show i < L by omega) (by omega)) dL_law_36 ?_
    refine lv_bipush (v := 63) hx hb dL_law_37 (by decide) ?_
    refine lv_iand hx hb dL_law_39 ?_
    refine lv_topi (fun z ez => ?_)
    obtain ⟨j, hj, ej⟩ := pk_andE (xs (nI i).toNatClampNeg) (m := 63) 6 (by decide)
    obtain rfl : z = nI j := ez.trans ej
    have hc : cells + 1 ≤ 600128 := by omega
    have hs : slots + 6 ≤ 7301097 := by omega
    rcases (show j = 0 ∨ j = 1 ∨ j = 2 ∨ j = 3 ∨ j = 4 ∨ j = 5 ∨ j = 6 ∨ j = 7 ∨ j = 8 ∨ j = 9 ∨ j = 10 ∨ j = 11 ∨ j = 12 ∨ j = 13 ∨ j = 14 ∨ j = 15 ∨ j = 16 ∨ j = 17 ∨ j = 18 ∨ j = 19 ∨ j = 20 ∨ j = 21 ∨ j = 22 ∨ j = 23 ∨ j = 24 ∨ j = 25 ∨ j = 26 ∨ j = 27 ∨ j = 28 ∨ j = 29 ∨ j = 30 ∨ j = 31 ∨ j = 32 ∨ j = 33 ∨ j = 34 ∨ j = 35 ∨ j = 36 ∨ j = 37 ∨ j = 38 ∨ j = 39 ∨ j = 40 ∨ j = 41 ∨ j = 42 ∨ j = 43 ∨ j = 44 ∨ j = 45 ∨ j = 46 ∨ j = 47 ∨ j = 48 ∨ j = 49 ∨ j = 50 ∨ j = 51 ∨ j = 52 ∨ j = 53 ∨ j = 54 ∨ j = 55 ∨ j = 56 ∨ j = 57 ∨ j = 58 ∨ j = 59 ∨ j = 60 ∨ j = 61 ∨ j = 62 ∨ j = 63 by omega) with rfl | rfl | rfl | rfl | rfl | rfl | rfl | rfl | rfl | rfl | rfl | rfl | rfl | rfl | rfl | rfl | rfl | rfl | rfl | rfl | rfl | rfl | rfl | rfl | rfl | rfl | rfl | rfl | rfl | rfl | rfl | rfl | rfl | rfl | rfl | rfl | rfl | rfl | rfl | rfl | rfl | rfl | rfl | rfl | rfl | rfl | rfl | rfl | rfl | rfl | rfl | rfl | rfl | rfl | rfl | rfl | rfl | rfl | rfl | rfl | rfl | rfl | rfl | rfl
    · refine lv_tableIn (off := 240) (tgt := 280) hx hb dL_law_40 (by decide) (by decide) (by decide) (by decide) ?_
      exact law_c0 C0 hL hA hAs hE hX9 hl8 hi hc hs hI hS hl kk
    · refine lv_tableIn (off := 313) (tgt := 353) hx hb dL_law_40 (by decide) (by decide) (by decide) (by decide) ?_
      exact law_c1 C0 hL hA hAs hE hX9 hl8 hi hc hs hI hS hl kk
    · refine lv_tableIn (off := 338) (tgt := 378) hx hb dL_law_40 (by decide) (by decide) (by decide) (by decide) ?_
      exact law_c2 C0 hL hA hAs hE hX9 hl8 hi hc hs hI hS hl kk
    · refine lv_tableIn (off := 351) (tgt := 391) hx hb dL_law_40 (by decide) (by decide) (by decide) (by decide) ?_
      exact law_c3 C0 hL hA hAs hE hX9 hl8 hi hc hs hI hS hl kk
    · refine lv_tableIn (off := 364) (tgt := 404) hx hb dL_law_40 (by decide) (by decide) (by decide) (by decide) ?_
      exact law_c4 C0 hL hA hAs hE hX9 hl8 hi hc hs hI hS hl kk
    · refine lv_tableIn (off := 401) (tgt := 441) hx hb dL_law_40 (by decide) (by decide) (by decide) (by decide) ?_
      exact law_c5 C0 hL hA hAs hE hX9 hl8 hi hc hs hI hS hl kk
    · refine lv_tableIn (off := 438) (tgt := 478) hx hb dL_law_40 (by decide) (by decide) (by decide) (by decide) ?_
      exact law_c6 C0 hL hA hAs hE hX9 hl8 hi hc hs hI hS hl kk
    · refine lv_tableIn (off := 475) (tgt := 515) hx hb dL_law_40 (by decide) (by decide) (by decide) (by decide) ?_
      exact law_c7 C0 hL hA hAs hE hX9 hl8 hi hc hs hI hS hl kk
    · refine lv_tableIn (off := 488) (tgt := 528) hx hb dL_law_40 (by decide) (by decide) (by decide) (by decide) ?_
      exact law_c8 C0 hL hA hAs hE hX9 hl8 hi hc hs hI hS hl kk
    · refine lv_tableIn (off := 541) (tgt := 581) hx hb dL_law_40 (by decide) (by decide) (by decide) (by decide) ?_
      exact law_c9 C0 hL hA hAs hE hX9 hl8 hi hc hs hI hS hl kk
    · refine lv_tableIn (off := 566) (tgt := 606) hx hb dL_law_40 (by decide) (by decide) (by decide) (by decide) ?_
      exact law_c10 C0 hL hA hAs hE hX9 hl8 hi hc hs hI hS hl kk
    · refine lv_tableIn (off := 579) (tgt := 619) hx hb dL_law_40 (by decide) (by decide) (by decide) (by decide) ?_
      exact law_c11 C0 hL hA hAs hE hX9 hl8 hi hc hs hI hS hl kk
    · refine lv_tableIn (off := 604) (tgt := 644) hx hb dL_law_40 (by decide) (by decide) (by decide) (by decide) ?_
      exact law_c12 C0 hL hA hAs hE hX9 hl8 hi hc hs hI hS hl kk
    · refine lv_tableIn (off := 617) (tgt := 657) hx hb dL_law_40 (by decide) (by decide) (by decide) (by decide) ?_
      exact law_c13 C0 hL hA hAs hE hX9 hl8 hi hc hs hI hS hl kk
    · refine lv_tableIn (off := 630) (tgt := 670) hx hb dL_law_40 (by decide) (by decide) (by decide) (by decide) ?_
      exact law_c14 C0 hL hA hAs hE hX9 hl8 hi hc hs hI hS hl kk
    · refine lv_tableIn (off := 655) (tgt := 695) hx hb dL_law_40 (by decide) (by decide) (by decide) (by decide) ?_
      exact law_c15 C0 hL hA hAs hE hX9 hl8 hi hc hs hI hS hl kk
    · refine lv_tableIn (off := 668) (tgt := 708) hx hb dL_law_40 (by decide) (by decide) (by decide) (by decide) ?_
      exact law_c16 C0 hL hA hAs hE hX9 hl8 hi hc hs hI hS hl kk
    · refine lv_tableIn (off := 681) (tgt := 721) hx hb dL_law_40 (by decide) (by decide) (by decide) (by decide) ?_
      exact law_c17 C0 hL hA hAs hE hX9 hl8 hi hc hs hI hS hl kk
    · refine lv_tableIn (off := 706) (tgt := 746) hx hb dL_law_40 (by decide) (by decide) (by decide) (by decide) ?_
      exact law_c18 C0 hL hA hAs hE hX9 hl8 hi hc hs hI hS hl kk
    · refine lv_tableIn (off := 743) (tgt := 783) hx hb dL_law_40 (by decide) (by decide) (by decide) (by decide) ?_
      exact law_c19 C0 hL hA hAs hE hX9 hl8 hi hc hs hI hS hl kk
    · refine lv_tableIn (off := 808) (tgt := 848) hx hb dL_law_40 (by decide) (by decide) (by decide) (by decide) ?_
      exact law_c20 C0 hL hA hAs hE hX9 hl8 hi hc hs hI hS hl kk
    · refine lv_tableIn (off := 833) (tgt := 873) hx hb dL_law_40 (by decide) (by decide) (by decide) (by decide) ?_
      exact law_c21 C0 hL hA hAs hE hX9 hl8 hi hc hs hI hS hl kk
    · refine lv_tableIn (off := 858) (tgt := 898) hx hb dL_law_40 (by decide) (by decide) (by decide) (by decide) ?_
      exact law_c22 C0 hL hA hAs hE hX9 hl8 hi hc hs hI hS hl kk
    · refine lv_tableIn (off := 871) (tgt := 911) hx hb dL_law_40 (by decide) (by decide) (by decide) (by decide) ?_
      exact law_c23 C0 hL hA hAs hE hX9 hl8 hi hc hs hI hS hl kk
    · refine lv_tableIn (off := 884) (tgt := 924) hx hb dL_law_40 (by decide) (by decide) (by decide) (by decide) ?_
      exact law_c24 C0 hL hA hAs hE hX9 hl8 hi hc hs hI hS hl kk
    · refine lv_tableIn (off := 909) (tgt := 949) hx hb dL_law_40 (by decide) (by decide) (by decide) (by decide) ?_
      exact law_c25 C0 hL hA hAs hE hX9 hl8 hi hc hs hI hS hl kk
    · refine lv_tableIn (off := 934) (tgt := 974) hx hb dL_law_40 (by decide) (by decide) (by decide) (by decide) ?_
      exact law_c26 C0 hL hA hAs hE hX9 hl8 hi hc hs hI hS hl kk
    · refine lv_tableIn (off := 947) (tgt := 987) hx hb dL_law_40 (by decide) (by decide) (by decide) (by decide) ?_
      exact law_c27 C0 hL hA hAs hE hX9 hl8 hi hc hs hI hS hl kk
    · refine lv_tableIn (off := 972) (tgt := 1012) hx hb dL_law_40 (by decide) (by decide) (by decide) (by decide) ?_
      exact law_c28 C0 hL hA hAs hE hX9 hl8 hi hc hs hI hS hl kk
    · refine lv_tableIn (off := 997) (tgt := 1037) hx hb dL_law_40 (by decide) (by decide) (by decide) (by decide) ?_
      exact law_c29 C0 hL hA hAs hE hX9 hl8 hi hc hs hI hS hl kk
    · refine lv_tableIn (off := 1050) (tgt := 1090) hx hb dL_law_40 (by decide) (by decide) (by decide) (by decide) ?_
      exact law_c30 C0 hL hA hAs hE hX9 hl8 hi hc hs hI hS hl kk
    · refine lv_tableIn (off := 1075) (tgt := 1115) hx hb dL_law_40 (by decide) (by decide) (by decide) (by decide) ?_
      exact law_c31 C0 hL hA hAs hE hX9 hl8 hi hc hs hI hS hl kk
    · refine lv_tableIn (off := 1128) (tgt := 1168) hx hb dL_law_40 (by decide) (by decide) (by decide) (by decide) ?_
      exact law_c32 C0 hL hA hAs hE hX9 hl8 hi hc hs hI hS hl kk
    · refine lv_tableIn (off := 1141) (tgt := 1181) hx hb dL_law_40 (by decide) (by decide) (by decide) (by decide) ?_
      exact law_c33 C0 hL hA hAs hE hX9 hl8 hi hc hs hI hS hl kk
    · refine lv_tableIn (off := 1166) (tgt := 1206) hx hb dL_law_40 (by decide) (by decide) (by decide) (by decide) ?_
      exact law_c34 C0 hL hA hAs hE hX9 hl8 hi hc hs hI hS hl kk
    · refine lv_tableIn (off := 1179) (tgt := 1219) hx hb dL_law_40 (by decide) (by decide) (by decide) (by decide) ?_
      exact law_c35 C0 hL hA hAs hE hX9 hl8 hi hc hs hI hS hl kk
    · refine lv_tableIn (off := 1192) (tgt := 1232) hx hb dL_law_40 (by decide) (by decide) (by decide) (by decide) ?_
      exact law_c36 C0 hL hA hAs hE hX9 hl8 hi hc hs hI hS hl kk
    · refine lv_tableIn (off := 1217) (tgt := 1257) hx hb dL_law_40 (by decide) (by decide) (by decide) (by decide) ?_
      exact law_c37 C0 hL hA hAs hE hX9 hl8 hi hc hs hI hS hl kk
    · refine lv_tableIn (off := 1230) (tgt := 1270) hx hb dL_law_40 (by decide) (by decide) (by decide) (by decide) ?_
      exact law_c38 C0 hL hA hAs hE hX9 hl8 hi hc hs hI hS hl kk
    · refine lv_tableIn (off := 1243) (tgt := 1283) hx hb dL_law_40 (by decide) (by decide) (by decide) (by decide) ?_
      exact law_c39 C0 hL hA hAs hE hX9 hl8 hi hc hs hI hS hl kk
    · refine lv_tableIn (off := 1256) (tgt := 1296) hx hb dL_law_40 (by decide) (by decide) (by decide) (by decide) ?_
      exact law_c40 C0 hL hA hAs hE hX9 hl8 hi hc hs hI hS hl kk
    · refine lv_tableIn (off := 1269) (tgt := 1309) hx hb dL_law_40 (by decide) (by decide) (by decide) (by decide) ?_
      exact law_c41 C0 hL hA hAs hE hX9 hl8 hi hc hs hI hS hl kk
    · refine lv_tableIn (off := 1322) (tgt := 1362) hx hb dL_law_40 (by decide) (by decide) (by decide) (by decide) ?_
      exact law_c42 C0 hL hA hAs hE hX9 hl8 hi hc hs hI hS hl kk
    · refine lv_tableIn (off := 1363) (tgt := 1403) hx hb dL_law_40 (by decide) (by decide) (by decide) (by decide) ?_
      exact law_c43 C0 hL hA hAs hE hX9 hl8 hi hc hs hI hS hl kk
    · refine lv_tableIn (off := 1472) (tgt := 1512) hx hb dL_law_40 (by decide) (by decide) (by decide) (by decide) ?_
      exact law_c44 C0 hL hA hAs hE hX9 hl8 hi hc hs hI hS hl kk
    · refine lv_tableIn (off := 1497) (tgt := 1537) hx hb dL_law_40 (by decide) (by decide) (by decide) (by decide) ?_
      exact law_c45 C0 hL hA hAs hE hX9 hl8 hi hc hs hI hS hl kk
    · refine lv_tableIn (off := 1522) (tgt := 1562) hx hb dL_law_40 (by decide) (by decide) (by decide) (by decide) ?_
      exact law_c46 C0 hL hA hAs hE hX9 hl8 hi hc hs hI hS hl kk
    · refine lv_tableIn (off := 1559) (tgt := 1599) hx hb dL_law_40 (by decide) (by decide) (by decide) (by decide) ?_
      exact law_c47 C0 hL hA hAs hE hX9 hl8 hi hc hs hI hS hl kk
    · refine lv_tableIn (off := 1596) (tgt := 1636) hx hb dL_law_40 (by decide) (by decide) (by decide) (by decide) ?_
      exact law_c48 C0 hL hA hAs hE hX9 hl8 hi hc hs hI hS hl kk
    · refine lv_tableIn (off := 1633) (tgt := 1673) hx hb dL_law_40 (by decide) (by decide) (by decide) (by decide) ?_
      exact law_c49 C0 hL hA hAs hE hX9 hl8 hi hc hs hI hS hl kk
    · refine lv_tableIn (off := 1670) (tgt := 1710) hx hb dL_law_40 (by decide) (by decide) (by decide) (by decide) ?_
      exact law_c50 C0 hL hA hAs hE hX9 hl8 hi hc hs hI hS hl kk
    · refine lv_tableIn (off := 1683) (tgt := 1723) hx hb dL_law_40 (by decide) (by decide) (by decide) (by decide) ?_
      exact law_c51 C0 hL hA hAs hE hX9 hl8 hi hc hs hI hS hl kk
    · refine lv_tableIn (off := 1696) (tgt := 1736) hx hb dL_law_40 (by decide) (by decide) (by decide) (by decide) ?_
      exact law_c52 C0 hL hA hAs hE hX9 hl8 hi hc hs hI hS hl kk
    · refine lv_tableIn (off := 1721) (tgt := 1761) hx hb dL_law_40 (by decide) (by decide) (by decide) (by decide) ?_
      exact law_c53 C0 hL hA hAs hE hX9 hl8 hi hc hs hI hS hl kk
    · refine lv_tableIn (off := 1749) (tgt := 1789) hx hb dL_law_40 (by decide) (by decide) (by decide) (by decide) ?_
      exact law_c54 C0 hL hA hAs hE hX9 hl8 hi hc hs hI hS hl kk
    · refine lv_tableIn (off := 1774) (tgt := 1814) hx hb dL_law_40 (by decide) (by decide) (by decide) (by decide) ?_
      exact law_c55 C0 hL hA hAs hE hX9 hl8 hi hc hs hI hS hl kk
    · refine lv_tableOut (tgt := 1827) hx hb dL_law_40 (Or.inr (by decide)) (by decide) ?_
      refine W.widen (k := cells + 1) (n := slots + 6) (by omega) (by omega) ?_
      exact kk _ _ _ hI hS hl
    · refine lv_tableOut (tgt := 1827) hx hb dL_law_40 (Or.inr (by decide)) (by decide) ?_
      refine W.widen (k := cells + 1) (n := slots + 6) (by omega) (by omega) ?_
      exact kk _ _ _ hI hS hl
    · refine lv_tableOut (tgt := 1827) hx hb dL_law_40 (Or.inr (by decide)) (by decide) ?_
      refine W.widen (k := cells + 1) (n := slots + 6) (by omega) (by omega) ?_
      exact kk _ _ _ hI hS hl
    · refine lv_tableOut (tgt := 1827) hx hb dL_law_40 (Or.inr (by decide)) (by decide) ?_
      refine W.widen (k := cells + 1) (n := slots + 6) (by omega) (by omega) ?_
      exact kk _ _ _ hI hS hl
    · refine lv_tableOut (tgt := 1827) hx hb dL_law_40 (Or.inr (by decide)) (by decide) ?_
      refine W.widen (k := cells + 1) (n := slots + 6) (by omega) (by omega) ?_
      exact kk _ _ _ hI hS hl
    · refine lv_tableOut (tgt := 1827) hx hb dL_law_40 (Or.inr (by decide)) (by decide) ?_
      refine W.widen (k := cells + 1) (n := slots + 6) (by omega) (by omega) ?_
      exact kk _ _ _ hI hS hl
    · refine lv_tableOut (tgt := 1827) hx hb dL_law_40 (Or.inr (by decide)) (by decide) ?_
      refine W.widen (k := cells + 1) (n := slots + 6) (by omega) (by omega) ?_
      exact kk _ _ _ hI hS hl
    · refine lv_tableOut (tgt := 1827) hx hb dL_law_40 (Or.inr (by decide)) (by decide) ?_
      refine W.widen (k := cells + 1) (n := slots + 6) (by omega) (by omega) ?_
      exact kk _ _ _ hI hS hl
