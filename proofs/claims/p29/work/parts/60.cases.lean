section VZB
variable {p : Program} {l : Launch} {e : Env} {R : Room} {s : State} {m : MethodId} {args : Array Value} {below : List Frame} {meth : Method} {c : Code} {H : Heap} {locs : List Loc} {cells slots : Nat} {Q : State → Prop}
variable {cc : ByteArray} {pc : Nat} {ls : Array Slot} {rest : List Value}
/-- a comparison with nothing makes a yes or no, which is known -/
theorem vz_jeqb (hexec : p.tables.exec = Jvm.exec) (hb : c.code = cc) {x : Int32} (d0 : decode cc pc = .ok (.ifCond .eq 7, 3)) (d1 : decode cc (pc + 3) = .ok (.iconst 1, 1)) (d2 : decode cc (pc + 4) = .ok (.goto 4, 3)) (d3 : decode cc (pc + 7) = .ok (.iconst 0, 1))
    (kk : ∀ b : Int32, b = (if x = 0 then 0 else 1) → W p l e R s m args below meth c H locs cells slots Q (F0 m (pc + 8) ls (.int b :: rest))) : W p l e R s m args below meth c H locs cells slots Q (F0 m pc ls (.int x :: rest)) :=
  lv_if_eq (tgt := pc + 7) hexec hb d0 (by omega) (fun h => lv_iconst (v := 0) hexec hb d3 (by decide) (kk 0 (by rw [if_pos h]))) (fun h => lv_iconst (v := 1) hexec hb d1 (by decide) (lv_goto (tgt := pc + 8) hexec hb d2 (by omega) (kk 1 (by rw [if_neg h]))))
end VZB
set_option maxHeartbeats 4000000 in
set_option maxRecDepth 100000 in
theorem law_c0 {p : Program} {l : Launch} {e : Env} {s : State} {m : MethodId} {below : List Frame} {meth : Method} {c : Code} {b L : Nat} {xs : Nat → Int32} (C0 : lw_At p s m meth c b L xs) (hL : L ≤ 384) {A : Nat → Prop} (hA : ∀ q, s.heap.size ≤ q → A q) (hAs : ∀ q, A q → s.heap.size ≤ q) (hE : Ev A s s.heap) (hX9 : Ex A s s.heap) (hl8 : l.stackTraces = false) {dC : Nat → ClassId} {dI : Nat → Nat → Nat} {oK oM oO : Nat} {i cells slots : Nat} (hi : i + 6 ≤ L) (hc : cells + 1 ≤ 600128) (hs : slots + 6 ≤ 7301097) {H : Heap} {locs : List Loc} {ls : Array Slot} (hI : LwS dC dI A s H oK oM oO) (hS : va_S A s.heap H locs) (hl : lv_has ls 7 [(4, .int (nI i)), (3, .ref oO), (2, .ref oM), (1, .ref oK), (0, .ref b)]) (kk : ∀ (H : Heap) (locs : List Loc) (ls : Array Slot), LwS dC dI A s H oK oM oO → va_S A s.heap H locs → lv_has ls 7 [(4, .int (nI i)), (3, .ref oO), (2, .ref oM), (1, .ref oK), (0, .ref b)] → W p l e room_1 s m #[Value.ref b] below meth c H locs (cells + 1) (slots + 6) (lw_Z below #[Value.ref b] s) (F0 m 1827 ls [])) : W p l e room_1 s m #[Value.ref b] below meth c H locs (cells) (slots) (lw_Z below #[Value.ref b] s) (F0 m 280 ls []) := by
  obtain ⟨hx, hb, hr, hml, hown, hts0, hX, hbl, hlocks, hgv⟩ := id C0
  have hts : ∀ w ∈ wG, w.before #[Value.ref b] s = true := fun w h => hts0 w (wG_in w h)
  have htsN : ∀ w ∈ wN, w.before #[Value.ref b] s = true := fun w h => hts0 w (wN_in w h)
  have hbA : ¬ A b := fun h => Nat.lt_irrefl _ (Nat.lt_of_lt_of_le hbl (hAs b h))
  refine LwS.elim hI (fun t0 T0 U0 y0 f0 iC_nodes iC_words iC_unsures iC_slips iC_throneNode iC_saidWorth fC_kind fC_parts fC_partNodes fC_weights fC_toldWorths fC_unsureWords fC_unsureWorths fS_worths fS_order iK_imageCount fI0_worths fI0_order fI1_worths fI1_order fI2_worths fI2_order iA_count fA_nodes fA_olds fA_says iC_unit fC_weightSums fC_steps fC_below fC_above iM_hasCourt fM_r fM_told fM_st fM_undone fM_kept iM_undos iM_images iM_scale iM_night wa wb ta tb kO fO q1 q2 q3 hR hCIS hSc hT h6 h7 hP hD hK => ?_)
  refine lv_aload_n hx hb dL_law_280 rfl (lv_at hl 3 rfl) ?_
  refine lv_aload_n hx hb dL_law_281 rfl (lv_at hl 4 rfl) ?_
  refine lv_iload hx hb dL_law_282 (lv_at hl 0 rfl) ?_
  refine lv_iconst (v := 1) hx hb dL_law_284 (by decide) ?_
  refine lv_iadd hx hb dL_law_285 ?_
  refine lv_topi (fun y1 ey1 => ?_)
  obtain rfl : y1 = nI (i + 1) := ey1.trans (nI_add i 1)
  refine va_sld hx hb hX hbl hbA hS (vp_in_nI (show i + 1 < L by omega) (by omega)) dL_law_286 ?_
  refine lv_topi (fun v2 ev2 => ?_)
  refine lv_aload_n hx hb dL_law_287 rfl (lv_at hl 4 rfl) ?_
  refine lv_iload hx hb dL_law_288 (lv_at hl 0 rfl) ?_
  refine lv_iconst (v := 2) hx hb dL_law_290 (by decide) ?_
  refine lv_iadd hx hb dL_law_291 ?_
  refine lv_topi (fun y3 ey3 => ?_)
  obtain rfl : y3 = nI (i + 2) := ey3.trans (nI_add i 2)
  refine va_sld hx hb hX hbl hbA hS (vp_in_nI (show i + 2 < L by omega) (by omega)) dL_law_292 ?_
  refine lv_topi (fun v4 ev4 => ?_)
  refine lv_aload_n hx hb dL_law_293 rfl (lv_at hl 4 rfl) ?_
  refine lv_iload hx hb dL_law_294 (lv_at hl 0 rfl) ?_
  refine lv_iconst (v := 3) hx hb dL_law_296 (by decide) ?_
  refine lv_iadd hx hb dL_law_297 ?_
  refine lv_topi (fun y5 ey5 => ?_)
  obtain rfl : y5 = nI (i + 3) := ey5.trans (nI_add i 3)
  refine va_sld hx hb hX hbl hbA hS (vp_in_nI (show i + 3 < L by omega) (by omega)) dL_law_298 ?_
  refine lv_topi (fun v6 ev6 => ?_)
  refine lv_aload_n hx hb dL_law_299 rfl (lv_at hl 4 rfl) ?_
  refine lv_iload hx hb dL_law_300 (lv_at hl 0 rfl) ?_
  refine lv_iconst (v := 4) hx hb dL_law_302 (by decide) ?_
  refine lv_iadd hx hb dL_law_303 ?_
  refine lv_topi (fun y7 ey7 => ?_)
  obtain rfl : y7 = nI (i + 4) := ey7.trans (nI_add i 4)
  refine va_sld hx hb hX hbl hbA hS (vp_in_nI (show i + 4 < L by omega) (by omega)) dL_law_304 ?_
  refine lv_topi (fun v8 ev8 => ?_)
  refine lv_aload_n hx hb dL_law_305 rfl (lv_at hl 4 rfl) ?_
  refine lv_iload hx hb dL_law_306 (lv_at hl 0 rfl) ?_
  refine lv_iconst (v := 5) hx hb dL_law_308 (by decide) ?_
  refine lv_iadd hx hb dL_law_309 ?_
  refine lv_topi (fun y9 ey9 => ?_)
  obtain rfl : y9 = nI (i + 5) := ey9.trans (nI_add i 5)
  refine va_sld hx hb hX hbl hbA hS (vp_in_nI (show i + 5 < L by omega) (by omega)) dL_law_310 ?_
  refine lv_topi (fun v10 ev10 => ?_)
  have hPc := pA_r hP
  have hDc := dA_r hD
  have hKc := kA_r hK
  have hFc := freeA hDc hS hA
  refine va_calli (va_runV (As := [.int v2, .int v4, .int v6, .int v8, .int v10]) (rest := []) ⟨hx, hb, hml, hown, hts⟩ (k_feed l dC dI _ v2 v4 v6 v8 v10 h6) (cwV 5 hts (wd_V wd_170 wd_171 wd_172 wd_2 (wd_c wd_173)) rfl rfl rfl (by decide +kernel) ⟨Nat.le_of_ble_eq_true rfl, Nat.le_of_ble_eq_true rfl⟩) ⟨Pw.fb, KW.recv hKc hPc h6, fun U hU hW => Pw.to hPc hDc hKc hE hS hFc hU hW⟩ rfl rfl hl.1 rfl (lv_room (Nat.le_of_ble_eq_true rfl)) dL_law_311 ⟨(show cells + 0 ≤ 600128 by omega), (show slots + 0 ≤ 7301097 by omega)⟩) hS (fun q _ h => hFc q h) hFc (fun r6 u6 t H locs ht hvm hw6 hB hz1 hk1 hS => ?_)
  obtain ⟨wa, ta, z6_iR_tapeSize, z6_fR_tape, h6, e6, gP, gK, gD⟩ := hB
  rw [ht] at gP
  obtain ⟨hP, hD⟩ := joinA hP hD hk1 hFc gP gD
  have hK := va_K.app (kA_l hK) (va_K.moved hvm.symm gK)
  refine lv_pop hx hb dL_law_314 rfl ?_
  refine lv_aload_n hx hb dL_law_315 rfl (lv_at hl 2 rfl) ?_
  refine lv_aload_n hx hb dL_law_316 rfl (lv_at hl 4 rfl) ?_
  refine lv_iload hx hb dL_law_317 (lv_at hl 0 rfl) ?_
  refine lv_iconst (v := 1) hx hb dL_law_319 (by decide) ?_
  refine lv_iadd hx hb dL_law_320 ?_
  refine lv_topi (fun y11 ey11 => ?_)
  obtain rfl : y11 = nI (i + 1) := ey11.trans (nI_add i 1)
  refine va_sld hx hb hX hbl hbA hS (vp_in_nI (show i + 1 < L by omega) (by omega)) dL_law_321 ?_
  refine lv_topi (fun v12 ev12 => ?_)
  obtain rfl : v2 = v12 := ev2.trans ev12.symm
  refine lv_aload_n hx hb dL_law_322 rfl (lv_at hl 4 rfl) ?_
  refine lv_iload hx hb dL_law_323 (lv_at hl 0 rfl) ?_
  refine lv_iconst (v := 2) hx hb dL_law_325 (by decide) ?_
  refine lv_iadd hx hb dL_law_326 ?_
  refine lv_topi (fun y13 ey13 => ?_)
  obtain rfl : y13 = nI (i + 2) := ey13.trans (nI_add i 2)
  refine va_sld hx hb hX hbl hbA hS (vp_in_nI (show i + 2 < L by omega) (by omega)) dL_law_327 ?_
  refine lv_topi (fun v14 ev14 => ?_)
  obtain rfl : v4 = v14 := ev4.trans ev14.symm
  refine lv_aload_n hx hb dL_law_328 rfl (lv_at hl 4 rfl) ?_
  refine lv_iload hx hb dL_law_329 (lv_at hl 0 rfl) ?_
  refine lv_iconst (v := 3) hx hb dL_law_331 (by decide) ?_
  refine lv_iadd hx hb dL_law_332 ?_
  refine lv_topi (fun y15 ey15 => ?_)
  obtain rfl : y15 = nI (i + 3) := ey15.trans (nI_add i 3)
  refine va_sld hx hb hX hbl hbA hS (vp_in_nI (show i + 3 < L by omega) (by omega)) dL_law_333 ?_
  refine lv_topi (fun v16 ev16 => ?_)
  obtain rfl : v6 = v16 := ev6.trans ev16.symm
  refine lv_aload_n hx hb dL_law_334 rfl (lv_at hl 4 rfl) ?_
  refine lv_iload hx hb dL_law_335 (lv_at hl 0 rfl) ?_
  refine lv_iconst (v := 4) hx hb dL_law_337 (by decide) ?_
  refine lv_iadd hx hb dL_law_338 ?_
  refine lv_topi (fun y17 ey17 => ?_)
  obtain rfl : y17 = nI (i + 4) := ey17.trans (nI_add i 4)
  refine va_sld hx hb hX hbl hbA hS (vp_in_nI (show i + 4 < L by omega) (by omega)) dL_law_339 ?_
  refine lv_topi (fun v18 ev18 => ?_)
  obtain rfl : v8 = v18 := ev8.trans ev18.symm
  refine lv_aload_n hx hb dL_law_340 rfl (lv_at hl 4 rfl) ?_
  refine lv_iload hx hb dL_law_341 (lv_at hl 0 rfl) ?_
  refine lv_iconst (v := 5) hx hb dL_law_343 (by decide) ?_
  refine lv_iadd hx hb dL_law_344 ?_
  refine lv_topi (fun y19 ey19 => ?_)
  obtain rfl : y19 = nI (i + 5) := ey19.trans (nI_add i 5)
  refine va_sld hx hb hX hbl hbA hS (vp_in_nI (show i + 5 < L by omega) (by omega)) dL_law_345 ?_
  refine lv_topi (fun v20 ev20 => ?_)
  obtain rfl : v10 = v20 := ev10.trans ev20.symm
  have hP := pA_rot hP
  have hD := dA_rot hD
  have hK := kA_rot hK
  have hPc := pA_r hP
  have hDc := dA_r hD
  have hKc := kA_r hK
  have hFc := freeA hDc hS hA
  refine va_calli (va_runV (As := [.int v2, .int v4, .int v6, .int v8, .int v10]) (rest := []) ⟨hx, hb, hml, hown, hts⟩ (m_feed l dC dI _ v2 v4 v6 v8 v10 h7) (cwV 5 hts (wd_V wd_180 wd_181 wd_182 wd_5 (wd_c wd_183)) rfl rfl rfl (by decide +kernel) ⟨Nat.le_of_ble_eq_true rfl, Nat.le_of_ble_eq_true rfl⟩) ⟨Pw.fb, MW.recv hKc hPc h7, fun U hU hW => Pw.to hPc hDc hKc hE hS hFc hU hW⟩ rfl rfl hl.1 rfl (lv_room (Nat.le_of_ble_eq_true rfl)) dL_law_346 ⟨(show cells + 0 ≤ 600128 by omega), (show slots + 0 ≤ 7301097 by omega)⟩) hS (fun q _ h => hFc q h) hFc (fun r7 u7 t H locs ht hvm hw7 hB hz1 hk1 hS => ?_)
  obtain ⟨wb, tb, z7_iM_taped, z7_fM_tape, h7, e7, gP, gK, gD⟩ := hB
  rw [ht] at gP
  obtain ⟨hP, hD⟩ := joinA hP hD hk1 hFc gP gD
  have hK := va_K.app (kA_l hK) (va_K.moved hvm.symm gK)
  have hP := pA_rot hP
  have hD := dA_rot hD
  have hK := kA_rot hK
  refine lv_pop hx hb dL_law_349 rfl ?_
  refine lv_goto (tgt := 1827) hx hb dL_law_350 (by decide) ?_
  refine W.widen (k := cells + 1) (n := slots + 6) (by omega) (by omega) ?_
  obtain ⟨th9, e7⟩ := e7
  have hjn := fd_join q2 q1 e6 e7
  obtain ⟨-, t2, q1, j1, j2, q2⟩ := hjn
  rw [j1] at h6
  rw [j2] at h7
  exact kk _ _ _ (LwS.in9 t2 z6_fR_tape z7_fM_tape y0 f0 iC_nodes iC_words iC_unsures iC_slips iC_throneNode iC_saidWorth fC_kind fC_parts fC_partNodes fC_weights fC_toldWorths fC_unsureWords fC_unsureWorths fS_worths fS_order iK_imageCount fI0_worths fI0_order fI1_worths fI1_order fI2_worths fI2_order iA_count fA_nodes fA_olds fA_says iC_unit fC_weightSums fC_steps fC_below fC_above iM_hasCourt fM_r fM_told fM_st fM_undone fM_kept iM_undos iM_images iM_scale iM_night wa wb ta tb kO _ q1 q2 q3 hR hCIS hSc hT h6 h7 hP hD hK) hS hl
set_option maxHeartbeats 4000000 in
set_option maxRecDepth 100000 in
theorem law_c1 {p : Program} {l : Launch} {e : Env} {s : State} {m : MethodId} {below : List Frame} {meth : Method} {c : Code} {b L : Nat} {xs : Nat → Int32} (C0 : lw_At p s m meth c b L xs) (hL : L ≤ 384) {A : Nat → Prop} (hA : ∀ q, s.heap.size ≤ q → A q) (hAs : ∀ q, A q → s.heap.size ≤ q) (hE : Ev A s s.heap) (hX9 : Ex A s s.heap) (hl8 : l.stackTraces = false) {dC : Nat → ClassId} {dI : Nat → Nat → Nat} {oK oM oO : Nat} {i cells slots : Nat} (hi : i + 6 ≤ L) (hc : cells + 1 ≤ 600128) (hs : slots + 6 ≤ 7301097) {H : Heap} {locs : List Loc} {ls : Array Slot} (hI : LwS dC dI A s H oK oM oO) (hS : va_S A s.heap H locs) (hl : lv_has ls 7 [(4, .int (nI i)), (3, .ref oO), (2, .ref oM), (1, .ref oK), (0, .ref b)]) (kk : ∀ (H : Heap) (locs : List Loc) (ls : Array Slot), LwS dC dI A s H oK oM oO → va_S A s.heap H locs → lv_has ls 7 [(4, .int (nI i)), (3, .ref oO), (2, .ref oM), (1, .ref oK), (0, .ref b)] → W p l e room_1 s m #[Value.ref b] below meth c H locs (cells + 1) (slots + 6) (lw_Z below #[Value.ref b] s) (F0 m 1827 ls [])) : W p l e room_1 s m #[Value.ref b] below meth c H locs (cells) (slots) (lw_Z below #[Value.ref b] s) (F0 m 353 ls []) := by
  obtain ⟨hx, hb, hr, hml, hown, hts0, hX, hbl, hlocks, hgv⟩ := id C0
  have hts : ∀ w ∈ wG, w.before #[Value.ref b] s = true := fun w h => hts0 w (wG_in w h)
  have htsN : ∀ w ∈ wN, w.before #[Value.ref b] s = true := fun w h => hts0 w (wN_in w h)
  have hbA : ¬ A b := fun h => Nat.lt_irrefl _ (Nat.lt_of_lt_of_le hbl (hAs b h))
  refine LwS.elim hI (fun t0 T0 U0 y0 f0 iC_nodes iC_words iC_unsures iC_slips iC_throneNode iC_saidWorth fC_kind fC_parts fC_partNodes fC_weights fC_toldWorths fC_unsureWords fC_unsureWorths fS_worths fS_order iK_imageCount fI0_worths fI0_order fI1_worths fI1_order fI2_worths fI2_order iA_count fA_nodes fA_olds fA_says iC_unit fC_weightSums fC_steps fC_below fC_above iM_hasCourt fM_r fM_told fM_st fM_undone fM_kept iM_undos iM_images iM_scale iM_night wa wb ta tb kO fO q1 q2 q3 hR hCIS hSc hT h6 h7 hP hD hK => ?_)
  refine lv_aload_n hx hb dL_law_353 rfl (lv_at hl 3 rfl) ?_
  refine lv_aload_n hx hb dL_law_354 rfl (lv_at hl 4 rfl) ?_
  refine lv_iload hx hb dL_law_355 (lv_at hl 0 rfl) ?_
  refine lv_iconst (v := 1) hx hb dL_law_357 (by decide) ?_
  refine lv_iadd hx hb dL_law_358 ?_
  refine lv_topi (fun y1 ey1 => ?_)
  obtain rfl : y1 = nI (i + 1) := ey1.trans (nI_add i 1)
  refine va_sld hx hb hX hbl hbA hS (vp_in_nI (show i + 1 < L by omega) (by omega)) dL_law_359 ?_
  refine lv_topi (fun v2 ev2 => ?_)
  have hPc := pA_r hP
  have hDc := dA_r hD
  have hKc := kA_r hK
  have hFc := freeA hDc hS hA
  refine va_calli (va_runV (As := [.int v2]) (rest := []) ⟨hx, hb, hml, hown, hts⟩ (k_court l dC dI _ v2 h6) (cwV 1 hts (wd_V wd_186 wd_187 wd_188 wd_2 (wd_c wd_189)) rfl rfl rfl (by decide +kernel) ⟨Nat.le_of_ble_eq_true rfl, Nat.le_of_ble_eq_true rfl⟩) ⟨Pw.fb, KW.recv hKc hPc h6, fun U hU hW => Pw.to hPc hDc hKc hE hS hFc hU hW⟩ rfl rfl hl.1 rfl (lv_room (Nat.le_of_ble_eq_true rfl)) dL_law_360 ⟨(show cells + 0 ≤ 600128 by omega), (show slots + 0 ≤ 7301097 by omega)⟩) hS (fun q _ h => hFc q h) hFc (fun r6 u6 t H locs ht hvm hw6 hB hz1 hk1 hS => ?_)
  obtain ⟨wa, ta, z6_iR_tapeSize, z6_iK_latestFault, z6_iK_imageCount, z6_fS_worths, z6_fS_order, z6_iA_count, z6_iC_nodes, z6_iC_words, z6_iC_unsures, z6_iC_slips, z6_iC_throneNode, z6_iC_saidWorth, z6_fC_kind, z6_fC_parts, z6_fC_partNodes, z6_fC_weights, z6_fC_toldWorths, z6_fC_unsureWords, z6_fC_unsureWorths, z6_iC_unit, z6_fC_weightSums, z6_fC_steps, z6_fC_below, z6_fC_above, h6, e6, gP, gK, gD⟩ := hB
  rw [ht] at gP
  obtain ⟨hP, hD⟩ := joinA hP hD hk1 hFc gP gD
  have hK := va_K.app (kA_l hK) (va_K.moved hvm.symm gK)
  refine lv_pop hx hb dL_law_363 rfl ?_
  refine lv_aload_n hx hb dL_law_364 rfl (lv_at hl 2 rfl) ?_
  refine lv_aload_n hx hb dL_law_365 rfl (lv_at hl 4 rfl) ?_
  refine lv_iload hx hb dL_law_366 (lv_at hl 0 rfl) ?_
  refine lv_iconst (v := 1) hx hb dL_law_368 (by decide) ?_
  refine lv_iadd hx hb dL_law_369 ?_
  refine lv_topi (fun y3 ey3 => ?_)
  obtain rfl : y3 = nI (i + 1) := ey3.trans (nI_add i 1)
  refine va_sld hx hb hX hbl hbA hS (vp_in_nI (show i + 1 < L by omega) (by omega)) dL_law_370 ?_
  refine lv_topi (fun v4 ev4 => ?_)
  obtain rfl : v2 = v4 := ev2.trans ev4.symm
  have hP := pA_rot hP
  have hD := dA_rot hD
  have hK := kA_rot hK
  have hPc := pA_r hP
  have hDc := dA_r hD
  have hKc := kA_r hK
  have hFc := freeA hDc hS hA
  refine va_calli (va_runV (As := [.int v2]) (rest := []) ⟨hx, hb, hml, hown, hts⟩ (m_court l dC dI _ v2 h7) (cwV 1 hts (wd_V wd_375 wd_376 wd_377 wd_5 (wd_c wd_378)) rfl rfl rfl (by decide +kernel) ⟨Nat.le_of_ble_eq_true rfl, Nat.le_of_ble_eq_true rfl⟩) ⟨Pw.fb, MW.recv hKc hPc h7, fun U hU hW => Pw.to hPc hDc hKc hE hS hFc hU hW⟩ rfl rfl hl.1 rfl (lv_room (Nat.le_of_ble_eq_true rfl)) dL_law_371 ⟨(show cells + 0 ≤ 600128 by omega), (show slots + 0 ≤ 7301097 by omega)⟩) hS (fun q _ h => hFc q h) hFc (fun r7 u7 t H locs ht hvm hw7 hB hz1 hk1 hS => ?_)
  obtain ⟨wb, tb, z7_iM_taped, z7_iM_fault, z7_iM_hasCourt, z7_fM_r, z7_fM_told, z7_fM_st, z7_iM_undos, z7_iM_images, z7_iM_scale, h7, e7, gP, gK, gD⟩ := hB
  rw [ht] at gP
  obtain ⟨hP, hD⟩ := joinA hP hD hk1 hFc gP gD
  have hK := va_K.app (kA_l hK) (va_K.moved hvm.symm gK)
  have hP := pA_rot hP
  have hD := dA_rot hD
  have hK := kA_rot hK
  refine lv_pop hx hb dL_law_374 rfl ?_
  refine lv_goto (tgt := 1827) hx hb dL_law_375 (by decide) ?_
  refine W.widen (k := cells + 1) (n := slots + 6) (by omega) (by omega) ?_
  obtain ⟨rf9, d9_0, d9_1, d9_2, d9_3, d9_4, d9_5, d9_6, d9_7, d9_8, d9_9, d9_10, d9_11, d9_12, d9_13, d9_14, d9_15, d9_16, d9_17, e6, g6⟩ := e6
  obtain ⟨tr9, e7⟩ := e7
  have hCIS := ct_joinC hCIS e6 g6
  have hjn := ct_joinX hR q3 q2 q1 e6 e7 g6
  obtain ⟨-, jl, -, ⟨t2, q1, j1, j2, q2⟩, hR, h70⟩ := hjn
  have hSc := ct_joinS hSc e7 h70
  have hT := ct_joinT hT e7 (MW_R h7).2.2.2.1
  rw [j1] at h6
  rw [j2, ← jl] at h7
  exact kk _ _ _ (LwS.in9 t2 T0 U0 y0 z6_iK_latestFault z6_iC_nodes z6_iC_words z6_iC_unsures z6_iC_slips z6_iC_throneNode z6_iC_saidWorth z6_fC_kind z6_fC_parts z6_fC_partNodes z6_fC_weights z6_fC_toldWorths z6_fC_unsureWords z6_fC_unsureWorths z6_fS_worths z6_fS_order z6_iK_imageCount fI0_worths fI0_order fI1_worths fI1_order fI2_worths fI2_order z6_iA_count fA_nodes fA_olds fA_says z6_iC_unit z6_fC_weightSums z6_fC_steps z6_fC_below z6_fC_above z7_iM_hasCourt z7_fM_r z7_fM_told z7_fM_st fM_undone fM_kept z7_iM_undos z7_iM_images z7_iM_scale iM_night wa wb ta tb kO _ q1 q2 q3 hR hCIS hSc hT h6 h7 hP hD hK) hS hl
set_option maxHeartbeats 4000000 in
set_option maxRecDepth 100000 in
theorem law_c2 {p : Program} {l : Launch} {e : Env} {s : State} {m : MethodId} {below : List Frame} {meth : Method} {c : Code} {b L : Nat} {xs : Nat → Int32} (C0 : lw_At p s m meth c b L xs) (hL : L ≤ 384) {A : Nat → Prop} (hA : ∀ q, s.heap.size ≤ q → A q) (hAs : ∀ q, A q → s.heap.size ≤ q) (hE : Ev A s s.heap) (hX9 : Ex A s s.heap) (hl8 : l.stackTraces = false) {dC : Nat → ClassId} {dI : Nat → Nat → Nat} {oK oM oO : Nat} {i cells slots : Nat} (hi : i + 6 ≤ L) (hc : cells + 1 ≤ 600128) (hs : slots + 6 ≤ 7301097) {H : Heap} {locs : List Loc} {ls : Array Slot} (hI : LwS dC dI A s H oK oM oO) (hS : va_S A s.heap H locs) (hl : lv_has ls 7 [(4, .int (nI i)), (3, .ref oO), (2, .ref oM), (1, .ref oK), (0, .ref b)]) (kk : ∀ (H : Heap) (locs : List Loc) (ls : Array Slot), LwS dC dI A s H oK oM oO → va_S A s.heap H locs → lv_has ls 7 [(4, .int (nI i)), (3, .ref oO), (2, .ref oM), (1, .ref oK), (0, .ref b)] → W p l e room_1 s m #[Value.ref b] below meth c H locs (cells + 1) (slots + 6) (lw_Z below #[Value.ref b] s) (F0 m 1827 ls [])) : W p l e room_1 s m #[Value.ref b] below meth c H locs (cells) (slots) (lw_Z below #[Value.ref b] s) (F0 m 378 ls []) := by
  obtain ⟨hx, hb, hr, hml, hown, hts0, hX, hbl, hlocks, hgv⟩ := id C0
  have hts : ∀ w ∈ wG, w.before #[Value.ref b] s = true := fun w h => hts0 w (wG_in w h)
  have htsN : ∀ w ∈ wN, w.before #[Value.ref b] s = true := fun w h => hts0 w (wN_in w h)
  have hbA : ¬ A b := fun h => Nat.lt_irrefl _ (Nat.lt_of_lt_of_le hbl (hAs b h))
  refine LwS.elim hI (fun t0 T0 U0 y0 f0 iC_nodes iC_words iC_unsures iC_slips iC_throneNode iC_saidWorth fC_kind fC_parts fC_partNodes fC_weights fC_toldWorths fC_unsureWords fC_unsureWorths fS_worths fS_order iK_imageCount fI0_worths fI0_order fI1_worths fI1_order fI2_worths fI2_order iA_count fA_nodes fA_olds fA_says iC_unit fC_weightSums fC_steps fC_below fC_above iM_hasCourt fM_r fM_told fM_st fM_undone fM_kept iM_undos iM_images iM_scale iM_night wa wb ta tb kO fO q1 q2 q3 hR hCIS hSc hT h6 h7 hP hD hK => ?_)
  refine lv_aload_n hx hb dL_law_378 rfl (lv_at hl 3 rfl) ?_
  have hPc := pA_r hP
  have hDc := dA_r hD
  have hKc := kA_r hK
  have hFc := freeA hDc hS hA
  refine va_calli (va_runV (As := []) (rest := []) ⟨hx, hb, hml, hown, hts⟩ (k_fault l dC dI _  h6) (cwV 0 hts (wd_V wd_510 wd_511 wd_512 wd_2 (wd_c wd_513)) rfl rfl rfl (by decide +kernel) ⟨Nat.le_of_ble_eq_true rfl, Nat.le_of_ble_eq_true rfl⟩) ⟨Pw.fb, KW.recv hKc hPc h6, fun U hU hW => Pw.to hPc hDc hKc hE hS hFc hU hW⟩ rfl rfl hl.1 rfl (lv_room (Nat.le_of_ble_eq_true rfl)) dL_law_379 ⟨(show cells + 0 ≤ 600128 by omega), (show slots + 0 ≤ 7301097 by omega)⟩) hS (fun q _ h => hFc q h) hFc (fun r6 u6 t H locs ht hvm hw6 hB hz1 hk1 hS => ?_)
  obtain ⟨wa, ta, h6, e6, gP, gK, gD⟩ := hB
  rw [ht] at gP
  obtain ⟨hP, hD⟩ := joinA hP hD hk1 hFc gP gD
  have hK := va_K.app (kA_l hK) (va_K.moved hvm.symm gK)
  refine lv_pop hx hb dL_law_382 rfl ?_
  refine lv_aload_n hx hb dL_law_383 rfl (lv_at hl 2 rfl) ?_
  have hP := pA_rot hP
  have hD := dA_rot hD
  have hK := kA_rot hK
  have hPc := pA_r hP
  have hDc := dA_r hD
  have hKc := kA_r hK
  have hFc := freeA hDc hS hA
  refine va_calli (va_runV (As := []) (rest := []) ⟨hx, hb, hml, hown, hts⟩ (m_fault l dC dI _  h7) (cwV 0 hts (wd_V wd_514 wd_515 wd_516 wd_5 (wd_c wd_517)) rfl rfl rfl (by decide +kernel) ⟨Nat.le_of_ble_eq_true rfl, Nat.le_of_ble_eq_true rfl⟩) ⟨Pw.fb, MW.recv hKc hPc h7, fun U hU hW => Pw.to hPc hDc hKc hE hS hFc hU hW⟩ rfl rfl hl.1 rfl (lv_room (Nat.le_of_ble_eq_true rfl)) dL_law_384 ⟨(show cells + 0 ≤ 600128 by omega), (show slots + 0 ≤ 7301097 by omega)⟩) hS (fun q _ h => hFc q h) hFc (fun r7 u7 t H locs ht hvm hw7 hB hz1 hk1 hS => ?_)
  obtain ⟨wb, tb, h7, e7, gP, gK, gD⟩ := hB
  rw [ht] at gP
  obtain ⟨hP, hD⟩ := joinA hP hD hk1 hFc gP gD
  have hK := va_K.app (kA_l hK) (va_K.moved hvm.symm gK)
  have hP := pA_rot hP
  have hD := dA_rot hD
  have hK := kA_rot hK
  refine lv_pop hx hb dL_law_387 rfl ?_
  refine lv_goto (tgt := 1827) hx hb dL_law_388 (by decide) ?_
  refine W.widen (k := cells + 1) (n := slots + 6) (by omega) (by omega) ?_
  exact kk _ _ _ (LwS.in9 t0 T0 U0 y0 f0 iC_nodes iC_words iC_unsures iC_slips iC_throneNode iC_saidWorth fC_kind fC_parts fC_partNodes fC_weights fC_toldWorths fC_unsureWords fC_unsureWorths fS_worths fS_order iK_imageCount fI0_worths fI0_order fI1_worths fI1_order fI2_worths fI2_order iA_count fA_nodes fA_olds fA_says iC_unit fC_weightSums fC_steps fC_below fC_above iM_hasCourt fM_r fM_told fM_st fM_undone fM_kept iM_undos iM_images iM_scale iM_night wa wb ta tb kO _ q1 q2 q3 hR hCIS hSc hT h6 h7 hP hD hK) hS hl
set_option maxHeartbeats 4000000 in
set_option maxRecDepth 100000 in
theorem law_c3 {p : Program} {l : Launch} {e : Env} {s : State} {m : MethodId} {below : List Frame} {meth : Method} {c : Code} {b L : Nat} {xs : Nat → Int32} (C0 : lw_At p s m meth c b L xs) (hL : L ≤ 384) {A : Nat → Prop} (hA : ∀ q, s.heap.size ≤ q → A q) (hAs : ∀ q, A q → s.heap.size ≤ q) (hE : Ev A s s.heap) (hX9 : Ex A s s.heap) (hl8 : l.stackTraces = false) {dC : Nat → ClassId} {dI : Nat → Nat → Nat} {oK oM oO : Nat} {i cells slots : Nat} (hi : i + 6 ≤ L) (hc : cells + 1 ≤ 600128) (hs : slots + 6 ≤ 7301097) {H : Heap} {locs : List Loc} {ls : Array Slot} (hI : LwS dC dI A s H oK oM oO) (hS : va_S A s.heap H locs) (hl : lv_has ls 7 [(4, .int (nI i)), (3, .ref oO), (2, .ref oM), (1, .ref oK), (0, .ref b)]) (kk : ∀ (H : Heap) (locs : List Loc) (ls : Array Slot), LwS dC dI A s H oK oM oO → va_S A s.heap H locs → lv_has ls 7 [(4, .int (nI i)), (3, .ref oO), (2, .ref oM), (1, .ref oK), (0, .ref b)] → W p l e room_1 s m #[Value.ref b] below meth c H locs (cells + 1) (slots + 6) (lw_Z below #[Value.ref b] s) (F0 m 1827 ls [])) : W p l e room_1 s m #[Value.ref b] below meth c H locs (cells) (slots) (lw_Z below #[Value.ref b] s) (F0 m 391 ls []) := by
  obtain ⟨hx, hb, hr, hml, hown, hts0, hX, hbl, hlocks, hgv⟩ := id C0
  have hts : ∀ w ∈ wG, w.before #[Value.ref b] s = true := fun w h => hts0 w (wG_in w h)
  have htsN : ∀ w ∈ wN, w.before #[Value.ref b] s = true := fun w h => hts0 w (wN_in w h)
  have hbA : ¬ A b := fun h => Nat.lt_irrefl _ (Nat.lt_of_lt_of_le hbl (hAs b h))
  refine LwS.elim hI (fun t0 T0 U0 y0 f0 iC_nodes iC_words iC_unsures iC_slips iC_throneNode iC_saidWorth fC_kind fC_parts fC_partNodes fC_weights fC_toldWorths fC_unsureWords fC_unsureWorths fS_worths fS_order iK_imageCount fI0_worths fI0_order fI1_worths fI1_order fI2_worths fI2_order iA_count fA_nodes fA_olds fA_says iC_unit fC_weightSums fC_steps fC_below fC_above iM_hasCourt fM_r fM_told fM_st fM_undone fM_kept iM_undos iM_images iM_scale iM_night wa wb ta tb kO fO q1 q2 q3 hR hCIS hSc hT h6 h7 hP hD hK => ?_)
  refine lv_aload_n hx hb dL_law_391 rfl (lv_at hl 3 rfl) ?_
  have hPc := pA_r hP
  have hDc := dA_r hD
  have hKc := kA_r hK
  have hFc := freeA hDc hS hA
  refine va_calli (va_runV (As := []) (rest := []) ⟨hx, hb, hml, hown, hts⟩ (k_where l dC dI _  h6) (cwV 0 hts (wd_V wd_518 wd_519 wd_520 wd_2 (wd_c wd_521)) rfl rfl rfl (by decide +kernel) ⟨Nat.le_of_ble_eq_true rfl, Nat.le_of_ble_eq_true rfl⟩) ⟨Pw.fb, KW.recv hKc hPc h6, fun U hU hW => Pw.to hPc hDc hKc hE hS hFc hU hW⟩ rfl rfl hl.1 rfl (lv_room (Nat.le_of_ble_eq_true rfl)) dL_law_392 ⟨(show cells + 0 ≤ 600128 by omega), (show slots + 0 ≤ 7301097 by omega)⟩) hS (fun q _ h => hFc q h) hFc (fun r6 u6 t H locs ht hvm hw6 hB hz1 hk1 hS => ?_)
  obtain ⟨wa, ta, h6, e6, gP, gK, gD⟩ := hB
  rw [ht] at gP
  obtain ⟨hP, hD⟩ := joinA hP hD hk1 hFc gP gD
  have hK := va_K.app (kA_l hK) (va_K.moved hvm.symm gK)
  refine lv_pop hx hb dL_law_395 rfl ?_
  refine lv_aload_n hx hb dL_law_396 rfl (lv_at hl 2 rfl) ?_
  have hP := pA_rot hP
  have hD := dA_rot hD
  have hK := kA_rot hK
  have hPc := pA_r hP
  have hDc := dA_r hD
  have hKc := kA_r hK
  have hFc := freeA hDc hS hA
  refine va_calli (va_runV (As := []) (rest := []) ⟨hx, hb, hml, hown, hts⟩ (m_where l dC dI _  h7) (cwV 0 hts (wd_V wd_522 wd_523 wd_524 wd_5 (wd_c wd_525)) rfl rfl rfl (by decide +kernel) ⟨Nat.le_of_ble_eq_true rfl, Nat.le_of_ble_eq_true rfl⟩) ⟨Pw.fb, MW.recv hKc hPc h7, fun U hU hW => Pw.to hPc hDc hKc hE hS hFc hU hW⟩ rfl rfl hl.1 rfl (lv_room (Nat.le_of_ble_eq_true rfl)) dL_law_397 ⟨(show cells + 0 ≤ 600128 by omega), (show slots + 0 ≤ 7301097 by omega)⟩) hS (fun q _ h => hFc q h) hFc (fun r7 u7 t H locs ht hvm hw7 hB hz1 hk1 hS => ?_)
  obtain ⟨wb, tb, h7, e7, gP, gK, gD⟩ := hB
  rw [ht] at gP
  obtain ⟨hP, hD⟩ := joinA hP hD hk1 hFc gP gD
  have hK := va_K.app (kA_l hK) (va_K.moved hvm.symm gK)
  have hP := pA_rot hP
  have hD := dA_rot hD
  have hK := kA_rot hK
  refine lv_pop hx hb dL_law_400 rfl ?_
  refine lv_goto (tgt := 1827) hx hb dL_law_401 (by decide) ?_
  refine W.widen (k := cells + 1) (n := slots + 6) (by omega) (by omega) ?_
  exact kk _ _ _ (LwS.in9 t0 T0 U0 y0 f0 iC_nodes iC_words iC_unsures iC_slips iC_throneNode iC_saidWorth fC_kind fC_parts fC_partNodes fC_weights fC_toldWorths fC_unsureWords fC_unsureWorths fS_worths fS_order iK_imageCount fI0_worths fI0_order fI1_worths fI1_order fI2_worths fI2_order iA_count fA_nodes fA_olds fA_says iC_unit fC_weightSums fC_steps fC_below fC_above iM_hasCourt fM_r fM_told fM_st fM_undone fM_kept iM_undos iM_images iM_scale iM_night wa wb ta tb kO _ q1 q2 q3 hR hCIS hSc hT h6 h7 hP hD hK) hS hl
set_option maxHeartbeats 4000000 in
set_option maxRecDepth 100000 in
theorem law_c4 {p : Program} {l : Launch} {e : Env} {s : State} {m : MethodId} {below : List Frame} {meth : Method} {c : Code} {b L : Nat} {xs : Nat → Int32} (C0 : lw_At p s m meth c b L xs) (hL : L ≤ 384) {A : Nat → Prop} (hA : ∀ q, s.heap.size ≤ q → A q) (hAs : ∀ q, A q → s.heap.size ≤ q) (hE : Ev A s s.heap) (hX9 : Ex A s s.heap) (hl8 : l.stackTraces = false) {dC : Nat → ClassId} {dI : Nat → Nat → Nat} {oK oM oO : Nat} {i cells slots : Nat} (hi : i + 6 ≤ L) (hc : cells + 1 ≤ 600128) (hs : slots + 6 ≤ 7301097) {H : Heap} {locs : List Loc} {ls : Array Slot} (hI : LwS dC dI A s H oK oM oO) (hS : va_S A s.heap H locs) (hl : lv_has ls 7 [(4, .int (nI i)), (3, .ref oO), (2, .ref oM), (1, .ref oK), (0, .ref b)]) (kk : ∀ (H : Heap) (locs : List Loc) (ls : Array Slot), LwS dC dI A s H oK oM oO → va_S A s.heap H locs → lv_has ls 7 [(4, .int (nI i)), (3, .ref oO), (2, .ref oM), (1, .ref oK), (0, .ref b)] → W p l e room_1 s m #[Value.ref b] below meth c H locs (cells + 1) (slots + 6) (lw_Z below #[Value.ref b] s) (F0 m 1827 ls [])) : W p l e room_1 s m #[Value.ref b] below meth c H locs (cells) (slots) (lw_Z below #[Value.ref b] s) (F0 m 404 ls []) := by
  obtain ⟨hx, hb, hr, hml, hown, hts0, hX, hbl, hlocks, hgv⟩ := id C0
  have hts : ∀ w ∈ wG, w.before #[Value.ref b] s = true := fun w h => hts0 w (wG_in w h)
  have htsN : ∀ w ∈ wN, w.before #[Value.ref b] s = true := fun w h => hts0 w (wN_in w h)
  have hbA : ¬ A b := fun h => Nat.lt_irrefl _ (Nat.lt_of_lt_of_le hbl (hAs b h))
  refine LwS.elim hI (fun t0 T0 U0 y0 f0 iC_nodes iC_words iC_unsures iC_slips iC_throneNode iC_saidWorth fC_kind fC_parts fC_partNodes fC_weights fC_toldWorths fC_unsureWords fC_unsureWorths fS_worths fS_order iK_imageCount fI0_worths fI0_order fI1_worths fI1_order fI2_worths fI2_order iA_count fA_nodes fA_olds fA_says iC_unit fC_weightSums fC_steps fC_below fC_above iM_hasCourt fM_r fM_told fM_st fM_undone fM_kept iM_undos iM_images iM_scale iM_night wa wb ta tb kO fO q1 q2 q3 hR hCIS hSc hT h6 h7 hP hD hK => ?_)
  refine lv_aload_n hx hb dL_law_404 rfl (lv_at hl 3 rfl) ?_
  refine lv_aload_n hx hb dL_law_405 rfl (lv_at hl 4 rfl) ?_
  refine lv_iload hx hb dL_law_406 (lv_at hl 0 rfl) ?_
  refine lv_iconst (v := 1) hx hb dL_law_408 (by decide) ?_
  refine lv_iadd hx hb dL_law_409 ?_
  refine lv_topi (fun y1 ey1 => ?_)
  obtain rfl : y1 = nI (i + 1) := ey1.trans (nI_add i 1)
  refine va_sld hx hb hX hbl hbA hS (vp_in_nI (show i + 1 < L by omega) (by omega)) dL_law_410 ?_
  refine lv_topi (fun v2 ev2 => ?_)
  refine lv_aload_n hx hb dL_law_411 rfl (lv_at hl 4 rfl) ?_
  refine lv_iload hx hb dL_law_412 (lv_at hl 0 rfl) ?_
  refine lv_iconst (v := 2) hx hb dL_law_414 (by decide) ?_
  refine lv_iadd hx hb dL_law_415 ?_
  refine lv_topi (fun y3 ey3 => ?_)
  obtain rfl : y3 = nI (i + 2) := ey3.trans (nI_add i 2)
  refine va_sld hx hb hX hbl hbA hS (vp_in_nI (show i + 2 < L by omega) (by omega)) dL_law_416 ?_
  refine lv_topi (fun v4 ev4 => ?_)
  have hPc := pA_r hP
  have hDc := dA_r hD
  have hKc := kA_r hK
  have hFc := freeA hDc hS hA
  refine va_calli (va_runV (As := [.int v2, .int v4]) (rest := []) ⟨hx, hb, hml, hown, hts⟩ (k_node l dC dI _ v2 v4 h6) (cwV 2 hts (wd_V wd_526 wd_527 wd_528 wd_2 (wd_c wd_529)) rfl rfl rfl (by decide +kernel) ⟨Nat.le_of_ble_eq_true rfl, Nat.le_of_ble_eq_true rfl⟩) ⟨Pw.fb, KW.recv hKc hPc h6, fun U hU hW => Pw.to hPc hDc hKc hE hS hFc hU hW⟩ rfl rfl hl.1 rfl (lv_room (Nat.le_of_ble_eq_true rfl)) dL_law_417 ⟨(show cells + 0 ≤ 600128 by omega), (show slots + 0 ≤ 7301097 by omega)⟩) hS (fun q _ h => hFc q h) hFc (fun r6 u6 t H locs ht hvm hw6 hB hz1 hk1 hS => ?_)
  obtain ⟨wa, ta, h6, e6, gP, gK, gD⟩ := hB
  rw [ht] at gP
  obtain ⟨hP, hD⟩ := joinA hP hD hk1 hFc gP gD
  have hK := va_K.app (kA_l hK) (va_K.moved hvm.symm gK)
  refine lv_pop hx hb dL_law_420 rfl ?_
  refine lv_aload_n hx hb dL_law_421 rfl (lv_at hl 2 rfl) ?_
  refine lv_aload_n hx hb dL_law_422 rfl (lv_at hl 4 rfl) ?_
  refine lv_iload hx hb dL_law_423 (lv_at hl 0 rfl) ?_
  refine lv_iconst (v := 1) hx hb dL_law_425 (by decide) ?_
  refine lv_iadd hx hb dL_law_426 ?_
  refine lv_topi (fun y5 ey5 => ?_)
  obtain rfl : y5 = nI (i + 1) := ey5.trans (nI_add i 1)
  refine va_sld hx hb hX hbl hbA hS (vp_in_nI (show i + 1 < L by omega) (by omega)) dL_law_427 ?_
  refine lv_topi (fun v6 ev6 => ?_)
  obtain rfl : v2 = v6 := ev2.trans ev6.symm
  refine lv_aload_n hx hb dL_law_428 rfl (lv_at hl 4 rfl) ?_
  refine lv_iload hx hb dL_law_429 (lv_at hl 0 rfl) ?_
  refine lv_iconst (v := 2) hx hb dL_law_431 (by decide) ?_
  refine lv_iadd hx hb dL_law_432 ?_
  refine lv_topi (fun y7 ey7 => ?_)
  obtain rfl : y7 = nI (i + 2) := ey7.trans (nI_add i 2)
  refine va_sld hx hb hX hbl hbA hS (vp_in_nI (show i + 2 < L by omega) (by omega)) dL_law_433 ?_
  refine lv_topi (fun v8 ev8 => ?_)
  obtain rfl : v4 = v8 := ev4.trans ev8.symm
  have hP := pA_rot hP
  have hD := dA_rot hD
  have hK := kA_rot hK
  have hPc := pA_r hP
  have hDc := dA_r hD
  have hKc := kA_r hK
  have hFc := freeA hDc hS hA
  refine va_calli (va_runV (As := [.int v2, .int v4]) (rest := []) ⟨hx, hb, hml, hown, hts⟩ (m_node l dC dI _ v2 v4 h7) (cwV 2 hts (wd_V wd_540 wd_541 wd_542 wd_5 (wd_c wd_543)) rfl rfl rfl (by decide +kernel) ⟨Nat.le_of_ble_eq_true rfl, Nat.le_of_ble_eq_true rfl⟩) ⟨Pw.fb, MW.recv hKc hPc h7, fun U hU hW => Pw.to hPc hDc hKc hE hS hFc hU hW⟩ rfl rfl hl.1 rfl (lv_room (Nat.le_of_ble_eq_true rfl)) dL_law_434 ⟨(show cells + 0 ≤ 600128 by omega), (show slots + 0 ≤ 7301097 by omega)⟩) hS (fun q _ h => hFc q h) hFc (fun r7 u7 t H locs ht hvm hw7 hB hz1 hk1 hS => ?_)
  obtain ⟨wb, tb, h7, e7, gP, gK, gD⟩ := hB
  rw [ht] at gP
  obtain ⟨hP, hD⟩ := joinA hP hD hk1 hFc gP gD
  have hK := va_K.app (kA_l hK) (va_K.moved hvm.symm gK)
  have hP := pA_rot hP
  have hD := dA_rot hD
  have hK := kA_rot hK
  refine lv_pop hx hb dL_law_437 rfl ?_
  refine lv_goto (tgt := 1827) hx hb dL_law_438 (by decide) ?_
  refine W.widen (k := cells + 1) (n := slots + 6) (by omega) (by omega) ?_
  exact kk _ _ _ (LwS.in9 t0 T0 U0 y0 f0 iC_nodes iC_words iC_unsures iC_slips iC_throneNode iC_saidWorth fC_kind fC_parts fC_partNodes fC_weights fC_toldWorths fC_unsureWords fC_unsureWorths fS_worths fS_order iK_imageCount fI0_worths fI0_order fI1_worths fI1_order fI2_worths fI2_order iA_count fA_nodes fA_olds fA_says iC_unit fC_weightSums fC_steps fC_below fC_above iM_hasCourt fM_r fM_told fM_st fM_undone fM_kept iM_undos iM_images iM_scale iM_night wa wb ta tb kO _ q1 q2 q3 hR hCIS hSc hT h6 h7 hP hD hK) hS hl
set_option maxHeartbeats 4000000 in
set_option maxRecDepth 100000 in
theorem law_c5 {p : Program} {l : Launch} {e : Env} {s : State} {m : MethodId} {below : List Frame} {meth : Method} {c : Code} {b L : Nat} {xs : Nat → Int32} (C0 : lw_At p s m meth c b L xs) (hL : L ≤ 384) {A : Nat → Prop} (hA : ∀ q, s.heap.size ≤ q → A q) (hAs : ∀ q, A q → s.heap.size ≤ q) (hE : Ev A s s.heap) (hX9 : Ex A s s.heap) (hl8 : l.stackTraces = false) {dC : Nat → ClassId} {dI : Nat → Nat → Nat} {oK oM oO : Nat} {i cells slots : Nat} (hi : i + 6 ≤ L) (hc : cells + 1 ≤ 600128) (hs : slots + 6 ≤ 7301097) {H : Heap} {locs : List Loc} {ls : Array Slot} (hI : LwS dC dI A s H oK oM oO) (hS : va_S A s.heap H locs) (hl : lv_has ls 7 [(4, .int (nI i)), (3, .ref oO), (2, .ref oM), (1, .ref oK), (0, .ref b)]) (kk : ∀ (H : Heap) (locs : List Loc) (ls : Array Slot), LwS dC dI A s H oK oM oO → va_S A s.heap H locs → lv_has ls 7 [(4, .int (nI i)), (3, .ref oO), (2, .ref oM), (1, .ref oK), (0, .ref b)] → W p l e room_1 s m #[Value.ref b] below meth c H locs (cells + 1) (slots + 6) (lw_Z below #[Value.ref b] s) (F0 m 1827 ls [])) : W p l e room_1 s m #[Value.ref b] below meth c H locs (cells) (slots) (lw_Z below #[Value.ref b] s) (F0 m 441 ls []) := by
  obtain ⟨hx, hb, hr, hml, hown, hts0, hX, hbl, hlocks, hgv⟩ := id C0
  have hts : ∀ w ∈ wG, w.before #[Value.ref b] s = true := fun w h => hts0 w (wG_in w h)
  have htsN : ∀ w ∈ wN, w.before #[Value.ref b] s = true := fun w h => hts0 w (wN_in w h)
  have hbA : ¬ A b := fun h => Nat.lt_irrefl _ (Nat.lt_of_lt_of_le hbl (hAs b h))
  refine LwS.elim hI (fun t0 T0 U0 y0 f0 iC_nodes iC_words iC_unsures iC_slips iC_throneNode iC_saidWorth fC_kind fC_parts fC_partNodes fC_weights fC_toldWorths fC_unsureWords fC_unsureWorths fS_worths fS_order iK_imageCount fI0_worths fI0_order fI1_worths fI1_order fI2_worths fI2_order iA_count fA_nodes fA_olds fA_says iC_unit fC_weightSums fC_steps fC_below fC_above iM_hasCourt fM_r fM_told fM_st fM_undone fM_kept iM_undos iM_images iM_scale iM_night wa wb ta tb kO fO q1 q2 q3 hR hCIS hSc hT h6 h7 hP hD hK => ?_)
  refine lv_aload_n hx hb dL_law_441 rfl (lv_at hl 3 rfl) ?_
  refine lv_aload_n hx hb dL_law_442 rfl (lv_at hl 4 rfl) ?_
  refine lv_iload hx hb dL_law_443 (lv_at hl 0 rfl) ?_
  refine lv_iconst (v := 1) hx hb dL_law_445 (by decide) ?_
  refine lv_iadd hx hb dL_law_446 ?_
  refine lv_topi (fun y1 ey1 => ?_)
  obtain rfl : y1 = nI (i + 1) := ey1.trans (nI_add i 1)
  refine va_sld hx hb hX hbl hbA hS (vp_in_nI (show i + 1 < L by omega) (by omega)) dL_law_447 ?_
  refine lv_topi (fun v2 ev2 => ?_)
  refine lv_aload_n hx hb dL_law_448 rfl (lv_at hl 4 rfl) ?_
  refine lv_iload hx hb dL_law_449 (lv_at hl 0 rfl) ?_
  refine lv_iconst (v := 2) hx hb dL_law_451 (by decide) ?_
  refine lv_iadd hx hb dL_law_452 ?_
  refine lv_topi (fun y3 ey3 => ?_)
  obtain rfl : y3 = nI (i + 2) := ey3.trans (nI_add i 2)
  refine va_sld hx hb hX hbl hbA hS (vp_in_nI (show i + 2 < L by omega) (by omega)) dL_law_453 ?_
  refine lv_topi (fun v4 ev4 => ?_)
  have hPc := pA_r hP
  have hDc := dA_r hD
  have hKc := kA_r hK
  have hFc := freeA hDc hS hA
  refine va_calli (va_runV (As := [.int v2, .int v4]) (rest := []) ⟨hx, hb, hml, hown, hts⟩ (k_part l dC dI _ v2 v4 h6) (cwV 2 hts (wd_V wd_560 wd_561 wd_562 wd_2 (wd_c wd_563)) rfl rfl rfl (by decide +kernel) ⟨Nat.le_of_ble_eq_true rfl, Nat.le_of_ble_eq_true rfl⟩) ⟨Pw.fb, KW.recv hKc hPc h6, fun U hU hW => Pw.to hPc hDc hKc hE hS hFc hU hW⟩ rfl rfl hl.1 rfl (lv_room (Nat.le_of_ble_eq_true rfl)) dL_law_454 ⟨(show cells + 0 ≤ 600128 by omega), (show slots + 0 ≤ 7301097 by omega)⟩) hS (fun q _ h => hFc q h) hFc (fun r6 u6 t H locs ht hvm hw6 hB hz1 hk1 hS => ?_)
  obtain ⟨wa, ta, h6, e6, gP, gK, gD⟩ := hB
  rw [ht] at gP
  obtain ⟨hP, hD⟩ := joinA hP hD hk1 hFc gP gD
  have hK := va_K.app (kA_l hK) (va_K.moved hvm.symm gK)
  refine lv_pop hx hb dL_law_457 rfl ?_
  refine lv_aload_n hx hb dL_law_458 rfl (lv_at hl 2 rfl) ?_
  refine lv_aload_n hx hb dL_law_459 rfl (lv_at hl 4 rfl) ?_
  refine lv_iload hx hb dL_law_460 (lv_at hl 0 rfl) ?_
  refine lv_iconst (v := 1) hx hb dL_law_462 (by decide) ?_
  refine lv_iadd hx hb dL_law_463 ?_
  refine lv_topi (fun y5 ey5 => ?_)
  obtain rfl : y5 = nI (i + 1) := ey5.trans (nI_add i 1)
  refine va_sld hx hb hX hbl hbA hS (vp_in_nI (show i + 1 < L by omega) (by omega)) dL_law_464 ?_
  refine lv_topi (fun v6 ev6 => ?_)
  obtain rfl : v2 = v6 := ev2.trans ev6.symm
  refine lv_aload_n hx hb dL_law_465 rfl (lv_at hl 4 rfl) ?_
  refine lv_iload hx hb dL_law_466 (lv_at hl 0 rfl) ?_
  refine lv_iconst (v := 2) hx hb dL_law_468 (by decide) ?_
  refine lv_iadd hx hb dL_law_469 ?_
  refine lv_topi (fun y7 ey7 => ?_)
  obtain rfl : y7 = nI (i + 2) := ey7.trans (nI_add i 2)
  refine va_sld hx hb hX hbl hbA hS (vp_in_nI (show i + 2 < L by omega) (by omega)) dL_law_470 ?_
  refine lv_topi (fun v8 ev8 => ?_)
  obtain rfl : v4 = v8 := ev4.trans ev8.symm
  have hP := pA_rot hP
  have hD := dA_rot hD
  have hK := kA_rot hK
  have hPc := pA_r hP
  have hDc := dA_r hD
  have hKc := kA_r hK
  have hFc := freeA hDc hS hA
  refine va_calli (va_runV (As := [.int v2, .int v4]) (rest := []) ⟨hx, hb, hml, hown, hts⟩ (m_part l dC dI _ v2 v4 h7) (cwV 2 hts (wd_V wd_573 wd_574 wd_575 wd_5 (wd_c wd_576)) rfl rfl rfl (by decide +kernel) ⟨Nat.le_of_ble_eq_true rfl, Nat.le_of_ble_eq_true rfl⟩) ⟨Pw.fb, MW.recv hKc hPc h7, fun U hU hW => Pw.to hPc hDc hKc hE hS hFc hU hW⟩ rfl rfl hl.1 rfl (lv_room (Nat.le_of_ble_eq_true rfl)) dL_law_471 ⟨(show cells + 0 ≤ 600128 by omega), (show slots + 0 ≤ 7301097 by omega)⟩) hS (fun q _ h => hFc q h) hFc (fun r7 u7 t H locs ht hvm hw7 hB hz1 hk1 hS => ?_)
  obtain ⟨wb, tb, h7, e7, gP, gK, gD⟩ := hB
  rw [ht] at gP
  obtain ⟨hP, hD⟩ := joinA hP hD hk1 hFc gP gD
  have hK := va_K.app (kA_l hK) (va_K.moved hvm.symm gK)
  have hP := pA_rot hP
  have hD := dA_rot hD
  have hK := kA_rot hK
  refine lv_pop hx hb dL_law_474 rfl ?_
  refine lv_goto (tgt := 1827) hx hb dL_law_475 (by decide) ?_
  refine W.widen (k := cells + 1) (n := slots + 6) (by omega) (by omega) ?_
  exact kk _ _ _ (LwS.in9 t0 T0 U0 y0 f0 iC_nodes iC_words iC_unsures iC_slips iC_throneNode iC_saidWorth fC_kind fC_parts fC_partNodes fC_weights fC_toldWorths fC_unsureWords fC_unsureWorths fS_worths fS_order iK_imageCount fI0_worths fI0_order fI1_worths fI1_order fI2_worths fI2_order iA_count fA_nodes fA_olds fA_says iC_unit fC_weightSums fC_steps fC_below fC_above iM_hasCourt fM_r fM_told fM_st fM_undone fM_kept iM_undos iM_images iM_scale iM_night wa wb ta tb kO _ q1 q2 q3 hR hCIS hSc hT h6 h7 hP hD hK) hS hl
set_option maxHeartbeats 4000000 in
set_option maxRecDepth 100000 in
theorem law_c6 {p : Program} {l : Launch} {e : Env} {s : State} {m : MethodId} {below : List Frame} {meth : Method} {c : Code} {b L : Nat} {xs : Nat → Int32} (C0 : lw_At p s m meth c b L xs) (hL : L ≤ 384) {A : Nat → Prop} (hA : ∀ q, s.heap.size ≤ q → A q) (hAs : ∀ q, A q → s.heap.size ≤ q) (hE : Ev A s s.heap) (hX9 : Ex A s s.heap) (hl8 : l.stackTraces = false) {dC : Nat → ClassId} {dI : Nat → Nat → Nat} {oK oM oO : Nat} {i cells slots : Nat} (hi : i + 6 ≤ L) (hc : cells + 1 ≤ 600128) (hs : slots + 6 ≤ 7301097) {H : Heap} {locs : List Loc} {ls : Array Slot} (hI : LwS dC dI A s H oK oM oO) (hS : va_S A s.heap H locs) (hl : lv_has ls 7 [(4, .int (nI i)), (3, .ref oO), (2, .ref oM), (1, .ref oK), (0, .ref b)]) (kk : ∀ (H : Heap) (locs : List Loc) (ls : Array Slot), LwS dC dI A s H oK oM oO → va_S A s.heap H locs → lv_has ls 7 [(4, .int (nI i)), (3, .ref oO), (2, .ref oM), (1, .ref oK), (0, .ref b)] → W p l e room_1 s m #[Value.ref b] below meth c H locs (cells + 1) (slots + 6) (lw_Z below #[Value.ref b] s) (F0 m 1827 ls [])) : W p l e room_1 s m #[Value.ref b] below meth c H locs (cells) (slots) (lw_Z below #[Value.ref b] s) (F0 m 478 ls []) := by
  obtain ⟨hx, hb, hr, hml, hown, hts0, hX, hbl, hlocks, hgv⟩ := id C0
  have hts : ∀ w ∈ wG, w.before #[Value.ref b] s = true := fun w h => hts0 w (wG_in w h)
  have htsN : ∀ w ∈ wN, w.before #[Value.ref b] s = true := fun w h => hts0 w (wN_in w h)
  have hbA : ¬ A b := fun h => Nat.lt_irrefl _ (Nat.lt_of_lt_of_le hbl (hAs b h))
  refine LwS.elim hI (fun t0 T0 U0 y0 f0 iC_nodes iC_words iC_unsures iC_slips iC_throneNode iC_saidWorth fC_kind fC_parts fC_partNodes fC_weights fC_toldWorths fC_unsureWords fC_unsureWorths fS_worths fS_order iK_imageCount fI0_worths fI0_order fI1_worths fI1_order fI2_worths fI2_order iA_count fA_nodes fA_olds fA_says iC_unit fC_weightSums fC_steps fC_below fC_above iM_hasCourt fM_r fM_told fM_st fM_undone fM_kept iM_undos iM_images iM_scale iM_night wa wb ta tb kO fO q1 q2 q3 hR hCIS hSc hT h6 h7 hP hD hK => ?_)
  refine lv_aload_n hx hb dL_law_478 rfl (lv_at hl 3 rfl) ?_
  refine lv_aload_n hx hb dL_law_479 rfl (lv_at hl 4 rfl) ?_
  refine lv_iload hx hb dL_law_480 (lv_at hl 0 rfl) ?_
  refine lv_iconst (v := 1) hx hb dL_law_482 (by decide) ?_
  refine lv_iadd hx hb dL_law_483 ?_
  refine lv_topi (fun y1 ey1 => ?_)
  obtain rfl : y1 = nI (i + 1) := ey1.trans (nI_add i 1)
  refine va_sld hx hb hX hbl hbA hS (vp_in_nI (show i + 1 < L by omega) (by omega)) dL_law_484 ?_
  refine lv_topi (fun v2 ev2 => ?_)
  refine lv_aload_n hx hb dL_law_485 rfl (lv_at hl 4 rfl) ?_
  refine lv_iload hx hb dL_law_486 (lv_at hl 0 rfl) ?_
  refine lv_iconst (v := 2) hx hb dL_law_488 (by decide) ?_
  refine lv_iadd hx hb dL_law_489 ?_
  refine lv_topi (fun y3 ey3 => ?_)
  obtain rfl : y3 = nI (i + 2) := ey3.trans (nI_add i 2)
  refine va_sld hx hb hX hbl hbA hS (vp_in_nI (show i + 2 < L by omega) (by omega)) dL_law_490 ?_
  refine lv_topi (fun v4 ev4 => ?_)
  have hPc := pA_r hP
  have hDc := dA_r hD
  have hKc := kA_r hK
  have hFc := freeA hDc hS hA
  refine va_calli (va_runV (As := [.int v2, .int v4]) (rest := []) ⟨hx, hb, hml, hown, hts⟩ (k_weight l dC dI _ v2 v4 h6) (cwV 2 hts (wd_V wd_577 wd_578 wd_579 wd_2 (wd_c wd_580)) rfl rfl rfl (by decide +kernel) ⟨Nat.le_of_ble_eq_true rfl, Nat.le_of_ble_eq_true rfl⟩) ⟨Pw.fb, KW.recv hKc hPc h6, fun U hU hW => Pw.to hPc hDc hKc hE hS hFc hU hW⟩ rfl rfl hl.1 rfl (lv_room (Nat.le_of_ble_eq_true rfl)) dL_law_491 ⟨(show cells + 0 ≤ 600128 by omega), (show slots + 0 ≤ 7301097 by omega)⟩) hS (fun q _ h => hFc q h) hFc (fun r6 u6 t H locs ht hvm hw6 hB hz1 hk1 hS => ?_)
  obtain ⟨wa, ta, h6, e6, gP, gK, gD⟩ := hB
  rw [ht] at gP
  obtain ⟨hP, hD⟩ := joinA hP hD hk1 hFc gP gD
  have hK := va_K.app (kA_l hK) (va_K.moved hvm.symm gK)
  refine lv_pop hx hb dL_law_494 rfl ?_
  refine lv_aload_n hx hb dL_law_495 rfl (lv_at hl 2 rfl) ?_
  refine lv_aload_n hx hb dL_law_496 rfl (lv_at hl 4 rfl) ?_
  refine lv_iload hx hb dL_law_497 (lv_at hl 0 rfl) ?_
  refine lv_iconst (v := 1) hx hb dL_law_499 (by decide) ?_
  refine lv_iadd hx hb dL_law_500 ?_
  refine lv_topi (fun y5 ey5 => ?_)
  obtain rfl : y5 = nI (i + 1) := ey5.trans (nI_add i 1)
  refine va_sld hx hb hX hbl hbA hS (vp_in_nI (show i + 1 < L by omega) (by omega)) dL_law_501 ?_
  refine lv_topi (fun v6 ev6 => ?_)
  obtain rfl : v2 = v6 := ev2.trans ev6.symm
  refine lv_aload_n hx hb dL_law_502 rfl (lv_at hl 4 rfl) ?_
  refine lv_iload hx hb dL_law_503 (lv_at hl 0 rfl) ?_
  refine lv_iconst (v := 2) hx hb dL_law_505 (by decide) ?_
  refine lv_iadd hx hb dL_law_506 ?_
  refine lv_topi (fun y7 ey7 => ?_)
  obtain rfl : y7 = nI (i + 2) := ey7.trans (nI_add i 2)
  refine va_sld hx hb hX hbl hbA hS (vp_in_nI (show i + 2 < L by omega) (by omega)) dL_law_507 ?_
  refine lv_topi (fun v8 ev8 => ?_)
  obtain rfl : v4 = v8 := ev4.trans ev8.symm
  have hP := pA_rot hP
  have hD := dA_rot hD
  have hK := kA_rot hK
  have hPc := pA_r hP
  have hDc := dA_r hD
  have hKc := kA_r hK
  have hFc := freeA hDc hS hA
  refine va_calli (va_runV (As := [.int v2, .int v4]) (rest := []) ⟨hx, hb, hml, hown, hts⟩ (m_weight l dC dI _ v2 v4 h7) (cwV 2 hts (wd_V wd_583 wd_584 wd_585 wd_5 (wd_c wd_586)) rfl rfl rfl (by decide +kernel) ⟨Nat.le_of_ble_eq_true rfl, Nat.le_of_ble_eq_true rfl⟩) ⟨Pw.fb, MW.recv hKc hPc h7, fun U hU hW => Pw.to hPc hDc hKc hE hS hFc hU hW⟩ rfl rfl hl.1 rfl (lv_room (Nat.le_of_ble_eq_true rfl)) dL_law_508 ⟨(show cells + 0 ≤ 600128 by omega), (show slots + 0 ≤ 7301097 by omega)⟩) hS (fun q _ h => hFc q h) hFc (fun r7 u7 t H locs ht hvm hw7 hB hz1 hk1 hS => ?_)
  obtain ⟨wb, tb, h7, e7, gP, gK, gD⟩ := hB
  rw [ht] at gP
  obtain ⟨hP, hD⟩ := joinA hP hD hk1 hFc gP gD
  have hK := va_K.app (kA_l hK) (va_K.moved hvm.symm gK)
  have hP := pA_rot hP
  have hD := dA_rot hD
  have hK := kA_rot hK
  refine lv_pop hx hb dL_law_511 rfl ?_
  refine lv_goto (tgt := 1827) hx hb dL_law_512 (by decide) ?_
  refine W.widen (k := cells + 1) (n := slots + 6) (by omega) (by omega) ?_
  exact kk _ _ _ (LwS.in9 t0 T0 U0 y0 f0 iC_nodes iC_words iC_unsures iC_slips iC_throneNode iC_saidWorth fC_kind fC_parts fC_partNodes fC_weights fC_toldWorths fC_unsureWords fC_unsureWorths fS_worths fS_order iK_imageCount fI0_worths fI0_order fI1_worths fI1_order fI2_worths fI2_order iA_count fA_nodes fA_olds fA_says iC_unit fC_weightSums fC_steps fC_below fC_above iM_hasCourt fM_r fM_told fM_st fM_undone fM_kept iM_undos iM_images iM_scale iM_night wa wb ta tb kO _ q1 q2 q3 hR hCIS hSc hT h6 h7 hP hD hK) hS hl
set_option maxHeartbeats 4000000 in
set_option maxRecDepth 100000 in
theorem law_c7 {p : Program} {l : Launch} {e : Env} {s : State} {m : MethodId} {below : List Frame} {meth : Method} {c : Code} {b L : Nat} {xs : Nat → Int32} (C0 : lw_At p s m meth c b L xs) (hL : L ≤ 384) {A : Nat → Prop} (hA : ∀ q, s.heap.size ≤ q → A q) (hAs : ∀ q, A q → s.heap.size ≤ q) (hE : Ev A s s.heap) (hX9 : Ex A s s.heap) (hl8 : l.stackTraces = false) {dC : Nat → ClassId} {dI : Nat → Nat → Nat} {oK oM oO : Nat} {i cells slots : Nat} (hi : i + 6 ≤ L) (hc : cells + 1 ≤ 600128) (hs : slots + 6 ≤ 7301097) {H : Heap} {locs : List Loc} {ls : Array Slot} (hI : LwS dC dI A s H oK oM oO) (hS : va_S A s.heap H locs) (hl : lv_has ls 7 [(4, .int (nI i)), (3, .ref oO), (2, .ref oM), (1, .ref oK), (0, .ref b)]) (kk : ∀ (H : Heap) (locs : List Loc) (ls : Array Slot), LwS dC dI A s H oK oM oO → va_S A s.heap H locs → lv_has ls 7 [(4, .int (nI i)), (3, .ref oO), (2, .ref oM), (1, .ref oK), (0, .ref b)] → W p l e room_1 s m #[Value.ref b] below meth c H locs (cells + 1) (slots + 6) (lw_Z below #[Value.ref b] s) (F0 m 1827 ls [])) : W p l e room_1 s m #[Value.ref b] below meth c H locs (cells) (slots) (lw_Z below #[Value.ref b] s) (F0 m 515 ls []) := by
  obtain ⟨hx, hb, hr, hml, hown, hts0, hX, hbl, hlocks, hgv⟩ := id C0
  have hts : ∀ w ∈ wG, w.before #[Value.ref b] s = true := fun w h => hts0 w (wG_in w h)
  have htsN : ∀ w ∈ wN, w.before #[Value.ref b] s = true := fun w h => hts0 w (wN_in w h)
  have hbA : ¬ A b := fun h => Nat.lt_irrefl _ (Nat.lt_of_lt_of_le hbl (hAs b h))
  refine LwS.elim hI (fun t0 T0 U0 y0 f0 iC_nodes iC_words iC_unsures iC_slips iC_throneNode iC_saidWorth fC_kind fC_parts fC_partNodes fC_weights fC_toldWorths fC_unsureWords fC_unsureWorths fS_worths fS_order iK_imageCount fI0_worths fI0_order fI1_worths fI1_order fI2_worths fI2_order iA_count fA_nodes fA_olds fA_says iC_unit fC_weightSums fC_steps fC_below fC_above iM_hasCourt fM_r fM_told fM_st fM_undone fM_kept iM_undos iM_images iM_scale iM_night wa wb ta tb kO fO q1 q2 q3 hR hCIS hSc hT h6 h7 hP hD hK => ?_)
  refine lv_aload_n hx hb dL_law_515 rfl (lv_at hl 3 rfl) ?_
  have hPc := pA_r hP
  have hDc := dA_r hD
  have hKc := kA_r hK
  have hFc := freeA hDc hS hA
  refine va_calli (va_runV (As := []) (rest := []) ⟨hx, hb, hml, hown, hts⟩ (k_throne l dC dI _  h6) (cwV 0 hts (wd_V wd_591 wd_592 wd_593 wd_2 (wd_c wd_594)) rfl rfl rfl (by decide +kernel) ⟨Nat.le_of_ble_eq_true rfl, Nat.le_of_ble_eq_true rfl⟩) ⟨Pw.fb, KW.recv hKc hPc h6, fun U hU hW => Pw.to hPc hDc hKc hE hS hFc hU hW⟩ rfl rfl hl.1 rfl (lv_room (Nat.le_of_ble_eq_true rfl)) dL_law_516 ⟨(show cells + 0 ≤ 600128 by omega), (show slots + 0 ≤ 7301097 by omega)⟩) hS (fun q _ h => hFc q h) hFc (fun r6 u6 t H locs ht hvm hw6 hB hz1 hk1 hS => ?_)
  obtain ⟨wa, ta, h6, e6, gP, gK, gD⟩ := hB
  rw [ht] at gP
  obtain ⟨hP, hD⟩ := joinA hP hD hk1 hFc gP gD
  have hK := va_K.app (kA_l hK) (va_K.moved hvm.symm gK)
  refine lv_pop hx hb dL_law_519 rfl ?_
  refine lv_aload_n hx hb dL_law_520 rfl (lv_at hl 2 rfl) ?_
  have hP := pA_rot hP
  have hD := dA_rot hD
  have hK := kA_rot hK
  have hPc := pA_r hP
  have hDc := dA_r hD
  have hKc := kA_r hK
  have hFc := freeA hDc hS hA
  refine va_calli (va_runV (As := []) (rest := []) ⟨hx, hb, hml, hown, hts⟩ (m_throne l dC dI _  h7) (cwV 0 hts (wd_V wd_600 wd_601 wd_602 wd_5 (wd_c wd_603)) rfl rfl rfl (by decide +kernel) ⟨Nat.le_of_ble_eq_true rfl, Nat.le_of_ble_eq_true rfl⟩) ⟨Pw.fb, MW.recv hKc hPc h7, fun U hU hW => Pw.to hPc hDc hKc hE hS hFc hU hW⟩ rfl rfl hl.1 rfl (lv_room (Nat.le_of_ble_eq_true rfl)) dL_law_521 ⟨(show cells + 0 ≤ 600128 by omega), (show slots + 0 ≤ 7301097 by omega)⟩) hS (fun q _ h => hFc q h) hFc (fun r7 u7 t H locs ht hvm hw7 hB hz1 hk1 hS => ?_)
  obtain ⟨wb, tb, h7, e7, gP, gK, gD⟩ := hB
  rw [ht] at gP
  obtain ⟨hP, hD⟩ := joinA hP hD hk1 hFc gP gD
  have hK := va_K.app (kA_l hK) (va_K.moved hvm.symm gK)
  have hP := pA_rot hP
  have hD := dA_rot hD
  have hK := kA_rot hK
  refine lv_pop hx hb dL_law_524 rfl ?_
  refine lv_goto (tgt := 1827) hx hb dL_law_525 (by decide) ?_
  refine W.widen (k := cells + 1) (n := slots + 6) (by omega) (by omega) ?_
  exact kk _ _ _ (LwS.in9 t0 T0 U0 y0 f0 iC_nodes iC_words iC_unsures iC_slips iC_throneNode iC_saidWorth fC_kind fC_parts fC_partNodes fC_weights fC_toldWorths fC_unsureWords fC_unsureWorths fS_worths fS_order iK_imageCount fI0_worths fI0_order fI1_worths fI1_order fI2_worths fI2_order iA_count fA_nodes fA_olds fA_says iC_unit fC_weightSums fC_steps fC_below fC_above iM_hasCourt fM_r fM_told fM_st fM_undone fM_kept iM_undos iM_images iM_scale iM_night wa wb ta tb kO _ q1 q2 q3 hR hCIS hSc hT h6 h7 hP hD hK) hS hl
set_option maxHeartbeats 4000000 in
set_option maxRecDepth 100000 in
theorem law_c8 {p : Program} {l : Launch} {e : Env} {s : State} {m : MethodId} {below : List Frame} {meth : Method} {c : Code} {b L : Nat} {xs : Nat → Int32} (C0 : lw_At p s m meth c b L xs) (hL : L ≤ 384) {A : Nat → Prop} (hA : ∀ q, s.heap.size ≤ q → A q) (hAs : ∀ q, A q → s.heap.size ≤ q) (hE : Ev A s s.heap) (hX9 : Ex A s s.heap) (hl8 : l.stackTraces = false) {dC : Nat → ClassId} {dI : Nat → Nat → Nat} {oK oM oO : Nat} {i cells slots : Nat} (hi : i + 6 ≤ L) (hc : cells + 1 ≤ 600128) (hs : slots + 6 ≤ 7301097) {H : Heap} {locs : List Loc} {ls : Array Slot} (hI : LwS dC dI A s H oK oM oO) (hS : va_S A s.heap H locs) (hl : lv_has ls 7 [(4, .int (nI i)), (3, .ref oO), (2, .ref oM), (1, .ref oK), (0, .ref b)]) (kk : ∀ (H : Heap) (locs : List Loc) (ls : Array Slot), LwS dC dI A s H oK oM oO → va_S A s.heap H locs → lv_has ls 7 [(4, .int (nI i)), (3, .ref oO), (2, .ref oM), (1, .ref oK), (0, .ref b)] → W p l e room_1 s m #[Value.ref b] below meth c H locs (cells + 1) (slots + 6) (lw_Z below #[Value.ref b] s) (F0 m 1827 ls [])) : W p l e room_1 s m #[Value.ref b] below meth c H locs (cells) (slots) (lw_Z below #[Value.ref b] s) (F0 m 528 ls []) := by
  obtain ⟨hx, hb, hr, hml, hown, hts0, hX, hbl, hlocks, hgv⟩ := id C0
  have hts : ∀ w ∈ wG, w.before #[Value.ref b] s = true := fun w h => hts0 w (wG_in w h)
  have htsN : ∀ w ∈ wN, w.before #[Value.ref b] s = true := fun w h => hts0 w (wN_in w h)
  have hbA : ¬ A b := fun h => Nat.lt_irrefl _ (Nat.lt_of_lt_of_le hbl (hAs b h))
  refine LwS.elim hI (fun t0 T0 U0 y0 f0 iC_nodes iC_words iC_unsures iC_slips iC_throneNode iC_saidWorth fC_kind fC_parts fC_partNodes fC_weights fC_toldWorths fC_unsureWords fC_unsureWorths fS_worths fS_order iK_imageCount fI0_worths fI0_order fI1_worths fI1_order fI2_worths fI2_order iA_count fA_nodes fA_olds fA_says iC_unit fC_weightSums fC_steps fC_below fC_above iM_hasCourt fM_r fM_told fM_st fM_undone fM_kept iM_undos iM_images iM_scale iM_night wa wb ta tb kO fO q1 q2 q3 hR hCIS hSc hT h6 h7 hP hD hK => ?_)
  have hM0 := MW_R h7
  refine lv_aload_n hx hb dL_law_528 rfl (lv_at hl 3 rfl) ?_
  refine lv_aload_n hx hb dL_law_529 rfl (lv_at hl 4 rfl) ?_
  refine lv_iload hx hb dL_law_530 (lv_at hl 0 rfl) ?_
  refine lv_iconst (v := 1) hx hb dL_law_532 (by decide) ?_
  refine lv_iadd hx hb dL_law_533 ?_
  refine lv_topi (fun y1 ey1 => ?_)
  obtain rfl : y1 = nI (i + 1) := ey1.trans (nI_add i 1)
  refine va_sld hx hb hX hbl hbA hS (vp_in_nI (show i + 1 < L by omega) (by omega)) dL_law_534 ?_
  refine lv_topi (fun v2 ev2 => ?_)
  refine lv_aload_n hx hb dL_law_535 rfl (lv_at hl 4 rfl) ?_
  refine lv_iload hx hb dL_law_536 (lv_at hl 0 rfl) ?_
  refine lv_iconst (v := 2) hx hb dL_law_538 (by decide) ?_
  refine lv_iadd hx hb dL_law_539 ?_
  refine lv_topi (fun y3 ey3 => ?_)
  obtain rfl : y3 = nI (i + 2) := ey3.trans (nI_add i 2)
  refine va_sld hx hb hX hbl hbA hS (vp_in_nI (show i + 2 < L by omega) (by omega)) dL_law_540 ?_
  refine lv_topi (fun v4 ev4 => ?_)
  refine vz_jeqb hx hb dL_law_541 dL_law_544 dL_law_545 dL_law_548 (fun b5 hb5 => ?_)
  have hPc := pA_r hP
  have hDc := dA_r hD
  have hKc := kA_r hK
  have hFc := freeA hDc hS hA
  refine va_calll (va_runV (As := [.int v2, .int b5]) (rest := []) ⟨hx, hb, hml, hown, hts⟩ (k_worth l dC dI _ v2 b5 h6) (cwV 2 hts (wd_V wd_604 wd_605 wd_606 wd_2 (wd_c wd_607)) rfl rfl rfl (by decide +kernel) ⟨Nat.le_of_ble_eq_true rfl, Nat.le_of_ble_eq_true rfl⟩) ⟨Pw.fb, KW.recv hKc hPc h6, fun U hU hW => Pw.to hPc hDc hKc hE hS hFc hU hW⟩ rfl rfl hl.1 rfl (lv_room (Nat.le_of_ble_eq_true rfl)) dL_law_549 ⟨(show cells + 0 ≤ 600128 by omega), (show slots + 0 ≤ 7301097 by omega)⟩) hS (fun q _ h => hFc q h) hFc (fun r6 u6 t H locs ht hvm hw6 hB hz1 hk1 hS => ?_)
  obtain ⟨wa, ta, h6, e6, gP, gK, gD⟩ := hB
  rw [ht] at gP
  obtain ⟨hP, hD⟩ := joinA hP hD hk1 hFc gP gD
  have hK := va_K.app (kA_l hK) (va_K.moved hvm.symm gK)
  refine lv_pop2_2 hx hb dL_law_552 rfl ?_
  refine lv_aload_n hx hb dL_law_553 rfl (lv_at hl 2 rfl) ?_
  refine lv_aload_n hx hb dL_law_554 rfl (lv_at hl 4 rfl) ?_
  refine lv_iload hx hb dL_law_555 (lv_at hl 0 rfl) ?_
  refine lv_iconst (v := 1) hx hb dL_law_557 (by decide) ?_
  refine lv_iadd hx hb dL_law_558 ?_
  refine lv_topi (fun y6 ey6 => ?_)
  obtain rfl : y6 = nI (i + 1) := ey6.trans (nI_add i 1)
  refine va_sld hx hb hX hbl hbA hS (vp_in_nI (show i + 1 < L by omega) (by omega)) dL_law_559 ?_
  refine lv_topi (fun v7 ev7 => ?_)
  obtain rfl : v2 = v7 := ev2.trans ev7.symm
  refine lv_aload_n hx hb dL_law_560 rfl (lv_at hl 4 rfl) ?_
  refine lv_iload hx hb dL_law_561 (lv_at hl 0 rfl) ?_
  refine lv_iconst (v := 2) hx hb dL_law_563 (by decide) ?_
  refine lv_iadd hx hb dL_law_564 ?_
  refine lv_topi (fun y8 ey8 => ?_)
  obtain rfl : y8 = nI (i + 2) := ey8.trans (nI_add i 2)
  refine va_sld hx hb hX hbl hbA hS (vp_in_nI (show i + 2 < L by omega) (by omega)) dL_law_565 ?_
  refine lv_topi (fun v9 ev9 => ?_)
  obtain rfl : v4 = v9 := ev4.trans ev9.symm
  refine vz_jeqb hx hb dL_law_566 dL_law_569 dL_law_570 dL_law_573 (fun b10 hb10 => ?_)
  obtain rfl : b5 = b10 := hb5.trans hb10.symm
  have hP := pA_rot hP
  have hD := dA_rot hD
  have hK := kA_rot hK
  have hPc := pA_r hP
  have hDc := dA_r hD
  have hKc := kA_r hK
  have hFc := freeA hDc hS hA
  refine va_calll (va_runV (As := [.int v2, .int b5]) (rest := []) ⟨hx, hb, hml, hown, hts⟩ (m_worth l dC dI _ v2 b5 h7) (cwV 2 hts (wd_V wd_641 wd_642 wd_643 wd_5 (wd_c wd_644)) rfl rfl rfl (by decide +kernel) ⟨Nat.le_of_ble_eq_true rfl, Nat.le_of_ble_eq_true rfl⟩) ⟨Pw.fb, MW.recv hKc hPc h7, fun U hU hW => Pw.to hPc hDc hKc hE hS hFc hU hW⟩ rfl rfl hl.1 rfl (lv_room (Nat.le_of_ble_eq_true rfl)) dL_law_574 ⟨(show cells + 0 ≤ 600128 by omega), (show slots + 0 ≤ 7301097 by omega)⟩) hS (fun q _ h => hFc q h) hFc (fun r7 u7 t H locs ht hvm hw7 hB hz1 hk1 hS => ?_)
  obtain ⟨wb, tb, h7, e7, gP, gK, gD⟩ := hB
  rw [ht] at gP
  obtain ⟨hP, hD⟩ := joinA hP hD hk1 hFc gP gD
  have hK := va_K.app (kA_l hK) (va_K.moved hvm.symm gK)
  have hP := pA_rot hP
  have hD := dA_rot hD
  have hK := kA_rot hK
  refine lv_pop2_2 hx hb dL_law_577 rfl ?_
  refine lv_goto (tgt := 1827) hx hb dL_law_578 (by decide) ?_
  refine W.widen (k := cells + 1) (n := slots + 6) (by omega) (by omega) ?_
  exact kk _ _ _ (LwS.in9 t0 T0 U0 y0 f0 iC_nodes iC_words iC_unsures iC_slips iC_throneNode iC_saidWorth fC_kind fC_parts fC_partNodes fC_weights fC_toldWorths fC_unsureWords fC_unsureWorths fS_worths fS_order iK_imageCount fI0_worths fI0_order fI1_worths fI1_order fI2_worths fI2_order iA_count fA_nodes fA_olds fA_says iC_unit fC_weightSums fC_steps fC_below fC_above iM_hasCourt fM_r fM_told fM_st fM_undone fM_kept iM_undos iM_images iM_scale iM_night wa wb ta tb kO _ q1 q2 q3 hR hCIS hSc hT h6 h7 hP hD hK) hS hl
set_option maxHeartbeats 4000000 in
set_option maxRecDepth 100000 in
theorem law_c9 {p : Program} {l : Launch} {e : Env} {s : State} {m : MethodId} {below : List Frame} {meth : Method} {c : Code} {b L : Nat} {xs : Nat → Int32} (C0 : lw_At p s m meth c b L xs) (hL : L ≤ 384) {A : Nat → Prop} (hA : ∀ q, s.heap.size ≤ q → A q) (hAs : ∀ q, A q → s.heap.size ≤ q) (hE : Ev A s s.heap) (hX9 : Ex A s s.heap) (hl8 : l.stackTraces = false) {dC : Nat → ClassId} {dI : Nat → Nat → Nat} {oK oM oO : Nat} {i cells slots : Nat} (hi : i + 6 ≤ L) (hc : cells + 1 ≤ 600128) (hs : slots + 6 ≤ 7301097) {H : Heap} {locs : List Loc} {ls : Array Slot} (hI : LwS dC dI A s H oK oM oO) (hS : va_S A s.heap H locs) (hl : lv_has ls 7 [(4, .int (nI i)), (3, .ref oO), (2, .ref oM), (1, .ref oK), (0, .ref b)]) (kk : ∀ (H : Heap) (locs : List Loc) (ls : Array Slot), LwS dC dI A s H oK oM oO → va_S A s.heap H locs → lv_has ls 7 [(4, .int (nI i)), (3, .ref oO), (2, .ref oM), (1, .ref oK), (0, .ref b)] → W p l e room_1 s m #[Value.ref b] below meth c H locs (cells + 1) (slots + 6) (lw_Z below #[Value.ref b] s) (F0 m 1827 ls [])) : W p l e room_1 s m #[Value.ref b] below meth c H locs (cells) (slots) (lw_Z below #[Value.ref b] s) (F0 m 581 ls []) := by
  obtain ⟨hx, hb, hr, hml, hown, hts0, hX, hbl, hlocks, hgv⟩ := id C0
  have hts : ∀ w ∈ wG, w.before #[Value.ref b] s = true := fun w h => hts0 w (wG_in w h)
  have htsN : ∀ w ∈ wN, w.before #[Value.ref b] s = true := fun w h => hts0 w (wN_in w h)
  have hbA : ¬ A b := fun h => Nat.lt_irrefl _ (Nat.lt_of_lt_of_le hbl (hAs b h))
  refine LwS.elim hI (fun t0 T0 U0 y0 f0 iC_nodes iC_words iC_unsures iC_slips iC_throneNode iC_saidWorth fC_kind fC_parts fC_partNodes fC_weights fC_toldWorths fC_unsureWords fC_unsureWorths fS_worths fS_order iK_imageCount fI0_worths fI0_order fI1_worths fI1_order fI2_worths fI2_order iA_count fA_nodes fA_olds fA_says iC_unit fC_weightSums fC_steps fC_below fC_above iM_hasCourt fM_r fM_told fM_st fM_undone fM_kept iM_undos iM_images iM_scale iM_night wa wb ta tb kO fO q1 q2 q3 hR hCIS hSc hT h6 h7 hP hD hK => ?_)
  have hM0 := MW_R h7
  refine lv_aload_n hx hb dL_law_581 rfl (lv_at hl 3 rfl) ?_
  refine lv_aload_n hx hb dL_law_582 rfl (lv_at hl 4 rfl) ?_
  refine lv_iload hx hb dL_law_583 (lv_at hl 0 rfl) ?_
  refine lv_iconst (v := 1) hx hb dL_law_585 (by decide) ?_
  refine lv_iadd hx hb dL_law_586 ?_
  refine lv_topi (fun y1 ey1 => ?_)
  obtain rfl : y1 = nI (i + 1) := ey1.trans (nI_add i 1)
  refine va_sld hx hb hX hbl hbA hS (vp_in_nI (show i + 1 < L by omega) (by omega)) dL_law_587 ?_
  refine lv_topi (fun v2 ev2 => ?_)
  have hPc := pA_r hP
  have hDc := dA_r hD
  have hKc := kA_r hK
  have hFc := freeA hDc hS hA
  refine va_calli (va_runV (As := [.int v2]) (rest := []) ⟨hx, hb, hml, hown, hts⟩ (k_best l dC dI _ v2 h6) (cwV 1 hts (wd_V wd_658 wd_659 wd_660 wd_2 (wd_c wd_661)) rfl rfl rfl (by decide +kernel) ⟨Nat.le_of_ble_eq_true rfl, Nat.le_of_ble_eq_true rfl⟩) ⟨Pw.fb, KW.recv hKc hPc h6, fun U hU hW => Pw.to hPc hDc hKc hE hS hFc hU hW⟩ rfl rfl hl.1 rfl (lv_room (Nat.le_of_ble_eq_true rfl)) dL_law_588 ⟨(show cells + 0 ≤ 600128 by omega), (show slots + 0 ≤ 7301097 by omega)⟩) hS (fun q _ h => hFc q h) hFc (fun r6 u6 t H locs ht hvm hw6 hB hz1 hk1 hS => ?_)
  obtain ⟨wa, ta, h6, e6, gP, gK, gD⟩ := hB
  rw [ht] at gP
  obtain ⟨hP, hD⟩ := joinA hP hD hk1 hFc gP gD
  have hK := va_K.app (kA_l hK) (va_K.moved hvm.symm gK)
  refine lv_pop hx hb dL_law_591 rfl ?_
  refine lv_aload_n hx hb dL_law_592 rfl (lv_at hl 2 rfl) ?_
  refine lv_aload_n hx hb dL_law_593 rfl (lv_at hl 4 rfl) ?_
  refine lv_iload hx hb dL_law_594 (lv_at hl 0 rfl) ?_
  refine lv_iconst (v := 1) hx hb dL_law_596 (by decide) ?_
  refine lv_iadd hx hb dL_law_597 ?_
  refine lv_topi (fun y3 ey3 => ?_)
  obtain rfl : y3 = nI (i + 1) := ey3.trans (nI_add i 1)
  refine va_sld hx hb hX hbl hbA hS (vp_in_nI (show i + 1 < L by omega) (by omega)) dL_law_598 ?_
  refine lv_topi (fun v4 ev4 => ?_)
  obtain rfl : v2 = v4 := ev2.trans ev4.symm
  have hP := pA_rot hP
  have hD := dA_rot hD
  have hK := kA_rot hK
  have hPc := pA_r hP
  have hDc := dA_r hD
  have hKc := kA_r hK
  have hFc := freeA hDc hS hA
  refine va_calli (va_runV (As := [.int v2]) (rest := []) ⟨hx, hb, hml, hown, hts⟩ (m_best l dC dI _ v2 h7) (cwV 1 hts (wd_V wd_666 wd_667 wd_668 wd_5 (wd_c wd_669)) rfl rfl rfl (by decide +kernel) ⟨Nat.le_of_ble_eq_true rfl, Nat.le_of_ble_eq_true rfl⟩) ⟨Pw.fb, MW.recv hKc hPc h7, fun U hU hW => Pw.to hPc hDc hKc hE hS hFc hU hW⟩ rfl rfl hl.1 rfl (lv_room (Nat.le_of_ble_eq_true rfl)) dL_law_599 ⟨(show cells + 0 ≤ 600128 by omega), (show slots + 0 ≤ 7301097 by omega)⟩) hS (fun q _ h => hFc q h) hFc (fun r7 u7 t H locs ht hvm hw7 hB hz1 hk1 hS => ?_)
  obtain ⟨wb, tb, h7, e7, gP, gK, gD⟩ := hB
  rw [ht] at gP
  obtain ⟨hP, hD⟩ := joinA hP hD hk1 hFc gP gD
  have hK := va_K.app (kA_l hK) (va_K.moved hvm.symm gK)
  have hP := pA_rot hP
  have hD := dA_rot hD
  have hK := kA_rot hK
  refine lv_pop hx hb dL_law_602 rfl ?_
  refine lv_goto (tgt := 1827) hx hb dL_law_603 (by decide) ?_
  refine W.widen (k := cells + 1) (n := slots + 6) (by omega) (by omega) ?_
  exact kk _ _ _ (LwS.in9 t0 T0 U0 y0 f0 iC_nodes iC_words iC_unsures iC_slips iC_throneNode iC_saidWorth fC_kind fC_parts fC_partNodes fC_weights fC_toldWorths fC_unsureWords fC_unsureWorths fS_worths fS_order iK_imageCount fI0_worths fI0_order fI1_worths fI1_order fI2_worths fI2_order iA_count fA_nodes fA_olds fA_says iC_unit fC_weightSums fC_steps fC_below fC_above iM_hasCourt fM_r fM_told fM_st fM_undone fM_kept iM_undos iM_images iM_scale iM_night wa wb ta tb kO _ q1 q2 q3 hR hCIS hSc hT h6 h7 hP hD hK) hS hl
set_option maxHeartbeats 4000000 in
set_option maxRecDepth 100000 in
theorem law_c10 {p : Program} {l : Launch} {e : Env} {s : State} {m : MethodId} {below : List Frame} {meth : Method} {c : Code} {b L : Nat} {xs : Nat → Int32} (C0 : lw_At p s m meth c b L xs) (hL : L ≤ 384) {A : Nat → Prop} (hA : ∀ q, s.heap.size ≤ q → A q) (hAs : ∀ q, A q → s.heap.size ≤ q) (hE : Ev A s s.heap) (hX9 : Ex A s s.heap) (hl8 : l.stackTraces = false) {dC : Nat → ClassId} {dI : Nat → Nat → Nat} {oK oM oO : Nat} {i cells slots : Nat} (hi : i + 6 ≤ L) (hc : cells + 1 ≤ 600128) (hs : slots + 6 ≤ 7301097) {H : Heap} {locs : List Loc} {ls : Array Slot} (hI : LwS dC dI A s H oK oM oO) (hS : va_S A s.heap H locs) (hl : lv_has ls 7 [(4, .int (nI i)), (3, .ref oO), (2, .ref oM), (1, .ref oK), (0, .ref b)]) (kk : ∀ (H : Heap) (locs : List Loc) (ls : Array Slot), LwS dC dI A s H oK oM oO → va_S A s.heap H locs → lv_has ls 7 [(4, .int (nI i)), (3, .ref oO), (2, .ref oM), (1, .ref oK), (0, .ref b)] → W p l e room_1 s m #[Value.ref b] below meth c H locs (cells + 1) (slots + 6) (lw_Z below #[Value.ref b] s) (F0 m 1827 ls [])) : W p l e room_1 s m #[Value.ref b] below meth c H locs (cells) (slots) (lw_Z below #[Value.ref b] s) (F0 m 606 ls []) := by
  obtain ⟨hx, hb, hr, hml, hown, hts0, hX, hbl, hlocks, hgv⟩ := id C0
  have hts : ∀ w ∈ wG, w.before #[Value.ref b] s = true := fun w h => hts0 w (wG_in w h)
  have htsN : ∀ w ∈ wN, w.before #[Value.ref b] s = true := fun w h => hts0 w (wN_in w h)
  have hbA : ¬ A b := fun h => Nat.lt_irrefl _ (Nat.lt_of_lt_of_le hbl (hAs b h))
  refine LwS.elim hI (fun t0 T0 U0 y0 f0 iC_nodes iC_words iC_unsures iC_slips iC_throneNode iC_saidWorth fC_kind fC_parts fC_partNodes fC_weights fC_toldWorths fC_unsureWords fC_unsureWorths fS_worths fS_order iK_imageCount fI0_worths fI0_order fI1_worths fI1_order fI2_worths fI2_order iA_count fA_nodes fA_olds fA_says iC_unit fC_weightSums fC_steps fC_below fC_above iM_hasCourt fM_r fM_told fM_st fM_undone fM_kept iM_undos iM_images iM_scale iM_night wa wb ta tb kO fO q1 q2 q3 hR hCIS hSc hT h6 h7 hP hD hK => ?_)
  have hM0 := MW_R h7
  refine lv_aload_n hx hb dL_law_606 rfl (lv_at hl 3 rfl) ?_
  have hPc := pA_r hP
  have hDc := dA_r hD
  have hKc := kA_r hK
  have hFc := freeA hDc hS hA
  refine va_calli (va_runV (As := []) (rest := []) ⟨hx, hb, hml, hown, hts⟩ (k_line l dC dI _  h6) (cwV 0 hts (wd_V wd_674 wd_675 wd_676 wd_2 (wd_c wd_677)) rfl rfl rfl (by decide +kernel) ⟨Nat.le_of_ble_eq_true rfl, Nat.le_of_ble_eq_true rfl⟩) ⟨Pw.fb, KW.recv hKc hPc h6, fun U hU hW => Pw.to hPc hDc hKc hE hS hFc hU hW⟩ rfl rfl hl.1 rfl (lv_room (Nat.le_of_ble_eq_true rfl)) dL_law_607 ⟨(show cells + 0 ≤ 600128 by omega), (show slots + 0 ≤ 7301097 by omega)⟩) hS (fun q _ h => hFc q h) hFc (fun r6 u6 t H locs ht hvm hw6 hB hz1 hk1 hS => ?_)
  obtain ⟨wa, ta, h6, e6, gP, gK, gD⟩ := hB
  rw [ht] at gP
  obtain ⟨hP, hD⟩ := joinA hP hD hk1 hFc gP gD
  have hK := va_K.app (kA_l hK) (va_K.moved hvm.symm gK)
  refine lv_pop hx hb dL_law_610 rfl ?_
  refine lv_aload_n hx hb dL_law_611 rfl (lv_at hl 2 rfl) ?_
  have hP := pA_rot hP
  have hD := dA_rot hD
  have hK := kA_rot hK
  have hPc := pA_r hP
  have hDc := dA_r hD
  have hKc := kA_r hK
  have hFc := freeA hDc hS hA
  refine va_calli (va_runV (As := []) (rest := []) ⟨hx, hb, hml, hown, hts⟩ (m_line l dC dI _  h7) (cwV 0 hts (wd_V wd_682 wd_683 wd_684 wd_5 (wd_c wd_685)) rfl rfl rfl (by decide +kernel) ⟨Nat.le_of_ble_eq_true rfl, Nat.le_of_ble_eq_true rfl⟩) ⟨Pw.fb, MW.recv hKc hPc h7, fun U hU hW => Pw.to hPc hDc hKc hE hS hFc hU hW⟩ rfl rfl hl.1 rfl (lv_room (Nat.le_of_ble_eq_true rfl)) dL_law_612 ⟨(show cells + 0 ≤ 600128 by omega), (show slots + 0 ≤ 7301097 by omega)⟩) hS (fun q _ h => hFc q h) hFc (fun r7 u7 t H locs ht hvm hw7 hB hz1 hk1 hS => ?_)
  obtain ⟨wb, tb, h7, e7, gP, gK, gD⟩ := hB
  rw [ht] at gP
  obtain ⟨hP, hD⟩ := joinA hP hD hk1 hFc gP gD
  have hK := va_K.app (kA_l hK) (va_K.moved hvm.symm gK)
  have hP := pA_rot hP
  have hD := dA_rot hD
  have hK := kA_rot hK
  refine lv_pop hx hb dL_law_615 rfl ?_
  refine lv_goto (tgt := 1827) hx hb dL_law_616 (by decide) ?_
  refine W.widen (k := cells + 1) (n := slots + 6) (by omega) (by omega) ?_
  exact kk _ _ _ (LwS.in9 t0 T0 U0 y0 f0 iC_nodes iC_words iC_unsures iC_slips iC_throneNode iC_saidWorth fC_kind fC_parts fC_partNodes fC_weights fC_toldWorths fC_unsureWords fC_unsureWorths fS_worths fS_order iK_imageCount fI0_worths fI0_order fI1_worths fI1_order fI2_worths fI2_order iA_count fA_nodes fA_olds fA_says iC_unit fC_weightSums fC_steps fC_below fC_above iM_hasCourt fM_r fM_told fM_st fM_undone fM_kept iM_undos iM_images iM_scale iM_night wa wb ta tb kO _ q1 q2 q3 hR hCIS hSc hT h6 h7 hP hD hK) hS hl
set_option maxHeartbeats 4000000 in
set_option maxRecDepth 100000 in
theorem law_c11 {p : Program} {l : Launch} {e : Env} {s : State} {m : MethodId} {below : List Frame} {meth : Method} {c : Code} {b L : Nat} {xs : Nat → Int32} (C0 : lw_At p s m meth c b L xs) (hL : L ≤ 384) {A : Nat → Prop} (hA : ∀ q, s.heap.size ≤ q → A q) (hAs : ∀ q, A q → s.heap.size ≤ q) (hE : Ev A s s.heap) (hX9 : Ex A s s.heap) (hl8 : l.stackTraces = false) {dC : Nat → ClassId} {dI : Nat → Nat → Nat} {oK oM oO : Nat} {i cells slots : Nat} (hi : i + 6 ≤ L) (hc : cells + 1 ≤ 600128) (hs : slots + 6 ≤ 7301097) {H : Heap} {locs : List Loc} {ls : Array Slot} (hI : LwS dC dI A s H oK oM oO) (hS : va_S A s.heap H locs) (hl : lv_has ls 7 [(4, .int (nI i)), (3, .ref oO), (2, .ref oM), (1, .ref oK), (0, .ref b)]) (kk : ∀ (H : Heap) (locs : List Loc) (ls : Array Slot), LwS dC dI A s H oK oM oO → va_S A s.heap H locs → lv_has ls 7 [(4, .int (nI i)), (3, .ref oO), (2, .ref oM), (1, .ref oK), (0, .ref b)] → W p l e room_1 s m #[Value.ref b] below meth c H locs (cells + 1) (slots + 6) (lw_Z below #[Value.ref b] s) (F0 m 1827 ls [])) : W p l e room_1 s m #[Value.ref b] below meth c H locs (cells) (slots) (lw_Z below #[Value.ref b] s) (F0 m 619 ls []) := by
  obtain ⟨hx, hb, hr, hml, hown, hts0, hX, hbl, hlocks, hgv⟩ := id C0
  have hts : ∀ w ∈ wG, w.before #[Value.ref b] s = true := fun w h => hts0 w (wG_in w h)
  have htsN : ∀ w ∈ wN, w.before #[Value.ref b] s = true := fun w h => hts0 w (wN_in w h)
  have hbA : ¬ A b := fun h => Nat.lt_irrefl _ (Nat.lt_of_lt_of_le hbl (hAs b h))
  refine LwS.elim hI (fun t0 T0 U0 y0 f0 iC_nodes iC_words iC_unsures iC_slips iC_throneNode iC_saidWorth fC_kind fC_parts fC_partNodes fC_weights fC_toldWorths fC_unsureWords fC_unsureWorths fS_worths fS_order iK_imageCount fI0_worths fI0_order fI1_worths fI1_order fI2_worths fI2_order iA_count fA_nodes fA_olds fA_says iC_unit fC_weightSums fC_steps fC_below fC_above iM_hasCourt fM_r fM_told fM_st fM_undone fM_kept iM_undos iM_images iM_scale iM_night wa wb ta tb kO fO q1 q2 q3 hR hCIS hSc hT h6 h7 hP hD hK => ?_)
  have hM0 := MW_R h7
  refine lv_aload_n hx hb dL_law_619 rfl (lv_at hl 3 rfl) ?_
  refine lv_aload_n hx hb dL_law_620 rfl (lv_at hl 4 rfl) ?_
  refine lv_iload hx hb dL_law_621 (lv_at hl 0 rfl) ?_
  refine lv_iconst (v := 1) hx hb dL_law_623 (by decide) ?_
  refine lv_iadd hx hb dL_law_624 ?_
  refine lv_topi (fun y1 ey1 => ?_)
  obtain rfl : y1 = nI (i + 1) := ey1.trans (nI_add i 1)
  refine va_sld hx hb hX hbl hbA hS (vp_in_nI (show i + 1 < L by omega) (by omega)) dL_law_625 ?_
  refine lv_topi (fun v2 ev2 => ?_)
  have hPc := pA_r hP
  have hDc := dA_r hD
  have hKc := kA_r hK
  have hFc := freeA hDc hS hA
  refine va_calli (va_runV (As := [.int v2]) (rest := []) ⟨hx, hb, hml, hown, hts⟩ (k_lineAt l dC dI _ v2 h6) (cwV 1 hts (wd_V wd_686 wd_687 wd_688 wd_2 (wd_c wd_689)) rfl rfl rfl (by decide +kernel) ⟨Nat.le_of_ble_eq_true rfl, Nat.le_of_ble_eq_true rfl⟩) ⟨Pw.fb, KW.recv hKc hPc h6, fun U hU hW => Pw.to hPc hDc hKc hE hS hFc hU hW⟩ rfl rfl hl.1 rfl (lv_room (Nat.le_of_ble_eq_true rfl)) dL_law_626 ⟨(show cells + 0 ≤ 600128 by omega), (show slots + 0 ≤ 7301097 by omega)⟩) hS (fun q _ h => hFc q h) hFc (fun r6 u6 t H locs ht hvm hw6 hB hz1 hk1 hS => ?_)
  obtain ⟨wa, ta, h6, e6, gP, gK, gD⟩ := hB
  rw [ht] at gP
  obtain ⟨hP, hD⟩ := joinA hP hD hk1 hFc gP gD
  have hK := va_K.app (kA_l hK) (va_K.moved hvm.symm gK)
  refine lv_pop hx hb dL_law_629 rfl ?_
  refine lv_aload_n hx hb dL_law_630 rfl (lv_at hl 2 rfl) ?_
  refine lv_aload_n hx hb dL_law_631 rfl (lv_at hl 4 rfl) ?_
  refine lv_iload hx hb dL_law_632 (lv_at hl 0 rfl) ?_
  refine lv_iconst (v := 1) hx hb dL_law_634 (by decide) ?_
  refine lv_iadd hx hb dL_law_635 ?_
  refine lv_topi (fun y3 ey3 => ?_)
  obtain rfl : y3 = nI (i + 1) := ey3.trans (nI_add i 1)
  refine va_sld hx hb hX hbl hbA hS (vp_in_nI (show i + 1 < L by omega) (by omega)) dL_law_636 ?_
  refine lv_topi (fun v4 ev4 => ?_)
  obtain rfl : v2 = v4 := ev2.trans ev4.symm
  have hP := pA_rot hP
  have hD := dA_rot hD
  have hK := kA_rot hK
  have hPc := pA_r hP
  have hDc := dA_r hD
  have hKc := kA_r hK
  have hFc := freeA hDc hS hA
  refine va_calli (va_runV (As := [.int v2]) (rest := []) ⟨hx, hb, hml, hown, hts⟩ (m_lineAt l dC dI _ v2 h7) (cwV 1 hts (wd_V wd_690 wd_691 wd_692 wd_5 (wd_c wd_693)) rfl rfl rfl (by decide +kernel) ⟨Nat.le_of_ble_eq_true rfl, Nat.le_of_ble_eq_true rfl⟩) ⟨Pw.fb, MW.recv hKc hPc h7, fun U hU hW => Pw.to hPc hDc hKc hE hS hFc hU hW⟩ rfl rfl hl.1 rfl (lv_room (Nat.le_of_ble_eq_true rfl)) dL_law_637 ⟨(show cells + 0 ≤ 600128 by omega), (show slots + 0 ≤ 7301097 by omega)⟩) hS (fun q _ h => hFc q h) hFc (fun r7 u7 t H locs ht hvm hw7 hB hz1 hk1 hS => ?_)
  obtain ⟨wb, tb, h7, e7, gP, gK, gD⟩ := hB
  rw [ht] at gP
  obtain ⟨hP, hD⟩ := joinA hP hD hk1 hFc gP gD
  have hK := va_K.app (kA_l hK) (va_K.moved hvm.symm gK)
  have hP := pA_rot hP
  have hD := dA_rot hD
  have hK := kA_rot hK
  refine lv_pop hx hb dL_law_640 rfl ?_
  refine lv_goto (tgt := 1827) hx hb dL_law_641 (by decide) ?_
  refine W.widen (k := cells + 1) (n := slots + 6) (by omega) (by omega) ?_
  exact kk _ _ _ (LwS.in9 t0 T0 U0 y0 f0 iC_nodes iC_words iC_unsures iC_slips iC_throneNode iC_saidWorth fC_kind fC_parts fC_partNodes fC_weights fC_toldWorths fC_unsureWords fC_unsureWorths fS_worths fS_order iK_imageCount fI0_worths fI0_order fI1_worths fI1_order fI2_worths fI2_order iA_count fA_nodes fA_olds fA_says iC_unit fC_weightSums fC_steps fC_below fC_above iM_hasCourt fM_r fM_told fM_st fM_undone fM_kept iM_undos iM_images iM_scale iM_night wa wb ta tb kO _ q1 q2 q3 hR hCIS hSc hT h6 h7 hP hD hK) hS hl
set_option maxHeartbeats 4000000 in
set_option maxRecDepth 100000 in
theorem law_c12 {p : Program} {l : Launch} {e : Env} {s : State} {m : MethodId} {below : List Frame} {meth : Method} {c : Code} {b L : Nat} {xs : Nat → Int32} (C0 : lw_At p s m meth c b L xs) (hL : L ≤ 384) {A : Nat → Prop} (hA : ∀ q, s.heap.size ≤ q → A q) (hAs : ∀ q, A q → s.heap.size ≤ q) (hE : Ev A s s.heap) (hX9 : Ex A s s.heap) (hl8 : l.stackTraces = false) {dC : Nat → ClassId} {dI : Nat → Nat → Nat} {oK oM oO : Nat} {i cells slots : Nat} (hi : i + 6 ≤ L) (hc : cells + 1 ≤ 600128) (hs : slots + 6 ≤ 7301097) {H : Heap} {locs : List Loc} {ls : Array Slot} (hI : LwS dC dI A s H oK oM oO) (hS : va_S A s.heap H locs) (hl : lv_has ls 7 [(4, .int (nI i)), (3, .ref oO), (2, .ref oM), (1, .ref oK), (0, .ref b)]) (kk : ∀ (H : Heap) (locs : List Loc) (ls : Array Slot), LwS dC dI A s H oK oM oO → va_S A s.heap H locs → lv_has ls 7 [(4, .int (nI i)), (3, .ref oO), (2, .ref oM), (1, .ref oK), (0, .ref b)] → W p l e room_1 s m #[Value.ref b] below meth c H locs (cells + 1) (slots + 6) (lw_Z below #[Value.ref b] s) (F0 m 1827 ls [])) : W p l e room_1 s m #[Value.ref b] below meth c H locs (cells) (slots) (lw_Z below #[Value.ref b] s) (F0 m 644 ls []) := by
  obtain ⟨hx, hb, hr, hml, hown, hts0, hX, hbl, hlocks, hgv⟩ := id C0
  have hts : ∀ w ∈ wG, w.before #[Value.ref b] s = true := fun w h => hts0 w (wG_in w h)
  have htsN : ∀ w ∈ wN, w.before #[Value.ref b] s = true := fun w h => hts0 w (wN_in w h)
  have hbA : ¬ A b := fun h => Nat.lt_irrefl _ (Nat.lt_of_lt_of_le hbl (hAs b h))
  refine LwS.elim hI (fun t0 T0 U0 y0 f0 iC_nodes iC_words iC_unsures iC_slips iC_throneNode iC_saidWorth fC_kind fC_parts fC_partNodes fC_weights fC_toldWorths fC_unsureWords fC_unsureWorths fS_worths fS_order iK_imageCount fI0_worths fI0_order fI1_worths fI1_order fI2_worths fI2_order iA_count fA_nodes fA_olds fA_says iC_unit fC_weightSums fC_steps fC_below fC_above iM_hasCourt fM_r fM_told fM_st fM_undone fM_kept iM_undos iM_images iM_scale iM_night wa wb ta tb kO fO q1 q2 q3 hR hCIS hSc hT h6 h7 hP hD hK => ?_)
  refine lv_aload_n hx hb dL_law_644 rfl (lv_at hl 3 rfl) ?_
  have hPc := pA_r hP
  have hDc := dA_r hD
  have hKc := kA_r hK
  have hFc := freeA hDc hS hA
  refine va_calli (va_runV (As := []) (rest := []) ⟨hx, hb, hml, hown, hts⟩ (k_whole l dC dI _  h6) (cwV 0 hts (wd_V wd_694 wd_695 wd_696 wd_2 (wd_c wd_697)) rfl rfl rfl (by decide +kernel) ⟨Nat.le_of_ble_eq_true rfl, Nat.le_of_ble_eq_true rfl⟩) ⟨Pw.fb, KW.recv hKc hPc h6, fun U hU hW => Pw.to hPc hDc hKc hE hS hFc hU hW⟩ rfl rfl hl.1 rfl (lv_room (Nat.le_of_ble_eq_true rfl)) dL_law_645 ⟨(show cells + 0 ≤ 600128 by omega), (show slots + 0 ≤ 7301097 by omega)⟩) hS (fun q _ h => hFc q h) hFc (fun r6 u6 t H locs ht hvm hw6 hB hz1 hk1 hS => ?_)
  obtain ⟨wa, ta, h6, e6, gP, gK, gD⟩ := hB
  rw [ht] at gP
  obtain ⟨hP, hD⟩ := joinA hP hD hk1 hFc gP gD
  have hK := va_K.app (kA_l hK) (va_K.moved hvm.symm gK)
  refine lv_pop hx hb dL_law_648 rfl ?_
  refine lv_aload_n hx hb dL_law_649 rfl (lv_at hl 2 rfl) ?_
  have hP := pA_rot hP
  have hD := dA_rot hD
  have hK := kA_rot hK
  have hPc := pA_r hP
  have hDc := dA_r hD
  have hKc := kA_r hK
  have hFc := freeA hDc hS hA
  refine va_calli (va_runV (As := []) (rest := []) ⟨hx, hb, hml, hown, hts⟩ (m_whole l dC dI _  h7) (cwV 0 hts (wd_V wd_702 wd_703 wd_704 wd_5 (wd_c wd_705)) rfl rfl rfl (by decide +kernel) ⟨Nat.le_of_ble_eq_true rfl, Nat.le_of_ble_eq_true rfl⟩) ⟨Pw.fb, MW.recv hKc hPc h7, fun U hU hW => Pw.to hPc hDc hKc hE hS hFc hU hW⟩ rfl rfl hl.1 rfl (lv_room (Nat.le_of_ble_eq_true rfl)) dL_law_650 ⟨(show cells + 0 ≤ 600128 by omega), (show slots + 0 ≤ 7301097 by omega)⟩) hS (fun q _ h => hFc q h) hFc (fun r7 u7 t H locs ht hvm hw7 hB hz1 hk1 hS => ?_)
  obtain ⟨wb, tb, h7, e7, gP, gK, gD⟩ := hB
  rw [ht] at gP
  obtain ⟨hP, hD⟩ := joinA hP hD hk1 hFc gP gD
  have hK := va_K.app (kA_l hK) (va_K.moved hvm.symm gK)
  have hP := pA_rot hP
  have hD := dA_rot hD
  have hK := kA_rot hK
  refine lv_pop hx hb dL_law_653 rfl ?_
  refine lv_goto (tgt := 1827) hx hb dL_law_654 (by decide) ?_
  refine W.widen (k := cells + 1) (n := slots + 6) (by omega) (by omega) ?_
  exact kk _ _ _ (LwS.in9 t0 T0 U0 y0 f0 iC_nodes iC_words iC_unsures iC_slips iC_throneNode iC_saidWorth fC_kind fC_parts fC_partNodes fC_weights fC_toldWorths fC_unsureWords fC_unsureWorths fS_worths fS_order iK_imageCount fI0_worths fI0_order fI1_worths fI1_order fI2_worths fI2_order iA_count fA_nodes fA_olds fA_says iC_unit fC_weightSums fC_steps fC_below fC_above iM_hasCourt fM_r fM_told fM_st fM_undone fM_kept iM_undos iM_images iM_scale iM_night wa wb ta tb kO _ q1 q2 q3 hR hCIS hSc hT h6 h7 hP hD hK) hS hl
set_option maxHeartbeats 4000000 in
set_option maxRecDepth 100000 in
theorem law_c13 {p : Program} {l : Launch} {e : Env} {s : State} {m : MethodId} {below : List Frame} {meth : Method} {c : Code} {b L : Nat} {xs : Nat → Int32} (C0 : lw_At p s m meth c b L xs) (hL : L ≤ 384) {A : Nat → Prop} (hA : ∀ q, s.heap.size ≤ q → A q) (hAs : ∀ q, A q → s.heap.size ≤ q) (hE : Ev A s s.heap) (hX9 : Ex A s s.heap) (hl8 : l.stackTraces = false) {dC : Nat → ClassId} {dI : Nat → Nat → Nat} {oK oM oO : Nat} {i cells slots : Nat} (hi : i + 6 ≤ L) (hc : cells + 1 ≤ 600128) (hs : slots + 6 ≤ 7301097) {H : Heap} {locs : List Loc} {ls : Array Slot} (hI : LwS dC dI A s H oK oM oO) (hS : va_S A s.heap H locs) (hl : lv_has ls 7 [(4, .int (nI i)), (3, .ref oO), (2, .ref oM), (1, .ref oK), (0, .ref b)]) (kk : ∀ (H : Heap) (locs : List Loc) (ls : Array Slot), LwS dC dI A s H oK oM oO → va_S A s.heap H locs → lv_has ls 7 [(4, .int (nI i)), (3, .ref oO), (2, .ref oM), (1, .ref oK), (0, .ref b)] → W p l e room_1 s m #[Value.ref b] below meth c H locs (cells + 1) (slots + 6) (lw_Z below #[Value.ref b] s) (F0 m 1827 ls [])) : W p l e room_1 s m #[Value.ref b] below meth c H locs (cells) (slots) (lw_Z below #[Value.ref b] s) (F0 m 657 ls []) := by
  obtain ⟨hx, hb, hr, hml, hown, hts0, hX, hbl, hlocks, hgv⟩ := id C0
  have hts : ∀ w ∈ wG, w.before #[Value.ref b] s = true := fun w h => hts0 w (wG_in w h)
  have htsN : ∀ w ∈ wN, w.before #[Value.ref b] s = true := fun w h => hts0 w (wN_in w h)
  have hbA : ¬ A b := fun h => Nat.lt_irrefl _ (Nat.lt_of_lt_of_le hbl (hAs b h))
  refine LwS.elim hI (fun t0 T0 U0 y0 f0 iC_nodes iC_words iC_unsures iC_slips iC_throneNode iC_saidWorth fC_kind fC_parts fC_partNodes fC_weights fC_toldWorths fC_unsureWords fC_unsureWorths fS_worths fS_order iK_imageCount fI0_worths fI0_order fI1_worths fI1_order fI2_worths fI2_order iA_count fA_nodes fA_olds fA_says iC_unit fC_weightSums fC_steps fC_below fC_above iM_hasCourt fM_r fM_told fM_st fM_undone fM_kept iM_undos iM_images iM_scale iM_night wa wb ta tb kO fO q1 q2 q3 hR hCIS hSc hT h6 h7 hP hD hK => ?_)
  have hM0 := MW_R h7
  refine lv_aload_n hx hb dL_law_657 rfl (lv_at hl 3 rfl) ?_
  have hPc := pA_r hP
  have hDc := dA_r hD
  have hKc := kA_r hK
  have hFc := freeA hDc hS hA
  refine va_calli (va_runV (As := []) (rest := []) ⟨hx, hb, hml, hown, hts⟩ (k_hears l dC dI _  h6) (cwV 0 hts (wd_V wd_710 wd_711 wd_712 wd_2 (wd_c wd_713)) rfl rfl rfl (by decide +kernel) ⟨Nat.le_of_ble_eq_true rfl, Nat.le_of_ble_eq_true rfl⟩) ⟨Pw.fb, KW.recv hKc hPc h6, fun U hU hW => Pw.to hPc hDc hKc hE hS hFc hU hW⟩ rfl rfl hl.1 rfl (lv_room (Nat.le_of_ble_eq_true rfl)) dL_law_658 ⟨(show cells + 0 ≤ 600128 by omega), (show slots + 0 ≤ 7301097 by omega)⟩) hS (fun q _ h => hFc q h) hFc (fun r6 u6 t H locs ht hvm hw6 hB hz1 hk1 hS => ?_)
  obtain ⟨wa, ta, h6, e6, gP, gK, gD⟩ := hB
  rw [ht] at gP
  obtain ⟨hP, hD⟩ := joinA hP hD hk1 hFc gP gD
  have hK := va_K.app (kA_l hK) (va_K.moved hvm.symm gK)
  refine lv_pop hx hb dL_law_661 rfl ?_
  refine lv_aload_n hx hb dL_law_662 rfl (lv_at hl 2 rfl) ?_
  have hP := pA_rot hP
  have hD := dA_rot hD
  have hK := kA_rot hK
  have hPc := pA_r hP
  have hDc := dA_r hD
  have hKc := kA_r hK
  have hFc := freeA hDc hS hA
  refine va_calli (va_runV (As := []) (rest := []) ⟨hx, hb, hml, hown, hts⟩ (m_hears l dC dI _  h7) (cwV 0 hts (wd_V wd_765 wd_766 wd_767 wd_5 (wd_c wd_768)) rfl rfl rfl (by decide +kernel) ⟨Nat.le_of_ble_eq_true rfl, Nat.le_of_ble_eq_true rfl⟩) ⟨Pw.fb, MW.recv hKc hPc h7, fun U hU hW => Pw.to hPc hDc hKc hE hS hFc hU hW⟩ rfl rfl hl.1 rfl (lv_room (Nat.le_of_ble_eq_true rfl)) dL_law_663 ⟨(show cells + 0 ≤ 600128 by omega), (show slots + 0 ≤ 7301097 by omega)⟩) hS (fun q _ h => hFc q h) hFc (fun r7 u7 t H locs ht hvm hw7 hB hz1 hk1 hS => ?_)
  obtain ⟨wb, tb, h7, e7, gP, gK, gD⟩ := hB
  rw [ht] at gP
  obtain ⟨hP, hD⟩ := joinA hP hD hk1 hFc gP gD
  have hK := va_K.app (kA_l hK) (va_K.moved hvm.symm gK)
  have hP := pA_rot hP
  have hD := dA_rot hD
  have hK := kA_rot hK
  refine lv_pop hx hb dL_law_666 rfl ?_
  refine lv_goto (tgt := 1827) hx hb dL_law_667 (by decide) ?_
  refine W.widen (k := cells + 1) (n := slots + 6) (by omega) (by omega) ?_
  exact kk _ _ _ (LwS.in9 t0 T0 U0 y0 f0 iC_nodes iC_words iC_unsures iC_slips iC_throneNode iC_saidWorth fC_kind fC_parts fC_partNodes fC_weights fC_toldWorths fC_unsureWords fC_unsureWorths fS_worths fS_order iK_imageCount fI0_worths fI0_order fI1_worths fI1_order fI2_worths fI2_order iA_count fA_nodes fA_olds fA_says iC_unit fC_weightSums fC_steps fC_below fC_above iM_hasCourt fM_r fM_told fM_st fM_undone fM_kept iM_undos iM_images iM_scale iM_night wa wb ta tb kO _ q1 q2 q3 hR hCIS hSc hT h6 h7 hP hD hK) hS hl
set_option maxHeartbeats 4000000 in
set_option maxRecDepth 100000 in
theorem law_c14 {p : Program} {l : Launch} {e : Env} {s : State} {m : MethodId} {below : List Frame} {meth : Method} {c : Code} {b L : Nat} {xs : Nat → Int32} (C0 : lw_At p s m meth c b L xs) (hL : L ≤ 384) {A : Nat → Prop} (hA : ∀ q, s.heap.size ≤ q → A q) (hAs : ∀ q, A q → s.heap.size ≤ q) (hE : Ev A s s.heap) (hX9 : Ex A s s.heap) (hl8 : l.stackTraces = false) {dC : Nat → ClassId} {dI : Nat → Nat → Nat} {oK oM oO : Nat} {i cells slots : Nat} (hi : i + 6 ≤ L) (hc : cells + 1 ≤ 600128) (hs : slots + 6 ≤ 7301097) {H : Heap} {locs : List Loc} {ls : Array Slot} (hI : LwS dC dI A s H oK oM oO) (hS : va_S A s.heap H locs) (hl : lv_has ls 7 [(4, .int (nI i)), (3, .ref oO), (2, .ref oM), (1, .ref oK), (0, .ref b)]) (kk : ∀ (H : Heap) (locs : List Loc) (ls : Array Slot), LwS dC dI A s H oK oM oO → va_S A s.heap H locs → lv_has ls 7 [(4, .int (nI i)), (3, .ref oO), (2, .ref oM), (1, .ref oK), (0, .ref b)] → W p l e room_1 s m #[Value.ref b] below meth c H locs (cells + 1) (slots + 6) (lw_Z below #[Value.ref b] s) (F0 m 1827 ls [])) : W p l e room_1 s m #[Value.ref b] below meth c H locs (cells) (slots) (lw_Z below #[Value.ref b] s) (F0 m 670 ls []) := by
  obtain ⟨hx, hb, hr, hml, hown, hts0, hX, hbl, hlocks, hgv⟩ := id C0
  have hts : ∀ w ∈ wG, w.before #[Value.ref b] s = true := fun w h => hts0 w (wG_in w h)
  have htsN : ∀ w ∈ wN, w.before #[Value.ref b] s = true := fun w h => hts0 w (wN_in w h)
  have hbA : ¬ A b := fun h => Nat.lt_irrefl _ (Nat.lt_of_lt_of_le hbl (hAs b h))
  refine LwS.elim hI (fun t0 T0 U0 y0 f0 iC_nodes iC_words iC_unsures iC_slips iC_throneNode iC_saidWorth fC_kind fC_parts fC_partNodes fC_weights fC_toldWorths fC_unsureWords fC_unsureWorths fS_worths fS_order iK_imageCount fI0_worths fI0_order fI1_worths fI1_order fI2_worths fI2_order iA_count fA_nodes fA_olds fA_says iC_unit fC_weightSums fC_steps fC_below fC_above iM_hasCourt fM_r fM_told fM_st fM_undone fM_kept iM_undos iM_images iM_scale iM_night wa wb ta tb kO fO q1 q2 q3 hR hCIS hSc hT h6 h7 hP hD hK => ?_)
  have hM0 := MW_R h7
  refine lv_aload_n hx hb dL_law_670 rfl (lv_at hl 3 rfl) ?_
  refine lv_aload_n hx hb dL_law_671 rfl (lv_at hl 4 rfl) ?_
  refine lv_iload hx hb dL_law_672 (lv_at hl 0 rfl) ?_
  refine lv_iconst (v := 1) hx hb dL_law_674 (by decide) ?_
  refine lv_iadd hx hb dL_law_675 ?_
  refine lv_topi (fun y1 ey1 => ?_)
  obtain rfl : y1 = nI (i + 1) := ey1.trans (nI_add i 1)
  refine va_sld hx hb hX hbl hbA hS (vp_in_nI (show i + 1 < L by omega) (by omega)) dL_law_676 ?_
  refine lv_topi (fun v2 ev2 => ?_)
  have hPc := pA_r hP
  have hDc := dA_r hD
  have hKc := kA_r hK
  have hFc := freeA hDc hS hA
  refine va_calli (va_runV (As := [.int v2]) (rest := []) ⟨hx, hb, hml, hown, hts⟩ (k_heardAt l dC dI _ v2 h6) (cwV 1 hts (wd_V wd_787 wd_788 wd_789 wd_2 (wd_c wd_790)) rfl rfl rfl (by decide +kernel) ⟨Nat.le_of_ble_eq_true rfl, Nat.le_of_ble_eq_true rfl⟩) ⟨Pw.fb, KW.recv hKc hPc h6, fun U hU hW => Pw.to hPc hDc hKc hE hS hFc hU hW⟩ rfl rfl hl.1 rfl (lv_room (Nat.le_of_ble_eq_true rfl)) dL_law_677 ⟨(show cells + 0 ≤ 600128 by omega), (show slots + 0 ≤ 7301097 by omega)⟩) hS (fun q _ h => hFc q h) hFc (fun r6 u6 t H locs ht hvm hw6 hB hz1 hk1 hS => ?_)
  obtain ⟨wa, ta, h6, e6, gP, gK, gD⟩ := hB
  rw [ht] at gP
  obtain ⟨hP, hD⟩ := joinA hP hD hk1 hFc gP gD
  have hK := va_K.app (kA_l hK) (va_K.moved hvm.symm gK)
  refine lv_pop hx hb dL_law_680 rfl ?_
  refine lv_aload_n hx hb dL_law_681 rfl (lv_at hl 2 rfl) ?_
  refine lv_aload_n hx hb dL_law_682 rfl (lv_at hl 4 rfl) ?_
  refine lv_iload hx hb dL_law_683 (lv_at hl 0 rfl) ?_
  refine lv_iconst (v := 1) hx hb dL_law_685 (by decide) ?_
  refine lv_iadd hx hb dL_law_686 ?_
  refine lv_topi (fun y3 ey3 => ?_)
  obtain rfl : y3 = nI (i + 1) := ey3.trans (nI_add i 1)
  refine va_sld hx hb hX hbl hbA hS (vp_in_nI (show i + 1 < L by omega) (by omega)) dL_law_687 ?_
  refine lv_topi (fun v4 ev4 => ?_)
  obtain rfl : v2 = v4 := ev2.trans ev4.symm
  have hP := pA_rot hP
  have hD := dA_rot hD
  have hK := kA_rot hK
  have hPc := pA_r hP
  have hDc := dA_r hD
  have hKc := kA_r hK
  have hFc := freeA hDc hS hA
  refine va_calli (va_runV (As := [.int v2]) (rest := []) ⟨hx, hb, hml, hown, hts⟩ (m_heardAt l dC dI _ v2 h7) (cwV 1 hts (wd_V wd_795 wd_796 wd_797 wd_5 (wd_c wd_798)) rfl rfl rfl (by decide +kernel) ⟨Nat.le_of_ble_eq_true rfl, Nat.le_of_ble_eq_true rfl⟩) ⟨Pw.fb, MW.recv hKc hPc h7, fun U hU hW => Pw.to hPc hDc hKc hE hS hFc hU hW⟩ rfl rfl hl.1 rfl (lv_room (Nat.le_of_ble_eq_true rfl)) dL_law_688 ⟨(show cells + 0 ≤ 600128 by omega), (show slots + 0 ≤ 7301097 by omega)⟩) hS (fun q _ h => hFc q h) hFc (fun r7 u7 t H locs ht hvm hw7 hB hz1 hk1 hS => ?_)
  obtain ⟨wb, tb, h7, e7, gP, gK, gD⟩ := hB
  rw [ht] at gP
  obtain ⟨hP, hD⟩ := joinA hP hD hk1 hFc gP gD
  have hK := va_K.app (kA_l hK) (va_K.moved hvm.symm gK)
  have hP := pA_rot hP
  have hD := dA_rot hD
  have hK := kA_rot hK
  refine lv_pop hx hb dL_law_691 rfl ?_
  refine lv_goto (tgt := 1827) hx hb dL_law_692 (by decide) ?_
  refine W.widen (k := cells + 1) (n := slots + 6) (by omega) (by omega) ?_
  exact kk _ _ _ (LwS.in9 t0 T0 U0 y0 f0 iC_nodes iC_words iC_unsures iC_slips iC_throneNode iC_saidWorth fC_kind fC_parts fC_partNodes fC_weights fC_toldWorths fC_unsureWords fC_unsureWorths fS_worths fS_order iK_imageCount fI0_worths fI0_order fI1_worths fI1_order fI2_worths fI2_order iA_count fA_nodes fA_olds fA_says iC_unit fC_weightSums fC_steps fC_below fC_above iM_hasCourt fM_r fM_told fM_st fM_undone fM_kept iM_undos iM_images iM_scale iM_night wa wb ta tb kO _ q1 q2 q3 hR hCIS hSc hT h6 h7 hP hD hK) hS hl
set_option maxHeartbeats 4000000 in
set_option maxRecDepth 100000 in
theorem law_c15 {p : Program} {l : Launch} {e : Env} {s : State} {m : MethodId} {below : List Frame} {meth : Method} {c : Code} {b L : Nat} {xs : Nat → Int32} (C0 : lw_At p s m meth c b L xs) (hL : L ≤ 384) {A : Nat → Prop} (hA : ∀ q, s.heap.size ≤ q → A q) (hAs : ∀ q, A q → s.heap.size ≤ q) (hE : Ev A s s.heap) (hX9 : Ex A s s.heap) (hl8 : l.stackTraces = false) {dC : Nat → ClassId} {dI : Nat → Nat → Nat} {oK oM oO : Nat} {i cells slots : Nat} (hi : i + 6 ≤ L) (hc : cells + 1 ≤ 600128) (hs : slots + 6 ≤ 7301097) {H : Heap} {locs : List Loc} {ls : Array Slot} (hI : LwS dC dI A s H oK oM oO) (hS : va_S A s.heap H locs) (hl : lv_has ls 7 [(4, .int (nI i)), (3, .ref oO), (2, .ref oM), (1, .ref oK), (0, .ref b)]) (kk : ∀ (H : Heap) (locs : List Loc) (ls : Array Slot), LwS dC dI A s H oK oM oO → va_S A s.heap H locs → lv_has ls 7 [(4, .int (nI i)), (3, .ref oO), (2, .ref oM), (1, .ref oK), (0, .ref b)] → W p l e room_1 s m #[Value.ref b] below meth c H locs (cells + 1) (slots + 6) (lw_Z below #[Value.ref b] s) (F0 m 1827 ls [])) : W p l e room_1 s m #[Value.ref b] below meth c H locs (cells) (slots) (lw_Z below #[Value.ref b] s) (F0 m 695 ls []) := by
  obtain ⟨hx, hb, hr, hml, hown, hts0, hX, hbl, hlocks, hgv⟩ := id C0
  have hts : ∀ w ∈ wG, w.before #[Value.ref b] s = true := fun w h => hts0 w (wG_in w h)
  have htsN : ∀ w ∈ wN, w.before #[Value.ref b] s = true := fun w h => hts0 w (wN_in w h)
  have hbA : ¬ A b := fun h => Nat.lt_irrefl _ (Nat.lt_of_lt_of_le hbl (hAs b h))
  refine LwS.elim hI (fun t0 T0 U0 y0 f0 iC_nodes iC_words iC_unsures iC_slips iC_throneNode iC_saidWorth fC_kind fC_parts fC_partNodes fC_weights fC_toldWorths fC_unsureWords fC_unsureWorths fS_worths fS_order iK_imageCount fI0_worths fI0_order fI1_worths fI1_order fI2_worths fI2_order iA_count fA_nodes fA_olds fA_says iC_unit fC_weightSums fC_steps fC_below fC_above iM_hasCourt fM_r fM_told fM_st fM_undone fM_kept iM_undos iM_images iM_scale iM_night wa wb ta tb kO fO q1 q2 q3 hR hCIS hSc hT h6 h7 hP hD hK => ?_)
  have hM0 := MW_R h7
  refine lv_aload_n hx hb dL_law_695 rfl (lv_at hl 3 rfl) ?_
  have hPc := pA_r hP
  have hDc := dA_r hD
  have hKc := kA_r hK
  have hFc := freeA hDc hS hA
  refine va_calli (va_runV (As := []) (rest := []) ⟨hx, hb, hml, hown, hts⟩ (k_heard l dC dI _  h6) (cwV 0 hts (wd_V wd_799 wd_800 wd_801 wd_2 (wd_c wd_802)) rfl rfl rfl (by decide +kernel) ⟨Nat.le_of_ble_eq_true rfl, Nat.le_of_ble_eq_true rfl⟩) ⟨Pw.fb, KW.recv hKc hPc h6, fun U hU hW => Pw.to hPc hDc hKc hE hS hFc hU hW⟩ rfl rfl hl.1 rfl (lv_room (Nat.le_of_ble_eq_true rfl)) dL_law_696 ⟨(show cells + 0 ≤ 600128 by omega), (show slots + 0 ≤ 7301097 by omega)⟩) hS (fun q _ h => hFc q h) hFc (fun r6 u6 t H locs ht hvm hw6 hB hz1 hk1 hS => ?_)
  obtain ⟨wa, ta, h6, e6, gP, gK, gD⟩ := hB
  rw [ht] at gP
  obtain ⟨hP, hD⟩ := joinA hP hD hk1 hFc gP gD
  have hK := va_K.app (kA_l hK) (va_K.moved hvm.symm gK)
  refine lv_pop hx hb dL_law_699 rfl ?_
  refine lv_aload_n hx hb dL_law_700 rfl (lv_at hl 2 rfl) ?_
  have hP := pA_rot hP
  have hD := dA_rot hD
  have hK := kA_rot hK
  have hPc := pA_r hP
  have hDc := dA_r hD
  have hKc := kA_r hK
  have hFc := freeA hDc hS hA
  refine va_calli (va_runV (As := []) (rest := []) ⟨hx, hb, hml, hown, hts⟩ (m_heard l dC dI _  h7) (cwV 0 hts (wd_V wd_804 wd_805 wd_806 wd_5 (wd_c wd_807)) rfl rfl rfl (by decide +kernel) ⟨Nat.le_of_ble_eq_true rfl, Nat.le_of_ble_eq_true rfl⟩) ⟨Pw.fb, MW.recv hKc hPc h7, fun U hU hW => Pw.to hPc hDc hKc hE hS hFc hU hW⟩ rfl rfl hl.1 rfl (lv_room (Nat.le_of_ble_eq_true rfl)) dL_law_701 ⟨(show cells + 0 ≤ 600128 by omega), (show slots + 0 ≤ 7301097 by omega)⟩) hS (fun q _ h => hFc q h) hFc (fun r7 u7 t H locs ht hvm hw7 hB hz1 hk1 hS => ?_)
  obtain ⟨wb, tb, h7, e7, gP, gK, gD⟩ := hB
  rw [ht] at gP
  obtain ⟨hP, hD⟩ := joinA hP hD hk1 hFc gP gD
  have hK := va_K.app (kA_l hK) (va_K.moved hvm.symm gK)
  have hP := pA_rot hP
  have hD := dA_rot hD
  have hK := kA_rot hK
  refine lv_pop hx hb dL_law_704 rfl ?_
  refine lv_goto (tgt := 1827) hx hb dL_law_705 (by decide) ?_
  refine W.widen (k := cells + 1) (n := slots + 6) (by omega) (by omega) ?_
  exact kk _ _ _ (LwS.in9 t0 T0 U0 y0 f0 iC_nodes iC_words iC_unsures iC_slips iC_throneNode iC_saidWorth fC_kind fC_parts fC_partNodes fC_weights fC_toldWorths fC_unsureWords fC_unsureWorths fS_worths fS_order iK_imageCount fI0_worths fI0_order fI1_worths fI1_order fI2_worths fI2_order iA_count fA_nodes fA_olds fA_says iC_unit fC_weightSums fC_steps fC_below fC_above iM_hasCourt fM_r fM_told fM_st fM_undone fM_kept iM_undos iM_images iM_scale iM_night wa wb ta tb kO _ q1 q2 q3 hR hCIS hSc hT h6 h7 hP hD hK) hS hl
set_option maxHeartbeats 4000000 in
set_option maxRecDepth 100000 in
theorem law_c16 {p : Program} {l : Launch} {e : Env} {s : State} {m : MethodId} {below : List Frame} {meth : Method} {c : Code} {b L : Nat} {xs : Nat → Int32} (C0 : lw_At p s m meth c b L xs) (hL : L ≤ 384) {A : Nat → Prop} (hA : ∀ q, s.heap.size ≤ q → A q) (hAs : ∀ q, A q → s.heap.size ≤ q) (hE : Ev A s s.heap) (hX9 : Ex A s s.heap) (hl8 : l.stackTraces = false) {dC : Nat → ClassId} {dI : Nat → Nat → Nat} {oK oM oO : Nat} {i cells slots : Nat} (hi : i + 6 ≤ L) (hc : cells + 1 ≤ 600128) (hs : slots + 6 ≤ 7301097) {H : Heap} {locs : List Loc} {ls : Array Slot} (hI : LwS dC dI A s H oK oM oO) (hS : va_S A s.heap H locs) (hl : lv_has ls 7 [(4, .int (nI i)), (3, .ref oO), (2, .ref oM), (1, .ref oK), (0, .ref b)]) (kk : ∀ (H : Heap) (locs : List Loc) (ls : Array Slot), LwS dC dI A s H oK oM oO → va_S A s.heap H locs → lv_has ls 7 [(4, .int (nI i)), (3, .ref oO), (2, .ref oM), (1, .ref oK), (0, .ref b)] → W p l e room_1 s m #[Value.ref b] below meth c H locs (cells + 1) (slots + 6) (lw_Z below #[Value.ref b] s) (F0 m 1827 ls [])) : W p l e room_1 s m #[Value.ref b] below meth c H locs (cells) (slots) (lw_Z below #[Value.ref b] s) (F0 m 708 ls []) := by
  obtain ⟨hx, hb, hr, hml, hown, hts0, hX, hbl, hlocks, hgv⟩ := id C0
  have hts : ∀ w ∈ wG, w.before #[Value.ref b] s = true := fun w h => hts0 w (wG_in w h)
  have htsN : ∀ w ∈ wN, w.before #[Value.ref b] s = true := fun w h => hts0 w (wN_in w h)
  have hbA : ¬ A b := fun h => Nat.lt_irrefl _ (Nat.lt_of_lt_of_le hbl (hAs b h))
  refine LwS.elim hI (fun t0 T0 U0 y0 f0 iC_nodes iC_words iC_unsures iC_slips iC_throneNode iC_saidWorth fC_kind fC_parts fC_partNodes fC_weights fC_toldWorths fC_unsureWords fC_unsureWorths fS_worths fS_order iK_imageCount fI0_worths fI0_order fI1_worths fI1_order fI2_worths fI2_order iA_count fA_nodes fA_olds fA_says iC_unit fC_weightSums fC_steps fC_below fC_above iM_hasCourt fM_r fM_told fM_st fM_undone fM_kept iM_undos iM_images iM_scale iM_night wa wb ta tb kO fO q1 q2 q3 hR hCIS hSc hT h6 h7 hP hD hK => ?_)
  have hM0 := MW_R h7
  refine lv_aload_n hx hb dL_law_708 rfl (lv_at hl 3 rfl) ?_
  have hPc := pA_r hP
  have hDc := dA_r hD
  have hKc := kA_r hK
  have hFc := freeA hDc hS hA
  refine va_calli (va_runV (As := []) (rest := []) ⟨hx, hb, hml, hown, hts⟩ (k_cuts l dC dI _  h6) (cwV 0 hts (wd_V wd_812 wd_813 wd_814 wd_2 (wd_c wd_815)) rfl rfl rfl (by decide +kernel) ⟨Nat.le_of_ble_eq_true rfl, Nat.le_of_ble_eq_true rfl⟩) ⟨Pw.fb, KW.recv hKc hPc h6, fun U hU hW => Pw.to hPc hDc hKc hE hS hFc hU hW⟩ rfl rfl hl.1 rfl (lv_room (Nat.le_of_ble_eq_true rfl)) dL_law_709 ⟨(show cells + 0 ≤ 600128 by omega), (show slots + 0 ≤ 7301097 by omega)⟩) hS (fun q _ h => hFc q h) hFc (fun r6 u6 t H locs ht hvm hw6 hB hz1 hk1 hS => ?_)
  obtain ⟨wa, ta, h6, e6, gP, gK, gD⟩ := hB
  rw [ht] at gP
  obtain ⟨hP, hD⟩ := joinA hP hD hk1 hFc gP gD
  have hK := va_K.app (kA_l hK) (va_K.moved hvm.symm gK)
  refine lv_pop hx hb dL_law_712 rfl ?_
  refine lv_aload_n hx hb dL_law_713 rfl (lv_at hl 2 rfl) ?_
  have hP := pA_rot hP
  have hD := dA_rot hD
  have hK := kA_rot hK
  have hPc := pA_r hP
  have hDc := dA_r hD
  have hKc := kA_r hK
  have hFc := freeA hDc hS hA
  refine va_calli (va_runV (As := []) (rest := []) ⟨hx, hb, hml, hown, hts⟩ (m_cuts l dC dI _  h7) (cwV 0 hts (wd_V wd_817 wd_818 wd_819 wd_5 (wd_c wd_820)) rfl rfl rfl (by decide +kernel) ⟨Nat.le_of_ble_eq_true rfl, Nat.le_of_ble_eq_true rfl⟩) ⟨Pw.fb, MW.recv hKc hPc h7, fun U hU hW => Pw.to hPc hDc hKc hE hS hFc hU hW⟩ rfl rfl hl.1 rfl (lv_room (Nat.le_of_ble_eq_true rfl)) dL_law_714 ⟨(show cells + 0 ≤ 600128 by omega), (show slots + 0 ≤ 7301097 by omega)⟩) hS (fun q _ h => hFc q h) hFc (fun r7 u7 t H locs ht hvm hw7 hB hz1 hk1 hS => ?_)
  obtain ⟨wb, tb, h7, e7, gP, gK, gD⟩ := hB
  rw [ht] at gP
  obtain ⟨hP, hD⟩ := joinA hP hD hk1 hFc gP gD
  have hK := va_K.app (kA_l hK) (va_K.moved hvm.symm gK)
  have hP := pA_rot hP
  have hD := dA_rot hD
  have hK := kA_rot hK
  refine lv_pop hx hb dL_law_717 rfl ?_
  refine lv_goto (tgt := 1827) hx hb dL_law_718 (by decide) ?_
  refine W.widen (k := cells + 1) (n := slots + 6) (by omega) (by omega) ?_
  exact kk _ _ _ (LwS.in9 t0 T0 U0 y0 f0 iC_nodes iC_words iC_unsures iC_slips iC_throneNode iC_saidWorth fC_kind fC_parts fC_partNodes fC_weights fC_toldWorths fC_unsureWords fC_unsureWorths fS_worths fS_order iK_imageCount fI0_worths fI0_order fI1_worths fI1_order fI2_worths fI2_order iA_count fA_nodes fA_olds fA_says iC_unit fC_weightSums fC_steps fC_below fC_above iM_hasCourt fM_r fM_told fM_st fM_undone fM_kept iM_undos iM_images iM_scale iM_night wa wb ta tb kO _ q1 q2 q3 hR hCIS hSc hT h6 h7 hP hD hK) hS hl
set_option maxHeartbeats 4000000 in
set_option maxRecDepth 100000 in
theorem law_c17 {p : Program} {l : Launch} {e : Env} {s : State} {m : MethodId} {below : List Frame} {meth : Method} {c : Code} {b L : Nat} {xs : Nat → Int32} (C0 : lw_At p s m meth c b L xs) (hL : L ≤ 384) {A : Nat → Prop} (hA : ∀ q, s.heap.size ≤ q → A q) (hAs : ∀ q, A q → s.heap.size ≤ q) (hE : Ev A s s.heap) (hX9 : Ex A s s.heap) (hl8 : l.stackTraces = false) {dC : Nat → ClassId} {dI : Nat → Nat → Nat} {oK oM oO : Nat} {i cells slots : Nat} (hi : i + 6 ≤ L) (hc : cells + 1 ≤ 600128) (hs : slots + 6 ≤ 7301097) {H : Heap} {locs : List Loc} {ls : Array Slot} (hI : LwS dC dI A s H oK oM oO) (hS : va_S A s.heap H locs) (hl : lv_has ls 7 [(4, .int (nI i)), (3, .ref oO), (2, .ref oM), (1, .ref oK), (0, .ref b)]) (kk : ∀ (H : Heap) (locs : List Loc) (ls : Array Slot), LwS dC dI A s H oK oM oO → va_S A s.heap H locs → lv_has ls 7 [(4, .int (nI i)), (3, .ref oO), (2, .ref oM), (1, .ref oK), (0, .ref b)] → W p l e room_1 s m #[Value.ref b] below meth c H locs (cells + 1) (slots + 6) (lw_Z below #[Value.ref b] s) (F0 m 1827 ls [])) : W p l e room_1 s m #[Value.ref b] below meth c H locs (cells) (slots) (lw_Z below #[Value.ref b] s) (F0 m 721 ls []) := by
  obtain ⟨hx, hb, hr, hml, hown, hts0, hX, hbl, hlocks, hgv⟩ := id C0
  have hts : ∀ w ∈ wG, w.before #[Value.ref b] s = true := fun w h => hts0 w (wG_in w h)
  have htsN : ∀ w ∈ wN, w.before #[Value.ref b] s = true := fun w h => hts0 w (wN_in w h)
  have hbA : ¬ A b := fun h => Nat.lt_irrefl _ (Nat.lt_of_lt_of_le hbl (hAs b h))
  refine LwS.elim hI (fun t0 T0 U0 y0 f0 iC_nodes iC_words iC_unsures iC_slips iC_throneNode iC_saidWorth fC_kind fC_parts fC_partNodes fC_weights fC_toldWorths fC_unsureWords fC_unsureWorths fS_worths fS_order iK_imageCount fI0_worths fI0_order fI1_worths fI1_order fI2_worths fI2_order iA_count fA_nodes fA_olds fA_says iC_unit fC_weightSums fC_steps fC_below fC_above iM_hasCourt fM_r fM_told fM_st fM_undone fM_kept iM_undos iM_images iM_scale iM_night wa wb ta tb kO fO q1 q2 q3 hR hCIS hSc hT h6 h7 hP hD hK => ?_)
  have hM0 := MW_R h7
  refine lv_aload_n hx hb dL_law_721 rfl (lv_at hl 3 rfl) ?_
  refine lv_aload_n hx hb dL_law_722 rfl (lv_at hl 4 rfl) ?_
  refine lv_iload hx hb dL_law_723 (lv_at hl 0 rfl) ?_
  refine lv_iconst (v := 1) hx hb dL_law_725 (by decide) ?_
  refine lv_iadd hx hb dL_law_726 ?_
  refine lv_topi (fun y1 ey1 => ?_)
  obtain rfl : y1 = nI (i + 1) := ey1.trans (nI_add i 1)
  refine va_sld hx hb hX hbl hbA hS (vp_in_nI (show i + 1 < L by omega) (by omega)) dL_law_727 ?_
  refine lv_topi (fun v2 ev2 => ?_)
  have hPc := pA_r hP
  have hDc := dA_r hD
  have hKc := kA_r hK
  have hFc := freeA hDc hS hA
  refine va_calli (va_runV (As := [.int v2]) (rest := []) ⟨hx, hb, hml, hown, hts⟩ (k_cutAt l dC dI _ v2 h6) (cwV 1 hts (wd_V wd_821 wd_822 wd_823 wd_2 (wd_c wd_824)) rfl rfl rfl (by decide +kernel) ⟨Nat.le_of_ble_eq_true rfl, Nat.le_of_ble_eq_true rfl⟩) ⟨Pw.fb, KW.recv hKc hPc h6, fun U hU hW => Pw.to hPc hDc hKc hE hS hFc hU hW⟩ rfl rfl hl.1 rfl (lv_room (Nat.le_of_ble_eq_true rfl)) dL_law_728 ⟨(show cells + 0 ≤ 600128 by omega), (show slots + 0 ≤ 7301097 by omega)⟩) hS (fun q _ h => hFc q h) hFc (fun r6 u6 t H locs ht hvm hw6 hB hz1 hk1 hS => ?_)
  obtain ⟨wa, ta, h6, e6, gP, gK, gD⟩ := hB
  rw [ht] at gP
  obtain ⟨hP, hD⟩ := joinA hP hD hk1 hFc gP gD
  have hK := va_K.app (kA_l hK) (va_K.moved hvm.symm gK)
  refine lv_pop hx hb dL_law_731 rfl ?_
  refine lv_aload_n hx hb dL_law_732 rfl (lv_at hl 2 rfl) ?_
  refine lv_aload_n hx hb dL_law_733 rfl (lv_at hl 4 rfl) ?_
  refine lv_iload hx hb dL_law_734 (lv_at hl 0 rfl) ?_
  refine lv_iconst (v := 1) hx hb dL_law_736 (by decide) ?_
  refine lv_iadd hx hb dL_law_737 ?_
  refine lv_topi (fun y3 ey3 => ?_)
  obtain rfl : y3 = nI (i + 1) := ey3.trans (nI_add i 1)
  refine va_sld hx hb hX hbl hbA hS (vp_in_nI (show i + 1 < L by omega) (by omega)) dL_law_738 ?_
  refine lv_topi (fun v4 ev4 => ?_)
  obtain rfl : v2 = v4 := ev2.trans ev4.symm
  have hP := pA_rot hP
  have hD := dA_rot hD
  have hK := kA_rot hK
  have hPc := pA_r hP
  have hDc := dA_r hD
  have hKc := kA_r hK
  have hFc := freeA hDc hS hA
  refine va_calli (va_runV (As := [.int v2]) (rest := []) ⟨hx, hb, hml, hown, hts⟩ (m_cutAt l dC dI _ v2 h7) (cwV 1 hts (wd_V wd_829 wd_830 wd_831 wd_5 (wd_c wd_832)) rfl rfl rfl (by decide +kernel) ⟨Nat.le_of_ble_eq_true rfl, Nat.le_of_ble_eq_true rfl⟩) ⟨Pw.fb, MW.recv hKc hPc h7, fun U hU hW => Pw.to hPc hDc hKc hE hS hFc hU hW⟩ rfl rfl hl.1 rfl (lv_room (Nat.le_of_ble_eq_true rfl)) dL_law_739 ⟨(show cells + 0 ≤ 600128 by omega), (show slots + 0 ≤ 7301097 by omega)⟩) hS (fun q _ h => hFc q h) hFc (fun r7 u7 t H locs ht hvm hw7 hB hz1 hk1 hS => ?_)
  obtain ⟨wb, tb, h7, e7, gP, gK, gD⟩ := hB
  rw [ht] at gP
  obtain ⟨hP, hD⟩ := joinA hP hD hk1 hFc gP gD
  have hK := va_K.app (kA_l hK) (va_K.moved hvm.symm gK)
  have hP := pA_rot hP
  have hD := dA_rot hD
  have hK := kA_rot hK
  refine lv_pop hx hb dL_law_742 rfl ?_
  refine lv_goto (tgt := 1827) hx hb dL_law_743 (by decide) ?_
  refine W.widen (k := cells + 1) (n := slots + 6) (by omega) (by omega) ?_
  exact kk _ _ _ (LwS.in9 t0 T0 U0 y0 f0 iC_nodes iC_words iC_unsures iC_slips iC_throneNode iC_saidWorth fC_kind fC_parts fC_partNodes fC_weights fC_toldWorths fC_unsureWords fC_unsureWorths fS_worths fS_order iK_imageCount fI0_worths fI0_order fI1_worths fI1_order fI2_worths fI2_order iA_count fA_nodes fA_olds fA_says iC_unit fC_weightSums fC_steps fC_below fC_above iM_hasCourt fM_r fM_told fM_st fM_undone fM_kept iM_undos iM_images iM_scale iM_night wa wb ta tb kO _ q1 q2 q3 hR hCIS hSc hT h6 h7 hP hD hK) hS hl
set_option maxHeartbeats 4000000 in
set_option maxRecDepth 100000 in
theorem law_c18 {p : Program} {l : Launch} {e : Env} {s : State} {m : MethodId} {below : List Frame} {meth : Method} {c : Code} {b L : Nat} {xs : Nat → Int32} (C0 : lw_At p s m meth c b L xs) (hL : L ≤ 384) {A : Nat → Prop} (hA : ∀ q, s.heap.size ≤ q → A q) (hAs : ∀ q, A q → s.heap.size ≤ q) (hE : Ev A s s.heap) (hX9 : Ex A s s.heap) (hl8 : l.stackTraces = false) {dC : Nat → ClassId} {dI : Nat → Nat → Nat} {oK oM oO : Nat} {i cells slots : Nat} (hi : i + 6 ≤ L) (hc : cells + 1 ≤ 600128) (hs : slots + 6 ≤ 7301097) {H : Heap} {locs : List Loc} {ls : Array Slot} (hI : LwS dC dI A s H oK oM oO) (hS : va_S A s.heap H locs) (hl : lv_has ls 7 [(4, .int (nI i)), (3, .ref oO), (2, .ref oM), (1, .ref oK), (0, .ref b)]) (kk : ∀ (H : Heap) (locs : List Loc) (ls : Array Slot), LwS dC dI A s H oK oM oO → va_S A s.heap H locs → lv_has ls 7 [(4, .int (nI i)), (3, .ref oO), (2, .ref oM), (1, .ref oK), (0, .ref b)] → W p l e room_1 s m #[Value.ref b] below meth c H locs (cells + 1) (slots + 6) (lw_Z below #[Value.ref b] s) (F0 m 1827 ls [])) : W p l e room_1 s m #[Value.ref b] below meth c H locs (cells) (slots) (lw_Z below #[Value.ref b] s) (F0 m 746 ls []) := by
  obtain ⟨hx, hb, hr, hml, hown, hts0, hX, hbl, hlocks, hgv⟩ := id C0
  have hts : ∀ w ∈ wG, w.before #[Value.ref b] s = true := fun w h => hts0 w (wG_in w h)
  have htsN : ∀ w ∈ wN, w.before #[Value.ref b] s = true := fun w h => hts0 w (wN_in w h)
  have hbA : ¬ A b := fun h => Nat.lt_irrefl _ (Nat.lt_of_lt_of_le hbl (hAs b h))
  refine LwS.elim hI (fun t0 T0 U0 y0 f0 iC_nodes iC_words iC_unsures iC_slips iC_throneNode iC_saidWorth fC_kind fC_parts fC_partNodes fC_weights fC_toldWorths fC_unsureWords fC_unsureWorths fS_worths fS_order iK_imageCount fI0_worths fI0_order fI1_worths fI1_order fI2_worths fI2_order iA_count fA_nodes fA_olds fA_says iC_unit fC_weightSums fC_steps fC_below fC_above iM_hasCourt fM_r fM_told fM_st fM_undone fM_kept iM_undos iM_images iM_scale iM_night wa wb ta tb kO fO q1 q2 q3 hR hCIS hSc hT h6 h7 hP hD hK => ?_)
  have hM0 := MW_R h7
  refine lv_aload_n hx hb dL_law_746 rfl (lv_at hl 3 rfl) ?_
  refine lv_aload_n hx hb dL_law_747 rfl (lv_at hl 4 rfl) ?_
  refine lv_iload hx hb dL_law_748 (lv_at hl 0 rfl) ?_
  refine lv_iconst (v := 1) hx hb dL_law_750 (by decide) ?_
  refine lv_iadd hx hb dL_law_751 ?_
  refine lv_topi (fun y1 ey1 => ?_)
  obtain rfl : y1 = nI (i + 1) := ey1.trans (nI_add i 1)
  refine va_sld hx hb hX hbl hbA hS (vp_in_nI (show i + 1 < L by omega) (by omega)) dL_law_752 ?_
  refine lv_topi (fun v2 ev2 => ?_)
  refine lv_aload_n hx hb dL_law_753 rfl (lv_at hl 4 rfl) ?_
  refine lv_iload hx hb dL_law_754 (lv_at hl 0 rfl) ?_
  refine lv_iconst (v := 2) hx hb dL_law_756 (by decide) ?_
  refine lv_iadd hx hb dL_law_757 ?_
  refine lv_topi (fun y3 ey3 => ?_)
  obtain rfl : y3 = nI (i + 2) := ey3.trans (nI_add i 2)
  refine va_sld hx hb hX hbl hbA hS (vp_in_nI (show i + 2 < L by omega) (by omega)) dL_law_758 ?_
  refine lv_topi (fun v4 ev4 => ?_)
  have hPc := pA_r hP
  have hDc := dA_r hD
  have hKc := kA_r hK
  have hFc := freeA hDc hS hA
  refine va_calli (va_runV (As := [.int v2, .int v4]) (rest := []) ⟨hx, hb, hml, hown, hts⟩ (k_hearsIn l dC dI _ v2 v4 h6) (cwV 2 hts (wd_V wd_833 wd_834 wd_835 wd_2 (wd_c wd_836)) rfl rfl rfl (by decide +kernel) ⟨Nat.le_of_ble_eq_true rfl, Nat.le_of_ble_eq_true rfl⟩) ⟨Pw.fb, KW.recv hKc hPc h6, fun U hU hW => Pw.to hPc hDc hKc hE hS hFc hU hW⟩ rfl rfl hl.1 rfl (lv_room (Nat.le_of_ble_eq_true rfl)) dL_law_759 ⟨(show cells + 0 ≤ 600128 by omega), (show slots + 0 ≤ 7301097 by omega)⟩) hS (fun q _ h => hFc q h) hFc (fun r6 u6 t H locs ht hvm hw6 hB hz1 hk1 hS => ?_)
  obtain ⟨wa, ta, h6, e6, gP, gK, gD⟩ := hB
  rw [ht] at gP
  obtain ⟨hP, hD⟩ := joinA hP hD hk1 hFc gP gD
  have hK := va_K.app (kA_l hK) (va_K.moved hvm.symm gK)
  refine lv_pop hx hb dL_law_762 rfl ?_
  refine lv_aload_n hx hb dL_law_763 rfl (lv_at hl 2 rfl) ?_
  refine lv_aload_n hx hb dL_law_764 rfl (lv_at hl 4 rfl) ?_
  refine lv_iload hx hb dL_law_765 (lv_at hl 0 rfl) ?_
  refine lv_iconst (v := 1) hx hb dL_law_767 (by decide) ?_
  refine lv_iadd hx hb dL_law_768 ?_
  refine lv_topi (fun y5 ey5 => ?_)
  obtain rfl : y5 = nI (i + 1) := ey5.trans (nI_add i 1)
  refine va_sld hx hb hX hbl hbA hS (vp_in_nI (show i + 1 < L by omega) (by omega)) dL_law_769 ?_
  refine lv_topi (fun v6 ev6 => ?_)
  obtain rfl : v2 = v6 := ev2.trans ev6.symm
  refine lv_aload_n hx hb dL_law_770 rfl (lv_at hl 4 rfl) ?_
  refine lv_iload hx hb dL_law_771 (lv_at hl 0 rfl) ?_
  refine lv_iconst (v := 2) hx hb dL_law_773 (by decide) ?_
  refine lv_iadd hx hb dL_law_774 ?_
  refine lv_topi (fun y7 ey7 => ?_)
  obtain rfl : y7 = nI (i + 2) := ey7.trans (nI_add i 2)
  refine va_sld hx hb hX hbl hbA hS (vp_in_nI (show i + 2 < L by omega) (by omega)) dL_law_775 ?_
  refine lv_topi (fun v8 ev8 => ?_)
  obtain rfl : v4 = v8 := ev4.trans ev8.symm
  have hP := pA_rot hP
  have hD := dA_rot hD
  have hK := kA_rot hK
  have hPc := pA_r hP
  have hDc := dA_r hD
  have hKc := kA_r hK
  have hFc := freeA hDc hS hA
  refine va_calli (va_runV (As := [.int v2, .int v4]) (rest := []) ⟨hx, hb, hml, hown, hts⟩ (m_hearsIn l dC dI _ v2 v4 h7) (cwV 2 hts (wd_V wd_846 wd_847 wd_848 wd_5 (wd_c wd_849)) rfl rfl rfl (by decide +kernel) ⟨Nat.le_of_ble_eq_true rfl, Nat.le_of_ble_eq_true rfl⟩) ⟨Pw.fb, MW.recv hKc hPc h7, fun U hU hW => Pw.to hPc hDc hKc hE hS hFc hU hW⟩ rfl rfl hl.1 rfl (lv_room (Nat.le_of_ble_eq_true rfl)) dL_law_776 ⟨(show cells + 0 ≤ 600128 by omega), (show slots + 0 ≤ 7301097 by omega)⟩) hS (fun q _ h => hFc q h) hFc (fun r7 u7 t H locs ht hvm hw7 hB hz1 hk1 hS => ?_)
  obtain ⟨wb, tb, h7, e7, gP, gK, gD⟩ := hB
  rw [ht] at gP
  obtain ⟨hP, hD⟩ := joinA hP hD hk1 hFc gP gD
  have hK := va_K.app (kA_l hK) (va_K.moved hvm.symm gK)
  have hP := pA_rot hP
  have hD := dA_rot hD
  have hK := kA_rot hK
  refine lv_pop hx hb dL_law_779 rfl ?_
  refine lv_goto (tgt := 1827) hx hb dL_law_780 (by decide) ?_
  refine W.widen (k := cells + 1) (n := slots + 6) (by omega) (by omega) ?_
  exact kk _ _ _ (LwS.in9 t0 T0 U0 y0 f0 iC_nodes iC_words iC_unsures iC_slips iC_throneNode iC_saidWorth fC_kind fC_parts fC_partNodes fC_weights fC_toldWorths fC_unsureWords fC_unsureWorths fS_worths fS_order iK_imageCount fI0_worths fI0_order fI1_worths fI1_order fI2_worths fI2_order iA_count fA_nodes fA_olds fA_says iC_unit fC_weightSums fC_steps fC_below fC_above iM_hasCourt fM_r fM_told fM_st fM_undone fM_kept iM_undos iM_images iM_scale iM_night wa wb ta tb kO _ q1 q2 q3 hR hCIS hSc hT h6 h7 hP hD hK) hS hl
set_option maxHeartbeats 4000000 in
set_option maxRecDepth 100000 in
theorem law_c19 {p : Program} {l : Launch} {e : Env} {s : State} {m : MethodId} {below : List Frame} {meth : Method} {c : Code} {b L : Nat} {xs : Nat → Int32} (C0 : lw_At p s m meth c b L xs) (hL : L ≤ 384) {A : Nat → Prop} (hA : ∀ q, s.heap.size ≤ q → A q) (hAs : ∀ q, A q → s.heap.size ≤ q) (hE : Ev A s s.heap) (hX9 : Ex A s s.heap) (hl8 : l.stackTraces = false) {dC : Nat → ClassId} {dI : Nat → Nat → Nat} {oK oM oO : Nat} {i cells slots : Nat} (hi : i + 6 ≤ L) (hc : cells + 1 ≤ 600128) (hs : slots + 6 ≤ 7301097) {H : Heap} {locs : List Loc} {ls : Array Slot} (hI : LwS dC dI A s H oK oM oO) (hS : va_S A s.heap H locs) (hl : lv_has ls 7 [(4, .int (nI i)), (3, .ref oO), (2, .ref oM), (1, .ref oK), (0, .ref b)]) (kk : ∀ (H : Heap) (locs : List Loc) (ls : Array Slot), LwS dC dI A s H oK oM oO → va_S A s.heap H locs → lv_has ls 7 [(4, .int (nI i)), (3, .ref oO), (2, .ref oM), (1, .ref oK), (0, .ref b)] → W p l e room_1 s m #[Value.ref b] below meth c H locs (cells + 1) (slots + 6) (lw_Z below #[Value.ref b] s) (F0 m 1827 ls [])) : W p l e room_1 s m #[Value.ref b] below meth c H locs (cells) (slots) (lw_Z below #[Value.ref b] s) (F0 m 783 ls []) := by
  obtain ⟨hx, hb, hr, hml, hown, hts0, hX, hbl, hlocks, hgv⟩ := id C0
  have hts : ∀ w ∈ wG, w.before #[Value.ref b] s = true := fun w h => hts0 w (wG_in w h)
  have htsN : ∀ w ∈ wN, w.before #[Value.ref b] s = true := fun w h => hts0 w (wN_in w h)
  have hbA : ¬ A b := fun h => Nat.lt_irrefl _ (Nat.lt_of_lt_of_le hbl (hAs b h))
  refine LwS.elim hI (fun t0 T0 U0 y0 f0 iC_nodes iC_words iC_unsures iC_slips iC_throneNode iC_saidWorth fC_kind fC_parts fC_partNodes fC_weights fC_toldWorths fC_unsureWords fC_unsureWorths fS_worths fS_order iK_imageCount fI0_worths fI0_order fI1_worths fI1_order fI2_worths fI2_order iA_count fA_nodes fA_olds fA_says iC_unit fC_weightSums fC_steps fC_below fC_above iM_hasCourt fM_r fM_told fM_st fM_undone fM_kept iM_undos iM_images iM_scale iM_night wa wb ta tb kO fO q1 q2 q3 hR hCIS hSc hT h6 h7 hP hD hK => ?_)
  have hM0 := MW_R h7
  refine lv_aload_n hx hb dL_law_783 rfl (lv_at hl 3 rfl) ?_
  refine lv_aload_n hx hb dL_law_784 rfl (lv_at hl 4 rfl) ?_
  refine lv_iload hx hb dL_law_785 (lv_at hl 0 rfl) ?_
  refine lv_iconst (v := 1) hx hb dL_law_787 (by decide) ?_
  refine lv_iadd hx hb dL_law_788 ?_
  refine lv_topi (fun y1 ey1 => ?_)
  obtain rfl : y1 = nI (i + 1) := ey1.trans (nI_add i 1)
  refine va_sld hx hb hX hbl hbA hS (vp_in_nI (show i + 1 < L by omega) (by omega)) dL_law_789 ?_
  refine lv_topi (fun v2 ev2 => ?_)
  refine lv_aload_n hx hb dL_law_790 rfl (lv_at hl 4 rfl) ?_
  refine lv_iload hx hb dL_law_791 (lv_at hl 0 rfl) ?_
  refine lv_iconst (v := 2) hx hb dL_law_793 (by decide) ?_
  refine lv_iadd hx hb dL_law_794 ?_
  refine lv_topi (fun y3 ey3 => ?_)
  obtain rfl : y3 = nI (i + 2) := ey3.trans (nI_add i 2)
  refine va_sld hx hb hX hbl hbA hS (vp_in_nI (show i + 2 < L by omega) (by omega)) dL_law_795 ?_
  refine lv_topi (fun v4 ev4 => ?_)
  refine lv_aload_n hx hb dL_law_796 rfl (lv_at hl 4 rfl) ?_
  refine lv_iload hx hb dL_law_797 (lv_at hl 0 rfl) ?_
  refine lv_iconst (v := 3) hx hb dL_law_799 (by decide) ?_
  refine lv_iadd hx hb dL_law_800 ?_
  refine lv_topi (fun y5 ey5 => ?_)
  obtain rfl : y5 = nI (i + 3) := ey5.trans (nI_add i 3)
  refine va_sld hx hb hX hbl hbA hS (vp_in_nI (show i + 3 < L by omega) (by omega)) dL_law_801 ?_
  refine lv_topi (fun v6 ev6 => ?_)
  refine vz_jeqb hx hb dL_law_802 dL_law_805 dL_law_806 dL_law_809 (fun b7 hb7 => ?_)
  have hPc := pA_r hP
  have hDc := dA_r hD
  have hKc := kA_r hK
  have hFc := freeA hDc hS hA
  refine va_calll (va_runV (As := [.int v2, .int v4, .int b7]) (rest := []) ⟨hx, hb, hml, hown, hts⟩ (k_handed l dC dI _ v2 v4 b7 h6) (cwV 3 hts (wd_V wd_854 wd_855 wd_856 wd_2 (wd_c wd_857)) rfl rfl rfl (by decide +kernel) ⟨Nat.le_of_ble_eq_true rfl, Nat.le_of_ble_eq_true rfl⟩) ⟨Pw.fb, KW.recv hKc hPc h6, fun U hU hW => Pw.to hPc hDc hKc hE hS hFc hU hW⟩ rfl rfl hl.1 rfl (lv_room (Nat.le_of_ble_eq_true rfl)) dL_law_810 ⟨(show cells + 0 ≤ 600128 by omega), (show slots + 0 ≤ 7301097 by omega)⟩) hS (fun q _ h => hFc q h) hFc (fun r6 u6 t H locs ht hvm hw6 hB hz1 hk1 hS => ?_)
  obtain ⟨wa, ta, h6, e6, gP, gK, gD⟩ := hB
  rw [ht] at gP
  obtain ⟨hP, hD⟩ := joinA hP hD hk1 hFc gP gD
  have hK := va_K.app (kA_l hK) (va_K.moved hvm.symm gK)
  refine lv_pop2_2 hx hb dL_law_813 rfl ?_
  refine lv_aload_n hx hb dL_law_814 rfl (lv_at hl 2 rfl) ?_
  refine lv_aload_n hx hb dL_law_815 rfl (lv_at hl 4 rfl) ?_
  refine lv_iload hx hb dL_law_816 (lv_at hl 0 rfl) ?_
  refine lv_iconst (v := 1) hx hb dL_law_818 (by decide) ?_
  refine lv_iadd hx hb dL_law_819 ?_
  refine lv_topi (fun y8 ey8 => ?_)
  obtain rfl : y8 = nI (i + 1) := ey8.trans (nI_add i 1)
  refine va_sld hx hb hX hbl hbA hS (vp_in_nI (show i + 1 < L by omega) (by omega)) dL_law_820 ?_
  refine lv_topi (fun v9 ev9 => ?_)
  obtain rfl : v2 = v9 := ev2.trans ev9.symm
  refine lv_aload_n hx hb dL_law_821 rfl (lv_at hl 4 rfl) ?_
  refine lv_iload hx hb dL_law_822 (lv_at hl 0 rfl) ?_
  refine lv_iconst (v := 2) hx hb dL_law_824 (by decide) ?_
  refine lv_iadd hx hb dL_law_825 ?_
  refine lv_topi (fun y10 ey10 => ?_)
  obtain rfl : y10 = nI (i + 2) := ey10.trans (nI_add i 2)
  refine va_sld hx hb hX hbl hbA hS (vp_in_nI (show i + 2 < L by omega) (by omega)) dL_law_826 ?_
  refine lv_topi (fun v11 ev11 => ?_)
  obtain rfl : v4 = v11 := ev4.trans ev11.symm
  refine lv_aload_n hx hb dL_law_827 rfl (lv_at hl 4 rfl) ?_
  refine lv_iload hx hb dL_law_828 (lv_at hl 0 rfl) ?_
  refine lv_iconst (v := 3) hx hb dL_law_830 (by decide) ?_
  refine lv_iadd hx hb dL_law_831 ?_
  refine lv_topi (fun y12 ey12 => ?_)
  obtain rfl : y12 = nI (i + 3) := ey12.trans (nI_add i 3)
  refine va_sld hx hb hX hbl hbA hS (vp_in_nI (show i + 3 < L by omega) (by omega)) dL_law_832 ?_
  refine lv_topi (fun v13 ev13 => ?_)
  obtain rfl : v6 = v13 := ev6.trans ev13.symm
  refine vz_jeqb hx hb dL_law_833 dL_law_836 dL_law_837 dL_law_840 (fun b14 hb14 => ?_)
  obtain rfl : b7 = b14 := hb7.trans hb14.symm
  have hP := pA_rot hP
  have hD := dA_rot hD
  have hK := kA_rot hK
  have hPc := pA_r hP
  have hDc := dA_r hD
  have hKc := kA_r hK
  have hFc := freeA hDc hS hA
  refine va_calll (va_runV (As := [.int v2, .int v4, .int b7]) (rest := []) ⟨hx, hb, hml, hown, hts⟩ (m_handed l dC dI _ v2 v4 b7 h7) (cwV 3 hts (wd_V wd_858 wd_859 wd_860 wd_5 (wd_c wd_861)) rfl rfl rfl (by decide +kernel) ⟨Nat.le_of_ble_eq_true rfl, Nat.le_of_ble_eq_true rfl⟩) ⟨Pw.fb, MW.recv hKc hPc h7, fun U hU hW => Pw.to hPc hDc hKc hE hS hFc hU hW⟩ rfl rfl hl.1 rfl (lv_room (Nat.le_of_ble_eq_true rfl)) dL_law_841 ⟨(show cells + 0 ≤ 600128 by omega), (show slots + 0 ≤ 7301097 by omega)⟩) hS (fun q _ h => hFc q h) hFc (fun r7 u7 t H locs ht hvm hw7 hB hz1 hk1 hS => ?_)
  obtain ⟨wb, tb, h7, e7, gP, gK, gD⟩ := hB
  rw [ht] at gP
  obtain ⟨hP, hD⟩ := joinA hP hD hk1 hFc gP gD
  have hK := va_K.app (kA_l hK) (va_K.moved hvm.symm gK)
  have hP := pA_rot hP
  have hD := dA_rot hD
  have hK := kA_rot hK
  refine lv_pop2_2 hx hb dL_law_844 rfl ?_
  refine lv_goto (tgt := 1827) hx hb dL_law_845 (by decide) ?_
  refine W.widen (k := cells + 1) (n := slots + 6) (by omega) (by omega) ?_
  exact kk _ _ _ (LwS.in9 t0 T0 U0 y0 f0 iC_nodes iC_words iC_unsures iC_slips iC_throneNode iC_saidWorth fC_kind fC_parts fC_partNodes fC_weights fC_toldWorths fC_unsureWords fC_unsureWorths fS_worths fS_order iK_imageCount fI0_worths fI0_order fI1_worths fI1_order fI2_worths fI2_order iA_count fA_nodes fA_olds fA_says iC_unit fC_weightSums fC_steps fC_below fC_above iM_hasCourt fM_r fM_told fM_st fM_undone fM_kept iM_undos iM_images iM_scale iM_night wa wb ta tb kO _ q1 q2 q3 hR hCIS hSc hT h6 h7 hP hD hK) hS hl
set_option maxHeartbeats 4000000 in
set_option maxRecDepth 100000 in
theorem law_c20 {p : Program} {l : Launch} {e : Env} {s : State} {m : MethodId} {below : List Frame} {meth : Method} {c : Code} {b L : Nat} {xs : Nat → Int32} (C0 : lw_At p s m meth c b L xs) (hL : L ≤ 384) {A : Nat → Prop} (hA : ∀ q, s.heap.size ≤ q → A q) (hAs : ∀ q, A q → s.heap.size ≤ q) (hE : Ev A s s.heap) (hX9 : Ex A s s.heap) (hl8 : l.stackTraces = false) {dC : Nat → ClassId} {dI : Nat → Nat → Nat} {oK oM oO : Nat} {i cells slots : Nat} (hi : i + 6 ≤ L) (hc : cells + 1 ≤ 600128) (hs : slots + 6 ≤ 7301097) {H : Heap} {locs : List Loc} {ls : Array Slot} (hI : LwS dC dI A s H oK oM oO) (hS : va_S A s.heap H locs) (hl : lv_has ls 7 [(4, .int (nI i)), (3, .ref oO), (2, .ref oM), (1, .ref oK), (0, .ref b)]) (kk : ∀ (H : Heap) (locs : List Loc) (ls : Array Slot), LwS dC dI A s H oK oM oO → va_S A s.heap H locs → lv_has ls 7 [(4, .int (nI i)), (3, .ref oO), (2, .ref oM), (1, .ref oK), (0, .ref b)] → W p l e room_1 s m #[Value.ref b] below meth c H locs (cells + 1) (slots + 6) (lw_Z below #[Value.ref b] s) (F0 m 1827 ls [])) : W p l e room_1 s m #[Value.ref b] below meth c H locs (cells) (slots) (lw_Z below #[Value.ref b] s) (F0 m 848 ls []) := by
  obtain ⟨hx, hb, hr, hml, hown, hts0, hX, hbl, hlocks, hgv⟩ := id C0
  have hts : ∀ w ∈ wG, w.before #[Value.ref b] s = true := fun w h => hts0 w (wG_in w h)
  have htsN : ∀ w ∈ wN, w.before #[Value.ref b] s = true := fun w h => hts0 w (wN_in w h)
  have hbA : ¬ A b := fun h => Nat.lt_irrefl _ (Nat.lt_of_lt_of_le hbl (hAs b h))
  refine LwS.elim hI (fun t0 T0 U0 y0 f0 iC_nodes iC_words iC_unsures iC_slips iC_throneNode iC_saidWorth fC_kind fC_parts fC_partNodes fC_weights fC_toldWorths fC_unsureWords fC_unsureWorths fS_worths fS_order iK_imageCount fI0_worths fI0_order fI1_worths fI1_order fI2_worths fI2_order iA_count fA_nodes fA_olds fA_says iC_unit fC_weightSums fC_steps fC_below fC_above iM_hasCourt fM_r fM_told fM_st fM_undone fM_kept iM_undos iM_images iM_scale iM_night wa wb ta tb kO fO q1 q2 q3 hR hCIS hSc hT h6 h7 hP hD hK => ?_)
  have hM0 := MW_R h7
  refine lv_aload_n hx hb dL_law_848 rfl (lv_at hl 3 rfl) ?_
  refine lv_aload_n hx hb dL_law_849 rfl (lv_at hl 4 rfl) ?_
  refine lv_iload hx hb dL_law_850 (lv_at hl 0 rfl) ?_
  refine lv_iconst (v := 1) hx hb dL_law_852 (by decide) ?_
  refine lv_iadd hx hb dL_law_853 ?_
  refine lv_topi (fun y1 ey1 => ?_)
  obtain rfl : y1 = nI (i + 1) := ey1.trans (nI_add i 1)
  refine va_sld hx hb hX hbl hbA hS (vp_in_nI (show i + 1 < L by omega) (by omega)) dL_law_854 ?_
  refine lv_topi (fun v2 ev2 => ?_)
  have hPc := pA_r hP
  have hDc := dA_r hD
  have hKc := kA_r hK
  have hFc := freeA hDc hS hA
  refine va_calli (va_runV (As := [.int v2]) (rest := []) ⟨hx, hb, hml, hown, hts⟩ (k_asks l dC dI _ v2 h6) (cwV 1 hts (wd_V wd_862 wd_863 wd_864 wd_2 (wd_c wd_865)) rfl rfl rfl (by decide +kernel) ⟨Nat.le_of_ble_eq_true rfl, Nat.le_of_ble_eq_true rfl⟩) ⟨Pw.fb, KW.recv hKc hPc h6, fun U hU hW => Pw.to hPc hDc hKc hE hS hFc hU hW⟩ rfl rfl hl.1 rfl (lv_room (Nat.le_of_ble_eq_true rfl)) dL_law_855 ⟨(show cells + 0 ≤ 600128 by omega), (show slots + 0 ≤ 7301097 by omega)⟩) hS (fun q _ h => hFc q h) hFc (fun r6 u6 t H locs ht hvm hw6 hB hz1 hk1 hS => ?_)
  obtain ⟨wa, ta, h6, e6, gP, gK, gD⟩ := hB
  rw [ht] at gP
  obtain ⟨hP, hD⟩ := joinA hP hD hk1 hFc gP gD
  have hK := va_K.app (kA_l hK) (va_K.moved hvm.symm gK)
  refine lv_pop hx hb dL_law_858 rfl ?_
  refine lv_aload_n hx hb dL_law_859 rfl (lv_at hl 2 rfl) ?_
  refine lv_aload_n hx hb dL_law_860 rfl (lv_at hl 4 rfl) ?_
  refine lv_iload hx hb dL_law_861 (lv_at hl 0 rfl) ?_
  refine lv_iconst (v := 1) hx hb dL_law_863 (by decide) ?_
  refine lv_iadd hx hb dL_law_864 ?_
  refine lv_topi (fun y3 ey3 => ?_)
  obtain rfl : y3 = nI (i + 1) := ey3.trans (nI_add i 1)
  refine va_sld hx hb hX hbl hbA hS (vp_in_nI (show i + 1 < L by omega) (by omega)) dL_law_865 ?_
  refine lv_topi (fun v4 ev4 => ?_)
  obtain rfl : v2 = v4 := ev2.trans ev4.symm
  have hP := pA_rot hP
  have hD := dA_rot hD
  have hK := kA_rot hK
  have hPc := pA_r hP
  have hDc := dA_r hD
  have hKc := kA_r hK
  have hFc := freeA hDc hS hA
  refine va_calli (va_runV (As := [.int v2]) (rest := []) ⟨hx, hb, hml, hown, hts⟩ (m_asks l dC dI _ v2 h7) (cwV 1 hts (wd_V wd_878 wd_879 wd_880 wd_5 (wd_c wd_881)) rfl rfl rfl (by decide +kernel) ⟨Nat.le_of_ble_eq_true rfl, Nat.le_of_ble_eq_true rfl⟩) ⟨Pw.fb, MW.recv hKc hPc h7, fun U hU hW => Pw.to hPc hDc hKc hE hS hFc hU hW⟩ rfl rfl hl.1 rfl (lv_room (Nat.le_of_ble_eq_true rfl)) dL_law_866 ⟨(show cells + 0 ≤ 600128 by omega), (show slots + 0 ≤ 7301097 by omega)⟩) hS (fun q _ h => hFc q h) hFc (fun r7 u7 t H locs ht hvm hw7 hB hz1 hk1 hS => ?_)
  obtain ⟨wb, tb, h7, e7, gP, gK, gD⟩ := hB
  rw [ht] at gP
  obtain ⟨hP, hD⟩ := joinA hP hD hk1 hFc gP gD
  have hK := va_K.app (kA_l hK) (va_K.moved hvm.symm gK)
  have hP := pA_rot hP
  have hD := dA_rot hD
  have hK := kA_rot hK
  refine lv_pop hx hb dL_law_869 rfl ?_
  refine lv_goto (tgt := 1827) hx hb dL_law_870 (by decide) ?_
  refine W.widen (k := cells + 1) (n := slots + 6) (by omega) (by omega) ?_
  exact kk _ _ _ (LwS.in9 t0 T0 U0 y0 f0 iC_nodes iC_words iC_unsures iC_slips iC_throneNode iC_saidWorth fC_kind fC_parts fC_partNodes fC_weights fC_toldWorths fC_unsureWords fC_unsureWorths fS_worths fS_order iK_imageCount fI0_worths fI0_order fI1_worths fI1_order fI2_worths fI2_order iA_count fA_nodes fA_olds fA_says iC_unit fC_weightSums fC_steps fC_below fC_above iM_hasCourt fM_r fM_told fM_st fM_undone fM_kept iM_undos iM_images iM_scale iM_night wa wb ta tb kO _ q1 q2 q3 hR hCIS hSc hT h6 h7 hP hD hK) hS hl
set_option maxHeartbeats 4000000 in
set_option maxRecDepth 100000 in
theorem law_c21 {p : Program} {l : Launch} {e : Env} {s : State} {m : MethodId} {below : List Frame} {meth : Method} {c : Code} {b L : Nat} {xs : Nat → Int32} (C0 : lw_At p s m meth c b L xs) (hL : L ≤ 384) {A : Nat → Prop} (hA : ∀ q, s.heap.size ≤ q → A q) (hAs : ∀ q, A q → s.heap.size ≤ q) (hE : Ev A s s.heap) (hX9 : Ex A s s.heap) (hl8 : l.stackTraces = false) {dC : Nat → ClassId} {dI : Nat → Nat → Nat} {oK oM oO : Nat} {i cells slots : Nat} (hi : i + 6 ≤ L) (hc : cells + 1 ≤ 600128) (hs : slots + 6 ≤ 7301097) {H : Heap} {locs : List Loc} {ls : Array Slot} (hI : LwS dC dI A s H oK oM oO) (hS : va_S A s.heap H locs) (hl : lv_has ls 7 [(4, .int (nI i)), (3, .ref oO), (2, .ref oM), (1, .ref oK), (0, .ref b)]) (kk : ∀ (H : Heap) (locs : List Loc) (ls : Array Slot), LwS dC dI A s H oK oM oO → va_S A s.heap H locs → lv_has ls 7 [(4, .int (nI i)), (3, .ref oO), (2, .ref oM), (1, .ref oK), (0, .ref b)] → W p l e room_1 s m #[Value.ref b] below meth c H locs (cells + 1) (slots + 6) (lw_Z below #[Value.ref b] s) (F0 m 1827 ls [])) : W p l e room_1 s m #[Value.ref b] below meth c H locs (cells) (slots) (lw_Z below #[Value.ref b] s) (F0 m 873 ls []) := by
  obtain ⟨hx, hb, hr, hml, hown, hts0, hX, hbl, hlocks, hgv⟩ := id C0
  have hts : ∀ w ∈ wG, w.before #[Value.ref b] s = true := fun w h => hts0 w (wG_in w h)
  have htsN : ∀ w ∈ wN, w.before #[Value.ref b] s = true := fun w h => hts0 w (wN_in w h)
  have hbA : ¬ A b := fun h => Nat.lt_irrefl _ (Nat.lt_of_lt_of_le hbl (hAs b h))
  refine LwS.elim hI (fun t0 T0 U0 y0 f0 iC_nodes iC_words iC_unsures iC_slips iC_throneNode iC_saidWorth fC_kind fC_parts fC_partNodes fC_weights fC_toldWorths fC_unsureWords fC_unsureWorths fS_worths fS_order iK_imageCount fI0_worths fI0_order fI1_worths fI1_order fI2_worths fI2_order iA_count fA_nodes fA_olds fA_says iC_unit fC_weightSums fC_steps fC_below fC_above iM_hasCourt fM_r fM_told fM_st fM_undone fM_kept iM_undos iM_images iM_scale iM_night wa wb ta tb kO fO q1 q2 q3 hR hCIS hSc hT h6 h7 hP hD hK => ?_)
  have hM0 := MW_R h7
  refine lv_aload_n hx hb dL_law_873 rfl (lv_at hl 3 rfl) ?_
  refine lv_aload_n hx hb dL_law_874 rfl (lv_at hl 4 rfl) ?_
  refine lv_iload hx hb dL_law_875 (lv_at hl 0 rfl) ?_
  refine lv_iconst (v := 1) hx hb dL_law_877 (by decide) ?_
  refine lv_iadd hx hb dL_law_878 ?_
  refine lv_topi (fun y1 ey1 => ?_)
  obtain rfl : y1 = nI (i + 1) := ey1.trans (nI_add i 1)
  refine va_sld hx hb hX hbl hbA hS (vp_in_nI (show i + 1 < L by omega) (by omega)) dL_law_879 ?_
  refine lv_topi (fun v2 ev2 => ?_)
  have hPc := pA_r hP
  have hDc := dA_r hD
  have hKc := kA_r hK
  have hFc := freeA hDc hS hA
  refine va_calli (va_runV (As := [.int v2]) (rest := []) ⟨hx, hb, hml, hown, hts⟩ (k_askBreaths l dC dI _ v2 h6) (cwV 1 hts (wd_V wd_894 wd_895 wd_896 wd_2 (wd_c wd_897)) rfl rfl rfl (by decide +kernel) ⟨Nat.le_of_ble_eq_true rfl, Nat.le_of_ble_eq_true rfl⟩) ⟨Pw.fb, KW.recv hKc hPc h6, fun U hU hW => Pw.to hPc hDc hKc hE hS hFc hU hW⟩ rfl rfl hl.1 rfl (lv_room (Nat.le_of_ble_eq_true rfl)) dL_law_880 ⟨(show cells + 0 ≤ 600128 by omega), (show slots + 0 ≤ 7301097 by omega)⟩) hS (fun q _ h => hFc q h) hFc (fun r6 u6 t H locs ht hvm hw6 hB hz1 hk1 hS => ?_)
  obtain ⟨wa, ta, h6, e6, gP, gK, gD⟩ := hB
  rw [ht] at gP
  obtain ⟨hP, hD⟩ := joinA hP hD hk1 hFc gP gD
  have hK := va_K.app (kA_l hK) (va_K.moved hvm.symm gK)
  refine lv_pop hx hb dL_law_883 rfl ?_
  refine lv_aload_n hx hb dL_law_884 rfl (lv_at hl 2 rfl) ?_
  refine lv_aload_n hx hb dL_law_885 rfl (lv_at hl 4 rfl) ?_
  refine lv_iload hx hb dL_law_886 (lv_at hl 0 rfl) ?_
  refine lv_iconst (v := 1) hx hb dL_law_888 (by decide) ?_
  refine lv_iadd hx hb dL_law_889 ?_
  refine lv_topi (fun y3 ey3 => ?_)
  obtain rfl : y3 = nI (i + 1) := ey3.trans (nI_add i 1)
  refine va_sld hx hb hX hbl hbA hS (vp_in_nI (show i + 1 < L by omega) (by omega)) dL_law_890 ?_
  refine lv_topi (fun v4 ev4 => ?_)
  obtain rfl : v2 = v4 := ev2.trans ev4.symm
  have hP := pA_rot hP
  have hD := dA_rot hD
  have hK := kA_rot hK
  have hPc := pA_r hP
  have hDc := dA_r hD
  have hKc := kA_r hK
  have hFc := freeA hDc hS hA
  refine va_calli (va_runV (As := [.int v2]) (rest := []) ⟨hx, hb, hml, hown, hts⟩ (m_askBreaths l dC dI _ v2 h7) (cwV 1 hts (wd_V wd_898 wd_899 wd_900 wd_5 (wd_c wd_901)) rfl rfl rfl (by decide +kernel) ⟨Nat.le_of_ble_eq_true rfl, Nat.le_of_ble_eq_true rfl⟩) ⟨Pw.fb, MW.recv hKc hPc h7, fun U hU hW => Pw.to hPc hDc hKc hE hS hFc hU hW⟩ rfl rfl hl.1 rfl (lv_room (Nat.le_of_ble_eq_true rfl)) dL_law_891 ⟨(show cells + 0 ≤ 600128 by omega), (show slots + 0 ≤ 7301097 by omega)⟩) hS (fun q _ h => hFc q h) hFc (fun r7 u7 t H locs ht hvm hw7 hB hz1 hk1 hS => ?_)
  obtain ⟨wb, tb, h7, e7, gP, gK, gD⟩ := hB
  rw [ht] at gP
  obtain ⟨hP, hD⟩ := joinA hP hD hk1 hFc gP gD
  have hK := va_K.app (kA_l hK) (va_K.moved hvm.symm gK)
  have hP := pA_rot hP
  have hD := dA_rot hD
  have hK := kA_rot hK
  refine lv_pop hx hb dL_law_894 rfl ?_
  refine lv_goto (tgt := 1827) hx hb dL_law_895 (by decide) ?_
  refine W.widen (k := cells + 1) (n := slots + 6) (by omega) (by omega) ?_
  exact kk _ _ _ (LwS.in9 t0 T0 U0 y0 f0 iC_nodes iC_words iC_unsures iC_slips iC_throneNode iC_saidWorth fC_kind fC_parts fC_partNodes fC_weights fC_toldWorths fC_unsureWords fC_unsureWorths fS_worths fS_order iK_imageCount fI0_worths fI0_order fI1_worths fI1_order fI2_worths fI2_order iA_count fA_nodes fA_olds fA_says iC_unit fC_weightSums fC_steps fC_below fC_above iM_hasCourt fM_r fM_told fM_st fM_undone fM_kept iM_undos iM_images iM_scale iM_night wa wb ta tb kO _ q1 q2 q3 hR hCIS hSc hT h6 h7 hP hD hK) hS hl
set_option maxHeartbeats 4000000 in
set_option maxRecDepth 100000 in
theorem law_c22 {p : Program} {l : Launch} {e : Env} {s : State} {m : MethodId} {below : List Frame} {meth : Method} {c : Code} {b L : Nat} {xs : Nat → Int32} (C0 : lw_At p s m meth c b L xs) (hL : L ≤ 384) {A : Nat → Prop} (hA : ∀ q, s.heap.size ≤ q → A q) (hAs : ∀ q, A q → s.heap.size ≤ q) (hE : Ev A s s.heap) (hX9 : Ex A s s.heap) (hl8 : l.stackTraces = false) {dC : Nat → ClassId} {dI : Nat → Nat → Nat} {oK oM oO : Nat} {i cells slots : Nat} (hi : i + 6 ≤ L) (hc : cells + 1 ≤ 600128) (hs : slots + 6 ≤ 7301097) {H : Heap} {locs : List Loc} {ls : Array Slot} (hI : LwS dC dI A s H oK oM oO) (hS : va_S A s.heap H locs) (hl : lv_has ls 7 [(4, .int (nI i)), (3, .ref oO), (2, .ref oM), (1, .ref oK), (0, .ref b)]) (kk : ∀ (H : Heap) (locs : List Loc) (ls : Array Slot), LwS dC dI A s H oK oM oO → va_S A s.heap H locs → lv_has ls 7 [(4, .int (nI i)), (3, .ref oO), (2, .ref oM), (1, .ref oK), (0, .ref b)] → W p l e room_1 s m #[Value.ref b] below meth c H locs (cells + 1) (slots + 6) (lw_Z below #[Value.ref b] s) (F0 m 1827 ls [])) : W p l e room_1 s m #[Value.ref b] below meth c H locs (cells) (slots) (lw_Z below #[Value.ref b] s) (F0 m 898 ls []) := by
  obtain ⟨hx, hb, hr, hml, hown, hts0, hX, hbl, hlocks, hgv⟩ := id C0
  have hts : ∀ w ∈ wG, w.before #[Value.ref b] s = true := fun w h => hts0 w (wG_in w h)
  have htsN : ∀ w ∈ wN, w.before #[Value.ref b] s = true := fun w h => hts0 w (wN_in w h)
  have hbA : ¬ A b := fun h => Nat.lt_irrefl _ (Nat.lt_of_lt_of_le hbl (hAs b h))
  refine LwS.elim hI (fun t0 T0 U0 y0 f0 iC_nodes iC_words iC_unsures iC_slips iC_throneNode iC_saidWorth fC_kind fC_parts fC_partNodes fC_weights fC_toldWorths fC_unsureWords fC_unsureWorths fS_worths fS_order iK_imageCount fI0_worths fI0_order fI1_worths fI1_order fI2_worths fI2_order iA_count fA_nodes fA_olds fA_says iC_unit fC_weightSums fC_steps fC_below fC_above iM_hasCourt fM_r fM_told fM_st fM_undone fM_kept iM_undos iM_images iM_scale iM_night wa wb ta tb kO fO q1 q2 q3 hR hCIS hSc hT h6 h7 hP hD hK => ?_)
  have hM0 := MW_R h7
  refine lv_aload_n hx hb dL_law_898 rfl (lv_at hl 3 rfl) ?_
  have hPc := pA_r hP
  have hDc := dA_r hD
  have hKc := kA_r hK
  have hFc := freeA hDc hS hA
  refine va_calli (va_runV (As := []) (rest := []) ⟨hx, hb, hml, hown, hts⟩ (k_halves l dC dI _  h6) (cwV 0 hts (wd_V wd_902 wd_903 wd_904 wd_2 (wd_c wd_905)) rfl rfl rfl (by decide +kernel) ⟨Nat.le_of_ble_eq_true rfl, Nat.le_of_ble_eq_true rfl⟩) ⟨Pw.fb, KW.recv hKc hPc h6, fun U hU hW => Pw.to hPc hDc hKc hE hS hFc hU hW⟩ rfl rfl hl.1 rfl (lv_room (Nat.le_of_ble_eq_true rfl)) dL_law_899 ⟨(show cells + 0 ≤ 600128 by omega), (show slots + 0 ≤ 7301097 by omega)⟩) hS (fun q _ h => hFc q h) hFc (fun r6 u6 t H locs ht hvm hw6 hB hz1 hk1 hS => ?_)
  obtain ⟨wa, ta, h6, e6, gP, gK, gD⟩ := hB
  rw [ht] at gP
  obtain ⟨hP, hD⟩ := joinA hP hD hk1 hFc gP gD
  have hK := va_K.app (kA_l hK) (va_K.moved hvm.symm gK)
  refine lv_pop hx hb dL_law_902 rfl ?_
  refine lv_aload_n hx hb dL_law_903 rfl (lv_at hl 2 rfl) ?_
  have hP := pA_rot hP
  have hD := dA_rot hD
  have hK := kA_rot hK
  have hPc := pA_r hP
  have hDc := dA_r hD
  have hKc := kA_r hK
  have hFc := freeA hDc hS hA
  refine va_calli (va_runV (As := []) (rest := []) ⟨hx, hb, hml, hown, hts⟩ (m_halves l dC dI _  h7) (cwV 0 hts (wd_V wd_914 wd_915 wd_916 wd_5 (wd_c wd_917)) rfl rfl rfl (by decide +kernel) ⟨Nat.le_of_ble_eq_true rfl, Nat.le_of_ble_eq_true rfl⟩) ⟨Pw.fb, MW.recv hKc hPc h7, fun U hU hW => Pw.to hPc hDc hKc hE hS hFc hU hW⟩ rfl rfl hl.1 rfl (lv_room (Nat.le_of_ble_eq_true rfl)) dL_law_904 ⟨(show cells + 0 ≤ 600128 by omega), (show slots + 0 ≤ 7301097 by omega)⟩) hS (fun q _ h => hFc q h) hFc (fun r7 u7 t H locs ht hvm hw7 hB hz1 hk1 hS => ?_)
  obtain ⟨wb, tb, h7, e7, gP, gK, gD⟩ := hB
  rw [ht] at gP
  obtain ⟨hP, hD⟩ := joinA hP hD hk1 hFc gP gD
  have hK := va_K.app (kA_l hK) (va_K.moved hvm.symm gK)
  have hP := pA_rot hP
  have hD := dA_rot hD
  have hK := kA_rot hK
  refine lv_pop hx hb dL_law_907 rfl ?_
  refine lv_goto (tgt := 1827) hx hb dL_law_908 (by decide) ?_
  refine W.widen (k := cells + 1) (n := slots + 6) (by omega) (by omega) ?_
  exact kk _ _ _ (LwS.in9 t0 T0 U0 y0 f0 iC_nodes iC_words iC_unsures iC_slips iC_throneNode iC_saidWorth fC_kind fC_parts fC_partNodes fC_weights fC_toldWorths fC_unsureWords fC_unsureWorths fS_worths fS_order iK_imageCount fI0_worths fI0_order fI1_worths fI1_order fI2_worths fI2_order iA_count fA_nodes fA_olds fA_says iC_unit fC_weightSums fC_steps fC_below fC_above iM_hasCourt fM_r fM_told fM_st fM_undone fM_kept iM_undos iM_images iM_scale iM_night wa wb ta tb kO _ q1 q2 q3 hR hCIS hSc hT h6 h7 hP hD hK) hS hl
set_option maxHeartbeats 4000000 in
set_option maxRecDepth 100000 in
theorem law_c23 {p : Program} {l : Launch} {e : Env} {s : State} {m : MethodId} {below : List Frame} {meth : Method} {c : Code} {b L : Nat} {xs : Nat → Int32} (C0 : lw_At p s m meth c b L xs) (hL : L ≤ 384) {A : Nat → Prop} (hA : ∀ q, s.heap.size ≤ q → A q) (hAs : ∀ q, A q → s.heap.size ≤ q) (hE : Ev A s s.heap) (hX9 : Ex A s s.heap) (hl8 : l.stackTraces = false) {dC : Nat → ClassId} {dI : Nat → Nat → Nat} {oK oM oO : Nat} {i cells slots : Nat} (hi : i + 6 ≤ L) (hc : cells + 1 ≤ 600128) (hs : slots + 6 ≤ 7301097) {H : Heap} {locs : List Loc} {ls : Array Slot} (hI : LwS dC dI A s H oK oM oO) (hS : va_S A s.heap H locs) (hl : lv_has ls 7 [(4, .int (nI i)), (3, .ref oO), (2, .ref oM), (1, .ref oK), (0, .ref b)]) (kk : ∀ (H : Heap) (locs : List Loc) (ls : Array Slot), LwS dC dI A s H oK oM oO → va_S A s.heap H locs → lv_has ls 7 [(4, .int (nI i)), (3, .ref oO), (2, .ref oM), (1, .ref oK), (0, .ref b)] → W p l e room_1 s m #[Value.ref b] below meth c H locs (cells + 1) (slots + 6) (lw_Z below #[Value.ref b] s) (F0 m 1827 ls [])) : W p l e room_1 s m #[Value.ref b] below meth c H locs (cells) (slots) (lw_Z below #[Value.ref b] s) (F0 m 911 ls []) := by
  obtain ⟨hx, hb, hr, hml, hown, hts0, hX, hbl, hlocks, hgv⟩ := id C0
  have hts : ∀ w ∈ wG, w.before #[Value.ref b] s = true := fun w h => hts0 w (wG_in w h)
  have htsN : ∀ w ∈ wN, w.before #[Value.ref b] s = true := fun w h => hts0 w (wN_in w h)
  have hbA : ¬ A b := fun h => Nat.lt_irrefl _ (Nat.lt_of_lt_of_le hbl (hAs b h))
  refine LwS.elim hI (fun t0 T0 U0 y0 f0 iC_nodes iC_words iC_unsures iC_slips iC_throneNode iC_saidWorth fC_kind fC_parts fC_partNodes fC_weights fC_toldWorths fC_unsureWords fC_unsureWorths fS_worths fS_order iK_imageCount fI0_worths fI0_order fI1_worths fI1_order fI2_worths fI2_order iA_count fA_nodes fA_olds fA_says iC_unit fC_weightSums fC_steps fC_below fC_above iM_hasCourt fM_r fM_told fM_st fM_undone fM_kept iM_undos iM_images iM_scale iM_night wa wb ta tb kO fO q1 q2 q3 hR hCIS hSc hT h6 h7 hP hD hK => ?_)
  have hM0 := MW_R h7
  refine lv_aload_n hx hb dL_law_911 rfl (lv_at hl 3 rfl) ?_
  have hPc := pA_r hP
  have hDc := dA_r hD
  have hKc := kA_r hK
  have hFc := freeA hDc hS hA
  refine va_calli (va_runV (As := []) (rest := []) ⟨hx, hb, hml, hown, hts⟩ (k_questions l dC dI _  h6) (cwV 0 hts (wd_V wd_923 wd_924 wd_925 wd_2 (wd_c wd_926)) rfl rfl rfl (by decide +kernel) ⟨Nat.le_of_ble_eq_true rfl, Nat.le_of_ble_eq_true rfl⟩) ⟨Pw.fb, KW.recv hKc hPc h6, fun U hU hW => Pw.to hPc hDc hKc hE hS hFc hU hW⟩ rfl rfl hl.1 rfl (lv_room (Nat.le_of_ble_eq_true rfl)) dL_law_912 ⟨(show cells + 0 ≤ 600128 by omega), (show slots + 0 ≤ 7301097 by omega)⟩) hS (fun q _ h => hFc q h) hFc (fun r6 u6 t H locs ht hvm hw6 hB hz1 hk1 hS => ?_)
  obtain ⟨wa, ta, h6, e6, gP, gK, gD⟩ := hB
  rw [ht] at gP
  obtain ⟨hP, hD⟩ := joinA hP hD hk1 hFc gP gD
  have hK := va_K.app (kA_l hK) (va_K.moved hvm.symm gK)
  refine lv_pop hx hb dL_law_915 rfl ?_
  refine lv_aload_n hx hb dL_law_916 rfl (lv_at hl 2 rfl) ?_
  have hP := pA_rot hP
  have hD := dA_rot hD
  have hK := kA_rot hK
  have hPc := pA_r hP
  have hDc := dA_r hD
  have hKc := kA_r hK
  have hFc := freeA hDc hS hA
  refine va_calli (va_runV (As := []) (rest := []) ⟨hx, hb, hml, hown, hts⟩ (m_questions l dC dI _  h7) (cwV 0 hts (wd_V wd_928 wd_929 wd_930 wd_5 (wd_c wd_931)) rfl rfl rfl (by decide +kernel) ⟨Nat.le_of_ble_eq_true rfl, Nat.le_of_ble_eq_true rfl⟩) ⟨Pw.fb, MW.recv hKc hPc h7, fun U hU hW => Pw.to hPc hDc hKc hE hS hFc hU hW⟩ rfl rfl hl.1 rfl (lv_room (Nat.le_of_ble_eq_true rfl)) dL_law_917 ⟨(show cells + 0 ≤ 600128 by omega), (show slots + 0 ≤ 7301097 by omega)⟩) hS (fun q _ h => hFc q h) hFc (fun r7 u7 t H locs ht hvm hw7 hB hz1 hk1 hS => ?_)
  obtain ⟨wb, tb, h7, e7, gP, gK, gD⟩ := hB
  rw [ht] at gP
  obtain ⟨hP, hD⟩ := joinA hP hD hk1 hFc gP gD
  have hK := va_K.app (kA_l hK) (va_K.moved hvm.symm gK)
  have hP := pA_rot hP
  have hD := dA_rot hD
  have hK := kA_rot hK
  refine lv_pop hx hb dL_law_920 rfl ?_
  refine lv_goto (tgt := 1827) hx hb dL_law_921 (by decide) ?_
  refine W.widen (k := cells + 1) (n := slots + 6) (by omega) (by omega) ?_
  exact kk _ _ _ (LwS.in9 t0 T0 U0 y0 f0 iC_nodes iC_words iC_unsures iC_slips iC_throneNode iC_saidWorth fC_kind fC_parts fC_partNodes fC_weights fC_toldWorths fC_unsureWords fC_unsureWorths fS_worths fS_order iK_imageCount fI0_worths fI0_order fI1_worths fI1_order fI2_worths fI2_order iA_count fA_nodes fA_olds fA_says iC_unit fC_weightSums fC_steps fC_below fC_above iM_hasCourt fM_r fM_told fM_st fM_undone fM_kept iM_undos iM_images iM_scale iM_night wa wb ta tb kO _ q1 q2 q3 hR hCIS hSc hT h6 h7 hP hD hK) hS hl
set_option maxHeartbeats 4000000 in
set_option maxRecDepth 100000 in
theorem law_c24 {p : Program} {l : Launch} {e : Env} {s : State} {m : MethodId} {below : List Frame} {meth : Method} {c : Code} {b L : Nat} {xs : Nat → Int32} (C0 : lw_At p s m meth c b L xs) (hL : L ≤ 384) {A : Nat → Prop} (hA : ∀ q, s.heap.size ≤ q → A q) (hAs : ∀ q, A q → s.heap.size ≤ q) (hE : Ev A s s.heap) (hX9 : Ex A s s.heap) (hl8 : l.stackTraces = false) {dC : Nat → ClassId} {dI : Nat → Nat → Nat} {oK oM oO : Nat} {i cells slots : Nat} (hi : i + 6 ≤ L) (hc : cells + 1 ≤ 600128) (hs : slots + 6 ≤ 7301097) {H : Heap} {locs : List Loc} {ls : Array Slot} (hI : LwS dC dI A s H oK oM oO) (hS : va_S A s.heap H locs) (hl : lv_has ls 7 [(4, .int (nI i)), (3, .ref oO), (2, .ref oM), (1, .ref oK), (0, .ref b)]) (kk : ∀ (H : Heap) (locs : List Loc) (ls : Array Slot), LwS dC dI A s H oK oM oO → va_S A s.heap H locs → lv_has ls 7 [(4, .int (nI i)), (3, .ref oO), (2, .ref oM), (1, .ref oK), (0, .ref b)] → W p l e room_1 s m #[Value.ref b] below meth c H locs (cells + 1) (slots + 6) (lw_Z below #[Value.ref b] s) (F0 m 1827 ls [])) : W p l e room_1 s m #[Value.ref b] below meth c H locs (cells) (slots) (lw_Z below #[Value.ref b] s) (F0 m 924 ls []) := by
  obtain ⟨hx, hb, hr, hml, hown, hts0, hX, hbl, hlocks, hgv⟩ := id C0
  have hts : ∀ w ∈ wG, w.before #[Value.ref b] s = true := fun w h => hts0 w (wG_in w h)
  have htsN : ∀ w ∈ wN, w.before #[Value.ref b] s = true := fun w h => hts0 w (wN_in w h)
  have hbA : ¬ A b := fun h => Nat.lt_irrefl _ (Nat.lt_of_lt_of_le hbl (hAs b h))
  refine LwS.elim hI (fun t0 T0 U0 y0 f0 iC_nodes iC_words iC_unsures iC_slips iC_throneNode iC_saidWorth fC_kind fC_parts fC_partNodes fC_weights fC_toldWorths fC_unsureWords fC_unsureWorths fS_worths fS_order iK_imageCount fI0_worths fI0_order fI1_worths fI1_order fI2_worths fI2_order iA_count fA_nodes fA_olds fA_says iC_unit fC_weightSums fC_steps fC_below fC_above iM_hasCourt fM_r fM_told fM_st fM_undone fM_kept iM_undos iM_images iM_scale iM_night wa wb ta tb kO fO q1 q2 q3 hR hCIS hSc hT h6 h7 hP hD hK => ?_)
  refine lv_aload_n hx hb dL_law_924 rfl (lv_at hl 3 rfl) ?_
  refine lv_aload_n hx hb dL_law_925 rfl (lv_at hl 4 rfl) ?_
  refine lv_iload hx hb dL_law_926 (lv_at hl 0 rfl) ?_
  refine lv_iconst (v := 1) hx hb dL_law_928 (by decide) ?_
  refine lv_iadd hx hb dL_law_929 ?_
  refine lv_topi (fun y1 ey1 => ?_)
  obtain rfl : y1 = nI (i + 1) := ey1.trans (nI_add i 1)
  refine va_sld hx hb hX hbl hbA hS (vp_in_nI (show i + 1 < L by omega) (by omega)) dL_law_930 ?_
  refine lv_topi (fun v2 ev2 => ?_)
  have hPc := pA_r hP
  have hDc := dA_r hD
  have hKc := kA_r hK
  have hFc := freeA hDc hS hA
  refine va_calli (va_runV (As := [.int v2]) (rest := []) ⟨hx, hb, hml, hown, hts⟩ (k_proof l dC dI _ v2 h6) (cwV 1 hts (wd_V wd_932 wd_933 wd_934 wd_2 (wd_c wd_935)) rfl rfl rfl (by decide +kernel) ⟨Nat.le_of_ble_eq_true rfl, Nat.le_of_ble_eq_true rfl⟩) ⟨Pw.fb, KW.recv hKc hPc h6, fun U hU hW => Pw.to hPc hDc hKc hE hS hFc hU hW⟩ rfl rfl hl.1 rfl (lv_room (Nat.le_of_ble_eq_true rfl)) dL_law_931 ⟨(show cells + 0 ≤ 600128 by omega), (show slots + 0 ≤ 7301097 by omega)⟩) hS (fun q _ h => hFc q h) hFc (fun r6 u6 t H locs ht hvm hw6 hB hz1 hk1 hS => ?_)
  obtain ⟨wa, ta, h6, e6, gP, gK, gD⟩ := hB
  rw [ht] at gP
  obtain ⟨hP, hD⟩ := joinA hP hD hk1 hFc gP gD
  have hK := va_K.app (kA_l hK) (va_K.moved hvm.symm gK)
  refine lv_pop hx hb dL_law_934 rfl ?_
  refine lv_aload_n hx hb dL_law_935 rfl (lv_at hl 2 rfl) ?_
  refine lv_aload_n hx hb dL_law_936 rfl (lv_at hl 4 rfl) ?_
  refine lv_iload hx hb dL_law_937 (lv_at hl 0 rfl) ?_
  refine lv_iconst (v := 1) hx hb dL_law_939 (by decide) ?_
  refine lv_iadd hx hb dL_law_940 ?_
  refine lv_topi (fun y3 ey3 => ?_)
  obtain rfl : y3 = nI (i + 1) := ey3.trans (nI_add i 1)
  refine va_sld hx hb hX hbl hbA hS (vp_in_nI (show i + 1 < L by omega) (by omega)) dL_law_941 ?_
  refine lv_topi (fun v4 ev4 => ?_)
  obtain rfl : v2 = v4 := ev2.trans ev4.symm
  have hP := pA_rot hP
  have hD := dA_rot hD
  have hK := kA_rot hK
  have hPc := pA_r hP
  have hDc := dA_r hD
  have hKc := kA_r hK
  have hFc := freeA hDc hS hA
  refine va_calli (va_runV (As := [.int v2]) (rest := []) ⟨hx, hb, hml, hown, hts⟩ (m_proof l dC dI _ v2 h7) (cwV 1 hts (wd_V wd_957 wd_958 wd_959 wd_5 (wd_c wd_960)) rfl rfl rfl (by decide +kernel) ⟨Nat.le_of_ble_eq_true rfl, Nat.le_of_ble_eq_true rfl⟩) ⟨Pw.fb, MW.recv hKc hPc h7, fun U hU hW => Pw.to hPc hDc hKc hE hS hFc hU hW⟩ rfl rfl hl.1 rfl (lv_room (Nat.le_of_ble_eq_true rfl)) dL_law_942 ⟨(show cells + 0 ≤ 600128 by omega), (show slots + 0 ≤ 7301097 by omega)⟩) hS (fun q _ h => hFc q h) hFc (fun r7 u7 t H locs ht hvm hw7 hB hz1 hk1 hS => ?_)
  obtain ⟨wb, tb, h7, e7, gP, gK, gD⟩ := hB
  rw [ht] at gP
  obtain ⟨hP, hD⟩ := joinA hP hD hk1 hFc gP gD
  have hK := va_K.app (kA_l hK) (va_K.moved hvm.symm gK)
  have hP := pA_rot hP
  have hD := dA_rot hD
  have hK := kA_rot hK
  refine lv_pop hx hb dL_law_945 rfl ?_
  refine lv_goto (tgt := 1827) hx hb dL_law_946 (by decide) ?_
  refine W.widen (k := cells + 1) (n := slots + 6) (by omega) (by omega) ?_
  exact kk _ _ _ (LwS.in9 t0 T0 U0 y0 f0 iC_nodes iC_words iC_unsures iC_slips iC_throneNode iC_saidWorth fC_kind fC_parts fC_partNodes fC_weights fC_toldWorths fC_unsureWords fC_unsureWorths fS_worths fS_order iK_imageCount fI0_worths fI0_order fI1_worths fI1_order fI2_worths fI2_order iA_count fA_nodes fA_olds fA_says iC_unit fC_weightSums fC_steps fC_below fC_above iM_hasCourt fM_r fM_told fM_st fM_undone fM_kept iM_undos iM_images iM_scale iM_night wa wb ta tb kO _ q1 q2 q3 hR hCIS hSc hT h6 h7 hP hD hK) hS hl
set_option maxHeartbeats 4000000 in
set_option maxRecDepth 100000 in
theorem law_c25 {p : Program} {l : Launch} {e : Env} {s : State} {m : MethodId} {below : List Frame} {meth : Method} {c : Code} {b L : Nat} {xs : Nat → Int32} (C0 : lw_At p s m meth c b L xs) (hL : L ≤ 384) {A : Nat → Prop} (hA : ∀ q, s.heap.size ≤ q → A q) (hAs : ∀ q, A q → s.heap.size ≤ q) (hE : Ev A s s.heap) (hX9 : Ex A s s.heap) (hl8 : l.stackTraces = false) {dC : Nat → ClassId} {dI : Nat → Nat → Nat} {oK oM oO : Nat} {i cells slots : Nat} (hi : i + 6 ≤ L) (hc : cells + 1 ≤ 600128) (hs : slots + 6 ≤ 7301097) {H : Heap} {locs : List Loc} {ls : Array Slot} (hI : LwS dC dI A s H oK oM oO) (hS : va_S A s.heap H locs) (hl : lv_has ls 7 [(4, .int (nI i)), (3, .ref oO), (2, .ref oM), (1, .ref oK), (0, .ref b)]) (kk : ∀ (H : Heap) (locs : List Loc) (ls : Array Slot), LwS dC dI A s H oK oM oO → va_S A s.heap H locs → lv_has ls 7 [(4, .int (nI i)), (3, .ref oO), (2, .ref oM), (1, .ref oK), (0, .ref b)] → W p l e room_1 s m #[Value.ref b] below meth c H locs (cells + 1) (slots + 6) (lw_Z below #[Value.ref b] s) (F0 m 1827 ls [])) : W p l e room_1 s m #[Value.ref b] below meth c H locs (cells) (slots) (lw_Z below #[Value.ref b] s) (F0 m 949 ls []) := by
  obtain ⟨hx, hb, hr, hml, hown, hts0, hX, hbl, hlocks, hgv⟩ := id C0
  have hts : ∀ w ∈ wG, w.before #[Value.ref b] s = true := fun w h => hts0 w (wG_in w h)
  have htsN : ∀ w ∈ wN, w.before #[Value.ref b] s = true := fun w h => hts0 w (wN_in w h)
  have hbA : ¬ A b := fun h => Nat.lt_irrefl _ (Nat.lt_of_lt_of_le hbl (hAs b h))
  refine LwS.elim hI (fun t0 T0 U0 y0 f0 iC_nodes iC_words iC_unsures iC_slips iC_throneNode iC_saidWorth fC_kind fC_parts fC_partNodes fC_weights fC_toldWorths fC_unsureWords fC_unsureWorths fS_worths fS_order iK_imageCount fI0_worths fI0_order fI1_worths fI1_order fI2_worths fI2_order iA_count fA_nodes fA_olds fA_says iC_unit fC_weightSums fC_steps fC_below fC_above iM_hasCourt fM_r fM_told fM_st fM_undone fM_kept iM_undos iM_images iM_scale iM_night wa wb ta tb kO fO q1 q2 q3 hR hCIS hSc hT h6 h7 hP hD hK => ?_)
  refine lv_aload_n hx hb dL_law_949 rfl (lv_at hl 3 rfl) ?_
  refine lv_aload_n hx hb dL_law_950 rfl (lv_at hl 4 rfl) ?_
  refine lv_iload hx hb dL_law_951 (lv_at hl 0 rfl) ?_
  refine lv_iconst (v := 1) hx hb dL_law_953 (by decide) ?_
  refine lv_iadd hx hb dL_law_954 ?_
  refine lv_topi (fun y1 ey1 => ?_)
  obtain rfl : y1 = nI (i + 1) := ey1.trans (nI_add i 1)
  refine va_sld hx hb hX hbl hbA hS (vp_in_nI (show i + 1 < L by omega) (by omega)) dL_law_955 ?_
  refine lv_topi (fun v2 ev2 => ?_)
  have hPc := pA_r hP
  have hDc := dA_r hD
  have hKc := kA_r hK
  have hFc := freeA hDc hS hA
  refine va_calli (va_runV (As := [.int v2]) (rest := []) ⟨hx, hb, hml, hown, hts⟩ (k_disproof l dC dI _ v2 h6) (cwV 1 hts (wd_V wd_983 wd_984 wd_985 wd_2 (wd_c wd_986)) rfl rfl rfl (by decide +kernel) ⟨Nat.le_of_ble_eq_true rfl, Nat.le_of_ble_eq_true rfl⟩) ⟨Pw.fb, KW.recv hKc hPc h6, fun U hU hW => Pw.to hPc hDc hKc hE hS hFc hU hW⟩ rfl rfl hl.1 rfl (lv_room (Nat.le_of_ble_eq_true rfl)) dL_law_956 ⟨(show cells + 0 ≤ 600128 by omega), (show slots + 0 ≤ 7301097 by omega)⟩) hS (fun q _ h => hFc q h) hFc (fun r6 u6 t H locs ht hvm hw6 hB hz1 hk1 hS => ?_)
  obtain ⟨wa, ta, h6, e6, gP, gK, gD⟩ := hB
  rw [ht] at gP
  obtain ⟨hP, hD⟩ := joinA hP hD hk1 hFc gP gD
  have hK := va_K.app (kA_l hK) (va_K.moved hvm.symm gK)
  refine lv_pop hx hb dL_law_959 rfl ?_
  refine lv_aload_n hx hb dL_law_960 rfl (lv_at hl 2 rfl) ?_
  refine lv_aload_n hx hb dL_law_961 rfl (lv_at hl 4 rfl) ?_
  refine lv_iload hx hb dL_law_962 (lv_at hl 0 rfl) ?_
  refine lv_iconst (v := 1) hx hb dL_law_964 (by decide) ?_
  refine lv_iadd hx hb dL_law_965 ?_
  refine lv_topi (fun y3 ey3 => ?_)
  obtain rfl : y3 = nI (i + 1) := ey3.trans (nI_add i 1)
  refine va_sld hx hb hX hbl hbA hS (vp_in_nI (show i + 1 < L by omega) (by omega)) dL_law_966 ?_
  refine lv_topi (fun v4 ev4 => ?_)
  obtain rfl : v2 = v4 := ev2.trans ev4.symm
  have hP := pA_rot hP
  have hD := dA_rot hD
  have hK := kA_rot hK
  have hPc := pA_r hP
  have hDc := dA_r hD
  have hKc := kA_r hK
  have hFc := freeA hDc hS hA
  refine va_calli (va_runV (As := [.int v2]) (rest := []) ⟨hx, hb, hml, hown, hts⟩ (m_disproof l dC dI _ v2 h7) (cwV 1 hts (wd_V wd_987 wd_988 wd_989 wd_5 (wd_c wd_990)) rfl rfl rfl (by decide +kernel) ⟨Nat.le_of_ble_eq_true rfl, Nat.le_of_ble_eq_true rfl⟩) ⟨Pw.fb, MW.recv hKc hPc h7, fun U hU hW => Pw.to hPc hDc hKc hE hS hFc hU hW⟩ rfl rfl hl.1 rfl (lv_room (Nat.le_of_ble_eq_true rfl)) dL_law_967 ⟨(show cells + 0 ≤ 600128 by omega), (show slots + 0 ≤ 7301097 by omega)⟩) hS (fun q _ h => hFc q h) hFc (fun r7 u7 t H locs ht hvm hw7 hB hz1 hk1 hS => ?_)
  obtain ⟨wb, tb, h7, e7, gP, gK, gD⟩ := hB
  rw [ht] at gP
  obtain ⟨hP, hD⟩ := joinA hP hD hk1 hFc gP gD
  have hK := va_K.app (kA_l hK) (va_K.moved hvm.symm gK)
  have hP := pA_rot hP
  have hD := dA_rot hD
  have hK := kA_rot hK
  refine lv_pop hx hb dL_law_970 rfl ?_
  refine lv_goto (tgt := 1827) hx hb dL_law_971 (by decide) ?_
  refine W.widen (k := cells + 1) (n := slots + 6) (by omega) (by omega) ?_
  exact kk _ _ _ (LwS.in9 t0 T0 U0 y0 f0 iC_nodes iC_words iC_unsures iC_slips iC_throneNode iC_saidWorth fC_kind fC_parts fC_partNodes fC_weights fC_toldWorths fC_unsureWords fC_unsureWorths fS_worths fS_order iK_imageCount fI0_worths fI0_order fI1_worths fI1_order fI2_worths fI2_order iA_count fA_nodes fA_olds fA_says iC_unit fC_weightSums fC_steps fC_below fC_above iM_hasCourt fM_r fM_told fM_st fM_undone fM_kept iM_undos iM_images iM_scale iM_night wa wb ta tb kO _ q1 q2 q3 hR hCIS hSc hT h6 h7 hP hD hK) hS hl
set_option maxHeartbeats 4000000 in
set_option maxRecDepth 100000 in
theorem law_c26 {p : Program} {l : Launch} {e : Env} {s : State} {m : MethodId} {below : List Frame} {meth : Method} {c : Code} {b L : Nat} {xs : Nat → Int32} (C0 : lw_At p s m meth c b L xs) (hL : L ≤ 384) {A : Nat → Prop} (hA : ∀ q, s.heap.size ≤ q → A q) (hAs : ∀ q, A q → s.heap.size ≤ q) (hE : Ev A s s.heap) (hX9 : Ex A s s.heap) (hl8 : l.stackTraces = false) {dC : Nat → ClassId} {dI : Nat → Nat → Nat} {oK oM oO : Nat} {i cells slots : Nat} (hi : i + 6 ≤ L) (hc : cells + 1 ≤ 600128) (hs : slots + 6 ≤ 7301097) {H : Heap} {locs : List Loc} {ls : Array Slot} (hI : LwS dC dI A s H oK oM oO) (hS : va_S A s.heap H locs) (hl : lv_has ls 7 [(4, .int (nI i)), (3, .ref oO), (2, .ref oM), (1, .ref oK), (0, .ref b)]) (kk : ∀ (H : Heap) (locs : List Loc) (ls : Array Slot), LwS dC dI A s H oK oM oO → va_S A s.heap H locs → lv_has ls 7 [(4, .int (nI i)), (3, .ref oO), (2, .ref oM), (1, .ref oK), (0, .ref b)] → W p l e room_1 s m #[Value.ref b] below meth c H locs (cells + 1) (slots + 6) (lw_Z below #[Value.ref b] s) (F0 m 1827 ls [])) : W p l e room_1 s m #[Value.ref b] below meth c H locs (cells) (slots) (lw_Z below #[Value.ref b] s) (F0 m 974 ls []) := by
  obtain ⟨hx, hb, hr, hml, hown, hts0, hX, hbl, hlocks, hgv⟩ := id C0
  have hts : ∀ w ∈ wG, w.before #[Value.ref b] s = true := fun w h => hts0 w (wG_in w h)
  have htsN : ∀ w ∈ wN, w.before #[Value.ref b] s = true := fun w h => hts0 w (wN_in w h)
  have hbA : ¬ A b := fun h => Nat.lt_irrefl _ (Nat.lt_of_lt_of_le hbl (hAs b h))
  refine LwS.elim hI (fun t0 T0 U0 y0 f0 iC_nodes iC_words iC_unsures iC_slips iC_throneNode iC_saidWorth fC_kind fC_parts fC_partNodes fC_weights fC_toldWorths fC_unsureWords fC_unsureWorths fS_worths fS_order iK_imageCount fI0_worths fI0_order fI1_worths fI1_order fI2_worths fI2_order iA_count fA_nodes fA_olds fA_says iC_unit fC_weightSums fC_steps fC_below fC_above iM_hasCourt fM_r fM_told fM_st fM_undone fM_kept iM_undos iM_images iM_scale iM_night wa wb ta tb kO fO q1 q2 q3 hR hCIS hSc hT h6 h7 hP hD hK => ?_)
  refine lv_aload_n hx hb dL_law_974 rfl (lv_at hl 3 rfl) ?_
  have hPc := pA_r hP
  have hDc := dA_r hD
  have hKc := kA_r hK
  have hFc := freeA hDc hS hA
  refine va_calli (va_runV (As := []) (rest := []) ⟨hx, hb, hml, hown, hts⟩ (k_sure l dC dI _  h6) (cwV 0 hts (wd_V wd_991 wd_992 wd_993 wd_2 (wd_c wd_994)) rfl rfl rfl (by decide +kernel) ⟨Nat.le_of_ble_eq_true rfl, Nat.le_of_ble_eq_true rfl⟩) ⟨Pw.fb, KW.recv hKc hPc h6, fun U hU hW => Pw.to hPc hDc hKc hE hS hFc hU hW⟩ rfl rfl hl.1 rfl (lv_room (Nat.le_of_ble_eq_true rfl)) dL_law_975 ⟨(show cells + 0 ≤ 600128 by omega), (show slots + 0 ≤ 7301097 by omega)⟩) hS (fun q _ h => hFc q h) hFc (fun r6 u6 t H locs ht hvm hw6 hB hz1 hk1 hS => ?_)
  obtain ⟨wa, ta, h6, e6, gP, gK, gD⟩ := hB
  rw [ht] at gP
  obtain ⟨hP, hD⟩ := joinA hP hD hk1 hFc gP gD
  have hK := va_K.app (kA_l hK) (va_K.moved hvm.symm gK)
  refine lv_pop hx hb dL_law_978 rfl ?_
  refine lv_aload_n hx hb dL_law_979 rfl (lv_at hl 2 rfl) ?_
  have hP := pA_rot hP
  have hD := dA_rot hD
  have hK := kA_rot hK
  have hPc := pA_r hP
  have hDc := dA_r hD
  have hKc := kA_r hK
  have hFc := freeA hDc hS hA
  refine va_calli (va_runV (As := []) (rest := []) ⟨hx, hb, hml, hown, hts⟩ (m_sure l dC dI _  h7) (cwV 0 hts (wd_V wd_995 wd_996 wd_997 wd_5 (wd_c wd_998)) rfl rfl rfl (by decide +kernel) ⟨Nat.le_of_ble_eq_true rfl, Nat.le_of_ble_eq_true rfl⟩) ⟨Pw.fb, MW.recv hKc hPc h7, fun U hU hW => Pw.to hPc hDc hKc hE hS hFc hU hW⟩ rfl rfl hl.1 rfl (lv_room (Nat.le_of_ble_eq_true rfl)) dL_law_980 ⟨(show cells + 0 ≤ 600128 by omega), (show slots + 0 ≤ 7301097 by omega)⟩) hS (fun q _ h => hFc q h) hFc (fun r7 u7 t H locs ht hvm hw7 hB hz1 hk1 hS => ?_)
  obtain ⟨wb, tb, h7, e7, gP, gK, gD⟩ := hB
  rw [ht] at gP
  obtain ⟨hP, hD⟩ := joinA hP hD hk1 hFc gP gD
  have hK := va_K.app (kA_l hK) (va_K.moved hvm.symm gK)
  have hP := pA_rot hP
  have hD := dA_rot hD
  have hK := kA_rot hK
  refine lv_pop hx hb dL_law_983 rfl ?_
  refine lv_goto (tgt := 1827) hx hb dL_law_984 (by decide) ?_
  refine W.widen (k := cells + 1) (n := slots + 6) (by omega) (by omega) ?_
  exact kk _ _ _ (LwS.in9 t0 T0 U0 y0 f0 iC_nodes iC_words iC_unsures iC_slips iC_throneNode iC_saidWorth fC_kind fC_parts fC_partNodes fC_weights fC_toldWorths fC_unsureWords fC_unsureWorths fS_worths fS_order iK_imageCount fI0_worths fI0_order fI1_worths fI1_order fI2_worths fI2_order iA_count fA_nodes fA_olds fA_says iC_unit fC_weightSums fC_steps fC_below fC_above iM_hasCourt fM_r fM_told fM_st fM_undone fM_kept iM_undos iM_images iM_scale iM_night wa wb ta tb kO _ q1 q2 q3 hR hCIS hSc hT h6 h7 hP hD hK) hS hl
set_option maxHeartbeats 4000000 in
set_option maxRecDepth 100000 in
theorem law_c27 {p : Program} {l : Launch} {e : Env} {s : State} {m : MethodId} {below : List Frame} {meth : Method} {c : Code} {b L : Nat} {xs : Nat → Int32} (C0 : lw_At p s m meth c b L xs) (hL : L ≤ 384) {A : Nat → Prop} (hA : ∀ q, s.heap.size ≤ q → A q) (hAs : ∀ q, A q → s.heap.size ≤ q) (hE : Ev A s s.heap) (hX9 : Ex A s s.heap) (hl8 : l.stackTraces = false) {dC : Nat → ClassId} {dI : Nat → Nat → Nat} {oK oM oO : Nat} {i cells slots : Nat} (hi : i + 6 ≤ L) (hc : cells + 1 ≤ 600128) (hs : slots + 6 ≤ 7301097) {H : Heap} {locs : List Loc} {ls : Array Slot} (hI : LwS dC dI A s H oK oM oO) (hS : va_S A s.heap H locs) (hl : lv_has ls 7 [(4, .int (nI i)), (3, .ref oO), (2, .ref oM), (1, .ref oK), (0, .ref b)]) (kk : ∀ (H : Heap) (locs : List Loc) (ls : Array Slot), LwS dC dI A s H oK oM oO → va_S A s.heap H locs → lv_has ls 7 [(4, .int (nI i)), (3, .ref oO), (2, .ref oM), (1, .ref oK), (0, .ref b)] → W p l e room_1 s m #[Value.ref b] below meth c H locs (cells + 1) (slots + 6) (lw_Z below #[Value.ref b] s) (F0 m 1827 ls [])) : W p l e room_1 s m #[Value.ref b] below meth c H locs (cells) (slots) (lw_Z below #[Value.ref b] s) (F0 m 987 ls []) := by
  obtain ⟨hx, hb, hr, hml, hown, hts0, hX, hbl, hlocks, hgv⟩ := id C0
  have hts : ∀ w ∈ wG, w.before #[Value.ref b] s = true := fun w h => hts0 w (wG_in w h)
  have htsN : ∀ w ∈ wN, w.before #[Value.ref b] s = true := fun w h => hts0 w (wN_in w h)
  have hbA : ¬ A b := fun h => Nat.lt_irrefl _ (Nat.lt_of_lt_of_le hbl (hAs b h))
  refine LwS.elim hI (fun t0 T0 U0 y0 f0 iC_nodes iC_words iC_unsures iC_slips iC_throneNode iC_saidWorth fC_kind fC_parts fC_partNodes fC_weights fC_toldWorths fC_unsureWords fC_unsureWorths fS_worths fS_order iK_imageCount fI0_worths fI0_order fI1_worths fI1_order fI2_worths fI2_order iA_count fA_nodes fA_olds fA_says iC_unit fC_weightSums fC_steps fC_below fC_above iM_hasCourt fM_r fM_told fM_st fM_undone fM_kept iM_undos iM_images iM_scale iM_night wa wb ta tb kO fO q1 q2 q3 hR hCIS hSc hT h6 h7 hP hD hK => ?_)
  have hM0 := MW_R h7
  refine lv_aload_n hx hb dL_law_987 rfl (lv_at hl 3 rfl) ?_
  refine lv_aload_n hx hb dL_law_988 rfl (lv_at hl 4 rfl) ?_
  refine lv_iload hx hb dL_law_989 (lv_at hl 0 rfl) ?_
  refine lv_iconst (v := 1) hx hb dL_law_991 (by decide) ?_
  refine lv_iadd hx hb dL_law_992 ?_
  refine lv_topi (fun y1 ey1 => ?_)
  obtain rfl : y1 = nI (i + 1) := ey1.trans (nI_add i 1)
  refine va_sld hx hb hX hbl hbA hS (vp_in_nI (show i + 1 < L by omega) (by omega)) dL_law_993 ?_
  refine lv_topi (fun v2 ev2 => ?_)
  have hPc := pA_r hP
  have hDc := dA_r hD
  have hKc := kA_r hK
  have hFc := freeA hDc hS hA
  refine va_calli (va_runV (As := [.int v2]) (rest := []) ⟨hx, hb, hml, hown, hts⟩ (k_first l dC dI _ v2 h6) (cwV 1 hts (wd_V wd_999 wd_1000 wd_1001 wd_2 (wd_c wd_1002)) rfl rfl rfl (by decide +kernel) ⟨Nat.le_of_ble_eq_true rfl, Nat.le_of_ble_eq_true rfl⟩) ⟨Pw.fb, KW.recv hKc hPc h6, fun U hU hW => Pw.to hPc hDc hKc hE hS hFc hU hW⟩ rfl rfl hl.1 rfl (lv_room (Nat.le_of_ble_eq_true rfl)) dL_law_994 ⟨(show cells + 0 ≤ 600128 by omega), (show slots + 0 ≤ 7301097 by omega)⟩) hS (fun q _ h => hFc q h) hFc (fun r6 u6 t H locs ht hvm hw6 hB hz1 hk1 hS => ?_)
  obtain ⟨wa, ta, h6, e6, gP, gK, gD⟩ := hB
  rw [ht] at gP
  obtain ⟨hP, hD⟩ := joinA hP hD hk1 hFc gP gD
  have hK := va_K.app (kA_l hK) (va_K.moved hvm.symm gK)
  refine lv_aload_n hx hb dL_law_997 rfl (lv_at hl 2 rfl) ?_
  refine lv_aload_n hx hb dL_law_998 rfl (lv_at hl 4 rfl) ?_
  refine lv_iload hx hb dL_law_999 (lv_at hl 0 rfl) ?_
  refine lv_iconst (v := 1) hx hb dL_law_1001 (by decide) ?_
  refine lv_iadd hx hb dL_law_1002 ?_
  refine lv_topi (fun y3 ey3 => ?_)
  obtain rfl : y3 = nI (i + 1) := ey3.trans (nI_add i 1)
  refine va_sld hx hb hX hbl hbA hS (vp_in_nI (show i + 1 < L by omega) (by omega)) dL_law_1003 ?_
  refine lv_topi (fun v4 ev4 => ?_)
  obtain rfl : v2 = v4 := ev2.trans ev4.symm
  have hP := pA_rot hP
  have hD := dA_rot hD
  have hK := kA_rot hK
  have hPc := pA_r hP
  have hDc := dA_r hD
  have hKc := kA_r hK
  have hFc := freeA hDc hS hA
  refine va_calli (va_runV (As := [.int v2]) (rest := [.int r6]) ⟨hx, hb, hml, hown, hts⟩ (m_first l dC dI _ v2 h7) (cwV 1 hts (wd_V wd_1023 wd_1024 wd_1025 wd_5 (wd_c wd_1026)) rfl rfl rfl (by decide +kernel) ⟨Nat.le_of_ble_eq_true rfl, Nat.le_of_ble_eq_true rfl⟩) ⟨Pw.fb, MW.recv hKc hPc h7, fun U hU hW => Pw.to hPc hDc hKc hE hS hFc hU hW⟩ rfl rfl hl.1 rfl (lv_room (Nat.le_of_ble_eq_true rfl)) dL_law_1004 ⟨(show cells + 0 ≤ 600128 by omega), (show slots + 0 ≤ 7301097 by omega)⟩) hS (fun q _ h => hFc q h) hFc (fun r7 u7 t H locs ht hvm hw7 hB hz1 hk1 hS => ?_)
  obtain ⟨wb, tb, h7, e7, gP, gK, gD⟩ := hB
  rw [ht] at gP
  obtain ⟨hP, hD⟩ := joinA hP hD hk1 hFc gP gD
  have hK := va_K.app (kA_l hK) (va_K.moved hvm.symm gK)
  have hP := pA_rot hP
  have hD := dA_rot hD
  have hK := kA_rot hK
  obtain ⟨x6_0, x6_1, x6_2, x6_3, x6_4, x6_5, x6_6, x6_7, x6_8, x6_9, x6_10, x6_11, x6_12, x6_13, x6_14, e6⟩ := e6
  obtain ⟨x7_0, x7_1, x7_2, x7_3, x7_4, x7_5, x7_6, x7_7, x7_8, x7_9, x7_10, x7_11, x7_12, x7_13, e7⟩ := e7
  have hjn := first_join hR hCIS hSc hM0 e6 e7
  have hq9 : r6 = r7 := hw6.trans (hjn.1.trans hw7.symm)
  refine lv_icmp_eq (tgt := 1827) hx hb dL_law_1007 (by decide) (fun _ => ?_) (fun c9 => absurd hq9 c9)
  refine W.widen (k := cells + 1) (n := slots + 6) (by omega) (by omega) ?_
  exact kk _ _ _ (LwS.in9 t0 T0 U0 y0 f0 iC_nodes iC_words iC_unsures iC_slips iC_throneNode iC_saidWorth fC_kind fC_parts fC_partNodes fC_weights fC_toldWorths fC_unsureWords fC_unsureWorths fS_worths fS_order iK_imageCount fI0_worths fI0_order fI1_worths fI1_order fI2_worths fI2_order iA_count fA_nodes fA_olds fA_says iC_unit fC_weightSums fC_steps fC_below fC_above iM_hasCourt fM_r fM_told fM_st fM_undone fM_kept iM_undos iM_images iM_scale iM_night wa wb ta tb kO _ q1 q2 q3 hR hCIS hSc hT h6 h7 hP hD hK) hS hl
set_option maxHeartbeats 4000000 in
set_option maxRecDepth 100000 in
theorem law_c28 {p : Program} {l : Launch} {e : Env} {s : State} {m : MethodId} {below : List Frame} {meth : Method} {c : Code} {b L : Nat} {xs : Nat → Int32} (C0 : lw_At p s m meth c b L xs) (hL : L ≤ 384) {A : Nat → Prop} (hA : ∀ q, s.heap.size ≤ q → A q) (hAs : ∀ q, A q → s.heap.size ≤ q) (hE : Ev A s s.heap) (hX9 : Ex A s s.heap) (hl8 : l.stackTraces = false) {dC : Nat → ClassId} {dI : Nat → Nat → Nat} {oK oM oO : Nat} {i cells slots : Nat} (hi : i + 6 ≤ L) (hc : cells + 1 ≤ 600128) (hs : slots + 6 ≤ 7301097) {H : Heap} {locs : List Loc} {ls : Array Slot} (hI : LwS dC dI A s H oK oM oO) (hS : va_S A s.heap H locs) (hl : lv_has ls 7 [(4, .int (nI i)), (3, .ref oO), (2, .ref oM), (1, .ref oK), (0, .ref b)]) (kk : ∀ (H : Heap) (locs : List Loc) (ls : Array Slot), LwS dC dI A s H oK oM oO → va_S A s.heap H locs → lv_has ls 7 [(4, .int (nI i)), (3, .ref oO), (2, .ref oM), (1, .ref oK), (0, .ref b)] → W p l e room_1 s m #[Value.ref b] below meth c H locs (cells + 1) (slots + 6) (lw_Z below #[Value.ref b] s) (F0 m 1827 ls [])) : W p l e room_1 s m #[Value.ref b] below meth c H locs (cells) (slots) (lw_Z below #[Value.ref b] s) (F0 m 1012 ls []) := by
  obtain ⟨hx, hb, hr, hml, hown, hts0, hX, hbl, hlocks, hgv⟩ := id C0
  have hts : ∀ w ∈ wG, w.before #[Value.ref b] s = true := fun w h => hts0 w (wG_in w h)
  have htsN : ∀ w ∈ wN, w.before #[Value.ref b] s = true := fun w h => hts0 w (wN_in w h)
  have hbA : ¬ A b := fun h => Nat.lt_irrefl _ (Nat.lt_of_lt_of_le hbl (hAs b h))
  refine LwS.elim hI (fun t0 T0 U0 y0 f0 iC_nodes iC_words iC_unsures iC_slips iC_throneNode iC_saidWorth fC_kind fC_parts fC_partNodes fC_weights fC_toldWorths fC_unsureWords fC_unsureWorths fS_worths fS_order iK_imageCount fI0_worths fI0_order fI1_worths fI1_order fI2_worths fI2_order iA_count fA_nodes fA_olds fA_says iC_unit fC_weightSums fC_steps fC_below fC_above iM_hasCourt fM_r fM_told fM_st fM_undone fM_kept iM_undos iM_images iM_scale iM_night wa wb ta tb kO fO q1 q2 q3 hR hCIS hSc hT h6 h7 hP hD hK => ?_)
  have hM0 := MW_R h7
  refine lv_aload_n hx hb dL_law_1012 rfl (lv_at hl 3 rfl) ?_
  refine lv_aload_n hx hb dL_law_1013 rfl (lv_at hl 4 rfl) ?_
  refine lv_iload hx hb dL_law_1014 (lv_at hl 0 rfl) ?_
  refine lv_iconst (v := 1) hx hb dL_law_1016 (by decide) ?_
  refine lv_iadd hx hb dL_law_1017 ?_
  refine lv_topi (fun y1 ey1 => ?_)
  obtain rfl : y1 = nI (i + 1) := ey1.trans (nI_add i 1)
  refine va_sld hx hb hX hbl hbA hS (vp_in_nI (show i + 1 < L by omega) (by omega)) dL_law_1018 ?_
  refine lv_topi (fun v2 ev2 => ?_)
  have hPc := pA_r hP
  have hDc := dA_r hD
  have hKc := kA_r hK
  have hFc := freeA hDc hS hA
  refine va_calli (va_runV (As := [.int v2]) (rest := []) ⟨hx, hb, hml, hown, hts⟩ (k_firstBreaths l dC dI _ v2 h6) (cwV 1 hts (wd_V wd_1036 wd_1037 wd_1038 wd_2 (wd_c wd_1039)) rfl rfl rfl (by decide +kernel) ⟨Nat.le_of_ble_eq_true rfl, Nat.le_of_ble_eq_true rfl⟩) ⟨Pw.fb, KW.recv hKc hPc h6, fun U hU hW => Pw.to hPc hDc hKc hE hS hFc hU hW⟩ rfl rfl hl.1 rfl (lv_room (Nat.le_of_ble_eq_true rfl)) dL_law_1019 ⟨(show cells + 0 ≤ 600128 by omega), (show slots + 0 ≤ 7301097 by omega)⟩) hS (fun q _ h => hFc q h) hFc (fun r6 u6 t H locs ht hvm hw6 hB hz1 hk1 hS => ?_)
  obtain ⟨wa, ta, h6, e6, gP, gK, gD⟩ := hB
  rw [ht] at gP
  obtain ⟨hP, hD⟩ := joinA hP hD hk1 hFc gP gD
  have hK := va_K.app (kA_l hK) (va_K.moved hvm.symm gK)
  refine lv_pop hx hb dL_law_1022 rfl ?_
  refine lv_aload_n hx hb dL_law_1023 rfl (lv_at hl 2 rfl) ?_
  refine lv_aload_n hx hb dL_law_1024 rfl (lv_at hl 4 rfl) ?_
  refine lv_iload hx hb dL_law_1025 (lv_at hl 0 rfl) ?_
  refine lv_iconst (v := 1) hx hb dL_law_1027 (by decide) ?_
  refine lv_iadd hx hb dL_law_1028 ?_
  refine lv_topi (fun y3 ey3 => ?_)
  obtain rfl : y3 = nI (i + 1) := ey3.trans (nI_add i 1)
  refine va_sld hx hb hX hbl hbA hS (vp_in_nI (show i + 1 < L by omega) (by omega)) dL_law_1029 ?_
  refine lv_topi (fun v4 ev4 => ?_)
  obtain rfl : v2 = v4 := ev2.trans ev4.symm
  have hP := pA_rot hP
  have hD := dA_rot hD
  have hK := kA_rot hK
  have hPc := pA_r hP
  have hDc := dA_r hD
  have hKc := kA_r hK
  have hFc := freeA hDc hS hA
  refine va_calli (va_runV (As := [.int v2]) (rest := []) ⟨hx, hb, hml, hown, hts⟩ (m_firstBreaths l dC dI _ v2 h7) (cwV 1 hts (wd_V wd_1040 wd_1041 wd_1042 wd_5 (wd_c wd_1043)) rfl rfl rfl (by decide +kernel) ⟨Nat.le_of_ble_eq_true rfl, Nat.le_of_ble_eq_true rfl⟩) ⟨Pw.fb, MW.recv hKc hPc h7, fun U hU hW => Pw.to hPc hDc hKc hE hS hFc hU hW⟩ rfl rfl hl.1 rfl (lv_room (Nat.le_of_ble_eq_true rfl)) dL_law_1030 ⟨(show cells + 0 ≤ 600128 by omega), (show slots + 0 ≤ 7301097 by omega)⟩) hS (fun q _ h => hFc q h) hFc (fun r7 u7 t H locs ht hvm hw7 hB hz1 hk1 hS => ?_)
  obtain ⟨wb, tb, h7, e7, gP, gK, gD⟩ := hB
  rw [ht] at gP
  obtain ⟨hP, hD⟩ := joinA hP hD hk1 hFc gP gD
  have hK := va_K.app (kA_l hK) (va_K.moved hvm.symm gK)
  have hP := pA_rot hP
  have hD := dA_rot hD
  have hK := kA_rot hK
  refine lv_pop hx hb dL_law_1033 rfl ?_
  refine lv_goto (tgt := 1827) hx hb dL_law_1034 (by decide) ?_
  refine W.widen (k := cells + 1) (n := slots + 6) (by omega) (by omega) ?_
  exact kk _ _ _ (LwS.in9 t0 T0 U0 y0 f0 iC_nodes iC_words iC_unsures iC_slips iC_throneNode iC_saidWorth fC_kind fC_parts fC_partNodes fC_weights fC_toldWorths fC_unsureWords fC_unsureWorths fS_worths fS_order iK_imageCount fI0_worths fI0_order fI1_worths fI1_order fI2_worths fI2_order iA_count fA_nodes fA_olds fA_says iC_unit fC_weightSums fC_steps fC_below fC_above iM_hasCourt fM_r fM_told fM_st fM_undone fM_kept iM_undos iM_images iM_scale iM_night wa wb ta tb kO _ q1 q2 q3 hR hCIS hSc hT h6 h7 hP hD hK) hS hl
set_option maxHeartbeats 4000000 in
set_option maxRecDepth 100000 in
theorem law_c29 {p : Program} {l : Launch} {e : Env} {s : State} {m : MethodId} {below : List Frame} {meth : Method} {c : Code} {b L : Nat} {xs : Nat → Int32} (C0 : lw_At p s m meth c b L xs) (hL : L ≤ 384) {A : Nat → Prop} (hA : ∀ q, s.heap.size ≤ q → A q) (hAs : ∀ q, A q → s.heap.size ≤ q) (hE : Ev A s s.heap) (hX9 : Ex A s s.heap) (hl8 : l.stackTraces = false) {dC : Nat → ClassId} {dI : Nat → Nat → Nat} {oK oM oO : Nat} {i cells slots : Nat} (hi : i + 6 ≤ L) (hc : cells + 1 ≤ 600128) (hs : slots + 6 ≤ 7301097) {H : Heap} {locs : List Loc} {ls : Array Slot} (hI : LwS dC dI A s H oK oM oO) (hS : va_S A s.heap H locs) (hl : lv_has ls 7 [(4, .int (nI i)), (3, .ref oO), (2, .ref oM), (1, .ref oK), (0, .ref b)]) (kk : ∀ (H : Heap) (locs : List Loc) (ls : Array Slot), LwS dC dI A s H oK oM oO → va_S A s.heap H locs → lv_has ls 7 [(4, .int (nI i)), (3, .ref oO), (2, .ref oM), (1, .ref oK), (0, .ref b)] → W p l e room_1 s m #[Value.ref b] below meth c H locs (cells + 1) (slots + 6) (lw_Z below #[Value.ref b] s) (F0 m 1827 ls [])) : W p l e room_1 s m #[Value.ref b] below meth c H locs (cells) (slots) (lw_Z below #[Value.ref b] s) (F0 m 1037 ls []) := by
  obtain ⟨hx, hb, hr, hml, hown, hts0, hX, hbl, hlocks, hgv⟩ := id C0
  have hts : ∀ w ∈ wG, w.before #[Value.ref b] s = true := fun w h => hts0 w (wG_in w h)
  have htsN : ∀ w ∈ wN, w.before #[Value.ref b] s = true := fun w h => hts0 w (wN_in w h)
  have hbA : ¬ A b := fun h => Nat.lt_irrefl _ (Nat.lt_of_lt_of_le hbl (hAs b h))
  refine LwS.elim hI (fun t0 T0 U0 y0 f0 iC_nodes iC_words iC_unsures iC_slips iC_throneNode iC_saidWorth fC_kind fC_parts fC_partNodes fC_weights fC_toldWorths fC_unsureWords fC_unsureWorths fS_worths fS_order iK_imageCount fI0_worths fI0_order fI1_worths fI1_order fI2_worths fI2_order iA_count fA_nodes fA_olds fA_says iC_unit fC_weightSums fC_steps fC_below fC_above iM_hasCourt fM_r fM_told fM_st fM_undone fM_kept iM_undos iM_images iM_scale iM_night wa wb ta tb kO fO q1 q2 q3 hR hCIS hSc hT h6 h7 hP hD hK => ?_)
  have hM0 := MW_R h7
  refine lv_aload_n hx hb dL_law_1037 rfl (lv_at hl 3 rfl) ?_
  refine lv_aload_n hx hb dL_law_1038 rfl (lv_at hl 4 rfl) ?_
  refine lv_iload hx hb dL_law_1039 (lv_at hl 0 rfl) ?_
  refine lv_iconst (v := 1) hx hb dL_law_1041 (by decide) ?_
  refine lv_iadd hx hb dL_law_1042 ?_
  refine lv_topi (fun y1 ey1 => ?_)
  obtain rfl : y1 = nI (i + 1) := ey1.trans (nI_add i 1)
  refine va_sld hx hb hX hbl hbA hS (vp_in_nI (show i + 1 < L by omega) (by omega)) dL_law_1043 ?_
  refine lv_topi (fun v2 ev2 => ?_)
  refine lv_aload_n hx hb dL_law_1044 rfl (lv_at hl 4 rfl) ?_
  refine lv_iload hx hb dL_law_1045 (lv_at hl 0 rfl) ?_
  refine lv_iconst (v := 2) hx hb dL_law_1047 (by decide) ?_
  refine lv_iadd hx hb dL_law_1048 ?_
  refine lv_topi (fun y3 ey3 => ?_)
  obtain rfl : y3 = nI (i + 2) := ey3.trans (nI_add i 2)
  refine va_sld hx hb hX hbl hbA hS (vp_in_nI (show i + 2 < L by omega) (by omega)) dL_law_1049 ?_
  refine lv_topi (fun v4 ev4 => ?_)
  refine vz_jeqb hx hb dL_law_1050 dL_law_1053 dL_law_1054 dL_law_1057 (fun b5 hb5 => ?_)
  have hPc := pA_r hP
  have hDc := dA_r hD
  have hKc := kA_r hK
  have hFc := freeA hDc hS hA
  refine va_calll (va_runV (As := [.int v2, .int b5]) (rest := []) ⟨hx, hb, hml, hown, hts⟩ (k_orderMean l dC dI _ v2 b5 h6) (cwV 2 hts (wd_V wd_1044 wd_1045 wd_1046 wd_2 (wd_c wd_1047)) rfl rfl rfl (by decide +kernel) ⟨Nat.le_of_ble_eq_true rfl, Nat.le_of_ble_eq_true rfl⟩) ⟨Pw.fb, KW.recv hKc hPc h6, fun U hU hW => Pw.to hPc hDc hKc hE hS hFc hU hW⟩ rfl rfl hl.1 rfl (lv_room (Nat.le_of_ble_eq_true rfl)) dL_law_1058 ⟨(show cells + 0 ≤ 600128 by omega), (show slots + 0 ≤ 7301097 by omega)⟩) hS (fun q _ h => hFc q h) hFc (fun r6 u6 t H locs ht hvm hw6 hB hz1 hk1 hS => ?_)
  obtain ⟨wa, ta, h6, e6, gP, gK, gD⟩ := hB
  rw [ht] at gP
  obtain ⟨hP, hD⟩ := joinA hP hD hk1 hFc gP gD
  have hK := va_K.app (kA_l hK) (va_K.moved hvm.symm gK)
  refine lv_pop2_2 hx hb dL_law_1061 rfl ?_
  refine lv_aload_n hx hb dL_law_1062 rfl (lv_at hl 2 rfl) ?_
  refine lv_aload_n hx hb dL_law_1063 rfl (lv_at hl 4 rfl) ?_
  refine lv_iload hx hb dL_law_1064 (lv_at hl 0 rfl) ?_
  refine lv_iconst (v := 1) hx hb dL_law_1066 (by decide) ?_
  refine lv_iadd hx hb dL_law_1067 ?_
  refine lv_topi (fun y6 ey6 => ?_)
  obtain rfl : y6 = nI (i + 1) := ey6.trans (nI_add i 1)
  refine va_sld hx hb hX hbl hbA hS (vp_in_nI (show i + 1 < L by omega) (by omega)) dL_law_1068 ?_
  refine lv_topi (fun v7 ev7 => ?_)
  obtain rfl : v2 = v7 := ev2.trans ev7.symm
  refine lv_aload_n hx hb dL_law_1069 rfl (lv_at hl 4 rfl) ?_
  refine lv_iload hx hb dL_law_1070 (lv_at hl 0 rfl) ?_
  refine lv_iconst (v := 2) hx hb dL_law_1072 (by decide) ?_
  refine lv_iadd hx hb dL_law_1073 ?_
  refine lv_topi (fun y8 ey8 => ?_)
  obtain rfl : y8 = nI (i + 2) := ey8.trans (nI_add i 2)
  refine va_sld hx hb hX hbl hbA hS (vp_in_nI (show i + 2 < L by omega) (by omega)) dL_law_1074 ?_
  refine lv_topi (fun v9 ev9 => ?_)
  obtain rfl : v4 = v9 := ev4.trans ev9.symm
  refine vz_jeqb hx hb dL_law_1075 dL_law_1078 dL_law_1079 dL_law_1082 (fun b10 hb10 => ?_)
  obtain rfl : b5 = b10 := hb5.trans hb10.symm
  have hP := pA_rot hP
  have hD := dA_rot hD
  have hK := kA_rot hK
  have hPc := pA_r hP
  have hDc := dA_r hD
  have hKc := kA_r hK
  have hFc := freeA hDc hS hA
  refine va_calll (va_runV (As := [.int v2, .int b5]) (rest := []) ⟨hx, hb, hml, hown, hts⟩ (m_orderMean l dC dI _ v2 b5 h7) (cwV 2 hts (wd_V wd_1060 wd_1061 wd_1062 wd_5 (wd_c wd_1063)) rfl rfl rfl (by decide +kernel) ⟨Nat.le_of_ble_eq_true rfl, Nat.le_of_ble_eq_true rfl⟩) ⟨Pw.fb, MW.recv hKc hPc h7, fun U hU hW => Pw.to hPc hDc hKc hE hS hFc hU hW⟩ rfl rfl hl.1 rfl (lv_room (Nat.le_of_ble_eq_true rfl)) dL_law_1083 ⟨(show cells + 0 ≤ 600128 by omega), (show slots + 0 ≤ 7301097 by omega)⟩) hS (fun q _ h => hFc q h) hFc (fun r7 u7 t H locs ht hvm hw7 hB hz1 hk1 hS => ?_)
  obtain ⟨wb, tb, h7, e7, gP, gK, gD⟩ := hB
  rw [ht] at gP
  obtain ⟨hP, hD⟩ := joinA hP hD hk1 hFc gP gD
  have hK := va_K.app (kA_l hK) (va_K.moved hvm.symm gK)
  have hP := pA_rot hP
  have hD := dA_rot hD
  have hK := kA_rot hK
  refine lv_pop2_2 hx hb dL_law_1086 rfl ?_
  refine lv_goto (tgt := 1827) hx hb dL_law_1087 (by decide) ?_
  refine W.widen (k := cells + 1) (n := slots + 6) (by omega) (by omega) ?_
  exact kk _ _ _ (LwS.in9 t0 T0 U0 y0 f0 iC_nodes iC_words iC_unsures iC_slips iC_throneNode iC_saidWorth fC_kind fC_parts fC_partNodes fC_weights fC_toldWorths fC_unsureWords fC_unsureWorths fS_worths fS_order iK_imageCount fI0_worths fI0_order fI1_worths fI1_order fI2_worths fI2_order iA_count fA_nodes fA_olds fA_says iC_unit fC_weightSums fC_steps fC_below fC_above iM_hasCourt fM_r fM_told fM_st fM_undone fM_kept iM_undos iM_images iM_scale iM_night wa wb ta tb kO _ q1 q2 q3 hR hCIS hSc hT h6 h7 hP hD hK) hS hl
set_option maxHeartbeats 4000000 in
set_option maxRecDepth 100000 in
theorem law_c30 {p : Program} {l : Launch} {e : Env} {s : State} {m : MethodId} {below : List Frame} {meth : Method} {c : Code} {b L : Nat} {xs : Nat → Int32} (C0 : lw_At p s m meth c b L xs) (hL : L ≤ 384) {A : Nat → Prop} (hA : ∀ q, s.heap.size ≤ q → A q) (hAs : ∀ q, A q → s.heap.size ≤ q) (hE : Ev A s s.heap) (hX9 : Ex A s s.heap) (hl8 : l.stackTraces = false) {dC : Nat → ClassId} {dI : Nat → Nat → Nat} {oK oM oO : Nat} {i cells slots : Nat} (hi : i + 6 ≤ L) (hc : cells + 1 ≤ 600128) (hs : slots + 6 ≤ 7301097) {H : Heap} {locs : List Loc} {ls : Array Slot} (hI : LwS dC dI A s H oK oM oO) (hS : va_S A s.heap H locs) (hl : lv_has ls 7 [(4, .int (nI i)), (3, .ref oO), (2, .ref oM), (1, .ref oK), (0, .ref b)]) (kk : ∀ (H : Heap) (locs : List Loc) (ls : Array Slot), LwS dC dI A s H oK oM oO → va_S A s.heap H locs → lv_has ls 7 [(4, .int (nI i)), (3, .ref oO), (2, .ref oM), (1, .ref oK), (0, .ref b)] → W p l e room_1 s m #[Value.ref b] below meth c H locs (cells + 1) (slots + 6) (lw_Z below #[Value.ref b] s) (F0 m 1827 ls [])) : W p l e room_1 s m #[Value.ref b] below meth c H locs (cells) (slots) (lw_Z below #[Value.ref b] s) (F0 m 1090 ls []) := by
  obtain ⟨hx, hb, hr, hml, hown, hts0, hX, hbl, hlocks, hgv⟩ := id C0
  have hts : ∀ w ∈ wG, w.before #[Value.ref b] s = true := fun w h => hts0 w (wG_in w h)
  have htsN : ∀ w ∈ wN, w.before #[Value.ref b] s = true := fun w h => hts0 w (wN_in w h)
  have hbA : ¬ A b := fun h => Nat.lt_irrefl _ (Nat.lt_of_lt_of_le hbl (hAs b h))
  refine LwS.elim hI (fun t0 T0 U0 y0 f0 iC_nodes iC_words iC_unsures iC_slips iC_throneNode iC_saidWorth fC_kind fC_parts fC_partNodes fC_weights fC_toldWorths fC_unsureWords fC_unsureWorths fS_worths fS_order iK_imageCount fI0_worths fI0_order fI1_worths fI1_order fI2_worths fI2_order iA_count fA_nodes fA_olds fA_says iC_unit fC_weightSums fC_steps fC_below fC_above iM_hasCourt fM_r fM_told fM_st fM_undone fM_kept iM_undos iM_images iM_scale iM_night wa wb ta tb kO fO q1 q2 q3 hR hCIS hSc hT h6 h7 hP hD hK => ?_)
  have hM0 := MW_R h7
  refine lv_aload_n hx hb dL_law_1090 rfl (lv_at hl 3 rfl) ?_
  refine lv_aload_n hx hb dL_law_1091 rfl (lv_at hl 4 rfl) ?_
  refine lv_iload hx hb dL_law_1092 (lv_at hl 0 rfl) ?_
  refine lv_iconst (v := 1) hx hb dL_law_1094 (by decide) ?_
  refine lv_iadd hx hb dL_law_1095 ?_
  refine lv_topi (fun y1 ey1 => ?_)
  obtain rfl : y1 = nI (i + 1) := ey1.trans (nI_add i 1)
  refine va_sld hx hb hX hbl hbA hS (vp_in_nI (show i + 1 < L by omega) (by omega)) dL_law_1096 ?_
  refine lv_topi (fun v2 ev2 => ?_)
  have hPc := pA_r hP
  have hDc := dA_r hD
  have hKc := kA_r hK
  have hFc := freeA hDc hS hA
  refine va_calli (va_runV (As := [.int v2]) (rest := []) ⟨hx, hb, hml, hown, hts⟩ (k_orderLeast l dC dI _ v2 h6) (cwV 1 hts (wd_V wd_1075 wd_1076 wd_1077 wd_2 (wd_c wd_1078)) rfl rfl rfl (by decide +kernel) ⟨Nat.le_of_ble_eq_true rfl, Nat.le_of_ble_eq_true rfl⟩) ⟨Pw.fb, KW.recv hKc hPc h6, fun U hU hW => Pw.to hPc hDc hKc hE hS hFc hU hW⟩ rfl rfl hl.1 rfl (lv_room (Nat.le_of_ble_eq_true rfl)) dL_law_1097 ⟨(show cells + 0 ≤ 600128 by omega), (show slots + 0 ≤ 7301097 by omega)⟩) hS (fun q _ h => hFc q h) hFc (fun r6 u6 t H locs ht hvm hw6 hB hz1 hk1 hS => ?_)
  obtain ⟨wa, ta, h6, e6, gP, gK, gD⟩ := hB
  rw [ht] at gP
  obtain ⟨hP, hD⟩ := joinA hP hD hk1 hFc gP gD
  have hK := va_K.app (kA_l hK) (va_K.moved hvm.symm gK)
  refine lv_pop hx hb dL_law_1100 rfl ?_
  refine lv_aload_n hx hb dL_law_1101 rfl (lv_at hl 2 rfl) ?_
  refine lv_aload_n hx hb dL_law_1102 rfl (lv_at hl 4 rfl) ?_
  refine lv_iload hx hb dL_law_1103 (lv_at hl 0 rfl) ?_
  refine lv_iconst (v := 1) hx hb dL_law_1105 (by decide) ?_
  refine lv_iadd hx hb dL_law_1106 ?_
  refine lv_topi (fun y3 ey3 => ?_)
  obtain rfl : y3 = nI (i + 1) := ey3.trans (nI_add i 1)
  refine va_sld hx hb hX hbl hbA hS (vp_in_nI (show i + 1 < L by omega) (by omega)) dL_law_1107 ?_
  refine lv_topi (fun v4 ev4 => ?_)
  obtain rfl : v2 = v4 := ev2.trans ev4.symm
  have hP := pA_rot hP
  have hD := dA_rot hD
  have hK := kA_rot hK
  have hPc := pA_r hP
  have hDc := dA_r hD
  have hKc := kA_r hK
  have hFc := freeA hDc hS hA
  refine va_calli (va_runV (As := [.int v2]) (rest := []) ⟨hx, hb, hml, hown, hts⟩ (m_orderLeast l dC dI _ v2 h7) (cwV 1 hts (wd_V wd_1080 wd_1081 wd_1082 wd_5 (wd_c wd_1083)) rfl rfl rfl (by decide +kernel) ⟨Nat.le_of_ble_eq_true rfl, Nat.le_of_ble_eq_true rfl⟩) ⟨Pw.fb, MW.recv hKc hPc h7, fun U hU hW => Pw.to hPc hDc hKc hE hS hFc hU hW⟩ rfl rfl hl.1 rfl (lv_room (Nat.le_of_ble_eq_true rfl)) dL_law_1108 ⟨(show cells + 0 ≤ 600128 by omega), (show slots + 0 ≤ 7301097 by omega)⟩) hS (fun q _ h => hFc q h) hFc (fun r7 u7 t H locs ht hvm hw7 hB hz1 hk1 hS => ?_)
  obtain ⟨wb, tb, h7, e7, gP, gK, gD⟩ := hB
  rw [ht] at gP
  obtain ⟨hP, hD⟩ := joinA hP hD hk1 hFc gP gD
  have hK := va_K.app (kA_l hK) (va_K.moved hvm.symm gK)
  have hP := pA_rot hP
  have hD := dA_rot hD
  have hK := kA_rot hK
  refine lv_pop hx hb dL_law_1111 rfl ?_
  refine lv_goto (tgt := 1827) hx hb dL_law_1112 (by decide) ?_
  refine W.widen (k := cells + 1) (n := slots + 6) (by omega) (by omega) ?_
  exact kk _ _ _ (LwS.in9 t0 T0 U0 y0 f0 iC_nodes iC_words iC_unsures iC_slips iC_throneNode iC_saidWorth fC_kind fC_parts fC_partNodes fC_weights fC_toldWorths fC_unsureWords fC_unsureWorths fS_worths fS_order iK_imageCount fI0_worths fI0_order fI1_worths fI1_order fI2_worths fI2_order iA_count fA_nodes fA_olds fA_says iC_unit fC_weightSums fC_steps fC_below fC_above iM_hasCourt fM_r fM_told fM_st fM_undone fM_kept iM_undos iM_images iM_scale iM_night wa wb ta tb kO _ q1 q2 q3 hR hCIS hSc hT h6 h7 hP hD hK) hS hl
set_option maxHeartbeats 4000000 in
set_option maxRecDepth 100000 in
theorem law_c31 {p : Program} {l : Launch} {e : Env} {s : State} {m : MethodId} {below : List Frame} {meth : Method} {c : Code} {b L : Nat} {xs : Nat → Int32} (C0 : lw_At p s m meth c b L xs) (hL : L ≤ 384) {A : Nat → Prop} (hA : ∀ q, s.heap.size ≤ q → A q) (hAs : ∀ q, A q → s.heap.size ≤ q) (hE : Ev A s s.heap) (hX9 : Ex A s s.heap) (hl8 : l.stackTraces = false) {dC : Nat → ClassId} {dI : Nat → Nat → Nat} {oK oM oO : Nat} {i cells slots : Nat} (hi : i + 6 ≤ L) (hc : cells + 1 ≤ 600128) (hs : slots + 6 ≤ 7301097) {H : Heap} {locs : List Loc} {ls : Array Slot} (hI : LwS dC dI A s H oK oM oO) (hS : va_S A s.heap H locs) (hl : lv_has ls 7 [(4, .int (nI i)), (3, .ref oO), (2, .ref oM), (1, .ref oK), (0, .ref b)]) (kk : ∀ (H : Heap) (locs : List Loc) (ls : Array Slot), LwS dC dI A s H oK oM oO → va_S A s.heap H locs → lv_has ls 7 [(4, .int (nI i)), (3, .ref oO), (2, .ref oM), (1, .ref oK), (0, .ref b)] → W p l e room_1 s m #[Value.ref b] below meth c H locs (cells + 1) (slots + 6) (lw_Z below #[Value.ref b] s) (F0 m 1827 ls [])) : W p l e room_1 s m #[Value.ref b] below meth c H locs (cells) (slots) (lw_Z below #[Value.ref b] s) (F0 m 1115 ls []) := by
  obtain ⟨hx, hb, hr, hml, hown, hts0, hX, hbl, hlocks, hgv⟩ := id C0
  have hts : ∀ w ∈ wG, w.before #[Value.ref b] s = true := fun w h => hts0 w (wG_in w h)
  have htsN : ∀ w ∈ wN, w.before #[Value.ref b] s = true := fun w h => hts0 w (wN_in w h)
  have hbA : ¬ A b := fun h => Nat.lt_irrefl _ (Nat.lt_of_lt_of_le hbl (hAs b h))
  refine LwS.elim hI (fun t0 T0 U0 y0 f0 iC_nodes iC_words iC_unsures iC_slips iC_throneNode iC_saidWorth fC_kind fC_parts fC_partNodes fC_weights fC_toldWorths fC_unsureWords fC_unsureWorths fS_worths fS_order iK_imageCount fI0_worths fI0_order fI1_worths fI1_order fI2_worths fI2_order iA_count fA_nodes fA_olds fA_says iC_unit fC_weightSums fC_steps fC_below fC_above iM_hasCourt fM_r fM_told fM_st fM_undone fM_kept iM_undos iM_images iM_scale iM_night wa wb ta tb kO fO q1 q2 q3 hR hCIS hSc hT h6 h7 hP hD hK => ?_)
  have hM0 := MW_R h7
  refine lv_aload_n hx hb dL_law_1115 rfl (lv_at hl 3 rfl) ?_
  refine lv_aload_n hx hb dL_law_1116 rfl (lv_at hl 4 rfl) ?_
  refine lv_iload hx hb dL_law_1117 (lv_at hl 0 rfl) ?_
  refine lv_iconst (v := 1) hx hb dL_law_1119 (by decide) ?_
  refine lv_iadd hx hb dL_law_1120 ?_
  refine lv_topi (fun y1 ey1 => ?_)
  obtain rfl : y1 = nI (i + 1) := ey1.trans (nI_add i 1)
  refine va_sld hx hb hX hbl hbA hS (vp_in_nI (show i + 1 < L by omega) (by omega)) dL_law_1121 ?_
  refine lv_topi (fun v2 ev2 => ?_)
  refine lv_aload_n hx hb dL_law_1122 rfl (lv_at hl 4 rfl) ?_
  refine lv_iload hx hb dL_law_1123 (lv_at hl 0 rfl) ?_
  refine lv_iconst (v := 2) hx hb dL_law_1125 (by decide) ?_
  refine lv_iadd hx hb dL_law_1126 ?_
  refine lv_topi (fun y3 ey3 => ?_)
  obtain rfl : y3 = nI (i + 2) := ey3.trans (nI_add i 2)
  refine va_sld hx hb hX hbl hbA hS (vp_in_nI (show i + 2 < L by omega) (by omega)) dL_law_1127 ?_
  refine lv_topi (fun v4 ev4 => ?_)
  refine vz_jeqb hx hb dL_law_1128 dL_law_1131 dL_law_1132 dL_law_1135 (fun b5 hb5 => ?_)
  have hPc := pA_r hP
  have hDc := dA_r hD
  have hKc := kA_r hK
  have hFc := freeA hDc hS hA
  refine va_calll (va_runV (As := [.int v2, .int b5]) (rest := []) ⟨hx, hb, hml, hown, hts⟩ (k_night l dC dI _ v2 b5 h6) (cwV 2 hts (wd_V wd_1084 wd_1085 wd_1086 wd_2 (wd_c wd_1087)) rfl rfl rfl (by decide +kernel) ⟨Nat.le_of_ble_eq_true rfl, Nat.le_of_ble_eq_true rfl⟩) ⟨Pw.fb, KW.recv hKc hPc h6, fun U hU hW => Pw.to hPc hDc hKc hE hS hFc hU hW⟩ rfl rfl hl.1 rfl (lv_room (Nat.le_of_ble_eq_true rfl)) dL_law_1136 ⟨(show cells + 0 ≤ 600128 by omega), (show slots + 0 ≤ 7301097 by omega)⟩) hS (fun q _ h => hFc q h) hFc (fun r6 u6 t H locs ht hvm hw6 hB hz1 hk1 hS => ?_)
  obtain ⟨wa, ta, h6, e6, gP, gK, gD⟩ := hB
  rw [ht] at gP
  obtain ⟨hP, hD⟩ := joinA hP hD hk1 hFc gP gD
  have hK := va_K.app (kA_l hK) (va_K.moved hvm.symm gK)
  refine lv_pop2_2 hx hb dL_law_1139 rfl ?_
  refine lv_aload_n hx hb dL_law_1140 rfl (lv_at hl 2 rfl) ?_
  refine lv_aload_n hx hb dL_law_1141 rfl (lv_at hl 4 rfl) ?_
  refine lv_iload hx hb dL_law_1142 (lv_at hl 0 rfl) ?_
  refine lv_iconst (v := 1) hx hb dL_law_1144 (by decide) ?_
  refine lv_iadd hx hb dL_law_1145 ?_
  refine lv_topi (fun y6 ey6 => ?_)
  obtain rfl : y6 = nI (i + 1) := ey6.trans (nI_add i 1)
  refine va_sld hx hb hX hbl hbA hS (vp_in_nI (show i + 1 < L by omega) (by omega)) dL_law_1146 ?_
  refine lv_topi (fun v7 ev7 => ?_)
  obtain rfl : v2 = v7 := ev2.trans ev7.symm
  refine lv_aload_n hx hb dL_law_1147 rfl (lv_at hl 4 rfl) ?_
  refine lv_iload hx hb dL_law_1148 (lv_at hl 0 rfl) ?_
  refine lv_iconst (v := 2) hx hb dL_law_1150 (by decide) ?_
  refine lv_iadd hx hb dL_law_1151 ?_
  refine lv_topi (fun y8 ey8 => ?_)
  obtain rfl : y8 = nI (i + 2) := ey8.trans (nI_add i 2)
  refine va_sld hx hb hX hbl hbA hS (vp_in_nI (show i + 2 < L by omega) (by omega)) dL_law_1152 ?_
  refine lv_topi (fun v9 ev9 => ?_)
  obtain rfl : v4 = v9 := ev4.trans ev9.symm
  refine vz_jeqb hx hb dL_law_1153 dL_law_1156 dL_law_1157 dL_law_1160 (fun b10 hb10 => ?_)
  obtain rfl : b5 = b10 := hb5.trans hb10.symm
  have hP := pA_rot hP
  have hD := dA_rot hD
  have hK := kA_rot hK
  have hPc := pA_r hP
  have hDc := dA_r hD
  have hKc := kA_r hK
  have hFc := freeA hDc hS hA
  refine va_calll (va_runV (As := [.int v2, .int b5]) (rest := []) ⟨hx, hb, hml, hown, hts⟩ (m_night l dC dI _ v2 b5 h7) (cwV 2 hts (wd_V wd_1096 wd_1097 wd_1098 wd_5 (wd_c wd_1099)) rfl rfl rfl (by decide +kernel) ⟨Nat.le_of_ble_eq_true rfl, Nat.le_of_ble_eq_true rfl⟩) ⟨Pw.fb, MW.recv hKc hPc h7, fun U hU hW => Pw.to hPc hDc hKc hE hS hFc hU hW⟩ rfl rfl hl.1 rfl (lv_room (Nat.le_of_ble_eq_true rfl)) dL_law_1161 ⟨(show cells + 0 ≤ 600128 by omega), (show slots + 0 ≤ 7301097 by omega)⟩) hS (fun q _ h => hFc q h) hFc (fun r7 u7 t H locs ht hvm hw7 hB hz1 hk1 hS => ?_)
  obtain ⟨wb, tb, z7_iM_night, h7, e7, gP, gK, gD⟩ := hB
  rw [ht] at gP
  obtain ⟨hP, hD⟩ := joinA hP hD hk1 hFc gP gD
  have hK := va_K.app (kA_l hK) (va_K.moved hvm.symm gK)
  have hP := pA_rot hP
  have hD := dA_rot hD
  have hK := kA_rot hK
  refine lv_pop2_2 hx hb dL_law_1164 rfl ?_
  refine lv_goto (tgt := 1827) hx hb dL_law_1165 (by decide) ?_
  refine W.widen (k := cells + 1) (n := slots + 6) (by omega) (by omega) ?_
  exact kk _ _ _ (LwS.in9 t0 T0 U0 y0 f0 iC_nodes iC_words iC_unsures iC_slips iC_throneNode iC_saidWorth fC_kind fC_parts fC_partNodes fC_weights fC_toldWorths fC_unsureWords fC_unsureWorths fS_worths fS_order iK_imageCount fI0_worths fI0_order fI1_worths fI1_order fI2_worths fI2_order iA_count fA_nodes fA_olds fA_says iC_unit fC_weightSums fC_steps fC_below fC_above iM_hasCourt fM_r fM_told fM_st fM_undone fM_kept iM_undos iM_images iM_scale z7_iM_night wa wb ta tb kO _ q1 q2 q3 hR hCIS hSc hT h6 h7 hP hD hK) hS hl
set_option maxHeartbeats 4000000 in
set_option maxRecDepth 100000 in
theorem law_c32 {p : Program} {l : Launch} {e : Env} {s : State} {m : MethodId} {below : List Frame} {meth : Method} {c : Code} {b L : Nat} {xs : Nat → Int32} (C0 : lw_At p s m meth c b L xs) (hL : L ≤ 384) {A : Nat → Prop} (hA : ∀ q, s.heap.size ≤ q → A q) (hAs : ∀ q, A q → s.heap.size ≤ q) (hE : Ev A s s.heap) (hX9 : Ex A s s.heap) (hl8 : l.stackTraces = false) {dC : Nat → ClassId} {dI : Nat → Nat → Nat} {oK oM oO : Nat} {i cells slots : Nat} (hi : i + 6 ≤ L) (hc : cells + 1 ≤ 600128) (hs : slots + 6 ≤ 7301097) {H : Heap} {locs : List Loc} {ls : Array Slot} (hI : LwS dC dI A s H oK oM oO) (hS : va_S A s.heap H locs) (hl : lv_has ls 7 [(4, .int (nI i)), (3, .ref oO), (2, .ref oM), (1, .ref oK), (0, .ref b)]) (kk : ∀ (H : Heap) (locs : List Loc) (ls : Array Slot), LwS dC dI A s H oK oM oO → va_S A s.heap H locs → lv_has ls 7 [(4, .int (nI i)), (3, .ref oO), (2, .ref oM), (1, .ref oK), (0, .ref b)] → W p l e room_1 s m #[Value.ref b] below meth c H locs (cells + 1) (slots + 6) (lw_Z below #[Value.ref b] s) (F0 m 1827 ls [])) : W p l e room_1 s m #[Value.ref b] below meth c H locs (cells) (slots) (lw_Z below #[Value.ref b] s) (F0 m 1168 ls []) := by
  obtain ⟨hx, hb, hr, hml, hown, hts0, hX, hbl, hlocks, hgv⟩ := id C0
  have hts : ∀ w ∈ wG, w.before #[Value.ref b] s = true := fun w h => hts0 w (wG_in w h)
  have htsN : ∀ w ∈ wN, w.before #[Value.ref b] s = true := fun w h => hts0 w (wN_in w h)
  have hbA : ¬ A b := fun h => Nat.lt_irrefl _ (Nat.lt_of_lt_of_le hbl (hAs b h))
  refine LwS.elim hI (fun t0 T0 U0 y0 f0 iC_nodes iC_words iC_unsures iC_slips iC_throneNode iC_saidWorth fC_kind fC_parts fC_partNodes fC_weights fC_toldWorths fC_unsureWords fC_unsureWorths fS_worths fS_order iK_imageCount fI0_worths fI0_order fI1_worths fI1_order fI2_worths fI2_order iA_count fA_nodes fA_olds fA_says iC_unit fC_weightSums fC_steps fC_below fC_above iM_hasCourt fM_r fM_told fM_st fM_undone fM_kept iM_undos iM_images iM_scale iM_night wa wb ta tb kO fO q1 q2 q3 hR hCIS hSc hT h6 h7 hP hD hK => ?_)
  have hM0 := MW_R h7
  refine lv_aload_n hx hb dL_law_1168 rfl (lv_at hl 3 rfl) ?_
  have hPc := pA_r hP
  have hDc := dA_r hD
  have hKc := kA_r hK
  have hFc := freeA hDc hS hA
  refine va_calli (va_runV (As := []) (rest := []) ⟨hx, hb, hml, hown, hts⟩ (k_settles l dC dI _  h6) (cwV 0 hts (wd_V wd_1104 wd_1105 wd_1106 wd_2 (wd_c wd_1107)) rfl rfl rfl (by decide +kernel) ⟨Nat.le_of_ble_eq_true rfl, Nat.le_of_ble_eq_true rfl⟩) ⟨Pw.fb, KW.recv hKc hPc h6, fun U hU hW => Pw.to hPc hDc hKc hE hS hFc hU hW⟩ rfl rfl hl.1 rfl (lv_room (Nat.le_of_ble_eq_true rfl)) dL_law_1169 ⟨(show cells + 0 ≤ 600128 by omega), (show slots + 0 ≤ 7301097 by omega)⟩) hS (fun q _ h => hFc q h) hFc (fun r6 u6 t H locs ht hvm hw6 hB hz1 hk1 hS => ?_)
  obtain ⟨wa, ta, h6, e6, gP, gK, gD⟩ := hB
  rw [ht] at gP
  obtain ⟨hP, hD⟩ := joinA hP hD hk1 hFc gP gD
  have hK := va_K.app (kA_l hK) (va_K.moved hvm.symm gK)
  refine lv_pop hx hb dL_law_1172 rfl ?_
  refine lv_aload_n hx hb dL_law_1173 rfl (lv_at hl 2 rfl) ?_
  have hP := pA_rot hP
  have hD := dA_rot hD
  have hK := kA_rot hK
  have hPc := pA_r hP
  have hDc := dA_r hD
  have hKc := kA_r hK
  have hFc := freeA hDc hS hA
  refine va_calli (va_runV (As := []) (rest := []) ⟨hx, hb, hml, hown, hts⟩ (m_settles l dC dI _  h7) (cwV 0 hts (wd_V wd_1108 wd_1109 wd_1110 wd_5 (wd_c wd_1111)) rfl rfl rfl (by decide +kernel) ⟨Nat.le_of_ble_eq_true rfl, Nat.le_of_ble_eq_true rfl⟩) ⟨Pw.fb, MW.recv hKc hPc h7, fun U hU hW => Pw.to hPc hDc hKc hE hS hFc hU hW⟩ rfl rfl hl.1 rfl (lv_room (Nat.le_of_ble_eq_true rfl)) dL_law_1174 ⟨(show cells + 0 ≤ 600128 by omega), (show slots + 0 ≤ 7301097 by omega)⟩) hS (fun q _ h => hFc q h) hFc (fun r7 u7 t H locs ht hvm hw7 hB hz1 hk1 hS => ?_)
  obtain ⟨wb, tb, z7_iM_night, h7, e7, gP, gK, gD⟩ := hB
  rw [ht] at gP
  obtain ⟨hP, hD⟩ := joinA hP hD hk1 hFc gP gD
  have hK := va_K.app (kA_l hK) (va_K.moved hvm.symm gK)
  have hP := pA_rot hP
  have hD := dA_rot hD
  have hK := kA_rot hK
  refine lv_pop hx hb dL_law_1177 rfl ?_
  refine lv_goto (tgt := 1827) hx hb dL_law_1178 (by decide) ?_
  refine W.widen (k := cells + 1) (n := slots + 6) (by omega) (by omega) ?_
  exact kk _ _ _ (LwS.in9 t0 T0 U0 y0 f0 iC_nodes iC_words iC_unsures iC_slips iC_throneNode iC_saidWorth fC_kind fC_parts fC_partNodes fC_weights fC_toldWorths fC_unsureWords fC_unsureWorths fS_worths fS_order iK_imageCount fI0_worths fI0_order fI1_worths fI1_order fI2_worths fI2_order iA_count fA_nodes fA_olds fA_says iC_unit fC_weightSums fC_steps fC_below fC_above iM_hasCourt fM_r fM_told fM_st fM_undone fM_kept iM_undos iM_images iM_scale z7_iM_night wa wb ta tb kO _ q1 q2 q3 hR hCIS hSc hT h6 h7 hP hD hK) hS hl
set_option maxHeartbeats 4000000 in
set_option maxRecDepth 100000 in
theorem law_c33 {p : Program} {l : Launch} {e : Env} {s : State} {m : MethodId} {below : List Frame} {meth : Method} {c : Code} {b L : Nat} {xs : Nat → Int32} (C0 : lw_At p s m meth c b L xs) (hL : L ≤ 384) {A : Nat → Prop} (hA : ∀ q, s.heap.size ≤ q → A q) (hAs : ∀ q, A q → s.heap.size ≤ q) (hE : Ev A s s.heap) (hX9 : Ex A s s.heap) (hl8 : l.stackTraces = false) {dC : Nat → ClassId} {dI : Nat → Nat → Nat} {oK oM oO : Nat} {i cells slots : Nat} (hi : i + 6 ≤ L) (hc : cells + 1 ≤ 600128) (hs : slots + 6 ≤ 7301097) {H : Heap} {locs : List Loc} {ls : Array Slot} (hI : LwS dC dI A s H oK oM oO) (hS : va_S A s.heap H locs) (hl : lv_has ls 7 [(4, .int (nI i)), (3, .ref oO), (2, .ref oM), (1, .ref oK), (0, .ref b)]) (kk : ∀ (H : Heap) (locs : List Loc) (ls : Array Slot), LwS dC dI A s H oK oM oO → va_S A s.heap H locs → lv_has ls 7 [(4, .int (nI i)), (3, .ref oO), (2, .ref oM), (1, .ref oK), (0, .ref b)] → W p l e room_1 s m #[Value.ref b] below meth c H locs (cells + 1) (slots + 6) (lw_Z below #[Value.ref b] s) (F0 m 1827 ls [])) : W p l e room_1 s m #[Value.ref b] below meth c H locs (cells) (slots) (lw_Z below #[Value.ref b] s) (F0 m 1181 ls []) := by
  obtain ⟨hx, hb, hr, hml, hown, hts0, hX, hbl, hlocks, hgv⟩ := id C0
  have hts : ∀ w ∈ wG, w.before #[Value.ref b] s = true := fun w h => hts0 w (wG_in w h)
  have htsN : ∀ w ∈ wN, w.before #[Value.ref b] s = true := fun w h => hts0 w (wN_in w h)
  have hbA : ¬ A b := fun h => Nat.lt_irrefl _ (Nat.lt_of_lt_of_le hbl (hAs b h))
  refine LwS.elim hI (fun t0 T0 U0 y0 f0 iC_nodes iC_words iC_unsures iC_slips iC_throneNode iC_saidWorth fC_kind fC_parts fC_partNodes fC_weights fC_toldWorths fC_unsureWords fC_unsureWorths fS_worths fS_order iK_imageCount fI0_worths fI0_order fI1_worths fI1_order fI2_worths fI2_order iA_count fA_nodes fA_olds fA_says iC_unit fC_weightSums fC_steps fC_below fC_above iM_hasCourt fM_r fM_told fM_st fM_undone fM_kept iM_undos iM_images iM_scale iM_night wa wb ta tb kO fO q1 q2 q3 hR hCIS hSc hT h6 h7 hP hD hK => ?_)
  have hM0 := MW_R h7
  refine lv_aload_n hx hb dL_law_1181 rfl (lv_at hl 3 rfl) ?_
  refine lv_aload_n hx hb dL_law_1182 rfl (lv_at hl 4 rfl) ?_
  refine lv_iload hx hb dL_law_1183 (lv_at hl 0 rfl) ?_
  refine lv_iconst (v := 1) hx hb dL_law_1185 (by decide) ?_
  refine lv_iadd hx hb dL_law_1186 ?_
  refine lv_topi (fun y1 ey1 => ?_)
  obtain rfl : y1 = nI (i + 1) := ey1.trans (nI_add i 1)
  refine va_sld hx hb hX hbl hbA hS (vp_in_nI (show i + 1 < L by omega) (by omega)) dL_law_1187 ?_
  refine lv_topi (fun v2 ev2 => ?_)
  have hPc := pA_r hP
  have hDc := dA_r hD
  have hKc := kA_r hK
  have hFc := freeA hDc hS hA
  refine va_calli (va_runV (As := [.int v2]) (rest := []) ⟨hx, hb, hml, hown, hts⟩ (k_turn l dC dI _ v2 h6) (cwV 1 hts (wd_V wd_1112 wd_1113 wd_1114 wd_2 (wd_c wd_1115)) rfl rfl rfl (by decide +kernel) ⟨Nat.le_of_ble_eq_true rfl, Nat.le_of_ble_eq_true rfl⟩) ⟨Pw.fb, KW.recv hKc hPc h6, fun U hU hW => Pw.to hPc hDc hKc hE hS hFc hU hW⟩ rfl rfl hl.1 rfl (lv_room (Nat.le_of_ble_eq_true rfl)) dL_law_1188 ⟨(show cells + 0 ≤ 600128 by omega), (show slots + 0 ≤ 7301097 by omega)⟩) hS (fun q _ h => hFc q h) hFc (fun r6 u6 t H locs ht hvm hw6 hB hz1 hk1 hS => ?_)
  obtain ⟨wa, ta, h6, e6, gP, gK, gD⟩ := hB
  rw [ht] at gP
  obtain ⟨hP, hD⟩ := joinA hP hD hk1 hFc gP gD
  have hK := va_K.app (kA_l hK) (va_K.moved hvm.symm gK)
  refine lv_pop hx hb dL_law_1191 rfl ?_
  refine lv_aload_n hx hb dL_law_1192 rfl (lv_at hl 2 rfl) ?_
  refine lv_aload_n hx hb dL_law_1193 rfl (lv_at hl 4 rfl) ?_
  refine lv_iload hx hb dL_law_1194 (lv_at hl 0 rfl) ?_
  refine lv_iconst (v := 1) hx hb dL_law_1196 (by decide) ?_
  refine lv_iadd hx hb dL_law_1197 ?_
  refine lv_topi (fun y3 ey3 => ?_)
  obtain rfl : y3 = nI (i + 1) := ey3.trans (nI_add i 1)
  refine va_sld hx hb hX hbl hbA hS (vp_in_nI (show i + 1 < L by omega) (by omega)) dL_law_1198 ?_
  refine lv_topi (fun v4 ev4 => ?_)
  obtain rfl : v2 = v4 := ev2.trans ev4.symm
  have hP := pA_rot hP
  have hD := dA_rot hD
  have hK := kA_rot hK
  have hPc := pA_r hP
  have hDc := dA_r hD
  have hKc := kA_r hK
  have hFc := freeA hDc hS hA
  refine va_calli (va_runV (As := [.int v2]) (rest := []) ⟨hx, hb, hml, hown, hts⟩ (m_turn l dC dI _ v2 h7) (cwV 1 hts (wd_V wd_1135 wd_1136 wd_1137 wd_5 (wd_c wd_1138)) rfl rfl rfl (by decide +kernel) ⟨Nat.le_of_ble_eq_true rfl, Nat.le_of_ble_eq_true rfl⟩) ⟨Pw.fb, MW.recv hKc hPc h7, fun U hU hW => Pw.to hPc hDc hKc hE hS hFc hU hW⟩ rfl rfl hl.1 rfl (lv_room (Nat.le_of_ble_eq_true rfl)) dL_law_1199 ⟨(show cells + 0 ≤ 600128 by omega), (show slots + 0 ≤ 7301097 by omega)⟩) hS (fun q _ h => hFc q h) hFc (fun r7 u7 t H locs ht hvm hw7 hB hz1 hk1 hS => ?_)
  obtain ⟨wb, tb, h7, e7, gP, gK, gD⟩ := hB
  rw [ht] at gP
  obtain ⟨hP, hD⟩ := joinA hP hD hk1 hFc gP gD
  have hK := va_K.app (kA_l hK) (va_K.moved hvm.symm gK)
  have hP := pA_rot hP
  have hD := dA_rot hD
  have hK := kA_rot hK
  refine lv_pop hx hb dL_law_1202 rfl ?_
  refine lv_goto (tgt := 1827) hx hb dL_law_1203 (by decide) ?_
  refine W.widen (k := cells + 1) (n := slots + 6) (by omega) (by omega) ?_
  exact kk _ _ _ (LwS.in9 t0 T0 U0 y0 f0 iC_nodes iC_words iC_unsures iC_slips iC_throneNode iC_saidWorth fC_kind fC_parts fC_partNodes fC_weights fC_toldWorths fC_unsureWords fC_unsureWorths fS_worths fS_order iK_imageCount fI0_worths fI0_order fI1_worths fI1_order fI2_worths fI2_order iA_count fA_nodes fA_olds fA_says iC_unit fC_weightSums fC_steps fC_below fC_above iM_hasCourt fM_r fM_told fM_st fM_undone fM_kept iM_undos iM_images iM_scale iM_night wa wb ta tb kO _ q1 q2 q3 hR hCIS hSc hT h6 h7 hP hD hK) hS hl
set_option maxHeartbeats 4000000 in
set_option maxRecDepth 100000 in
theorem law_c34 {p : Program} {l : Launch} {e : Env} {s : State} {m : MethodId} {below : List Frame} {meth : Method} {c : Code} {b L : Nat} {xs : Nat → Int32} (C0 : lw_At p s m meth c b L xs) (hL : L ≤ 384) {A : Nat → Prop} (hA : ∀ q, s.heap.size ≤ q → A q) (hAs : ∀ q, A q → s.heap.size ≤ q) (hE : Ev A s s.heap) (hX9 : Ex A s s.heap) (hl8 : l.stackTraces = false) {dC : Nat → ClassId} {dI : Nat → Nat → Nat} {oK oM oO : Nat} {i cells slots : Nat} (hi : i + 6 ≤ L) (hc : cells + 1 ≤ 600128) (hs : slots + 6 ≤ 7301097) {H : Heap} {locs : List Loc} {ls : Array Slot} (hI : LwS dC dI A s H oK oM oO) (hS : va_S A s.heap H locs) (hl : lv_has ls 7 [(4, .int (nI i)), (3, .ref oO), (2, .ref oM), (1, .ref oK), (0, .ref b)]) (kk : ∀ (H : Heap) (locs : List Loc) (ls : Array Slot), LwS dC dI A s H oK oM oO → va_S A s.heap H locs → lv_has ls 7 [(4, .int (nI i)), (3, .ref oO), (2, .ref oM), (1, .ref oK), (0, .ref b)] → W p l e room_1 s m #[Value.ref b] below meth c H locs (cells + 1) (slots + 6) (lw_Z below #[Value.ref b] s) (F0 m 1827 ls [])) : W p l e room_1 s m #[Value.ref b] below meth c H locs (cells) (slots) (lw_Z below #[Value.ref b] s) (F0 m 1206 ls []) := by
  obtain ⟨hx, hb, hr, hml, hown, hts0, hX, hbl, hlocks, hgv⟩ := id C0
  have hts : ∀ w ∈ wG, w.before #[Value.ref b] s = true := fun w h => hts0 w (wG_in w h)
  have htsN : ∀ w ∈ wN, w.before #[Value.ref b] s = true := fun w h => hts0 w (wN_in w h)
  have hbA : ¬ A b := fun h => Nat.lt_irrefl _ (Nat.lt_of_lt_of_le hbl (hAs b h))
  refine LwS.elim hI (fun t0 T0 U0 y0 f0 iC_nodes iC_words iC_unsures iC_slips iC_throneNode iC_saidWorth fC_kind fC_parts fC_partNodes fC_weights fC_toldWorths fC_unsureWords fC_unsureWorths fS_worths fS_order iK_imageCount fI0_worths fI0_order fI1_worths fI1_order fI2_worths fI2_order iA_count fA_nodes fA_olds fA_says iC_unit fC_weightSums fC_steps fC_below fC_above iM_hasCourt fM_r fM_told fM_st fM_undone fM_kept iM_undos iM_images iM_scale iM_night wa wb ta tb kO fO q1 q2 q3 hR hCIS hSc hT h6 h7 hP hD hK => ?_)
  have hM0 := MW_R h7
  refine lv_aload_n hx hb dL_law_1206 rfl (lv_at hl 3 rfl) ?_
  have hPc := pA_r hP
  have hDc := dA_r hD
  have hKc := kA_r hK
  have hFc := freeA hDc hS hA
  refine va_calli (va_runV (As := []) (rest := []) ⟨hx, hb, hml, hown, hts⟩ (k_pivot l dC dI _  h6) (cwV 0 hts (wd_V wd_1147 wd_1148 wd_1149 wd_2 (wd_c wd_1150)) rfl rfl rfl (by decide +kernel) ⟨Nat.le_of_ble_eq_true rfl, Nat.le_of_ble_eq_true rfl⟩) ⟨Pw.fb, KW.recv hKc hPc h6, fun U hU hW => Pw.to hPc hDc hKc hE hS hFc hU hW⟩ rfl rfl hl.1 rfl (lv_room (Nat.le_of_ble_eq_true rfl)) dL_law_1207 ⟨(show cells + 0 ≤ 600128 by omega), (show slots + 0 ≤ 7301097 by omega)⟩) hS (fun q _ h => hFc q h) hFc (fun r6 u6 t H locs ht hvm hw6 hB hz1 hk1 hS => ?_)
  obtain ⟨wa, ta, h6, e6, gP, gK, gD⟩ := hB
  rw [ht] at gP
  obtain ⟨hP, hD⟩ := joinA hP hD hk1 hFc gP gD
  have hK := va_K.app (kA_l hK) (va_K.moved hvm.symm gK)
  refine lv_pop hx hb dL_law_1210 rfl ?_
  refine lv_aload_n hx hb dL_law_1211 rfl (lv_at hl 2 rfl) ?_
  have hP := pA_rot hP
  have hD := dA_rot hD
  have hK := kA_rot hK
  have hPc := pA_r hP
  have hDc := dA_r hD
  have hKc := kA_r hK
  have hFc := freeA hDc hS hA
  refine va_calli (va_runV (As := []) (rest := []) ⟨hx, hb, hml, hown, hts⟩ (m_pivot l dC dI _  h7) (cwV 0 hts (wd_V wd_1151 wd_1152 wd_1153 wd_5 (wd_c wd_1154)) rfl rfl rfl (by decide +kernel) ⟨Nat.le_of_ble_eq_true rfl, Nat.le_of_ble_eq_true rfl⟩) ⟨Pw.fb, MW.recv hKc hPc h7, fun U hU hW => Pw.to hPc hDc hKc hE hS hFc hU hW⟩ rfl rfl hl.1 rfl (lv_room (Nat.le_of_ble_eq_true rfl)) dL_law_1212 ⟨(show cells + 0 ≤ 600128 by omega), (show slots + 0 ≤ 7301097 by omega)⟩) hS (fun q _ h => hFc q h) hFc (fun r7 u7 t H locs ht hvm hw7 hB hz1 hk1 hS => ?_)
  obtain ⟨wb, tb, h7, e7, gP, gK, gD⟩ := hB
  rw [ht] at gP
  obtain ⟨hP, hD⟩ := joinA hP hD hk1 hFc gP gD
  have hK := va_K.app (kA_l hK) (va_K.moved hvm.symm gK)
  have hP := pA_rot hP
  have hD := dA_rot hD
  have hK := kA_rot hK
  refine lv_pop hx hb dL_law_1215 rfl ?_
  refine lv_goto (tgt := 1827) hx hb dL_law_1216 (by decide) ?_
  refine W.widen (k := cells + 1) (n := slots + 6) (by omega) (by omega) ?_
  exact kk _ _ _ (LwS.in9 t0 T0 U0 y0 f0 iC_nodes iC_words iC_unsures iC_slips iC_throneNode iC_saidWorth fC_kind fC_parts fC_partNodes fC_weights fC_toldWorths fC_unsureWords fC_unsureWorths fS_worths fS_order iK_imageCount fI0_worths fI0_order fI1_worths fI1_order fI2_worths fI2_order iA_count fA_nodes fA_olds fA_says iC_unit fC_weightSums fC_steps fC_below fC_above iM_hasCourt fM_r fM_told fM_st fM_undone fM_kept iM_undos iM_images iM_scale iM_night wa wb ta tb kO _ q1 q2 q3 hR hCIS hSc hT h6 h7 hP hD hK) hS hl
set_option maxHeartbeats 4000000 in
set_option maxRecDepth 100000 in
theorem law_c35 {p : Program} {l : Launch} {e : Env} {s : State} {m : MethodId} {below : List Frame} {meth : Method} {c : Code} {b L : Nat} {xs : Nat → Int32} (C0 : lw_At p s m meth c b L xs) (hL : L ≤ 384) {A : Nat → Prop} (hA : ∀ q, s.heap.size ≤ q → A q) (hAs : ∀ q, A q → s.heap.size ≤ q) (hE : Ev A s s.heap) (hX9 : Ex A s s.heap) (hl8 : l.stackTraces = false) {dC : Nat → ClassId} {dI : Nat → Nat → Nat} {oK oM oO : Nat} {i cells slots : Nat} (hi : i + 6 ≤ L) (hc : cells + 1 ≤ 600128) (hs : slots + 6 ≤ 7301097) {H : Heap} {locs : List Loc} {ls : Array Slot} (hI : LwS dC dI A s H oK oM oO) (hS : va_S A s.heap H locs) (hl : lv_has ls 7 [(4, .int (nI i)), (3, .ref oO), (2, .ref oM), (1, .ref oK), (0, .ref b)]) (kk : ∀ (H : Heap) (locs : List Loc) (ls : Array Slot), LwS dC dI A s H oK oM oO → va_S A s.heap H locs → lv_has ls 7 [(4, .int (nI i)), (3, .ref oO), (2, .ref oM), (1, .ref oK), (0, .ref b)] → W p l e room_1 s m #[Value.ref b] below meth c H locs (cells + 1) (slots + 6) (lw_Z below #[Value.ref b] s) (F0 m 1827 ls [])) : W p l e room_1 s m #[Value.ref b] below meth c H locs (cells) (slots) (lw_Z below #[Value.ref b] s) (F0 m 1219 ls []) := by
  obtain ⟨hx, hb, hr, hml, hown, hts0, hX, hbl, hlocks, hgv⟩ := id C0
  have hts : ∀ w ∈ wG, w.before #[Value.ref b] s = true := fun w h => hts0 w (wG_in w h)
  have htsN : ∀ w ∈ wN, w.before #[Value.ref b] s = true := fun w h => hts0 w (wN_in w h)
  have hbA : ¬ A b := fun h => Nat.lt_irrefl _ (Nat.lt_of_lt_of_le hbl (hAs b h))
  refine LwS.elim hI (fun t0 T0 U0 y0 f0 iC_nodes iC_words iC_unsures iC_slips iC_throneNode iC_saidWorth fC_kind fC_parts fC_partNodes fC_weights fC_toldWorths fC_unsureWords fC_unsureWorths fS_worths fS_order iK_imageCount fI0_worths fI0_order fI1_worths fI1_order fI2_worths fI2_order iA_count fA_nodes fA_olds fA_says iC_unit fC_weightSums fC_steps fC_below fC_above iM_hasCourt fM_r fM_told fM_st fM_undone fM_kept iM_undos iM_images iM_scale iM_night wa wb ta tb kO fO q1 q2 q3 hR hCIS hSc hT h6 h7 hP hD hK => ?_)
  have hM0 := MW_R h7
  refine lv_aload_n hx hb dL_law_1219 rfl (lv_at hl 3 rfl) ?_
  have hPc := pA_r hP
  have hDc := dA_r hD
  have hKc := kA_r hK
  have hFc := freeA hDc hS hA
  refine va_calli (va_runV (As := []) (rest := []) ⟨hx, hb, hml, hown, hts⟩ (k_fits l dC dI _  h6) (cwV 0 hts (wd_V wd_1155 wd_1156 wd_1157 wd_2 (wd_c wd_1158)) rfl rfl rfl (by decide +kernel) ⟨Nat.le_of_ble_eq_true rfl, Nat.le_of_ble_eq_true rfl⟩) ⟨Pw.fb, KW.recv hKc hPc h6, fun U hU hW => Pw.to hPc hDc hKc hE hS hFc hU hW⟩ rfl rfl hl.1 rfl (lv_room (Nat.le_of_ble_eq_true rfl)) dL_law_1220 ⟨(show cells + 0 ≤ 600128 by omega), (show slots + 0 ≤ 7301097 by omega)⟩) hS (fun q _ h => hFc q h) hFc (fun r6 u6 t H locs ht hvm hw6 hB hz1 hk1 hS => ?_)
  obtain ⟨wa, ta, h6, e6, gP, gK, gD⟩ := hB
  rw [ht] at gP
  obtain ⟨hP, hD⟩ := joinA hP hD hk1 hFc gP gD
  have hK := va_K.app (kA_l hK) (va_K.moved hvm.symm gK)
  refine lv_pop hx hb dL_law_1223 rfl ?_
  refine lv_aload_n hx hb dL_law_1224 rfl (lv_at hl 2 rfl) ?_
  have hP := pA_rot hP
  have hD := dA_rot hD
  have hK := kA_rot hK
  have hPc := pA_r hP
  have hDc := dA_r hD
  have hKc := kA_r hK
  have hFc := freeA hDc hS hA
  refine va_calli (va_runV (As := []) (rest := []) ⟨hx, hb, hml, hown, hts⟩ (m_fits l dC dI _  h7) (cwV 0 hts (wd_V wd_1177 wd_1178 wd_1179 wd_5 (wd_c wd_1180)) rfl rfl rfl (by decide +kernel) ⟨Nat.le_of_ble_eq_true rfl, Nat.le_of_ble_eq_true rfl⟩) ⟨Pw.fb, MW.recv hKc hPc h7, fun U hU hW => Pw.to hPc hDc hKc hE hS hFc hU hW⟩ rfl rfl hl.1 rfl (lv_room (Nat.le_of_ble_eq_true rfl)) dL_law_1225 ⟨(show cells + 0 ≤ 600128 by omega), (show slots + 0 ≤ 7301097 by omega)⟩) hS (fun q _ h => hFc q h) hFc (fun r7 u7 t H locs ht hvm hw7 hB hz1 hk1 hS => ?_)
  obtain ⟨wb, tb, h7, e7, gP, gK, gD⟩ := hB
  rw [ht] at gP
  obtain ⟨hP, hD⟩ := joinA hP hD hk1 hFc gP gD
  have hK := va_K.app (kA_l hK) (va_K.moved hvm.symm gK)
  have hP := pA_rot hP
  have hD := dA_rot hD
  have hK := kA_rot hK
  refine lv_pop hx hb dL_law_1228 rfl ?_
  refine lv_goto (tgt := 1827) hx hb dL_law_1229 (by decide) ?_
  refine W.widen (k := cells + 1) (n := slots + 6) (by omega) (by omega) ?_
  exact kk _ _ _ (LwS.in9 t0 T0 U0 y0 f0 iC_nodes iC_words iC_unsures iC_slips iC_throneNode iC_saidWorth fC_kind fC_parts fC_partNodes fC_weights fC_toldWorths fC_unsureWords fC_unsureWorths fS_worths fS_order iK_imageCount fI0_worths fI0_order fI1_worths fI1_order fI2_worths fI2_order iA_count fA_nodes fA_olds fA_says iC_unit fC_weightSums fC_steps fC_below fC_above iM_hasCourt fM_r fM_told fM_st fM_undone fM_kept iM_undos iM_images iM_scale iM_night wa wb ta tb kO _ q1 q2 q3 hR hCIS hSc hT h6 h7 hP hD hK) hS hl
set_option maxHeartbeats 4000000 in
set_option maxRecDepth 100000 in
theorem law_c36 {p : Program} {l : Launch} {e : Env} {s : State} {m : MethodId} {below : List Frame} {meth : Method} {c : Code} {b L : Nat} {xs : Nat → Int32} (C0 : lw_At p s m meth c b L xs) (hL : L ≤ 384) {A : Nat → Prop} (hA : ∀ q, s.heap.size ≤ q → A q) (hAs : ∀ q, A q → s.heap.size ≤ q) (hE : Ev A s s.heap) (hX9 : Ex A s s.heap) (hl8 : l.stackTraces = false) {dC : Nat → ClassId} {dI : Nat → Nat → Nat} {oK oM oO : Nat} {i cells slots : Nat} (hi : i + 6 ≤ L) (hc : cells + 1 ≤ 600128) (hs : slots + 6 ≤ 7301097) {H : Heap} {locs : List Loc} {ls : Array Slot} (hI : LwS dC dI A s H oK oM oO) (hS : va_S A s.heap H locs) (hl : lv_has ls 7 [(4, .int (nI i)), (3, .ref oO), (2, .ref oM), (1, .ref oK), (0, .ref b)]) (kk : ∀ (H : Heap) (locs : List Loc) (ls : Array Slot), LwS dC dI A s H oK oM oO → va_S A s.heap H locs → lv_has ls 7 [(4, .int (nI i)), (3, .ref oO), (2, .ref oM), (1, .ref oK), (0, .ref b)] → W p l e room_1 s m #[Value.ref b] below meth c H locs (cells + 1) (slots + 6) (lw_Z below #[Value.ref b] s) (F0 m 1827 ls [])) : W p l e room_1 s m #[Value.ref b] below meth c H locs (cells) (slots) (lw_Z below #[Value.ref b] s) (F0 m 1232 ls []) := by
  obtain ⟨hx, hb, hr, hml, hown, hts0, hX, hbl, hlocks, hgv⟩ := id C0
  have hts : ∀ w ∈ wG, w.before #[Value.ref b] s = true := fun w h => hts0 w (wG_in w h)
  have htsN : ∀ w ∈ wN, w.before #[Value.ref b] s = true := fun w h => hts0 w (wN_in w h)
  have hbA : ¬ A b := fun h => Nat.lt_irrefl _ (Nat.lt_of_lt_of_le hbl (hAs b h))
  refine LwS.elim hI (fun t0 T0 U0 y0 f0 iC_nodes iC_words iC_unsures iC_slips iC_throneNode iC_saidWorth fC_kind fC_parts fC_partNodes fC_weights fC_toldWorths fC_unsureWords fC_unsureWorths fS_worths fS_order iK_imageCount fI0_worths fI0_order fI1_worths fI1_order fI2_worths fI2_order iA_count fA_nodes fA_olds fA_says iC_unit fC_weightSums fC_steps fC_below fC_above iM_hasCourt fM_r fM_told fM_st fM_undone fM_kept iM_undos iM_images iM_scale iM_night wa wb ta tb kO fO q1 q2 q3 hR hCIS hSc hT h6 h7 hP hD hK => ?_)
  have hM0 := MW_R h7
  refine lv_aload_n hx hb dL_law_1232 rfl (lv_at hl 3 rfl) ?_
  refine lv_aload_n hx hb dL_law_1233 rfl (lv_at hl 4 rfl) ?_
  refine lv_iload hx hb dL_law_1234 (lv_at hl 0 rfl) ?_
  refine lv_iconst (v := 1) hx hb dL_law_1236 (by decide) ?_
  refine lv_iadd hx hb dL_law_1237 ?_
  refine lv_topi (fun y1 ey1 => ?_)
  obtain rfl : y1 = nI (i + 1) := ey1.trans (nI_add i 1)
  refine va_sld hx hb hX hbl hbA hS (vp_in_nI (show i + 1 < L by omega) (by omega)) dL_law_1238 ?_
  refine lv_topi (fun v2 ev2 => ?_)
  have hPc := pA_r hP
  have hDc := dA_r hD
  have hKc := kA_r hK
  have hFc := freeA hDc hS hA
  refine va_calli (va_runV (As := [.int v2]) (rest := []) ⟨hx, hb, hml, hown, hts⟩ (k_fitAt l dC dI _ v2 h6) (cwV 1 hts (wd_V wd_1196 wd_1197 wd_1198 wd_2 (wd_c wd_1199)) rfl rfl rfl (by decide +kernel) ⟨Nat.le_of_ble_eq_true rfl, Nat.le_of_ble_eq_true rfl⟩) ⟨Pw.fb, KW.recv hKc hPc h6, fun U hU hW => Pw.to hPc hDc hKc hE hS hFc hU hW⟩ rfl rfl hl.1 rfl (lv_room (Nat.le_of_ble_eq_true rfl)) dL_law_1239 ⟨(show cells + 0 ≤ 600128 by omega), (show slots + 0 ≤ 7301097 by omega)⟩) hS (fun q _ h => hFc q h) hFc (fun r6 u6 t H locs ht hvm hw6 hB hz1 hk1 hS => ?_)
  obtain ⟨wa, ta, h6, e6, gP, gK, gD⟩ := hB
  rw [ht] at gP
  obtain ⟨hP, hD⟩ := joinA hP hD hk1 hFc gP gD
  have hK := va_K.app (kA_l hK) (va_K.moved hvm.symm gK)
  refine lv_pop hx hb dL_law_1242 rfl ?_
  refine lv_aload_n hx hb dL_law_1243 rfl (lv_at hl 2 rfl) ?_
  refine lv_aload_n hx hb dL_law_1244 rfl (lv_at hl 4 rfl) ?_
  refine lv_iload hx hb dL_law_1245 (lv_at hl 0 rfl) ?_
  refine lv_iconst (v := 1) hx hb dL_law_1247 (by decide) ?_
  refine lv_iadd hx hb dL_law_1248 ?_
  refine lv_topi (fun y3 ey3 => ?_)
  obtain rfl : y3 = nI (i + 1) := ey3.trans (nI_add i 1)
  refine va_sld hx hb hX hbl hbA hS (vp_in_nI (show i + 1 < L by omega) (by omega)) dL_law_1249 ?_
  refine lv_topi (fun v4 ev4 => ?_)
  obtain rfl : v2 = v4 := ev2.trans ev4.symm
  have hP := pA_rot hP
  have hD := dA_rot hD
  have hK := kA_rot hK
  have hPc := pA_r hP
  have hDc := dA_r hD
  have hKc := kA_r hK
  have hFc := freeA hDc hS hA
  refine va_calli (va_runV (As := [.int v2]) (rest := []) ⟨hx, hb, hml, hown, hts⟩ (m_fitAt l dC dI _ v2 h7) (cwV 1 hts (wd_V wd_1200 wd_1201 wd_1202 wd_5 (wd_c wd_1203)) rfl rfl rfl (by decide +kernel) ⟨Nat.le_of_ble_eq_true rfl, Nat.le_of_ble_eq_true rfl⟩) ⟨Pw.fb, MW.recv hKc hPc h7, fun U hU hW => Pw.to hPc hDc hKc hE hS hFc hU hW⟩ rfl rfl hl.1 rfl (lv_room (Nat.le_of_ble_eq_true rfl)) dL_law_1250 ⟨(show cells + 0 ≤ 600128 by omega), (show slots + 0 ≤ 7301097 by omega)⟩) hS (fun q _ h => hFc q h) hFc (fun r7 u7 t H locs ht hvm hw7 hB hz1 hk1 hS => ?_)
  obtain ⟨wb, tb, h7, e7, gP, gK, gD⟩ := hB
  rw [ht] at gP
  obtain ⟨hP, hD⟩ := joinA hP hD hk1 hFc gP gD
  have hK := va_K.app (kA_l hK) (va_K.moved hvm.symm gK)
  have hP := pA_rot hP
  have hD := dA_rot hD
  have hK := kA_rot hK
  refine lv_pop hx hb dL_law_1253 rfl ?_
  refine lv_goto (tgt := 1827) hx hb dL_law_1254 (by decide) ?_
  refine W.widen (k := cells + 1) (n := slots + 6) (by omega) (by omega) ?_
  exact kk _ _ _ (LwS.in9 t0 T0 U0 y0 f0 iC_nodes iC_words iC_unsures iC_slips iC_throneNode iC_saidWorth fC_kind fC_parts fC_partNodes fC_weights fC_toldWorths fC_unsureWords fC_unsureWorths fS_worths fS_order iK_imageCount fI0_worths fI0_order fI1_worths fI1_order fI2_worths fI2_order iA_count fA_nodes fA_olds fA_says iC_unit fC_weightSums fC_steps fC_below fC_above iM_hasCourt fM_r fM_told fM_st fM_undone fM_kept iM_undos iM_images iM_scale iM_night wa wb ta tb kO _ q1 q2 q3 hR hCIS hSc hT h6 h7 hP hD hK) hS hl
set_option maxHeartbeats 4000000 in
set_option maxRecDepth 100000 in
theorem law_c37 {p : Program} {l : Launch} {e : Env} {s : State} {m : MethodId} {below : List Frame} {meth : Method} {c : Code} {b L : Nat} {xs : Nat → Int32} (C0 : lw_At p s m meth c b L xs) (hL : L ≤ 384) {A : Nat → Prop} (hA : ∀ q, s.heap.size ≤ q → A q) (hAs : ∀ q, A q → s.heap.size ≤ q) (hE : Ev A s s.heap) (hX9 : Ex A s s.heap) (hl8 : l.stackTraces = false) {dC : Nat → ClassId} {dI : Nat → Nat → Nat} {oK oM oO : Nat} {i cells slots : Nat} (hi : i + 6 ≤ L) (hc : cells + 1 ≤ 600128) (hs : slots + 6 ≤ 7301097) {H : Heap} {locs : List Loc} {ls : Array Slot} (hI : LwS dC dI A s H oK oM oO) (hS : va_S A s.heap H locs) (hl : lv_has ls 7 [(4, .int (nI i)), (3, .ref oO), (2, .ref oM), (1, .ref oK), (0, .ref b)]) (kk : ∀ (H : Heap) (locs : List Loc) (ls : Array Slot), LwS dC dI A s H oK oM oO → va_S A s.heap H locs → lv_has ls 7 [(4, .int (nI i)), (3, .ref oO), (2, .ref oM), (1, .ref oK), (0, .ref b)] → W p l e room_1 s m #[Value.ref b] below meth c H locs (cells + 1) (slots + 6) (lw_Z below #[Value.ref b] s) (F0 m 1827 ls [])) : W p l e room_1 s m #[Value.ref b] below meth c H locs (cells) (slots) (lw_Z below #[Value.ref b] s) (F0 m 1257 ls []) := by
  obtain ⟨hx, hb, hr, hml, hown, hts0, hX, hbl, hlocks, hgv⟩ := id C0
  have hts : ∀ w ∈ wG, w.before #[Value.ref b] s = true := fun w h => hts0 w (wG_in w h)
  have htsN : ∀ w ∈ wN, w.before #[Value.ref b] s = true := fun w h => hts0 w (wN_in w h)
  have hbA : ¬ A b := fun h => Nat.lt_irrefl _ (Nat.lt_of_lt_of_le hbl (hAs b h))
  refine LwS.elim hI (fun t0 T0 U0 y0 f0 iC_nodes iC_words iC_unsures iC_slips iC_throneNode iC_saidWorth fC_kind fC_parts fC_partNodes fC_weights fC_toldWorths fC_unsureWords fC_unsureWorths fS_worths fS_order iK_imageCount fI0_worths fI0_order fI1_worths fI1_order fI2_worths fI2_order iA_count fA_nodes fA_olds fA_says iC_unit fC_weightSums fC_steps fC_below fC_above iM_hasCourt fM_r fM_told fM_st fM_undone fM_kept iM_undos iM_images iM_scale iM_night wa wb ta tb kO fO q1 q2 q3 hR hCIS hSc hT h6 h7 hP hD hK => ?_)
  have hM0 := MW_R h7
  refine lv_aload_n hx hb dL_law_1257 rfl (lv_at hl 3 rfl) ?_
  have hPc := pA_r hP
  have hDc := dA_r hD
  have hKc := kA_r hK
  have hFc := freeA hDc hS hA
  refine va_calli (va_runV (As := []) (rest := []) ⟨hx, hb, hml, hown, hts⟩ (k_could l dC dI _  h6) (cwV 0 hts (wd_V wd_1204 wd_1205 wd_1206 wd_2 (wd_c wd_1207)) rfl rfl rfl (by decide +kernel) ⟨Nat.le_of_ble_eq_true rfl, Nat.le_of_ble_eq_true rfl⟩) ⟨Pw.fb, KW.recv hKc hPc h6, fun U hU hW => Pw.to hPc hDc hKc hE hS hFc hU hW⟩ rfl rfl hl.1 rfl (lv_room (Nat.le_of_ble_eq_true rfl)) dL_law_1258 ⟨(show cells + 0 ≤ 600128 by omega), (show slots + 0 ≤ 7301097 by omega)⟩) hS (fun q _ h => hFc q h) hFc (fun r6 u6 t H locs ht hvm hw6 hB hz1 hk1 hS => ?_)
  obtain ⟨wa, ta, h6, e6, gP, gK, gD⟩ := hB
  rw [ht] at gP
  obtain ⟨hP, hD⟩ := joinA hP hD hk1 hFc gP gD
  have hK := va_K.app (kA_l hK) (va_K.moved hvm.symm gK)
  refine lv_pop hx hb dL_law_1261 rfl ?_
  refine lv_aload_n hx hb dL_law_1262 rfl (lv_at hl 2 rfl) ?_
  have hP := pA_rot hP
  have hD := dA_rot hD
  have hK := kA_rot hK
  have hPc := pA_r hP
  have hDc := dA_r hD
  have hKc := kA_r hK
  have hFc := freeA hDc hS hA
  refine va_calli (va_runV (As := []) (rest := []) ⟨hx, hb, hml, hown, hts⟩ (m_could l dC dI _  h7) (cwV 0 hts (wd_V wd_1208 wd_1209 wd_1210 wd_5 (wd_c wd_1211)) rfl rfl rfl (by decide +kernel) ⟨Nat.le_of_ble_eq_true rfl, Nat.le_of_ble_eq_true rfl⟩) ⟨Pw.fb, MW.recv hKc hPc h7, fun U hU hW => Pw.to hPc hDc hKc hE hS hFc hU hW⟩ rfl rfl hl.1 rfl (lv_room (Nat.le_of_ble_eq_true rfl)) dL_law_1263 ⟨(show cells + 0 ≤ 600128 by omega), (show slots + 0 ≤ 7301097 by omega)⟩) hS (fun q _ h => hFc q h) hFc (fun r7 u7 t H locs ht hvm hw7 hB hz1 hk1 hS => ?_)
  obtain ⟨wb, tb, h7, e7, gP, gK, gD⟩ := hB
  rw [ht] at gP
  obtain ⟨hP, hD⟩ := joinA hP hD hk1 hFc gP gD
  have hK := va_K.app (kA_l hK) (va_K.moved hvm.symm gK)
  have hP := pA_rot hP
  have hD := dA_rot hD
  have hK := kA_rot hK
  refine lv_pop hx hb dL_law_1266 rfl ?_
  refine lv_goto (tgt := 1827) hx hb dL_law_1267 (by decide) ?_
  refine W.widen (k := cells + 1) (n := slots + 6) (by omega) (by omega) ?_
  exact kk _ _ _ (LwS.in9 t0 T0 U0 y0 f0 iC_nodes iC_words iC_unsures iC_slips iC_throneNode iC_saidWorth fC_kind fC_parts fC_partNodes fC_weights fC_toldWorths fC_unsureWords fC_unsureWorths fS_worths fS_order iK_imageCount fI0_worths fI0_order fI1_worths fI1_order fI2_worths fI2_order iA_count fA_nodes fA_olds fA_says iC_unit fC_weightSums fC_steps fC_below fC_above iM_hasCourt fM_r fM_told fM_st fM_undone fM_kept iM_undos iM_images iM_scale iM_night wa wb ta tb kO _ q1 q2 q3 hR hCIS hSc hT h6 h7 hP hD hK) hS hl
set_option maxHeartbeats 4000000 in
set_option maxRecDepth 100000 in
theorem law_c38 {p : Program} {l : Launch} {e : Env} {s : State} {m : MethodId} {below : List Frame} {meth : Method} {c : Code} {b L : Nat} {xs : Nat → Int32} (C0 : lw_At p s m meth c b L xs) (hL : L ≤ 384) {A : Nat → Prop} (hA : ∀ q, s.heap.size ≤ q → A q) (hAs : ∀ q, A q → s.heap.size ≤ q) (hE : Ev A s s.heap) (hX9 : Ex A s s.heap) (hl8 : l.stackTraces = false) {dC : Nat → ClassId} {dI : Nat → Nat → Nat} {oK oM oO : Nat} {i cells slots : Nat} (hi : i + 6 ≤ L) (hc : cells + 1 ≤ 600128) (hs : slots + 6 ≤ 7301097) {H : Heap} {locs : List Loc} {ls : Array Slot} (hI : LwS dC dI A s H oK oM oO) (hS : va_S A s.heap H locs) (hl : lv_has ls 7 [(4, .int (nI i)), (3, .ref oO), (2, .ref oM), (1, .ref oK), (0, .ref b)]) (kk : ∀ (H : Heap) (locs : List Loc) (ls : Array Slot), LwS dC dI A s H oK oM oO → va_S A s.heap H locs → lv_has ls 7 [(4, .int (nI i)), (3, .ref oO), (2, .ref oM), (1, .ref oK), (0, .ref b)] → W p l e room_1 s m #[Value.ref b] below meth c H locs (cells + 1) (slots + 6) (lw_Z below #[Value.ref b] s) (F0 m 1827 ls [])) : W p l e room_1 s m #[Value.ref b] below meth c H locs (cells) (slots) (lw_Z below #[Value.ref b] s) (F0 m 1270 ls []) := by
  obtain ⟨hx, hb, hr, hml, hown, hts0, hX, hbl, hlocks, hgv⟩ := id C0
  have hts : ∀ w ∈ wG, w.before #[Value.ref b] s = true := fun w h => hts0 w (wG_in w h)
  have htsN : ∀ w ∈ wN, w.before #[Value.ref b] s = true := fun w h => hts0 w (wN_in w h)
  have hbA : ¬ A b := fun h => Nat.lt_irrefl _ (Nat.lt_of_lt_of_le hbl (hAs b h))
  refine LwS.elim hI (fun t0 T0 U0 y0 f0 iC_nodes iC_words iC_unsures iC_slips iC_throneNode iC_saidWorth fC_kind fC_parts fC_partNodes fC_weights fC_toldWorths fC_unsureWords fC_unsureWorths fS_worths fS_order iK_imageCount fI0_worths fI0_order fI1_worths fI1_order fI2_worths fI2_order iA_count fA_nodes fA_olds fA_says iC_unit fC_weightSums fC_steps fC_below fC_above iM_hasCourt fM_r fM_told fM_st fM_undone fM_kept iM_undos iM_images iM_scale iM_night wa wb ta tb kO fO q1 q2 q3 hR hCIS hSc hT h6 h7 hP hD hK => ?_)
  have hM0 := MW_R h7
  refine lv_aload_n hx hb dL_law_1270 rfl (lv_at hl 3 rfl) ?_
  have hPc := pA_r hP
  have hDc := dA_r hD
  have hKc := kA_r hK
  have hFc := freeA hDc hS hA
  refine va_calli (va_runV (As := []) (rest := []) ⟨hx, hb, hml, hown, hts⟩ (k_surely l dC dI _  h6) (cwV 0 hts (wd_V wd_1212 wd_1213 wd_1214 wd_2 (wd_c wd_1215)) rfl rfl rfl (by decide +kernel) ⟨Nat.le_of_ble_eq_true rfl, Nat.le_of_ble_eq_true rfl⟩) ⟨Pw.fb, KW.recv hKc hPc h6, fun U hU hW => Pw.to hPc hDc hKc hE hS hFc hU hW⟩ rfl rfl hl.1 rfl (lv_room (Nat.le_of_ble_eq_true rfl)) dL_law_1271 ⟨(show cells + 0 ≤ 600128 by omega), (show slots + 0 ≤ 7301097 by omega)⟩) hS (fun q _ h => hFc q h) hFc (fun r6 u6 t H locs ht hvm hw6 hB hz1 hk1 hS => ?_)
  obtain ⟨wa, ta, h6, e6, gP, gK, gD⟩ := hB
  rw [ht] at gP
  obtain ⟨hP, hD⟩ := joinA hP hD hk1 hFc gP gD
  have hK := va_K.app (kA_l hK) (va_K.moved hvm.symm gK)
  refine lv_pop hx hb dL_law_1274 rfl ?_
  refine lv_aload_n hx hb dL_law_1275 rfl (lv_at hl 2 rfl) ?_
  have hP := pA_rot hP
  have hD := dA_rot hD
  have hK := kA_rot hK
  have hPc := pA_r hP
  have hDc := dA_r hD
  have hKc := kA_r hK
  have hFc := freeA hDc hS hA
  refine va_calli (va_runV (As := []) (rest := []) ⟨hx, hb, hml, hown, hts⟩ (m_surely l dC dI _  h7) (cwV 0 hts (wd_V wd_1216 wd_1217 wd_1218 wd_5 (wd_c wd_1219)) rfl rfl rfl (by decide +kernel) ⟨Nat.le_of_ble_eq_true rfl, Nat.le_of_ble_eq_true rfl⟩) ⟨Pw.fb, MW.recv hKc hPc h7, fun U hU hW => Pw.to hPc hDc hKc hE hS hFc hU hW⟩ rfl rfl hl.1 rfl (lv_room (Nat.le_of_ble_eq_true rfl)) dL_law_1276 ⟨(show cells + 0 ≤ 600128 by omega), (show slots + 0 ≤ 7301097 by omega)⟩) hS (fun q _ h => hFc q h) hFc (fun r7 u7 t H locs ht hvm hw7 hB hz1 hk1 hS => ?_)
  obtain ⟨wb, tb, h7, e7, gP, gK, gD⟩ := hB
  rw [ht] at gP
  obtain ⟨hP, hD⟩ := joinA hP hD hk1 hFc gP gD
  have hK := va_K.app (kA_l hK) (va_K.moved hvm.symm gK)
  have hP := pA_rot hP
  have hD := dA_rot hD
  have hK := kA_rot hK
  refine lv_pop hx hb dL_law_1279 rfl ?_
  refine lv_goto (tgt := 1827) hx hb dL_law_1280 (by decide) ?_
  refine W.widen (k := cells + 1) (n := slots + 6) (by omega) (by omega) ?_
  exact kk _ _ _ (LwS.in9 t0 T0 U0 y0 f0 iC_nodes iC_words iC_unsures iC_slips iC_throneNode iC_saidWorth fC_kind fC_parts fC_partNodes fC_weights fC_toldWorths fC_unsureWords fC_unsureWorths fS_worths fS_order iK_imageCount fI0_worths fI0_order fI1_worths fI1_order fI2_worths fI2_order iA_count fA_nodes fA_olds fA_says iC_unit fC_weightSums fC_steps fC_below fC_above iM_hasCourt fM_r fM_told fM_st fM_undone fM_kept iM_undos iM_images iM_scale iM_night wa wb ta tb kO _ q1 q2 q3 hR hCIS hSc hT h6 h7 hP hD hK) hS hl
set_option maxHeartbeats 4000000 in
set_option maxRecDepth 100000 in
theorem law_c39 {p : Program} {l : Launch} {e : Env} {s : State} {m : MethodId} {below : List Frame} {meth : Method} {c : Code} {b L : Nat} {xs : Nat → Int32} (C0 : lw_At p s m meth c b L xs) (hL : L ≤ 384) {A : Nat → Prop} (hA : ∀ q, s.heap.size ≤ q → A q) (hAs : ∀ q, A q → s.heap.size ≤ q) (hE : Ev A s s.heap) (hX9 : Ex A s s.heap) (hl8 : l.stackTraces = false) {dC : Nat → ClassId} {dI : Nat → Nat → Nat} {oK oM oO : Nat} {i cells slots : Nat} (hi : i + 6 ≤ L) (hc : cells + 1 ≤ 600128) (hs : slots + 6 ≤ 7301097) {H : Heap} {locs : List Loc} {ls : Array Slot} (hI : LwS dC dI A s H oK oM oO) (hS : va_S A s.heap H locs) (hl : lv_has ls 7 [(4, .int (nI i)), (3, .ref oO), (2, .ref oM), (1, .ref oK), (0, .ref b)]) (kk : ∀ (H : Heap) (locs : List Loc) (ls : Array Slot), LwS dC dI A s H oK oM oO → va_S A s.heap H locs → lv_has ls 7 [(4, .int (nI i)), (3, .ref oO), (2, .ref oM), (1, .ref oK), (0, .ref b)] → W p l e room_1 s m #[Value.ref b] below meth c H locs (cells + 1) (slots + 6) (lw_Z below #[Value.ref b] s) (F0 m 1827 ls [])) : W p l e room_1 s m #[Value.ref b] below meth c H locs (cells) (slots) (lw_Z below #[Value.ref b] s) (F0 m 1283 ls []) := by
  obtain ⟨hx, hb, hr, hml, hown, hts0, hX, hbl, hlocks, hgv⟩ := id C0
  have hts : ∀ w ∈ wG, w.before #[Value.ref b] s = true := fun w h => hts0 w (wG_in w h)
  have htsN : ∀ w ∈ wN, w.before #[Value.ref b] s = true := fun w h => hts0 w (wN_in w h)
  have hbA : ¬ A b := fun h => Nat.lt_irrefl _ (Nat.lt_of_lt_of_le hbl (hAs b h))
  refine LwS.elim hI (fun t0 T0 U0 y0 f0 iC_nodes iC_words iC_unsures iC_slips iC_throneNode iC_saidWorth fC_kind fC_parts fC_partNodes fC_weights fC_toldWorths fC_unsureWords fC_unsureWorths fS_worths fS_order iK_imageCount fI0_worths fI0_order fI1_worths fI1_order fI2_worths fI2_order iA_count fA_nodes fA_olds fA_says iC_unit fC_weightSums fC_steps fC_below fC_above iM_hasCourt fM_r fM_told fM_st fM_undone fM_kept iM_undos iM_images iM_scale iM_night wa wb ta tb kO fO q1 q2 q3 hR hCIS hSc hT h6 h7 hP hD hK => ?_)
  refine lv_aload_n hx hb dL_law_1283 rfl (lv_at hl 3 rfl) ?_
  have hPc := pA_r hP
  have hDc := dA_r hD
  have hKc := kA_r hK
  have hFc := freeA hDc hS hA
  refine va_calli (va_runV (As := []) (rest := []) ⟨hx, hb, hml, hown, hts⟩ (k_ask l dC dI _  h6) (cwV 0 hts (wd_V wd_1220 wd_1221 wd_1222 wd_2 (wd_c wd_1223)) rfl rfl rfl (by decide +kernel) ⟨Nat.le_of_ble_eq_true rfl, Nat.le_of_ble_eq_true rfl⟩) ⟨Pw.fb, KW.recv hKc hPc h6, fun U hU hW => Pw.to hPc hDc hKc hE hS hFc hU hW⟩ rfl rfl hl.1 rfl (lv_room (Nat.le_of_ble_eq_true rfl)) dL_law_1284 ⟨(show cells + 0 ≤ 600128 by omega), (show slots + 0 ≤ 7301097 by omega)⟩) hS (fun q _ h => hFc q h) hFc (fun r6 u6 t H locs ht hvm hw6 hB hz1 hk1 hS => ?_)
  obtain ⟨wa, ta, h6, e6, gP, gK, gD⟩ := hB
  rw [ht] at gP
  obtain ⟨hP, hD⟩ := joinA hP hD hk1 hFc gP gD
  have hK := va_K.app (kA_l hK) (va_K.moved hvm.symm gK)
  refine lv_pop hx hb dL_law_1287 rfl ?_
  refine lv_aload_n hx hb dL_law_1288 rfl (lv_at hl 2 rfl) ?_
  have hP := pA_rot hP
  have hD := dA_rot hD
  have hK := kA_rot hK
  have hPc := pA_r hP
  have hDc := dA_r hD
  have hKc := kA_r hK
  have hFc := freeA hDc hS hA
  refine va_calli (va_runV (As := []) (rest := []) ⟨hx, hb, hml, hown, hts⟩ (m_ask l dC dI _  h7) (cwV 0 hts (wd_V wd_1234 wd_1235 wd_1236 wd_5 (wd_c wd_1237)) rfl rfl rfl (by decide +kernel) ⟨Nat.le_of_ble_eq_true rfl, Nat.le_of_ble_eq_true rfl⟩) ⟨Pw.fb, MW.recv hKc hPc h7, fun U hU hW => Pw.to hPc hDc hKc hE hS hFc hU hW⟩ rfl rfl hl.1 rfl (lv_room (Nat.le_of_ble_eq_true rfl)) dL_law_1289 ⟨(show cells + 0 ≤ 600128 by omega), (show slots + 0 ≤ 7301097 by omega)⟩) hS (fun q _ h => hFc q h) hFc (fun r7 u7 t H locs ht hvm hw7 hB hz1 hk1 hS => ?_)
  obtain ⟨wb, tb, h7, e7, gP, gK, gD⟩ := hB
  rw [ht] at gP
  obtain ⟨hP, hD⟩ := joinA hP hD hk1 hFc gP gD
  have hK := va_K.app (kA_l hK) (va_K.moved hvm.symm gK)
  have hP := pA_rot hP
  have hD := dA_rot hD
  have hK := kA_rot hK
  refine lv_pop hx hb dL_law_1292 rfl ?_
  refine lv_goto (tgt := 1827) hx hb dL_law_1293 (by decide) ?_
  refine W.widen (k := cells + 1) (n := slots + 6) (by omega) (by omega) ?_
  exact kk _ _ _ (LwS.in9 t0 T0 U0 y0 f0 iC_nodes iC_words iC_unsures iC_slips iC_throneNode iC_saidWorth fC_kind fC_parts fC_partNodes fC_weights fC_toldWorths fC_unsureWords fC_unsureWorths fS_worths fS_order iK_imageCount fI0_worths fI0_order fI1_worths fI1_order fI2_worths fI2_order iA_count fA_nodes fA_olds fA_says iC_unit fC_weightSums fC_steps fC_below fC_above iM_hasCourt fM_r fM_told fM_st fM_undone fM_kept iM_undos iM_images iM_scale iM_night wa wb ta tb kO _ q1 q2 q3 hR hCIS hSc hT h6 h7 hP hD hK) hS hl
set_option maxHeartbeats 4000000 in
set_option maxRecDepth 100000 in
theorem law_c40 {p : Program} {l : Launch} {e : Env} {s : State} {m : MethodId} {below : List Frame} {meth : Method} {c : Code} {b L : Nat} {xs : Nat → Int32} (C0 : lw_At p s m meth c b L xs) (hL : L ≤ 384) {A : Nat → Prop} (hA : ∀ q, s.heap.size ≤ q → A q) (hAs : ∀ q, A q → s.heap.size ≤ q) (hE : Ev A s s.heap) (hX9 : Ex A s s.heap) (hl8 : l.stackTraces = false) {dC : Nat → ClassId} {dI : Nat → Nat → Nat} {oK oM oO : Nat} {i cells slots : Nat} (hi : i + 6 ≤ L) (hc : cells + 1 ≤ 600128) (hs : slots + 6 ≤ 7301097) {H : Heap} {locs : List Loc} {ls : Array Slot} (hI : LwS dC dI A s H oK oM oO) (hS : va_S A s.heap H locs) (hl : lv_has ls 7 [(4, .int (nI i)), (3, .ref oO), (2, .ref oM), (1, .ref oK), (0, .ref b)]) (kk : ∀ (H : Heap) (locs : List Loc) (ls : Array Slot), LwS dC dI A s H oK oM oO → va_S A s.heap H locs → lv_has ls 7 [(4, .int (nI i)), (3, .ref oO), (2, .ref oM), (1, .ref oK), (0, .ref b)] → W p l e room_1 s m #[Value.ref b] below meth c H locs (cells + 1) (slots + 6) (lw_Z below #[Value.ref b] s) (F0 m 1827 ls [])) : W p l e room_1 s m #[Value.ref b] below meth c H locs (cells) (slots) (lw_Z below #[Value.ref b] s) (F0 m 1296 ls []) := by
  obtain ⟨hx, hb, hr, hml, hown, hts0, hX, hbl, hlocks, hgv⟩ := id C0
  have hts : ∀ w ∈ wG, w.before #[Value.ref b] s = true := fun w h => hts0 w (wG_in w h)
  have htsN : ∀ w ∈ wN, w.before #[Value.ref b] s = true := fun w h => hts0 w (wN_in w h)
  have hbA : ¬ A b := fun h => Nat.lt_irrefl _ (Nat.lt_of_lt_of_le hbl (hAs b h))
  refine LwS.elim hI (fun t0 T0 U0 y0 f0 iC_nodes iC_words iC_unsures iC_slips iC_throneNode iC_saidWorth fC_kind fC_parts fC_partNodes fC_weights fC_toldWorths fC_unsureWords fC_unsureWorths fS_worths fS_order iK_imageCount fI0_worths fI0_order fI1_worths fI1_order fI2_worths fI2_order iA_count fA_nodes fA_olds fA_says iC_unit fC_weightSums fC_steps fC_below fC_above iM_hasCourt fM_r fM_told fM_st fM_undone fM_kept iM_undos iM_images iM_scale iM_night wa wb ta tb kO fO q1 q2 q3 hR hCIS hSc hT h6 h7 hP hD hK => ?_)
  have hM0 := MW_R h7
  refine lv_aload_n hx hb dL_law_1296 rfl (lv_at hl 3 rfl) ?_
  have hPc := pA_r hP
  have hDc := dA_r hD
  have hKc := kA_r hK
  have hFc := freeA hDc hS hA
  refine va_calli (va_runV (As := []) (rest := []) ⟨hx, hb, hml, hown, hts⟩ (k_askLeaves l dC dI _  h6) (cwV 0 hts (wd_V wd_1246 wd_1247 wd_1248 wd_2 (wd_c wd_1249)) rfl rfl rfl (by decide +kernel) ⟨Nat.le_of_ble_eq_true rfl, Nat.le_of_ble_eq_true rfl⟩) ⟨Pw.fb, KW.recv hKc hPc h6, fun U hU hW => Pw.to hPc hDc hKc hE hS hFc hU hW⟩ rfl rfl hl.1 rfl (lv_room (Nat.le_of_ble_eq_true rfl)) dL_law_1297 ⟨(show cells + 0 ≤ 600128 by omega), (show slots + 0 ≤ 7301097 by omega)⟩) hS (fun q _ h => hFc q h) hFc (fun r6 u6 t H locs ht hvm hw6 hB hz1 hk1 hS => ?_)
  obtain ⟨wa, ta, h6, e6, gP, gK, gD⟩ := hB
  rw [ht] at gP
  obtain ⟨hP, hD⟩ := joinA hP hD hk1 hFc gP gD
  have hK := va_K.app (kA_l hK) (va_K.moved hvm.symm gK)
  refine lv_pop hx hb dL_law_1300 rfl ?_
  refine lv_aload_n hx hb dL_law_1301 rfl (lv_at hl 2 rfl) ?_
  have hP := pA_rot hP
  have hD := dA_rot hD
  have hK := kA_rot hK
  have hPc := pA_r hP
  have hDc := dA_r hD
  have hKc := kA_r hK
  have hFc := freeA hDc hS hA
  refine va_calli (va_runV (As := []) (rest := []) ⟨hx, hb, hml, hown, hts⟩ (m_askLeaves l dC dI _  h7) (cwV 0 hts (wd_V wd_1250 wd_1251 wd_1252 wd_5 (wd_c wd_1253)) rfl rfl rfl (by decide +kernel) ⟨Nat.le_of_ble_eq_true rfl, Nat.le_of_ble_eq_true rfl⟩) ⟨Pw.fb, MW.recv hKc hPc h7, fun U hU hW => Pw.to hPc hDc hKc hE hS hFc hU hW⟩ rfl rfl hl.1 rfl (lv_room (Nat.le_of_ble_eq_true rfl)) dL_law_1302 ⟨(show cells + 0 ≤ 600128 by omega), (show slots + 0 ≤ 7301097 by omega)⟩) hS (fun q _ h => hFc q h) hFc (fun r7 u7 t H locs ht hvm hw7 hB hz1 hk1 hS => ?_)
  obtain ⟨wb, tb, h7, e7, gP, gK, gD⟩ := hB
  rw [ht] at gP
  obtain ⟨hP, hD⟩ := joinA hP hD hk1 hFc gP gD
  have hK := va_K.app (kA_l hK) (va_K.moved hvm.symm gK)
  have hP := pA_rot hP
  have hD := dA_rot hD
  have hK := kA_rot hK
  refine lv_pop hx hb dL_law_1305 rfl ?_
  refine lv_goto (tgt := 1827) hx hb dL_law_1306 (by decide) ?_
  refine W.widen (k := cells + 1) (n := slots + 6) (by omega) (by omega) ?_
  exact kk _ _ _ (LwS.in9 t0 T0 U0 y0 f0 iC_nodes iC_words iC_unsures iC_slips iC_throneNode iC_saidWorth fC_kind fC_parts fC_partNodes fC_weights fC_toldWorths fC_unsureWords fC_unsureWorths fS_worths fS_order iK_imageCount fI0_worths fI0_order fI1_worths fI1_order fI2_worths fI2_order iA_count fA_nodes fA_olds fA_says iC_unit fC_weightSums fC_steps fC_below fC_above iM_hasCourt fM_r fM_told fM_st fM_undone fM_kept iM_undos iM_images iM_scale iM_night wa wb ta tb kO _ q1 q2 q3 hR hCIS hSc hT h6 h7 hP hD hK) hS hl
set_option maxHeartbeats 4000000 in
set_option maxRecDepth 100000 in
theorem law_c41 {p : Program} {l : Launch} {e : Env} {s : State} {m : MethodId} {below : List Frame} {meth : Method} {c : Code} {b L : Nat} {xs : Nat → Int32} (C0 : lw_At p s m meth c b L xs) (hL : L ≤ 384) {A : Nat → Prop} (hA : ∀ q, s.heap.size ≤ q → A q) (hAs : ∀ q, A q → s.heap.size ≤ q) (hE : Ev A s s.heap) (hX9 : Ex A s s.heap) (hl8 : l.stackTraces = false) {dC : Nat → ClassId} {dI : Nat → Nat → Nat} {oK oM oO : Nat} {i cells slots : Nat} (hi : i + 6 ≤ L) (hc : cells + 1 ≤ 600128) (hs : slots + 6 ≤ 7301097) {H : Heap} {locs : List Loc} {ls : Array Slot} (hI : LwS dC dI A s H oK oM oO) (hS : va_S A s.heap H locs) (hl : lv_has ls 7 [(4, .int (nI i)), (3, .ref oO), (2, .ref oM), (1, .ref oK), (0, .ref b)]) (kk : ∀ (H : Heap) (locs : List Loc) (ls : Array Slot), LwS dC dI A s H oK oM oO → va_S A s.heap H locs → lv_has ls 7 [(4, .int (nI i)), (3, .ref oO), (2, .ref oM), (1, .ref oK), (0, .ref b)] → W p l e room_1 s m #[Value.ref b] below meth c H locs (cells + 1) (slots + 6) (lw_Z below #[Value.ref b] s) (F0 m 1827 ls [])) : W p l e room_1 s m #[Value.ref b] below meth c H locs (cells) (slots) (lw_Z below #[Value.ref b] s) (F0 m 1309 ls []) := by
  obtain ⟨hx, hb, hr, hml, hown, hts0, hX, hbl, hlocks, hgv⟩ := id C0
  have hts : ∀ w ∈ wG, w.before #[Value.ref b] s = true := fun w h => hts0 w (wG_in w h)
  have htsN : ∀ w ∈ wN, w.before #[Value.ref b] s = true := fun w h => hts0 w (wN_in w h)
  have hbA : ¬ A b := fun h => Nat.lt_irrefl _ (Nat.lt_of_lt_of_le hbl (hAs b h))
  refine LwS.elim hI (fun t0 T0 U0 y0 f0 iC_nodes iC_words iC_unsures iC_slips iC_throneNode iC_saidWorth fC_kind fC_parts fC_partNodes fC_weights fC_toldWorths fC_unsureWords fC_unsureWorths fS_worths fS_order iK_imageCount fI0_worths fI0_order fI1_worths fI1_order fI2_worths fI2_order iA_count fA_nodes fA_olds fA_says iC_unit fC_weightSums fC_steps fC_below fC_above iM_hasCourt fM_r fM_told fM_st fM_undone fM_kept iM_undos iM_images iM_scale iM_night wa wb ta tb kO fO q1 q2 q3 hR hCIS hSc hT h6 h7 hP hD hK => ?_)
  have hM0 := MW_R h7
  refine lv_aload_n hx hb dL_law_1309 rfl (lv_at hl 3 rfl) ?_
  refine lv_aload_n hx hb dL_law_1310 rfl (lv_at hl 4 rfl) ?_
  refine lv_iload hx hb dL_law_1311 (lv_at hl 0 rfl) ?_
  refine lv_iconst (v := 1) hx hb dL_law_1313 (by decide) ?_
  refine lv_iadd hx hb dL_law_1314 ?_
  refine lv_topi (fun y1 ey1 => ?_)
  obtain rfl : y1 = nI (i + 1) := ey1.trans (nI_add i 1)
  refine va_sld hx hb hX hbl hbA hS (vp_in_nI (show i + 1 < L by omega) (by omega)) dL_law_1315 ?_
  refine lv_topi (fun v2 ev2 => ?_)
  refine lv_aload_n hx hb dL_law_1316 rfl (lv_at hl 4 rfl) ?_
  refine lv_iload hx hb dL_law_1317 (lv_at hl 0 rfl) ?_
  refine lv_iconst (v := 2) hx hb dL_law_1319 (by decide) ?_
  refine lv_iadd hx hb dL_law_1320 ?_
  refine lv_topi (fun y3 ey3 => ?_)
  obtain rfl : y3 = nI (i + 2) := ey3.trans (nI_add i 2)
  refine va_sld hx hb hX hbl hbA hS (vp_in_nI (show i + 2 < L by omega) (by omega)) dL_law_1321 ?_
  refine lv_topi (fun v4 ev4 => ?_)
  refine vz_jeqb hx hb dL_law_1322 dL_law_1325 dL_law_1326 dL_law_1329 (fun b5 hb5 => ?_)
  have hPc := pA_r hP
  have hDc := dA_r hD
  have hKc := kA_r hK
  have hFc := freeA hDc hS hA
  refine va_calll (va_runV (As := [.int v2, .int b5]) (rest := []) ⟨hx, hb, hml, hown, hts⟩ (k_odds l dC dI _ v2 b5 h6) (cwV 2 hts (wd_V wd_1254 wd_1255 wd_1256 wd_2 (wd_c wd_1257)) rfl rfl rfl (by decide +kernel) ⟨Nat.le_of_ble_eq_true rfl, Nat.le_of_ble_eq_true rfl⟩) ⟨Pw.fb, KW.recv hKc hPc h6, fun U hU hW => Pw.to hPc hDc hKc hE hS hFc hU hW⟩ rfl rfl hl.1 rfl (lv_room (Nat.le_of_ble_eq_true rfl)) dL_law_1330 ⟨(show cells + 0 ≤ 600128 by omega), (show slots + 0 ≤ 7301097 by omega)⟩) hS (fun q _ h => hFc q h) hFc (fun r6 u6 t H locs ht hvm hw6 hB hz1 hk1 hS => ?_)
  obtain ⟨wa, ta, h6, e6, gP, gK, gD⟩ := hB
  rw [ht] at gP
  obtain ⟨hP, hD⟩ := joinA hP hD hk1 hFc gP gD
  have hK := va_K.app (kA_l hK) (va_K.moved hvm.symm gK)
  refine lv_pop2_2 hx hb dL_law_1333 rfl ?_
  refine lv_aload_n hx hb dL_law_1334 rfl (lv_at hl 2 rfl) ?_
  refine lv_aload_n hx hb dL_law_1335 rfl (lv_at hl 4 rfl) ?_
  refine lv_iload hx hb dL_law_1336 (lv_at hl 0 rfl) ?_
  refine lv_iconst (v := 1) hx hb dL_law_1338 (by decide) ?_
  refine lv_iadd hx hb dL_law_1339 ?_
  refine lv_topi (fun y6 ey6 => ?_)
  obtain rfl : y6 = nI (i + 1) := ey6.trans (nI_add i 1)
  refine va_sld hx hb hX hbl hbA hS (vp_in_nI (show i + 1 < L by omega) (by omega)) dL_law_1340 ?_
  refine lv_topi (fun v7 ev7 => ?_)
  obtain rfl : v2 = v7 := ev2.trans ev7.symm
  refine lv_aload_n hx hb dL_law_1341 rfl (lv_at hl 4 rfl) ?_
  refine lv_iload hx hb dL_law_1342 (lv_at hl 0 rfl) ?_
  refine lv_iconst (v := 2) hx hb dL_law_1344 (by decide) ?_
  refine lv_iadd hx hb dL_law_1345 ?_
  refine lv_topi (fun y8 ey8 => ?_)
  obtain rfl : y8 = nI (i + 2) := ey8.trans (nI_add i 2)
  refine va_sld hx hb hX hbl hbA hS (vp_in_nI (show i + 2 < L by omega) (by omega)) dL_law_1346 ?_
  refine lv_topi (fun v9 ev9 => ?_)
  obtain rfl : v4 = v9 := ev4.trans ev9.symm
  refine vz_jeqb hx hb dL_law_1347 dL_law_1350 dL_law_1351 dL_law_1354 (fun b10 hb10 => ?_)
  obtain rfl : b5 = b10 := hb5.trans hb10.symm
  have hP := pA_rot hP
  have hD := dA_rot hD
  have hK := kA_rot hK
  have hPc := pA_r hP
  have hDc := dA_r hD
  have hKc := kA_r hK
  have hFc := freeA hDc hS hA
  refine va_calll (va_runV (As := [.int v2, .int b5]) (rest := []) ⟨hx, hb, hml, hown, hts⟩ (m_odds l dC dI _ v2 b5 h7) (cwV 2 hts (wd_V wd_1267 wd_1268 wd_1269 wd_5 (wd_c wd_1270)) rfl rfl rfl (by decide +kernel) ⟨Nat.le_of_ble_eq_true rfl, Nat.le_of_ble_eq_true rfl⟩) ⟨Pw.fb, MW.recv hKc hPc h7, fun U hU hW => Pw.to hPc hDc hKc hE hS hFc hU hW⟩ rfl rfl hl.1 rfl (lv_room (Nat.le_of_ble_eq_true rfl)) dL_law_1355 ⟨(show cells + 0 ≤ 600128 by omega), (show slots + 0 ≤ 7301097 by omega)⟩) hS (fun q _ h => hFc q h) hFc (fun r7 u7 t H locs ht hvm hw7 hB hz1 hk1 hS => ?_)
  obtain ⟨wb, tb, h7, e7, gP, gK, gD⟩ := hB
  rw [ht] at gP
  obtain ⟨hP, hD⟩ := joinA hP hD hk1 hFc gP gD
  have hK := va_K.app (kA_l hK) (va_K.moved hvm.symm gK)
  have hP := pA_rot hP
  have hD := dA_rot hD
  have hK := kA_rot hK
  refine lv_pop2_2 hx hb dL_law_1358 rfl ?_
  refine lv_goto (tgt := 1827) hx hb dL_law_1359 (by decide) ?_
  refine W.widen (k := cells + 1) (n := slots + 6) (by omega) (by omega) ?_
  exact kk _ _ _ (LwS.in9 t0 T0 U0 y0 f0 iC_nodes iC_words iC_unsures iC_slips iC_throneNode iC_saidWorth fC_kind fC_parts fC_partNodes fC_weights fC_toldWorths fC_unsureWords fC_unsureWorths fS_worths fS_order iK_imageCount fI0_worths fI0_order fI1_worths fI1_order fI2_worths fI2_order iA_count fA_nodes fA_olds fA_says iC_unit fC_weightSums fC_steps fC_below fC_above iM_hasCourt fM_r fM_told fM_st fM_undone fM_kept iM_undos iM_images iM_scale iM_night wa wb ta tb kO _ q1 q2 q3 hR hCIS hSc hT h6 h7 hP hD hK) hS hl
set_option maxHeartbeats 4000000 in
set_option maxRecDepth 100000 in
theorem law_c42 {p : Program} {l : Launch} {e : Env} {s : State} {m : MethodId} {below : List Frame} {meth : Method} {c : Code} {b L : Nat} {xs : Nat → Int32} (C0 : lw_At p s m meth c b L xs) (hL : L ≤ 384) {A : Nat → Prop} (hA : ∀ q, s.heap.size ≤ q → A q) (hAs : ∀ q, A q → s.heap.size ≤ q) (hE : Ev A s s.heap) (hX9 : Ex A s s.heap) (hl8 : l.stackTraces = false) {dC : Nat → ClassId} {dI : Nat → Nat → Nat} {oK oM oO : Nat} {i cells slots : Nat} (hi : i + 6 ≤ L) (hc : cells + 1 ≤ 600128) (hs : slots + 6 ≤ 7301097) {H : Heap} {locs : List Loc} {ls : Array Slot} (hI : LwS dC dI A s H oK oM oO) (hS : va_S A s.heap H locs) (hl : lv_has ls 7 [(4, .int (nI i)), (3, .ref oO), (2, .ref oM), (1, .ref oK), (0, .ref b)]) (kk : ∀ (H : Heap) (locs : List Loc) (ls : Array Slot), LwS dC dI A s H oK oM oO → va_S A s.heap H locs → lv_has ls 7 [(4, .int (nI i)), (3, .ref oO), (2, .ref oM), (1, .ref oK), (0, .ref b)] → W p l e room_1 s m #[Value.ref b] below meth c H locs (cells + 1) (slots + 6) (lw_Z below #[Value.ref b] s) (F0 m 1827 ls [])) : W p l e room_1 s m #[Value.ref b] below meth c H locs (cells) (slots) (lw_Z below #[Value.ref b] s) (F0 m 1362 ls []) := by
  obtain ⟨hx, hb, hr, hml, hown, hts0, hX, hbl, hlocks, hgv⟩ := id C0
  have hts : ∀ w ∈ wG, w.before #[Value.ref b] s = true := fun w h => hts0 w (wG_in w h)
  have htsN : ∀ w ∈ wN, w.before #[Value.ref b] s = true := fun w h => hts0 w (wN_in w h)
  have hbA : ¬ A b := fun h => Nat.lt_irrefl _ (Nat.lt_of_lt_of_le hbl (hAs b h))
  refine LwS.elim hI (fun t0 T0 U0 y0 f0 iC_nodes iC_words iC_unsures iC_slips iC_throneNode iC_saidWorth fC_kind fC_parts fC_partNodes fC_weights fC_toldWorths fC_unsureWords fC_unsureWorths fS_worths fS_order iK_imageCount fI0_worths fI0_order fI1_worths fI1_order fI2_worths fI2_order iA_count fA_nodes fA_olds fA_says iC_unit fC_weightSums fC_steps fC_below fC_above iM_hasCourt fM_r fM_told fM_st fM_undone fM_kept iM_undos iM_images iM_scale iM_night wa wb ta tb kO fO q1 q2 q3 hR hCIS hSc hT h6 h7 hP hD hK => ?_)
  have hM0 := MW_R h7
  refine lv_aload_n hx hb dL_law_1362 rfl (lv_at hl 3 rfl) ?_
  refine lv_aload_n hx hb dL_law_1363 rfl (lv_at hl 4 rfl) ?_
  refine lv_iload hx hb dL_law_1364 (lv_at hl 0 rfl) ?_
  refine lv_iconst (v := 1) hx hb dL_law_1366 (by decide) ?_
  refine lv_iadd hx hb dL_law_1367 ?_
  refine lv_topi (fun y1 ey1 => ?_)
  obtain rfl : y1 = nI (i + 1) := ey1.trans (nI_add i 1)
  refine va_sld hx hb hX hbl hbA hS (vp_in_nI (show i + 1 < L by omega) (by omega)) dL_law_1368 ?_
  refine lv_topi (fun v2 ev2 => ?_)
  refine vz_jeqb hx hb dL_law_1369 dL_law_1372 dL_law_1373 dL_law_1376 (fun b3 hb3 => ?_)
  have hPc := pA_r hP
  have hDc := dA_r hD
  have hKc := kA_r hK
  have hFc := freeA hDc hS hA
  refine va_calll (va_runV (As := [.int b3]) (rest := []) ⟨hx, hb, hml, hown, hts⟩ (k_mean l dC dI _ b3 h6) (cwV 1 hts (wd_V wd_1278 wd_1279 wd_1280 wd_2 (wd_c wd_1281)) rfl rfl rfl (by decide +kernel) ⟨Nat.le_of_ble_eq_true rfl, Nat.le_of_ble_eq_true rfl⟩) ⟨Pw.fb, KW.recv hKc hPc h6, fun U hU hW => Pw.to hPc hDc hKc hE hS hFc hU hW⟩ rfl rfl hl.1 rfl (lv_room (Nat.le_of_ble_eq_true rfl)) dL_law_1377 ⟨(show cells + 0 ≤ 600128 by omega), (show slots + 0 ≤ 7301097 by omega)⟩) hS (fun q _ h => hFc q h) hFc (fun r6 u6 t H locs ht hvm hw6 hB hz1 hk1 hS => ?_)
  obtain ⟨wa, ta, h6, e6, gP, gK, gD⟩ := hB
  rw [ht] at gP
  obtain ⟨hP, hD⟩ := joinA hP hD hk1 hFc gP gD
  have hK := va_K.app (kA_l hK) (va_K.moved hvm.symm gK)
  refine lv_pop2_2 hx hb dL_law_1380 rfl ?_
  refine lv_aload_n hx hb dL_law_1381 rfl (lv_at hl 2 rfl) ?_
  refine lv_aload_n hx hb dL_law_1382 rfl (lv_at hl 4 rfl) ?_
  refine lv_iload hx hb dL_law_1383 (lv_at hl 0 rfl) ?_
  refine lv_iconst (v := 1) hx hb dL_law_1385 (by decide) ?_
  refine lv_iadd hx hb dL_law_1386 ?_
  refine lv_topi (fun y4 ey4 => ?_)
  obtain rfl : y4 = nI (i + 1) := ey4.trans (nI_add i 1)
  refine va_sld hx hb hX hbl hbA hS (vp_in_nI (show i + 1 < L by omega) (by omega)) dL_law_1387 ?_
  refine lv_topi (fun v5 ev5 => ?_)
  obtain rfl : v2 = v5 := ev2.trans ev5.symm
  refine vz_jeqb hx hb dL_law_1388 dL_law_1391 dL_law_1392 dL_law_1395 (fun b6 hb6 => ?_)
  obtain rfl : b3 = b6 := hb3.trans hb6.symm
  have hP := pA_rot hP
  have hD := dA_rot hD
  have hK := kA_rot hK
  have hPc := pA_r hP
  have hDc := dA_r hD
  have hKc := kA_r hK
  have hFc := freeA hDc hS hA
  refine va_calll (va_runV (As := [.int b3]) (rest := []) ⟨hx, hb, hml, hown, hts⟩ (m_mean l dC dI _ b3 h7) (cwV 1 hts (wd_V wd_1282 wd_1283 wd_1284 wd_5 (wd_c wd_1285)) rfl rfl rfl (by decide +kernel) ⟨Nat.le_of_ble_eq_true rfl, Nat.le_of_ble_eq_true rfl⟩) ⟨Pw.fb, MW.recv hKc hPc h7, fun U hU hW => Pw.to hPc hDc hKc hE hS hFc hU hW⟩ rfl rfl hl.1 rfl (lv_room (Nat.le_of_ble_eq_true rfl)) dL_law_1396 ⟨(show cells + 0 ≤ 600128 by omega), (show slots + 0 ≤ 7301097 by omega)⟩) hS (fun q _ h => hFc q h) hFc (fun r7 u7 t H locs ht hvm hw7 hB hz1 hk1 hS => ?_)
  obtain ⟨wb, tb, h7, e7, gP, gK, gD⟩ := hB
  rw [ht] at gP
  obtain ⟨hP, hD⟩ := joinA hP hD hk1 hFc gP gD
  have hK := va_K.app (kA_l hK) (va_K.moved hvm.symm gK)
  have hP := pA_rot hP
  have hD := dA_rot hD
  have hK := kA_rot hK
  refine lv_pop2_2 hx hb dL_law_1399 rfl ?_
  refine lv_goto (tgt := 1827) hx hb dL_law_1400 (by decide) ?_
  refine W.widen (k := cells + 1) (n := slots + 6) (by omega) (by omega) ?_
  exact kk _ _ _ (LwS.in9 t0 T0 U0 y0 f0 iC_nodes iC_words iC_unsures iC_slips iC_throneNode iC_saidWorth fC_kind fC_parts fC_partNodes fC_weights fC_toldWorths fC_unsureWords fC_unsureWorths fS_worths fS_order iK_imageCount fI0_worths fI0_order fI1_worths fI1_order fI2_worths fI2_order iA_count fA_nodes fA_olds fA_says iC_unit fC_weightSums fC_steps fC_below fC_above iM_hasCourt fM_r fM_told fM_st fM_undone fM_kept iM_undos iM_images iM_scale iM_night wa wb ta tb kO _ q1 q2 q3 hR hCIS hSc hT h6 h7 hP hD hK) hS hl
set_option maxHeartbeats 4000000 in
set_option maxRecDepth 100000 in
theorem law_c43 {p : Program} {l : Launch} {e : Env} {s : State} {m : MethodId} {below : List Frame} {meth : Method} {c : Code} {b L : Nat} {xs : Nat → Int32} (C0 : lw_At p s m meth c b L xs) (hL : L ≤ 384) {A : Nat → Prop} (hA : ∀ q, s.heap.size ≤ q → A q) (hAs : ∀ q, A q → s.heap.size ≤ q) (hE : Ev A s s.heap) (hX9 : Ex A s s.heap) (hl8 : l.stackTraces = false) {dC : Nat → ClassId} {dI : Nat → Nat → Nat} {oK oM oO : Nat} {i cells slots : Nat} (hi : i + 6 ≤ L) (hc : cells + 1 ≤ 600128) (hs : slots + 6 ≤ 7301097) {H : Heap} {locs : List Loc} {ls : Array Slot} (hI : LwS dC dI A s H oK oM oO) (hS : va_S A s.heap H locs) (hl : lv_has ls 7 [(4, .int (nI i)), (3, .ref oO), (2, .ref oM), (1, .ref oK), (0, .ref b)]) (kk : ∀ (H : Heap) (locs : List Loc) (ls : Array Slot), LwS dC dI A s H oK oM oO → va_S A s.heap H locs → lv_has ls 7 [(4, .int (nI i)), (3, .ref oO), (2, .ref oM), (1, .ref oK), (0, .ref b)] → W p l e room_1 s m #[Value.ref b] below meth c H locs (cells + 1) (slots + 6) (lw_Z below #[Value.ref b] s) (F0 m 1827 ls [])) : W p l e room_1 s m #[Value.ref b] below meth c H locs (cells) (slots) (lw_Z below #[Value.ref b] s) (F0 m 1403 ls []) := by
  obtain ⟨hx, hb, hr, hml, hown, hts0, hX, hbl, hlocks, hgv⟩ := id C0
  have hts : ∀ w ∈ wG, w.before #[Value.ref b] s = true := fun w h => hts0 w (wG_in w h)
  have htsN : ∀ w ∈ wN, w.before #[Value.ref b] s = true := fun w h => hts0 w (wN_in w h)
  have hbA : ¬ A b := fun h => Nat.lt_irrefl _ (Nat.lt_of_lt_of_le hbl (hAs b h))
  refine LwS.elim hI (fun t0 T0 U0 y0 f0 iC_nodes iC_words iC_unsures iC_slips iC_throneNode iC_saidWorth fC_kind fC_parts fC_partNodes fC_weights fC_toldWorths fC_unsureWords fC_unsureWorths fS_worths fS_order iK_imageCount fI0_worths fI0_order fI1_worths fI1_order fI2_worths fI2_order iA_count fA_nodes fA_olds fA_says iC_unit fC_weightSums fC_steps fC_below fC_above iM_hasCourt fM_r fM_told fM_st fM_undone fM_kept iM_undos iM_images iM_scale iM_night wa wb ta tb kO fO q1 q2 q3 hR hCIS hSc hT h6 h7 hP hD hK => ?_)
  refine lv_aload_n hx hb dL_law_1403 rfl (lv_at hl 3 rfl) ?_
  refine lv_aload_n hx hb dL_law_1404 rfl (lv_at hl 4 rfl) ?_
  refine lv_iload hx hb dL_law_1405 (lv_at hl 0 rfl) ?_
  refine lv_iconst (v := 1) hx hb dL_law_1407 (by decide) ?_
  refine lv_iadd hx hb dL_law_1408 ?_
  refine lv_topi (fun y1 ey1 => ?_)
  obtain rfl : y1 = nI (i + 1) := ey1.trans (nI_add i 1)
  refine va_sld hx hb hX hbl hbA hS (vp_in_nI (show i + 1 < L by omega) (by omega)) dL_law_1409 ?_
  refine lv_topi (fun v2 ev2 => ?_)
  refine lv_aload_n hx hb dL_law_1410 rfl (lv_at hl 4 rfl) ?_
  refine lv_iload hx hb dL_law_1411 (lv_at hl 0 rfl) ?_
  refine lv_iconst (v := 2) hx hb dL_law_1413 (by decide) ?_
  refine lv_iadd hx hb dL_law_1414 ?_
  refine lv_topi (fun y3 ey3 => ?_)
  obtain rfl : y3 = nI (i + 2) := ey3.trans (nI_add i 2)
  refine va_sld hx hb hX hbl hbA hS (vp_in_nI (show i + 2 < L by omega) (by omega)) dL_law_1415 ?_
  refine lv_topi (fun v4 ev4 => ?_)
  refine vz_jeqb hx hb dL_law_1416 dL_law_1419 dL_law_1420 dL_law_1423 (fun b5 hb5 => ?_)
  refine lv_aload_n hx hb dL_law_1424 rfl (lv_at hl 4 rfl) ?_
  refine lv_iload hx hb dL_law_1425 (lv_at hl 0 rfl) ?_
  refine lv_iconst (v := 3) hx hb dL_law_1427 (by decide) ?_
  refine lv_iadd hx hb dL_law_1428 ?_
  refine lv_topi (fun y6 ey6 => ?_)
  obtain rfl : y6 = nI (i + 3) := ey6.trans (nI_add i 3)
  refine va_sld hx hb hX hbl hbA hS (vp_in_nI (show i + 3 < L by omega) (by omega)) dL_law_1429 ?_
  refine lv_topi (fun v7 ev7 => ?_)
  refine vz_jeqb hx hb dL_law_1430 dL_law_1433 dL_law_1434 dL_law_1437 (fun b8 hb8 => ?_)
  refine lv_aload_n hx hb dL_law_1438 rfl (lv_at hl 4 rfl) ?_
  refine lv_iload hx hb dL_law_1439 (lv_at hl 0 rfl) ?_
  refine lv_iconst (v := 4) hx hb dL_law_1441 (by decide) ?_
  refine lv_iadd hx hb dL_law_1442 ?_
  refine lv_topi (fun y9 ey9 => ?_)
  obtain rfl : y9 = nI (i + 4) := ey9.trans (nI_add i 4)
  refine va_sld hx hb hX hbl hbA hS (vp_in_nI (show i + 4 < L by omega) (by omega)) dL_law_1443 ?_
  refine lv_topi (fun v10 ev10 => ?_)
  refine vz_jeqb hx hb dL_law_1444 dL_law_1447 dL_law_1448 dL_law_1451 (fun b11 hb11 => ?_)
  have hPc := pA_r hP
  have hDc := dA_r hD
  have hKc := kA_r hK
  have hFc := freeA hDc hS hA
  refine va_calli (va_runV (As := [.int v2, .int b5, .int b8, .int b11]) (rest := []) ⟨hx, hb, hml, hown, hts⟩ (k_speaks l dC dI _ v2 b5 b8 b11 h6) (cwV 4 hts (wd_V wd_1286 wd_1287 wd_1288 wd_2 (wd_c wd_1289)) rfl rfl rfl (by decide +kernel) ⟨Nat.le_of_ble_eq_true rfl, Nat.le_of_ble_eq_true rfl⟩) ⟨Pw.fb, KW.recv hKc hPc h6, fun U hU hW => Pw.to hPc hDc hKc hE hS hFc hU hW⟩ rfl rfl hl.1 rfl (lv_room (Nat.le_of_ble_eq_true rfl)) dL_law_1452 ⟨(show cells + 0 ≤ 600128 by omega), (show slots + 0 ≤ 7301097 by omega)⟩) hS (fun q _ h => hFc q h) hFc (fun r6 u6 t H locs ht hvm hw6 hB hz1 hk1 hS => ?_)
  obtain ⟨wa, ta, h6, e6, gP, gK, gD⟩ := hB
  rw [ht] at gP
  obtain ⟨hP, hD⟩ := joinA hP hD hk1 hFc gP gD
  have hK := va_K.app (kA_l hK) (va_K.moved hvm.symm gK)
  refine lv_pop hx hb dL_law_1455 rfl ?_
  refine lv_aload_n hx hb dL_law_1456 rfl (lv_at hl 2 rfl) ?_
  refine lv_aload_n hx hb dL_law_1457 rfl (lv_at hl 4 rfl) ?_
  refine lv_iload hx hb dL_law_1458 (lv_at hl 0 rfl) ?_
  refine lv_iconst (v := 1) hx hb dL_law_1460 (by decide) ?_
  refine lv_iadd hx hb dL_law_1461 ?_
  refine lv_topi (fun y12 ey12 => ?_)
  obtain rfl : y12 = nI (i + 1) := ey12.trans (nI_add i 1)
  refine va_sld hx hb hX hbl hbA hS (vp_in_nI (show i + 1 < L by omega) (by omega)) dL_law_1462 ?_
  refine lv_topi (fun v13 ev13 => ?_)
  obtain rfl : v2 = v13 := ev2.trans ev13.symm
  refine lv_aload_n hx hb dL_law_1463 rfl (lv_at hl 4 rfl) ?_
  refine lv_iload hx hb dL_law_1464 (lv_at hl 0 rfl) ?_
  refine lv_iconst (v := 2) hx hb dL_law_1466 (by decide) ?_
  refine lv_iadd hx hb dL_law_1467 ?_
  refine lv_topi (fun y14 ey14 => ?_)
  obtain rfl : y14 = nI (i + 2) := ey14.trans (nI_add i 2)
  refine va_sld hx hb hX hbl hbA hS (vp_in_nI (show i + 2 < L by omega) (by omega)) dL_law_1468 ?_
  refine lv_topi (fun v15 ev15 => ?_)
  obtain rfl : v4 = v15 := ev4.trans ev15.symm
  refine vz_jeqb hx hb dL_law_1469 dL_law_1472 dL_law_1473 dL_law_1476 (fun b16 hb16 => ?_)
  obtain rfl : b5 = b16 := hb5.trans hb16.symm
  refine lv_aload_n hx hb dL_law_1477 rfl (lv_at hl 4 rfl) ?_
  refine lv_iload hx hb dL_law_1478 (lv_at hl 0 rfl) ?_
  refine lv_iconst (v := 3) hx hb dL_law_1480 (by decide) ?_
  refine lv_iadd hx hb dL_law_1481 ?_
  refine lv_topi (fun y17 ey17 => ?_)
  obtain rfl : y17 = nI (i + 3) := ey17.trans (nI_add i 3)
  refine va_sld hx hb hX hbl hbA hS (vp_in_nI (show i + 3 < L by omega) (by omega)) dL_law_1482 ?_
  refine lv_topi (fun v18 ev18 => ?_)
  obtain rfl : v7 = v18 := ev7.trans ev18.symm
  refine vz_jeqb hx hb dL_law_1483 dL_law_1486 dL_law_1487 dL_law_1490 (fun b19 hb19 => ?_)
  obtain rfl : b8 = b19 := hb8.trans hb19.symm
  refine lv_aload_n hx hb dL_law_1491 rfl (lv_at hl 4 rfl) ?_
  refine lv_iload hx hb dL_law_1492 (lv_at hl 0 rfl) ?_
  refine lv_iconst (v := 4) hx hb dL_law_1494 (by decide) ?_
  refine lv_iadd hx hb dL_law_1495 ?_
  refine lv_topi (fun y20 ey20 => ?_)
  obtain rfl : y20 = nI (i + 4) := ey20.trans (nI_add i 4)
  refine va_sld hx hb hX hbl hbA hS (vp_in_nI (show i + 4 < L by omega) (by omega)) dL_law_1496 ?_
  refine lv_topi (fun v21 ev21 => ?_)
  obtain rfl : v10 = v21 := ev10.trans ev21.symm
  refine vz_jeqb hx hb dL_law_1497 dL_law_1500 dL_law_1501 dL_law_1504 (fun b22 hb22 => ?_)
  obtain rfl : b11 = b22 := hb11.trans hb22.symm
  have hP := pA_rot hP
  have hD := dA_rot hD
  have hK := kA_rot hK
  have hPc := pA_r hP
  have hDc := dA_r hD
  have hKc := kA_r hK
  have hFc := freeA hDc hS hA
  refine va_calli (va_runV (As := [.int v2, .int b5, .int b8, .int b11]) (rest := []) ⟨hx, hb, hml, hown, hts⟩ (m_speaks l dC dI _ v2 b5 b8 b11 h7) (cwV 4 hts (wd_V wd_1293 wd_1294 wd_1295 wd_5 (wd_c wd_1296)) rfl rfl rfl (by decide +kernel) ⟨Nat.le_of_ble_eq_true rfl, Nat.le_of_ble_eq_true rfl⟩) ⟨Pw.fb, MW.recv hKc hPc h7, fun U hU hW => Pw.to hPc hDc hKc hE hS hFc hU hW⟩ rfl rfl hl.1 rfl (lv_room (Nat.le_of_ble_eq_true rfl)) dL_law_1505 ⟨(show cells + 0 ≤ 600128 by omega), (show slots + 0 ≤ 7301097 by omega)⟩) hS (fun q _ h => hFc q h) hFc (fun r7 u7 t H locs ht hvm hw7 hB hz1 hk1 hS => ?_)
  obtain ⟨wb, tb, h7, e7, gP, gK, gD⟩ := hB
  rw [ht] at gP
  obtain ⟨hP, hD⟩ := joinA hP hD hk1 hFc gP gD
  have hK := va_K.app (kA_l hK) (va_K.moved hvm.symm gK)
  have hP := pA_rot hP
  have hD := dA_rot hD
  have hK := kA_rot hK
  refine lv_pop hx hb dL_law_1508 rfl ?_
  refine lv_goto (tgt := 1827) hx hb dL_law_1509 (by decide) ?_
  refine W.widen (k := cells + 1) (n := slots + 6) (by omega) (by omega) ?_
  exact kk _ _ _ (LwS.in9 t0 T0 U0 y0 f0 iC_nodes iC_words iC_unsures iC_slips iC_throneNode iC_saidWorth fC_kind fC_parts fC_partNodes fC_weights fC_toldWorths fC_unsureWords fC_unsureWorths fS_worths fS_order iK_imageCount fI0_worths fI0_order fI1_worths fI1_order fI2_worths fI2_order iA_count fA_nodes fA_olds fA_says iC_unit fC_weightSums fC_steps fC_below fC_above iM_hasCourt fM_r fM_told fM_st fM_undone fM_kept iM_undos iM_images iM_scale iM_night wa wb ta tb kO _ q1 q2 q3 hR hCIS hSc hT h6 h7 hP hD hK) hS hl
set_option maxHeartbeats 4000000 in
set_option maxRecDepth 100000 in
theorem law_c44 {p : Program} {l : Launch} {e : Env} {s : State} {m : MethodId} {below : List Frame} {meth : Method} {c : Code} {b L : Nat} {xs : Nat → Int32} (C0 : lw_At p s m meth c b L xs) (hL : L ≤ 384) {A : Nat → Prop} (hA : ∀ q, s.heap.size ≤ q → A q) (hAs : ∀ q, A q → s.heap.size ≤ q) (hE : Ev A s s.heap) (hX9 : Ex A s s.heap) (hl8 : l.stackTraces = false) {dC : Nat → ClassId} {dI : Nat → Nat → Nat} {oK oM oO : Nat} {i cells slots : Nat} (hi : i + 6 ≤ L) (hc : cells + 1 ≤ 600128) (hs : slots + 6 ≤ 7301097) {H : Heap} {locs : List Loc} {ls : Array Slot} (hI : LwS dC dI A s H oK oM oO) (hS : va_S A s.heap H locs) (hl : lv_has ls 7 [(4, .int (nI i)), (3, .ref oO), (2, .ref oM), (1, .ref oK), (0, .ref b)]) (kk : ∀ (H : Heap) (locs : List Loc) (ls : Array Slot), LwS dC dI A s H oK oM oO → va_S A s.heap H locs → lv_has ls 7 [(4, .int (nI i)), (3, .ref oO), (2, .ref oM), (1, .ref oK), (0, .ref b)] → W p l e room_1 s m #[Value.ref b] below meth c H locs (cells + 1) (slots + 6) (lw_Z below #[Value.ref b] s) (F0 m 1827 ls [])) : W p l e room_1 s m #[Value.ref b] below meth c H locs (cells) (slots) (lw_Z below #[Value.ref b] s) (F0 m 1512 ls []) := by
  obtain ⟨hx, hb, hr, hml, hown, hts0, hX, hbl, hlocks, hgv⟩ := id C0
  have hts : ∀ w ∈ wG, w.before #[Value.ref b] s = true := fun w h => hts0 w (wG_in w h)
  have htsN : ∀ w ∈ wN, w.before #[Value.ref b] s = true := fun w h => hts0 w (wN_in w h)
  have hbA : ¬ A b := fun h => Nat.lt_irrefl _ (Nat.lt_of_lt_of_le hbl (hAs b h))
  refine LwS.elim hI (fun t0 T0 U0 y0 f0 iC_nodes iC_words iC_unsures iC_slips iC_throneNode iC_saidWorth fC_kind fC_parts fC_partNodes fC_weights fC_toldWorths fC_unsureWords fC_unsureWorths fS_worths fS_order iK_imageCount fI0_worths fI0_order fI1_worths fI1_order fI2_worths fI2_order iA_count fA_nodes fA_olds fA_says iC_unit fC_weightSums fC_steps fC_below fC_above iM_hasCourt fM_r fM_told fM_st fM_undone fM_kept iM_undos iM_images iM_scale iM_night wa wb ta tb kO fO q1 q2 q3 hR hCIS hSc hT h6 h7 hP hD hK => ?_)
  refine lv_aload_n hx hb dL_law_1512 rfl (lv_at hl 3 rfl) ?_
  refine lv_aload_n hx hb dL_law_1513 rfl (lv_at hl 4 rfl) ?_
  refine lv_iload hx hb dL_law_1514 (lv_at hl 0 rfl) ?_
  refine lv_iconst (v := 1) hx hb dL_law_1516 (by decide) ?_
  refine lv_iadd hx hb dL_law_1517 ?_
  refine lv_topi (fun y1 ey1 => ?_)
  obtain rfl : y1 = nI (i + 1) := ey1.trans (nI_add i 1)
  refine va_sld hx hb hX hbl hbA hS (vp_in_nI (show i + 1 < L by omega) (by omega)) dL_law_1518 ?_
  refine lv_topi (fun v2 ev2 => ?_)
  have hPc := pA_r hP
  have hDc := dA_r hD
  have hKc := kA_r hK
  have hFc := freeA hDc hS hA
  refine va_calli (va_runV (As := [.int v2]) (rest := []) ⟨hx, hb, hml, hown, hts⟩ (k_rests l dC dI _ v2 h6) (cwV 1 hts (wd_V wd_1300 wd_1301 wd_1302 wd_2 (wd_c wd_1303)) rfl rfl rfl (by decide +kernel) ⟨Nat.le_of_ble_eq_true rfl, Nat.le_of_ble_eq_true rfl⟩) ⟨Pw.fb, KW.recv hKc hPc h6, fun U hU hW => Pw.to hPc hDc hKc hE hS hFc hU hW⟩ rfl rfl hl.1 rfl (lv_room (Nat.le_of_ble_eq_true rfl)) dL_law_1519 ⟨(show cells + 0 ≤ 600128 by omega), (show slots + 0 ≤ 7301097 by omega)⟩) hS (fun q _ h => hFc q h) hFc (fun r6 u6 t H locs ht hvm hw6 hB hz1 hk1 hS => ?_)
  obtain ⟨wa, ta, h6, e6, gP, gK, gD⟩ := hB
  rw [ht] at gP
  obtain ⟨hP, hD⟩ := joinA hP hD hk1 hFc gP gD
  have hK := va_K.app (kA_l hK) (va_K.moved hvm.symm gK)
  refine lv_pop hx hb dL_law_1522 rfl ?_
  refine lv_aload_n hx hb dL_law_1523 rfl (lv_at hl 2 rfl) ?_
  refine lv_aload_n hx hb dL_law_1524 rfl (lv_at hl 4 rfl) ?_
  refine lv_iload hx hb dL_law_1525 (lv_at hl 0 rfl) ?_
  refine lv_iconst (v := 1) hx hb dL_law_1527 (by decide) ?_
  refine lv_iadd hx hb dL_law_1528 ?_
  refine lv_topi (fun y3 ey3 => ?_)
  obtain rfl : y3 = nI (i + 1) := ey3.trans (nI_add i 1)
  refine va_sld hx hb hX hbl hbA hS (vp_in_nI (show i + 1 < L by omega) (by omega)) dL_law_1529 ?_
  refine lv_topi (fun v4 ev4 => ?_)
  obtain rfl : v2 = v4 := ev2.trans ev4.symm
  have hP := pA_rot hP
  have hD := dA_rot hD
  have hK := kA_rot hK
  have hPc := pA_r hP
  have hDc := dA_r hD
  have hKc := kA_r hK
  have hFc := freeA hDc hS hA
  refine va_calli (va_runV (As := [.int v2]) (rest := []) ⟨hx, hb, hml, hown, hts⟩ (m_rests l dC dI _ v2 h7) (cwV 1 hts (wd_V wd_1307 wd_1308 wd_1309 wd_5 (wd_c wd_1310)) rfl rfl rfl (by decide +kernel) ⟨Nat.le_of_ble_eq_true rfl, Nat.le_of_ble_eq_true rfl⟩) ⟨Pw.fb, MW.recv hKc hPc h7, fun U hU hW => Pw.to hPc hDc hKc hE hS hFc hU hW⟩ rfl rfl hl.1 rfl (lv_room (Nat.le_of_ble_eq_true rfl)) dL_law_1530 ⟨(show cells + 0 ≤ 600128 by omega), (show slots + 0 ≤ 7301097 by omega)⟩) hS (fun q _ h => hFc q h) hFc (fun r7 u7 t H locs ht hvm hw7 hB hz1 hk1 hS => ?_)
  obtain ⟨wb, tb, h7, e7, gP, gK, gD⟩ := hB
  rw [ht] at gP
  obtain ⟨hP, hD⟩ := joinA hP hD hk1 hFc gP gD
  have hK := va_K.app (kA_l hK) (va_K.moved hvm.symm gK)
  have hP := pA_rot hP
  have hD := dA_rot hD
  have hK := kA_rot hK
  refine lv_pop hx hb dL_law_1533 rfl ?_
  refine lv_goto (tgt := 1827) hx hb dL_law_1534 (by decide) ?_
  refine W.widen (k := cells + 1) (n := slots + 6) (by omega) (by omega) ?_
  exact kk _ _ _ (LwS.in9 t0 T0 U0 y0 f0 iC_nodes iC_words iC_unsures iC_slips iC_throneNode iC_saidWorth fC_kind fC_parts fC_partNodes fC_weights fC_toldWorths fC_unsureWords fC_unsureWorths fS_worths fS_order iK_imageCount fI0_worths fI0_order fI1_worths fI1_order fI2_worths fI2_order iA_count fA_nodes fA_olds fA_says iC_unit fC_weightSums fC_steps fC_below fC_above iM_hasCourt fM_r fM_told fM_st fM_undone fM_kept iM_undos iM_images iM_scale iM_night wa wb ta tb kO _ q1 q2 q3 hR hCIS hSc hT h6 h7 hP hD hK) hS hl
set_option maxHeartbeats 4000000 in
set_option maxRecDepth 100000 in
theorem law_c45 {p : Program} {l : Launch} {e : Env} {s : State} {m : MethodId} {below : List Frame} {meth : Method} {c : Code} {b L : Nat} {xs : Nat → Int32} (C0 : lw_At p s m meth c b L xs) (hL : L ≤ 384) {A : Nat → Prop} (hA : ∀ q, s.heap.size ≤ q → A q) (hAs : ∀ q, A q → s.heap.size ≤ q) (hE : Ev A s s.heap) (hX9 : Ex A s s.heap) (hl8 : l.stackTraces = false) {dC : Nat → ClassId} {dI : Nat → Nat → Nat} {oK oM oO : Nat} {i cells slots : Nat} (hi : i + 6 ≤ L) (hc : cells + 1 ≤ 600128) (hs : slots + 6 ≤ 7301097) {H : Heap} {locs : List Loc} {ls : Array Slot} (hI : LwS dC dI A s H oK oM oO) (hS : va_S A s.heap H locs) (hl : lv_has ls 7 [(4, .int (nI i)), (3, .ref oO), (2, .ref oM), (1, .ref oK), (0, .ref b)]) (kk : ∀ (H : Heap) (locs : List Loc) (ls : Array Slot), LwS dC dI A s H oK oM oO → va_S A s.heap H locs → lv_has ls 7 [(4, .int (nI i)), (3, .ref oO), (2, .ref oM), (1, .ref oK), (0, .ref b)] → W p l e room_1 s m #[Value.ref b] below meth c H locs (cells + 1) (slots + 6) (lw_Z below #[Value.ref b] s) (F0 m 1827 ls [])) : W p l e room_1 s m #[Value.ref b] below meth c H locs (cells) (slots) (lw_Z below #[Value.ref b] s) (F0 m 1537 ls []) := by
  obtain ⟨hx, hb, hr, hml, hown, hts0, hX, hbl, hlocks, hgv⟩ := id C0
  have hts : ∀ w ∈ wG, w.before #[Value.ref b] s = true := fun w h => hts0 w (wG_in w h)
  have htsN : ∀ w ∈ wN, w.before #[Value.ref b] s = true := fun w h => hts0 w (wN_in w h)
  have hbA : ¬ A b := fun h => Nat.lt_irrefl _ (Nat.lt_of_lt_of_le hbl (hAs b h))
  refine LwS.elim hI (fun t0 T0 U0 y0 f0 iC_nodes iC_words iC_unsures iC_slips iC_throneNode iC_saidWorth fC_kind fC_parts fC_partNodes fC_weights fC_toldWorths fC_unsureWords fC_unsureWorths fS_worths fS_order iK_imageCount fI0_worths fI0_order fI1_worths fI1_order fI2_worths fI2_order iA_count fA_nodes fA_olds fA_says iC_unit fC_weightSums fC_steps fC_below fC_above iM_hasCourt fM_r fM_told fM_st fM_undone fM_kept iM_undos iM_images iM_scale iM_night wa wb ta tb kO fO q1 q2 q3 hR hCIS hSc hT h6 h7 hP hD hK => ?_)
  refine lv_aload_n hx hb dL_law_1537 rfl (lv_at hl 3 rfl) ?_
  refine lv_aload_n hx hb dL_law_1538 rfl (lv_at hl 4 rfl) ?_
  refine lv_iload hx hb dL_law_1539 (lv_at hl 0 rfl) ?_
  refine lv_iconst (v := 1) hx hb dL_law_1541 (by decide) ?_
  refine lv_iadd hx hb dL_law_1542 ?_
  refine lv_topi (fun y1 ey1 => ?_)
  obtain rfl : y1 = nI (i + 1) := ey1.trans (nI_add i 1)
  refine va_sld hx hb hX hbl hbA hS (vp_in_nI (show i + 1 < L by omega) (by omega)) dL_law_1543 ?_
  refine lv_topi (fun v2 ev2 => ?_)
  have hPc := pA_r hP
  have hDc := dA_r hD
  have hKc := kA_r hK
  have hFc := freeA hDc hS hA
  refine va_calli (va_runV (As := [.int v2]) (rest := []) ⟨hx, hb, hml, hown, hts⟩ (k_rest l dC dI _ v2 h6) (cwV 1 hts (wd_V wd_1316 wd_1317 wd_1318 wd_2 (wd_c wd_1319)) rfl rfl rfl (by decide +kernel) ⟨Nat.le_of_ble_eq_true rfl, Nat.le_of_ble_eq_true rfl⟩) ⟨Pw.fb, KW.recv hKc hPc h6, fun U hU hW => Pw.to hPc hDc hKc hE hS hFc hU hW⟩ rfl rfl hl.1 rfl (lv_room (Nat.le_of_ble_eq_true rfl)) dL_law_1544 ⟨(show cells + 0 ≤ 600128 by omega), (show slots + 0 ≤ 7301097 by omega)⟩) hS (fun q _ h => hFc q h) hFc (fun r6 u6 t H locs ht hvm hw6 hB hz1 hk1 hS => ?_)
  obtain ⟨wa, ta, h6, e6, gP, gK, gD⟩ := hB
  rw [ht] at gP
  obtain ⟨hP, hD⟩ := joinA hP hD hk1 hFc gP gD
  have hK := va_K.app (kA_l hK) (va_K.moved hvm.symm gK)
  refine lv_pop hx hb dL_law_1547 rfl ?_
  refine lv_aload_n hx hb dL_law_1548 rfl (lv_at hl 2 rfl) ?_
  refine lv_aload_n hx hb dL_law_1549 rfl (lv_at hl 4 rfl) ?_
  refine lv_iload hx hb dL_law_1550 (lv_at hl 0 rfl) ?_
  refine lv_iconst (v := 1) hx hb dL_law_1552 (by decide) ?_
  refine lv_iadd hx hb dL_law_1553 ?_
  refine lv_topi (fun y3 ey3 => ?_)
  obtain rfl : y3 = nI (i + 1) := ey3.trans (nI_add i 1)
  refine va_sld hx hb hX hbl hbA hS (vp_in_nI (show i + 1 < L by omega) (by omega)) dL_law_1554 ?_
  refine lv_topi (fun v4 ev4 => ?_)
  obtain rfl : v2 = v4 := ev2.trans ev4.symm
  have hP := pA_rot hP
  have hD := dA_rot hD
  have hK := kA_rot hK
  have hPc := pA_r hP
  have hDc := dA_r hD
  have hKc := kA_r hK
  have hFc := freeA hDc hS hA
  refine va_calli (va_runV (As := [.int v2]) (rest := []) ⟨hx, hb, hml, hown, hts⟩ (m_rest l dC dI _ v2 h7) (cwV 1 hts (wd_V wd_1320 wd_1321 wd_1322 wd_5 (wd_c wd_1323)) rfl rfl rfl (by decide +kernel) ⟨Nat.le_of_ble_eq_true rfl, Nat.le_of_ble_eq_true rfl⟩) ⟨Pw.fb, MW.recv hKc hPc h7, fun U hU hW => Pw.to hPc hDc hKc hE hS hFc hU hW⟩ rfl rfl hl.1 rfl (lv_room (Nat.le_of_ble_eq_true rfl)) dL_law_1555 ⟨(show cells + 0 ≤ 600128 by omega), (show slots + 0 ≤ 7301097 by omega)⟩) hS (fun q _ h => hFc q h) hFc (fun r7 u7 t H locs ht hvm hw7 hB hz1 hk1 hS => ?_)
  obtain ⟨wb, tb, h7, e7, gP, gK, gD⟩ := hB
  rw [ht] at gP
  obtain ⟨hP, hD⟩ := joinA hP hD hk1 hFc gP gD
  have hK := va_K.app (kA_l hK) (va_K.moved hvm.symm gK)
  have hP := pA_rot hP
  have hD := dA_rot hD
  have hK := kA_rot hK
  refine lv_pop hx hb dL_law_1558 rfl ?_
  refine lv_goto (tgt := 1827) hx hb dL_law_1559 (by decide) ?_
  refine W.widen (k := cells + 1) (n := slots + 6) (by omega) (by omega) ?_
  exact kk _ _ _ (LwS.in9 t0 T0 U0 y0 f0 iC_nodes iC_words iC_unsures iC_slips iC_throneNode iC_saidWorth fC_kind fC_parts fC_partNodes fC_weights fC_toldWorths fC_unsureWords fC_unsureWorths fS_worths fS_order iK_imageCount fI0_worths fI0_order fI1_worths fI1_order fI2_worths fI2_order iA_count fA_nodes fA_olds fA_says iC_unit fC_weightSums fC_steps fC_below fC_above iM_hasCourt fM_r fM_told fM_st fM_undone fM_kept iM_undos iM_images iM_scale iM_night wa wb ta tb kO _ q1 q2 q3 hR hCIS hSc hT h6 h7 hP hD hK) hS hl
set_option maxHeartbeats 4000000 in
set_option maxRecDepth 100000 in
theorem law_c46 {p : Program} {l : Launch} {e : Env} {s : State} {m : MethodId} {below : List Frame} {meth : Method} {c : Code} {b L : Nat} {xs : Nat → Int32} (C0 : lw_At p s m meth c b L xs) (hL : L ≤ 384) {A : Nat → Prop} (hA : ∀ q, s.heap.size ≤ q → A q) (hAs : ∀ q, A q → s.heap.size ≤ q) (hE : Ev A s s.heap) (hX9 : Ex A s s.heap) (hl8 : l.stackTraces = false) {dC : Nat → ClassId} {dI : Nat → Nat → Nat} {oK oM oO : Nat} {i cells slots : Nat} (hi : i + 6 ≤ L) (hc : cells + 1 ≤ 600128) (hs : slots + 6 ≤ 7301097) {H : Heap} {locs : List Loc} {ls : Array Slot} (hI : LwS dC dI A s H oK oM oO) (hS : va_S A s.heap H locs) (hl : lv_has ls 7 [(4, .int (nI i)), (3, .ref oO), (2, .ref oM), (1, .ref oK), (0, .ref b)]) (kk : ∀ (H : Heap) (locs : List Loc) (ls : Array Slot), LwS dC dI A s H oK oM oO → va_S A s.heap H locs → lv_has ls 7 [(4, .int (nI i)), (3, .ref oO), (2, .ref oM), (1, .ref oK), (0, .ref b)] → W p l e room_1 s m #[Value.ref b] below meth c H locs (cells + 1) (slots + 6) (lw_Z below #[Value.ref b] s) (F0 m 1827 ls [])) : W p l e room_1 s m #[Value.ref b] below meth c H locs (cells) (slots) (lw_Z below #[Value.ref b] s) (F0 m 1562 ls []) := by
  obtain ⟨hx, hb, hr, hml, hown, hts0, hX, hbl, hlocks, hgv⟩ := id C0
  have hts : ∀ w ∈ wG, w.before #[Value.ref b] s = true := fun w h => hts0 w (wG_in w h)
  have htsN : ∀ w ∈ wN, w.before #[Value.ref b] s = true := fun w h => hts0 w (wN_in w h)
  have hbA : ¬ A b := fun h => Nat.lt_irrefl _ (Nat.lt_of_lt_of_le hbl (hAs b h))
  refine LwS.elim hI (fun t0 T0 U0 y0 f0 iC_nodes iC_words iC_unsures iC_slips iC_throneNode iC_saidWorth fC_kind fC_parts fC_partNodes fC_weights fC_toldWorths fC_unsureWords fC_unsureWorths fS_worths fS_order iK_imageCount fI0_worths fI0_order fI1_worths fI1_order fI2_worths fI2_order iA_count fA_nodes fA_olds fA_says iC_unit fC_weightSums fC_steps fC_below fC_above iM_hasCourt fM_r fM_told fM_st fM_undone fM_kept iM_undos iM_images iM_scale iM_night wa wb ta tb kO fO q1 q2 q3 hR hCIS hSc hT h6 h7 hP hD hK => ?_)
  have hM0 := MW_R h7
  refine lv_aload_n hx hb dL_law_1562 rfl (lv_at hl 3 rfl) ?_
  refine lv_aload_n hx hb dL_law_1563 rfl (lv_at hl 4 rfl) ?_
  refine lv_iload hx hb dL_law_1564 (lv_at hl 0 rfl) ?_
  refine lv_iconst (v := 1) hx hb dL_law_1566 (by decide) ?_
  refine lv_iadd hx hb dL_law_1567 ?_
  refine lv_topi (fun y1 ey1 => ?_)
  obtain rfl : y1 = nI (i + 1) := ey1.trans (nI_add i 1)
  refine va_sld hx hb hX hbl hbA hS (vp_in_nI (show i + 1 < L by omega) (by omega)) dL_law_1568 ?_
  refine lv_topi (fun v2 ev2 => ?_)
  refine lv_aload_n hx hb dL_law_1569 rfl (lv_at hl 4 rfl) ?_
  refine lv_iload hx hb dL_law_1570 (lv_at hl 0 rfl) ?_
  refine lv_iconst (v := 2) hx hb dL_law_1572 (by decide) ?_
  refine lv_iadd hx hb dL_law_1573 ?_
  refine lv_topi (fun y3 ey3 => ?_)
  obtain rfl : y3 = nI (i + 2) := ey3.trans (nI_add i 2)
  refine va_sld hx hb hX hbl hbA hS (vp_in_nI (show i + 2 < L by omega) (by omega)) dL_law_1574 ?_
  refine lv_topi (fun v4 ev4 => ?_)
  have hPc := pA_r hP
  have hDc := dA_r hD
  have hKc := kA_r hK
  have hFc := freeA hDc hS hA
  refine va_calli (va_runV (As := [.int v2, .int v4]) (rest := []) ⟨hx, hb, hml, hown, hts⟩ (k_drawn l dC dI _ v2 v4 h6) (cwV 2 hts (wd_V wd_1324 wd_1325 wd_1326 wd_2 (wd_c wd_1327)) rfl rfl rfl (by decide +kernel) ⟨Nat.le_of_ble_eq_true rfl, Nat.le_of_ble_eq_true rfl⟩) ⟨Pw.fb, KW.recv hKc hPc h6, fun U hU hW => Pw.to hPc hDc hKc hE hS hFc hU hW⟩ rfl rfl hl.1 rfl (lv_room (Nat.le_of_ble_eq_true rfl)) dL_law_1575 ⟨(show cells + 0 ≤ 600128 by omega), (show slots + 0 ≤ 7301097 by omega)⟩) hS (fun q _ h => hFc q h) hFc (fun r6 u6 t H locs ht hvm hw6 hB hz1 hk1 hS => ?_)
  obtain ⟨wa, ta, h6, e6, gP, gK, gD⟩ := hB
  rw [ht] at gP
  obtain ⟨hP, hD⟩ := joinA hP hD hk1 hFc gP gD
  have hK := va_K.app (kA_l hK) (va_K.moved hvm.symm gK)
  refine lv_pop hx hb dL_law_1578 rfl ?_
  refine lv_aload_n hx hb dL_law_1579 rfl (lv_at hl 2 rfl) ?_
  refine lv_aload_n hx hb dL_law_1580 rfl (lv_at hl 4 rfl) ?_
  refine lv_iload hx hb dL_law_1581 (lv_at hl 0 rfl) ?_
  refine lv_iconst (v := 1) hx hb dL_law_1583 (by decide) ?_
  refine lv_iadd hx hb dL_law_1584 ?_
  refine lv_topi (fun y5 ey5 => ?_)
  obtain rfl : y5 = nI (i + 1) := ey5.trans (nI_add i 1)
  refine va_sld hx hb hX hbl hbA hS (vp_in_nI (show i + 1 < L by omega) (by omega)) dL_law_1585 ?_
  refine lv_topi (fun v6 ev6 => ?_)
  obtain rfl : v2 = v6 := ev2.trans ev6.symm
  refine lv_aload_n hx hb dL_law_1586 rfl (lv_at hl 4 rfl) ?_
  refine lv_iload hx hb dL_law_1587 (lv_at hl 0 rfl) ?_
  refine lv_iconst (v := 2) hx hb dL_law_1589 (by decide) ?_
  refine lv_iadd hx hb dL_law_1590 ?_
  refine lv_topi (fun y7 ey7 => ?_)
  obtain rfl : y7 = nI (i + 2) := ey7.trans (nI_add i 2)
  refine va_sld hx hb hX hbl hbA hS (vp_in_nI (show i + 2 < L by omega) (by omega)) dL_law_1591 ?_
  refine lv_topi (fun v8 ev8 => ?_)
  obtain rfl : v4 = v8 := ev4.trans ev8.symm
  have hP := pA_rot hP
  have hD := dA_rot hD
  have hK := kA_rot hK
  have hPc := pA_r hP
  have hDc := dA_r hD
  have hKc := kA_r hK
  have hFc := freeA hDc hS hA
  refine va_calli (va_runV (As := [.int v2, .int v4]) (rest := []) ⟨hx, hb, hml, hown, hts⟩ (m_drawn l dC dI _ v2 v4 h7) (cwV 2 hts (wd_V wd_1342 wd_1343 wd_1344 wd_5 (wd_c wd_1345)) rfl rfl rfl (by decide +kernel) ⟨Nat.le_of_ble_eq_true rfl, Nat.le_of_ble_eq_true rfl⟩) ⟨Pw.fb, MW.recv hKc hPc h7, fun U hU hW => Pw.to hPc hDc hKc hE hS hFc hU hW⟩ rfl rfl hl.1 rfl (lv_room (Nat.le_of_ble_eq_true rfl)) dL_law_1592 ⟨(show cells + 0 ≤ 600128 by omega), (show slots + 0 ≤ 7301097 by omega)⟩) hS (fun q _ h => hFc q h) hFc (fun r7 u7 t H locs ht hvm hw7 hB hz1 hk1 hS => ?_)
  obtain ⟨wb, tb, h7, e7, gP, gK, gD⟩ := hB
  rw [ht] at gP
  obtain ⟨hP, hD⟩ := joinA hP hD hk1 hFc gP gD
  have hK := va_K.app (kA_l hK) (va_K.moved hvm.symm gK)
  have hP := pA_rot hP
  have hD := dA_rot hD
  have hK := kA_rot hK
  refine lv_pop hx hb dL_law_1595 rfl ?_
  refine lv_goto (tgt := 1827) hx hb dL_law_1596 (by decide) ?_
  refine W.widen (k := cells + 1) (n := slots + 6) (by omega) (by omega) ?_
  exact kk _ _ _ (LwS.in9 t0 T0 U0 y0 f0 iC_nodes iC_words iC_unsures iC_slips iC_throneNode iC_saidWorth fC_kind fC_parts fC_partNodes fC_weights fC_toldWorths fC_unsureWords fC_unsureWorths fS_worths fS_order iK_imageCount fI0_worths fI0_order fI1_worths fI1_order fI2_worths fI2_order iA_count fA_nodes fA_olds fA_says iC_unit fC_weightSums fC_steps fC_below fC_above iM_hasCourt fM_r fM_told fM_st fM_undone fM_kept iM_undos iM_images iM_scale iM_night wa wb ta tb kO _ q1 q2 q3 hR hCIS hSc hT h6 h7 hP hD hK) hS hl
set_option maxHeartbeats 4000000 in
set_option maxRecDepth 100000 in
theorem law_c47 {p : Program} {l : Launch} {e : Env} {s : State} {m : MethodId} {below : List Frame} {meth : Method} {c : Code} {b L : Nat} {xs : Nat → Int32} (C0 : lw_At p s m meth c b L xs) (hL : L ≤ 384) {A : Nat → Prop} (hA : ∀ q, s.heap.size ≤ q → A q) (hAs : ∀ q, A q → s.heap.size ≤ q) (hE : Ev A s s.heap) (hX9 : Ex A s s.heap) (hl8 : l.stackTraces = false) {dC : Nat → ClassId} {dI : Nat → Nat → Nat} {oK oM oO : Nat} {i cells slots : Nat} (hi : i + 6 ≤ L) (hc : cells + 1 ≤ 600128) (hs : slots + 6 ≤ 7301097) {H : Heap} {locs : List Loc} {ls : Array Slot} (hI : LwS dC dI A s H oK oM oO) (hS : va_S A s.heap H locs) (hl : lv_has ls 7 [(4, .int (nI i)), (3, .ref oO), (2, .ref oM), (1, .ref oK), (0, .ref b)]) (kk : ∀ (H : Heap) (locs : List Loc) (ls : Array Slot), LwS dC dI A s H oK oM oO → va_S A s.heap H locs → lv_has ls 7 [(4, .int (nI i)), (3, .ref oO), (2, .ref oM), (1, .ref oK), (0, .ref b)] → W p l e room_1 s m #[Value.ref b] below meth c H locs (cells + 1) (slots + 6) (lw_Z below #[Value.ref b] s) (F0 m 1827 ls [])) : W p l e room_1 s m #[Value.ref b] below meth c H locs (cells) (slots) (lw_Z below #[Value.ref b] s) (F0 m 1599 ls []) := by
  obtain ⟨hx, hb, hr, hml, hown, hts0, hX, hbl, hlocks, hgv⟩ := id C0
  have hts : ∀ w ∈ wG, w.before #[Value.ref b] s = true := fun w h => hts0 w (wG_in w h)
  have htsN : ∀ w ∈ wN, w.before #[Value.ref b] s = true := fun w h => hts0 w (wN_in w h)
  have hbA : ¬ A b := fun h => Nat.lt_irrefl _ (Nat.lt_of_lt_of_le hbl (hAs b h))
  refine LwS.elim hI (fun t0 T0 U0 y0 f0 iC_nodes iC_words iC_unsures iC_slips iC_throneNode iC_saidWorth fC_kind fC_parts fC_partNodes fC_weights fC_toldWorths fC_unsureWords fC_unsureWorths fS_worths fS_order iK_imageCount fI0_worths fI0_order fI1_worths fI1_order fI2_worths fI2_order iA_count fA_nodes fA_olds fA_says iC_unit fC_weightSums fC_steps fC_below fC_above iM_hasCourt fM_r fM_told fM_st fM_undone fM_kept iM_undos iM_images iM_scale iM_night wa wb ta tb kO fO q1 q2 q3 hR hCIS hSc hT h6 h7 hP hD hK => ?_)
  have hM0 := MW_R h7
  refine lv_aload_n hx hb dL_law_1599 rfl (lv_at hl 3 rfl) ?_
  refine lv_aload_n hx hb dL_law_1600 rfl (lv_at hl 4 rfl) ?_
  refine lv_iload hx hb dL_law_1601 (lv_at hl 0 rfl) ?_
  refine lv_iconst (v := 1) hx hb dL_law_1603 (by decide) ?_
  refine lv_iadd hx hb dL_law_1604 ?_
  refine lv_topi (fun y1 ey1 => ?_)
  obtain rfl : y1 = nI (i + 1) := ey1.trans (nI_add i 1)
  refine va_sld hx hb hX hbl hbA hS (vp_in_nI (show i + 1 < L by omega) (by omega)) dL_law_1605 ?_
  refine lv_topi (fun v2 ev2 => ?_)
  refine lv_aload_n hx hb dL_law_1606 rfl (lv_at hl 4 rfl) ?_
  refine lv_iload hx hb dL_law_1607 (lv_at hl 0 rfl) ?_
  refine lv_iconst (v := 2) hx hb dL_law_1609 (by decide) ?_
  refine lv_iadd hx hb dL_law_1610 ?_
  refine lv_topi (fun y3 ey3 => ?_)
  obtain rfl : y3 = nI (i + 2) := ey3.trans (nI_add i 2)
  refine va_sld hx hb hX hbl hbA hS (vp_in_nI (show i + 2 < L by omega) (by omega)) dL_law_1611 ?_
  refine lv_topi (fun v4 ev4 => ?_)
  have hPc := pA_r hP
  have hDc := dA_r hD
  have hKc := kA_r hK
  have hFc := freeA hDc hS hA
  refine va_calli (va_runV (As := [.int v2, .int v4]) (rest := []) ⟨hx, hb, hml, hown, hts⟩ (k_drawnLeast l dC dI _ v2 v4 h6) (cwV 2 hts (wd_V wd_1353 wd_1354 wd_1355 wd_2 (wd_c wd_1356)) rfl rfl rfl (by decide +kernel) ⟨Nat.le_of_ble_eq_true rfl, Nat.le_of_ble_eq_true rfl⟩) ⟨Pw.fb, KW.recv hKc hPc h6, fun U hU hW => Pw.to hPc hDc hKc hE hS hFc hU hW⟩ rfl rfl hl.1 rfl (lv_room (Nat.le_of_ble_eq_true rfl)) dL_law_1612 ⟨(show cells + 0 ≤ 600128 by omega), (show slots + 0 ≤ 7301097 by omega)⟩) hS (fun q _ h => hFc q h) hFc (fun r6 u6 t H locs ht hvm hw6 hB hz1 hk1 hS => ?_)
  obtain ⟨wa, ta, h6, e6, gP, gK, gD⟩ := hB
  rw [ht] at gP
  obtain ⟨hP, hD⟩ := joinA hP hD hk1 hFc gP gD
  have hK := va_K.app (kA_l hK) (va_K.moved hvm.symm gK)
  refine lv_pop hx hb dL_law_1615 rfl ?_
  refine lv_aload_n hx hb dL_law_1616 rfl (lv_at hl 2 rfl) ?_
  refine lv_aload_n hx hb dL_law_1617 rfl (lv_at hl 4 rfl) ?_
  refine lv_iload hx hb dL_law_1618 (lv_at hl 0 rfl) ?_
  refine lv_iconst (v := 1) hx hb dL_law_1620 (by decide) ?_
  refine lv_iadd hx hb dL_law_1621 ?_
  refine lv_topi (fun y5 ey5 => ?_)
  obtain rfl : y5 = nI (i + 1) := ey5.trans (nI_add i 1)
  refine va_sld hx hb hX hbl hbA hS (vp_in_nI (show i + 1 < L by omega) (by omega)) dL_law_1622 ?_
  refine lv_topi (fun v6 ev6 => ?_)
  obtain rfl : v2 = v6 := ev2.trans ev6.symm
  refine lv_aload_n hx hb dL_law_1623 rfl (lv_at hl 4 rfl) ?_
  refine lv_iload hx hb dL_law_1624 (lv_at hl 0 rfl) ?_
  refine lv_iconst (v := 2) hx hb dL_law_1626 (by decide) ?_
  refine lv_iadd hx hb dL_law_1627 ?_
  refine lv_topi (fun y7 ey7 => ?_)
  obtain rfl : y7 = nI (i + 2) := ey7.trans (nI_add i 2)
  refine va_sld hx hb hX hbl hbA hS (vp_in_nI (show i + 2 < L by omega) (by omega)) dL_law_1628 ?_
  refine lv_topi (fun v8 ev8 => ?_)
  obtain rfl : v4 = v8 := ev4.trans ev8.symm
  have hP := pA_rot hP
  have hD := dA_rot hD
  have hK := kA_rot hK
  have hPc := pA_r hP
  have hDc := dA_r hD
  have hKc := kA_r hK
  have hFc := freeA hDc hS hA
  refine va_calli (va_runV (As := [.int v2, .int v4]) (rest := []) ⟨hx, hb, hml, hown, hts⟩ (m_drawnLeast l dC dI _ v2 v4 h7) (cwV 2 hts (wd_V wd_1357 wd_1358 wd_1359 wd_5 (wd_c wd_1360)) rfl rfl rfl (by decide +kernel) ⟨Nat.le_of_ble_eq_true rfl, Nat.le_of_ble_eq_true rfl⟩) ⟨Pw.fb, MW.recv hKc hPc h7, fun U hU hW => Pw.to hPc hDc hKc hE hS hFc hU hW⟩ rfl rfl hl.1 rfl (lv_room (Nat.le_of_ble_eq_true rfl)) dL_law_1629 ⟨(show cells + 0 ≤ 600128 by omega), (show slots + 0 ≤ 7301097 by omega)⟩) hS (fun q _ h => hFc q h) hFc (fun r7 u7 t H locs ht hvm hw7 hB hz1 hk1 hS => ?_)
  obtain ⟨wb, tb, h7, e7, gP, gK, gD⟩ := hB
  rw [ht] at gP
  obtain ⟨hP, hD⟩ := joinA hP hD hk1 hFc gP gD
  have hK := va_K.app (kA_l hK) (va_K.moved hvm.symm gK)
  have hP := pA_rot hP
  have hD := dA_rot hD
  have hK := kA_rot hK
  refine lv_pop hx hb dL_law_1632 rfl ?_
  refine lv_goto (tgt := 1827) hx hb dL_law_1633 (by decide) ?_
  refine W.widen (k := cells + 1) (n := slots + 6) (by omega) (by omega) ?_
  exact kk _ _ _ (LwS.in9 t0 T0 U0 y0 f0 iC_nodes iC_words iC_unsures iC_slips iC_throneNode iC_saidWorth fC_kind fC_parts fC_partNodes fC_weights fC_toldWorths fC_unsureWords fC_unsureWorths fS_worths fS_order iK_imageCount fI0_worths fI0_order fI1_worths fI1_order fI2_worths fI2_order iA_count fA_nodes fA_olds fA_says iC_unit fC_weightSums fC_steps fC_below fC_above iM_hasCourt fM_r fM_told fM_st fM_undone fM_kept iM_undos iM_images iM_scale iM_night wa wb ta tb kO _ q1 q2 q3 hR hCIS hSc hT h6 h7 hP hD hK) hS hl
set_option maxHeartbeats 4000000 in
set_option maxRecDepth 100000 in
theorem law_c48 {p : Program} {l : Launch} {e : Env} {s : State} {m : MethodId} {below : List Frame} {meth : Method} {c : Code} {b L : Nat} {xs : Nat → Int32} (C0 : lw_At p s m meth c b L xs) (hL : L ≤ 384) {A : Nat → Prop} (hA : ∀ q, s.heap.size ≤ q → A q) (hAs : ∀ q, A q → s.heap.size ≤ q) (hE : Ev A s s.heap) (hX9 : Ex A s s.heap) (hl8 : l.stackTraces = false) {dC : Nat → ClassId} {dI : Nat → Nat → Nat} {oK oM oO : Nat} {i cells slots : Nat} (hi : i + 6 ≤ L) (hc : cells + 1 ≤ 600128) (hs : slots + 6 ≤ 7301097) {H : Heap} {locs : List Loc} {ls : Array Slot} (hI : LwS dC dI A s H oK oM oO) (hS : va_S A s.heap H locs) (hl : lv_has ls 7 [(4, .int (nI i)), (3, .ref oO), (2, .ref oM), (1, .ref oK), (0, .ref b)]) (kk : ∀ (H : Heap) (locs : List Loc) (ls : Array Slot), LwS dC dI A s H oK oM oO → va_S A s.heap H locs → lv_has ls 7 [(4, .int (nI i)), (3, .ref oO), (2, .ref oM), (1, .ref oK), (0, .ref b)] → W p l e room_1 s m #[Value.ref b] below meth c H locs (cells + 1) (slots + 6) (lw_Z below #[Value.ref b] s) (F0 m 1827 ls [])) : W p l e room_1 s m #[Value.ref b] below meth c H locs (cells) (slots) (lw_Z below #[Value.ref b] s) (F0 m 1636 ls []) := by
  obtain ⟨hx, hb, hr, hml, hown, hts0, hX, hbl, hlocks, hgv⟩ := id C0
  have hts : ∀ w ∈ wG, w.before #[Value.ref b] s = true := fun w h => hts0 w (wG_in w h)
  have htsN : ∀ w ∈ wN, w.before #[Value.ref b] s = true := fun w h => hts0 w (wN_in w h)
  have hbA : ¬ A b := fun h => Nat.lt_irrefl _ (Nat.lt_of_lt_of_le hbl (hAs b h))
  refine LwS.elim hI (fun t0 T0 U0 y0 f0 iC_nodes iC_words iC_unsures iC_slips iC_throneNode iC_saidWorth fC_kind fC_parts fC_partNodes fC_weights fC_toldWorths fC_unsureWords fC_unsureWorths fS_worths fS_order iK_imageCount fI0_worths fI0_order fI1_worths fI1_order fI2_worths fI2_order iA_count fA_nodes fA_olds fA_says iC_unit fC_weightSums fC_steps fC_below fC_above iM_hasCourt fM_r fM_told fM_st fM_undone fM_kept iM_undos iM_images iM_scale iM_night wa wb ta tb kO fO q1 q2 q3 hR hCIS hSc hT h6 h7 hP hD hK => ?_)
  refine lv_aload_n hx hb dL_law_1636 rfl (lv_at hl 3 rfl) ?_
  refine lv_aload_n hx hb dL_law_1637 rfl (lv_at hl 4 rfl) ?_
  refine lv_iload hx hb dL_law_1638 (lv_at hl 0 rfl) ?_
  refine lv_iconst (v := 1) hx hb dL_law_1640 (by decide) ?_
  refine lv_iadd hx hb dL_law_1641 ?_
  refine lv_topi (fun y1 ey1 => ?_)
  obtain rfl : y1 = nI (i + 1) := ey1.trans (nI_add i 1)
  refine va_sld hx hb hX hbl hbA hS (vp_in_nI (show i + 1 < L by omega) (by omega)) dL_law_1642 ?_
  refine lv_topi (fun v2 ev2 => ?_)
  refine lv_aload_n hx hb dL_law_1643 rfl (lv_at hl 4 rfl) ?_
  refine lv_iload hx hb dL_law_1644 (lv_at hl 0 rfl) ?_
  refine lv_iconst (v := 2) hx hb dL_law_1646 (by decide) ?_
  refine lv_iadd hx hb dL_law_1647 ?_
  refine lv_topi (fun y3 ey3 => ?_)
  obtain rfl : y3 = nI (i + 2) := ey3.trans (nI_add i 2)
  refine va_sld hx hb hX hbl hbA hS (vp_in_nI (show i + 2 < L by omega) (by omega)) dL_law_1648 ?_
  refine lv_topi (fun v4 ev4 => ?_)
  have hPc := pA_r hP
  have hDc := dA_r hD
  have hKc := kA_r hK
  have hFc := freeA hDc hS hA
  refine va_calli (va_runV (As := [.int v2, .int v4]) (rest := []) ⟨hx, hb, hml, hown, hts⟩ (k_say l dC dI _ v2 v4 h6) (cwV 2 hts (wd_V wd_1361 wd_1362 wd_1363 wd_2 (wd_c wd_1364)) rfl rfl rfl (by decide +kernel) ⟨Nat.le_of_ble_eq_true rfl, Nat.le_of_ble_eq_true rfl⟩) ⟨Pw.fb, KW.recv hKc hPc h6, fun U hU hW => Pw.to hPc hDc hKc hE hS hFc hU hW⟩ rfl rfl hl.1 rfl (lv_room (Nat.le_of_ble_eq_true rfl)) dL_law_1649 ⟨(show cells + 0 ≤ 600128 by omega), (show slots + 0 ≤ 7301097 by omega)⟩) hS (fun q _ h => hFc q h) hFc (fun r6 u6 t H locs ht hvm hw6 hB hz1 hk1 hS => ?_)
  obtain ⟨wa, ta, z6_fS_worths, z6_iA_count, z6_fA_nodes, z6_fA_olds, z6_fA_says, h6, e6, gP, gK, gD⟩ := hB
  rw [ht] at gP
  obtain ⟨hP, hD⟩ := joinA hP hD hk1 hFc gP gD
  have hK := va_K.app (kA_l hK) (va_K.moved hvm.symm gK)
  refine lv_pop hx hb dL_law_1652 rfl ?_
  refine lv_aload_n hx hb dL_law_1653 rfl (lv_at hl 2 rfl) ?_
  refine lv_aload_n hx hb dL_law_1654 rfl (lv_at hl 4 rfl) ?_
  refine lv_iload hx hb dL_law_1655 (lv_at hl 0 rfl) ?_
  refine lv_iconst (v := 1) hx hb dL_law_1657 (by decide) ?_
  refine lv_iadd hx hb dL_law_1658 ?_
  refine lv_topi (fun y5 ey5 => ?_)
  obtain rfl : y5 = nI (i + 1) := ey5.trans (nI_add i 1)
  refine va_sld hx hb hX hbl hbA hS (vp_in_nI (show i + 1 < L by omega) (by omega)) dL_law_1659 ?_
  refine lv_topi (fun v6 ev6 => ?_)
  obtain rfl : v2 = v6 := ev2.trans ev6.symm
  refine lv_aload_n hx hb dL_law_1660 rfl (lv_at hl 4 rfl) ?_
  refine lv_iload hx hb dL_law_1661 (lv_at hl 0 rfl) ?_
  refine lv_iconst (v := 2) hx hb dL_law_1663 (by decide) ?_
  refine lv_iadd hx hb dL_law_1664 ?_
  refine lv_topi (fun y7 ey7 => ?_)
  obtain rfl : y7 = nI (i + 2) := ey7.trans (nI_add i 2)
  refine va_sld hx hb hX hbl hbA hS (vp_in_nI (show i + 2 < L by omega) (by omega)) dL_law_1665 ?_
  refine lv_topi (fun v8 ev8 => ?_)
  obtain rfl : v4 = v8 := ev4.trans ev8.symm
  have hP := pA_rot hP
  have hD := dA_rot hD
  have hK := kA_rot hK
  have hPc := pA_r hP
  have hDc := dA_r hD
  have hKc := kA_r hK
  have hFc := freeA hDc hS hA
  refine va_calli (va_runV (As := [.int v2, .int v4]) (rest := []) ⟨hx, hb, hml, hown, hts⟩ (m_say l dC dI _ v2 v4 h7) (cwV 2 hts (wd_V wd_1373 wd_1374 wd_1375 wd_5 (wd_c wd_1376)) rfl rfl rfl (by decide +kernel) ⟨Nat.le_of_ble_eq_true rfl, Nat.le_of_ble_eq_true rfl⟩) ⟨Pw.fb, MW.recv hKc hPc h7, fun U hU hW => Pw.to hPc hDc hKc hE hS hFc hU hW⟩ rfl rfl hl.1 rfl (lv_room (Nat.le_of_ble_eq_true rfl)) dL_law_1666 ⟨(show cells + 0 ≤ 600128 by omega), (show slots + 0 ≤ 7301097 by omega)⟩) hS (fun q _ h => hFc q h) hFc (fun r7 u7 t H locs ht hvm hw7 hB hz1 hk1 hS => ?_)
  obtain ⟨wb, tb, z7_iM_undos, z7_fM_st, z7_fM_undone, h7, e7, gP, gK, gD⟩ := hB
  rw [ht] at gP
  obtain ⟨hP, hD⟩ := joinA hP hD hk1 hFc gP gD
  have hK := va_K.app (kA_l hK) (va_K.moved hvm.symm gK)
  have hP := pA_rot hP
  have hD := dA_rot hD
  have hK := kA_rot hK
  refine lv_pop hx hb dL_law_1669 rfl ?_
  refine lv_goto (tgt := 1827) hx hb dL_law_1670 (by decide) ?_
  refine W.widen (k := cells + 1) (n := slots + 6) (by omega) (by omega) ?_
  obtain ⟨x6_0, e6⟩ := e6
  obtain ⟨x7_0, x7_1, e7⟩ := e7
  have hjn := say_join hR e6 e7
  obtain ⟨-, -, hR⟩ := hjn
  exact kk _ _ _ (LwS.in9 t0 T0 U0 y0 f0 iC_nodes iC_words iC_unsures iC_slips iC_throneNode iC_saidWorth fC_kind fC_parts fC_partNodes fC_weights fC_toldWorths fC_unsureWords fC_unsureWorths z6_fS_worths fS_order iK_imageCount fI0_worths fI0_order fI1_worths fI1_order fI2_worths fI2_order z6_iA_count z6_fA_nodes z6_fA_olds z6_fA_says iC_unit fC_weightSums fC_steps fC_below fC_above iM_hasCourt fM_r fM_told z7_fM_st z7_fM_undone fM_kept z7_iM_undos iM_images iM_scale iM_night wa wb ta tb kO _ q1 q2 q3 hR hCIS hSc hT h6 h7 hP hD hK) hS hl
set_option maxHeartbeats 4000000 in
set_option maxRecDepth 100000 in
theorem law_c49 {p : Program} {l : Launch} {e : Env} {s : State} {m : MethodId} {below : List Frame} {meth : Method} {c : Code} {b L : Nat} {xs : Nat → Int32} (C0 : lw_At p s m meth c b L xs) (hL : L ≤ 384) {A : Nat → Prop} (hA : ∀ q, s.heap.size ≤ q → A q) (hAs : ∀ q, A q → s.heap.size ≤ q) (hE : Ev A s s.heap) (hX9 : Ex A s s.heap) (hl8 : l.stackTraces = false) {dC : Nat → ClassId} {dI : Nat → Nat → Nat} {oK oM oO : Nat} {i cells slots : Nat} (hi : i + 6 ≤ L) (hc : cells + 1 ≤ 600128) (hs : slots + 6 ≤ 7301097) {H : Heap} {locs : List Loc} {ls : Array Slot} (hI : LwS dC dI A s H oK oM oO) (hS : va_S A s.heap H locs) (hl : lv_has ls 7 [(4, .int (nI i)), (3, .ref oO), (2, .ref oM), (1, .ref oK), (0, .ref b)]) (kk : ∀ (H : Heap) (locs : List Loc) (ls : Array Slot), LwS dC dI A s H oK oM oO → va_S A s.heap H locs → lv_has ls 7 [(4, .int (nI i)), (3, .ref oO), (2, .ref oM), (1, .ref oK), (0, .ref b)] → W p l e room_1 s m #[Value.ref b] below meth c H locs (cells + 1) (slots + 6) (lw_Z below #[Value.ref b] s) (F0 m 1827 ls [])) : W p l e room_1 s m #[Value.ref b] below meth c H locs (cells) (slots) (lw_Z below #[Value.ref b] s) (F0 m 1673 ls []) := by
  obtain ⟨hx, hb, hr, hml, hown, hts0, hX, hbl, hlocks, hgv⟩ := id C0
  have hts : ∀ w ∈ wG, w.before #[Value.ref b] s = true := fun w h => hts0 w (wG_in w h)
  have htsN : ∀ w ∈ wN, w.before #[Value.ref b] s = true := fun w h => hts0 w (wN_in w h)
  have hbA : ¬ A b := fun h => Nat.lt_irrefl _ (Nat.lt_of_lt_of_le hbl (hAs b h))
  refine LwS.elim hI (fun t0 T0 U0 y0 f0 iC_nodes iC_words iC_unsures iC_slips iC_throneNode iC_saidWorth fC_kind fC_parts fC_partNodes fC_weights fC_toldWorths fC_unsureWords fC_unsureWorths fS_worths fS_order iK_imageCount fI0_worths fI0_order fI1_worths fI1_order fI2_worths fI2_order iA_count fA_nodes fA_olds fA_says iC_unit fC_weightSums fC_steps fC_below fC_above iM_hasCourt fM_r fM_told fM_st fM_undone fM_kept iM_undos iM_images iM_scale iM_night wa wb ta tb kO fO q1 q2 q3 hR hCIS hSc hT h6 h7 hP hD hK => ?_)
  refine lv_aload_n hx hb dL_law_1673 rfl (lv_at hl 3 rfl) ?_
  refine lv_aload_n hx hb dL_law_1674 rfl (lv_at hl 4 rfl) ?_
  refine lv_iload hx hb dL_law_1675 (lv_at hl 0 rfl) ?_
  refine lv_iconst (v := 1) hx hb dL_law_1677 (by decide) ?_
  refine lv_iadd hx hb dL_law_1678 ?_
  refine lv_topi (fun y1 ey1 => ?_)
  obtain rfl : y1 = nI (i + 1) := ey1.trans (nI_add i 1)
  refine va_sld hx hb hX hbl hbA hS (vp_in_nI (show i + 1 < L by omega) (by omega)) dL_law_1679 ?_
  refine lv_topi (fun v2 ev2 => ?_)
  refine lv_aload_n hx hb dL_law_1680 rfl (lv_at hl 4 rfl) ?_
  refine lv_iload hx hb dL_law_1681 (lv_at hl 0 rfl) ?_
  refine lv_iconst (v := 2) hx hb dL_law_1683 (by decide) ?_
  refine lv_iadd hx hb dL_law_1684 ?_
  refine lv_topi (fun y3 ey3 => ?_)
  obtain rfl : y3 = nI (i + 2) := ey3.trans (nI_add i 2)
  refine va_sld hx hb hX hbl hbA hS (vp_in_nI (show i + 2 < L by omega) (by omega)) dL_law_1685 ?_
  refine lv_topi (fun v4 ev4 => ?_)
  have hPc := pA_r hP
  have hDc := dA_r hD
  have hKc := kA_r hK
  have hFc := freeA hDc hS hA
  refine va_calli (va_runV (As := [.int v2, .int v4]) (rest := []) ⟨hx, hb, hml, hown, hts⟩ (k_front l dC dI _ v2 v4 h6) (cwV 2 hts (wd_V wd_1385 wd_1386 wd_1387 wd_2 (wd_c wd_1388)) rfl rfl rfl (by decide +kernel) ⟨Nat.le_of_ble_eq_true rfl, Nat.le_of_ble_eq_true rfl⟩) ⟨Pw.fb, KW.recv hKc hPc h6, fun U hU hW => Pw.to hPc hDc hKc hE hS hFc hU hW⟩ rfl rfl hl.1 rfl (lv_room (Nat.le_of_ble_eq_true rfl)) dL_law_1686 ⟨(show cells + 0 ≤ 600128 by omega), (show slots + 0 ≤ 7301097 by omega)⟩) hS (fun q _ h => hFc q h) hFc (fun r6 u6 t H locs ht hvm hw6 hB hz1 hk1 hS => ?_)
  obtain ⟨wa, ta, z6_fS_order, z6_iA_count, z6_fA_nodes, z6_fA_olds, z6_fA_says, h6, e6, gP, gK, gD⟩ := hB
  rw [ht] at gP
  obtain ⟨hP, hD⟩ := joinA hP hD hk1 hFc gP gD
  have hK := va_K.app (kA_l hK) (va_K.moved hvm.symm gK)
  refine lv_pop hx hb dL_law_1689 rfl ?_
  refine lv_aload_n hx hb dL_law_1690 rfl (lv_at hl 2 rfl) ?_
  refine lv_aload_n hx hb dL_law_1691 rfl (lv_at hl 4 rfl) ?_
  refine lv_iload hx hb dL_law_1692 (lv_at hl 0 rfl) ?_
  refine lv_iconst (v := 1) hx hb dL_law_1694 (by decide) ?_
  refine lv_iadd hx hb dL_law_1695 ?_
  refine lv_topi (fun y5 ey5 => ?_)
  obtain rfl : y5 = nI (i + 1) := ey5.trans (nI_add i 1)
  refine va_sld hx hb hX hbl hbA hS (vp_in_nI (show i + 1 < L by omega) (by omega)) dL_law_1696 ?_
  refine lv_topi (fun v6 ev6 => ?_)
  obtain rfl : v2 = v6 := ev2.trans ev6.symm
  refine lv_aload_n hx hb dL_law_1697 rfl (lv_at hl 4 rfl) ?_
  refine lv_iload hx hb dL_law_1698 (lv_at hl 0 rfl) ?_
  refine lv_iconst (v := 2) hx hb dL_law_1700 (by decide) ?_
  refine lv_iadd hx hb dL_law_1701 ?_
  refine lv_topi (fun y7 ey7 => ?_)
  obtain rfl : y7 = nI (i + 2) := ey7.trans (nI_add i 2)
  refine va_sld hx hb hX hbl hbA hS (vp_in_nI (show i + 2 < L by omega) (by omega)) dL_law_1702 ?_
  refine lv_topi (fun v8 ev8 => ?_)
  obtain rfl : v4 = v8 := ev4.trans ev8.symm
  have hP := pA_rot hP
  have hD := dA_rot hD
  have hK := kA_rot hK
  have hPc := pA_r hP
  have hDc := dA_r hD
  have hKc := kA_r hK
  have hFc := freeA hDc hS hA
  refine va_calli (va_runV (As := [.int v2, .int v4]) (rest := []) ⟨hx, hb, hml, hown, hts⟩ (m_front l dC dI _ v2 v4 h7) (cwV 2 hts (wd_V wd_1389 wd_1390 wd_1391 wd_5 (wd_c wd_1392)) rfl rfl rfl (by decide +kernel) ⟨Nat.le_of_ble_eq_true rfl, Nat.le_of_ble_eq_true rfl⟩) ⟨Pw.fb, MW.recv hKc hPc h7, fun U hU hW => Pw.to hPc hDc hKc hE hS hFc hU hW⟩ rfl rfl hl.1 rfl (lv_room (Nat.le_of_ble_eq_true rfl)) dL_law_1703 ⟨(show cells + 0 ≤ 600128 by omega), (show slots + 0 ≤ 7301097 by omega)⟩) hS (fun q _ h => hFc q h) hFc (fun r7 u7 t H locs ht hvm hw7 hB hz1 hk1 hS => ?_)
  obtain ⟨wb, tb, z7_iM_undos, z7_fM_st, z7_fM_undone, h7, e7, gP, gK, gD⟩ := hB
  rw [ht] at gP
  obtain ⟨hP, hD⟩ := joinA hP hD hk1 hFc gP gD
  have hK := va_K.app (kA_l hK) (va_K.moved hvm.symm gK)
  have hP := pA_rot hP
  have hD := dA_rot hD
  have hK := kA_rot hK
  refine lv_pop hx hb dL_law_1706 rfl ?_
  refine lv_goto (tgt := 1827) hx hb dL_law_1707 (by decide) ?_
  refine W.widen (k := cells + 1) (n := slots + 6) (by omega) (by omega) ?_
  obtain ⟨x6_0, e6⟩ := e6
  obtain ⟨x7_0, x7_1, e7⟩ := e7
  have hjn := front_join hR e6 e7
  obtain ⟨-, -, hR⟩ := hjn
  exact kk _ _ _ (LwS.in9 t0 T0 U0 y0 f0 iC_nodes iC_words iC_unsures iC_slips iC_throneNode iC_saidWorth fC_kind fC_parts fC_partNodes fC_weights fC_toldWorths fC_unsureWords fC_unsureWorths fS_worths z6_fS_order iK_imageCount fI0_worths fI0_order fI1_worths fI1_order fI2_worths fI2_order z6_iA_count z6_fA_nodes z6_fA_olds z6_fA_says iC_unit fC_weightSums fC_steps fC_below fC_above iM_hasCourt fM_r fM_told z7_fM_st z7_fM_undone fM_kept z7_iM_undos iM_images iM_scale iM_night wa wb ta tb kO _ q1 q2 q3 hR hCIS hSc hT h6 h7 hP hD hK) hS hl
set_option maxHeartbeats 4000000 in
set_option maxRecDepth 100000 in
theorem law_c50 {p : Program} {l : Launch} {e : Env} {s : State} {m : MethodId} {below : List Frame} {meth : Method} {c : Code} {b L : Nat} {xs : Nat → Int32} (C0 : lw_At p s m meth c b L xs) (hL : L ≤ 384) {A : Nat → Prop} (hA : ∀ q, s.heap.size ≤ q → A q) (hAs : ∀ q, A q → s.heap.size ≤ q) (hE : Ev A s s.heap) (hX9 : Ex A s s.heap) (hl8 : l.stackTraces = false) {dC : Nat → ClassId} {dI : Nat → Nat → Nat} {oK oM oO : Nat} {i cells slots : Nat} (hi : i + 6 ≤ L) (hc : cells + 1 ≤ 600128) (hs : slots + 6 ≤ 7301097) {H : Heap} {locs : List Loc} {ls : Array Slot} (hI : LwS dC dI A s H oK oM oO) (hS : va_S A s.heap H locs) (hl : lv_has ls 7 [(4, .int (nI i)), (3, .ref oO), (2, .ref oM), (1, .ref oK), (0, .ref b)]) (kk : ∀ (H : Heap) (locs : List Loc) (ls : Array Slot), LwS dC dI A s H oK oM oO → va_S A s.heap H locs → lv_has ls 7 [(4, .int (nI i)), (3, .ref oO), (2, .ref oM), (1, .ref oK), (0, .ref b)] → W p l e room_1 s m #[Value.ref b] below meth c H locs (cells + 1) (slots + 6) (lw_Z below #[Value.ref b] s) (F0 m 1827 ls [])) : W p l e room_1 s m #[Value.ref b] below meth c H locs (cells) (slots) (lw_Z below #[Value.ref b] s) (F0 m 1710 ls []) := by
  obtain ⟨hx, hb, hr, hml, hown, hts0, hX, hbl, hlocks, hgv⟩ := id C0
  have hts : ∀ w ∈ wG, w.before #[Value.ref b] s = true := fun w h => hts0 w (wG_in w h)
  have htsN : ∀ w ∈ wN, w.before #[Value.ref b] s = true := fun w h => hts0 w (wN_in w h)
  have hbA : ¬ A b := fun h => Nat.lt_irrefl _ (Nat.lt_of_lt_of_le hbl (hAs b h))
  refine LwS.elim hI (fun t0 T0 U0 y0 f0 iC_nodes iC_words iC_unsures iC_slips iC_throneNode iC_saidWorth fC_kind fC_parts fC_partNodes fC_weights fC_toldWorths fC_unsureWords fC_unsureWorths fS_worths fS_order iK_imageCount fI0_worths fI0_order fI1_worths fI1_order fI2_worths fI2_order iA_count fA_nodes fA_olds fA_says iC_unit fC_weightSums fC_steps fC_below fC_above iM_hasCourt fM_r fM_told fM_st fM_undone fM_kept iM_undos iM_images iM_scale iM_night wa wb ta tb kO fO q1 q2 q3 hR hCIS hSc hT h6 h7 hP hD hK => ?_)
  refine lv_aload_n hx hb dL_law_1710 rfl (lv_at hl 3 rfl) ?_
  have hPc := pA_r hP
  have hDc := dA_r hD
  have hKc := kA_r hK
  have hFc := freeA hDc hS hA
  refine va_calli (va_runV (As := []) (rest := []) ⟨hx, hb, hml, hown, hts⟩ (k_undo l dC dI _  h6) (cwV 0 hts (wd_V wd_1393 wd_1394 wd_1395 wd_2 (wd_c wd_1396)) rfl rfl rfl (by decide +kernel) ⟨Nat.le_of_ble_eq_true rfl, Nat.le_of_ble_eq_true rfl⟩) ⟨Pw.fb, KW.recv hKc hPc h6, fun U hU hW => Pw.to hPc hDc hKc hE hS hFc hU hW⟩ rfl rfl hl.1 rfl (lv_room (Nat.le_of_ble_eq_true rfl)) dL_law_1711 ⟨(show cells + 0 ≤ 600128 by omega), (show slots + 0 ≤ 7301097 by omega)⟩) hS (fun q _ h => hFc q h) hFc (fun r6 u6 t H locs ht hvm hw6 hB hz1 hk1 hS => ?_)
  obtain ⟨wa, ta, z6_fS_worths, z6_fS_order, z6_iA_count, h6, e6, gP, gK, gD⟩ := hB
  rw [ht] at gP
  obtain ⟨hP, hD⟩ := joinA hP hD hk1 hFc gP gD
  have hK := va_K.app (kA_l hK) (va_K.moved hvm.symm gK)
  refine lv_pop hx hb dL_law_1714 rfl ?_
  refine lv_aload_n hx hb dL_law_1715 rfl (lv_at hl 2 rfl) ?_
  have hP := pA_rot hP
  have hD := dA_rot hD
  have hK := kA_rot hK
  have hPc := pA_r hP
  have hDc := dA_r hD
  have hKc := kA_r hK
  have hFc := freeA hDc hS hA
  refine va_calli (va_runV (As := []) (rest := []) ⟨hx, hb, hml, hown, hts⟩ (m_undo l dC dI _  h7) (cwV 0 hts (wd_V wd_1407 wd_1408 wd_1409 wd_5 (wd_c wd_1410)) rfl rfl rfl (by decide +kernel) ⟨Nat.le_of_ble_eq_true rfl, Nat.le_of_ble_eq_true rfl⟩) ⟨Pw.fb, MW.recv hKc hPc h7, fun U hU hW => Pw.to hPc hDc hKc hE hS hFc hU hW⟩ rfl rfl hl.1 rfl (lv_room (Nat.le_of_ble_eq_true rfl)) dL_law_1716 ⟨(show cells + 0 ≤ 600128 by omega), (show slots + 0 ≤ 7301097 by omega)⟩) hS (fun q _ h => hFc q h) hFc (fun r7 u7 t H locs ht hvm hw7 hB hz1 hk1 hS => ?_)
  obtain ⟨wb, tb, z7_iM_undos, z7_fM_st, h7, e7, gP, gK, gD⟩ := hB
  rw [ht] at gP
  obtain ⟨hP, hD⟩ := joinA hP hD hk1 hFc gP gD
  have hK := va_K.app (kA_l hK) (va_K.moved hvm.symm gK)
  have hP := pA_rot hP
  have hD := dA_rot hD
  have hK := kA_rot hK
  refine lv_pop hx hb dL_law_1719 rfl ?_
  refine lv_goto (tgt := 1827) hx hb dL_law_1720 (by decide) ?_
  refine W.widen (k := cells + 1) (n := slots + 6) (by omega) (by omega) ?_
  obtain ⟨x6_0, e6⟩ := e6
  obtain ⟨x7_0, x7_1, e7⟩ := e7
  have hjn := undo_join hR e6 e7
  obtain ⟨-, -, hR⟩ := hjn
  exact kk _ _ _ (LwS.in9 t0 T0 U0 y0 f0 iC_nodes iC_words iC_unsures iC_slips iC_throneNode iC_saidWorth fC_kind fC_parts fC_partNodes fC_weights fC_toldWorths fC_unsureWords fC_unsureWorths z6_fS_worths z6_fS_order iK_imageCount fI0_worths fI0_order fI1_worths fI1_order fI2_worths fI2_order z6_iA_count fA_nodes fA_olds fA_says iC_unit fC_weightSums fC_steps fC_below fC_above iM_hasCourt fM_r fM_told z7_fM_st fM_undone fM_kept z7_iM_undos iM_images iM_scale iM_night wa wb ta tb kO _ q1 q2 q3 hR hCIS hSc hT h6 h7 hP hD hK) hS hl
set_option maxHeartbeats 4000000 in
set_option maxRecDepth 100000 in
theorem law_c51 {p : Program} {l : Launch} {e : Env} {s : State} {m : MethodId} {below : List Frame} {meth : Method} {c : Code} {b L : Nat} {xs : Nat → Int32} (C0 : lw_At p s m meth c b L xs) (hL : L ≤ 384) {A : Nat → Prop} (hA : ∀ q, s.heap.size ≤ q → A q) (hAs : ∀ q, A q → s.heap.size ≤ q) (hE : Ev A s s.heap) (hX9 : Ex A s s.heap) (hl8 : l.stackTraces = false) {dC : Nat → ClassId} {dI : Nat → Nat → Nat} {oK oM oO : Nat} {i cells slots : Nat} (hi : i + 6 ≤ L) (hc : cells + 1 ≤ 600128) (hs : slots + 6 ≤ 7301097) {H : Heap} {locs : List Loc} {ls : Array Slot} (hI : LwS dC dI A s H oK oM oO) (hS : va_S A s.heap H locs) (hl : lv_has ls 7 [(4, .int (nI i)), (3, .ref oO), (2, .ref oM), (1, .ref oK), (0, .ref b)]) (kk : ∀ (H : Heap) (locs : List Loc) (ls : Array Slot), LwS dC dI A s H oK oM oO → va_S A s.heap H locs → lv_has ls 7 [(4, .int (nI i)), (3, .ref oO), (2, .ref oM), (1, .ref oK), (0, .ref b)] → W p l e room_1 s m #[Value.ref b] below meth c H locs (cells + 1) (slots + 6) (lw_Z below #[Value.ref b] s) (F0 m 1827 ls [])) : W p l e room_1 s m #[Value.ref b] below meth c H locs (cells) (slots) (lw_Z below #[Value.ref b] s) (F0 m 1723 ls []) := by
  obtain ⟨hx, hb, hr, hml, hown, hts0, hX, hbl, hlocks, hgv⟩ := id C0
  have hts : ∀ w ∈ wG, w.before #[Value.ref b] s = true := fun w h => hts0 w (wG_in w h)
  have htsN : ∀ w ∈ wN, w.before #[Value.ref b] s = true := fun w h => hts0 w (wN_in w h)
  have hbA : ¬ A b := fun h => Nat.lt_irrefl _ (Nat.lt_of_lt_of_le hbl (hAs b h))
  refine LwS.elim hI (fun t0 T0 U0 y0 f0 iC_nodes iC_words iC_unsures iC_slips iC_throneNode iC_saidWorth fC_kind fC_parts fC_partNodes fC_weights fC_toldWorths fC_unsureWords fC_unsureWorths fS_worths fS_order iK_imageCount fI0_worths fI0_order fI1_worths fI1_order fI2_worths fI2_order iA_count fA_nodes fA_olds fA_says iC_unit fC_weightSums fC_steps fC_below fC_above iM_hasCourt fM_r fM_told fM_st fM_undone fM_kept iM_undos iM_images iM_scale iM_night wa wb ta tb kO fO q1 q2 q3 hR hCIS hSc hT h6 h7 hP hD hK => ?_)
  refine lv_aload_n hx hb dL_law_1723 rfl (lv_at hl 3 rfl) ?_
  have hPc := pA_r hP
  have hDc := dA_r hD
  have hKc := kA_r hK
  have hFc := freeA hDc hS hA
  refine va_calli (va_runV (As := []) (rest := []) ⟨hx, hb, hml, hown, hts⟩ (k_image l dC dI _  h6) (cwV 0 hts (wd_V wd_1411 wd_1412 wd_1413 wd_2 (wd_c wd_1414)) rfl rfl rfl (by decide +kernel) ⟨Nat.le_of_ble_eq_true rfl, Nat.le_of_ble_eq_true rfl⟩) ⟨Pw.fb, KW.recv hKc hPc h6, fun U hU hW => Pw.to hPc hDc hKc hE hS hFc hU hW⟩ rfl rfl hl.1 rfl (lv_room (Nat.le_of_ble_eq_true rfl)) dL_law_1724 ⟨(show cells + 0 ≤ 600128 by omega), (show slots + 0 ≤ 7301097 by omega)⟩) hS (fun q _ h => hFc q h) hFc (fun r6 u6 t H locs ht hvm hw6 hB hz1 hk1 hS => ?_)
  obtain ⟨wa, ta, z6_iK_imageCount, z6_fI0_worths, z6_fI0_order, z6_fI1_worths, z6_fI1_order, z6_fI2_worths, z6_fI2_order, h6, e6, gP, gK, gD⟩ := hB
  rw [ht] at gP
  obtain ⟨hP, hD⟩ := joinA hP hD hk1 hFc gP gD
  have hK := va_K.app (kA_l hK) (va_K.moved hvm.symm gK)
  refine lv_pop hx hb dL_law_1727 rfl ?_
  refine lv_aload_n hx hb dL_law_1728 rfl (lv_at hl 2 rfl) ?_
  have hP := pA_rot hP
  have hD := dA_rot hD
  have hK := kA_rot hK
  have hPc := pA_r hP
  have hDc := dA_r hD
  have hKc := kA_r hK
  have hFc := freeA hDc hS hA
  refine va_calli (va_runV (As := []) (rest := []) ⟨hx, hb, hml, hown, hts⟩ (m_image l dC dI _  h7) (cwV 0 hts (wd_V wd_1415 wd_1416 wd_1417 wd_5 (wd_c wd_1418)) rfl rfl rfl (by decide +kernel) ⟨Nat.le_of_ble_eq_true rfl, Nat.le_of_ble_eq_true rfl⟩) ⟨Pw.fb, MW.recv hKc hPc h7, fun U hU hW => Pw.to hPc hDc hKc hE hS hFc hU hW⟩ rfl rfl hl.1 rfl (lv_room (Nat.le_of_ble_eq_true rfl)) dL_law_1729 ⟨(show cells + 0 ≤ 600128 by omega), (show slots + 0 ≤ 7301097 by omega)⟩) hS (fun q _ h => hFc q h) hFc (fun r7 u7 t H locs ht hvm hw7 hB hz1 hk1 hS => ?_)
  obtain ⟨wb, tb, z7_iM_images, z7_fM_kept, h7, e7, gP, gK, gD⟩ := hB
  rw [ht] at gP
  obtain ⟨hP, hD⟩ := joinA hP hD hk1 hFc gP gD
  have hK := va_K.app (kA_l hK) (va_K.moved hvm.symm gK)
  have hP := pA_rot hP
  have hD := dA_rot hD
  have hK := kA_rot hK
  refine lv_pop hx hb dL_law_1732 rfl ?_
  refine lv_goto (tgt := 1827) hx hb dL_law_1733 (by decide) ?_
  refine W.widen (k := cells + 1) (n := slots + 6) (by omega) (by omega) ?_
  obtain ⟨x6_0, e6⟩ := e6
  obtain ⟨x7_0, x7_1, e7⟩ := e7
  have hjn := image_join hR e6 e7
  obtain ⟨-, -, hR⟩ := hjn
  exact kk _ _ _ (LwS.in9 t0 T0 U0 y0 f0 iC_nodes iC_words iC_unsures iC_slips iC_throneNode iC_saidWorth fC_kind fC_parts fC_partNodes fC_weights fC_toldWorths fC_unsureWords fC_unsureWorths fS_worths fS_order z6_iK_imageCount z6_fI0_worths z6_fI0_order z6_fI1_worths z6_fI1_order z6_fI2_worths z6_fI2_order iA_count fA_nodes fA_olds fA_says iC_unit fC_weightSums fC_steps fC_below fC_above iM_hasCourt fM_r fM_told fM_st fM_undone z7_fM_kept iM_undos z7_iM_images iM_scale iM_night wa wb ta tb kO _ q1 q2 q3 hR hCIS hSc hT h6 h7 hP hD hK) hS hl
set_option maxHeartbeats 4000000 in
set_option maxRecDepth 100000 in
theorem law_c52 {p : Program} {l : Launch} {e : Env} {s : State} {m : MethodId} {below : List Frame} {meth : Method} {c : Code} {b L : Nat} {xs : Nat → Int32} (C0 : lw_At p s m meth c b L xs) (hL : L ≤ 384) {A : Nat → Prop} (hA : ∀ q, s.heap.size ≤ q → A q) (hAs : ∀ q, A q → s.heap.size ≤ q) (hE : Ev A s s.heap) (hX9 : Ex A s s.heap) (hl8 : l.stackTraces = false) {dC : Nat → ClassId} {dI : Nat → Nat → Nat} {oK oM oO : Nat} {i cells slots : Nat} (hi : i + 6 ≤ L) (hc : cells + 1 ≤ 600128) (hs : slots + 6 ≤ 7301097) {H : Heap} {locs : List Loc} {ls : Array Slot} (hI : LwS dC dI A s H oK oM oO) (hS : va_S A s.heap H locs) (hl : lv_has ls 7 [(4, .int (nI i)), (3, .ref oO), (2, .ref oM), (1, .ref oK), (0, .ref b)]) (kk : ∀ (H : Heap) (locs : List Loc) (ls : Array Slot), LwS dC dI A s H oK oM oO → va_S A s.heap H locs → lv_has ls 7 [(4, .int (nI i)), (3, .ref oO), (2, .ref oM), (1, .ref oK), (0, .ref b)] → W p l e room_1 s m #[Value.ref b] below meth c H locs (cells + 1) (slots + 6) (lw_Z below #[Value.ref b] s) (F0 m 1827 ls [])) : W p l e room_1 s m #[Value.ref b] below meth c H locs (cells) (slots) (lw_Z below #[Value.ref b] s) (F0 m 1736 ls []) := by
  obtain ⟨hx, hb, hr, hml, hown, hts0, hX, hbl, hlocks, hgv⟩ := id C0
  have hts : ∀ w ∈ wG, w.before #[Value.ref b] s = true := fun w h => hts0 w (wG_in w h)
  have htsN : ∀ w ∈ wN, w.before #[Value.ref b] s = true := fun w h => hts0 w (wN_in w h)
  have hbA : ¬ A b := fun h => Nat.lt_irrefl _ (Nat.lt_of_lt_of_le hbl (hAs b h))
  refine LwS.elim hI (fun t0 T0 U0 y0 f0 iC_nodes iC_words iC_unsures iC_slips iC_throneNode iC_saidWorth fC_kind fC_parts fC_partNodes fC_weights fC_toldWorths fC_unsureWords fC_unsureWorths fS_worths fS_order iK_imageCount fI0_worths fI0_order fI1_worths fI1_order fI2_worths fI2_order iA_count fA_nodes fA_olds fA_says iC_unit fC_weightSums fC_steps fC_below fC_above iM_hasCourt fM_r fM_told fM_st fM_undone fM_kept iM_undos iM_images iM_scale iM_night wa wb ta tb kO fO q1 q2 q3 hR hCIS hSc hT h6 h7 hP hD hK => ?_)
  refine lv_aload_n hx hb dL_law_1736 rfl (lv_at hl 3 rfl) ?_
  refine lv_aload_n hx hb dL_law_1737 rfl (lv_at hl 4 rfl) ?_
  refine lv_iload hx hb dL_law_1738 (lv_at hl 0 rfl) ?_
  refine lv_iconst (v := 1) hx hb dL_law_1740 (by decide) ?_
  refine lv_iadd hx hb dL_law_1741 ?_
  refine lv_topi (fun y1 ey1 => ?_)
  obtain rfl : y1 = nI (i + 1) := ey1.trans (nI_add i 1)
  refine va_sld hx hb hX hbl hbA hS (vp_in_nI (show i + 1 < L by omega) (by omega)) dL_law_1742 ?_
  refine lv_topi (fun v2 ev2 => ?_)
  have hPc := pA_r hP
  have hDc := dA_r hD
  have hKc := kA_r hK
  have hFc := freeA hDc hS hA
  refine va_calli (va_runV (As := [.int v2]) (rest := []) ⟨hx, hb, hml, hown, hts⟩ (k_back l dC dI _ v2 h6) (cwV 1 hts (wd_V wd_1419 wd_1420 wd_1421 wd_2 (wd_c wd_1422)) rfl rfl rfl (by decide +kernel) ⟨Nat.le_of_ble_eq_true rfl, Nat.le_of_ble_eq_true rfl⟩) ⟨Pw.fb, KW.recv hKc hPc h6, fun U hU hW => Pw.to hPc hDc hKc hE hS hFc hU hW⟩ rfl rfl hl.1 rfl (lv_room (Nat.le_of_ble_eq_true rfl)) dL_law_1743 ⟨(show cells + 0 ≤ 600128 by omega), (show slots + 0 ≤ 7301097 by omega)⟩) hS (fun q _ h => hFc q h) hFc (fun r6 u6 t H locs ht hvm hw6 hB hz1 hk1 hS => ?_)
  obtain ⟨wa, ta, z6_fS_worths, z6_fS_order, z6_iA_count, h6, e6, gP, gK, gD⟩ := hB
  rw [ht] at gP
  obtain ⟨hP, hD⟩ := joinA hP hD hk1 hFc gP gD
  have hK := va_K.app (kA_l hK) (va_K.moved hvm.symm gK)
  refine lv_pop hx hb dL_law_1746 rfl ?_
  refine lv_aload_n hx hb dL_law_1747 rfl (lv_at hl 2 rfl) ?_
  refine lv_aload_n hx hb dL_law_1748 rfl (lv_at hl 4 rfl) ?_
  refine lv_iload hx hb dL_law_1749 (lv_at hl 0 rfl) ?_
  refine lv_iconst (v := 1) hx hb dL_law_1751 (by decide) ?_
  refine lv_iadd hx hb dL_law_1752 ?_
  refine lv_topi (fun y3 ey3 => ?_)
  obtain rfl : y3 = nI (i + 1) := ey3.trans (nI_add i 1)
  refine va_sld hx hb hX hbl hbA hS (vp_in_nI (show i + 1 < L by omega) (by omega)) dL_law_1753 ?_
  refine lv_topi (fun v4 ev4 => ?_)
  obtain rfl : v2 = v4 := ev2.trans ev4.symm
  have hP := pA_rot hP
  have hD := dA_rot hD
  have hK := kA_rot hK
  have hPc := pA_r hP
  have hDc := dA_r hD
  have hKc := kA_r hK
  have hFc := freeA hDc hS hA
  refine va_calli (va_runV (As := [.int v2]) (rest := []) ⟨hx, hb, hml, hown, hts⟩ (m_back l dC dI _ v2 h7) (cwV 1 hts (wd_V wd_1423 wd_1424 wd_1425 wd_5 (wd_c wd_1426)) rfl rfl rfl (by decide +kernel) ⟨Nat.le_of_ble_eq_true rfl, Nat.le_of_ble_eq_true rfl⟩) ⟨Pw.fb, MW.recv hKc hPc h7, fun U hU hW => Pw.to hPc hDc hKc hE hS hFc hU hW⟩ rfl rfl hl.1 rfl (lv_room (Nat.le_of_ble_eq_true rfl)) dL_law_1754 ⟨(show cells + 0 ≤ 600128 by omega), (show slots + 0 ≤ 7301097 by omega)⟩) hS (fun q _ h => hFc q h) hFc (fun r7 u7 t H locs ht hvm hw7 hB hz1 hk1 hS => ?_)
  obtain ⟨wb, tb, z7_iM_undos, z7_fM_st, h7, e7, gP, gK, gD⟩ := hB
  rw [ht] at gP
  obtain ⟨hP, hD⟩ := joinA hP hD hk1 hFc gP gD
  have hK := va_K.app (kA_l hK) (va_K.moved hvm.symm gK)
  have hP := pA_rot hP
  have hD := dA_rot hD
  have hK := kA_rot hK
  refine lv_pop hx hb dL_law_1757 rfl ?_
  refine lv_goto (tgt := 1827) hx hb dL_law_1758 (by decide) ?_
  refine W.widen (k := cells + 1) (n := slots + 6) (by omega) (by omega) ?_
  obtain ⟨x6_0, e6⟩ := e6
  obtain ⟨x7_0, x7_1, e7⟩ := e7
  have hjn := back_join hR e6 e7
  obtain ⟨-, -, hR⟩ := hjn
  exact kk _ _ _ (LwS.in9 t0 T0 U0 y0 f0 iC_nodes iC_words iC_unsures iC_slips iC_throneNode iC_saidWorth fC_kind fC_parts fC_partNodes fC_weights fC_toldWorths fC_unsureWords fC_unsureWorths z6_fS_worths z6_fS_order iK_imageCount fI0_worths fI0_order fI1_worths fI1_order fI2_worths fI2_order z6_iA_count fA_nodes fA_olds fA_says iC_unit fC_weightSums fC_steps fC_below fC_above iM_hasCourt fM_r fM_told z7_fM_st fM_undone fM_kept z7_iM_undos iM_images iM_scale iM_night wa wb ta tb kO _ q1 q2 q3 hR hCIS hSc hT h6 h7 hP hD hK) hS hl
set_option maxHeartbeats 4000000 in
set_option maxRecDepth 100000 in
theorem law_c53 {p : Program} {l : Launch} {e : Env} {s : State} {m : MethodId} {below : List Frame} {meth : Method} {c : Code} {b L : Nat} {xs : Nat → Int32} (C0 : lw_At p s m meth c b L xs) (hL : L ≤ 384) {A : Nat → Prop} (hA : ∀ q, s.heap.size ≤ q → A q) (hAs : ∀ q, A q → s.heap.size ≤ q) (hE : Ev A s s.heap) (hX9 : Ex A s s.heap) (hl8 : l.stackTraces = false) {dC : Nat → ClassId} {dI : Nat → Nat → Nat} {oK oM oO : Nat} {i cells slots : Nat} (hi : i + 6 ≤ L) (hc : cells + 1 ≤ 600128) (hs : slots + 6 ≤ 7301097) {H : Heap} {locs : List Loc} {ls : Array Slot} (hI : LwS dC dI A s H oK oM oO) (hS : va_S A s.heap H locs) (hl : lv_has ls 7 [(4, .int (nI i)), (3, .ref oO), (2, .ref oM), (1, .ref oK), (0, .ref b)]) (kk : ∀ (H : Heap) (locs : List Loc) (ls : Array Slot), LwS dC dI A s H oK oM oO → va_S A s.heap H locs → lv_has ls 7 [(4, .int (nI i)), (3, .ref oO), (2, .ref oM), (1, .ref oK), (0, .ref b)] → W p l e room_1 s m #[Value.ref b] below meth c H locs (cells + 1) (slots + 6) (lw_Z below #[Value.ref b] s) (F0 m 1827 ls [])) : W p l e room_1 s m #[Value.ref b] below meth c H locs (cells) (slots) (lw_Z below #[Value.ref b] s) (F0 m 1761 ls []) := by
  obtain ⟨hx, hb, hr, hml, hown, hts0, hX, hbl, hlocks, hgv⟩ := id C0
  have hts : ∀ w ∈ wG, w.before #[Value.ref b] s = true := fun w h => hts0 w (wG_in w h)
  have htsN : ∀ w ∈ wN, w.before #[Value.ref b] s = true := fun w h => hts0 w (wN_in w h)
  have hbA : ¬ A b := fun h => Nat.lt_irrefl _ (Nat.lt_of_lt_of_le hbl (hAs b h))
  refine LwS.elim hI (fun t0 T0 U0 y0 f0 iC_nodes iC_words iC_unsures iC_slips iC_throneNode iC_saidWorth fC_kind fC_parts fC_partNodes fC_weights fC_toldWorths fC_unsureWords fC_unsureWorths fS_worths fS_order iK_imageCount fI0_worths fI0_order fI1_worths fI1_order fI2_worths fI2_order iA_count fA_nodes fA_olds fA_says iC_unit fC_weightSums fC_steps fC_below fC_above iM_hasCourt fM_r fM_told fM_st fM_undone fM_kept iM_undos iM_images iM_scale iM_night wa wb ta tb kO fO q1 q2 q3 hR hCIS hSc hT h6 h7 hP hD hK => ?_)
  refine lv_aload_n hx hb dL_law_1761 rfl (lv_at hl 3 rfl) ?_
  refine lv_aload_n hx hb dL_law_1762 rfl (lv_at hl 4 rfl) ?_
  refine lv_iload hx hb dL_law_1763 (lv_at hl 0 rfl) ?_
  refine lv_iconst (v := 1) hx hb dL_law_1765 (by decide) ?_
  refine lv_iadd hx hb dL_law_1766 ?_
  refine lv_topi (fun y1 ey1 => ?_)
  obtain rfl : y1 = nI (i + 1) := ey1.trans (nI_add i 1)
  refine va_sld hx hb hX hbl hbA hS (vp_in_nI (show i + 1 < L by omega) (by omega)) dL_law_1767 ?_
  refine lv_topi (fun v2 ev2 => ?_)
  refine lv_aload_n hx hb dL_law_1768 rfl (lv_at hl 1 rfl) ?_
  have hP := pA_rot2 hP
  have hD := dA_rot2 hD
  have hK := kA_rot2 hK
  have hPc := pA_r hP
  have hDc := dA_r hD
  have hKc := kA_r hK
  have hFc := freeA hDc hS hA
  refine va_calli (vx_runSW (As := [.ref oK, .int v2, .ref oO]) (rest := []) ⟨hx, hb, hml, hown, htsN⟩ (k_Lled l hl8 dC dI _ v2 oO kO fO h6) (vx_cwSW 3 htsN (wn_S (wn_g wd_1427) (wn_g wd_1428) (wn_g wd_1429) (wn_c (wn_e (by simp [nsE])))) rfl rfl rfl (by decide +kernel) ⟨Nat.le_of_ble_eq_true rfl, Nat.le_of_ble_eq_true rfl⟩) ⟨Px.fb, fun U hU hW => Px.to hPc hDc hKc hE hX9 hS hFc hU hW⟩ rfl rfl hl.1 rfl (lv_room (Nat.le_of_ble_eq_true rfl)) dL_law_1769 ⟨(show cells + 1 ≤ 600128 by omega), (show slots + 6 ≤ 7301097 by omega)⟩) hS (fun q _ h => hFc q h) hFc (fun r9 u9 t H locs ht hvm hw9 hB hz1 hk1 hS => ?_)
  obtain ⟨wa, ta, fO, h6, gP, gK, gD⟩ := hB
  rw [ht] at gP
  obtain ⟨hP, hD⟩ := joinA hP hD hk1 hFc gP gD
  have hK := va_K.app (kA_l hK) (va_K.moved hvm.symm gK)
  have hP := pA_rot3 hP
  have hD := dA_rot3 hD
  have hK := kA_rot3 hK
  refine lv_istore (lv' := [(5, .int r9), (4, .int (nI i)), (3, .ref oO), (2, .ref oM), (1, .ref oK), (0, .ref b)]) hx hb dL_law_1772 hl (by decide) rfl (fun ls hl => ?_)
  refine lv_aload_n hx hb dL_law_1774 rfl (lv_at hl 3 rfl) ?_
  refine lv_aload_n hx hb dL_law_1775 rfl (lv_at hl 5 rfl) ?_
  refine lv_iload hx hb dL_law_1776 (lv_at hl 1 rfl) ?_
  refine lv_iconst (v := 1) hx hb dL_law_1778 (by decide) ?_
  refine lv_iadd hx hb dL_law_1779 ?_
  refine lv_topi (fun y3 ey3 => ?_)
  obtain rfl : y3 = nI (i + 1) := ey3.trans (nI_add i 1)
  refine va_sld hx hb hX hbl hbA hS (vp_in_nI (show i + 1 < L by omega) (by omega)) dL_law_1780 ?_
  refine lv_topi (fun v4 ev4 => ?_)
  obtain rfl : v2 = v4 := ev2.trans ev4.symm
  have hP := pA_rot hP
  have hD := dA_rot hD
  have hK := kA_rot hK
  have hPc := pA_r hP
  have hDc := dA_r hD
  have hKc := kA_r hK
  have hFc := freeA hDc hS hA
  refine va_calli (va_runV (As := [.int v2]) (rest := []) ⟨hx, hb, hml, hown, hts⟩ (m_led l dC dI _ v2 h7) (cwV 1 hts (wd_V wd_1442 wd_1443 wd_1444 wd_5 (wd_c wd_1445)) rfl rfl rfl (by decide +kernel) ⟨Nat.le_of_ble_eq_true rfl, Nat.le_of_ble_eq_true rfl⟩) ⟨Pw.fb, MW.recv hKc hPc h7, fun U hU hW => Pw.to hPc hDc hKc hE hS hFc hU hW⟩ rfl rfl hl.1 rfl (lv_room (Nat.le_of_ble_eq_true rfl)) dL_law_1781 ⟨(show cells + 1 + 0 ≤ 600128 by omega), (show slots + 6 + 0 ≤ 7301097 by omega)⟩) hS (fun q _ h => hFc q h) hFc (fun r7 u7 t H locs ht hvm hw7 hB hz1 hk1 hS => ?_)
  obtain ⟨wb, tb, h7, e7, gP, gK, gD⟩ := hB
  rw [ht] at gP
  obtain ⟨hP, hD⟩ := joinA hP hD hk1 hFc gP gD
  have hK := va_K.app (kA_l hK) (va_K.moved hvm.symm gK)
  have hP := pA_rot hP
  have hD := dA_rot hD
  have hK := kA_rot hK
  refine lv_istore (lv' := [(6, .int r7), (5, .int r9), (4, .int (nI i)), (3, .ref oO), (2, .ref oM), (1, .ref oK), (0, .ref b)]) hx hb dL_law_1784 hl (by decide) rfl (fun ls hl => ?_)
  refine lv_goto (tgt := 1827) hx hb dL_law_1786 (by decide) ?_
  have hl := lv_sub hl (l' := [(4, .int (nI i)), (3, .ref oO), (2, .ref oM), (1, .ref oK), (0, .ref b)]) [2, 3, 4, 5, 6] rfl
  exact kk _ _ _ (LwS.in9 t0 T0 U0 y0 f0 iC_nodes iC_words iC_unsures iC_slips iC_throneNode iC_saidWorth fC_kind fC_parts fC_partNodes fC_weights fC_toldWorths fC_unsureWords fC_unsureWorths fS_worths fS_order iK_imageCount fI0_worths fI0_order fI1_worths fI1_order fI2_worths fI2_order iA_count fA_nodes fA_olds fA_says iC_unit fC_weightSums fC_steps fC_below fC_above iM_hasCourt fM_r fM_told fM_st fM_undone fM_kept iM_undos iM_images iM_scale iM_night wa wb ta tb kO _ q1 q2 q3 hR hCIS hSc hT h6 h7 hP hD hK) hS hl
set_option maxHeartbeats 4000000 in
set_option maxRecDepth 100000 in
theorem law_c54 {p : Program} {l : Launch} {e : Env} {s : State} {m : MethodId} {below : List Frame} {meth : Method} {c : Code} {b L : Nat} {xs : Nat → Int32} (C0 : lw_At p s m meth c b L xs) (hL : L ≤ 384) {A : Nat → Prop} (hA : ∀ q, s.heap.size ≤ q → A q) (hAs : ∀ q, A q → s.heap.size ≤ q) (hE : Ev A s s.heap) (hX9 : Ex A s s.heap) (hl8 : l.stackTraces = false) {dC : Nat → ClassId} {dI : Nat → Nat → Nat} {oK oM oO : Nat} {i cells slots : Nat} (hi : i + 6 ≤ L) (hc : cells + 1 ≤ 600128) (hs : slots + 6 ≤ 7301097) {H : Heap} {locs : List Loc} {ls : Array Slot} (hI : LwS dC dI A s H oK oM oO) (hS : va_S A s.heap H locs) (hl : lv_has ls 7 [(4, .int (nI i)), (3, .ref oO), (2, .ref oM), (1, .ref oK), (0, .ref b)]) (kk : ∀ (H : Heap) (locs : List Loc) (ls : Array Slot), LwS dC dI A s H oK oM oO → va_S A s.heap H locs → lv_has ls 7 [(4, .int (nI i)), (3, .ref oO), (2, .ref oM), (1, .ref oK), (0, .ref b)] → W p l e room_1 s m #[Value.ref b] below meth c H locs (cells + 1) (slots + 6) (lw_Z below #[Value.ref b] s) (F0 m 1827 ls [])) : W p l e room_1 s m #[Value.ref b] below meth c H locs (cells) (slots) (lw_Z below #[Value.ref b] s) (F0 m 1789 ls []) := by
  obtain ⟨hx, hb, hr, hml, hown, hts0, hX, hbl, hlocks, hgv⟩ := id C0
  have hts : ∀ w ∈ wG, w.before #[Value.ref b] s = true := fun w h => hts0 w (wG_in w h)
  have htsN : ∀ w ∈ wN, w.before #[Value.ref b] s = true := fun w h => hts0 w (wN_in w h)
  have hbA : ¬ A b := fun h => Nat.lt_irrefl _ (Nat.lt_of_lt_of_le hbl (hAs b h))
  refine LwS.elim hI (fun t0 T0 U0 y0 f0 iC_nodes iC_words iC_unsures iC_slips iC_throneNode iC_saidWorth fC_kind fC_parts fC_partNodes fC_weights fC_toldWorths fC_unsureWords fC_unsureWorths fS_worths fS_order iK_imageCount fI0_worths fI0_order fI1_worths fI1_order fI2_worths fI2_order iA_count fA_nodes fA_olds fA_says iC_unit fC_weightSums fC_steps fC_below fC_above iM_hasCourt fM_r fM_told fM_st fM_undone fM_kept iM_undos iM_images iM_scale iM_night wa wb ta tb kO fO q1 q2 q3 hR hCIS hSc hT h6 h7 hP hD hK => ?_)
  refine lv_aload_n hx hb dL_law_1789 rfl (lv_at hl 3 rfl) ?_
  refine lv_aload_n hx hb dL_law_1790 rfl (lv_at hl 4 rfl) ?_
  refine lv_iload hx hb dL_law_1791 (lv_at hl 0 rfl) ?_
  refine lv_iconst (v := 1) hx hb dL_law_1793 (by decide) ?_
  refine lv_iadd hx hb dL_law_1794 ?_
  refine lv_topi (fun y1 ey1 => ?_)
  obtain rfl : y1 = nI (i + 1) := ey1.trans (nI_add i 1)
  refine va_sld hx hb hX hbl hbA hS (vp_in_nI (show i + 1 < L by omega) (by omega)) dL_law_1795 ?_
  refine lv_topi (fun v2 ev2 => ?_)
  have hPc := pA_r hP
  have hDc := dA_r hD
  have hKc := kA_r hK
  have hFc := freeA hDc hS hA
  refine va_calli (va_runV (As := [.int v2]) (rest := []) ⟨hx, hb, hml, hown, hts⟩ (k_size l dC dI _ v2 h6) (cwV 1 hts (wd_V wd_1446 wd_1447 wd_1448 wd_2 (wd_c wd_1449)) rfl rfl rfl (by decide +kernel) ⟨Nat.le_of_ble_eq_true rfl, Nat.le_of_ble_eq_true rfl⟩) ⟨Pw.fb, KW.recv hKc hPc h6, fun U hU hW => Pw.to hPc hDc hKc hE hS hFc hU hW⟩ rfl rfl hl.1 rfl (lv_room (Nat.le_of_ble_eq_true rfl)) dL_law_1796 ⟨(show cells + 0 ≤ 600128 by omega), (show slots + 0 ≤ 7301097 by omega)⟩) hS (fun q _ h => hFc q h) hFc (fun r6 u6 t H locs ht hvm hw6 hB hz1 hk1 hS => ?_)
  obtain ⟨wa, ta, h6, e6, gP, gK, gD⟩ := hB
  rw [ht] at gP
  obtain ⟨hP, hD⟩ := joinA hP hD hk1 hFc gP gD
  have hK := va_K.app (kA_l hK) (va_K.moved hvm.symm gK)
  refine lv_pop hx hb dL_law_1799 rfl ?_
  refine lv_aload_n hx hb dL_law_1800 rfl (lv_at hl 2 rfl) ?_
  refine lv_aload_n hx hb dL_law_1801 rfl (lv_at hl 4 rfl) ?_
  refine lv_iload hx hb dL_law_1802 (lv_at hl 0 rfl) ?_
  refine lv_iconst (v := 1) hx hb dL_law_1804 (by decide) ?_
  refine lv_iadd hx hb dL_law_1805 ?_
  refine lv_topi (fun y3 ey3 => ?_)
  obtain rfl : y3 = nI (i + 1) := ey3.trans (nI_add i 1)
  refine va_sld hx hb hX hbl hbA hS (vp_in_nI (show i + 1 < L by omega) (by omega)) dL_law_1806 ?_
  refine lv_topi (fun v4 ev4 => ?_)
  obtain rfl : v2 = v4 := ev2.trans ev4.symm
  have hP := pA_rot hP
  have hD := dA_rot hD
  have hK := kA_rot hK
  have hPc := pA_r hP
  have hDc := dA_r hD
  have hKc := kA_r hK
  have hFc := freeA hDc hS hA
  refine va_calli (va_runV (As := [.int v2]) (rest := []) ⟨hx, hb, hml, hown, hts⟩ (m_size l dC dI _ v2 h7) (cwV 1 hts (wd_V wd_1452 wd_1453 wd_1454 wd_5 (wd_c wd_1455)) rfl rfl rfl (by decide +kernel) ⟨Nat.le_of_ble_eq_true rfl, Nat.le_of_ble_eq_true rfl⟩) ⟨Pw.fb, MW.recv hKc hPc h7, fun U hU hW => Pw.to hPc hDc hKc hE hS hFc hU hW⟩ rfl rfl hl.1 rfl (lv_room (Nat.le_of_ble_eq_true rfl)) dL_law_1807 ⟨(show cells + 0 ≤ 600128 by omega), (show slots + 0 ≤ 7301097 by omega)⟩) hS (fun q _ h => hFc q h) hFc (fun r7 u7 t H locs ht hvm hw7 hB hz1 hk1 hS => ?_)
  obtain ⟨wb, tb, h7, e7, gP, gK, gD⟩ := hB
  rw [ht] at gP
  obtain ⟨hP, hD⟩ := joinA hP hD hk1 hFc gP gD
  have hK := va_K.app (kA_l hK) (va_K.moved hvm.symm gK)
  have hP := pA_rot hP
  have hD := dA_rot hD
  have hK := kA_rot hK
  refine lv_pop hx hb dL_law_1810 rfl ?_
  refine lv_goto (tgt := 1827) hx hb dL_law_1811 (by decide) ?_
  refine W.widen (k := cells + 1) (n := slots + 6) (by omega) (by omega) ?_
  exact kk _ _ _ (LwS.in9 t0 T0 U0 y0 f0 iC_nodes iC_words iC_unsures iC_slips iC_throneNode iC_saidWorth fC_kind fC_parts fC_partNodes fC_weights fC_toldWorths fC_unsureWords fC_unsureWorths fS_worths fS_order iK_imageCount fI0_worths fI0_order fI1_worths fI1_order fI2_worths fI2_order iA_count fA_nodes fA_olds fA_says iC_unit fC_weightSums fC_steps fC_below fC_above iM_hasCourt fM_r fM_told fM_st fM_undone fM_kept iM_undos iM_images iM_scale iM_night wa wb ta tb kO _ q1 q2 q3 hR hCIS hSc hT h6 h7 hP hD hK) hS hl
set_option maxHeartbeats 4000000 in
set_option maxRecDepth 100000 in
theorem law_c55 {p : Program} {l : Launch} {e : Env} {s : State} {m : MethodId} {below : List Frame} {meth : Method} {c : Code} {b L : Nat} {xs : Nat → Int32} (C0 : lw_At p s m meth c b L xs) (hL : L ≤ 384) {A : Nat → Prop} (hA : ∀ q, s.heap.size ≤ q → A q) (hAs : ∀ q, A q → s.heap.size ≤ q) (hE : Ev A s s.heap) (hX9 : Ex A s s.heap) (hl8 : l.stackTraces = false) {dC : Nat → ClassId} {dI : Nat → Nat → Nat} {oK oM oO : Nat} {i cells slots : Nat} (hi : i + 6 ≤ L) (hc : cells + 1 ≤ 600128) (hs : slots + 6 ≤ 7301097) {H : Heap} {locs : List Loc} {ls : Array Slot} (hI : LwS dC dI A s H oK oM oO) (hS : va_S A s.heap H locs) (hl : lv_has ls 7 [(4, .int (nI i)), (3, .ref oO), (2, .ref oM), (1, .ref oK), (0, .ref b)]) (kk : ∀ (H : Heap) (locs : List Loc) (ls : Array Slot), LwS dC dI A s H oK oM oO → va_S A s.heap H locs → lv_has ls 7 [(4, .int (nI i)), (3, .ref oO), (2, .ref oM), (1, .ref oK), (0, .ref b)] → W p l e room_1 s m #[Value.ref b] below meth c H locs (cells + 1) (slots + 6) (lw_Z below #[Value.ref b] s) (F0 m 1827 ls [])) : W p l e room_1 s m #[Value.ref b] below meth c H locs (cells) (slots) (lw_Z below #[Value.ref b] s) (F0 m 1814 ls []) := by
  obtain ⟨hx, hb, hr, hml, hown, hts0, hX, hbl, hlocks, hgv⟩ := id C0
  have hts : ∀ w ∈ wG, w.before #[Value.ref b] s = true := fun w h => hts0 w (wG_in w h)
  have htsN : ∀ w ∈ wN, w.before #[Value.ref b] s = true := fun w h => hts0 w (wN_in w h)
  have hbA : ¬ A b := fun h => Nat.lt_irrefl _ (Nat.lt_of_lt_of_le hbl (hAs b h))
  refine LwS.elim hI (fun t0 T0 U0 y0 f0 iC_nodes iC_words iC_unsures iC_slips iC_throneNode iC_saidWorth fC_kind fC_parts fC_partNodes fC_weights fC_toldWorths fC_unsureWords fC_unsureWorths fS_worths fS_order iK_imageCount fI0_worths fI0_order fI1_worths fI1_order fI2_worths fI2_order iA_count fA_nodes fA_olds fA_says iC_unit fC_weightSums fC_steps fC_below fC_above iM_hasCourt fM_r fM_told fM_st fM_undone fM_kept iM_undos iM_images iM_scale iM_night wa wb ta tb kO fO q1 q2 q3 hR hCIS hSc hT h6 h7 hP hD hK => ?_)
  refine lv_aload_n hx hb dL_law_1814 rfl (lv_at hl 3 rfl) ?_
  have hPc := pA_r hP
  have hDc := dA_r hD
  have hKc := kA_r hK
  have hFc := freeA hDc hS hA
  refine va_calli (va_runV (As := []) (rest := []) ⟨hx, hb, hml, hown, hts⟩ (k_trouble l dC dI _  h6) (cwV 0 hts (wd_V wd_1456 wd_1457 wd_1458 wd_2 (wd_c wd_1459)) rfl rfl rfl (by decide +kernel) ⟨Nat.le_of_ble_eq_true rfl, Nat.le_of_ble_eq_true rfl⟩) ⟨Pw.fb, KW.recv hKc hPc h6, fun U hU hW => Pw.to hPc hDc hKc hE hS hFc hU hW⟩ rfl rfl hl.1 rfl (lv_room (Nat.le_of_ble_eq_true rfl)) dL_law_1815 ⟨(show cells + 0 ≤ 600128 by omega), (show slots + 0 ≤ 7301097 by omega)⟩) hS (fun q _ h => hFc q h) hFc (fun r6 u6 t H locs ht hvm hw6 hB hz1 hk1 hS => ?_)
  obtain ⟨wa, ta, h6, e6, gP, gK, gD⟩ := hB
  rw [ht] at gP
  obtain ⟨hP, hD⟩ := joinA hP hD hk1 hFc gP gD
  have hK := va_K.app (kA_l hK) (va_K.moved hvm.symm gK)
  refine lv_pop hx hb dL_law_1818 rfl ?_
  refine lv_aload_n hx hb dL_law_1819 rfl (lv_at hl 2 rfl) ?_
  have hP := pA_rot hP
  have hD := dA_rot hD
  have hK := kA_rot hK
  have hPc := pA_r hP
  have hDc := dA_r hD
  have hKc := kA_r hK
  have hFc := freeA hDc hS hA
  refine va_calli (va_runV (As := []) (rest := []) ⟨hx, hb, hml, hown, hts⟩ (m_trouble l dC dI _  h7) (cwV 0 hts (wd_V wd_1460 wd_1461 wd_1462 wd_5 (wd_c wd_1463)) rfl rfl rfl (by decide +kernel) ⟨Nat.le_of_ble_eq_true rfl, Nat.le_of_ble_eq_true rfl⟩) ⟨Pw.fb, MW.recv hKc hPc h7, fun U hU hW => Pw.to hPc hDc hKc hE hS hFc hU hW⟩ rfl rfl hl.1 rfl (lv_room (Nat.le_of_ble_eq_true rfl)) dL_law_1820 ⟨(show cells + 0 ≤ 600128 by omega), (show slots + 0 ≤ 7301097 by omega)⟩) hS (fun q _ h => hFc q h) hFc (fun r7 u7 t H locs ht hvm hw7 hB hz1 hk1 hS => ?_)
  obtain ⟨wb, tb, h7, e7, gP, gK, gD⟩ := hB
  rw [ht] at gP
  obtain ⟨hP, hD⟩ := joinA hP hD hk1 hFc gP gD
  have hK := va_K.app (kA_l hK) (va_K.moved hvm.symm gK)
  have hP := pA_rot hP
  have hD := dA_rot hD
  have hK := kA_rot hK
  refine lv_pop hx hb dL_law_1823 rfl ?_
  refine lv_goto (tgt := 1827) hx hb dL_law_1824 (by decide) ?_
  refine W.widen (k := cells + 1) (n := slots + 6) (by omega) (by omega) ?_
  exact kk _ _ _ (LwS.in9 t0 T0 U0 y0 f0 iC_nodes iC_words iC_unsures iC_slips iC_throneNode iC_saidWorth fC_kind fC_parts fC_partNodes fC_weights fC_toldWorths fC_unsureWords fC_unsureWorths fS_worths fS_order iK_imageCount fI0_worths fI0_order fI1_worths fI1_order fI2_worths fI2_order iA_count fA_nodes fA_olds fA_says iC_unit fC_weightSums fC_steps fC_below fC_above iM_hasCourt fM_r fM_told fM_st fM_undone fM_kept iM_undos iM_images iM_scale iM_night wa wb ta tb kO _ q1 q2 q3 hR hCIS hSc hT h6 h7 hP hD hK) hS hl
