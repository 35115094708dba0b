/-! turn, pivot: on both sides -/
section F11
section WQ
variable {N : Nat} {words unsures slips throne said unit : Int32} {kind parts pn wt tw uw uo r told w o st ws steps below above : Nat → Int32}
/-- the throne's worth, were the word k worth x -/
def TW (un : Int32) (kind parts pn wt ws w : Nat → Int32) (k t : Nat) (x : Int32) : Int32 := VV un kind parts pn wt ws (upd w k x) 18 t
theorem upd_self {f : Nat → Int32} {k : Nat} : upd f k (f k) = f := by
  funext q
  by_cases h : q = k
  · rw [h, upd_at]
  · rw [upd_ne h]
theorem wu_in {k : Nat} {x : Int32} (hw : ∀ k : Nat, k < N → kind k = 0 → 0 ≤ (w k).toInt ∧ (w k).toInt ≤ 99) (hx : 0 ≤ x.toInt ∧ x.toInt ≤ 99) : ∀ j : Nat, j < N → kind j = 0 → 0 ≤ (upd w k x j).toInt ∧ (upd w k x j).toInt ≤ 99 := fun j hj h0 => by
  by_cases h : j = k
  · rw [h, upd_at]; exact hx
  · rw [upd_ne h]; exact hw j hj h0
theorem tbw (hC : CR N words unsures slips throne said kind parts pn wt tw uw uo r told) (hI : CI N unit kind parts pn wt ws steps below above) (hR : ROk r) (hw : ∀ k : Nat, k < N → kind k = 0 → 0 ≤ (w k).toInt ∧ (w k).toInt ≤ 99) {un : Int32} (hs : 1 ≤ un.toInt ∧ un.toInt ≤ 1296) {t k : Nat} (hth : throne = nI t) (ht : t < N) (hk : k < N) {x : Int32} (hx : 0 ≤ x.toInt ∧ x.toInt ≤ 99) (V S : Nat → Int32) : ∃ V' S' : Nat → Int32, PX4_throneByWord V S (nI N) throne un kind parts pn wt ws w (nI k) x = (TW un kind parts pn wt ws w k t x, V', S') := by
  have hN := hI.1
  have hW : ∀ j : Nat, j < 18 → upd (va_cpy w S 0 0 18) k x j = upd w k x j := fun j hj => by
    by_cases h : j = k
    · rw [h, upd_at, upd_at]
    · rw [upd_ne h, upd_ne h]; exact cpy_q hj
  obtain ⟨G', e, -⟩ := weighV (W := upd (va_cpy w S 0 0 18) k x) hC hI hR (fun j hj h0 => by rw [hW j (by omega)]; exact wu_in hw hx j hj h0) hs hth ht V
  refine ⟨G', upd (va_cpy w S 0 0 18) k x, ?_⟩
  rw [PX4_throneByWord_eq]
  simp only [lt_ap]
  rw [hn_eq hN, if_pos (show 0 ≤ (nI k).toInt ∧ (nI k).toInt < (N : Int) by rw [nI_toInt (by omega)]; omega), if_pos rfl, nI_clamp (by omega), un2_eq e, VV_congr hI (W := upd w k x) (fun j hj _ => hW j (by omega)) 18 t ht]
  rfl
theorem StR.word (hC : CR N words unsures slips throne said kind parts pn wt tw uw uo r told) (hS : StR N parts pn w o st) {k : Nat} {x : Int32} {g : Nat → Int32} (hk : k < N) (h1 : g (72 + k) = x) (h2 : ∀ q : Nat, q < 90 → ¬ q = 72 + k → g q = st q) : StR N parts pn (upd w k x) o g := by
  have hN := hC.N.2.1
  intro j hj
  obtain ⟨a, b, c⟩ := hS j hj
  have hp := hC.p4 j hj
  refine ⟨?_, fun i hi => ?_, c⟩
  · by_cases h : j = k
    · rw [h, upd_at, h1]
    · rw [upd_ne h, h2 _ (by omega) (by omega)]; exact a
  · rw [h2 _ (by omega) (by omega)]
    exact b i hi
/-- the class's least change -/
theorem lt6 (hC : CR N words unsures slips throne said kind parts pn wt tw uw uo r told) (hI : CI N unit kind parts pn wt ws steps below above) (hR : ROk r) (hw : ∀ k : Nat, k < N → kind k = 0 → 0 ≤ (w k).toInt ∧ (w k).toInt ≤ 99) {un : Int32} (hs : 1 ≤ un.toInt ∧ un.toInt ≤ 1296) {t k wk : Nat} (hth : throne = nI t) (ht : t < N) (hk : k < N) (hwk : w k = nI wk) (hwk9 : wk ≤ 99) (V S : Nat → Int32) : ∃ (R : Int32) (V' S' : Nat → Int32), PX6_leastTurn (nI N) throne un kind parts pn wt ws w V S (nI k) = (R, V', S') ∧ TSs (hitB (fun c => TW un kind parts pn wt ws w k t (nI (wk + c))) (fun c => TW un kind parts pn wt ws w k t (nI (wk - c))) (VV un kind parts pn wt ws w 18 t) (99 - wk) wk) R := by
  have hN := hI.1
  have k99 : (99 : Int32) = nI 99 := by decide
  obtain ⟨G', e, -⟩ := weighV (W := w) hC hI hR hw hs hth ht V
  have now0 : TW un kind parts pn wt ws w k t (nI wk) = VV un kind parts pn wt ws w 18 t := by
    unfold TW
    rw [← hwk, upd_self]
  have mono : ∀ a b : Nat, a ≤ b → b ≤ 99 → (TW un kind parts pn wt ws w k t (nI a)).toInt ≤ (TW un kind parts pn wt ws w k t (nI b)).toInt := fun a b h1 h2 => by
    refine VV_mono hC hI hR (wu_in hw (by rw [nI_toInt (by omega)]; omega)) (wu_in hw (by rw [nI_toInt (by omega)]; omega)) (fun j hj _ => ?_) hs t 18 (by omega) ht
    by_cases h : j = k
    · rw [h, upd_at, upd_at, nI_toInt (by omega), nI_toInt (by omega)]; omega
    · rw [upd_ne h, upd_ne h]; exact Int.le_refl _
  obtain ⟨U, V1, S1, e1, hu⟩ := lt_eq6 (un := un) (throne := throne) (now := VV un kind parts pn wt ws w 18 t) (way := 1) (kind := kind) (parts := parts) (pn := pn) (wt := wt) (ws := ws) (w := w) (N := N) (k := k) (room := 99 - wk) (T := TW un kind parts pn wt ws w k t) (X := fun c => nI (wk + c)) (by omega) (by omega) (fun V S c hc => tbw hC hI hR hw hs hth ht hk (by show 0 ≤ (nI (wk + c)).toInt ∧ (nI (wk + c)).toInt ≤ 99; rw [nI_toInt (by omega)]; omega) V S) (fun c hc => by rw [hwk, Int32.one_mul, nI_add]) (fun c c' h1 h2 h3 h4 => by
    have a1 := mono wk (wk + c) (by omega) (by omega)
    have a2 := mono (wk + c) (wk + c') (by omega) (by omega)
    rw [now0] at a1
    have h4 : TW un kind parts pn wt ws w k t (nI (wk + c')) = VV un kind parts pn wt ws w 18 t := h4
    rw [h4] at a2
    exact h3 ((fz_eq _ _).mpr (by show (TW un kind parts pn wt ws w k t (nI (wk + c))).toInt = _; omega))) now0 G' S
  obtain ⟨D, V2, S2, e2, hd⟩ := lt_eq6 (un := un) (throne := throne) (now := VV un kind parts pn wt ws w 18 t) (way := -1) (kind := kind) (parts := parts) (pn := pn) (wt := wt) (ws := ws) (w := w) (N := N) (k := k) (room := wk) (T := TW un kind parts pn wt ws w k t) (X := fun c => nI (wk - c)) (by omega) (by omega) (fun V S c hc => tbw hC hI hR hw hs hth ht hk (by show 0 ≤ (nI (wk - c)).toInt ∧ (nI (wk - c)).toInt ≤ 99; rw [nI_toInt (by omega)]; omega) V S) (fun c hc => by
    have km1 : (-1 : Int32).toInt = -1 := by decide
    have q1 : ((-1 : Int32) * nI c).toInt = -(c : Int) := by
      rw [fb_mulI (by rw [km1, nI_toInt (by omega)]; omega) (by rw [km1, nI_toInt (by omega)]; omega), km1, nI_toInt (by omega)]
      omega
    rw [hwk, fz_eq, fb_addI (by rw [q1, nI_toInt (by omega)]; omega) (by rw [q1, nI_toInt (by omega)]; omega), q1]
    show _ = (nI (wk - c)).toInt
    rw [nI_toInt (by omega), nI_toInt (by omega)]
    omega) (fun c c' h1 h2 h3 h4 => by
    have a1 := mono (wk - c) wk (by omega) (by omega)
    have a2 := mono (wk - c') (wk - c) (by omega) (by omega)
    rw [now0] at a1
    have h4 : TW un kind parts pn wt ws w k t (nI (wk - c')) = VV un kind parts pn wt ws w 18 t := h4
    rw [h4] at a2
    exact h3 ((fz_eq _ _).mpr (by show (TW un kind parts pn wt ws w k t (nI (wk - c))).toInt = _; omega))) now0 V1 S1
  refine ⟨if U < 0 then (if U < D then D else U) else if 0 ≤ D then (if D < U then D else U) else (if U < D then D else U), V2, S2, ?_, TSs.of hu hd (by omega) (by omega) rfl⟩
  rw [PX6_leastTurn_eq, un2_eq e]
  simp only [lt_ap]
  rw [nI_clamp (show k < 2 ^ 31 by omega), hwk, k99, nI_sub' (by omega) (by omega), un3_eq e1, un3_eq e2]
  by_cases c : U < 0
  · rw [if_pos c, if_pos c]
  · rw [if_neg c, if_neg c]
    by_cases c2 : (0 : Int32) ≤ D
    · rw [if_pos c2, if_pos c2]
    · rw [if_neg c2, if_neg c2]
theorem lt7 (hC : CR N words unsures slips throne said kind parts pn wt tw uw uo r told) (hS : StR N parts pn w o st) (hI : CI N unit kind parts pn wt ws steps below above) (hR : ROk r) {un : Int32} {t k wk : Nat} (hth : r 6 = nI t) (ht : t < N) (hk : k < N) (hwk : w k = nI wk) (hwk9 : wk ≤ 99) (F : Nat → Int32) : ∃ (R : Int32) (F' : Nat → Int32), PX7_turnOf r told st un (-1) F (nI k) = (R, F') ∧ TSs (hitB (fun c => TW un kind parts pn wt ws w k t (nI (wk + c))) (fun c => TW un kind parts pn wt ws w k t (nI (wk - c))) (VV un kind parts pn wt ws w 18 t) (99 - wk) wk) R := by
  have hN := hI.1
  have h72 : st (72 + k) = nI wk := (hS k hk).1.symm.trans hwk
  obtain ⟨R, F', e, hR'⟩ := t7_loop (wk := wk) (un := un) (now := VV un kind parts pn wt ws w 18 t) (T := TW un kind parts pn wt ws w k t) (show k < 18 by omega) h72 hwk9 (fun g x g1 g2 => tv_eq hC (StR.word hC hS hk g1 g2) hI hR ht hth) 99 1 (((100 - (1 : Int32).toInt).toNat) + 1) (cpF st F (0 : Int32).toNatClampNeg (0 : Int32).toNatClampNeg (90 : Int32).toNatClampNeg) rfl (by omega) (by omega) (by rw [kc_1]; omega) (fun q q1 _ => by
    unfold cpF
    rw [zero_cl, ninety_cl, if_pos (by omega), Nat.zero_add, Nat.sub_zero]) (fun c c1 c2 => absurd c1 (by omega))
  refine ⟨R, F', ?_, hR'⟩
  rw [PX7_turnOf_eq]
  simp only [lt_ap]
  rw [tv_eq hC hS hI hR ht hth]
  exact e
end WQ
end F11
