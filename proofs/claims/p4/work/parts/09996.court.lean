/-! court(n) on both sides -/
section CC
variable {T U : Nat → Int32} {t : Nat} {keys : Nat → Int64}
theorem TR.le {a b : Nat} (h : TR T U b) (hab : a ≤ b) : TR T U a := fun j hj => h j (by omega)
theorem court_pure (hK : KwOk keys) (hT : TR T U t) (ht : t ≤ 900) (p : Int32)   : (PX6_court ).1 = (PX7_court ).1 ∧ (iK_latestFault = iM_fault → (PX6_court ).2.2.2.1 = (PX7_court ).2.2.2.2.2.2.2.2.2.1) ∧ (PX6_court ).2.2.1 = (PX7_court ).2.2.2.2.2.2.2.2.2.2.2.1 ∧ ((PX6_court ).2.2.1 = 4 → (PX6_court ).2.2.2.2.1 = (PX7_court ).2.2.2.2.2.2.2.2.2.2.1) ∧ (((PX6_court ).2.2.2.2.2.2.2.2.2.2.1 = nI t ∧ (PX7_court ).2.2.1 = nI t) ∨ ((PX6_court ).2.2.2.2.2.2.2.2.2.2.1 = 0 ∧ (PX7_court ).2.2.1 = 0)) := by
  rw [PX6_court_eq, PX7_court_eq, PX7_good_eq, un2_eq rfl, in_eq]
  dsimp only [lt_]
  rw [kc_0, nI_toInt (by omega)]
  have hrf : ∀ q : Int32, PX6_refuse q = (-1, q) := fun q => PX6_refuse_eq q
  by_cases h0 : p.toInt < 0
  · rw [if_pos (show p < 0 by rw [fz_lt, kc_0]; exact h0), if_neg (by omega), if_pos rfl, hrf, no_eq, un2_eq rfl, un2_eq rfl]
    exact ⟨rfl, fun e => e, rfl, fun e => absurd e (by decide), Or.inl ⟨rfl, rfl⟩⟩
  · rw [if_neg (show ¬ p < 0 by rw [fz_lt, kc_0]; exact h0)]
    by_cases h1 : p.toInt ≤ t
    · obtain ⟨n, hn, rfl⟩ : ∃ n : Nat, n ≤ t ∧ p = nI n := ⟨p.toInt.toNat, by omega, by rw [fz_eq, nI_toInt (by omega)]; omega⟩
      rw [if_pos (show nI n ≤ nI t by rw [nI_leI (by omega) (by omega)]; exact hn), if_pos (by rw [nI_toInt (by omega)]; omega), if_neg (show ¬ (1 : Int32) = 0 by decide)]
      generalize hc : PX3_reads _ _ _ _ _ _ _ _ _ _ _ _ _ _ _ _ _ = c
      generalize hm : HX7_court_0 _ _ _ _ _ _ _ _ _ _ _ _ _ _ _ _ _ _ _ = m
      have hz := text_sim hK (hT.le hn) (by omega) iR_tokenName iR_tokenWhole fR_names fD_kind fD_parts fD_partNodes fD_weights fD_weightSums fD_toldWorths fD_steps fD_below fD_above fD_unsureWords fD_unsureWorths iM_place iM_hasCourt iM_undos iM_images iM_scale 0 0 iM_fresherSize fM_letters fM_r fM_told fM_st fM_fresh fM_read fM_fresher
      rw [hc, hm] at hz
      obtain ⟨c0, c1, c2, c3, c4, c5, c6, c7, c8, c9, c10, c11, c12, c13, c14, c15, c16, c17, c18, c19, c20, c21, c22, c23, c24, c25, c26, c27, c28, c29, c30, c31⟩ := c
      rw [un32_eq rfl]
      rcases hz with ⟨z1, z2, z3, z4, z5, z6, z7⟩ | ⟨z1, z2, z3, z4, z5, z6, z7⟩
      · obtain rfl : c0 = 1 := z1
        rw [if_neg (show ¬ (1 : Int32) = 0 by decide)]
        generalize PX5_standAsTold _ _ _ = d
        obtain ⟨d1, d2⟩ := d
        rw [un2_eq rfl]
        refine ⟨z3.symm, fun _ => ?_, ?_, fun e => absurd e (by show ¬ (0 : Int32) = 4; decide), Or.inr ⟨z6, z7⟩⟩
        · exact (show c1 = 0 from z2).trans z4.symm
        · exact z5.symm
      · obtain rfl : c0 = 0 := z1
        rw [if_pos rfl, hrf, un2_eq rfl]
        exact ⟨z2.symm, fun _ => z3.symm, z5.symm, fun _ => z4.symm, Or.inr ⟨z6, z7⟩⟩
    · rw [if_neg (show ¬ p ≤ nI t by rw [fz_le, nI_toInt (by omega)]; exact h1), if_neg (by omega), if_pos rfl, hrf, no_eq, un2_eq rfl, un2_eq rfl]
      exact ⟨rfl, fun e => e, rfl, fun e => absurd e (by decide), Or.inl ⟨rfl, rfl⟩⟩
end CC
/-- what court does to the tape, the fault and the answer, whatever else lies there -/
def CtC (T : Nat → Int32) (keys : Nat → Int64) (iR_tapeSize iK_latestFault p r ts lf : Int32) : Prop := ∃ , (PX6_court ).1 = r ∧ (PX6_court ).2.2.2.2.2.2.2.2.2.2.1 = ts ∧ (PX6_court ).2.2.2.1 = lf
def CtM (U : Nat → Int32) (iM_taped iM_fault p r ts lf : Int32) : Prop := ∃ , (PX7_court ).1 = r ∧ (PX7_court ).2.2.1 = ts ∧ (PX7_court ).2.2.2.2.2.2.2.2.2.1 = lf
theorem ct_join {T U : Nat → Int32} {t : Nat} {keys : Nat → Int64} (hK : KwOk keys) (hT : TR T U t) (ht : t ≤ 900) {lf p r6 a6 l6 r7 a7 l7 : Int32} (h6 : CtC T keys (nI t) lf p r6 a6 l6) (h7 : CtM U (nI t) lf p r7 a7 l7) : r6 = r7 ∧ l6 = l7 ∧ ∃ t2 : Nat, t2 ≤ 900 ∧ a6 = nI t2 ∧ a7 = nI t2 ∧ TR T U t2 := by
  obtain ⟨, x1, x2, x3⟩ := h6
  obtain ⟨, y1, y2, y3⟩ := h7
  obtain ⟨e1, e2, -, -, e5⟩ := court_pure hK hT ht p  
  have e2 := e2 rfl
  rw [x1, y1] at e1
  rw [x3, y3] at e2
  rw [x2, y2] at e5
  refine ⟨e1, e2, ?_⟩
  rcases e5 with ⟨q1, q2⟩ | ⟨q1, q2⟩
  · exact ⟨t, ht, q1, q2, hT⟩
  · exact ⟨0, by omega, q1, q2, fun j hj => absurd hj (by omega)⟩
