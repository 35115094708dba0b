/-! words of which nobody is sure: the sets that fit -/
section F15
def orB (p : Nat → Bool) : Nat → Nat
  | 0 => 0
  | n + 1 => if p n then orB p n ||| n else orB p n
def anB (p : Nat → Bool) (a : Nat) : Nat → Nat
  | 0 => a
  | n + 1 => if p n then anB p a n &&& n else anB p a n
def ofB (p : Nat → Bool) (j : Nat) : Nat → Nat
  | 0 => 0
  | n + 1 => if p n && n.testBit j then ofB p j n + 1 else ofB p j n
def atB (p : Nat → Bool) (i : Int32) : Nat → Int32
  | 0 => -1
  | n + 1 => if p n = true ∧ nI (cntB p n) = i then nI n else atB p i n
theorem orB_lt {p : Nat → Bool} : ∀ n : Nat, n ≤ 16 → orB p n < 16
  | 0, _ => by show 0 < 16; decide
  | n + 1, h => by
    have ih := orB_lt (p := p) n (by omega)
    rw [orB]
    by_cases c : p n = true
    · rw [if_pos c]; exact Nat.or_lt_two_pow (n := 4) ih (by omega)
    · rw [if_neg c]; exact ih
theorem anB_le {p : Nat → Bool} {a : Nat} : ∀ n : Nat, anB p a n ≤ a
  | 0 => Nat.le_refl _
  | n + 1 => by
    have ih := anB_le (p := p) (a := a) n
    rw [anB]
    by_cases c : p n = true
    · rw [if_pos c]; exact Nat.le_trans Nat.and_le_left ih
    · rw [if_neg c]; exact ih
theorem ofB_le {p : Nat → Bool} {j : Nat} : ∀ n : Nat, ofB p j n ≤ cntB p n
  | 0 => Nat.le_refl _
  | n + 1 => by
    have ih := ofB_le (p := p) (j := j) n
    rw [ofB, cntB]
    by_cases c : p n = true
    · rw [if_pos c, c, Bool.true_and]
      by_cases d : n.testBit j = true
      · rw [if_pos d]; omega
      · rw [if_neg d]; omega
    · rw [if_neg c, Bool.eq_false_iff.mpr c, Bool.false_and, if_neg (by decide)]; exact ih
theorem u16 {U : Nat} (hU : U ≤ 4) : 1 ≤ 2 ^ U ∧ 2 ^ U ≤ 16 := by
  have h := Nat.pow_le_pow_right (n := 2) (by decide) hU
  exact ⟨Nat.two_pow_pos U, h⟩
theorem us_eq {U : Nat} (hU : U ≤ 4) : PX1_unsureSets (nI U) = nI (2 ^ U) := by
  rw [PX1_unsureSets_eq, lt_ap, bt_shl U (by omega)]
section WQ
variable {N : Nat} {words unsures slips throne said unit : Int32} {kind parts pn wt tw uw uo r told W W' o Q ws steps below above : Nat → Int32}
/-- whether the set s of slips fits what was said -/
def FT (said unit : Int32) (kind parts pn wt ws uw uo tw : Nat → Int32) (U t s : Nat) : Bool := decide (said.toInt < 0 ∨ TU unit kind parts pn wt ws uw uo tw U t s / unit = said)
theorem FT_n {U t s : Nat} (h : said.toInt < 0) : FT said unit kind parts pn wt ws uw uo tw U t s = true := decide_eq_true (Or.inl h)
theorem FT_s {U t s : Nat} (h : ¬ said.toInt < 0) : FT said unit kind parts pn wt ws uw uo tw U t s = decide (TU unit kind parts pn wt ws uw uo tw U t s / unit = said) := by
  unfold FT
  by_cases c : TU unit kind parts pn wt ws uw uo tw U t s / unit = said
  · rw [decide_eq_true c, decide_eq_true (Or.inr c)]
  · rw [decide_eq_false c, decide_eq_false (fun q => q.elim h c)]
theorem df_eq (hC : CR N words unsures slips throne said kind parts pn wt tw uw uo r told) (hI : CI N unit kind parts pn wt ws steps below above) (hR : ROk r) {U s t : Nat} (hU : U ≤ 4) (hu : unsures = nI U) (hs : s < 16) (hth : r 6 = nI t) (ht : t < N) (hun : 1 ≤ unit.toInt ∧ unit.toInt ≤ 1296) (T : Nat → Int32) : ∃ Q' : Nat → Int32, PX7_doesFit r told unit (-1) T (nI s) = (if FT said unit kind parts pn wt ws uw uo tw U t s then 1 else 0, Q') := by
  obtain ⟨hN0, hN, -⟩ := hC.N
  have hS : StR N parts pn tw (fun q => nI (q % 4)) told := StR_told hC (fun _ _ => rfl) (fun j i _ hi => by show nI ((4 * j + i) % 4) = nI i; congr 1; omega) (fun _ _ => rfl)
  obtain ⟨Q', e, hQ'⟩ := tu7 hC hR hU hu hs hS T
  have r4 : (r 4).toInt = said.toInt + 1 := hC.2.2.2.2.2.2.2.1
  have rs := hC.2.2.2.2.2.2.2.2.2.1
  refine ⟨Q', ?_⟩
  rw [PX7_doesFit_eq, e]
  simp only [lt_ap]
  rw [four_cl]
  by_cases c : said.toInt < 0
  · rw [if_pos (show r 4 = 0 by rw [fz_eq, r4, kc_0]; omega), FT_n c, if_pos rfl]
  · have e1 : r 4 - 1 = said := by rw [fz_eq, fb_subI (by rw [r4, kc_1]; omega) (by rw [r4, kc_1]; omega), r4, kc_1]; omega
    rw [if_neg (show ¬ r 4 = 0 by rw [fz_eq, r4, kc_0]; omega), e1, tv_eq hC hQ' hI hR ht hth, FT_s c]
    show (if TU unit kind parts pn wt ws uw uo tw U t s / unit = said then ((1 : Int32), Q') else (0, Q')) = _
    by_cases d : TU unit kind parts pn wt ws uw uo tw U t s / unit = said
    · rw [if_pos d, decide_eq_true d, if_pos rfl]
    · rw [if_neg d, decide_eq_false d, if_neg (by decide)]
theorem fs_loop (hC : CR N words unsures slips throne said kind parts pn wt tw uw uo r told) (hI : CI N unit kind parts pn wt ws steps below above) (hR : ROk r) {U t : Nat} (hU : U ≤ 4) (hu : ∀ j : Nat, j < U → 0 ≤ (uo j).toInt ∧ (uo j).toInt ≤ 99) (hd : ∀ j : Nat, j < U → (uw j).toNatClampNeg < 18) (hW : ∀ k : Nat, k < N → kind k = 0 → 0 ≤ (tw k).toInt ∧ (tw k).toInt ≤ 99) (hun : 1 ≤ unit.toInt ∧ unit.toInt ≤ 1296) (hth : throne = nI t) (ht : t < N) : ∀ (m s f : Nat) (V S : Nat → Int32), 2 ^ U - s = m → s ≤ 2 ^ U → m < f → ∃ L' G' : Nat → Int32, HX6_fittingSets_0 (nI N) (nI U) throne said unit kind parts pn wt ws tw uw uo f (nI s) (nI (FB (FT said unit kind parts pn wt ws uw uo tw U t) s)) V S = (nI (FB (FT said unit kind parts pn wt ws uw uo tw U t) (2 ^ U)), L', G') := by
  have h16 := u16 hU
  intro m
  induction m with
  | zero =>
    intro s f V S hm hs hf
    obtain ⟨f, rfl⟩ : ∃ g, f = g + 1 := ⟨f - 1, by omega⟩
    obtain rfl : s = 2 ^ U := by omega
    exact ⟨V, S, by rw [HX6_fittingSets_0_eq, lt_ap, us_eq hU, if_pos (nI_le (Nat.le_refl _) (by omega))]⟩
  | succ m ih =>
    intro s f V S hm hs hf
    obtain ⟨f, rfl⟩ : ∃ g, f = g + 1 := ⟨f - 1, by omega⟩
    obtain ⟨L', G', e⟩ := tu6 hC hI hR hU hu hd hW (show s < 16 by omega) hun hth ht V S
    rw [HX6_fittingSets_0_eq, lt_ap, us_eq hU, if_neg (show ¬ nI (2 ^ U) ≤ nI s by rw [nI_leI (by omega) (by omega)]; omega), un3_eq e]
    simp only [lt_ap]
    rw [bt_shl s (by omega), bt_or, nI_o1]
    have hn := ih (s + 1) f L' G' (by omega) (by omega) (by omega)
    by_cases c : said.toInt < 0
    · rw [if_pos (show said < 0 by rw [fz_lt, kc_0]; exact c)]
      rw [FB, if_pos (FT_n c)] at hn
      exact hn
    · rw [if_neg (show ¬ said < 0 by rw [fz_lt, kc_0]; exact c), PX6_wholeOf_eq, lt_ap, if_neg (show ¬ unit ≤ 0 by rw [fz_le, kc_0]; omega)]
      by_cases d : TU unit kind parts pn wt ws uw uo tw U t s / unit = said
      · rw [if_pos d]
        rw [FB, if_pos (by rw [FT_s c]; exact decide_eq_true d)] at hn
        exact hn
      · rw [if_neg d]
        rw [FB, if_neg (by rw [FT_s c]; exact fun q => d (of_decide_eq_true q))] at hn
        exact hn
end WQ
end F15
