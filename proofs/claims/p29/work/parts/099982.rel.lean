/-! the court that stands, the stand, acts and images, on both sides -/
section D2
theorem hn_eq {N : Nat} (hN : N ≤ 18) (p : Int32) : PX1_hasNode (nI N) p = if 0 ≤ p.toInt ∧ p.toInt < (N : Int) then 1 else 0 := by
  rw [PX1_hasNode_eq]
  by_cases h0 : p.toInt < 0
  · rw [if_pos (show p < 0 by rw [fz_lt, kc_0]; exact h0), if_neg (show ¬ (0 ≤ p.toInt ∧ p.toInt < (N : Int)) by omega)]
  · rw [if_neg (show ¬ p < 0 by rw [fz_lt, kc_0]; exact h0)]
    by_cases h1 : (N : Int) ≤ p.toInt
    · rw [if_pos (show nI N ≤ p by rw [fz_le, nI_toInt (by omega)]; exact h1), if_neg (show ¬ (0 ≤ p.toInt ∧ p.toInt < (N : Int)) by omega)]
    · rw [if_neg (show ¬ nI N ≤ p by rw [fz_le, nI_toInt (by omega)]; exact h1), if_pos (show 0 ≤ p.toInt ∧ p.toInt < (N : Int) by omega)]
theorem nI_m1 {N : Nat} (h : 0 < N) : nI N - (1 : Int32) = nI (N - 1) := by
  obtain ⟨M, rfl⟩ : ∃ M, N = M + 1 := ⟨N - 1, by omega⟩
  exact nI_pred M
theorem rn_eq {N : Nat} {r : Nat → Int32} (hN0 : 0 < N) (hN : N ≤ 18) (hr : r 1 = nI N) (p : Int32) : PX7_isNode 1 r p = if 0 ≤ p.toInt ∧ p.toInt < (N : Int) then 1 else 0 := by
  rw [PX7_isNode_eq, if_neg (show ¬ (1 : Int32) = 0 by decide)]
  dsimp only [lt_]
  rw [one_cl, hr, nI_m1 hN0, in_eq, kc_0, nI_toInt (by omega)]
  by_cases h : 0 ≤ p.toInt ∧ p.toInt < (N : Int)
  · rw [if_pos (show 0 ≤ p.toInt ∧ p.toInt ≤ ((N - 1 : Nat) : Int) by omega), if_neg (show ¬ (1 : Int32) = 0 by decide), if_pos h]
  · rw [if_neg (show ¬ (0 ≤ p.toInt ∧ p.toInt ≤ ((N - 1 : Nat) : Int)) by omega), if_pos rfl, if_neg h]
theorem rn_0 (r : Nat → Int32) (p : Int32) : PX7_isNode 0 r p = 0 := by rw [PX7_isNode_eq, if_pos rfl]
theorem hn_0 (p : Int32) : PX1_hasNode 0 p = 0 := by
  have h := hn_eq (N := 0) (by omega) p
  rw [nI_0, if_neg (show ¬ (0 ≤ p.toInt ∧ p.toInt < ((0 : Nat) : Int)) by omega)] at h
  exact h
theorem nd_of {N : Nat} {p : Int32} (hN : N ≤ 18) (h : 0 ≤ p.toInt ∧ p.toInt < (N : Int)) : ∃ k : Nat, k < N ∧ p = nI k := ⟨p.toInt.toNat, by omega, by rw [fz_eq, nI_toInt (by omega)]; omega⟩
theorem lc_0 : PX6_lacksCourt 0 = (1, 1) := by rw [PX6_lacksCourt_eq, if_pos (by decide)]
theorem lc_N {N : Nat} (hN0 : 0 < N) (hN : N ≤ 18) : PX6_lacksCourt (nI N) = (0, 0) := by rw [PX6_lacksCourt_eq, if_neg (nI_nle hN0 (by omega))]
theorem ln_N {N : Nat} (hN0 : 0 < N) (hN : N ≤ 18) (p lo hi : Int32) : PX6_lacksNumber (nI N) p lo hi = if lo.toInt ≤ p.toInt ∧ p.toInt ≤ hi.toInt then (0, 0) else (1, 2) := by
  rw [PX6_lacksNumber_eq, lc_N hN0 hN, un2_eq rfl, if_pos rfl]
  by_cases h0 : p.toInt < lo.toInt
  · rw [if_pos ((fz_lt _ _).mpr h0), if_neg (by omega)]
  · rw [if_neg (fun q => h0 ((fz_lt _ _).mp q))]
    by_cases h1 : hi.toInt < p.toInt
    · rw [if_pos ((fz_lt _ _).mpr h1), if_neg (by omega)]
    · rw [if_neg (fun q => h1 ((fz_lt _ _).mp q)), if_pos (by omega)]
theorem ln_0 (p lo hi : Int32) : PX6_lacksNumber 0 p lo hi = (1, 1) := by rw [PX6_lacksNumber_eq, lc_0, un2_eq rfl, if_neg (by decide)]
/-- a court that was read and stands -/
def CR (N : Nat) (words unsures slips throne said : Int32) (kind parts pn wt tw uw uo r told : Nat → Int32) : Prop :=
  0 < N ∧ N ≤ 18 ∧ r 1 = nI N ∧ r 2 = words ∧ r 3 = unsures ∧ r 0 = slips ∧ r 6 = throne ∧ (r 4).toInt = said.toInt + 1 ∧ (0 ≤ throne.toInt ∧ throne.toInt < (N : Int)) ∧ (-1 ≤ said.toInt ∧ said.toInt ≤ 99) ∧ (∃ Q : Nat, Q ≤ 4 ∧ unsures = nI Q ∧ UR Q uw uo r) ∧ KR N kind parts pn wt tw r told
def ImR (N : Nat) (parts pn iw0 io0 iw1 io1 iw2 io2 kept : Nat → Int32) (d : Nat) : Prop := (0 < d → StR N parts pn iw0 io0 (fun q => kept q)) ∧ (1 < d → StR N parts pn iw1 io1 (fun q => kept (90 + q))) ∧ (2 < d → StR N parts pn iw2 io2 (fun q => kept (180 + q)))
def Rel (nodes words unsures slips throne said : Int32) (kind parts pn wt tw uw uo w o : Nat → Int32) (ic : Int32) (iw0 io0 iw1 io1 iw2 io2 : Nat → Int32) (ac : Int32) (an ao as : Nat → Int32) (hc : Int32) (r told st und kept : Nat → Int32) (undos images : Int32) : Prop := (nodes = 0 ∧ words = 0 ∧ unsures = 0 ∧ slips = 0 ∧ said = -1 ∧ ic = 0 ∧ ac = 0 ∧ hc = 0 ∧ undos = 0 ∧ images = 0) ∨ ∃ N c d : Nat, nodes = nI N ∧ hc = 1 ∧ ac = nI c ∧ undos = nI c ∧ c ≤ 16 ∧ ic = nI d ∧ images = nI d ∧ d ≤ 3 ∧ CR N words unsures slips throne said kind parts pn wt tw uw uo r told ∧ StR N parts pn w o st ∧ UnR N parts pn an ao as und c w o ∧ ImR N parts pn iw0 io0 iw1 io1 iw2 io2 kept d
theorem CR.N {N : Nat} {words unsures slips throne said : Int32} {kind parts pn wt tw uw uo r told : Nat → Int32} (h : CR N words unsures slips throne said kind parts pn wt tw uw uo r told) : 0 < N ∧ N ≤ 18 ∧ r 1 = nI N := ⟨h.1, h.2.1, h.2.2.1⟩
theorem CR.k {N : Nat} {words unsures slips throne said : Int32} {kind parts pn wt tw uw uo r told : Nat → Int32} (h : CR N words unsures slips throne said kind parts pn wt tw uw uo r told) {k : Nat} (hk : k < N) : kind k = r (9 + k) ∧ parts k = r (27 + k) ∧ 0 ≤ (parts k).toInt ∧ (parts k).toInt ≤ 4 ∧ ∀ i : Nat, (i : Int) < (parts k).toInt → pn (4 * k + i) = told (4 * k + i) ∧ wt (4 * k + i) = r (45 + 4 * k + i) := by
  obtain ⟨-, -, -, -, -, -, -, -, -, -, -, hK⟩ := h
  obtain ⟨h1, h2, -, h4, h5, h6⟩ := hK.1 k hk
  rw [h2]
  exact ⟨h1, rfl, h4, h5, h6⟩
theorem CR.p4 {N : Nat} {words unsures slips throne said : Int32} {kind parts pn wt tw uw uo r told : Nat → Int32} (h : CR N words unsures slips throne said kind parts pn wt tw uw uo r told) : ∀ k : Nat, k < N → (parts k).toInt ≤ 4 := fun k hk => (h.k hk).2.2.2.1
section RL
variable {nodes words unsures slips throne said : Int32} {kind parts pn wt tw uw uo w o : Nat → Int32} {ic : Int32} {iw0 io0 iw1 io1 iw2 io2 : Nat → Int32} {ac : Int32} {an ao as : Nat → Int32} {hc : Int32} {r told st und kept : Nat → Int32} {undos images : Int32}
theorem say_sim (h : Rel nodes words unsures slips throne said kind parts pn wt tw uw uo w o ic iw0 io0 iw1 io1 iw2 io2 ac an ao as hc r told st und kept undos images) (p0 p1 : Int32) : ∃ (q f : Int32) (w2 : Nat → Int32) (ac2 : Int32) (an2 ao2 as2 : Nat → Int32) (t1 : Int32) (und2 st2 : Nat → Int32), PX6_say nodes kind w ac an ao as p0 p1 = (q, f, w2, ac2, an2, ao2, as2) ∧ PX7_say hc r st und undos p0 p1 = (q, t1, f, ac2, st2, und2) ∧ Rel nodes words unsures slips throne said kind parts pn wt tw uw uo w2 o ic iw0 io0 iw1 io1 iw2 io2 ac2 an2 ao2 as2 hc r told st2 und2 kept ac2 images := by
  rcases h with ⟨rfl, hx⟩ | ⟨N, c, d, rfl, rfl, rfl, rfl, hc, rfl, rfl, hd, hC, hS, hU, hI⟩
  · obtain ⟨h2, h3, h4, h5, h6, rfl, rfl, rfl, h10⟩ := hx
    refine ⟨0, 1, w, 0, an, ao, as, 0, und, st, ?_, ?_, Or.inl ⟨rfl, h2, h3, h4, h5, h6, rfl, rfl, rfl, h10⟩⟩
    · rw [PX6_say_eq, PX6_lacksWord_eq, PX1_hasWord_eq]
      dsimp only [lt_]
      rw [hn_0, if_neg (show ¬ (0 : Int32) = 1 by decide), if_neg (show ¬ (0 : Int32) = 1 by decide), un2_eq rfl, if_neg (show ¬ (1 : Int32) = 0 by decide)]
    · rw [PX7_say_eq, PX7_good_eq, un2_eq rfl, PX7_isWordNode_eq]
      dsimp only [lt_]
      rw [rn_0, if_neg (show ¬ (0 : Int32) = 1 by decide), if_neg (show ¬ (0 : Int32) = 1 by decide), PX7_isNot_eq, un2_eq rfl]
  · obtain ⟨hN0, hN, hr⟩ := hC.N
    have hp := hC.p4
    have hsame : Rel (nI N) words unsures slips throne said kind parts pn wt tw uw uo w o (nI d) iw0 io0 iw1 io1 iw2 io2 (nI c) an ao as 1 r told st und kept (nI c) (nI d) := Or.inr ⟨N, c, d, rfl, rfl, rfl, rfl, hc, rfl, rfl, hd, hC, hS, hU, hI⟩
    by_cases hn : 0 ≤ p0.toInt ∧ p0.toInt < (N : Int)
    · obtain ⟨k, hk, rfl⟩ := nd_of hN hn
      obtain ⟨hkd, -⟩ := hC.k hk
      by_cases hw : kind k = 0
      · by_cases hv : 0 ≤ p1.toInt ∧ p1.toInt ≤ 99
        · have kv : (99 : Int32).toInt = 99 := by decide
          have e6 : PX6_say (nI N) kind w (nI c) an ao as (nI k) p1 = if w k = p1 then (0, 5, w, nI c, an, ao, as) else (un4_ (PX0_keep (nI c) an ao as (nI k) (w k) 1) (fun x f g h => (1, 0, upd w k p1, x, f, g, h))) := by
            rw [PX6_say_eq, PX6_lacksWord_eq, PX1_hasWord_eq]
            dsimp only [lt_]
            rw [hn_eq hN, if_pos hn, if_pos rfl, nI_clamp (by omega), if_pos hw, if_pos rfl, un2_eq rfl, if_pos rfl, ln_N hN0 hN, kc_0, kv, if_pos hv, un2_eq rfl, if_pos rfl]
          have e7 : PX7_say 1 r st und (nI c) (nI k) p1 = if st (72 + k) = p1 then (0, 0, 5, nI c, st, und) else (un2_ (PX7_note st und (nI c)) (fun x f => (1, 0, 0, x, upd st (72 + k) p1, f))) := by
            rw [PX7_say_eq, PX7_good_eq, un2_eq rfl, PX7_isWordNode_eq]
            dsimp only [lt_]
            rw [rn_eq hN0 hN hr, if_pos hn, if_pos rfl, show (9 : Int32) + nI k = nI (9 + k) from nI_add 9 k, show (72 : Int32) + nI k = nI (72 + k) from nI_add 72 k, nI_clamp (show 9 + k < 2 ^ 31 by omega), nI_clamp (show 72 + k < 2 ^ 31 by omega), ← hkd, if_pos hw, if_pos rfl, in_eq, kc_0, kv, if_pos hv, if_neg (show ¬ (1 : Int32) = 0 by decide), PX7_isNot_eq, un2_eq rfl]
          have hwk := (hS k hk).1
          rw [e6, e7, ← hwk]
          by_cases hq : w k = p1
          · rw [if_pos hq, if_pos hq]
            exact ⟨_, _, _, _, _, _, _, _, _, _, rfl, rfl, hsame⟩
          · rw [if_neg hq, if_neg hq]
            obtain ⟨d2, A2, O2, S2, V2, hd2, k6, k7, hU2⟩ := act_sim (w2 := upd w k p1) (o2 := o) (p0 := nI k) (p1 := w k) (b := 1) hN hp hc hU hS (Or.inr rfl) (by
              rw [if_neg (show ¬ (1 : Int32) = 0 by decide), nI_clamp (by omega)]
              funext q
              by_cases e : q = k
              · rw [e, upd_at]
              · rw [upd_ne e, upd_ne e]) (by rw [if_neg (show ¬ (1 : Int32) = 0 by decide)])
            rw [un4_eq k6, un2_eq k7]
            exact ⟨_, _, _, _, _, _, _, _, _, _, rfl, rfl, Or.inr ⟨N, d2 + 1, d, rfl, rfl, rfl, rfl, hd2, rfl, rfl, hd, hC, hS.say hN hp hk p1, hU2, hI⟩⟩
        · have kv : (99 : Int32).toInt = 99 := by decide
          refine ⟨0, 2, w, nI c, an, ao, as, 0, und, st, ?_, ?_, hsame⟩
          · rw [PX6_say_eq, PX6_lacksWord_eq, PX1_hasWord_eq]
            dsimp only [lt_]
            rw [hn_eq hN, if_pos hn, if_pos rfl, nI_clamp (by omega), if_pos hw, if_pos rfl, un2_eq rfl, if_pos rfl, ln_N hN0 hN, kc_0, kv, if_neg hv, un2_eq rfl, if_neg (show ¬ (1 : Int32) = 0 by decide)]
          · rw [PX7_say_eq, PX7_good_eq, un2_eq rfl, PX7_isWordNode_eq]
            dsimp only [lt_]
            rw [rn_eq hN0 hN hr, if_pos hn, if_pos rfl, show (9 : Int32) + nI k = nI (9 + k) from nI_add 9 k, nI_clamp (show 9 + k < 2 ^ 31 by omega), ← hkd, if_pos hw, if_pos rfl, in_eq, kc_0, kv, if_neg hv, if_pos rfl, PX7_isNot_eq, un2_eq rfl]
      · refine ⟨0, 1, w, nI c, an, ao, as, 0, und, st, ?_, ?_, hsame⟩
        · rw [PX6_say_eq, PX6_lacksWord_eq, PX1_hasWord_eq]
          dsimp only [lt_]
          rw [hn_eq hN, if_pos hn, if_pos rfl, nI_clamp (by omega), if_neg hw, if_neg (show ¬ (0 : Int32) = 1 by decide), un2_eq rfl, if_neg (show ¬ (1 : Int32) = 0 by decide)]
        · rw [PX7_say_eq, PX7_good_eq, un2_eq rfl, PX7_isWordNode_eq]
          dsimp only [lt_]
          rw [rn_eq hN0 hN hr, if_pos hn, if_pos rfl, show (9 : Int32) + nI k = nI (9 + k) from nI_add 9 k, nI_clamp (show 9 + k < 2 ^ 31 by omega), ← hkd, if_neg hw, if_neg (show ¬ (0 : Int32) = 1 by decide), PX7_isNot_eq, un2_eq rfl]
    · refine ⟨0, 1, w, nI c, an, ao, as, 0, und, st, ?_, ?_, hsame⟩
      · rw [PX6_say_eq, PX6_lacksWord_eq, PX1_hasWord_eq]
        dsimp only [lt_]
        rw [hn_eq hN, if_neg hn, if_neg (show ¬ (0 : Int32) = 1 by decide), if_neg (show ¬ (0 : Int32) = 1 by decide), un2_eq rfl, if_neg (show ¬ (1 : Int32) = 0 by decide)]
      · rw [PX7_say_eq, PX7_good_eq, un2_eq rfl, PX7_isWordNode_eq]
        dsimp only [lt_]
        rw [rn_eq hN0 hN hr, if_neg hn, if_neg (show ¬ (0 : Int32) = 1 by decide), if_neg (show ¬ (0 : Int32) = 1 by decide), PX7_isNot_eq, un2_eq rfl]
theorem pt_eq {k i : Nat} (hk : k < 18) (hi : i < 4) (h0 : 0 ≤ (o (4 * k + i)).toInt) (h3 : (o (4 * k + i)).toInt ≤ 3) : PX5_partAt o pn (nI k) (nI i) = pn (4 * k + (o (4 * k + i)).toInt.toNat) := by
  rw [PX5_partAt_eq]
  dsimp only [lt_]
  rw [nI_m4 (by omega), nI_add, nI_clamp (by omega)]
  have e : o (4 * k + i) = nI (o (4 * k + i)).toInt.toNat := by rw [fz_eq, nI_toInt (by omega)]; omega
  have e2 : nI (4 * k) + o (4 * k + i) = nI (4 * k + (o (4 * k + i)).toInt.toNat) := by rw [← nI_add, ← e]
  rw [e2, nI_clamp (by omega)]
theorem lp_N {N k : Nat} (hN : N ≤ 18) (hk : k < N) (p1 : Int32) : PX6_lacksPart (nI N) parts (nI k) p1 = if 0 ≤ p1.toInt ∧ p1.toInt < (parts k).toInt then (0, 0) else (1, 1) := by
  rw [PX6_lacksPart_eq]
  dsimp only [lt_]
  rw [hn_eq hN, if_pos (show 0 ≤ (nI k).toInt ∧ (nI k).toInt < (N : Int) by rw [nI_toInt (by omega)]; omega), if_pos rfl, nI_clamp (by omega)]
  by_cases h0 : p1.toInt < 0
  · rw [if_pos (show p1 < 0 by rw [fz_lt, kc_0]; exact h0), if_neg (by omega)]
  · rw [if_neg (show ¬ p1 < 0 by rw [fz_lt, kc_0]; exact h0)]
    by_cases h1 : (parts k).toInt ≤ p1.toInt
    · rw [if_pos ((fz_le _ _).mpr h1), if_neg (by omega)]
    · rw [if_neg (fun q => h1 ((fz_le _ _).mp q)), if_pos (by omega)]
theorem lp_out {N : Nat} (hN : N ≤ 18) {p0 : Int32} (h : ¬ (0 ≤ p0.toInt ∧ p0.toInt < (N : Int))) (p1 : Int32) : PX6_lacksPart (nI N) parts p0 p1 = (1, 1) := by
  rw [PX6_lacksPart_eq]
  dsimp only [lt_]
  rw [hn_eq hN, if_neg h, if_neg (show ¬ (0 : Int32) = 1 by decide)]
theorem ip_eq {k : Nat} (hk : k < 18) {v p1 : Int32} (hv : r (27 + k) = v) (h0 : 0 ≤ v.toInt) : PX7_in p1 0 (r ((27 : Int32) + nI k).toNatClampNeg - 1) = if 0 ≤ p1.toInt ∧ p1.toInt < v.toInt then 1 else 0 := by
  have hm : (v - 1).toInt = v.toInt - 1 := by
    have := (fb_rng v).2
    rw [fb_subI (by rw [kc_1]; omega) (by rw [kc_1]; omega), kc_1]
  rw [show (27 : Int32) + nI k = nI (27 + k) from nI_add 27 k, nI_clamp (by omega), hv, in_eq, kc_0, hm]
  by_cases h : 0 ≤ p1.toInt ∧ p1.toInt < v.toInt
  · rw [if_pos h, if_pos (by omega)]
  · rw [if_neg h, if_neg (by omega)]
theorem part_sim2 (h : Rel nodes words unsures slips throne said kind parts pn wt tw uw uo w o ic iw0 io0 iw1 io1 iw2 io2 ac an ao as hc r told st und kept undos images) (p0 p1 : Int32) : ∃ q f t1 : Int32, PX6_part nodes parts pn o p0 p1 = (q, f) ∧ PX7_part hc r st p0 p1 = (q, t1, f) := by
  rcases h with ⟨rfl, hx⟩ | ⟨N, c, d, rfl, rfl, rfl, rfl, hc, rfl, rfl, hd, hC, hS, hU, hI⟩
  · obtain ⟨h2, h3, h4, h5, h6, rfl, rfl, rfl, h10⟩ := hx
    refine ⟨-1, 1, 0, ?_, ?_⟩
    · rw [PX6_part_eq, ← nI_0, lp_out (by omega) (by omega), un2_eq rfl, if_neg (show ¬ (1 : Int32) = nI 0 by decide)]
    · rw [PX7_part_eq, PX7_good_eq, un2_eq rfl]
      dsimp only [lt_]
      rw [rn_0, if_neg (show ¬ (0 : Int32) = 1 by decide), no_eq, un2_eq rfl]
  · obtain ⟨hN0, hN, hr⟩ := hC.N
    have hp := hC.p4
    by_cases hn : 0 ≤ p0.toInt ∧ p0.toInt < (N : Int)
    · obtain ⟨k, hk, rfl⟩ := nd_of hN hn
      obtain ⟨-, hkp, hk0, hk4, -⟩ := hC.k hk
      by_cases hv : 0 ≤ p1.toInt ∧ p1.toInt < (parts k).toInt
      · obtain ⟨i, hi, rfl⟩ : ∃ i : Nat, (i : Int) < (parts k).toInt ∧ p1 = nI i := ⟨p1.toInt.toNat, by omega, by rw [fz_eq, nI_toInt (by omega)]; omega⟩
        obtain ⟨s1, s2, s3⟩ := (hS k hk).2.1 i hi
        refine ⟨st (4 * k + i), 0, 0, ?_, ?_⟩
        · rw [PX6_part_eq, lp_N hN hk, if_pos hv, un2_eq rfl, if_pos rfl, pt_eq (by omega) (by omega) s1 (by omega), s3]
          rfl
        · rw [PX7_part_eq, PX7_good_eq, un2_eq rfl]
          dsimp only [lt_]
          rw [rn_eq hN0 hN hr, if_pos hn, if_pos rfl, ip_eq (by omega) hkp.symm hk0, if_pos hv, if_neg (show ¬ (1 : Int32) = 0 by decide), nI_m4' (by omega), nI_add, nI_clamp (by omega)]
      · refine ⟨-1, 1, 0, ?_, ?_⟩
        · rw [PX6_part_eq, lp_N hN hk, if_neg hv, un2_eq rfl, if_neg (show ¬ (1 : Int32) = 0 by decide)]
        · rw [PX7_part_eq, PX7_good_eq, un2_eq rfl]
          dsimp only [lt_]
          rw [rn_eq hN0 hN hr, if_pos hn, if_pos rfl, ip_eq (by omega) hkp.symm hk0, if_neg hv, if_pos rfl, no_eq, un2_eq rfl]
    · refine ⟨-1, 1, 0, ?_, ?_⟩
      · rw [PX6_part_eq, lp_out hN hn, un2_eq rfl, if_neg (show ¬ (1 : Int32) = 0 by decide)]
      · rw [PX7_part_eq, PX7_good_eq, un2_eq rfl]
        dsimp only [lt_]
        rw [rn_eq hN0 hN hr, if_neg hn, if_neg (show ¬ (0 : Int32) = 1 by decide), no_eq, un2_eq rfl]
theorem thr_sim2 (h : Rel nodes words unsures slips throne said kind parts pn wt tw uw uo w o ic iw0 io0 iw1 io1 iw2 io2 ac an ao as hc r told st und kept undos images) : ∃ q f t1 : Int32, PX6_throne nodes throne = (q, f) ∧ PX7_throne hc r = (q, t1, f) := by
  rcases h with ⟨rfl, hx⟩ | ⟨N, c, d, rfl, rfl, rfl, rfl, hc, rfl, rfl, hd, hC, hS, hU, hI⟩
  · obtain ⟨h2, h3, h4, h5, h6, rfl, rfl, rfl, h10⟩ := hx
    refine ⟨-1, 1, 0, ?_, ?_⟩
    · rw [PX6_throne_eq, lc_0, un2_eq rfl, if_neg (show ¬ (1 : Int32) = 0 by decide)]
    · rw [PX7_throne_eq, PX7_good_eq, un2_eq rfl, if_pos rfl, no_eq, un2_eq rfl]
  · obtain ⟨hN0, hN, hr⟩ := hC.N
    obtain ⟨-, -, -, -, -, -, h6, -⟩ := hC
    refine ⟨throne, 0, 0, ?_, ?_⟩
    · rw [PX6_throne_eq, lc_N hN0 hN, un2_eq rfl, if_pos rfl]
    · rw [PX7_throne_eq, PX7_good_eq, un2_eq rfl, if_neg (show ¬ (1 : Int32) = 0 by decide)]
      dsimp only [lt_]
      rw [six_cl, h6]
theorem front_sim (h : Rel nodes words unsures slips throne said kind parts pn wt tw uw uo w o ic iw0 io0 iw1 io1 iw2 io2 ac an ao as hc r told st und kept undos images) (p0 p1 : Int32) : ∃ (q f : Int32) (o2 : Nat → Int32) (ac2 : Int32) (an2 ao2 as2 : Nat → Int32) (t1 : Int32) (und2 st2 : Nat → Int32), PX6_front nodes parts pn o ac an ao as p0 p1 = (q, f, o2, ac2, an2, ao2, as2) ∧ PX7_front hc r st und undos p0 p1 = (q, t1, f, ac2, st2, und2) ∧ Rel nodes words unsures slips throne said kind parts pn wt tw uw uo w o2 ic iw0 io0 iw1 io1 iw2 io2 ac2 an2 ao2 as2 hc r told st2 und2 kept ac2 images := by
  rcases h with ⟨rfl, hx⟩ | ⟨N, c, d, rfl, rfl, rfl, rfl, hc, rfl, rfl, hd, hC, hS, hU, hI⟩
  · obtain ⟨h2, h3, h4, h5, h6, rfl, rfl, rfl, h10⟩ := hx
    refine ⟨-1, 1, o, 0, an, ao, as, 0, und, st, ?_, ?_, Or.inl ⟨rfl, h2, h3, h4, h5, h6, rfl, rfl, rfl, h10⟩⟩
    · rw [PX6_front_eq, ← nI_0, lp_out (by omega) (by omega), un2_eq rfl, if_neg (show ¬ (1 : Int32) = nI 0 by decide)]
    · rw [PX7_front_eq, PX7_good_eq, un2_eq rfl]
      dsimp only [lt_]
      rw [rn_0, if_neg (show ¬ (0 : Int32) = 1 by decide), no_eq, un2_eq rfl]
  · obtain ⟨hN0, hN, hr⟩ := hC.N
    have hp := hC.p4
    have hsame : Rel (nI N) words unsures slips throne said kind parts pn wt tw uw uo w o (nI d) iw0 io0 iw1 io1 iw2 io2 (nI c) an ao as 1 r told st und kept (nI c) (nI d) := Or.inr ⟨N, c, d, rfl, rfl, rfl, rfl, hc, rfl, rfl, hd, hC, hS, hU, hI⟩
    by_cases hn : 0 ≤ p0.toInt ∧ p0.toInt < (N : Int)
    · obtain ⟨k, hk, rfl⟩ := nd_of hN hn
      obtain ⟨-, hkp, hk0, hk4, -⟩ := hC.k hk
      by_cases hv : 0 ≤ p1.toInt ∧ p1.toInt < (parts k).toInt
      · obtain ⟨i, hi, rfl⟩ : ∃ i : Nat, (i : Int) < (parts k).toInt ∧ p1 = nI i := ⟨p1.toInt.toNat, by omega, by rw [fz_eq, nI_toInt (by omega)]; omega⟩
        by_cases hi0 : nI i = 0
        · refine ⟨-1, 5, o, nI c, an, ao, as, 0, und, st, ?_, ?_, hsame⟩
          · rw [PX6_front_eq, lp_N hN hk, if_pos hv, un2_eq rfl, if_pos rfl, if_pos hi0, PX6_refuse_eq, un2_eq rfl]
          · rw [PX7_front_eq, PX7_good_eq, un2_eq rfl]
            dsimp only [lt_]
            rw [rn_eq hN0 hN hr, if_pos hn, if_pos rfl, ip_eq (by omega) hkp.symm hk0, if_pos hv, if_neg (show ¬ (1 : Int32) = 0 by decide), if_pos hi0, no_eq, un2_eq rfl]
        · obtain ⟨d2, A2, O2, S2, V2, hd2, k6, k7, hU2⟩ := act_sim (w2 := w) (o2 := bfF o k i) (p0 := nI k) (p1 := nI i) (b := 0) hN hp hc hU hS (Or.inl rfl) (by rw [if_pos rfl]) (by rw [if_pos rfl, sb_eq _ (by omega) (by omega), sb_bf])
          have hS2 := hS.front hN hp hk hi
          obtain ⟨s1, s2, s3⟩ := (hS2 k hk).2.1 0 (by omega)
          refine ⟨bfF st k i (4 * k), 0, bfF o k i, nI (d2 + 1), A2, O2, S2, 0, V2, bfF st k i, ?_, ?_, Or.inr ⟨N, d2 + 1, d, rfl, rfl, rfl, rfl, hd2, rfl, rfl, hd, hC, hS2, hU2, hI⟩⟩
          · rw [PX6_front_eq, lp_N hN hk, if_pos hv, un2_eq rfl, if_pos rfl, if_neg hi0, un4_eq k6, bf_eq _ (by omega) (by omega)]
            dsimp only [lt_]
            rw [show PX5_partAt (bfF o k i) pn (nI k) 0 = bfF st k i (4 * k) from (pt_eq (i := 0) (by omega) (by omega) s1 (by omega)).trans s3]
          · rw [PX7_front_eq, PX7_good_eq, un2_eq rfl]
            dsimp only [lt_]
            rw [rn_eq hN0 hN hr, if_pos hn, if_pos rfl, ip_eq (by omega) hkp.symm hk0, if_pos hv, if_neg (show ¬ (1 : Int32) = 0 by decide), if_neg hi0, un2_eq k7, fr_eq _ (by omega) (by omega), nI_m4' (by omega), nI_clamp (by omega)]
      · refine ⟨-1, 1, o, nI c, an, ao, as, 0, und, st, ?_, ?_, hsame⟩
        · rw [PX6_front_eq, lp_N hN hk, if_neg hv, un2_eq rfl, if_neg (show ¬ (1 : Int32) = 0 by decide)]
        · rw [PX7_front_eq, PX7_good_eq, un2_eq rfl]
          dsimp only [lt_]
          rw [rn_eq hN0 hN hr, if_pos hn, if_pos rfl, ip_eq (by omega) hkp.symm hk0, if_neg hv, if_pos rfl, no_eq, un2_eq rfl]
    · refine ⟨-1, 1, o, nI c, an, ao, as, 0, und, st, ?_, ?_, hsame⟩
      · rw [PX6_front_eq, lp_out hN hn, un2_eq rfl, if_neg (show ¬ (1 : Int32) = 0 by decide)]
      · rw [PX7_front_eq, PX7_good_eq, un2_eq rfl]
        dsimp only [lt_]
        rw [rn_eq hN0 hN hr, if_neg hn, if_neg (show ¬ (0 : Int32) = 1 by decide), no_eq, un2_eq rfl]
theorem undo_sim (h : Rel nodes words unsures slips throne said kind parts pn wt tw uw uo w o ic iw0 io0 iw1 io1 iw2 io2 ac an ao as hc r told st und kept undos images) : ∃ (q f : Int32) (w2 o2 : Nat → Int32) (ac2 : Int32) (t1 : Int32) (st2 : Nat → Int32), PX6_undo w o ac an ao as = (q, f, w2, o2, ac2) ∧ PX7_undo st und undos = (q, t1, f, ac2, st2) ∧ Rel nodes words unsures slips throne said kind parts pn wt tw uw uo w2 o2 ic iw0 io0 iw1 io1 iw2 io2 ac2 an ao as hc r told st2 und kept ac2 images := by
  rcases h with ⟨rfl, hx⟩ | ⟨N, c, d, rfl, rfl, rfl, rfl, hc, rfl, rfl, hd, hC, hS, hU, hI⟩
  · obtain ⟨h2, h3, h4, h5, h6, rfl, rfl, rfl, h10⟩ := hx
    refine ⟨0, 6, w, o, 0, 0, st, ?_, ?_, Or.inl ⟨rfl, h2, h3, h4, h5, h6, rfl, rfl, rfl, h10⟩⟩
    · rw [PX6_undo_eq, if_pos (show (0 : Int32) ≤ 0 by decide)]
    · rw [PX7_undo_eq, PX7_good_eq, un2_eq rfl, if_pos rfl, PX7_isNot_eq, un2_eq rfl]
  · obtain ⟨hN0, hN, hr⟩ := hC.N
    have hp := hC.p4
    cases c with
    | zero =>
      refine ⟨0, 6, w, o, nI 0, 0, st, ?_, ?_, Or.inr ⟨N, 0, d, rfl, rfl, rfl, rfl, hc, rfl, rfl, hd, hC, hS, hU, hI⟩⟩
      · rw [PX6_undo_eq, if_pos (show nI 0 ≤ (0 : Int32) by decide)]
      · rw [PX7_undo_eq, PX7_good_eq, un2_eq rfl, if_pos nI_0, PX7_isNot_eq, un2_eq rfl]
    | succ c =>
      obtain ⟨ha, hb, hd2⟩ := UnR_s.mp hU
      refine ⟨1, 0, tbW an ao as w c, tbO an ao as o c, nI c, 0, cpF und st (90 * c) 0 90, ?_, ?_, Or.inr ⟨N, c, d, rfl, rfl, rfl, rfl, by omega, rfl, rfl, hd, hC, ?_, hd2, hI⟩⟩
      · have e : PX0_takeBack (nI (c + 1)) an ao as w o = (1, nI c, tbW an ao as w c, tbO an ao as o c) := by
          rw [PX0_takeBack_eq, if_neg (nI_ne0 (by omega) (by omega))]
          dsimp only [lt_]
          rw [nI_pred, nI_clamp (by omega)]
          unfold tbW tbO
          by_cases h : as c = 0
          · rw [if_pos h, if_pos h, if_pos h]
          · rw [if_neg h, if_neg h, if_neg h]
        rw [PX6_undo_eq, if_neg (nI_nle (by omega) (by omega)), un4_eq e, if_neg (show ¬ (1 : Int32) = 0 by decide)]
      · rw [PX7_undo_eq, PX7_good_eq, un2_eq rfl, if_neg (nI_ne0 (by omega) (by omega))]
        dsimp only [lt_]
        rw [nI_pred, nI_m90 (by omega), nI_clamp (by omega), zero_cl, ninety_cl]
      · refine hb.congr hN hp (fun _ _ => rfl) (fun _ _ => rfl) (fun q hq => ?_)
        show cpF und st (90 * c) 0 90 q = und (90 * c + q)
        unfold cpF
        rw [if_pos (by omega), Nat.sub_zero]
theorem cp_eq (a b c e : Nat → Int32) : PX5_copyFrom a b c e = (va_cpy c a 0 0 18, va_cpy e b 0 0 72) := rfl
theorem cpy_q {f g : Nat → Int32} {n q : Nat} (h : q < n) : va_cpy f g 0 0 n q = f q := by
  unfold va_cpy
  rw [if_pos (by omega), Nat.sub_zero, Nat.zero_add]
theorem image_sim (h : Rel nodes words unsures slips throne said kind parts pn wt tw uw uo w o ic iw0 io0 iw1 io1 iw2 io2 ac an ao as hc r told st und kept undos images) : ∃ (q ic2 f : Int32) (a0 b0 a1 b1 a2 b2 : Nat → Int32) (t1 : Int32) (kept2 : Nat → Int32), PX6_image ic nodes w o iw0 io0 iw1 io1 iw2 io2 = (q, ic2, f, a0, b0, a1, b1, a2, b2) ∧ PX7_image hc st kept images = (q, t1, f, ic2, kept2) ∧ Rel nodes words unsures slips throne said kind parts pn wt tw uw uo w o ic2 a0 b0 a1 b1 a2 b2 ac an ao as hc r told st und kept2 undos ic2 := by
  rcases h with ⟨rfl, hx⟩ | ⟨N, c, d, rfl, rfl, rfl, rfl, hc, rfl, rfl, hd, hC, hS, hU, hI⟩
  · obtain ⟨h2, h3, h4, h5, rfl, rfl, rfl, rfl, rfl⟩ := hx
    refine ⟨-1, 0, 1, iw0, io0, iw1, io1, iw2, io2, 0, kept, ?_, ?_, Or.inl ⟨rfl, h2, h3, h4, h5, rfl, rfl, rfl, rfl, rfl⟩⟩
    · rw [PX6_image_eq, lc_0, un2_eq rfl, if_neg (show ¬ (1 : Int32) = 0 by decide)]
    · rw [PX7_image_eq, PX7_good_eq, un2_eq rfl, if_pos rfl, no_eq, un2_eq rfl]
  · obtain ⟨hN0, hN, hr⟩ := hC.N
    have hp := hC.p4
    have k3 : (3 : Int32).toInt = 3 := by decide
    by_cases h3 : d = 3
    · subst h3
      refine ⟨-1, nI 3, 3, iw0, io0, iw1, io1, iw2, io2, 0, kept, ?_, ?_, Or.inr ⟨N, c, 3, rfl, rfl, rfl, rfl, hc, rfl, rfl, hd, hC, hS, hU, hI⟩⟩
      · rw [PX6_image_eq, lc_N hN0 hN, un2_eq rfl, if_pos rfl, if_neg (show ¬ nI 3 < (3 : Int32) by decide), PX6_refuse_eq, un2_eq rfl]
      · rw [PX7_image_eq, PX7_good_eq, un2_eq rfl, if_neg (show ¬ (1 : Int32) = 0 by decide), if_pos (show nI 3 = (3 : Int32) from rfl), no_eq, un2_eq rfl]
    · have e7 : PX7_image 1 st kept (nI d) = (nI d, 0, 0, nI (d + 1), cpF st kept 0 (90 * d) 90) := by
        rw [PX7_image_eq, PX7_good_eq, un2_eq rfl, if_neg (show ¬ (1 : Int32) = 0 by decide), if_neg (show ¬ nI d = (3 : Int32) by rw [fz_eq, k3, nI_toInt (by omega)]; omega)]
        dsimp only [lt_]
        rw [nI_m90 (by omega), nI_clamp (by omega), nI_1, nI_pred, zero_cl, ninety_cl]
      have hlt : nI d < (3 : Int32) := by rw [fz_lt, k3, nI_toInt (by omega)]; omega
      have old : ∀ j : Nat, j < d → ∀ q : Nat, q < 90 → cpF st kept 0 (90 * d) 90 (90 * j + q) = kept (90 * j + q) := fun j hj q hq => by unfold cpF; rw [if_neg (by omega)]
      have new : ∀ q : Nat, q < 90 → cpF st kept 0 (90 * d) 90 (90 * d + q) = st q := fun q hq => by unfold cpF; rw [if_pos (by omega), show 0 + (90 * d + q - 90 * d) = q by omega]
      have hSn : ∀ a b : Nat → Int32, StR N parts pn (va_cpy w a 0 0 18) (va_cpy o b 0 0 72) (fun q => cpF st kept 0 (90 * d) 90 (90 * d + q)) := fun a b => hS.congr hN hp (fun k hk => cpy_q hk) (fun q hq => cpy_q hq) new
      rcases (show d = 0 ∨ d = 1 ∨ d = 2 by omega) with rfl | rfl | rfl
      · refine ⟨nI 0, nI 1, 0, va_cpy w iw0 0 0 18, va_cpy o io0 0 0 72, iw1, io1, iw2, io2, 0, _, ?_, e7, Or.inr ⟨N, c, 1, rfl, rfl, rfl, rfl, hc, rfl, rfl, by omega, hC, hS, hU, fun _ => ?_, fun q => absurd q (by omega), fun q => absurd q (by omega)⟩⟩
        · rw [PX6_image_eq, lc_N hN0 hN, un2_eq rfl, if_pos rfl, if_pos hlt, if_pos nI_0, cp_eq, un2_eq rfl]
          dsimp only [lt_]
          rw [nI_1, nI_pred]
        · exact (hSn iw0 io0).congr hN hp (fun _ _ => rfl) (fun _ _ => rfl) (fun q hq => by show cpF st kept 0 (90 * 0) 90 q = cpF st kept 0 (90 * 0) 90 (90 * 0 + q); rw [Nat.mul_zero, Nat.zero_add])
      · refine ⟨nI 1, nI 2, 0, iw0, io0, va_cpy w iw1 0 0 18, va_cpy o io1 0 0 72, iw2, io2, 0, _, ?_, e7, Or.inr ⟨N, c, 2, rfl, rfl, rfl, rfl, hc, rfl, rfl, by omega, hC, hS, hU, fun _ => ?_, fun _ => ?_, fun q => absurd q (by omega)⟩⟩
        · rw [PX6_image_eq, lc_N hN0 hN, un2_eq rfl, if_pos rfl, if_pos hlt, if_neg (show ¬ nI 1 = (0 : Int32) by decide), if_pos (show nI 1 = (1 : Int32) from rfl), cp_eq, un2_eq rfl]
          dsimp only [lt_]
          rw [nI_1, nI_pred]
        · exact (hI.1 (by omega)).congr hN hp (fun _ _ => rfl) (fun _ _ => rfl) (fun q hq => by have e := old 0 (by omega) q hq; rw [Nat.mul_zero, Nat.zero_add] at e; exact e)
        · exact (hSn iw1 io1).congr hN hp (fun _ _ => rfl) (fun _ _ => rfl) (fun q hq => rfl)
      · refine ⟨nI 2, nI 3, 0, iw0, io0, iw1, io1, va_cpy w iw2 0 0 18, va_cpy o io2 0 0 72, 0, _, ?_, e7, Or.inr ⟨N, c, 3, rfl, rfl, rfl, rfl, hc, rfl, rfl, by omega, hC, hS, hU, fun _ => ?_, fun _ => ?_, fun _ => ?_⟩⟩
        · rw [PX6_image_eq, lc_N hN0 hN, un2_eq rfl, if_pos rfl, if_pos hlt, if_neg (show ¬ nI 2 = (0 : Int32) by decide), if_neg (show ¬ nI 2 = (1 : Int32) by decide), cp_eq, un2_eq rfl]
          dsimp only [lt_]
          rw [nI_1, nI_pred]
        · exact (hI.1 (by omega)).congr hN hp (fun _ _ => rfl) (fun _ _ => rfl) (fun q hq => by have e := old 0 (by omega) q hq; rw [Nat.mul_zero, Nat.zero_add] at e; exact e)
        · exact (hI.2.1 (by omega)).congr hN hp (fun _ _ => rfl) (fun _ _ => rfl) (fun q hq => old 1 (by omega) q hq)
        · exact (hSn iw2 io2).congr hN hp (fun _ _ => rfl) (fun _ _ => rfl) (fun q hq => rfl)
theorem back_sim (h : Rel nodes words unsures slips throne said kind parts pn wt tw uw uo w o ic iw0 io0 iw1 io1 iw2 io2 ac an ao as hc r told st und kept undos images) (p0 : Int32) : ∃ (q f : Int32) (w2 o2 : Nat → Int32) (ac2 : Int32) (t1 : Int32) (st2 : Nat → Int32), PX6_back ic w o ac iw0 io0 iw1 io1 iw2 io2 p0 = (q, f, w2, o2, ac2) ∧ PX7_back st kept undos images p0 = (q, t1, f, ac2, st2) ∧ Rel nodes words unsures slips throne said kind parts pn wt tw uw uo w2 o2 ic iw0 io0 iw1 io1 iw2 io2 ac2 an ao as hc r told st2 und kept ac2 images := by
  have no6 : ∀ d : Nat, d ≤ 3 → ¬ (0 ≤ p0.toInt ∧ p0.toInt < (d : Int)) → PX6_back (nI d) w o ac iw0 io0 iw1 io1 iw2 io2 p0 = (0, 1, w, o, ac) := fun d hd hn => by
    rw [PX6_back_eq]
    by_cases h0 : p0.toInt < 0
    · rw [if_pos (show p0 < 0 by rw [fz_lt, kc_0]; exact h0)]
    · rw [if_neg (show ¬ p0 < 0 by rw [fz_lt, kc_0]; exact h0), if_neg (show ¬ p0 < nI d by rw [fz_lt, nI_toInt (by omega)]; omega)]
  have in7 : ∀ d : Nat, d ≤ 3 → PX7_in p0 0 (nI d - 1) = if 0 ≤ p0.toInt ∧ p0.toInt < (d : Int) then 1 else 0 := fun d hd => by
    have hm : (nI d - 1).toInt = (d : Int) - 1 := by rw [fb_subI (by rw [kc_1, nI_toInt (by omega)]; omega) (by rw [kc_1, nI_toInt (by omega)]; omega), kc_1, nI_toInt (by omega)]
    rw [in_eq, kc_0, hm]
    by_cases h : 0 ≤ p0.toInt ∧ p0.toInt < (d : Int)
    · rw [if_pos h, if_pos (by omega)]
    · rw [if_neg h, if_neg (by omega)]
  have no7 : ∀ d : Nat, d ≤ 3 → ¬ (0 ≤ p0.toInt ∧ p0.toInt < (d : Int)) → PX7_back st kept undos (nI d) p0 = (0, 0, 1, undos, st) := fun d hd hn => by
    rw [PX7_back_eq, PX7_good_eq, un2_eq rfl]
    dsimp only [lt_]
    rw [in7 d hd, if_neg hn, if_pos rfl, PX7_isNot_eq, un2_eq rfl]
  rcases h with ⟨rfl, hx⟩ | ⟨N, c, d, rfl, rfl, rfl, rfl, hc, rfl, rfl, hd, hC, hS, hU, hI⟩
  · obtain ⟨h2, h3, h4, h5, rfl, rfl, rfl, rfl, rfl⟩ := hx
    have a6 := no6 0 (by omega) (by omega)
    have a7 := no7 0 (by omega) (by omega)
    rw [nI_0] at a6 a7
    exact ⟨0, 1, w, o, 0, 0, st, a6, a7, Or.inl ⟨rfl, h2, h3, h4, h5, rfl, rfl, rfl, rfl, rfl⟩⟩
  · obtain ⟨hN0, hN, hr⟩ := hC.N
    have hp := hC.p4
    by_cases hv : 0 ≤ p0.toInt ∧ p0.toInt < (d : Int)
    · obtain ⟨i, hi, rfl⟩ : ∃ i : Nat, i < d ∧ p0 = nI i := ⟨p0.toInt.toNat, by omega, by rw [fz_eq, nI_toInt (by omega)]; omega⟩
      have e7 : PX7_back st kept (nI c) (nI d) (nI i) = (1, 0, 0, nI 0, cpF kept st (90 * i) 0 90) := by
        rw [PX7_back_eq, PX7_good_eq, un2_eq rfl]
        dsimp only [lt_]
        rw [in7 d hd, if_pos hv, if_neg (show ¬ (1 : Int32) = 0 by decide), nI_m90 (by omega), nI_clamp (by omega), zero_cl, ninety_cl]
        rfl
      have row : ∀ q : Nat, q < 90 → cpF kept st (90 * i) 0 90 q = kept (90 * i + q) := fun q hq => by unfold cpF; rw [if_pos (by omega), Nat.sub_zero]
      have hlt : nI i < nI d := nI_lt hi (by omega)
      have hge : ¬ nI i < 0 := nI_pos (by omega)
      have fin : ∀ a b : Nat → Int32, StR N parts pn a b (fun q => kept (90 * i + q)) → StR N parts pn (va_cpy a w 0 0 18) (va_cpy b o 0 0 72) (cpF kept st (90 * i) 0 90) := fun a b hab => hab.congr hN hp (fun k hk => cpy_q hk) (fun q hq => cpy_q hq) row
      rcases (show i = 0 ∨ i = 1 ∨ i = 2 by omega) with rfl | rfl | rfl
      · refine ⟨1, 0, va_cpy iw0 w 0 0 18, va_cpy io0 o 0 0 72, nI 0, 0, _, ?_, e7, Or.inr ⟨N, 0, d, rfl, rfl, rfl, rfl, by omega, rfl, rfl, hd, hC, fin _ _ ?_, trivial, hI⟩⟩
        · rw [PX6_back_eq, if_neg hge, if_pos hlt, if_pos nI_0, cp_eq, un2_eq rfl]
          rfl
        · exact (hI.1 (by omega)).congr hN hp (fun _ _ => rfl) (fun _ _ => rfl) (fun q hq => by show kept (90 * 0 + q) = kept q; rw [Nat.mul_zero, Nat.zero_add])
      · refine ⟨1, 0, va_cpy iw1 w 0 0 18, va_cpy io1 o 0 0 72, nI 0, 0, _, ?_, e7, Or.inr ⟨N, 0, d, rfl, rfl, rfl, rfl, by omega, rfl, rfl, hd, hC, fin _ _ (hI.2.1 (by omega)), trivial, hI⟩⟩
        rw [PX6_back_eq, if_neg hge, if_pos hlt, if_neg (show ¬ nI 1 = (0 : Int32) by decide), if_pos (show nI 1 = (1 : Int32) from rfl), cp_eq, un2_eq rfl]
        rfl
      · refine ⟨1, 0, va_cpy iw2 w 0 0 18, va_cpy io2 o 0 0 72, nI 0, 0, _, ?_, e7, Or.inr ⟨N, 0, d, rfl, rfl, rfl, rfl, by omega, rfl, rfl, hd, hC, fin _ _ (hI.2.2 (by omega)), trivial, hI⟩⟩
        rw [PX6_back_eq, if_neg hge, if_pos hlt, if_neg (show ¬ nI 2 = (0 : Int32) by decide), if_neg (show ¬ nI 2 = (1 : Int32) by decide), cp_eq, un2_eq rfl]
        rfl
    · exact ⟨0, 1, w, o, nI c, 0, st, no6 d hd hv, no7 d hd hv, Or.inr ⟨N, c, d, rfl, rfl, rfl, rfl, hc, rfl, rfl, hd, hC, hS, hU, hI⟩⟩
theorem sw0_8 (a0 a1 a2 a3 a4 a5 a6 a7 dd : Int32) : sw_ (nI 0) 0 [a0, a1, a2, a3, a4, a5, a6, a7] dd = a0 := sw_in (j := 0) (by decide) rfl
theorem sw1_8 (a0 a1 a2 a3 a4 a5 a6 a7 dd : Int32) : sw_ (nI 1) 0 [a0, a1, a2, a3, a4, a5, a6, a7] dd = a1 := sw_in (j := 1) (by decide) rfl
theorem sw2_8 (a0 a1 a2 a3 a4 a5 a6 a7 dd : Int32) : sw_ (nI 2) 0 [a0, a1, a2, a3, a4, a5, a6, a7] dd = a2 := sw_in (j := 2) (by decide) rfl
theorem sw3_8 (a0 a1 a2 a3 a4 a5 a6 a7 dd : Int32) : sw_ (nI 3) 0 [a0, a1, a2, a3, a4, a5, a6, a7] dd = a3 := sw_in (j := 3) (by decide) rfl
theorem sw4_8 (a0 a1 a2 a3 a4 a5 a6 a7 dd : Int32) : sw_ (nI 4) 0 [a0, a1, a2, a3, a4, a5, a6, a7] dd = a4 := sw_in (j := 4) (by decide) rfl
theorem sw5_8 (a0 a1 a2 a3 a4 a5 a6 a7 dd : Int32) : sw_ (nI 5) 0 [a0, a1, a2, a3, a4, a5, a6, a7] dd = a5 := sw_in (j := 5) (by decide) rfl
theorem sw6_8 (a0 a1 a2 a3 a4 a5 a6 a7 dd : Int32) : sw_ (nI 6) 0 [a0, a1, a2, a3, a4, a5, a6, a7] dd = a6 := sw_in (j := 6) (by decide) rfl
theorem sw7_8 (a0 a1 a2 a3 a4 a5 a6 a7 dd : Int32) : sw_ (nI 7) 0 [a0, a1, a2, a3, a4, a5, a6, a7] dd = a7 := sw_in (j := 7) (by decide) rfl
theorem size_sim (h : Rel nodes words unsures slips throne said kind parts pn wt tw uw uo w o ic iw0 io0 iw1 io1 iw2 io2 ac an ao as hc r told st und kept undos images) (tp p0 : Int32) : ∃ t1 : Int32, PX7_size tp hc r undos images p0 = (PX6_size ic nodes words unsures slips said ac tp p0, t1) := by
  refine ⟨0, ?_⟩
  rw [PX6_size_eq, PX7_size_eq, in_eq, in_eq, kc_0, show (6 : Int32).toInt = 6 from by decide, show (3 : Int32).toInt = 3 from by decide]
  dsimp only [lt_]
  have k4 : (4 : Int32).toInt = 4 := by decide
  have k5 : (5 : Int32).toInt = 5 := by decide
  have k6 : (6 : Int32).toInt = 6 := by decide
  have k7 : (7 : Int32).toInt = 7 := by decide
  by_cases hin : 0 ≤ p0.toInt ∧ p0.toInt ≤ 7
  · obtain ⟨j, hj, rfl⟩ : ∃ j : Nat, j ≤ 7 ∧ p0 = nI j := ⟨p0.toInt.toNat, by omega, by rw [fz_eq, nI_toInt (by omega)]; omega⟩
    rcases h with ⟨rfl, rfl, rfl, rfl, rfl, rfl, rfl, rfl, rfl, rfl⟩ | ⟨N, c, d, rfl, rfl, rfl, rfl, hc, rfl, rfl, hd, hC, hS, hU, hI⟩
    · rcases (show j = 0 ∨ j = 1 ∨ j = 2 ∨ j = 3 ∨ j = 4 ∨ j = 5 ∨ j = 6 ∨ j = 7 by omega) with rfl | rfl | rfl | rfl | rfl | rfl | rfl | rfl
      · rw [sw0_8, if_neg (show ¬ nI 0 = (7 : Int32) by decide), if_pos rfl, if_pos (show (0 : Int) ≤ (nI 0).toInt ∧ (nI 0).toInt ≤ 6 by rw [nI_toInt (by omega)]; omega), if_neg (show ¬ (1 : Int32) = 0 by decide)]
      · rw [sw1_8, if_neg (show ¬ nI 1 = (7 : Int32) by decide), if_pos rfl, if_pos (show (0 : Int) ≤ (nI 1).toInt ∧ (nI 1).toInt ≤ 6 by rw [nI_toInt (by omega)]; omega), if_neg (show ¬ (1 : Int32) = 0 by decide)]
      · rw [sw2_8, if_neg (show ¬ nI 2 = (7 : Int32) by decide), if_pos rfl, if_pos (show (0 : Int) ≤ (nI 2).toInt ∧ (nI 2).toInt ≤ 6 by rw [nI_toInt (by omega)]; omega), if_neg (show ¬ (1 : Int32) = 0 by decide)]
      · rw [sw3_8, if_neg (show ¬ nI 3 = (7 : Int32) by decide), if_pos rfl, if_pos (show (0 : Int) ≤ (nI 3).toInt ∧ (nI 3).toInt ≤ 6 by rw [nI_toInt (by omega)]; omega), if_neg (show ¬ (1 : Int32) = 0 by decide)]
      · rw [sw4_8, if_neg (show ¬ nI 4 = (7 : Int32) by decide), if_pos rfl, if_pos (show (0 : Int) ≤ (nI 4).toInt ∧ (nI 4).toInt ≤ 6 by rw [nI_toInt (by omega)]; omega), if_neg (show ¬ (1 : Int32) = 0 by decide), if_pos (show (-1 : Int32) < 0 by decide)]
      · rw [sw5_8, if_neg (show ¬ nI 5 = (7 : Int32) by decide), if_pos rfl, if_pos (show (0 : Int) ≤ (nI 5).toInt ∧ (nI 5).toInt ≤ 6 by rw [nI_toInt (by omega)]; omega), if_neg (show ¬ (1 : Int32) = 0 by decide)]
      · rw [sw6_8, if_neg (show ¬ nI 6 = (7 : Int32) by decide), if_pos rfl, if_pos (show (0 : Int) ≤ (nI 6).toInt ∧ (nI 6).toInt ≤ 6 by rw [nI_toInt (by omega)]; omega), if_neg (show ¬ (1 : Int32) = 0 by decide)]
      · rw [sw7_8, if_pos (show nI 7 = (7 : Int32) from rfl)]
    · obtain ⟨hN0, hN, hr, r2, r3, r0, -, r4, -, r5, -⟩ := hC
      rcases (show j = 0 ∨ j = 1 ∨ j = 2 ∨ j = 3 ∨ j = 4 ∨ j = 5 ∨ j = 6 ∨ j = 7 by omega) with rfl | rfl | rfl | rfl | rfl | rfl | rfl | rfl
      · rw [sw0_8, if_neg (show ¬ nI 0 = (7 : Int32) by decide), if_neg (show ¬ (1 : Int32) = 0 by decide), if_pos (show (0 : Int) ≤ (nI 0).toInt ∧ (nI 0).toInt ≤ 3 by rw [nI_toInt (by omega)]; omega), if_neg (show ¬ (1 : Int32) = 0 by decide), nI_clamp (by omega), r0]
      · rw [sw1_8, if_neg (show ¬ nI 1 = (7 : Int32) by decide), if_neg (show ¬ (1 : Int32) = 0 by decide), if_pos (show (0 : Int) ≤ (nI 1).toInt ∧ (nI 1).toInt ≤ 3 by rw [nI_toInt (by omega)]; omega), if_neg (show ¬ (1 : Int32) = 0 by decide), nI_clamp (by omega), hr]
      · rw [sw2_8, if_neg (show ¬ nI 2 = (7 : Int32) by decide), if_neg (show ¬ (1 : Int32) = 0 by decide), if_pos (show (0 : Int) ≤ (nI 2).toInt ∧ (nI 2).toInt ≤ 3 by rw [nI_toInt (by omega)]; omega), if_neg (show ¬ (1 : Int32) = 0 by decide), nI_clamp (by omega), r2]
      · rw [sw3_8, if_neg (show ¬ nI 3 = (7 : Int32) by decide), if_neg (show ¬ (1 : Int32) = 0 by decide), if_pos (show (0 : Int) ≤ (nI 3).toInt ∧ (nI 3).toInt ≤ 3 by rw [nI_toInt (by omega)]; omega), if_neg (show ¬ (1 : Int32) = 0 by decide), nI_clamp (by omega), r3]
      · rw [sw4_8, if_neg (show ¬ nI 4 = (7 : Int32) by decide), if_neg (show ¬ (1 : Int32) = 0 by decide), if_neg (show ¬ ((0 : Int) ≤ (nI 4).toInt ∧ (nI 4).toInt ≤ 3) by rw [nI_toInt (by omega)]; omega), if_pos rfl, if_pos (show nI 4 = (4 : Int32) from rfl), four_cl]
        by_cases hs : said.toInt < 0
        · rw [if_pos (show r 4 ≤ (0 : Int32) by rw [fz_le, kc_0]; omega), if_pos (show said < (0 : Int32) by rw [fz_lt, kc_0]; exact hs)]
        · rw [if_neg (show ¬ r 4 ≤ (0 : Int32) by rw [fz_le, kc_0]; omega), if_neg (show ¬ said < (0 : Int32) by rw [fz_lt, kc_0]; exact hs)]
      · rw [sw5_8, if_neg (show ¬ nI 5 = (7 : Int32) by decide), if_neg (show ¬ (1 : Int32) = 0 by decide), if_neg (show ¬ ((0 : Int) ≤ (nI 5).toInt ∧ (nI 5).toInt ≤ 3) by rw [nI_toInt (by omega)]; omega), if_pos rfl, if_neg (show ¬ nI 5 = (4 : Int32) by decide), if_pos (show nI 5 = (5 : Int32) from rfl)]
      · rw [sw6_8, if_neg (show ¬ nI 6 = (7 : Int32) by decide), if_neg (show ¬ (1 : Int32) = 0 by decide), if_neg (show ¬ ((0 : Int) ≤ (nI 6).toInt ∧ (nI 6).toInt ≤ 3) by rw [nI_toInt (by omega)]; omega), if_pos rfl, if_neg (show ¬ nI 6 = (4 : Int32) by decide), if_neg (show ¬ nI 6 = (5 : Int32) by decide), if_pos (show nI 6 = (6 : Int32) from rfl)]
      · rw [sw7_8, if_pos (show nI 7 = (7 : Int32) from rfl)]
  · rw [sw_out (by show p0.toInt < (0 : Int) ∨ (0 : Int) + ((8 : Nat) : Int) ≤ p0.toInt; omega), if_neg (show ¬ p0 = 7 by rw [fz_eq, k7]; omega)]
    by_cases hc0 : hc = 0
    · rw [if_pos hc0, if_neg (show ¬ (0 ≤ p0.toInt ∧ p0.toInt ≤ 6) by omega), if_pos rfl]
    · rw [if_neg hc0, if_neg (show ¬ (0 ≤ p0.toInt ∧ p0.toInt ≤ 3) by omega), if_pos rfl, if_neg (show ¬ p0 = 4 by rw [fz_eq, k4]; omega), if_neg (show ¬ p0 = 5 by rw [fz_eq, k5]; omega), if_neg (show ¬ p0 = 6 by rw [fz_eq, k6]; omega)]
theorem say_join (h : Rel nodes words unsures slips throne said kind parts pn wt tw uw uo w o ic iw0 io0 iw1 io1 iw2 io2 ac an ao as hc r told st und kept undos images) {p0 p1 q6 rf : Int32} {w2 : Nat → Int32} {ac2 : Int32} {an2 ao2 as2 : Nat → Int32} {q7 t1 t2 un2 : Int32} {st2 und2 : Nat → Int32} (e6 : PX6_say nodes kind w ac an ao as p0 p1 = (q6, rf, w2, ac2, an2, ao2, as2)) (e7 : PX7_say hc r st und undos p0 p1 = (q7, t1, t2, un2, st2, und2)) : q6 = q7 ∧ rf = t2 ∧ Rel nodes words unsures slips throne said kind parts pn wt tw uw uo w2 o ic iw0 io0 iw1 io1 iw2 io2 ac2 an2 ao2 as2 hc r told st2 und2 kept un2 images := by
  obtain ⟨_, _, _, _, _, _, _, _, _, _, g6, g7, hR⟩ := say_sim h p0 p1
  have x := g6.symm.trans e6
  have y := g7.symm.trans e7
  simp only [Prod.mk.injEq] at x y
  obtain ⟨rfl, rfl, rfl, rfl, rfl, rfl, rfl⟩ := x
  obtain ⟨rfl, -, rfl, rfl, rfl, rfl⟩ := y
  exact ⟨rfl, rfl, hR⟩
theorem front_join (h : Rel nodes words unsures slips throne said kind parts pn wt tw uw uo w o ic iw0 io0 iw1 io1 iw2 io2 ac an ao as hc r told st und kept undos images) {p0 p1 q6 rf : Int32} {o2 : Nat → Int32} {ac2 : Int32} {an2 ao2 as2 : Nat → Int32} {q7 t1 t2 un2 : Int32} {st2 und2 : Nat → Int32} (e6 : PX6_front nodes parts pn o ac an ao as p0 p1 = (q6, rf, o2, ac2, an2, ao2, as2)) (e7 : PX7_front hc r st und undos p0 p1 = (q7, t1, t2, un2, st2, und2)) : q6 = q7 ∧ rf = t2 ∧ Rel nodes words unsures slips throne said kind parts pn wt tw uw uo w o2 ic iw0 io0 iw1 io1 iw2 io2 ac2 an2 ao2 as2 hc r told st2 und2 kept un2 images := by
  obtain ⟨_, _, _, _, _, _, _, _, _, _, g6, g7, hR⟩ := front_sim h p0 p1
  have x := g6.symm.trans e6
  have y := g7.symm.trans e7
  simp only [Prod.mk.injEq] at x y
  obtain ⟨rfl, rfl, rfl, rfl, rfl, rfl, rfl⟩ := x
  obtain ⟨rfl, -, rfl, rfl, rfl, rfl⟩ := y
  exact ⟨rfl, rfl, hR⟩
theorem undo_join (h : Rel nodes words unsures slips throne said kind parts pn wt tw uw uo w o ic iw0 io0 iw1 io1 iw2 io2 ac an ao as hc r told st und kept undos images) {q6 rf : Int32} {w2 o2 : Nat → Int32} {ac2 q7 t1 t2 un2 : Int32} {st2 : Nat → Int32} (e6 : PX6_undo w o ac an ao as = (q6, rf, w2, o2, ac2)) (e7 : PX7_undo st und undos = (q7, t1, t2, un2, st2)) : q6 = q7 ∧ rf = t2 ∧ Rel nodes words unsures slips throne said kind parts pn wt tw uw uo w2 o2 ic iw0 io0 iw1 io1 iw2 io2 ac2 an ao as hc r told st2 und kept un2 images := by
  obtain ⟨_, _, _, _, _, _, _, g6, g7, hR⟩ := undo_sim h
  have x := g6.symm.trans e6
  have y := g7.symm.trans e7
  simp only [Prod.mk.injEq] at x y
  obtain ⟨rfl, rfl, rfl, rfl, rfl⟩ := x
  obtain ⟨rfl, -, rfl, rfl, rfl⟩ := y
  exact ⟨rfl, rfl, hR⟩
theorem back_join (h : Rel nodes words unsures slips throne said kind parts pn wt tw uw uo w o ic iw0 io0 iw1 io1 iw2 io2 ac an ao as hc r told st und kept undos images) {p0 q6 rf : Int32} {w2 o2 : Nat → Int32} {ac2 q7 t1 t2 un2 : Int32} {st2 : Nat → Int32} (e6 : PX6_back ic w o ac iw0 io0 iw1 io1 iw2 io2 p0 = (q6, rf, w2, o2, ac2)) (e7 : PX7_back st kept undos images p0 = (q7, t1, t2, un2, st2)) : q6 = q7 ∧ rf = t2 ∧ Rel nodes words unsures slips throne said kind parts pn wt tw uw uo w2 o2 ic iw0 io0 iw1 io1 iw2 io2 ac2 an ao as hc r told st2 und kept un2 images := by
  obtain ⟨_, _, _, _, _, _, _, g6, g7, hR⟩ := back_sim h p0
  have x := g6.symm.trans e6
  have y := g7.symm.trans e7
  simp only [Prod.mk.injEq] at x y
  obtain ⟨rfl, rfl, rfl, rfl, rfl⟩ := x
  obtain ⟨rfl, -, rfl, rfl, rfl⟩ := y
  exact ⟨rfl, rfl, hR⟩
theorem image_join (h : Rel nodes words unsures slips throne said kind parts pn wt tw uw uo w o ic iw0 io0 iw1 io1 iw2 io2 ac an ao as hc r told st und kept undos images) {q6 ic2 rf : Int32} {a0 b0 a1 b1 a2 b2 : Nat → Int32} {q7 t1 t2 im2 : Int32} {kept2 : Nat → Int32} (e6 : PX6_image ic nodes w o iw0 io0 iw1 io1 iw2 io2 = (q6, ic2, rf, a0, b0, a1, b1, a2, b2)) (e7 : PX7_image hc st kept images = (q7, t1, t2, im2, kept2)) : q6 = q7 ∧ rf = t2 ∧ Rel nodes words unsures slips throne said kind parts pn wt tw uw uo w o ic2 a0 b0 a1 b1 a2 b2 ac an ao as hc r told st und kept2 undos im2 := by
  obtain ⟨_, _, _, _, _, _, _, _, _, _, _, g6, g7, hR⟩ := image_sim h
  have x := g6.symm.trans e6
  have y := g7.symm.trans e7
  simp only [Prod.mk.injEq] at x y
  obtain ⟨rfl, rfl, rfl, rfl, rfl, rfl, rfl, rfl, rfl⟩ := x
  obtain ⟨rfl, -, rfl, rfl, rfl⟩ := y
  exact ⟨rfl, rfl, hR⟩
theorem part_join (h : Rel nodes words unsures slips throne said kind parts pn wt tw uw uo w o ic iw0 io0 iw1 io1 iw2 io2 ac an ao as hc r told st und kept undos images) {p0 p1 q6 rf q7 t1 t2 : Int32} (e6 : PX6_part nodes parts pn o p0 p1 = (q6, rf)) (e7 : PX7_part hc r st p0 p1 = (q7, t1, t2)) : q6 = q7 ∧ rf = t2 := by
  obtain ⟨_, _, _, g6, g7⟩ := part_sim2 h p0 p1
  have x := g6.symm.trans e6
  have y := g7.symm.trans e7
  simp only [Prod.mk.injEq] at x y
  obtain ⟨rfl, rfl⟩ := x
  obtain ⟨rfl, -, rfl⟩ := y
  exact ⟨rfl, rfl⟩
theorem throne_join (h : Rel nodes words unsures slips throne said kind parts pn wt tw uw uo w o ic iw0 io0 iw1 io1 iw2 io2 ac an ao as hc r told st und kept undos images) {q6 rf q7 t1 t2 : Int32} (e6 : PX6_throne nodes throne = (q6, rf)) (e7 : PX7_throne hc r = (q7, t1, t2)) : q6 = q7 ∧ rf = t2 := by
  obtain ⟨_, _, _, g6, g7⟩ := thr_sim2 h
  have x := g6.symm.trans e6
  have y := g7.symm.trans e7
  simp only [Prod.mk.injEq] at x y
  obtain ⟨rfl, rfl⟩ := x
  obtain ⟨rfl, -, rfl⟩ := y
  exact ⟨rfl, rfl⟩
theorem size_join (h : Rel nodes words unsures slips throne said kind parts pn wt tw uw uo w o ic iw0 io0 iw1 io1 iw2 io2 ac an ao as hc r told st und kept undos images) {tp p0 q6 q7 t1 : Int32} (e6 : PX6_size ic nodes words unsures slips said ac tp p0 = q6) (e7 : PX7_size tp hc r undos images p0 = (q7, t1)) : q6 = q7 := by
  obtain ⟨_, g7⟩ := size_sim h tp p0
  have y := g7.symm.trans e7
  simp only [Prod.mk.injEq] at y
  exact e6.symm.trans y.1
end RL
end D2
