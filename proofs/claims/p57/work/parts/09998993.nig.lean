/-! nights: on both sides -/
section F8
/-- worths by nights: so many steps down what is no word counts 50 -/
def NV (un : Int32) (kind parts pn wt ws W : Nat → Int32) : Nat → Nat → Int32
  | 0, k => if kind k = 0 then W k * un else 50 * un
  | d + 1, k => if kind k = 0 then W k * un else Jv (kind k) (ws k) wt (fun i => NV un kind parts pn wt ws W d (pn (4 * k + i)).toNatClampNeg) k (parts k).toNatClampNeg
section WQ
variable {N : Nat} {words unsures slips throne said unit : Int32} {kind parts pn wt tw uw uo r told W o Q ws steps below above : Nat → Int32}
theorem wn_eq (hC : CR N words unsures slips throne said kind parts pn wt tw uw uo r told) (hS : StR N parts pn W o Q) (hI : CI N unit kind parts pn wt ws steps below above) (hR : ROk r) {sc : Int32} : ∀ (d n k e : Nat), k < n → k < N → e + d < 1000 → PX7_worthAt n (nI (e + d)) r told sc Q (nI k) (nI e) = NV sc kind parts pn wt ws W d k := by
  have hN := hI.1
  intro d
  induction d with
  | zero =>
    intro n k e h1 hk he
    obtain ⟨n, rfl⟩ : ∃ g, n = g + 1 := ⟨n - 1, by omega⟩
    obtain ⟨q, hp, hD⟩ := hI.2.1 k hk
    rw [wa_step hC hS hR hk hp hD, Nat.add_zero, if_pos rfl, NV]
  | succ d ih =>
    intro n k e h1 hk he
    obtain ⟨n, rfl⟩ : ∃ g, n = g + 1 := ⟨n - 1, by omega⟩
    obtain ⟨q, hp, hD⟩ := hI.2.1 k hk
    have hq := hD.1
    rw [wa_step hC hS hR hk hp hD, NV, hp, nI_clamp (show q < 2 ^ 31 by omega), if_neg (show ¬ nI e = nI (e + (d + 1)) by rw [nI_eq (by omega) (by omega)]; omega)]
    by_cases h0 : kind k = 0
    · rw [if_pos h0, if_pos h0]
    · rw [if_neg h0, if_neg h0]
      refine Jv_congr (fun i hi => ?_)
      obtain ⟨j, j1, j2⟩ := hD.2.2.2.2.1 i hi
      show PX7_worthAt n (nI (e + (d + 1))) r told sc Q (pn (4 * k + i)) (nI (e + 1)) = NV sc kind parts pn wt ws W d (pn (4 * k + i)).toNatClampNeg
      rw [j2, nI_clamp (by omega), show e + (d + 1) = e + 1 + d by omega]
      exact ih n j (e + 1) (by omega) (by omega) (by omega)
theorem nn_loop (hI : CI N unit kind parts pn wt ws steps below above) {un : Int32} : ∀ (m k f : Nat) (G : Nat → Int32), N - k = m → k ≤ N → m < f → (∀ j : Nat, j < k → G j = NV un kind parts pn wt ws W 0 j) → ∀ j : Nat, j < N → HX4_weighNightNone_0 (nI N) un kind W f (nI k) G j = NV un kind parts pn wt ws W 0 j := by
  have hN := hI.1
  intro m
  induction m with
  | zero =>
    intro k f G hr hk hf hV j hj
    obtain ⟨f, rfl⟩ : ∃ g, f = g + 1 := ⟨f - 1, by omega⟩
    obtain rfl : k = N := by omega
    rw [HX4_weighNightNone_0_eq, if_pos (nI_le (by omega) (by omega))]
    exact hV j hj
  | succ m ih =>
    intro k f G hr hk hf hV j hj
    obtain ⟨f, rfl⟩ : ∃ g, f = g + 1 := ⟨f - 1, by omega⟩
    have key : ∀ z : Int32, z = NV un kind parts pn wt ws W 0 k → HX4_weighNightNone_0 (nI N) un kind W f (nI (k + 1)) (upd G k z) j = NV un kind parts pn wt ws W 0 j := fun z hz => by
      refine ih (k + 1) f (upd G k z) (by omega) (by omega) (by omega) (fun x hx => ?_) j hj
      by_cases c : x = k
      · rw [c, upd_at, hz]
      · rw [upd_ne c]; exact hV x (by omega)
    rw [HX4_weighNightNone_0_eq, if_neg (by rw [nI_leI (by omega) (by omega)]; omega)]
    simp only [lt_ap]
    rw [nI_clamp (show k < 2 ^ 31 by omega), nI_o1]
    by_cases h0 : kind k = 0
    · rw [if_pos h0]
      exact key _ (by rw [NV, if_pos h0])
    · rw [if_neg h0]
      exact key _ (by rw [NV, if_neg h0])
theorem nn_eq (hI : CI N unit kind parts pn wt ws steps below above) {un : Int32} (V : Nat → Int32) : ∀ j : Nat, j < N → PX4_weighNightNone V (nI N) un kind W j = NV un kind parts pn wt ws W 0 j := by
  have hN := hI.1
  have e := nn_loop (W := W) hI (un := un) N 0 (((2147483647 - (0 : Int32).toInt).toNat) + 1) V rfl (by omega) (by rw [kc_0]; omega) (fun j hj => absurd hj (by omega))
  rw [nI_0] at e
  rw [PX4_weighNightNone_eq]
  exact e
theorem NV_in (hC : CR N words unsures slips throne said kind parts pn wt tw uw uo r told) (hS : StR N parts pn W o Q) (hI : CI N unit kind parts pn wt ws steps below above) (hR : ROk r) (hW : ∀ k : Nat, k < N → kind k = 0 → 0 ≤ (W k).toInt ∧ (W k).toInt ≤ 99) {un : Int32} (hs : 1 ≤ un.toInt ∧ un.toInt ≤ 1296) {d k : Nat} (hd : d < 1000) (hk : k < N) : 0 ≤ (NV un kind parts pn wt ws W d k).toInt ∧ (NV un kind parts pn wt ws W d k).toInt ≤ 128304 := by
  rw [← wn_eq hC hS hI hR (sc := un) d (k + 1) k 0 (by omega) hk (by omega)]
  exact wa_in hC hS hI hR hW hs k (k + 1) 0 (by omega) hk
theorem nx_loop (hC : CR N words unsures slips throne said kind parts pn wt tw uw uo r told) (hS : StR N parts pn W o Q) (hI : CI N unit kind parts pn wt ws steps below above) (hR : ROk r) (hW : ∀ k : Nat, k < N → kind k = 0 → 0 ≤ (W k).toInt ∧ (W k).toInt ≤ 99) {un : Int32} (hs : 1 ≤ un.toInt ∧ un.toInt ≤ 1296) {d : Nat} (hd : d < 999) : ∀ (k f : Nat) (G : Nat → Int32), k ≤ N → k < f → (∀ j : Nat, j < k → G j = NV un kind parts pn wt ws W d j) → (∀ j : Nat, k ≤ j → j < N → G j = NV un kind parts pn wt ws W (d + 1) j) → ∀ j : Nat, j < N → HX4_weighNextNight_0 kind parts pn wt ws f (nI k - 1) G j = NV un kind parts pn wt ws W (d + 1) j := by
  have hN := hI.1
  intro k
  induction k with
  | zero =>
    intro f G hk hf hV hV2 j hj
    obtain ⟨f, rfl⟩ : ∃ g, f = g + 1 := ⟨f - 1, by omega⟩
    rw [HX4_weighNextNight_0_eq, if_pos (show nI 0 - 1 < (0 : Int32) by decide)]
    exact hV2 j (by omega) hj
  | succ k ih =>
    intro f G hk hf hV hV2 j hj
    obtain ⟨f, rfl⟩ : ∃ g, f = g + 1 := ⟨f - 1, by omega⟩
    obtain ⟨q, hp, hD⟩ := hI.2.1 k (by omega)
    have hq := hD.1
    have em : nI k + Int32.ofInt (-1) = nI k - 1 := by
      rw [Int32.sub_eq_add_neg]
      congr 1
    rw [HX4_weighNextNight_0_eq, nI_pred, if_neg (nI_pos (by omega))]
    simp only [lt_ap]
    rw [nI_clamp (show k < 2 ^ 31 by omega), em]
    by_cases h0 : kind k = 0
    · rw [if_pos h0]
      refine ih f G (by omega) (by omega) (fun x hx => hV x (by omega)) (fun x h1 h2 => ?_) j hj
      by_cases c : x = k
      · rw [c, hV k (by omega), NV, if_pos h0]
        cases d with
        | zero => rw [NV, if_pos h0]
        | succ d => rw [NV, if_pos h0]
      · exact hV2 x (by omega) h2
    · rw [if_neg h0]
      have ej : PX4_joined G kind parts pn wt ws (nI k) = NV un kind parts pn wt ws W (d + 1) k := by
        rw [NV, if_neg h0, hp, nI_clamp (show q < 2 ^ 31 by omega)]
        refine joined_eq (by omega) hq (q1_of hC hR (by omega) hp hq h0) hp h0 (fun i hi => ?_) (fun i hi => ?_) (fun h3 => ?_)
        · obtain ⟨x, j1, j2⟩ := hD.2.2.2.2.1 i hi
          show G (pn (4 * k + i)).toNatClampNeg = NV un kind parts pn wt ws W d (pn (4 * k + i)).toNatClampNeg
          rw [j2, nI_clamp (by omega)]
          exact hV x (by omega)
        · obtain ⟨x, j1, j2⟩ := hD.2.2.2.2.1 i hi
          show -100000000 < (NV un kind parts pn wt ws W d (pn (4 * k + i)).toNatClampNeg).toInt ∧ (NV un kind parts pn wt ws W d (pn (4 * k + i)).toNatClampNeg).toInt < 100000000
          rw [j2, nI_clamp (by omega)]
          have := NV_in hC hS hI hR hW hs (show d < 1000 by omega) (show x < N by omega)
          omega
        · obtain ⟨e, hw⟩ := w9_of hC hR (show k < N by omega) hp hD h3
          have h1 := q1_of hC hR (show k < N by omega) hp hq h0
          have a := (sum_w (w := fun i => wt (4 * k + i)) q hq hw).1
          rw [e]
          omega
      rw [ej]
      refine ih f (upd G k _) (by omega) (by omega) (fun x hx => ?_) (fun x h1 h2 => ?_) j hj
      · rw [upd_ne (by omega)]; exact hV x (by omega)
      · by_cases c : x = k
        · rw [c, upd_at]
        · rw [upd_ne c]; exact hV2 x (by omega) h2
theorem nx_eq (hC : CR N words unsures slips throne said kind parts pn wt tw uw uo r told) (hS : StR N parts pn W o Q) (hI : CI N unit kind parts pn wt ws steps below above) (hR : ROk r) (hW : ∀ k : Nat, k < N → kind k = 0 → 0 ≤ (W k).toInt ∧ (W k).toInt ≤ 99) {un : Int32} (hs : 1 ≤ un.toInt ∧ un.toInt ≤ 1296) {d : Nat} (hd : d < 999) {G : Nat → Int32} (hG : ∀ j : Nat, j < N → G j = NV un kind parts pn wt ws W d j) : ∀ j : Nat, j < N → PX4_weighNextNight G (nI N) kind parts pn wt ws j = NV un kind parts pn wt ws W (d + 1) j := by
  have hN := hI.1
  have hN0 := hC.N.1
  have em : (nI N - 1).toInt = (N : Int) - 1 := by rw [fb_subI (by rw [nI_toInt (by omega), kc_1]; omega) (by rw [nI_toInt (by omega), kc_1]; omega), nI_toInt (by omega), kc_1]
  intro j hj
  rw [PX4_weighNextNight_eq, lt_ap]
  exact nx_loop hC hS hI hR hW hs hd N _ G (Nat.le_refl _) (by rw [em]; omega) hG (fun x h1 h2 => absurd h2 (by omega)) j hj
theorem n6_loop (hC : CR N words unsures slips throne said kind parts pn wt tw uw uo r told) (hS : StR N parts pn W o Q) (hI : CI N unit kind parts pn wt ws steps below above) (hR : ROk r) (hW : ∀ k : Nat, k < N → kind k = 0 → 0 ≤ (W k).toInt ∧ (W k).toInt ≤ 99) {un p1 x6 : Int32} (hs : 1 ≤ un.toInt ∧ un.toInt ≤ 1296) {D t : Nat} (hD : D ≤ 9) (ht : t < N) : ∀ (m d f : Nat) (G : Nat → Int32), D - d = m → d ≤ D → m < f → (∀ j : Nat, j < N → G j = NV un kind parts pn wt ws W d j) → ∃ G' : Nat → Int32, HX6_night_0 (nI N) (nI t) un kind parts pn wt ws (nI D) p1 x6 f (nI d) G = (PX6_inLowestTerms (NV un kind parts pn wt ws W D t).toInt64 un.toInt64 p1, x6, G') := by
  have hN := hI.1
  intro m
  induction m with
  | zero =>
    intro d f G hr hd hf hG
    obtain ⟨f, rfl⟩ : ∃ g, f = g + 1 := ⟨f - 1, by omega⟩
    obtain rfl : d = D := by omega
    refine ⟨G, ?_⟩
    rw [HX6_night_0_eq, if_pos (nI_le (by omega) (by omega))]
    simp only [lt_ap]
    rw [nI_clamp (by omega), hG t ht]
  | succ m ih =>
    intro d f G hr hd hf hG
    obtain ⟨f, rfl⟩ : ∃ g, f = g + 1 := ⟨f - 1, by omega⟩
    rw [HX6_night_0_eq, if_neg (by rw [nI_leI (by omega) (by omega)]; omega)]
    simp only [lt_ap]
    rw [nI_o1]
    exact ih (d + 1) f _ (by omega) (by omega) (by omega) (nx_eq hC hS hI hR hW hs (by omega) hG)
/-- the reference's throne by a night -/
theorem tn_eq (hC : CR N words unsures slips throne said kind parts pn wt tw uw uo r told) (hS : StR N parts pn W o Q) (hI : CI N unit kind parts pn wt ws steps below above) (hR : ROk r) {sc : Int32} {d t : Nat} (hd : d < 1000) (ht : t < N) (hth : r 6 = nI t) : PX7_throneBy r told sc (nI d) Q = NV sc kind parts pn wt ws W d t := by
  have hN := hI.1
  have e := wn_eq hC hS hI hR (sc := sc) d 18 t 0 (by omega) ht (by omega)
  rw [Nat.zero_add] at e
  rw [PX7_throneBy_eq]
  simp only [lt_ap]
  rw [six_cl, hth, PX7_worthOf_eq, lt_ap, ← nI_0]
  exact e
/-- settled from which night on: both sides -/
def stF (P : Nat → Prop) [DecidablePred P] : Nat → Nat
  | 0 => 0
  | m + 1 => if P m then stF P m else m + 1
theorem s6_loop (hC : CR N words unsures slips throne said kind parts pn wt tw uw uo r told) (hS : StR N parts pn W o Q) (hI : CI N unit kind parts pn wt ws steps below above) (hR : ROk r) (hW : ∀ k : Nat, k < N → kind k = 0 → 0 ≤ (W k).toInt ∧ (W k).toInt ≤ 99) {un x6 z : Int32} (hs : 1 ≤ un.toInt ∧ un.toInt ≤ 1296) {t : Nat} (ht : t < N) : ∀ (m d f : Nat) (G : Nat → Int32), 10 - d = m → d ≤ 10 → m < f → (∀ j : Nat, j < N → G j = NV un kind parts pn wt ws W d j) → ∃ G' : Nat → Int32, HX6_settles_0 (nI N) (nI t) kind parts pn wt ws x6 z f (nI d) (nI (stF (fun d => NV un kind parts pn wt ws W d t = z) d)) G = (nI (stF (fun d => NV un kind parts pn wt ws W d t = z) 10), x6, G') := by
  have hN := hI.1
  have k9 : (9 : Int32).toInt = 9 := by decide
  intro m
  induction m with
  | zero =>
    intro d f G hr hd hf hG
    obtain ⟨f, rfl⟩ : ∃ g, f = g + 1 := ⟨f - 1, by omega⟩
    obtain rfl : d = 10 := by omega
    refine ⟨G, ?_⟩
    rw [HX6_settles_0_eq, if_pos (show (9 : Int32) < nI 10 by decide)]
  | succ m ih =>
    intro d f G hr hd hf hG
    obtain ⟨f, rfl⟩ : ∃ g, f = g + 1 := ⟨f - 1, by omega⟩
    rw [HX6_settles_0_eq, if_neg (show ¬ (9 : Int32) < nI d by rw [fz_lt, k9, nI_toInt (by omega)]; omega)]
    simp only [lt_ap]
    rw [nI_clamp (by omega), hG t ht, nI_o1, nI_1]
    obtain ⟨G', e⟩ := ih (d + 1) f _ (by omega) (by omega) (by omega) (nx_eq hC hS hI hR hW hs (by omega) hG)
    refine ⟨G', ?_⟩
    by_cases c : NV un kind parts pn wt ws W d t = z
    · rw [stF, if_pos c] at e
      rw [if_pos c]
      exact e
    · rw [stF, if_neg c] at e
      rw [if_neg c]
      exact e
theorem s7_loop (hC : CR N words unsures slips throne said kind parts pn wt tw uw uo r told) (hS : StR N parts pn W o Q) (hI : CI N unit kind parts pn wt ws steps below above) (hR : ROk r) {un t0 t1 z : Int32} {t : Nat} (ht : t < N) (hth : r 6 = nI t) (hz : PX7_throneBy r told un (-1) Q = z) : ∀ (d f : Nat) (y : Int32), d ≤ 10 → d < f → ∃ y' : Int32, HX7_settles_0 r told Q un t0 t1 f (nI d) y = (nI (stF (fun d => NV un kind parts pn wt ws W d t = z) d), t0, t1, y') := by
  intro d
  induction d with
  | zero =>
    intro f y hd hf
    obtain ⟨f, rfl⟩ : ∃ g, f = g + 1 := ⟨f - 1, by omega⟩
    exact ⟨y, by rw [HX7_settles_0_eq, if_pos (show nI 0 ≤ (0 : Int32) by decide)]; rfl⟩
  | succ d ih =>
    intro f y hd hf
    obtain ⟨f, rfl⟩ : ∃ g, f = g + 1 := ⟨f - 1, by omega⟩
    rw [HX7_settles_0_eq, if_neg (nI_nle (by omega) (by omega))]
    simp only [lt_ap]
    rw [nI_pred, PX7_throneAt_eq, lt_ap, un2_eq rfl, hz, tn_eq hC hS hI hR (by omega) ht hth, nI_om1]
    by_cases c : NV un kind parts pn wt ws W d t = z
    · obtain ⟨y', e⟩ := ih f (-1) (by omega) (by omega)
      refine ⟨y', ?_⟩
      rw [if_pos c, stF, if_pos c]
      exact e
    · refine ⟨-1, ?_⟩
      rw [if_neg c, stF, if_neg c]
end WQ
section FJ
variable {nodes words unsures slips throne said : Int32} {kind parts pn wt tw uw uo w o : Nat → Int32} {ic : Int32} {iw0 io0 iw1 io1 iw2 io2 : Nat → Int32} {ac : Int32} {an ao as : Nat → Int32} {hc : Int32} {r told st und kept : Nat → Int32} {undos images : Int32} {unit : Int32} {ws steps below above : Nat → Int32} {scale night : Int32}
theorem why_n {x : Int32} : PX7_why 1 x = if x = 0 then 2 else 0 := by rw [PX7_why_eq, if_neg (show ¬ (1 : Int32) = 0 by decide)]
theorem l2_no : (-1 : Int32).toInt64 = -1 := by decide
theorem night_join (h : Rel nodes words unsures slips throne said kind parts pn wt tw uw uo w o ic iw0 io0 iw1 io1 iw2 io2 ac an ao as hc r told st und kept undos images) (hx : CIS nodes unit kind parts pn wt ws steps below above) (hs : PX7_layScale r = scale) (hM : ROk r ∧ RowOk r st ∧ RowOk r told ∧ WorOk st ∧ night.toInt = -1 ∧ 1 ≤ scale.toInt ∧ scale.toInt ≤ 1296) {lv lv' : Nat → Int32} {p0 p1 : Int32} {q6 q7 : Int64} {rf t1 t2 n2 : Int32} (e6 : PX6_night nodes throne unit kind parts pn wt ws w lv p0 p1 = (q6, rf, lv')) (e7 : PX7_night hc r told st scale night p0 p1 = (q7, t1, t2, n2)) : q6 = q7 ∧ rf = t2 := by
  obtain ⟨hR, hQ, hQt, hW, hnt, hsc⟩ := hM
  have k9 : (9 : Int32).toInt = 9 := by decide
  have key : ∃ (q : Int64) (f t y : Int32) (v : Nat → Int32), PX6_night nodes throne unit kind parts pn wt ws w lv p0 p1 = (q, f, v) ∧ PX7_night hc r told st scale night p0 p1 = (q, t, f, y) := by
    rcases h with ⟨rfl, h0⟩ | ⟨N, c, d, rfl, rfl, rfl, rfl, hc, rfl, rfl, hd, hC, hS, hU, hI⟩
    · obtain ⟨h2, h3, h4, h5, h6, h7, rfl, h8, h9⟩ := h0
      refine ⟨-1, 1, 0, night, lv, ?_, ?_⟩
      · rw [PX6_night_eq, ln_0, un2_eq rfl, if_neg (show ¬ (1 : Int32) = 0 by decide)]
      · rw [PX7_night_eq, PX7_good_eq, un2_eq rfl]
        simp only [lt_ap]
        rw [why_0, if_neg (show ¬ (1 : Int32) = 0 by decide), if_pos rfl, no_eq, un2_eq rfl, l2_no]
    · obtain ⟨hN0, hN, hr⟩ := hC.N
      obtain ⟨M, hM, hX⟩ := hx
      obtain rfl : N = M := (nI_eq (by omega) (by have := hX.1; omega)).mp hM
      obtain rfl : unit = scale := (ls_eq hC hX).symm.trans hs
      have hth : r 6 = throne := hC.2.2.2.2.2.2.1
      have ht := hC.2.2.2.2.2.2.2.2.1
      obtain ⟨t, t1, t2⟩ := nd_of hN ht
      have e6 : PX6_night (nI N) throne unit kind parts pn wt ws w lv p0 p1 = if 0 ≤ p0.toInt ∧ p0.toInt ≤ 9 then HX6_night_0 (nI N) throne unit kind parts pn wt ws p0 p1 0 (((2147483647 - (0 : Int32).toInt).toNat) + 1) 0 (PX4_weighNightNone lv (nI N) unit kind w) else (-1, 2, lv) := by
        rw [PX6_night_eq, ln_N hN0 hN, kc_0, k9]
        by_cases c : 0 ≤ p0.toInt ∧ p0.toInt ≤ 9
        · rw [if_pos c, if_pos c, un2_eq rfl, if_pos rfl, lt_ap]
        · rw [if_neg c, if_neg c, un2_eq rfl, if_neg (show ¬ (1 : Int32) = 0 by decide)]
      have e7 : PX7_night 1 r told st unit night p0 p1 = if 0 ≤ p0.toInt ∧ p0.toInt ≤ 9 then (PX7_lowest (PX7_throneBy r told unit p0 st).toInt64 unit.toInt64 p1, 0, 0, -1) else (-1, 0, 2, night) := by
        rw [PX7_night_eq, PX7_good_eq, un2_eq rfl]
        simp only [lt_ap]
        rw [in_eq, kc_0, k9, why_n]
        by_cases c : 0 ≤ p0.toInt ∧ p0.toInt ≤ 9
        · rw [if_pos c, if_pos c, if_neg (show ¬ (1 : Int32) = 0 by decide), if_pos rfl, PX7_throneAt_eq, lt_ap, un2_eq rfl]
        · rw [if_neg c, if_neg c, if_pos rfl, if_neg (show ¬ (2 : Int32) = 0 by decide), if_neg (show ¬ (2 : Int32) = 1 by decide), no_eq, un2_eq rfl, l2_no]
      rw [e6, e7]
      by_cases c : 0 ≤ p0.toInt ∧ p0.toInt ≤ 9
      · rw [if_pos c, if_pos c]
        obtain ⟨D, hD, rfl⟩ : ∃ D : Nat, D ≤ 9 ∧ p0 = nI D := ⟨p0.toInt.toNat, by omega, by rw [fz_eq, nI_toInt (by omega)]; omega⟩
        obtain ⟨G', e⟩ := n6_loop (p1 := p1) (x6 := 0) hC hS hX hR (w_in hC hS hW) hsc hD t1 D 0 (((2147483647 - (0 : Int32).toInt).toNat) + 1) (PX4_weighNightNone lv (nI N) unit kind w) rfl (by omega) (by rw [kc_0]; omega) (nn_eq hX lv)
        have hb := NV_in hC hS hX hR (w_in hC hS hW) hsc (show D < 1000 by omega) t1
        rw [nI_0] at e
        refine ⟨_, 0, 0, -1, G', by rw [t2]; exact e, ?_⟩
        rw [tn_eq hC hS hX hR (by omega) t1 (hth.trans t2), lowest_eq (by rw [Int32.toInt_toInt64]; exact hb.1) (by rw [Int32.toInt_toInt64]; exact hsc.1)]
      · rw [if_neg c, if_neg c]
        exact ⟨_, _, _, _, _, rfl, rfl⟩
  obtain ⟨q, f, t, y, v, g6, g7⟩ := key
  have x := g6.symm.trans e6
  have z := g7.symm.trans e7
  simp only [Prod.mk.injEq] at x z
  obtain ⟨rfl, rfl, -⟩ := x
  obtain ⟨rfl, -, rfl, -⟩ := z
  exact ⟨rfl, rfl⟩
theorem settles_join (h : Rel nodes words unsures slips throne said kind parts pn wt tw uw uo w o ic iw0 io0 iw1 io1 iw2 io2 ac an ao as hc r told st und kept undos images) (hx : CIS nodes unit kind parts pn wt ws steps below above) (hs : PX7_layScale r = scale) (hM : ROk r ∧ RowOk r st ∧ RowOk r told ∧ WorOk st ∧ night.toInt = -1 ∧ 1 ≤ scale.toInt ∧ scale.toInt ≤ 1296) {lv lv' : Nat → Int32} {q6 q7 : Int32} {rf t1 t2 n2 : Int32} (e6 : PX6_settles nodes throne unit kind parts pn wt ws w lv = (q6, rf, lv')) (e7 : PX7_settles hc r told st scale night = (q7, t1, t2, n2)) : q6 = q7 ∧ rf = t2 := by
  obtain ⟨hR, hQ, hQt, hW, hnt, hsc⟩ := hM
  have key : ∃ (q : Int32) (f t y : Int32) (v : Nat → Int32), PX6_settles nodes throne unit kind parts pn wt ws w lv = (q, f, v) ∧ PX7_settles hc r told st scale night = (q, t, f, y) := by
    rcases h with ⟨rfl, h0⟩ | ⟨N, c, d, rfl, rfl, rfl, rfl, hc, rfl, rfl, hd, hC, hS, hU, hI⟩
    · obtain ⟨h2, h3, h4, h5, h6, h7, rfl, h8, h9⟩ := h0
      refine ⟨-1, 1, 0, night, lv, ?_, ?_⟩
      · rw [PX6_settles_eq, lc_0, un2_eq rfl, if_neg (show ¬ (1 : Int32) = 0 by decide)]
      · rw [PX7_settles_eq, PX7_good_eq, un2_eq rfl, if_pos rfl, no_eq, un2_eq rfl]
    · obtain ⟨hN0, hN, hr⟩ := hC.N
      obtain ⟨M, hM, hX⟩ := hx
      obtain rfl : N = M := (nI_eq (by omega) (by have := hX.1; omega)).mp hM
      obtain rfl : unit = scale := (ls_eq hC hX).symm.trans hs
      have hth : r 6 = throne := hC.2.2.2.2.2.2.1
      have ht := hC.2.2.2.2.2.2.2.2.1
      obtain ⟨t, t1, t2⟩ := nd_of hN ht
      obtain ⟨G, e, hG⟩ := weigh_eq hC hS hX hR (w_in hC hS hW) hsc lv
      obtain ⟨G', e2⟩ := s6_loop (x6 := 0) (z := PX7_throneBy r told unit (-1) st) hC hS hX hR (w_in hC hS hW) hsc t1 10 0 (((10 - (0 : Int32).toInt).toNat) + 1) (PX4_weighNightNone G (nI N) unit kind w) rfl (by omega) (by rw [kc_0]; omega) (nn_eq hX G)
      obtain ⟨y', e3⟩ := s7_loop (un := unit) (t0 := 0) (t1 := 0) hC hS hX hR t1 (hth.trans t2) rfl 10 (((10 : Int32).toInt.toNat) + 1) night (by omega) (by decide)
      refine ⟨nI (stF (fun d => NV unit kind parts pn wt ws w d t = PX7_throneBy r told unit (-1) st) 10), 0, 0, y', G', ?_, ?_⟩
      · rw [PX6_settles_eq, lc_N hN0 hN, un2_eq rfl, if_pos rfl, un2_eq e]
        simp only [lt_ap]
        rw [t2]
        have e0 : nI (stF (fun d => NV unit kind parts pn wt ws w d t = PX7_throneBy r told unit (-1) st) 0) = 0 := nI_0
        rw [e0, nI_0] at e2
        exact e2
      · rw [PX7_settles_eq, PX7_good_eq, un2_eq rfl, if_neg (show ¬ (1 : Int32) = 0 by decide)]
        exact e3
  obtain ⟨q, f, t, y, v, g6, g7⟩ := key
  have x := g6.symm.trans e6
  have z := g7.symm.trans e7
  simp only [Prod.mk.injEq] at x z
  obtain ⟨rfl, rfl, -⟩ := x
  obtain ⟨rfl, -, rfl, -⟩ := z
  exact ⟨rfl, rfl⟩
end FJ
end F8
