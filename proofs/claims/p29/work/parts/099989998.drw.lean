/-! orders by draws, on both sides -/
section G8
/-- the seed when the nodes below j have drawn -/
def sdn (parts : Nat → Int32) (x : Nat) : Nat → Nat
  | 0 => x
  | j + 1 => if (parts j).toInt.toNat = 0 then sdn parts x j else (75 * sdn parts x j + 74) % 65537
def shf (parts : Nat → Int32) (x k : Nat) : Nat := sdn parts x (k + 1) % (parts k).toInt.toNat
theorem sdn_lt {parts : Nat → Int32} {x : Nat} (hx : x < 65537) : ∀ j : Nat, sdn parts x j < 65537
  | 0 => hx
  | j + 1 => by
    have ih := sdn_lt (parts := parts) hx j
    rw [sdn]
    by_cases c : (parts j).toInt.toNat = 0
    · rw [if_pos c]; exact ih
    · rw [if_neg c]; exact Nat.mod_lt _ (by decide)
/-- a row after a draw -/
def rowD (N : Nat) (parts : Nat → Int32) (x : Nat) (f : Nat → Int32) (q : Nat) : Int32 := if q / 4 < N ∧ q % 4 < (parts (q / 4)).toInt.toNat then f (4 * (q / 4) + (q % 4 + shf parts x (q / 4)) % (parts (q / 4)).toInt.toNat) else f q
theorem rowD_at {N : Nat} {parts : Nat → Int32} {x k i m : Nat} {f : Nat → Int32} (hk : k < N) (hm : (parts k).toInt.toNat = m) (hi : i < m) (hm4 : m ≤ 4) : rowD N parts x f (4 * k + i) = f (4 * k + (i + shf parts x k) % m) := by
  unfold rowD
  rw [show (4 * k + i) / 4 = k by omega, show (4 * k + i) % 4 = i by omega, hm, if_pos ⟨hk, hi⟩]
theorem sd_step {x : Nat} (hx : x < 65537) : (75 : Int32) * nI x + 74 - ((75 : Int32) * nI x + 74) / 65537 * 65537 = nI ((75 * x + 74) % 65537) := by
  rw [show (75 : Int32) = nI 75 by decide, nI_mulN, show (74 : Int32) = nI 74 by decide, nI_add, show (65537 : Int32) = nI 65537 by decide]
  exact nI_mod (by omega) (by decide) (by decide)
theorem md_inj {q i j s : Nat} (hi : i < q) (hj : j < q) (hs : s < q) (h : (i + s) % q = (j + s) % q) : i = j := by
  have md : ∀ a : Nat, a < q → (a + s) % q = if q ≤ a + s then a + s - q else a + s := fun a ha => by
    by_cases c : q ≤ a + s
    · rw [if_pos c, Nat.mod_eq_sub_mod c, Nat.mod_eq_of_lt (by omega)]
    · rw [if_neg c, Nat.mod_eq_of_lt (by omega)]
  rw [md i hi, md j hj] at h
  by_cases c : q ≤ i + s
  · rw [if_pos c] at h
    by_cases d : q ≤ j + s
    · rw [if_pos d] at h; omega
    · rw [if_neg d] at h; omega
  · rw [if_neg c] at h
    by_cases d : q ≤ j + s
    · rw [if_pos d] at h; omega
    · rw [if_neg d] at h; omega
/-- the class turns a node's parts round -/
theorem rt_6 {k m s : Nat} (hk : k < 18) (hm : m ≤ 4) (hs : s < m) {o : Nat → Int32} : ∀ (d i f : Nat) (F : Nat → Int32), m - i = d → i ≤ m → d < f → ∀ q : Nat, HX5_turnRound_0 o (nI m) (nI s) (nI (4 * k)) f (nI i) F q = if 4 * k + i ≤ q ∧ q < 4 * k + m then o (4 * k + (q - 4 * k + s) % m) else F q := by
  intro d
  induction d with
  | zero =>
    intro i f F hd hi hf q
    obtain ⟨f, rfl⟩ : ∃ g, f = g + 1 := ⟨f - 1, by omega⟩
    rw [HX5_turnRound_0_eq, if_pos (nI_le (by omega) (by omega)), if_neg (show ¬ (4 * k + i ≤ q ∧ q < 4 * k + m) by omega)]
  | succ d ih =>
    intro i f F hd hi hf q
    obtain ⟨f, rfl⟩ : ∃ g, f = g + 1 := ⟨f - 1, by omega⟩
    have hmod : o (4 * k + (i + s) % m) = if m ≤ i + s then o (4 * k + (i + s - m)) else o (4 * k + (i + s)) := by
      by_cases c : m ≤ i + s
      · rw [if_pos c, Nat.mod_eq_sub_mod c, Nat.mod_eq_of_lt (by omega)]
      · rw [if_neg c, Nat.mod_eq_of_lt (by omega)]
    have hupd : ∀ q : Nat, (if 4 * k + (i + 1) ≤ q ∧ q < 4 * k + m then o (4 * k + (q - 4 * k + s) % m) else upd F (4 * k + i) (o (4 * k + (i + s) % m)) q) = if 4 * k + i ≤ q ∧ q < 4 * k + m then o (4 * k + (q - 4 * k + s) % m) else F q := fun q => by
      by_cases a : q = 4 * k + i
      · rw [if_neg (show ¬ (4 * k + (i + 1) ≤ q ∧ q < 4 * k + m) by omega), if_pos (show 4 * k + i ≤ q ∧ q < 4 * k + m by omega), a, upd_at, show 4 * k + i - 4 * k = i by omega]
      · by_cases b : 4 * k + (i + 1) ≤ q ∧ q < 4 * k + m
        · rw [if_pos b, if_pos (show 4 * k + i ≤ q ∧ q < 4 * k + m by omega)]
        · rw [if_neg b, if_neg (show ¬ (4 * k + i ≤ q ∧ q < 4 * k + m) by omega), upd_ne a]
    rw [← hupd q, hmod, HX5_turnRound_0_eq, if_neg (show ¬ nI m ≤ nI i by rw [nI_leI (by omega) (by omega)]; omega)]
    simp only [lt_ap]
    rw [nI_add, nI_add, nI_o1]
    by_cases c : m ≤ i + s
    · rw [if_pos (nI_le c (by omega)), if_pos c, nI_sub' c (by omega), nI_add, nI_clamp (show 4 * k + (i + s - m) < 2 ^ 31 by omega), nI_clamp (show 4 * k + i < 2 ^ 31 by omega)]
      exact ih (i + 1) f _ (by omega) (by omega) (by omega) q
    · rw [if_neg (show ¬ nI m ≤ nI (i + s) by rw [nI_leI (by omega) (by omega)]; exact c), if_neg c, nI_add, nI_clamp (show 4 * k + (i + s) < 2 ^ 31 by omega), nI_clamp (show 4 * k + i < 2 ^ 31 by omega)]
      exact ih (i + 1) f _ (by omega) (by omega) (by omega) q
section WQ
variable {N : Nat} {words unsures slips throne said unit : Int32} {kind parts pn wt tw uw uo r told W W' o o' Q Q' w st ws steps below above : Nat → Int32}
theorem dr_6 (hC : CR N words unsures slips throne said kind parts pn wt tw uw uo r told) (hI : CI N unit kind parts pn wt ws steps below above) {x : Nat} (hx : x < 65537) : ∀ (d k f : Nat) (F : Nat → Int32), N - k = d → k ≤ N → d < f → (∀ j i : Nat, j < k → i < (parts j).toInt.toNat → F (4 * j + i) = rowD N parts x o (4 * j + i)) → ∃ F' : Nat → Int32, HX6_drawOrders_0 (nI N) parts o f (nI k) (nI (sdn parts x k)) F = (nI (sdn parts x N), F') ∧ ∀ j i : Nat, j < N → i < (parts j).toInt.toNat → F' (4 * j + i) = rowD N parts x o (4 * j + i) := by
  have hN := hI.1
  have hp4 := hC.p4
  intro d
  induction d with
  | zero =>
    intro k f F hd hk hf hF
    obtain ⟨f, rfl⟩ : ∃ g, f = g + 1 := ⟨f - 1, by omega⟩
    obtain rfl : k = N := by omega
    exact ⟨F, by rw [HX6_drawOrders_0_eq, if_pos (nI_le (Nat.le_refl _) (by omega))], hF⟩
  | succ d ih =>
    intro k f F hd hk hf hF
    obtain ⟨f, rfl⟩ : ∃ g, f = g + 1 := ⟨f - 1, by omega⟩
    have hkN : k < N := by omega
    obtain ⟨q, hp, hD⟩ := hI.2.1 k hkN
    have hq := hD.1
    have hpn : (parts k).toInt.toNat = q := by rw [hp, nI_toInt (by omega)]; omega
    have hsx := sdn_lt (parts := parts) hx k
    rw [HX6_drawOrders_0_eq, if_neg (show ¬ nI N ≤ nI k by rw [nI_leI (by omega) (by omega)]; omega)]
    simp only [lt_ap]
    rw [nI_clamp (show k < 2 ^ 31 by omega), hp, nI_o1]
    by_cases c : q = 0
    · have e : sdn parts x (k + 1) = sdn parts x k := by rw [sdn, hpn, if_pos c]
      rw [if_pos (show nI q ≤ 0 by rw [c]; decide), ← e]
      refine ih (k + 1) f F (by omega) (by omega) (by omega) (fun j i hj hi => ?_)
      by_cases y : j = k
      · rw [y, hpn] at hi; omega
      · exact hF j i (by omega) hi
    · have e : sdn parts x (k + 1) = (75 * sdn parts x k + 74) % 65537 := by rw [sdn, hpn, if_neg c]
      have hs1 := sdn_lt (parts := parts) hx (k + 1)
      have hsh : shf parts x k = sdn parts x (k + 1) % q := by unfold shf; rw [hpn]
      have hlt : sdn parts x (k + 1) % q < q := Nat.mod_lt _ (by omega)
      rw [if_neg (nI_nle (by omega) (by omega)), sd_step hsx, ← e, nI_mod (by omega) (by omega) (by omega)]
      refine ih (k + 1) f _ (by omega) (by omega) (by omega) (fun j i hj hi => ?_)
      have hrt := rt_6 (k := k) (m := q) (s := sdn parts x (k + 1) % q) (by omega) hq hlt (o := o) q 0 (((2147483647 - (0 : Int32).toInt).toNat) + 1) F rfl (by omega) (by rw [kc_0]; omega) (4 * j + i)
      rw [nI_0] at hrt
      rw [PX5_turnRound_eq, lt_ap, nI_m4 (by omega), hrt]
      by_cases y : j = k
      · rw [y, hpn] at hi
        rw [y, if_pos (show 4 * k + 0 ≤ 4 * k + i ∧ 4 * k + i < 4 * k + q by omega), show 4 * k + i - 4 * k = i by omega, rowD_at hkN hpn hi hq, hsh]
      · have h4 := hp4 j (by omega)
        rw [if_neg (show ¬ (4 * k + 0 ≤ 4 * j + i ∧ 4 * j + i < 4 * k + q) by omega)]
        exact hF j i (by omega) hi
theorem StR.drawn (hC : CR N words unsures slips throne said kind parts pn wt tw uw uo r told) (hS : StR N parts pn W o Q) (hI : CI N unit kind parts pn wt ws steps below above) {x : Nat} {F : Nat → Int32} (hF : ∀ j i : Nat, j < N → i < (parts j).toInt.toNat → F (4 * j + i) = rowD N parts x o (4 * j + i)) (hW : ∀ j : Nat, j < N → W' j = W j) : StR N parts pn W' F (rowD N parts x Q) := by
  have hN := hI.1
  intro k hk
  obtain ⟨q, hp, hD⟩ := hI.2.1 k hk
  have hq := hD.1
  have hpi : (parts k).toInt = (q : Int) := by rw [hp, nI_toInt (by omega)]
  have hpn : (parts k).toInt.toNat = q := by rw [hpi]; omega
  obtain ⟨h1, h2, h3⟩ := hS k hk
  rw [hpi] at h2 h3 ⊢
  have hmod : ∀ i : Nat, i < q → (i + shf parts x k) % q < q := fun i hi => Nat.mod_lt _ (by omega)
  refine ⟨?_, fun i hi => ?_, fun i j hi hj e => ?_⟩
  · rw [hW k hk, h1]
    unfold rowD
    rw [if_neg (show ¬ ((72 + k) / 4 < N ∧ (72 + k) % 4 < (parts ((72 + k) / 4)).toInt.toNat) by omega)]
  · rw [hF k i hk (by omega), rowD_at hk hpn (show i < q by omega) hq, rowD_at hk hpn (show i < q by omega) hq]
    exact h2 _ (by have := hmod i (by omega); omega)
  · rw [hF k i hk (by omega), hF k j hk (by omega), rowD_at hk hpn (show i < q by omega) hq, rowD_at hk hpn (show j < q by omega) hq] at e
    have e2 := h3 _ _ (by have := hmod i (by omega); omega) (by have := hmod j (by omega); omega) e
    have hs : shf parts x k < q := by unfold shf; rw [hpn]; exact Nat.mod_lt _ (by omega)
    exact md_inj (show i < q by omega) (show j < q by omega) hs e2
/-- the reference draws for a node -/
theorem rt_7 {k m y : Nat} (hk : k < 18) (hm : m ≤ 4) (hm1 : 1 ≤ m) (hy : y < 65537) {K : Int32 → Int32 → (Nat → Int32) → Int32 × Int32 × Int32 × Int32 × (Nat → Int32) × (Nat → Int32) × (Nat → Int32)} : ∀ (d i f : Nat) (F : Nat → Int32), m - i = d → i ≤ m → d < f → ∃ F' : Nat → Int32, HX7_drawOrders_2 st (nI k) (nI m) (nI y) K f (nI i) F = K (nI (k + 1)) (nI y) F' ∧ ∀ q : Nat, F' q = if 4 * k + i ≤ q ∧ q < 4 * k + m then st (4 * k + (q - 4 * k + y % m) % m) else F q := by
  intro d
  induction d with
  | zero =>
    intro i f F hd hi hf
    obtain ⟨f, rfl⟩ : ∃ g, f = g + 1 := ⟨f - 1, by omega⟩
    refine ⟨F, ?_, fun q => by rw [if_neg (show ¬ (4 * k + i ≤ q ∧ q < 4 * k + m) by omega)]⟩
    rw [HX7_drawOrders_2_eq, if_pos (nI_le (by omega) (by omega)), lt_ap, nI_o1]
  | succ d ih =>
    intro i f F hd hi hf
    obtain ⟨f, rfl⟩ : ∃ g, f = g + 1 := ⟨f - 1, by omega⟩
    have hym : y % m < m := Nat.mod_lt _ (by omega)
    have him : (i + y % m) % m < m := Nat.mod_lt _ (by omega)
    obtain ⟨F', e, h⟩ := ih (i + 1) f (upd F (4 * k + i) (st (4 * k + (i + y % m) % m))) (by omega) (by omega) (by omega)
    refine ⟨F', ?_, fun q => ?_⟩
    · rw [HX7_drawOrders_2_eq, if_neg (show ¬ nI m ≤ nI i by rw [nI_leI (by omega) (by omega)]; omega)]
      simp only [lt_ap]
      rw [nI_m4' (by omega), nI_mod (show y < 2 ^ 31 by omega) (by omega) (by omega), nI_add, nI_add, nI_mod (show i + y % m < 2 ^ 31 by omega) (by omega) (by omega), nI_add, nI_clamp (show 4 * k + (i + y % m) % m < 2 ^ 31 by omega), nI_clamp (show 4 * k + i < 2 ^ 31 by omega), nI_o1]
      exact e
    · rw [h q]
      by_cases a : q = 4 * k + i
      · rw [if_neg (show ¬ (4 * k + (i + 1) ≤ q ∧ q < 4 * k + m) by omega), if_pos (show 4 * k + i ≤ q ∧ q < 4 * k + m by omega), a, upd_at, show 4 * k + i - 4 * k = i by omega]
      · by_cases b : 4 * k + (i + 1) ≤ q ∧ q < 4 * k + m
        · rw [if_pos b, if_pos (show 4 * k + i ≤ q ∧ q < 4 * k + m by omega)]
        · rw [if_neg b, if_neg (show ¬ (4 * k + i ≤ q ∧ q < 4 * k + m) by omega), upd_ne a]
theorem dr_7 (hC : CR N words unsures slips throne said kind parts pn wt tw uw uo r told) (hS : StR N parts pn W o Q) (hI : CI N unit kind parts pn wt ws steps below above) (hR : ROk r) (hW : ∀ k : Nat, k < N → kind k = 0 → 0 ≤ (W k).toInt ∧ (W k).toInt ≤ 99) {un : Int32} (hun : 1 ≤ un.toInt ∧ un.toInt ≤ 1296) {t : Nat} (hth : throne = nI t) (hth6 : r 6 = nI t) (ht : t < N) {x : Nat} (hx : x < 65537) {t9 l : Nat} (hl : l ≤ 100000000) {K : Int32 → Int32 → Int32 → Int32 → Int32 → Int32 → (Nat → Int32) → (Nat → Int32) → (Nat → Int32) → Int32 × Int32 × Int32 × Int32 × (Nat → Int32) × (Nat → Int32) × (Nat → Int32)} {hr cr : Nat → Int32} : ∀ (d k f : Nat) (F : Nat → Int32), N - k = d → k ≤ N → d < f → (∀ q : Nat, q < 90 → F q = if q / 4 < k then rowD N parts x Q q else Q q) → ∃ (c2 : Int32) (hr' cr' F' : Nat → Int32), HX7_drawOrders_1 r told Q un (nI t9) (nI l) hr cr K f (nI k) (nI (sdn parts x k)) F = K (nI (t9 + 1)) (nI (sdn parts x N)) (nI (BR r told un (rowD N parts x Q))) (nI (BR r told un (rowD N parts x Q))) c2 (nI (min l (BR r told un (rowD N parts x Q)))) hr' cr' F' := by
  obtain ⟨hN0, hN, hr1⟩ := hC.N
  have hSD := StR.drawn (x := x) hC hS hI (W' := W) (F := rowD N parts x o) (fun _ _ _ _ => rfl) (fun _ _ => rfl)
  intro d
  induction d with
  | zero =>
    intro k f F hd hk hf hF
    obtain ⟨f, rfl⟩ : ∃ g, f = g + 1 := ⟨f - 1, by omega⟩
    obtain rfl : k = N := by omega
    have hFQ : ∀ q : Nat, q < 90 → F q = rowD k parts x Q q := fun q hq => by
      rw [hF q hq]
      by_cases c : q / 4 < k
      · rw [if_pos c]
      · rw [if_neg c]
        unfold rowD
        rw [if_neg (show ¬ (q / 4 < k ∧ q % 4 < (parts (q / 4)).toInt.toNat) from fun h => c h.1)]
    obtain ⟨c2, hr', cr', e⟩ := br_7 hC hSD hI hR hW hun hth hth6 ht hFQ hr cr
    have hle := (br_both hC hSD hI hR hW hun hth hth6 ht (fun _ => 0) (fun _ => 0) (fun _ => 0) (fun _ => 0)).1
    refine ⟨nI c2, hr', cr', F, ?_⟩
    rw [HX7_drawOrders_1_eq, lt_ap, one_cl, hr1, if_pos (nI_le (Nat.le_refl _) (by omega)), un5_eq e]
    simp only [lt_ap]
    rw [nI_o1]
    exact mn_j (by omega) (by omega) (fun z => K (nI (t9 + 1)) (nI (sdn parts x k)) (nI (BR r told un (rowD k parts x Q))) (nI (BR r told un (rowD k parts x Q))) (nI c2) z hr' cr' F)
  | succ d ih =>
    intro k f F hd hk hf hF
    obtain ⟨f, rfl⟩ : ∃ g, f = g + 1 := ⟨f - 1, by omega⟩
    have hkN : k < N := by omega
    obtain ⟨q, hp, hD⟩ := hI.2.1 k hkN
    have hq := hD.1
    have hm := many_q hC hkN hp
    have hpn : (parts k).toInt.toNat = q := by rw [hp, nI_toInt (by omega)]; omega
    have hsx := sdn_lt (parts := parts) hx k
    rw [HX7_drawOrders_1_eq, lt_ap, one_cl, hr1, if_neg (show ¬ nI N ≤ nI k by rw [nI_leI (by omega) (by omega)]; omega)]
    simp only [lt_ap]
    rw [show (27 : Int32) + nI k = nI (27 + k) from nI_add 27 k, nI_clamp (show 27 + k < 2 ^ 31 by omega), hm]
    by_cases c : q = 0
    · have e : sdn parts x (k + 1) = sdn parts x k := by rw [sdn, hpn, if_pos c]
      rw [if_pos (show nI q = 0 by rw [c]; exact nI_0), ← e, nI_o1]
      refine ih (k + 1) f F (by omega) (by omega) (by omega) (fun z hz => ?_)
      rw [hF z hz]
      by_cases y : z / 4 < k
      · rw [if_pos y, if_pos (show z / 4 < k + 1 by omega)]
      · rw [if_neg y]
        by_cases y2 : z / 4 = k
        · rw [if_pos (show z / 4 < k + 1 by omega)]
          unfold rowD
          rw [y2, hpn, c, if_neg (show ¬ (k < N ∧ z % 4 < 0) by omega)]
        · rw [if_neg (show ¬ z / 4 < k + 1 by omega)]
    · have e : sdn parts x (k + 1) = (75 * sdn parts x k + 74) % 65537 := by rw [sdn, hpn, if_neg c]
      have hs1 := sdn_lt (parts := parts) hx (k + 1)
      have hsh : shf parts x k = sdn parts x (k + 1) % q := by unfold shf; rw [hpn]
      rw [if_neg (nI_ne0 (by omega) (by omega)), sd_step hsx, ← e]
      obtain ⟨F', e2, h2⟩ := rt_7 (st := Q) (k := k) (m := q) (y := sdn parts x (k + 1)) (by omega) hq (by omega) hs1 (K := fun z_10187 z_10188 f_10189 => HX7_drawOrders_1 r told Q un (nI t9) (nI l) hr cr K f z_10187 z_10188 f_10189) q 0 ((((nI q).toInt - (0 : Int32).toInt).toNat) + 1) F rfl (by omega) (by rw [nI_toInt (by omega), kc_0]; omega)
      rw [nI_0] at e2
      rw [e2]
      refine ih (k + 1) f F' (by omega) (by omega) (by omega) (fun z hz => ?_)
      rw [h2 z]
      by_cases y : 4 * k + 0 ≤ z ∧ z < 4 * k + q
      · rw [if_pos y, if_pos (show z / 4 < k + 1 by omega)]
        have ez : z = 4 * k + (z - 4 * k) := by omega
        have hr9 := rowD_at (x := x) (f := Q) (i := z - 4 * k) hkN hpn (by omega) hq
        rw [← ez, hsh] at hr9
        exact hr9.symm
      · rw [if_neg y, hF z hz]
        by_cases y1 : z / 4 < k
        · rw [if_pos y1, if_pos (show z / 4 < k + 1 by omega)]
        · rw [if_neg y1]
          by_cases y2 : z / 4 = k
          · rw [if_pos (show z / 4 < k + 1 by omega)]
            unfold rowD
            rw [y2, hpn, if_neg (show ¬ (k < N ∧ z % 4 < q) by omega)]
          · rw [if_neg (show ¬ z / 4 < k + 1 by omega)]
/-- the seed after so many draws; the fewest breaths so far -/
def sdt (N : Nat) (parts : Nat → Int32) (x : Nat) : Nat → Nat
  | 0 => x
  | t + 1 => sdn parts (sdt N parts x t) N
def mnt (b : Nat → Nat) : Nat → Nat
  | 0 => 100000000
  | t + 1 => min (mnt b t) (b t)
theorem sdt_lt {N : Nat} {parts : Nat → Int32} {x : Nat} (hx : x < 65537) : ∀ t : Nat, sdt N parts x t < 65537
  | 0 => hx
  | t + 1 => sdn_lt (sdt_lt hx t) N
theorem mnt_le (b : Nat → Nat) : ∀ t : Nat, mnt b t ≤ 100000000
  | 0 => Nat.le_refl _
  | t + 1 => Nat.le_trans (Nat.min_le_left _ _) (mnt_le b t)
/-- the reference draws n times -/
theorem dw_7 (hC : CR N words unsures slips throne said kind parts pn wt tw uw uo r told) (hS : StR N parts pn W o Q) (hI : CI N unit kind parts pn wt ws steps below above) (hR : ROk r) (hW : ∀ k : Nat, k < N → kind k = 0 → 0 ≤ (W k).toInt ∧ (W k).toInt ≤ 99) {un : Int32} (hun : 1 ≤ un.toInt ∧ un.toInt ≤ 1296) {t : Nat} (hth : throne = nI t) (hth6 : r 6 = nI t) (ht : t < N) {x n : Nat} (hx : x < 65537) (hn : n ≤ 60) : ∀ (d t f : Nat) (now b c : Int32) (hr cr F : Nat → Int32), n - t = d → t ≤ n → d < f → (1 ≤ t → now = nI (BR r told un (rowD N parts (sdt N parts x (t - 1)) Q))) → ∃ (now' b' c' : Int32) (hr' cr' F' : Nat → Int32), HX7_drawOrders_0 r told Q un (nI n) f (nI t) (nI (sdt N parts x t)) now b c (nI (mnt (fun j => BR r told un (rowD N parts (sdt N parts x j) Q)) t)) hr cr F = (now', b', c', nI (mnt (fun j => BR r told un (rowD N parts (sdt N parts x j) Q)) n), hr', cr', F') ∧ (1 ≤ n → now' = nI (BR r told un (rowD N parts (sdt N parts x (n - 1)) Q))) := by
  obtain ⟨hN0, hN, hr1⟩ := hC.N
  have e18 : (18 : Int32).toInt = 18 := by decide
  intro d
  induction d with
  | zero =>
    intro t f now b c hr cr F hd ht9 hf hnow
    obtain ⟨f, rfl⟩ : ∃ g, f = g + 1 := ⟨f - 1, by omega⟩
    obtain rfl : t = n := by omega
    exact ⟨now, b, c, hr, cr, F, by rw [HX7_drawOrders_0_eq, if_pos (nI_le (Nat.le_refl _) (by omega))], hnow⟩
  | succ d ih =>
    intro t f now b c hr cr F hd ht9 hf hnow
    obtain ⟨f, rfl⟩ : ∃ g, f = g + 1 := ⟨f - 1, by omega⟩
    obtain ⟨c2, hr', cr', F', e⟩ := dr_7 hC hS hI hR hW hun hth hth6 ht (sdt_lt (N := N) (parts := parts) hx t) (t9 := t) (mnt_le (fun j => BR r told un (rowD N parts (sdt N parts x j) Q)) t) (K := fun z_10175 z_10176 z_10177 z_10178 z_10179 z_10180 f_10181 f_10182 f_10183 => HX7_drawOrders_0 r told Q un (nI n) f z_10175 z_10176 z_10177 z_10178 z_10179 z_10180 f_10181 f_10182 f_10183) (hr := hr) (cr := cr) N 0 (((18 - (0 : Int32).toInt).toNat) + 1) (cpF Q F (0 : Int32).toNatClampNeg (0 : Int32).toNatClampNeg (90 : Int32).toNatClampNeg) rfl (by omega) (by rw [kc_0]; omega) (fun q hq => by rw [cpG90 hq, if_neg (show ¬ q / 4 < 0 by omega)])
    rw [nI_0, show sdn parts (sdt N parts x t) 0 = sdt N parts x t from rfl] at e
    rw [HX7_drawOrders_0_eq, if_neg (show ¬ nI n ≤ nI t by rw [nI_leI (by omega) (by omega)]; omega), lt_ap, e]
    exact ih (t + 1) f _ _ _ _ _ _ (by omega) (by omega) (by omega) (fun _ => rfl)
/-- the class draws, then hears -/
theorem dw_6 (hC : CR N words unsures slips throne said kind parts pn wt tw uw uo r told) (hS : StR N parts pn W o Q) (hI : CI N unit kind parts pn wt ws steps below above) (hR : ROk r) (hW : ∀ k : Nat, k < N → kind k = 0 → 0 ≤ (W k).toInt ∧ (W k).toInt ≤ 99) {un : Int32} (hun : 1 ≤ un.toInt ∧ un.toInt ≤ 1296) {t : Nat} (hth : throne = nI t) (hth6 : r 6 = nI t) (ht : t < N) {x n : Nat} (hx : x < 65537) (hn : n ≤ 60) (hn1 : 1 ≤ n) {rf : Int32} (hWW : ∀ j : Nat, j < N → W' j = W j) {hw cp : Nat → Int32} : ∀ (d t f : Nat) (F : Nat → Int32), n - t = d → t ≤ n → d < f → (1 ≤ t → ∀ j i : Nat, j < N → i < (parts j).toInt.toNat → F (4 * j + i) = rowD N parts (sdt N parts x (t - 1)) o (4 * j + i)) → ∃ (bits c' : Int32) (F' hw' cp' : Nat → Int32), HX6_drawn_0 (nI N) throne un kind parts pn wt ws o hw cp (nI n) rf W' f (nI t) (nI (sdt N parts x t)) F = (nI (BR r told un (rowD N parts (sdt N parts x (n - 1)) Q)), rf, W', F', nI (BR r told un (rowD N parts (sdt N parts x (n - 1)) Q)), bits, c', hw', cp') := by
  have hN := hI.1
  intro d
  induction d with
  | zero =>
    intro t f F hd ht9 hf hF
    obtain ⟨f, rfl⟩ : ∃ g, f = g + 1 := ⟨f - 1, by omega⟩
    obtain rfl : t = n := by omega
    have hSD := StR.drawn (x := sdt N parts x (t - 1)) hC hS hI (W' := W') (F := F) (hF hn1) hWW
    obtain ⟨-, ⟨bits, c', hw', cp', e⟩, -⟩ := br_both hC hSD hI hR (fun j hj h0 => by rw [hWW j hj]; exact hW j hj h0) hun hth hth6 ht hw cp (fun _ => 0) (fun _ => 0)
    refine ⟨bits, nI c', F, hw', cp', ?_⟩
    rw [HX6_drawn_0_eq, if_pos (nI_le (Nat.le_refl _) (by omega)), un6_eq e]
  | succ d ih =>
    intro t f F hd ht9 hf hF
    obtain ⟨f, rfl⟩ : ∃ g, f = g + 1 := ⟨f - 1, by omega⟩
    obtain ⟨F', e, h⟩ := dr_6 (o := o) hC hI (sdt_lt (N := N) (parts := parts) hx t) N 0 (((2147483647 - (0 : Int32).toInt).toNat) + 1) F rfl (by omega) (by rw [kc_0]; omega) (fun j i hj => absurd hj (by omega))
    rw [nI_0, show sdn parts (sdt N parts x t) 0 = sdt N parts x t from rfl] at e
    rw [HX6_drawn_0_eq, if_neg (show ¬ nI n ≤ nI t by rw [nI_leI (by omega) (by omega)]; omega), un2_eq (show PX6_drawOrders (nI N) parts o F (nI (sdt N parts x t)) = _ from (PX6_drawOrders_eq (nI N) parts o F (nI (sdt N parts x t))).trans e), lt_ap, nI_o1]
    exact ih (t + 1) f F' (by omega) (by omega) (by omega) (fun _ => h)
theorem dl_6 (hC : CR N words unsures slips throne said kind parts pn wt tw uw uo r told) (hS : StR N parts pn W o Q) (hI : CI N unit kind parts pn wt ws steps below above) (hR : ROk r) (hW : ∀ k : Nat, k < N → kind k = 0 → 0 ≤ (W k).toInt ∧ (W k).toInt ≤ 99) {un : Int32} (hun : 1 ≤ un.toInt ∧ un.toInt ≤ 1296) {t : Nat} (hth : throne = nI t) (hth6 : r 6 = nI t) (ht : t < N) {x n : Nat} (hx : x < 65537) (hn : n ≤ 60) {rf : Int32} (hWW : ∀ j : Nat, j < N → W' j = W j) : ∀ (d t f : Nat) (z x1 x2 x3 : Int32) (a1 a2 F : Nat → Int32), n - t = d → t ≤ n → d < f → (1 ≤ t → z = nI (mnt (fun j => BR r told un (rowD N parts (sdt N parts x j) Q)) t)) → ∃ (z' x1' x2' x3' : Int32) (a1' a2' F' : Nat → Int32), HX6_drawnLeast_0 (nI N) throne un kind parts pn wt ws o (nI n) rf W' f (nI t) (nI (sdt N parts x t)) z x1 x2 x3 a1 a2 F = (z', rf, W', F', x1', x2', x3', a1', a2') ∧ (1 ≤ n → z' = nI (mnt (fun j => BR r told un (rowD N parts (sdt N parts x j) Q)) n)) := by
  have hN := hI.1
  intro d
  induction d with
  | zero =>
    intro t f z x1 x2 x3 a1 a2 F hd ht9 hf hz
    obtain ⟨f, rfl⟩ : ∃ g, f = g + 1 := ⟨f - 1, by omega⟩
    obtain rfl : t = n := by omega
    exact ⟨z, x1, x2, x3, a1, a2, F, by rw [HX6_drawnLeast_0_eq, if_pos (nI_le (Nat.le_refl _) (by omega))], hz⟩
  | succ d ih =>
    intro t f z x1 x2 x3 a1 a2 F hd ht9 hf hz
    obtain ⟨f, rfl⟩ : ∃ g, f = g + 1 := ⟨f - 1, by omega⟩
    obtain ⟨F', e, h⟩ := dr_6 (o := o) hC hI (sdt_lt (N := N) (parts := parts) hx t) N 0 (((2147483647 - (0 : Int32).toInt).toNat) + 1) F rfl (by omega) (by rw [kc_0]; omega) (fun j i hj => absurd hj (by omega))
    rw [nI_0, show sdn parts (sdt N parts x t) 0 = sdt N parts x t from rfl] at e
    have hSD := StR.drawn (x := sdt N parts x t) hC hS hI (W' := W') (F := F') h hWW
    obtain ⟨hle, ⟨bits, c', hw', cp', e6⟩, -⟩ := br_both hC hSD hI hR (fun j hj h0 => by rw [hWW j hj]; exact hW j hj h0) hun hth hth6 ht a1 a2 (fun _ => 0) (fun _ => 0)
    have hmn : mnt (fun j => BR r told un (rowD N parts (sdt N parts x j) Q)) (t + 1) = min (mnt (fun j => BR r told un (rowD N parts (sdt N parts x j) Q)) t) (BR r told un (rowD N parts (sdt N parts x t) Q)) := rfl
    have hm9 := mnt_le (fun j => BR r told un (rowD N parts (sdt N parts x j) Q)) t
    rw [HX6_drawnLeast_0_eq, if_neg (show ¬ nI n ≤ nI t by rw [nI_leI (by omega) (by omega)]; omega), un2_eq (show PX6_drawOrders (nI N) parts o F (nI (sdt N parts x t)) = _ from (PX6_drawOrders_eq (nI N) parts o F (nI (sdt N parts x t))).trans e), un6_eq e6]
    simp only [lt_ap]
    rw [nI_o1]
    by_cases y : t = 0
    · rw [if_pos (show nI t = 0 by rw [y]; exact nI_0)]
      refine ih (t + 1) f _ _ _ _ _ _ _ (by omega) (by omega) (by omega) (fun _ => ?_)
      rw [hmn]
      congr 1
      have h0 : mnt (fun j => BR r told un (rowD N parts (sdt N parts x j) Q)) t = 100000000 := by rw [y]; rfl
      omega
    · rw [if_neg (nI_ne0 (by omega) (by omega)), hz (by omega)]
      by_cases c : mnt (fun j => BR r told un (rowD N parts (sdt N parts x j) Q)) t ≤ BR r told un (rowD N parts (sdt N parts x t) Q)
      · rw [if_pos (nI_le c (by omega))]
        refine ih (t + 1) f _ _ _ _ _ _ _ (by omega) (by omega) (by omega) (fun _ => ?_)
        rw [hmn]
        congr 1
        omega
      · rw [if_neg (show ¬ nI (mnt (fun j => BR r told un (rowD N parts (sdt N parts x j) Q)) t) ≤ nI (BR r told un (rowD N parts (sdt N parts x t) Q)) by rw [nI_leI (by omega) (by omega)]; exact c)]
        refine ih (t + 1) f _ _ _ _ _ _ _ (by omega) (by omega) (by omega) (fun _ => ?_)
        rw [hmn]
        congr 1
        omega
end WQ
theorem ld_0 (p0 p1 : Int32) : PX6_lacksDraws 0 p0 p1 = (1, 1) := by rw [PX6_lacksDraws_eq, ln_0, un2_eq rfl, if_neg (show ¬ (1 : Int32) = 0 by decide)]
theorem ld_N {N : Nat} (hN0 : 0 < N) (hN : N ≤ 18) (p0 p1 : Int32) : PX6_lacksDraws (nI N) p0 p1 = if (0 ≤ p0.toInt ∧ p0.toInt ≤ 65536) ∧ (1 ≤ p1.toInt ∧ p1.toInt ≤ 60) then (0, 0) else (1, 2) := by
  have k6 : (65536 : Int32).toInt = 65536 := by decide
  have k60 : (60 : Int32).toInt = 60 := by decide
  have k1 : (1 : Int32).toInt = 1 := by decide
  rw [PX6_lacksDraws_eq, ln_N hN0 hN, ln_N hN0 hN, kc_0, k6, k60, k1]
  by_cases a : 0 ≤ p0.toInt ∧ p0.toInt ≤ 65536
  · rw [if_pos a, un2_eq rfl, if_pos rfl]
    by_cases b : 1 ≤ p1.toInt ∧ p1.toInt ≤ 60
    · rw [if_pos b, un2_eq rfl, if_pos rfl, if_pos ⟨a, b⟩]
    · rw [if_neg b, un2_eq rfl, if_neg (show ¬ (1 : Int32) = 0 by decide), if_neg (fun h => b h.2)]
  · rw [if_neg a, un2_eq rfl, if_neg (show ¬ (1 : Int32) = 0 by decide), if_neg (fun h => a h.1)]
section FJ
variable {nodes words unsures slips throne said : Int32} {kind parts pn wt tw uw uo w o : Nat → Int32} {ic : Int32} {iw0 io0 iw1 io1 iw2 io2 : Nat → Int32} {ac : Int32} {an ao as : Nat → Int32} {hc : Int32} {r told st und kept : Nat → Int32} {undos images : Int32} {unit : Int32} {ws steps below above : Nat → Int32} {scale night : Int32}
theorem drawn_join (h : Rel nodes words unsures slips throne said kind parts pn wt tw uw uo w o ic iw0 io0 iw1 io1 iw2 io2 ac an ao as hc r told st und kept undos images) (hx : CIS nodes unit kind parts pn wt ws steps below above) (hs : PX7_layScale r = scale) (hM : ROk r ∧ RowOk r st ∧ RowOk r told ∧ WorOk st ∧ night.toInt = -1 ∧ 1 ≤ scale.toInt ∧ scale.toInt ≤ 1296) {xw xo : Nat → Int32} {hb hg hn br cm ld : Int32} {hw cp hr cr tr : Nat → Int32} {xw' xo' : Nat → Int32} {hb' hg' hn' br' cm' ld' : Int32} {hw' cp' hr' cr' tr' : Nat → Int32} {p0 p1 q6 q7 rf t1 t2 : Int32} (e6 : PX6_drawn nodes throne unit kind parts pn wt ws w o xw xo hb hg hn hw cp p0 p1 = (q6, rf, xw', xo', hb', hg', hn', hw', cp')) (e7 : PX7_drawn hc r told st scale hr cr br cm tr ld p0 p1 = (q7, t1, t2, br', cm', ld', hr', cr', tr')) : q6 = q7 ∧ rf = t2 := by
  obtain ⟨hR, hQ, hQt, hW, hnt, hsc⟩ := hM
  have k6 : (65536 : Int32).toInt = 65536 := by decide
  have k60 : (60 : Int32).toInt = 60 := by decide
  have k1 : (1 : Int32).toInt = 1 := by decide
  have key : ∃ (q f t : Int32) (c1 c2 : Nat → Int32) (d1 d2 d3 : Int32) (c3 c4 : Nat → Int32) (d4 d5 d6 : Int32) (c5 c6 c7 : Nat → Int32), PX6_drawn nodes throne unit kind parts pn wt ws w o xw xo hb hg hn hw cp p0 p1 = (q, f, c1, c2, d1, d2, d3, c3, c4) ∧ PX7_drawn hc r told st scale hr cr br cm tr ld p0 p1 = (q, t, f, d4, d5, d6, c5, c6, c7) := by
    rcases h with ⟨rfl, h0⟩ | ⟨N, c, d, rfl, rfl, rfl, rfl, hc, rfl, rfl, hd, hC, hS, hU, hI⟩
    · obtain ⟨h2, h3, h4, h5, h6, h7, rfl, h8, h9⟩ := h0
      refine ⟨-1, 1, 0, xw, xo, hb, hg, hn, hw, cp, br, cm, ld, hr, cr, tr, ?_, ?_⟩
      · rw [PX6_drawn_eq, ld_0, un2_eq rfl, if_neg (show ¬ (1 : Int32) = 0 by decide)]
      · rw [PX7_drawn_eq, PX7_good_eq, un2_eq rfl]
        simp only [lt_ap]
        rw [in_eq, in_eq, kc_0, k6, k1, k60]
        by_cases a : 0 ≤ p0.toInt ∧ p0.toInt ≤ 65536
        · rw [if_pos a, if_neg (show ¬ (1 : Int32) = 0 by decide)]
          by_cases b : 1 ≤ p1.toInt ∧ p1.toInt ≤ 60
          · rw [if_pos b, if_neg (show ¬ (1 : Int32) = 0 by decide), why_0, if_neg (show ¬ (1 : Int32) = 0 by decide), if_pos rfl, no_eq, un2_eq rfl]
          · rw [if_neg b, if_pos rfl, why_0, if_neg (show ¬ (1 : Int32) = 0 by decide), if_pos rfl, no_eq, un2_eq rfl]
        · rw [if_neg a, if_pos rfl, why_0, if_neg (show ¬ (1 : Int32) = 0 by decide), if_pos rfl, no_eq, un2_eq rfl]
    · obtain ⟨hN0, hN, hr1⟩ := hC.N
      obtain ⟨M, hM, hX⟩ := hx
      obtain rfl : N = M := (nI_eq (by omega) (by have := hX.1; omega)).mp hM
      obtain rfl : unit = scale := (ls_eq hC hX).symm.trans hs
      have hth : r 6 = throne := hC.2.2.2.2.2.2.1
      obtain ⟨t, t1, t2⟩ := nd_of hN hC.2.2.2.2.2.2.2.2.1
      have hWw := w_in hC hS hW
      by_cases c0 : (0 ≤ p0.toInt ∧ p0.toInt ≤ 65536) ∧ (1 ≤ p1.toInt ∧ p1.toInt ≤ 60)
      · obtain ⟨x, hx1, rfl⟩ : ∃ x : Nat, x < 65537 ∧ p0 = nI x := ⟨p0.toInt.toNat, by omega, by rw [fz_eq, nI_toInt (by omega)]; omega⟩
        obtain ⟨n, hn1, rfl⟩ : ∃ n : Nat, (1 ≤ n ∧ n ≤ 60) ∧ p1 = nI n := ⟨p1.toInt.toNat, by omega, by rw [fz_eq, nI_toInt (by omega)]; omega⟩
        have hx : x < 65537 ∧ 1 ≤ n ∧ n ≤ 60 := ⟨hx1, hn1⟩
        obtain ⟨now, b7, c7, hr2, cr2, F7, e7', hnow⟩ := dw_7 hC hS hX hR hWw hsc t2 (hth.trans t2) t1 hx.1 hx.2.2 n 0 (((2147483647 - (0 : Int32).toInt).toNat) + 1) 0 br cm hr cr tr rfl (by omega) (by rw [kc_0]; omega) (fun h => absurd h (by omega))
        rw [nI_0, show sdt N parts x 0 = x from rfl, show mnt (fun j => BR r told unit (rowD N parts (sdt N parts x j) st)) 0 = 100000000 from rfl, show nI 100000000 = (100000000 : Int32) by decide] at e7'
        obtain ⟨bits, c', F6, hw2, cp2, e6'⟩ := dw_6 hC hS hX hR hWw hsc t2 (hth.trans t2) t1 hx.1 hx.2.2 hx.2.1 (rf := 0) (W' := va_cpy w xw 0 0 18) (fun j hj => cpy_q (by omega)) (hw := hw) (cp := cp) n 0 (((2147483647 - (0 : Int32).toInt).toNat) + 1) (va_cpy o xo 0 0 72) rfl (by omega) (by rw [kc_0]; omega) (fun h => absurd h (by omega))
        rw [nI_0, show sdt N parts x 0 = x from rfl] at e6'
        refine ⟨nI (BR r told unit (rowD N parts (sdt N parts x (n - 1)) st)), 0, 0, va_cpy w xw 0 0 18, F6, nI (BR r told unit (rowD N parts (sdt N parts x (n - 1)) st)), bits, c', hw2, cp2, b7, c7, nI (mnt (fun j => BR r told unit (rowD N parts (sdt N parts x j) st)) n), hr2, cr2, F7, ?_, ?_⟩
        · rw [PX6_drawn_eq, ld_N hN0 hN, if_pos c0, un2_eq rfl, if_pos rfl, cp_eq, un2_eq rfl]
          exact e6'
        · rw [PX7_drawn_eq, PX7_good_eq, un2_eq rfl]
          simp only [lt_ap]
          rw [in_eq, in_eq, kc_0, k6, k1, k60, if_pos c0.1, if_neg (show ¬ (1 : Int32) = 0 by decide), if_pos c0.2, if_neg (show ¬ (1 : Int32) = 0 by decide), why_1, if_pos rfl, un7_eq (show PX7_drawOrders r told st unit hr cr br cm tr (nI x) (nI n) = _ from (PX7_drawOrders_eq r told st unit hr cr br cm tr (nI x) (nI n)).trans e7'), hnow hx.2.1]
      · refine ⟨-1, 2, 0, xw, xo, hb, hg, hn, hw, cp, br, cm, ld, hr, cr, tr, ?_, ?_⟩
        · rw [PX6_drawn_eq, ld_N hN0 hN, if_neg c0, un2_eq rfl, if_neg (show ¬ (1 : Int32) = 0 by decide)]
        · rw [PX7_drawn_eq, PX7_good_eq, un2_eq rfl]
          simp only [lt_ap]
          rw [in_eq, in_eq, kc_0, k6, k1, k60]
          by_cases a : 0 ≤ p0.toInt ∧ p0.toInt ≤ 65536
          · rw [if_pos a, if_neg (show ¬ (1 : Int32) = 0 by decide), if_neg (fun b => c0 ⟨a, b⟩), if_pos rfl, why_2, if_neg (show ¬ (2 : Int32) = 0 by decide), if_neg (show ¬ (2 : Int32) = 1 by decide), no_eq, un2_eq rfl]
          · rw [if_neg a, if_pos rfl, why_2, if_neg (show ¬ (2 : Int32) = 0 by decide), if_neg (show ¬ (2 : Int32) = 1 by decide), no_eq, un2_eq rfl]
  obtain ⟨q, f, t, c1, c2, d1, d2, d3, c3, c4, d4, d5, d6, c5, c6, c7, g6, g7⟩ := key
  have x := g6.symm.trans e6
  have y := g7.symm.trans e7
  simp only [Prod.mk.injEq] at x y
  obtain ⟨rfl, rfl, -⟩ := x
  obtain ⟨rfl, -, rfl, -⟩ := y
  exact ⟨rfl, rfl⟩
theorem drawnLeast_join (h : Rel nodes words unsures slips throne said kind parts pn wt tw uw uo w o ic iw0 io0 iw1 io1 iw2 io2 ac an ao as hc r told st und kept undos images) (hx : CIS nodes unit kind parts pn wt ws steps below above) (hs : PX7_layScale r = scale) (hM : ROk r ∧ RowOk r st ∧ RowOk r told ∧ WorOk st ∧ night.toInt = -1 ∧ 1 ≤ scale.toInt ∧ scale.toInt ≤ 1296) {xw xo : Nat → Int32} {hb hg hn br cm ld : Int32} {hw cp hr cr tr : Nat → Int32} {xw' xo' : Nat → Int32} {hb' hg' hn' br' cm' ld' : Int32} {hw' cp' hr' cr' tr' : Nat → Int32} {p0 p1 q6 q7 rf t1 t2 : Int32} (e6 : PX6_drawnLeast nodes throne unit kind parts pn wt ws w o xw xo hb hg hn hw cp p0 p1 = (q6, rf, xw', xo', hb', hg', hn', hw', cp')) (e7 : PX7_drawnLeast hc r told st scale hr cr br cm tr ld p0 p1 = (q7, t1, t2, br', cm', ld', hr', cr', tr')) : q6 = q7 ∧ rf = t2 := by
  obtain ⟨hR, hQ, hQt, hW, hnt, hsc⟩ := hM
  have k6 : (65536 : Int32).toInt = 65536 := by decide
  have k60 : (60 : Int32).toInt = 60 := by decide
  have k1 : (1 : Int32).toInt = 1 := by decide
  have key : ∃ (q f t : Int32) (c1 c2 : Nat → Int32) (d1 d2 d3 : Int32) (c3 c4 : Nat → Int32) (d4 d5 d6 : Int32) (c5 c6 c7 : Nat → Int32), PX6_drawnLeast nodes throne unit kind parts pn wt ws w o xw xo hb hg hn hw cp p0 p1 = (q, f, c1, c2, d1, d2, d3, c3, c4) ∧ PX7_drawnLeast hc r told st scale hr cr br cm tr ld p0 p1 = (q, t, f, d4, d5, d6, c5, c6, c7) := by
    rcases h with ⟨rfl, h0⟩ | ⟨N, c, d, rfl, rfl, rfl, rfl, hc, rfl, rfl, hd, hC, hS, hU, hI⟩
    · obtain ⟨h2, h3, h4, h5, h6, h7, rfl, h8, h9⟩ := h0
      refine ⟨-1, 1, 0, xw, xo, hb, hg, hn, hw, cp, br, cm, ld, hr, cr, tr, ?_, ?_⟩
      · rw [PX6_drawnLeast_eq, ld_0, un2_eq rfl, if_neg (show ¬ (1 : Int32) = 0 by decide)]
      · rw [PX7_drawnLeast_eq, PX7_good_eq, un2_eq rfl]
        simp only [lt_ap]
        rw [in_eq, in_eq, kc_0, k6, k1, k60]
        by_cases a : 0 ≤ p0.toInt ∧ p0.toInt ≤ 65536
        · rw [if_pos a, if_neg (show ¬ (1 : Int32) = 0 by decide)]
          by_cases b : 1 ≤ p1.toInt ∧ p1.toInt ≤ 60
          · rw [if_pos b, if_neg (show ¬ (1 : Int32) = 0 by decide), why_0, if_neg (show ¬ (1 : Int32) = 0 by decide), if_pos rfl, no_eq, un2_eq rfl]
          · rw [if_neg b, if_pos rfl, why_0, if_neg (show ¬ (1 : Int32) = 0 by decide), if_pos rfl, no_eq, un2_eq rfl]
        · rw [if_neg a, if_pos rfl, why_0, if_neg (show ¬ (1 : Int32) = 0 by decide), if_pos rfl, no_eq, un2_eq rfl]
    · obtain ⟨hN0, hN, hr1⟩ := hC.N
      obtain ⟨M, hM, hX⟩ := hx
      obtain rfl : N = M := (nI_eq (by omega) (by have := hX.1; omega)).mp hM
      obtain rfl : unit = scale := (ls_eq hC hX).symm.trans hs
      have hth : r 6 = throne := hC.2.2.2.2.2.2.1
      obtain ⟨t, t1, t2⟩ := nd_of hN hC.2.2.2.2.2.2.2.2.1
      have hWw := w_in hC hS hW
      by_cases c0 : (0 ≤ p0.toInt ∧ p0.toInt ≤ 65536) ∧ (1 ≤ p1.toInt ∧ p1.toInt ≤ 60)
      · obtain ⟨x, hx1, rfl⟩ : ∃ x : Nat, x < 65537 ∧ p0 = nI x := ⟨p0.toInt.toNat, by omega, by rw [fz_eq, nI_toInt (by omega)]; omega⟩
        obtain ⟨n, hn1, rfl⟩ : ∃ n : Nat, (1 ≤ n ∧ n ≤ 60) ∧ p1 = nI n := ⟨p1.toInt.toNat, by omega, by rw [fz_eq, nI_toInt (by omega)]; omega⟩
        have hx : x < 65537 ∧ 1 ≤ n ∧ n ≤ 60 := ⟨hx1, hn1⟩
        obtain ⟨now, b7, c7, hr2, cr2, F7, e7', hnow⟩ := dw_7 hC hS hX hR hWw hsc t2 (hth.trans t2) t1 hx.1 hx.2.2 n 0 (((2147483647 - (0 : Int32).toInt).toNat) + 1) 0 br cm hr cr tr rfl (by omega) (by rw [kc_0]; omega) (fun h => absurd h (by omega))
        rw [nI_0, show sdt N parts x 0 = x from rfl, show mnt (fun j => BR r told unit (rowD N parts (sdt N parts x j) st)) 0 = 100000000 from rfl, show nI 100000000 = (100000000 : Int32) by decide] at e7'
        obtain ⟨z6, x1, x2, x3, a1, a2, F6, e6', hz6⟩ := dl_6 hC hS hX hR hWw hsc t2 (hth.trans t2) t1 hx.1 hx.2.2 (rf := 0) (W' := va_cpy w xw 0 0 18) (fun j hj => cpy_q (by omega)) n 0 (((2147483647 - (0 : Int32).toInt).toNat) + 1) 0 hb hg hn hw cp (va_cpy o xo 0 0 72) rfl (by omega) (by rw [kc_0]; omega) (fun h => absurd h (by omega))
        rw [nI_0, show sdt N parts x 0 = x from rfl] at e6'
        refine ⟨nI (mnt (fun j => BR r told unit (rowD N parts (sdt N parts x j) st)) n), 0, 0, va_cpy w xw 0 0 18, F6, x1, x2, x3, a1, a2, b7, c7, nI (mnt (fun j => BR r told unit (rowD N parts (sdt N parts x j) st)) n), hr2, cr2, F7, ?_, ?_⟩
        · rw [PX6_drawnLeast_eq, ld_N hN0 hN, if_pos c0, un2_eq rfl, if_pos rfl, cp_eq, un2_eq rfl, ← hz6 hx.2.1]
          exact e6'
        · rw [PX7_drawnLeast_eq, PX7_good_eq, un2_eq rfl]
          simp only [lt_ap]
          rw [in_eq, in_eq, kc_0, k6, k1, k60, if_pos c0.1, if_neg (show ¬ (1 : Int32) = 0 by decide), if_pos c0.2, if_neg (show ¬ (1 : Int32) = 0 by decide), why_1, if_pos rfl, un7_eq (show PX7_drawOrders r told st unit hr cr br cm tr (nI x) (nI n) = _ from (PX7_drawOrders_eq r told st unit hr cr br cm tr (nI x) (nI n)).trans e7')]
      · refine ⟨-1, 2, 0, xw, xo, hb, hg, hn, hw, cp, br, cm, ld, hr, cr, tr, ?_, ?_⟩
        · rw [PX6_drawnLeast_eq, ld_N hN0 hN, if_neg c0, un2_eq rfl, if_neg (show ¬ (1 : Int32) = 0 by decide)]
        · rw [PX7_drawnLeast_eq, PX7_good_eq, un2_eq rfl]
          simp only [lt_ap]
          rw [in_eq, in_eq, kc_0, k6, k1, k60]
          by_cases a : 0 ≤ p0.toInt ∧ p0.toInt ≤ 65536
          · rw [if_pos a, if_neg (show ¬ (1 : Int32) = 0 by decide), if_neg (fun b => c0 ⟨a, b⟩), if_pos rfl, why_2, if_neg (show ¬ (2 : Int32) = 0 by decide), if_neg (show ¬ (2 : Int32) = 1 by decide), no_eq, un2_eq rfl]
          · rw [if_neg a, if_pos rfl, why_2, if_neg (show ¬ (2 : Int32) = 0 by decide), if_neg (show ¬ (2 : Int32) = 1 by decide), no_eq, un2_eq rfl]
  obtain ⟨q, f, t, c1, c2, d1, d2, d3, c3, c4, d4, d5, d6, c5, c6, c7, g6, g7⟩ := key
  have x := g6.symm.trans e6
  have y := g7.symm.trans e7
  simp only [Prod.mk.injEq] at x y
  obtain ⟨rfl, rfl, -⟩ := x
  obtain ⟨rfl, -, rfl, -⟩ := y
  exact ⟨rfl, rfl⟩
end FJ
end G8
