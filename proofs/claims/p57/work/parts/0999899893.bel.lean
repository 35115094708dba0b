/-! proofs: only the words below the throne matter; the class's search -/
section F24
def bm (below : Nat → Int32) (k : Nat) : Nat := (below k).toInt.toNat
section WQ
variable {N : Nat} {words unsures slips throne said unit : Int32} {kind parts pn wt tw uw uo r told W W' o Q w st ws steps below above : Nat → Int32}
theorem sb_or {b : Nat} {Z : Nat} (hZ : Z < 2 ^ 18) : ∀ m : Nat, (∀ i : Nat, i < m → ∃ M : Nat, below (pn (b + i)).toNatClampNeg = nI M ∧ M < 2 ^ 18) → ∃ R : Nat, sB below pn b (nI Z) m = nI R ∧ R < 2 ^ 18 ∧ ∀ j : Nat, R.testBit j = true ↔ (Z.testBit j = true ∨ ∃ i : Nat, i < m ∧ (bm below (pn (b + i)).toNatClampNeg).testBit j = true)
  | 0, _ => ⟨Z, rfl, hZ, fun j => ⟨Or.inl, fun h => h.elim id (fun ⟨i, hi, _⟩ => absurd hi (by omega))⟩⟩
  | m + 1, h => by
    obtain ⟨R, e, hR, hj⟩ := sb_or hZ m (fun i hi => h i (by omega))
    obtain ⟨M, e2, hM⟩ := h m (by omega)
    have eM : bm below (pn (b + m)).toNatClampNeg = M := by unfold bm; rw [e2, nI_toInt (by omega)]; omega
    refine ⟨R ||| M, by rw [sB, e, e2, bt_or], Nat.or_lt_two_pow hR hM, fun j => ?_⟩
    rw [Nat.testBit_or, Bool.or_eq_true, hj j]
    constructor
    · rintro ((h1 | ⟨i, hi, h1⟩) | h1)
      · exact Or.inl h1
      · exact Or.inr ⟨i, by omega, h1⟩
      · exact Or.inr ⟨m, by omega, by rw [eM]; exact h1⟩
    · rintro (h1 | ⟨i, hi, h1⟩)
      · exact Or.inl (Or.inl h1)
      · by_cases c : i = m
        · rw [c, eM] at h1; exact Or.inr h1
        · exact Or.inl (Or.inr ⟨i, by omega, h1⟩)
theorem bm_all (hI : CI N unit kind parts pn wt ws steps below above) (k : Nat) : k < N → below k = nI (bm below k) ∧ bm below k < 2 ^ 18 ∧ (kind k = 0 → (bm below k).testBit k = true) ∧ (∀ j : Nat, (bm below k).testBit j = true → j < N ∧ kind j = 0) ∧ ∀ q i j : Nat, parts k = nI q → q ≤ 4 → i < q → pn (4 * k + i) = nI j → j < k → ∀ b : Nat, (bm below j).testBit b = true → (bm below k).testBit b = true := by
  have hN := hI.1
  induction k using Nat.strongRecOn with
  | _ k ih =>
    intro hk
    obtain ⟨q, hp, hD⟩ := hI.2.1 k hk
    have hq := hD.1
    have hb := hD.2.2.2.1
    obtain ⟨Z, hZ1, hZ2, hZ3⟩ : ∃ Z : Nat, (if kind k = 0 then (1 : Int32) <<< (nI k &&& 31) else 0) = nI Z ∧ Z < 2 ^ 18 ∧ ∀ j : Nat, Z.testBit j = true ↔ kind k = 0 ∧ k = j := by
      by_cases c : kind k = 0
      · refine ⟨2 ^ k, by rw [if_pos c]; exact bt_shl k (by omega), Nat.pow_lt_pow_right (by decide) (by omega), fun j => ?_⟩
        rw [Nat.testBit_two_pow, decide_eq_true_iff]
        exact ⟨fun e => ⟨c, e⟩, fun e => e.2⟩
      · refine ⟨0, by rw [if_neg c]; exact nI_0.symm, by decide, fun j => ?_⟩
        rw [Nat.zero_testBit]
        exact ⟨fun e => absurd e (by decide), fun e => absurd e.1 c⟩
    have hch : ∀ i : Nat, i < q → ∃ j : Nat, j < k ∧ (pn (4 * k + i)).toNatClampNeg = j ∧ pn (4 * k + i) = nI j := fun i hi => by
      obtain ⟨j, j1, j2⟩ := hD.2.2.2.2.1 i hi
      exact ⟨j, j1, by rw [j2, nI_clamp (by omega)], j2⟩
    obtain ⟨R, e, hR, hj⟩ := sb_or (below := below) (pn := pn) (b := 4 * k) hZ2 q (fun i hi => by
      obtain ⟨j, j1, j2, -⟩ := hch i hi
      obtain ⟨g1, g2, -⟩ := ih j j1 (by omega)
      rw [j2]; exact ⟨_, g1, g2⟩)
    have eR : below k = nI R := by rw [hb, hZ1, e]
    have eb : bm below k = R := by unfold bm; rw [eR, nI_toInt (by omega)]; omega
    rw [eb]
    refine ⟨eR, hR, fun c => (hj k).mpr (Or.inl ((hZ3 k).mpr ⟨c, rfl⟩)), fun j h => ?_, fun q' i j hp' _ hi hpn _ b h => ?_⟩
    · rcases (hj j).mp h with g | ⟨i, hi, g⟩
      · obtain ⟨g1, rfl⟩ := (hZ3 j).mp g
        exact ⟨hk, g1⟩
      · obtain ⟨x, x1, x2, -⟩ := hch i hi
        rw [x2] at g
        exact (ih x x1 (by omega)).2.2.2.1 j g
    · obtain rfl : q = q' := (nI_eq (by omega) (by omega)).mp (hp.symm.trans hp')
      obtain ⟨x, x1, x2, x3⟩ := hch i hi
      obtain rfl : x = j := (nI_eq (by omega) (by omega)).mp (x3.symm.trans hpn)
      exact (hj b).mpr (Or.inr ⟨i, hi, by rw [x2]; exact h⟩)
theorem VV_bel (hI : CI N unit kind parts pn wt ws steps below above) {un : Int32} (k : Nat) : ∀ n : Nat, k < N → (∀ j : Nat, (bm below k).testBit j = true → W' j = W j) → VV un kind parts pn wt ws W' n k = VV un kind parts pn wt ws W n k := by
  have hN := hI.1
  induction k using Nat.strongRecOn with
  | _ k ih =>
    intro n hk h
    cases n with
    | zero => rfl
    | succ n =>
      obtain ⟨q, hp, hD⟩ := hI.2.1 k hk
      obtain ⟨-, -, b0, -, b4⟩ := bm_all hI k hk
      rw [VV_at hp hD.1, VV_at hp hD.1]
      by_cases h0 : kind k = 0
      · rw [if_pos h0, if_pos h0, h k (b0 h0)]
      · rw [if_neg h0, if_neg h0]
        refine Jv_congr (fun i hi => ?_)
        obtain ⟨j, j1, j2⟩ := hD.2.2.2.2.1 i hi
        show VV un kind parts pn wt ws W' n (pn (4 * k + i)).toNatClampNeg = VV un kind parts pn wt ws W n (pn (4 * k + i)).toNatClampNeg
        rw [j2, nI_clamp (by omega)]
        exact ih j j1 n (by omega) (fun b hb => h b (b4 q i j hp hD.1 hi j2 j1 b hb))
theorem PB_bel (hI : CI N unit kind parts pn wt ws steps below above) {un : Int32} {t m m' : Nat} (ht : t < N) (h : ∀ j : Nat, (bm below t).testBit j = true → m'.testBit j = m.testBit j) (a b : Int32) : PB un kind parts pn wt ws W t a b m' = PB un kind parts pn wt ws W t a b m := by
  have e : ∀ x : Int32, TM un kind parts pn wt ws W t m' x = TM un kind parts pn wt ws W t m x := fun x => VV_bel hI t 18 ht (fun j hj => by unfold WM; rw [h j hj])
  unfold PB
  rw [e, e]
/-- the least set below M that shows: fewest, then first -/
def Best (p : Nat → Bool) (M R : Nat) : Prop := Sm R M ∧ p R = true ∧ ∀ X : Nat, Sm X M → p X = true → pcw 32 R < pcw 32 X ∨ (pcw 32 R = pcw 32 X ∧ R ≤ X)
theorem Best.one {p : Nat → Bool} {M R R' : Nat} (h : Best p M R) (h' : Best p M R') : R = R' := by
  have a := h.2.2 R' h'.1 h'.2.1
  have b := h'.2.2 R h.1 h.2.1
  omega
theorem pcJ_65536 : allC pcJ 14 65536 1 = true := by decide +kernel
theorem pcJ_81920 : allC pcJ 14 81920 2 = true := by decide +kernel
theorem pcJ_98304 : allC pcJ 14 98304 2 = true := by decide +kernel
theorem pcJ_114688 : allC pcJ 14 114688 3 = true := by decide +kernel
theorem pcJ_131072 : allC pcJ 14 131072 1 = true := by decide +kernel
theorem pcJ_147456 : allC pcJ 14 147456 2 = true := by decide +kernel
theorem pcJ_163840 : allC pcJ 14 163840 2 = true := by decide +kernel
theorem pcJ_180224 : allC pcJ 14 180224 3 = true := by decide +kernel
theorem pcJ_196608 : allC pcJ 14 196608 2 = true := by decide +kernel
theorem pcJ_212992 : allC pcJ 14 212992 3 = true := by decide +kernel
theorem pcJ_229376 : allC pcJ 14 229376 3 = true := by decide +kernel
theorem pcJ_245760 : allC pcJ 14 245760 4 = true := by decide +kernel
theorem pcJ_s {a c : Nat} (h0 : allC pcJ 14 a c = true) (h1 : allC pcJ 14 (a + 16384) (c + 1) = true) (h2 : allC pcJ 14 (a + 32768) (c + 1) = true) (h3 : allC pcJ 14 (a + 49152) (c + 2) = true) : allC pcJ 16 a c = true := by
  have g1 : allC pcJ 15 a c = true := by rw [allC, h0, Bool.true_and]; exact h1
  have e : a + 32768 + 2 ^ 14 = a + 49152 := by omega
  have g2 : allC pcJ 15 (a + 32768) (c + 1) = true := by rw [allC, h2, Bool.true_and, e]; exact h3
  rw [allC, g1, Bool.true_and]; exact g2
theorem pcJ_eq18 {x : Nat} (hx : x < 2 ^ 18) : pcJ x = pcs x 18 := by
  have g0 : allC pcJ 16 0 0 = true := pcJ_s pcJ_0 pcJ_1 pcJ_2 pcJ_3
  have g1 : allC pcJ 16 65536 1 = true := pcJ_s pcJ_65536 pcJ_81920 pcJ_98304 pcJ_114688
  have g2 : allC pcJ 16 131072 1 = true := pcJ_s pcJ_131072 pcJ_147456 pcJ_163840 pcJ_180224
  have g3 : allC pcJ 16 196608 2 = true := pcJ_s pcJ_196608 pcJ_212992 pcJ_229376 pcJ_245760
  have k0 : allC pcJ 17 0 0 = true := by rw [allC, g0, Bool.true_and]; exact g1
  have k1 : allC pcJ 17 131072 1 = true := by rw [allC, g2, Bool.true_and]; exact g3
  have h : allC pcJ 18 0 0 = true := by rw [allC, k0, Bool.true_and]; exact k1
  have q := allC_at 18 0 0 x h hx
  rw [Nat.zero_add, Nat.zero_add] at q
  exact q
theorem pcs_le {x : Nat} : ∀ m : Nat, pcs x m ≤ m
  | 0 => Nat.le_refl _
  | m + 1 => by
    have ih := pcs_le (x := x) m
    rw [pcs]; omega
theorem bitC {x : Nat} (hx : x < 2 ^ 18) : PJ6_bitCount_0f7a4 (nI x) = nI (pcw 32 x) := by
  rw [bitCount_eq (by omega), pcJ_eq18 hx, pcw_pcs, show (32 : Nat) = 18 + 14 from rfl, pcs_hi hx]
theorem ones_loop {x : Nat} (hx : x < 2 ^ 31) : ∀ (m j f : Nat), 18 - j = m → j ≤ 18 → m < f → HX7_ones_0 (nI x) f (nI (pcs x j)) (nI j) = nI (pcs x 18) := by
  intro m
  induction m with
  | zero =>
    intro j f hm hj hf
    obtain ⟨f, rfl⟩ : ∃ g, f = g + 1 := ⟨f - 1, by omega⟩
    obtain rfl : j = 18 := by omega
    rw [HX7_ones_0_eq, if_pos (show (18 : Int32) ≤ nI 18 by decide)]
  | succ m ih =>
    intro j f hm hj hf
    obtain ⟨f, rfl⟩ : ∃ g, f = g + 1 := ⟨f - 1, by omega⟩
    rw [HX7_ones_0_eq, if_neg (show ¬ (18 : Int32) ≤ nI j by rw [show (18 : Int32) = nI 18 by decide, nI_leI (by omega) (by omega)]; omega)]
    simp only [lt_ap]
    rw [bt_shr hx (by omega), show (1 : Int32) = nI 1 by decide, bt_and, Nat.and_one_is_mod, nI_add, nI_o1]
    exact ih (j + 1) f (by omega) (by omega) (by omega)
theorem ones_eq {x : Nat} (hx : x < 2 ^ 18) : PX7_ones (nI x) = nI (pcw 32 x) := by
  have e := ones_loop (x := x) (by omega) 18 0 (((18 - (0 : Int32).toInt).toNat) + 1) rfl (by omega) (by rw [kc_0]; omega)
  rw [show pcs x 0 = 0 from rfl, nI_0] at e
  rw [PX7_ones_eq, pcw_pcs, show (32 : Nat) = 18 + 14 from rfl, pcs_hi hx]
  exact e
end WQ
end F24
