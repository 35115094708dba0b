section
/-! the told worths behind a court -/
section F21
def TQ (t0 : Nat → Int32) (M : Int32 × Int32 × Int32 × Int32 × Int32 × Int32 × Int32 × Int32 × Int32 × Int32 × Int32 × Int32 × Int32 × Int32 × Int32 × Int32 × Int32 × Int32 × (Nat → Int32) × (Nat → Int32) × (Nat → Int32) × (Nat → Int32) × (Nat → Int32) × (Nat → Int32) × (Nat → Int32)) : Prop := M.2.2.2.2.2.2.2.2.2.2.2.2.2.2.2.2.2.2.2.2.2.1 = t0 ∨ ∀ q : Nat, q < 90 → M.2.2.2.2.2.2.2.2.2.2.2.2.2.2.2.2.2.2.2.2.2.1 q = M.2.2.2.2.2.2.2.2.2.2.2.2.2.2.2.2.2.2.2.2.2.2.2.1 q
theorem tc2 {fM_tape : Nat → Int32} {iM_hasCourt : Int32} {fM_r : Nat → Int32} {fM_told : Nat → Int32} {fM_st : Nat → Int32} {iM_undos : Int32} {iM_images : Int32} {iM_scale : Int32} {p0 : Int32} {x_14060 : Int32} {x_14061 : Int32} : ∀ (n9 : Nat) (z_14092 : Int32) (z_14093 : Int32) (z_14094 : Int32) (z_14095 : Int32) (z_14096 : Int32) (z_14097 : Int32) (z_14098 : Int32) (z_14099 : Int32) (z_14100 : Int32) (f_14101 : Nat → Int32) (f_14102 : Nat → Int32) (f_14103 : Nat → Int32) (f_14104 : Nat → Int32), TQ fM_told (HX7_court_2 fM_tape iM_hasCourt fM_r fM_told fM_st iM_undos iM_images iM_scale p0 x_14060 x_14061 n9 z_14092 z_14093 z_14094 z_14095 z_14096 z_14097 z_14098 z_14099 z_14100 f_14101 f_14102 f_14103 f_14104)
  | 0, _, _, _, _, _, _, _, _, _, _, _, _, _ => Or.inr (fun _ _ => rfl)
  | n9 + 1, z_14092, z_14093, z_14094, z_14095, z_14096, z_14097, z_14098, z_14099, z_14100, f_14101, f_14102, f_14103, f_14104 => by
    rw [HX7_court_2_eq]
    refine ite_Q (fun _ => ?_) (fun _ => ?_)
    · skip
      refine ite_Q (fun _ => ?_) (fun _ => ?_)
      · skip
        refine un6_Q (fun x_14155 x_14156 x_14157 x_14158 x_14159 f_14160 _ => ?_)
        refine un13_Q (fun x_14161 x_14162 x_14163 x_14164 x_14165 x_14166 x_14167 x_14168 x_14169 f_14170 f_14171 f_14172 f_14173 _ => ?_)
        exact tc2 n9 x_14161 x_14162 x_14163 x_14164 x_14165 x_14166 x_14167 x_14168 x_14169 f_14170 f_14171 f_14172 f_14173
      · skip
        refine ite_Q (fun _ => ?_) (fun _ => ?_)
        · skip
          refine ite_Q (fun _ => ?_) (fun _ => ?_)
          · skip
            refine ite_Q (fun _ => ?_) (fun _ => ?_)
            · skip
              refine lt_Q (fun x_14116 e_x_14116 => ?_)
              refine ite_Q (fun _ => ?_) (fun _ => ?_)
              · skip
                refine un3_Q (fun x_14118 x_14119 x_14120 _ => ?_)
                refine ite_Q (fun _ => ?_) (fun _ => ?_)
                · skip
                  exact Or.inr (fun _ _ => rfl)
                · skip
                  refine un2_Q (fun x_14123 x_14122 _ => ?_)
                  exact Or.inl rfl
              · skip
                refine lt_Q (fun x_14124 e_x_14124 => ?_)
                refine ite_Q (fun _ => ?_) (fun _ => ?_)
                · skip
                  refine un3_Q (fun x_14142 x_14143 x_14144 _ => ?_)
                  refine ite_Q (fun _ => ?_) (fun _ => ?_)
                  · skip
                    exact Or.inr (fun _ _ => rfl)
                  · skip
                    refine un2_Q (fun x_14147 x_14146 _ => ?_)
                    exact Or.inl rfl
                · skip
                  refine ite_Q (fun _ => ?_) (fun _ => ?_)
                  · skip
                    refine lt_Q (fun x_14127 e_x_14127 => ?_)
                    refine ite_Q (fun _ => ?_) (fun _ => ?_)
                    · skip
                      refine lt_Q (fun f_14129 e_f_14129 => ?_)
                      refine lt_Q (fun f_14130 e_f_14130 => ?_)
                      refine lt_Q (fun f_14131 e_f_14131 => ?_)
                      refine lt_Q (fun x_14132 e_x_14132 => ?_)
                      refine lt_Q (fun x_14133 e_x_14133 => ?_)
                      exact Or.inr (fun q hq => by show f_14130 q = f_14131 q; rw [← e_f_14130, ← e_f_14131, cpF90 hq, cpF90 hq])
                    · skip
                      refine lt_Q (fun x_14134 e_x_14134 => ?_)
                      refine lt_Q (fun x_14135 e_x_14135 => ?_)
                      refine lt_Q (fun f_14136 e_f_14136 => ?_)
                      refine lt_Q (fun f_14137 e_f_14137 => ?_)
                      refine lt_Q (fun f_14138 e_f_14138 => ?_)
                      refine lt_Q (fun f_14139 e_f_14139 => ?_)
                      refine lt_Q (fun x_14140 e_x_14140 => ?_)
                      refine lt_Q (fun x_14141 e_x_14141 => ?_)
                      exact Or.inr (fun q hq => by show f_14138 q = f_14139 q; rw [← e_f_14138, ← e_f_14139, cpF90 hq, cpF90 hq])
                  · skip
                    exact Or.inr (fun _ _ => rfl)
            · skip
              exact Or.inr (fun _ _ => rfl)
          · skip
            refine un3_Q (fun x_14148 x_14149 x_14150 _ => ?_)
            refine ite_Q (fun _ => ?_) (fun _ => ?_)
            · skip
              exact Or.inr (fun _ _ => rfl)
            · skip
              refine ite_Q (fun _ => ?_) (fun _ => ?_)
              · skip
                exact Or.inr (fun _ _ => rfl)
              · skip
                refine un2_Q (fun x_14154 x_14153 _ => ?_)
                exact Or.inl rfl
        · skip
          exact Or.inr (fun _ _ => rfl)
    · skip
      refine ite_Q (fun _ => ?_) (fun _ => ?_)
      · skip
        exact Or.inr (fun _ _ => rfl)
      · skip
        refine ite_Q (fun _ => ?_) (fun _ => ?_)
        · skip
          exact Or.inr (fun _ _ => rfl)
        · skip
          refine ite_Q (fun _ => ?_) (fun _ => ?_)
          · skip
            exact Or.inr (fun _ _ => rfl)
          · skip
            refine un2_Q (fun x_14111 x_14110 _ => ?_)
            exact Or.inl rfl
theorem tc1 {fM_tape : Nat → Int32} {iM_place : Int32} {fM_letters : Nat → Int32} {iM_hasCourt : Int32} {fM_r : Nat → Int32} {fM_told : Nat → Int32} {fM_st : Nat → Int32} {iM_undos : Int32} {iM_images : Int32} {fM_fresher : Nat → Int32} {iM_fresherSize : Int32} {iM_scale : Int32} {p0 : Int32} {x_14060 : Int32} {x_14061 : Int32} {f_14065 : Nat → Int32} : ∀ (n9 : Nat) (z_14068 : Int32) (f_14069 : Nat → Int32), TQ fM_told (HX7_court_1 fM_tape iM_place fM_letters iM_hasCourt fM_r fM_told fM_st iM_undos iM_images fM_fresher iM_fresherSize iM_scale p0 x_14060 x_14061 f_14065 n9 z_14068 f_14069)
  | 0, _, _ => Or.inr (fun _ _ => rfl)
  | n9 + 1, z_14068, f_14069 => by
    rw [HX7_court_1_eq]
    refine ite_Q (fun _ => ?_) (fun _ => ?_)
    · skip
      refine lt_Q (fun f_14072 e_f_14072 => ?_)
      refine un6_Q (fun x_14073 x_14074 x_14075 x_14076 x_14077 f_14078 _ => ?_)
      refine un13_Q (fun x_14079 x_14080 x_14081 x_14082 x_14083 x_14084 x_14085 x_14086 x_14087 f_14088 f_14089 f_14090 f_14091 _ => ?_)
      exact tc2 _ _ _ _ _ _ _ _ _ _ _ _ _ _ 
    · skip
      refine lt_Q (fun f_14174 e_f_14174 => ?_)
      refine lt_Q (fun x_14175 e_x_14175 => ?_)
      exact tc1 n9 x_14175 f_14174
theorem tc0 {fM_tape : Nat → Int32} {iM_place : Int32} {fM_letters : Nat → Int32} {iM_hasCourt : Int32} {fM_r : Nat → Int32} {fM_told : Nat → Int32} {fM_read : Nat → Int32} {fM_st : Nat → Int32} {iM_undos : Int32} {iM_images : Int32} {fM_fresher : Nat → Int32} {iM_fresherSize : Int32} {iM_scale : Int32} {p0 : Int32} {x_14060 : Int32} {x_14061 : Int32} : ∀ (n9 : Nat) (z_14064 : Int32) (f_14065 : Nat → Int32), TQ fM_told (HX7_court_0 fM_tape iM_place fM_letters iM_hasCourt fM_r fM_told fM_read fM_st iM_undos iM_images fM_fresher iM_fresherSize iM_scale p0 x_14060 x_14061 n9 z_14064 f_14065)
  | 0, _, _ => Or.inr (fun _ _ => rfl)
  | n9 + 1, z_14064, f_14065 => by
    rw [HX7_court_0_eq]
    refine ite_Q (fun _ => ?_) (fun _ => ?_)
    · skip
      exact tc1 _ _ _ 
    · skip
      refine lt_Q (fun f_14176 e_f_14176 => ?_)
      refine lt_Q (fun x_14177 e_x_14177 => ?_)
      exact tc0 n9 x_14177 f_14176
theorem court_T {fM_tape : Nat → Int32} {iM_taped : Int32} {iM_size : Int32} {iM_at : Int32} {iM_end : Int32} {iM_token : Int32} {iM_whole : Int32} {iM_nameSize : Int32} {iM_fault : Int32} {iM_place : Int32} {fM_letters : Nat → Int32} {iM_failed : Int32} {iM_hasCourt : Int32} {fM_r : Nat → Int32} {fM_fresh : Nat → Int32} {fM_told : Nat → Int32} {fM_read : Nat → Int32} {fM_st : Nat → Int32} {iM_undos : Int32} {iM_images : Int32} {fM_fresher : Nat → Int32} {iM_fresherSize : Int32} {iM_scale : Int32} {p0 : Int32} : TQ fM_told (PX7_court fM_tape iM_taped iM_size iM_at iM_end iM_token iM_whole iM_nameSize iM_fault iM_place fM_letters iM_failed iM_hasCourt fM_r fM_fresh fM_told fM_read fM_st iM_undos iM_images fM_fresher iM_fresherSize iM_scale p0) := by
  rw [PX7_court_eq]
  refine un2_Q (fun x_14060 x_14061 _ => ?_)
  refine lt_Q (fun x_14062 e_x_14062 => ?_)
  refine ite_Q (fun _ => ?_) (fun _ => ?_)
  · skip
    refine un2_Q (fun x_14180 x_14179 _ => ?_)
    exact Or.inl rfl
  · skip
    exact tc0 _ _ _ 
theorem ct_joinT {U : Nat → Int32} {ts lf hc : Int32} {r told st : Nat → Int32} {undos images scale p : Int32} {r7 : Int32} {a7 : Int32} {l7 : Int32} {f7 : Int32} {hc7 : Int32} {rr7 : Nat → Int32} {told7 : Nat → Int32} {st7 : Nat → Int32} {undos7 : Int32} {images7 : Int32} {scale7 : Int32} (hT : WorOk told) (h7 : CtMX U ts lf hc r told st undos images scale p r7 a7 l7 f7 hc7 rr7 told7 st7 undos7 images7 scale7) (hw : WorOk st7) : WorOk told7 := by
  obtain ⟨y_iM_size, y_iM_at, y_iM_end, y_iM_token, y_iM_whole, y_iM_nameSize, y_iM_place, y_fM_letters, y_iM_failed, y_fM_fresh, y_fM_read, y_fM_fresher, y_iM_fresherSize, y⟩ := h7
  have hq : TQ told (PX7_court U ts y_iM_size y_iM_at y_iM_end y_iM_token y_iM_whole y_iM_nameSize lf y_iM_place y_fM_letters y_iM_failed hc r y_fM_fresh told y_fM_read st undos images y_fM_fresher y_iM_fresherSize scale p) := court_T
  generalize PX7_court U ts y_iM_size y_iM_at y_iM_end y_iM_token y_iM_whole y_iM_nameSize lf y_iM_place y_fM_letters y_iM_failed hc r y_fM_fresh told y_fM_read st undos images y_fM_fresher y_iM_fresherSize scale p = M at y hq
  obtain ⟨y1, y3, y10, y12, y14, y20, y22, y24, y15, y16, y18⟩ := y
  intro j h1 h2
  rcases hq with e | e
  · rw [← y22, e]; exact hT j h1 h2
  · rw [← y22, e j h2, y24]; exact hw j h1 h2
end F21
end
section
/-! hearing: what both sides have heard and cut, a part cut off, a ruler's step -/
section G1
/-- bounds as both sides have them: the same one, or below (above) all worths -/
def LoR (X : Int) (a b : Int32) : Prop := (a = b ∧ 0 ≤ a.toInt ∧ a.toInt ≤ X) ∨ (a.toInt = -1 ∧ b.toInt = -100000000)
def HiR (X : Int) (a b : Int32) : Prop := (a = b ∧ 0 ≤ a.toInt ∧ a.toInt ≤ X) ∨ (X < a.toInt ∧ b.toInt = 100000000)
/-- the words heard, as bits -/
def hO (h : Nat → Int32) : Nat → Int32
  | 0 => 0
  | b + 1 => hO h b ||| ((1 : Int32) <<< (h b &&& 31))
theorem hO_congr {h h' : Nat → Int32} : ∀ b : Nat, (∀ x : Nat, x < b → h' x = h x) → hO h' b = hO h b
  | 0, _ => rfl
  | b + 1, e => by rw [hO, hO, hO_congr b (fun x hx => e x (by omega)), e b (by omega)]
def HS (b c : Nat) (bits : Int32) (hw cp hr cr : Nat → Int32) : Prop := (∀ x : Nat, x < b → hw x = hr x) ∧ (∀ x : Nat, x < c → cp x = cr x) ∧ bits = hO hr b
/-- both sides hear the same, and no more than W breaths and cuts -/
def HOut (W : Nat) (X : Int) (b0 c0 : Nat) (R6 : Int32 × Int32 × Int32 × Int32 × (Nat → Int32) × (Nat → Int32)) (R7 : Int32 × Int32 × Int32 × (Nat → Int32) × (Nat → Int32)) : Prop := ∃ (v : Int32) (b c : Nat) (bits : Int32) (hw cp hr cr : Nat → Int32), R6 = (v, nI b, bits, nI c, hw, cp) ∧ R7 = (v, nI b, nI c, hr, cr) ∧ (0 ≤ v.toInt ∧ v.toInt ≤ X) ∧ b + c ≤ b0 + c0 + W ∧ HS b c bits hw cp hr cr
theorem un6_id {A0 A1 A2 A3 A4 A5 : Type} (t : A0 × A1 × A2 × A3 × A4 × A5) : un6_ t (fun a b c d e f => (a, b, c, d, e, f)) = t := by
  obtain ⟨a, b, c, d, e, f⟩ := t
  exact un6_eq rfl
theorem un5_id {A0 A1 A2 A3 A4 : Type} (t : A0 × A1 × A2 × A3 × A4) : un5_ t (fun a b c d e => (a, b, c, d, e)) = t := by
  obtain ⟨a, b, c, d, e⟩ := t
  exact un5_eq rfl
/-- how high a node stands among the rulers -/
def hgt (r : Nat → Int32) (k : Nat) : Nat := if (r (9 + k)).toInt = 0 then 0 else rkI r k + 1
section WQ
variable {N : Nat} {words unsures slips throne said unit : Int32} {kind parts pn wt tw uw uo r told W o Q ws steps below above : Nat → Int32}
theorem pq_eq (hS : StR N parts pn W o Q) (hN : N ≤ 18) {k i q : Nat} (hk : k < N) (hp : parts k = nI q) (hq : q ≤ 4) (hi : i < q) : PX5_partAt o pn (nI k) (nI i) = Q (4 * k + i) := by
  obtain ⟨-, h1, -⟩ := hS k hk
  rw [hp, nI_toInt (by omega)] at h1
  obtain ⟨a, b, c⟩ := h1 i (by omega)
  rw [pt_eq (by omega) (by omega) a (by omega)]
  exact c
theorem wg_eq {k i : Nat} (hk : k < 18) (hi : i < 4) (h0 : 0 ≤ (o (4 * k + i)).toInt) (h3 : (o (4 * k + i)).toInt ≤ 3) : PX5_weightAt o wt (nI k) (nI i) = wt (4 * k + (o (4 * k + i)).toInt.toNat) := by
  rw [PX5_weightAt_eq]
  simp only [lt_ap]
  rw [nI_m4 (by omega), nI_add, nI_clamp (show 4 * k + i < 2 ^ 31 by omega)]
  have e : o (4 * k + i) = nI (o (4 * k + i)).toInt.toNat := by rw [fz_eq, nI_toInt (by omega)]; omega
  have e2 : nI (4 * k) + o (4 * k + i) = nI (4 * k + (o (4 * k + i)).toInt.toNat) := by rw [← nI_add, ← e]
  rw [e2, nI_clamp (by omega)]
/-- a part as it stands now -/
theorem hp_at (hC : CR N words unsures slips throne said kind parts pn wt tw uw uo r told) (hS : StR N parts pn W o Q) {k i q : Nat} (hk : k < N) (hp : parts k = nI q) (hD : ND k q kind pn wt ws steps below) (hi : i < q) : ∃ j : Nat, j < k ∧ (o (4 * k + i)).toInt.toNat < q ∧ PX5_partAt o pn (nI k) (nI i) = nI j ∧ Q (4 * k + i) = nI j ∧ PX5_weightAt o wt (nI k) (nI i) = wt (4 * k + (o (4 * k + i)).toInt.toNat) ∧ PX7_weightOf r told (nI k) (nI j) = wt (4 * k + (o (4 * k + i)).toInt.toNat) := by
  have hN := hC.N.2.1
  have hq := hD.1
  have hS2 := hS
  obtain ⟨-, h1, -⟩ := hS k hk
  rw [hp, nI_toInt (by omega)] at h1
  obtain ⟨a, b, c⟩ := h1 i (by omega)
  obtain ⟨j, j1, j2⟩ := hD.2.2.2.2.1 (o (4 * k + i)).toInt.toNat (by omega)
  have e := c.symm.trans j2
  refine ⟨j, j1, by omega, (pq_eq hS2 hN hk hp hq hi).trans e, e, wg_eq (by omega) (by omega) a (by omega), ?_⟩
  rw [← j2]
  exact wo_eq hC hk hp hD (by omega)
/-- the reference's row keeps what a hearing wants to know -/
theorem row_of (hC : CR N words unsures slips throne said kind parts pn wt tw uw uo r told) (hS : StR N parts pn W o Q) (hI : CI N unit kind parts pn wt ws steps below above) : RowOk r Q := by
  obtain ⟨hN0, hN, hr⟩ := hC.N
  have hk' : ∀ k : Nat, (k : Int) < (r 1).toInt → k < N := fun k h => by
    rw [hr, nI_toInt (by omega)] at h
    omega
  refine ⟨fun k i hk hi => ?_, fun k i j hk hij hj => ?_⟩
  · have hk := hk' k hk
    obtain ⟨q, hp, hD⟩ := hI.2.1 k hk
    have hq := hD.1
    rw [many_q hC hk hp, nI_toInt (by omega)] at hi
    obtain ⟨j, j1, -, -, j2, -⟩ := hp_at hC hS hk hp hD (i := i) (by omega)
    rw [j2, nI_toInt (by omega)]
    omega
  · have hk := hk' k hk
    obtain ⟨q, hp, hD⟩ := hI.2.1 k hk
    have hq := hD.1
    rw [many_q hC hk hp, nI_toInt (by omega)] at hj
    obtain ⟨s, s1, s2, s3⟩ := st_perm hS hk hp hq
    rw [s3 i (by omega), s3 j (by omega)]
    have hne : ¬ s i = s j := fun e => by
      have := s2 i j (by omega) (by omega) e
      omega
    have a := s1 i (by omega)
    have b := s1 j (by omega)
    rcases Nat.lt_or_ge (s i) (s j) with c | c
    · exact hD.2.2.2.2.2 (s i) (s j) c b
    · exact fun e => hD.2.2.2.2.2 (s j) (s i) (by omega) a e.symm
theorem hgt_lt {k j : Nat} (hk : ¬ (r (9 + k)).toInt = 0) (hj : j < k) : hgt r j + 1 ≤ hgt r k := by
  unfold hgt
  rw [if_neg hk]
  by_cases c : (r (9 + j)).toInt = 0
  · rw [if_pos c]; omega
  · rw [if_neg c]
    have h : rkI r j + 1 ≤ rkI r k := cntP_lt (P := fun j => (r (9 + j)).toInt ≠ 0) hj c
    omega
theorem cut_sim (hS : StR N parts pn W o Q) (hN : N ≤ 18) {k q : Nat} {v : Int32} (hk : k < N) (hp : parts k = nI q) (hq : q ≤ 4) (hm : r (27 + k) = nI q) : ∀ (m i f6 f7 c : Nat) (cp cr : Nat → Int32), q - i = m → i ≤ q → m < f6 → m < f7 → c + m ≤ 512 → (∀ x : Nat, x < c → cp x = cr x) → ∃ cp' cr' : Nat → Int32, HX2_noteCuts_0 parts pn o (nI k) f6 (nI i) (nI c) cp = (nI (c + m), cp') ∧ HX7_cutFrom_0 r Q (nI k) v f7 (nI i) (nI c) cr = (v, nI (c + m), cr') ∧ ∀ x : Nat, x < c + m → cp' x = cr' x := by
  intro m
  induction m with
  | zero =>
    intro i f6 f7 c cp cr hd hi h6 h7 hc hx
    obtain ⟨f6, rfl⟩ : ∃ g, f6 = g + 1 := ⟨f6 - 1, by omega⟩
    obtain ⟨f7, rfl⟩ : ∃ g, f7 = g + 1 := ⟨f7 - 1, by omega⟩
    obtain rfl : i = q := by omega
    refine ⟨cp, cr, ?_, ?_, hx⟩
    · rw [HX2_noteCuts_0_eq, lt_ap, nI_clamp (show k < 2 ^ 31 by omega), hp, if_pos (nI_le (Nat.le_refl _) (by omega)), Nat.add_zero]
    · rw [HX7_cutFrom_0_eq]
      simp only [lt_ap]
      rw [show (27 : Int32) + nI k = nI (27 + k) from nI_add 27 k, nI_clamp (show 27 + k < 2 ^ 31 by omega), hm, if_pos (nI_le (Nat.le_refl _) (by omega)), Nat.add_zero]
  | succ m ih =>
    intro i f6 f7 c cp cr hd hi h6 h7 hc hx
    obtain ⟨f6, rfl⟩ : ∃ g, f6 = g + 1 := ⟨f6 - 1, by omega⟩
    obtain ⟨f7, rfl⟩ : ∃ g, f7 = g + 1 := ⟨f7 - 1, by omega⟩
    obtain ⟨cp', cr', a, b, e⟩ := ih (i + 1) f6 f7 (c + 1) (upd cp c (Q (4 * k + i))) (upd cr c (Q (4 * k + i))) (by omega) (by omega) (by omega) (by omega) (by omega) (fun x hx2 => by
      by_cases y : x = c
      · rw [y, upd_at, upd_at]
      · rw [upd_ne y, upd_ne y]; exact hx x (by omega))
    rw [show c + (m + 1) = c + 1 + m by omega]
    refine ⟨cp', cr', ?_, ?_, e⟩
    · rw [HX2_noteCuts_0_eq]
      simp only [lt_ap]
      rw [nI_clamp (show k < 2 ^ 31 by omega), hp, if_neg (show ¬ nI q ≤ nI i by rw [nI_leI (by omega) (by omega)]; omega), if_neg (show ¬ (512 : Int32) ≤ nI c by rw [show (512 : Int32) = nI 512 by decide, nI_leI (by omega) (by omega)]; omega), pq_eq hS hN hk hp hq (by omega), nI_clamp (show c < 2 ^ 31 by omega), nI_1 c, nI_o1]
      exact a
    · rw [HX7_cutFrom_0_eq]
      simp only [lt_ap]
      rw [show (27 : Int32) + nI k = nI (27 + k) from nI_add 27 k, nI_clamp (show 27 + k < 2 ^ 31 by omega), hm, if_neg (show ¬ nI q ≤ nI i by rw [nI_leI (by omega) (by omega)]; omega), nI_m4' (by omega), nI_add, nI_clamp (show 4 * k + i < 2 ^ 31 by omega), nI_clamp (show c < 2 ^ 31 by omega), nI_1 c, nI_o1]
      exact b
end WQ
/-! a ruler's step -/
section KS
variable {F6 : Int32 → Int32 → (Nat → Int32) → (Nat → Int32) → (Nat → Int32) → (Nat → Int32) → (Nat → Int32) → (Nat → Int32) → (Nat → Int32) → Int32 → Int32 → Int32 → (Nat → Int32) → (Nat → Int32) → Int32 → Int32 → Int32 → Int32 → Int32 × Int32 × Int32 × Int32 × (Nat → Int32) × (Nat → Int32)} {F7 : (Nat → Int32) → (Nat → Int32) → Int32 → (Nat → Int32) → Int32 → Int32 → (Nat → Int32) → (Nat → Int32) → Int32 → Int32 → Int32 → Int32 × Int32 × Int32 × (Nat → Int32) × (Nat → Int32)} {nodes un : Int32} {kind parts pn wt ws w o r told Q hw cp hr cr hw' cp' hr' cr' : Nat → Int32} {k d i q f : Nat} {hi got lo n b c bits v b' c' bits' pt g hi7 lo7 : Int32}
theorem k6_step (hk : k < 2 ^ 31) (hp : parts k = nI q) (hq : q ≤ 4) (hi4 : i < q) (hpa : PX5_partAt o pn (nI k) (nI i) = pt) (e : F6 nodes un kind parts pn wt ws w o b bits c hw cp pt lo hi (nI (d + 1)) = (v, b', bits', c', hw', cp')) (hg : g = if i = 0 then v else if v ≤ got then got else v) : HX2_listenToRuler_0 F6 nodes un kind parts pn wt ws w o (nI k) (nI d) (f + 1) (nI i) hi got lo b bits c hw cp = if g < hi then HX2_listenToRuler_0 F6 nodes un kind parts pn wt ws w o (nI k) (nI d) f (nI (i + 1)) hi g (if lo < g then g else lo) b' bits' c' hw' cp' else un2_ (PX2_noteCuts c' cp' parts pn o (nI k) (nI (i + 1))) (fun x y => (g, b', bits', x, hw', y)) := by
  rw [HX2_listenToRuler_0_eq]
  simp only [lt_ap]
  rw [nI_clamp hk, hp, if_neg (show ¬ nI q ≤ nI i by rw [nI_leI (by omega) (by omega)]; omega), hpa, nI_1 d, un6_eq e, nI_o1, nI_1 i]
  by_cases hz : i = 0
  · rw [if_pos (show nI i = 0 by rw [hz]; exact nI_0), hg, if_pos hz]
  · rw [if_neg (show ¬ nI i = 0 from nI_ne0 (by omega) (by omega)), hg, if_neg hz]
    by_cases y : v ≤ got
    · rw [if_pos y, if_pos y]
    · rw [if_neg y, if_neg y]
theorem q6_step (hk : k < 2 ^ 31) (hp : parts k = nI q) (hq : q ≤ 4) (hi4 : i < q) (hpa : PX5_partAt o pn (nI k) (nI i) = pt) (e : F6 nodes un kind parts pn wt ws w o b bits c hw cp pt lo hi (nI (d + 1)) = (v, b', bits', c', hw', cp')) (hg : g = if i = 0 then v else if got ≤ v then got else v) : HX2_listenToRuler_1 F6 nodes un kind parts pn wt ws w o (nI k) (nI d) (f + 1) (nI i) hi got lo b bits c hw cp = if lo < g then HX2_listenToRuler_1 F6 nodes un kind parts pn wt ws w o (nI k) (nI d) f (nI (i + 1)) (if g < hi then g else hi) g lo b' bits' c' hw' cp' else un2_ (PX2_noteCuts c' cp' parts pn o (nI k) (nI (i + 1))) (fun x y => (g, b', bits', x, hw', y)) := by
  rw [HX2_listenToRuler_1_eq]
  simp only [lt_ap]
  rw [nI_clamp hk, hp, if_neg (show ¬ nI q ≤ nI i by rw [nI_leI (by omega) (by omega)]; omega), hpa, nI_1 d, un6_eq e, nI_o1, nI_1 i]
  by_cases hz : i = 0
  · rw [if_pos (show nI i = 0 by rw [hz]; exact nI_0), hg, if_pos hz]
  · rw [if_neg (show ¬ nI i = 0 from nI_ne0 (by omega) (by omega)), hg, if_neg hz]
    by_cases y : got ≤ v
    · rw [if_pos y, if_pos y]
    · rw [if_neg y, if_neg y]
theorem k7_step (hk : k < 18) (hq : q ≤ 4) (hi4 : i < q) (hQ : Q (4 * k + i) = pt) (e : F7 r told un Q b c hr cr pt (if n ≤ lo7 then lo7 else n) hi7 = (v, b', c', hr', cr')) (hg : g = if v ≤ n then n else v) : HX7_hear_1 F7 r told un Q (nI k) lo7 hi7 1 (nI q) (f + 1) (nI i) n b c hr cr = if g < hi7 then HX7_hear_1 F7 r told un Q (nI k) lo7 hi7 1 (nI q) f (nI (i + 1)) g b' c' hr' cr' else un3_ (PX7_cutFrom r cr' c' Q (nI k) (nI (i + 1)) g) (fun x y z => (x, b', y, hr', z)) := by
  rw [HX7_hear_1_eq, if_neg (show ¬ nI q ≤ nI i by rw [nI_leI (by omega) (by omega)]; omega)]
  simp only [lt_ap]
  rw [nI_m4' (by omega), nI_add, nI_clamp (show 4 * k + i < 2 ^ 31 by omega), hQ, if_neg (show ¬ (1 : Int32) = 3 by decide), if_pos trivial, nI_o1, nI_1 i, hg]
  by_cases y : n ≤ lo7
  · rw [if_pos y] at e
    rw [if_pos y, un5_eq e]
    by_cases z : v ≤ n
    · rw [if_pos z, if_pos z]
    · rw [if_neg z, if_neg z]
  · rw [if_neg y] at e
    rw [if_neg y, un5_eq e]
    by_cases z : v ≤ n
    · rw [if_pos z, if_pos z]
    · rw [if_neg z, if_neg z]
theorem q7_step (hk : k < 18) (hq : q ≤ 4) (hi4 : i < q) (hQ : Q (4 * k + i) = pt) (e : F7 r told un Q b c hr cr pt lo7 (if hi7 ≤ n then hi7 else n) = (v, b', c', hr', cr')) (hg : g = if n ≤ v then n else v) : HX7_hear_0 F7 r told un Q (nI k) lo7 hi7 2 (nI q) (f + 1) (nI i) n b c hr cr = if lo7 < g then HX7_hear_0 F7 r told un Q (nI k) lo7 hi7 2 (nI q) f (nI (i + 1)) g b' c' hr' cr' else un3_ (PX7_cutFrom r cr' c' Q (nI k) (nI (i + 1)) g) (fun x y z => (x, b', y, hr', z)) := by
  rw [HX7_hear_0_eq, if_neg (show ¬ nI q ≤ nI i by rw [nI_leI (by omega) (by omega)]; omega)]
  simp only [lt_ap]
  rw [nI_m4' (by omega), nI_add, nI_clamp (show 4 * k + i < 2 ^ 31 by omega), hQ, if_neg (show ¬ (2 : Int32) = 3 by decide), if_neg (show ¬ (2 : Int32) = 1 by decide), nI_o1, nI_1 i, hg]
  by_cases y : hi7 ≤ n
  · rw [if_pos y] at e
    rw [if_pos y, un5_eq e]
    by_cases z : n ≤ v
    · rw [if_pos z, if_pos z]
    · rw [if_neg z, if_neg z]
  · rw [if_neg y] at e
    rw [if_neg y, un5_eq e]
    by_cases z : n ≤ v
    · rw [if_pos z, if_pos z]
    · rw [if_neg z, if_neg z]
end KS
end G1
end
section
/-! hearing: a ruler's loop, chance's loop, any node -/
section G2
theorem g_low {X : Int} (hX : 0 ≤ X) (hX2 : X ≤ 128304) {lo6 lo7 lower n got : Int32} (hlo : LoR X lo6 lo7) (hst : (n.toInt = -100000000 ∧ lower = lo6) ∨ (n = got ∧ 0 ≤ got.toInt ∧ got.toInt ≤ X ∧ lower = (if lo6 < got then got else lo6))) : LoR X lower (if n ≤ lo7 then lo7 else n) := by
  rcases hst with ⟨h1, hl⟩ | ⟨hn, h1, h2, hl⟩
  · have hle : n ≤ lo7 := by
      rw [fz_le]
      rcases hlo with ⟨a, b, c⟩ | ⟨a, b⟩
      · rw [← a]; omega
      · omega
    rw [if_pos hle, hl]; exact hlo
  · rw [hn, hl]
    rcases hlo with ⟨a, b, c⟩ | ⟨a, b⟩
    · rw [← a]
      by_cases y : lo6 < got
      · rw [if_pos y, if_neg (show ¬ got ≤ lo6 by rw [fz_lt] at y; rw [fz_le]; omega)]
        exact Or.inl ⟨rfl, h1, h2⟩
      · rw [if_neg y, if_pos (show got ≤ lo6 by rw [fz_lt] at y; rw [fz_le]; omega)]
        exact Or.inl ⟨rfl, b, c⟩
    · rw [if_pos (show lo6 < got by rw [fz_lt]; omega), if_neg (show ¬ got ≤ lo7 by rw [fz_le]; omega)]
      exact Or.inl ⟨rfl, h1, h2⟩
theorem g_hig {X : Int} (hX : 0 ≤ X) (hX2 : X ≤ 128304) {hi6 hi7 upper n got : Int32} (hhi : HiR X hi6 hi7) (hst : (n.toInt = 100000000 ∧ upper = hi6) ∨ (n = got ∧ 0 ≤ got.toInt ∧ got.toInt ≤ X ∧ upper = (if got < hi6 then got else hi6))) : HiR X upper (if hi7 ≤ n then hi7 else n) := by
  rcases hst with ⟨h1, hl⟩ | ⟨hn, h1, h2, hl⟩
  · have hle : hi7 ≤ n := by
      rw [fz_le]
      rcases hhi with ⟨a, b, c⟩ | ⟨a, b⟩
      · rw [← a]; omega
      · omega
    rw [if_pos hle, hl]; exact hhi
  · rw [hn, hl]
    rcases hhi with ⟨a, b, c⟩ | ⟨a, b⟩
    · rw [← a]
      by_cases y : got < hi6
      · rw [if_pos y, if_neg (show ¬ hi6 ≤ got by rw [fz_lt] at y; rw [fz_le]; omega)]
        exact Or.inl ⟨rfl, h1, h2⟩
      · rw [if_neg y, if_pos (show hi6 ≤ got by rw [fz_lt] at y; rw [fz_le]; omega)]
        exact Or.inl ⟨rfl, b, c⟩
    · rw [if_pos (show got < hi6 by rw [fz_lt]; omega), if_neg (show ¬ hi7 ≤ got by rw [fz_le]; omega)]
      exact Or.inl ⟨rfl, h1, h2⟩
theorem g_hlt {X : Int} (hX2 : X ≤ 128304) {hi6 hi7 g : Int32} (hhi : HiR X hi6 hi7) (h1 : g.toInt ≤ X) : g < hi6 ↔ g < hi7 := by
  rcases hhi with ⟨a, b, c⟩ | ⟨a, b⟩
  · exact ⟨fun h => by rw [← a]; exact h, fun h => by rw [a]; exact h⟩
  · exact ⟨fun _ => by rw [fz_lt]; omega, fun _ => by rw [fz_lt]; omega⟩
theorem g_llt {X : Int} {lo6 lo7 g : Int32} (hlo : LoR X lo6 lo7) (h1 : 0 ≤ g.toInt) : lo6 < g ↔ lo7 < g := by
  rcases hlo with ⟨a, b, c⟩ | ⟨a, b⟩
  · exact ⟨fun h => by rw [← a]; exact h, fun h => by rw [a]; exact h⟩
  · exact ⟨fun _ => by rw [fz_lt]; omega, fun _ => by rw [fz_lt]; omega⟩
theorem g_mx {lo6 lower got g : Int32} (h : lower = lo6 ∨ (lower = (if lo6 < got then got else lo6) ∧ got.toInt ≤ g.toInt)) : (if lower < g then g else lower) = (if lo6 < g then g else lo6) := by
  rcases h with h | ⟨h, hg⟩
  · rw [h]
  · rw [h]
    by_cases y : lo6 < got
    · rw [if_pos y, if_pos (show lo6 < g by rw [fz_lt] at y ⊢; omega)]
      by_cases z : got < g
      · rw [if_pos z]
      · rw [if_neg z]
        rw [fz_lt] at z
        exact (fz_eq _ _).mpr (by omega)
    · rw [if_neg y]
theorem g_mn {hi6 upper got g : Int32} (h : upper = hi6 ∨ (upper = (if got < hi6 then got else hi6) ∧ g.toInt ≤ got.toInt)) : (if g < upper then g else upper) = (if g < hi6 then g else hi6) := by
  rcases h with h | ⟨h, hg⟩
  · rw [h]
  · rw [h]
    by_cases y : got < hi6
    · rw [if_pos y, if_pos (show g < hi6 by rw [fz_lt] at y ⊢; omega)]
      by_cases z : g < got
      · rw [if_pos z]
      · rw [if_neg z]
        rw [fz_lt] at z
        exact (fz_eq _ _).mpr (by omega)
    · rw [if_neg y]
section WQ
variable {N : Nat} {words unsures slips throne said unit : Int32} {kind parts pn wt tw uw uo r told W o Q ws steps below above : Nat → Int32} {F6 : Int32 → Int32 → (Nat → Int32) → (Nat → Int32) → (Nat → Int32) → (Nat → Int32) → (Nat → Int32) → (Nat → Int32) → (Nat → Int32) → Int32 → Int32 → Int32 → (Nat → Int32) → (Nat → Int32) → Int32 → Int32 → Int32 → Int32 → Int32 × Int32 × Int32 × Int32 × (Nat → Int32) × (Nat → Int32)} {F7 : (Nat → Int32) → (Nat → Int32) → Int32 → (Nat → Int32) → Int32 → Int32 → (Nat → Int32) → (Nat → Int32) → Int32 → Int32 → Int32 → Int32 × Int32 × Int32 × (Nat → Int32) × (Nat → Int32)}
theorem rs_at (hC : CR N words unsures slips throne said kind parts pn wt tw uw uo r told) (hS : StR N parts pn W o Q) (hI : CI N unit kind parts pn wt ws steps below above) (hR : ROk r) {k q : Nat} (hk : k < N) (hp : parts k = nI q) (hq4 : q ≤ 4) (h0 : ¬ kind k = 0) : (∀ i : Nat, i ≤ q → rsum r Q k i + (q - i) ≤ wgt r k) ∧ ∀ i j : Nat, j < N → Q (4 * k + i) = nI j → rsum r Q k (i + 1) = rsum r Q k i + wgt r j := by
  obtain ⟨hN0, hN, hr⟩ := hC.N
  have hQ := row_of hC hS hI
  have hm := many_q hC hk hp
  have h0' : (r (9 + k)).toInt ≠ 0 := fun e => h0 (by rw [(hC.k hk).1, fz_eq, kc_0]; exact e)
  refine ⟨fun i hi => rsum_gap hR hQ (by rw [hr, nI_toInt (by omega)]; omega) h0' (by rw [hm, nI_toInt (by omega)]) hi, fun i j hj e => ?_⟩
  rw [rsum_succ, e, nI_clamp (by omega)]
theorem kloop (hC : CR N words unsures slips throne said kind parts pn wt tw uw uo r told) (hS : StR N parts pn W o Q) (hI : CI N unit kind parts pn wt ws steps below above) (hR : ROk r) {k q d : Nat} {X : Int} (hX0 : 0 ≤ X) (hX2 : X ≤ 128304) {un : Int32} (hk : k < N) (hp : parts k = nI q) (hD : ND k q kind pn wt ws steps below) (h0 : ¬ kind k = 0) {lo6 lo7 hi6 hi7 : Int32} (hlo : LoR X lo6 lo7) (hhi : HiR X hi6 hi7) {b0 c0 : Nat} (hbc : b0 + c0 + wgt r k ≤ 349) (hF : ∀ i j : Nat, i < q → j < 2 ^ 31 → Q (4 * k + i) = nI j → ∀ (b c : Nat) (bits : Int32) (hw cp hr cr : Nat → Int32) (l6 l7 u6 u7 : Int32), LoR X l6 l7 → HiR X u6 u7 → HS b c bits hw cp hr cr → b + c + wgt r j ≤ 349 → HOut (wgt r j) X b c (F6 (nI N) un kind parts pn wt ws W o (nI b) bits (nI c) hw cp (nI j) l6 u6 (nI (d + 1))) (F7 r told un Q (nI b) (nI c) hr cr (nI j) l7 u7)) : ∀ (m i f6 f7 b c : Nat) (bits got n ed : Int32) (hw cp hr cr : Nat → Int32), q - i = m → i ≤ q → m < f6 → m < f7 → ((i = 0 ∧ n.toInt = -100000000 ∧ ed = lo6) ∨ (1 ≤ i ∧ n = got ∧ 0 ≤ got.toInt ∧ got.toInt ≤ X ∧ ed = (if lo6 < got then got else lo6))) → HS b c bits hw cp hr cr → b + c ≤ b0 + c0 + rsum r Q k i → HOut (wgt r k) X b0 c0 (HX2_listenToRuler_0 F6 (nI N) un kind parts pn wt ws W o (nI k) (nI d) f6 (nI i) hi6 got ed (nI b) bits (nI c) hw cp) (HX7_hear_1 F7 r told un Q (nI k) lo7 hi7 1 (nI q) f7 (nI i) n (nI b) (nI c) hr cr) := by
  obtain ⟨hN0, hN, hr1⟩ := hC.N
  have hq := hD.1
  have hm := many_q hC hk hp
  have hq1 := q1_of hC hR hk hp hq h0
  obtain ⟨hgap, hsum⟩ := rs_at hC hS hI hR hk hp hq h0
  intro m
  induction m with
  | zero =>
    intro i f6 f7 b c bits got n ed hw cp hr cr hd hi h6 h7 hst hHS hbs
    obtain ⟨f6, rfl⟩ : ∃ g, f6 = g + 1 := ⟨f6 - 1, by omega⟩
    obtain ⟨f7, rfl⟩ : ∃ g, f7 = g + 1 := ⟨f7 - 1, by omega⟩
    obtain rfl : i = q := by omega
    have hg := hgap i (Nat.le_refl _)
    rcases hst with ⟨h1, -⟩ | ⟨h1, h2, h3, h4, -⟩
    · omega
    · refine ⟨got, b, c, bits, hw, cp, hr, cr, ?_, ?_, ⟨h3, h4⟩, by omega, hHS⟩
      · rw [HX2_listenToRuler_0_eq, lt_ap, nI_clamp (show k < 2 ^ 31 by omega), hp, if_pos (nI_le (Nat.le_refl _) (by omega))]
      · rw [HX7_hear_1_eq, if_pos (nI_le (Nat.le_refl _) (by omega)), if_neg (show ¬ (1 : Int32) = 3 by decide), h2]
  | succ m ih =>
    intro i f6 f7 b c bits got n ed hw cp hr cr hd hi h6 h7 hst hHS hbs
    obtain ⟨f6, rfl⟩ : ∃ g, f6 = g + 1 := ⟨f6 - 1, by omega⟩
    obtain ⟨f7, rfl⟩ : ∃ g, f7 = g + 1 := ⟨f7 - 1, by omega⟩
    have hiq : i < q := by omega
    obtain ⟨j, j1, -, j2, j3, -, -⟩ := hp_at hC hS hk hp hD hiq
    have hs1 := hsum i j (by omega) j3
    have hg1' := hgap (i + 1) (by omega)
    have hbR : LoR X ed (if n ≤ lo7 then lo7 else n) := g_low hX0 hX2 hlo (hst.imp (fun h => ⟨h.2.1, h.2.2⟩) (fun h => h.2))
    obtain ⟨v, b', c', bits', hw', cp', hr', cr', e6, e7, ⟨v0, v1⟩, hb', hH'⟩ := hF i j hiq (by omega) j3 b c bits hw cp hr cr ed (if n ≤ lo7 then lo7 else n) hi6 hi7 hbR hhi hHS (by omega)
    generalize hg : (if i = 0 then v else if v ≤ got then got else v) = g
    have hg7 : g = (if v ≤ n then n else v) := by
      rw [← hg]
      rcases hst with ⟨h1, h2, -⟩ | ⟨h1, h2, -⟩
      · rw [if_pos h1, if_neg (show ¬ v ≤ n by rw [fz_le]; omega)]
      · rw [if_neg (show ¬ i = 0 by omega), h2]
    have hgr : 0 ≤ g.toInt ∧ g.toInt ≤ X := by
      rw [← hg]
      rcases hst with ⟨h1, h2, -⟩ | ⟨h1, h2, h3, h4, -⟩
      · rw [if_pos h1]; exact ⟨v0, v1⟩
      · rw [if_neg (show ¬ i = 0 by omega)]
        by_cases y : v ≤ got
        · rw [if_pos y]; exact ⟨h3, h4⟩
        · rw [if_neg y]; exact ⟨v0, v1⟩
    obtain ⟨hg0, hg1⟩ := hgr
    have hed : (if ed < g then g else ed) = (if lo6 < g then g else lo6) := g_mx (hst.imp (fun h => h.2.2) (fun h => ⟨h.2.2.2.2, by
      rw [← hg, if_neg (show ¬ i = 0 by have := h.1; omega)]
      by_cases y : v ≤ got
      · (rw [if_pos y]) <;> exact Int.le_refl _
      · rw [if_neg y]; rw [fz_le] at y; omega⟩))
    rw [k6_step (by omega) hp hq hiq j2 e6 hg.symm, k7_step (by omega) hq hiq j3 e7 hg7]
    by_cases cg : g < hi6
    · rw [if_pos cg, if_pos ((g_hlt hX2 hhi hg1).mp cg), hed]
      exact ih (i + 1) f6 f7 b' c' bits' g g _ hw' cp' hr' cr' (by omega) (by omega) (by omega) (by omega) (Or.inr ⟨by omega, rfl, hg0, hg1, rfl⟩) hH' (by omega)
    · obtain ⟨cp2, cr2, a6, a7, a8⟩ := cut_sim (v := g) hS hN hk hp hq hm (q - (i + 1)) (i + 1) (((4 - (nI (i + 1)).toInt).toNat) + 1) ((((r (27 + (nI k).toNatClampNeg)).toInt - (nI (i + 1)).toInt).toNat) + 1) c' cp' cr' rfl (by omega) (by rw [nI_toInt (by omega)]; omega) (by rw [nI_clamp (by omega), hm, nI_toInt (by omega), nI_toInt (by omega)]; omega) (by omega) hH'.2.1
      rw [if_neg cg, if_neg (fun y => cg ((g_hlt hX2 hhi hg1).mpr y)), PX2_noteCuts_eq, un2_eq a6, PX7_cutFrom_eq, un3_eq a7]
      exact ⟨g, b', c' + (q - (i + 1)), bits', hw', cp2, hr', cr2, rfl, rfl, ⟨hg0, hg1⟩, by omega, ⟨hH'.1, a8, hH'.2.2⟩⟩
theorem qloop (hC : CR N words unsures slips throne said kind parts pn wt tw uw uo r told) (hS : StR N parts pn W o Q) (hI : CI N unit kind parts pn wt ws steps below above) (hR : ROk r) {k q d : Nat} {X : Int} (hX0 : 0 ≤ X) (hX2 : X ≤ 128304) {un : Int32} (hk : k < N) (hp : parts k = nI q) (hD : ND k q kind pn wt ws steps below) (h0 : ¬ kind k = 0) {lo6 lo7 hi6 hi7 : Int32} (hlo : LoR X lo6 lo7) (hhi : HiR X hi6 hi7) {b0 c0 : Nat} (hbc : b0 + c0 + wgt r k ≤ 349) (hF : ∀ i j : Nat, i < q → j < 2 ^ 31 → Q (4 * k + i) = nI j → ∀ (b c : Nat) (bits : Int32) (hw cp hr cr : Nat → Int32) (l6 l7 u6 u7 : Int32), LoR X l6 l7 → HiR X u6 u7 → HS b c bits hw cp hr cr → b + c + wgt r j ≤ 349 → HOut (wgt r j) X b c (F6 (nI N) un kind parts pn wt ws W o (nI b) bits (nI c) hw cp (nI j) l6 u6 (nI (d + 1))) (F7 r told un Q (nI b) (nI c) hr cr (nI j) l7 u7)) : ∀ (m i f6 f7 b c : Nat) (bits got n ed : Int32) (hw cp hr cr : Nat → Int32), q - i = m → i ≤ q → m < f6 → m < f7 → ((i = 0 ∧ n.toInt = 100000000 ∧ ed = hi6) ∨ (1 ≤ i ∧ n = got ∧ 0 ≤ got.toInt ∧ got.toInt ≤ X ∧ ed = (if got < hi6 then got else hi6))) → HS b c bits hw cp hr cr → b + c ≤ b0 + c0 + rsum r Q k i → HOut (wgt r k) X b0 c0 (HX2_listenToRuler_1 F6 (nI N) un kind parts pn wt ws W o (nI k) (nI d) f6 (nI i) ed got lo6 (nI b) bits (nI c) hw cp) (HX7_hear_0 F7 r told un Q (nI k) lo7 hi7 2 (nI q) f7 (nI i) n (nI b) (nI c) hr cr) := by
  obtain ⟨hN0, hN, hr1⟩ := hC.N
  have hq := hD.1
  have hm := many_q hC hk hp
  have hq1 := q1_of hC hR hk hp hq h0
  obtain ⟨hgap, hsum⟩ := rs_at hC hS hI hR hk hp hq h0
  intro m
  induction m with
  | zero =>
    intro i f6 f7 b c bits got n ed hw cp hr cr hd hi h6 h7 hst hHS hbs
    obtain ⟨f6, rfl⟩ : ∃ g, f6 = g + 1 := ⟨f6 - 1, by omega⟩
    obtain ⟨f7, rfl⟩ : ∃ g, f7 = g + 1 := ⟨f7 - 1, by omega⟩
    obtain rfl : i = q := by omega
    have hg := hgap i (Nat.le_refl _)
    rcases hst with ⟨h1, -⟩ | ⟨h1, h2, h3, h4, -⟩
    · omega
    · refine ⟨got, b, c, bits, hw, cp, hr, cr, ?_, ?_, ⟨h3, h4⟩, by omega, hHS⟩
      · rw [HX2_listenToRuler_1_eq, lt_ap, nI_clamp (show k < 2 ^ 31 by omega), hp, if_pos (nI_le (Nat.le_refl _) (by omega))]
      · rw [HX7_hear_0_eq, if_pos (nI_le (Nat.le_refl _) (by omega)), if_neg (show ¬ (2 : Int32) = 3 by decide), h2]
  | succ m ih =>
    intro i f6 f7 b c bits got n ed hw cp hr cr hd hi h6 h7 hst hHS hbs
    obtain ⟨f6, rfl⟩ : ∃ g, f6 = g + 1 := ⟨f6 - 1, by omega⟩
    obtain ⟨f7, rfl⟩ : ∃ g, f7 = g + 1 := ⟨f7 - 1, by omega⟩
    have hiq : i < q := by omega
    obtain ⟨j, j1, -, j2, j3, -, -⟩ := hp_at hC hS hk hp hD hiq
    have hs1 := hsum i j (by omega) j3
    have hg1' := hgap (i + 1) (by omega)
    have hbR : HiR X ed (if hi7 ≤ n then hi7 else n) := g_hig hX0 hX2 hhi (hst.imp (fun h => ⟨h.2.1, h.2.2⟩) (fun h => h.2))
    obtain ⟨v, b', c', bits', hw', cp', hr', cr', e6, e7, ⟨v0, v1⟩, hb', hH'⟩ := hF i j hiq (by omega) j3 b c bits hw cp hr cr lo6 lo7 ed (if hi7 ≤ n then hi7 else n) hlo hbR hHS (by omega)
    generalize hg : (if i = 0 then v else if got ≤ v then got else v) = g
    have hg7 : g = (if n ≤ v then n else v) := by
      rw [← hg]
      rcases hst with ⟨h1, h2, -⟩ | ⟨h1, h2, -⟩
      · rw [if_pos h1, if_neg (show ¬ n ≤ v by rw [fz_le]; omega)]
      · rw [if_neg (show ¬ i = 0 by omega), h2]
    have hgr : 0 ≤ g.toInt ∧ g.toInt ≤ X := by
      rw [← hg]
      rcases hst with ⟨h1, h2, -⟩ | ⟨h1, h2, h3, h4, -⟩
      · rw [if_pos h1]; exact ⟨v0, v1⟩
      · rw [if_neg (show ¬ i = 0 by omega)]
        by_cases y : got ≤ v
        · rw [if_pos y]; exact ⟨h3, h4⟩
        · rw [if_neg y]; exact ⟨v0, v1⟩
    obtain ⟨hg0, hg1⟩ := hgr
    have hed : (if g < ed then g else ed) = (if g < hi6 then g else hi6) := g_mn (hst.imp (fun h => h.2.2) (fun h => ⟨h.2.2.2.2, by
      rw [← hg, if_neg (show ¬ i = 0 by have := h.1; omega)]
      by_cases y : got ≤ v
      · (rw [if_pos y]) <;> exact Int.le_refl _
      · rw [if_neg y]; rw [fz_le] at y; omega⟩))
    rw [q6_step (by omega) hp hq hiq j2 e6 hg.symm, q7_step (by omega) hq hiq j3 e7 hg7]
    by_cases cg : lo6 < g
    · rw [if_pos cg, if_pos ((g_llt hlo hg0).mp cg), hed]
      exact ih (i + 1) f6 f7 b' c' bits' g g _ hw' cp' hr' cr' (by omega) (by omega) (by omega) (by omega) (Or.inr ⟨by omega, rfl, hg0, hg1, rfl⟩) hH' (by omega)
    · obtain ⟨cp2, cr2, a6, a7, a8⟩ := cut_sim (v := g) hS hN hk hp hq hm (q - (i + 1)) (i + 1) (((4 - (nI (i + 1)).toInt).toNat) + 1) ((((r (27 + (nI k).toNatClampNeg)).toInt - (nI (i + 1)).toInt).toNat) + 1) c' cp' cr' rfl (by omega) (by rw [nI_toInt (by omega)]; omega) (by rw [nI_clamp (by omega), hm, nI_toInt (by omega), nI_toInt (by omega)]; omega) (by omega) hH'.2.1
      rw [if_neg cg, if_neg (fun y => cg ((g_llt hlo hg0).mpr y)), PX2_noteCuts_eq, un2_eq a6, PX7_cutFrom_eq, un3_eq a7]
      exact ⟨g, b', c' + (q - (i + 1)), bits', hw', cp2, hr', cr2, rfl, rfl, ⟨hg0, hg1⟩, by omega, ⟨hH'.1, a8, hH'.2.2⟩⟩
theorem cloop (hC : CR N words unsures slips throne said kind parts pn wt tw uw uo r told) (hS : StR N parts pn W o Q) (hI : CI N unit kind parts pn wt ws steps below above) (hR : ROk r) {k q d : Nat} {X : Int} (hX0 : 0 ≤ X) (hX2 : X ≤ 128304) {un : Int32} (hk : k < N) (hp : parts k = nI q) (hD : ND k q kind pn wt ws steps below) (h0 : ¬ kind k = 0) {lo7 hi7 : Int32} (h3 : kind k = 3) (hun : X < ((100 : Int32) * un).toInt) {b0 c0 : Nat} (hbc : b0 + c0 + wgt r k ≤ 349) (hF : ∀ i j : Nat, i < q → j < 2 ^ 31 → Q (4 * k + i) = nI j → ∀ (b c : Nat) (bits : Int32) (hw cp hr cr : Nat → Int32) (l6 l7 u6 u7 : Int32), LoR X l6 l7 → HiR X u6 u7 → HS b c bits hw cp hr cr → b + c + wgt r j ≤ 349 → HOut (wgt r j) X b c (F6 (nI N) un kind parts pn wt ws W o (nI b) bits (nI c) hw cp (nI j) l6 u6 (nI (d + 1))) (F7 r told un Q (nI b) (nI c) hr cr (nI j) l7 u7)) : ∀ (m i f6 f7 b c : Nat) (bits sum : Int32) (hw cp hr cr : Nat → Int32), q - i = m → i ≤ q → m < f6 → m < f7 → (0 ≤ sum.toInt ∧ sum.toInt ≤ X * (pf opA 0 (fun j => wt (4 * k + (o (4 * k + j)).toInt.toNat)) i).toInt) → HS b c bits hw cp hr cr → b + c ≤ b0 + c0 + rsum r Q k i → HOut (wgt r k) X b0 c0 (HX2_listenToChance_0 F6 (nI N) un kind parts pn wt ws W o (nI k) (nI d) f6 (nI i) sum (nI b) bits (nI c) hw cp) (HX7_hear_2 F7 r told un Q (nI k) lo7 hi7 3 (nI q) f7 (nI i) sum (nI b) (nI c) hr cr) := by
  obtain ⟨hN0, hN, hr1⟩ := hC.N
  have hq := hD.1
  have hm := many_q hC hk hp
  have hq1 := q1_of hC hR hk hp hq h0
  obtain ⟨hgap, hsum⟩ := rs_at hC hS hI hR hk hp hq h0
  obtain ⟨hws, hw9⟩ := w9_of hC hR hk hp hD h3
  have hperm : ∀ i : Nat, i < q → (o (4 * k + i)).toInt.toNat < q := fun i hi => by
    obtain ⟨j, -, h, -⟩ := hp_at hC hS hk hp hD hi
    exact h
  have hw9' : ∀ i : Nat, i < q → 1 ≤ (wt (4 * k + (o (4 * k + i)).toInt.toNat)).toInt ∧ (wt (4 * k + (o (4 * k + i)).toInt.toNat)).toInt ≤ 9 := fun i hi => hw9 _ (hperm i hi)
  intro m
  induction m with
  | zero =>
    intro i f6 f7 b c bits sum hw cp hr cr hd hi h6 h7 hst hHS hbs
    obtain ⟨f6, rfl⟩ : ∃ g, f6 = g + 1 := ⟨f6 - 1, by omega⟩
    obtain ⟨f7, rfl⟩ : ∃ g, f7 = g + 1 := ⟨f7 - 1, by omega⟩
    obtain rfl : i = q := by omega
    have hg := hgap i (Nat.le_refl _)
    have hS2 : pf opA 0 (fun j => wt (4 * k + (o (4 * k + j)).toInt.toNat)) i = ws k := by
      rw [hws]
      refine pf_perm opA_c (z := 0) (g := fun j => wt (4 * k + j)) i (fun j => (o (4 * k + j)).toInt.toNat) hperm (fun x y hx hy e => ?_)
      obtain ⟨-, g1, g2⟩ := hS k hk
      rw [hp, nI_toInt (by omega)] at g1 g2
      have e' : (o (4 * k + x)).toInt.toNat = (o (4 * k + y)).toInt.toNat := e
      obtain ⟨p1, p2, -⟩ := g1 x (by omega)
      obtain ⟨p3, p4, -⟩ := g1 y (by omega)
      exact g2 x y (by omega) (by omega) ((fz_eq _ _).mpr (by omega))
    rw [hS2] at hst
    obtain ⟨s1, s2⟩ := sum_w (w := fun j => wt (4 * k + j)) i hq hw9
    rw [← hws] at s1 s2
    have hpos : 0 < (ws k).toInt := by omega
    have hv : 0 ≤ (sum / ws k).toInt ∧ (sum / ws k).toInt ≤ X := by
      rw [ti_divE (z := sum / ws k) rfl rfl rfl hst.1 hpos]
      refine ⟨Int.ediv_nonneg hst.1 (by omega), ?_⟩
      refine Int.le_of_lt_add_one (Int.ediv_lt_of_lt_mul hpos ?_)
      rw [Int.add_mul, Int.one_mul]
      omega
    refine ⟨sum / ws k, b, c, bits, hw, cp, hr, cr, ?_, ?_, hv, by omega, hHS⟩
    · rw [HX2_listenToChance_0_eq]
      simp only [lt_ap]
      rw [nI_clamp (show k < 2 ^ 31 by omega), hp, if_pos (nI_le (Nat.le_refl _) (by omega)), PX6_wholeOf_eq, lt_ap, if_neg (show ¬ ws k ≤ 0 by rw [fz_le, kc_0]; omega)]
    · rw [HX7_hear_2_eq, if_pos (nI_le (Nat.le_refl _) (by omega)), if_pos (show (3 : Int32) = 3 from rfl)]
      simp only [lt_ap]
      rw [ws_eq (show k < 18 by omega) hq hm, ws_of hC hk hp hD]
  | succ m ih =>
    intro i f6 f7 b c bits sum hw cp hr cr hd hi h6 h7 hst hHS hbs
    obtain ⟨f6, rfl⟩ : ∃ g, f6 = g + 1 := ⟨f6 - 1, by omega⟩
    obtain ⟨f7, rfl⟩ : ∃ g, f7 = g + 1 := ⟨f7 - 1, by omega⟩
    have hiq : i < q := by omega
    obtain ⟨j, j1, -, j2, j3, j4, j5⟩ := hp_at hC hS hk hp hD hiq
    have hs1 := hsum i j (by omega) j3
    have hg1' := hgap (i + 1) (by omega)
    obtain ⟨v, b', c', bits', hw', cp', hr', cr', e6, e7, ⟨v0, v1⟩, hb', hH'⟩ := hF i j hiq (by omega) j3 b c bits hw cp hr cr (-1) (-100000000) ((100 : Int32) * un) 100000000 (Or.inr ⟨by decide, by decide⟩) (Or.inr ⟨hun, by decide⟩) hHS (by omega)
    obtain ⟨d1, d2⟩ := hw9' i hiq
    obtain ⟨a1, a2⟩ := sum_w (w := fun j => wt (4 * k + (o (4 * k + j)).toInt.toNat)) i (by omega) (fun x hx => hw9' x (by omega))
    have p1 : 0 ≤ v.toInt * (wt (4 * k + (o (4 * k + i)).toInt.toNat)).toInt := Int.mul_nonneg v0 (by omega)
    have p2 : v.toInt * (wt (4 * k + (o (4 * k + i)).toInt.toNat)).toInt ≤ X * (wt (4 * k + (o (4 * k + i)).toInt.toNat)).toInt := Int.mul_le_mul_of_nonneg_right v1 (by omega)
    have p3 : X * (wt (4 * k + (o (4 * k + i)).toInt.toNat)).toInt ≤ 128304 * 9 := Int.mul_le_mul hX2 d2 (by omega) (by decide)
    have p4 : X * (pf opA 0 (fun j => wt (4 * k + (o (4 * k + j)).toInt.toNat)) i).toInt ≤ 128304 * 27 := Int.mul_le_mul hX2 (by omega) (by omega) (by decide)
    have q1 : (v * wt (4 * k + (o (4 * k + i)).toInt.toNat)).toInt = v.toInt * (wt (4 * k + (o (4 * k + i)).toInt.toNat)).toInt := fb_mulI (by omega) (by omega)
    have q2 : (pf opA 0 (fun j => wt (4 * k + (o (4 * k + j)).toInt.toNat)) i + wt (4 * k + (o (4 * k + i)).toInt.toNat)).toInt = (pf opA 0 (fun j => wt (4 * k + (o (4 * k + j)).toInt.toNat)) i).toInt + (wt (4 * k + (o (4 * k + i)).toInt.toNat)).toInt := fb_addI (by omega) (by omega)
    have q3 : (sum + v * wt (4 * k + (o (4 * k + i)).toInt.toNat)).toInt = sum.toInt + v.toInt * (wt (4 * k + (o (4 * k + i)).toInt.toNat)).toInt := by rw [fb_addI (by rw [q1]; omega) (by rw [q1]; omega), q1]
    have s6 : HX2_listenToChance_0 F6 (nI N) un kind parts pn wt ws W o (nI k) (nI d) (f6 + 1) (nI i) sum (nI b) bits (nI c) hw cp = HX2_listenToChance_0 F6 (nI N) un kind parts pn wt ws W o (nI k) (nI d) f6 (nI (i + 1)) (sum + v * wt (4 * k + (o (4 * k + i)).toInt.toNat)) (nI b') bits' (nI c') hw' cp' := by
      rw [HX2_listenToChance_0_eq]
      simp only [lt_ap]
      rw [nI_clamp (show k < 2 ^ 31 by omega), hp, if_neg (show ¬ nI q ≤ nI i by rw [nI_leI (by omega) (by omega)]; omega), j2, PX2_aboveAll_eq, lt_ap, nI_1 d, un6_eq e6, j4, nI_o1]
    have s7 : HX7_hear_2 F7 r told un Q (nI k) lo7 hi7 3 (nI q) (f7 + 1) (nI i) sum (nI b) (nI c) hr cr = HX7_hear_2 F7 r told un Q (nI k) lo7 hi7 3 (nI q) f7 (nI (i + 1)) (sum + v * wt (4 * k + (o (4 * k + i)).toInt.toNat)) (nI b') (nI c') hr' cr' := by
      rw [HX7_hear_2_eq, if_neg (show ¬ nI q ≤ nI i by rw [nI_leI (by omega) (by omega)]; omega)]
      simp only [lt_ap]
      rw [nI_m4' (by omega), nI_add, nI_clamp (show 4 * k + i < 2 ^ 31 by omega), j3, if_pos trivial, un5_eq e7, j5, nI_o1]
    rw [s6, s7]
    refine ih (i + 1) f6 f7 b' c' bits' _ hw' cp' hr' cr' (by omega) (by omega) (by omega) (by omega) ⟨by rw [q3]; omega, ?_⟩ hH' (by omega)
    have q4 : pf opA 0 (fun j => wt (4 * k + (o (4 * k + j)).toInt.toNat)) (i + 1) = pf opA 0 (fun j => wt (4 * k + (o (4 * k + j)).toInt.toNat)) i + wt (4 * k + (o (4 * k + i)).toInt.toNat) := rfl
    rw [q3, q4, q2, Int.mul_add]
    omega
/-- any node is heard alike -/
theorem hear_sim (hC : CR N words unsures slips throne said kind parts pn wt tw uw uo r told) (hS : StR N parts pn W o Q) (hI : CI N unit kind parts pn wt ws steps below above) (hR : ROk r) (hW : ∀ k : Nat, k < N → kind k = 0 → 0 ≤ (W k).toInt ∧ (W k).toInt ≤ 99) {un : Int32} (hun : 1 ≤ un.toInt ∧ un.toInt ≤ 1296) (k : Nat) : ∀ (n6 n7 d b c : Nat) (bits lo6 lo7 hi6 hi7 : Int32) (hw cp hr cr : Nat → Int32), k < N → k < n7 → hgt r k < n6 → d + hgt r k ≤ 12 → LoR (99 * un.toInt) lo6 lo7 → HiR (99 * un.toInt) hi6 hi7 → HS b c bits hw cp hr cr → b + c + wgt r k ≤ 349 → HOut (wgt r k) (99 * un.toInt) b c (PX2_listen n6 (nI N) un kind parts pn wt ws W o (nI b) bits (nI c) hw cp (nI k) lo6 hi6 (nI d)) (PX7_hear n7 r told un Q (nI b) (nI c) hr cr (nI k) lo7 hi7) := by
  obtain ⟨hN0, hN, hr1⟩ := hC.N
  have h100 : ((100 : Int32) * un).toInt = 100 * un.toInt := by
    have e : (100 : Int32).toInt = 100 := by decide
    rw [fb_mulI (by rw [e]; omega) (by rw [e]; omega), e]
  induction k using Nat.strongRecOn with
  | _ k ih =>
    intro n6 n7 d b c bits lo6 lo7 hi6 hi7 hw cp hr cr hk hn7 hn6 hd hlo hhi hHS hbc
    obtain ⟨n6, rfl⟩ : ∃ g, n6 = g + 1 := ⟨n6 - 1, by omega⟩
    obtain ⟨n7, rfl⟩ : ∃ g, n7 = g + 1 := ⟨n7 - 1, by omega⟩
    obtain ⟨q, hp, hD⟩ := hI.2.1 k hk
    have hq := hD.1
    have hm := many_q hC hk hp
    have hkd := (hC.k hk).1
    have hin : 0 ≤ (nI k).toInt ∧ (nI k).toInt < (N : Int) := by rw [nI_toInt (by omega)]; omega
    rw [PX2_listen_eq, PX7_hear_eq]
    simp only [lt_ap]
    rw [if_neg (show ¬ (12 : Int32) < nI d by rw [show (12 : Int32) = nI 12 by decide, nI_ltI (by omega) (by omega)]; omega), hn_eq hN, if_pos hin, if_pos (show (1 : Int32) = 1 from rfl), nI_clamp (show k < 2 ^ 31 by omega), show (9 : Int32) + nI k = nI (9 + k) from nI_add 9 k, nI_clamp (show 9 + k < 2 ^ 31 by omega), ← hkd]
    by_cases h0 : kind k = 0
    · -- a word
      have hw1 : wgt r k = 1 := by unfold wgt; rw [← hkd, h0, kc_0, if_pos rfl]
      obtain ⟨w1, w2⟩ := hW k hk h0
      have m0 : 0 ≤ (W k).toInt * un.toInt := Int.mul_nonneg w1 (by omega)
      have m1 : (W k).toInt * un.toInt ≤ 99 * un.toInt := Int.mul_le_mul_of_nonneg_right w2 (by omega)
      have e1 : (W k * un).toInt = (W k).toInt * un.toInt := fb_mulI (by omega) (by omega)
      have hWQ : Q (72 + k) = W k := (hS k hk).1.symm
      rw [if_pos h0, if_pos h0, PX2_noteWord_eq]
      simp only [lt_ap]
      rw [if_neg (show ¬ (512 : Int32) ≤ nI b by rw [show (512 : Int32) = nI 512 by decide, nI_leI (by omega) (by omega)]; omega), un3_eq rfl, nI_clamp (show b < 2 ^ 31 by omega), nI_1 b, show (72 : Int32) + nI k = nI (72 + k) from nI_add 72 k, nI_clamp (show 72 + k < 2 ^ 31 by omega), hWQ]
      refine ⟨W k * un, b + 1, c, _, _, _, _, _, rfl, rfl, ⟨by rw [e1]; omega, by rw [e1]; omega⟩, by omega, ⟨fun x hx => ?_, hHS.2.1, ?_⟩⟩
      · by_cases y : x = b
        · rw [y, upd_at, upd_at]
        · rw [upd_ne y, upd_ne y]; exact hHS.1 x (by omega)
      · rw [hO, upd_at, hHS.2.2, hO_congr b (h := hr) (h' := upd hr b (nI k)) (fun x hx => upd_ne (by omega))]
    · have h0' : ¬ (r (9 + k)).toInt = 0 := fun e => h0 (by rw [hkd, fz_eq, kc_0]; exact e)
      have hq1 := q1_of hC hR hk hp hq h0
      have hh : 1 ≤ hgt r k := by unfold hgt; rw [if_neg h0']; omega
      have hF : ∀ i j : Nat, i < q → j < 2 ^ 31 → Q (4 * k + i) = nI j → ∀ (b c : Nat) (bits : Int32) (hw cp hr cr : Nat → Int32) (l6 l7 u6 u7 : Int32), LoR (99 * un.toInt) l6 l7 → HiR (99 * un.toInt) u6 u7 → HS b c bits hw cp hr cr → b + c + wgt r j ≤ 349 → HOut (wgt r j) (99 * un.toInt) b c (PX2_listen n6 (nI N) un kind parts pn wt ws W o (nI b) bits (nI c) hw cp (nI j) l6 u6 (nI (d + 1))) (PX7_hear n7 r told un Q (nI b) (nI c) hr cr (nI j) l7 u7) := fun i j hi hjl hj b c bits hw cp hr cr l6 l7 u6 u7 y1 y2 y3 y4 => by
        obtain ⟨j', j1, -, -, j2, -⟩ := hp_at hC hS hk hp hD hi
        obtain rfl : j' = j := (nI_eq (by omega) hjl).mp (j2.symm.trans hj)
        have hl := hgt_lt (r := r) h0' j1
        exact ih j' j1 n6 n7 (d + 1) b c bits l6 l7 u6 u7 hw cp hr cr (by omega) (by omega) (by omega) (by omega) y1 y2 y3 y4
      rw [if_neg h0, if_neg h0]
      have kp : 0 ≤ 99 * un.toInt := by omega
      have kp2 : 99 * un.toInt ≤ 128304 := by omega
      rcases kd_of hC hR hk with h | h | h | h
      · exact absurd h h0
      · -- a king
        rw [if_neg (show ¬ kind k = 3 by rw [h]; decide), if_neg (show ¬ kind k = 2 by rw [h]; decide), if_pos h, un6_id, PX2_listenToRuler_eq, lt_ap, nI_clamp (show k < 2 ^ 31 by omega), if_pos h, h, show (27 : Int32) + nI k = nI (27 + k) from nI_add 27 k, nI_clamp (show 27 + k < 2 ^ 31 by omega), hm]
        have e := kloop hC hS hI hR kp kp2 hk hp hD h0 hlo hhi hbc hF q 0 (((4 - (0 : Int32).toInt).toNat) + 1) ((((nI q).toInt - (0 : Int32).toInt).toNat) + 1) b c bits 0 (-100000000) lo6 hw cp hr cr rfl (by omega) (by rw [kc_0]; omega) (by rw [kc_0, nI_toInt (by omega)]; omega) (Or.inl ⟨rfl, by decide, rfl⟩) hHS (by have := rsum_zero r Q k; omega)
        rw [nI_0] at e
        exact e
      · -- a queen
        rw [if_neg (show ¬ kind k = 3 by rw [h]; decide), if_pos h, un6_id, PX2_listenToRuler_eq, lt_ap, nI_clamp (show k < 2 ^ 31 by omega), if_neg (show ¬ kind k = 1 by rw [h]; decide), h, show (27 : Int32) + nI k = nI (27 + k) from nI_add 27 k, nI_clamp (show 27 + k < 2 ^ 31 by omega), hm]
        have e := qloop hC hS hI hR kp kp2 hk hp hD h0 hlo hhi hbc hF q 0 (((4 - (0 : Int32).toInt).toNat) + 1) ((((nI q).toInt - (0 : Int32).toInt).toNat) + 1) b c bits 0 100000000 hi6 hw cp hr cr rfl (by omega) (by rw [kc_0]; omega) (by rw [kc_0, nI_toInt (by omega)]; omega) (Or.inl ⟨rfl, by decide, rfl⟩) hHS (by have := rsum_zero r Q k; omega)
        rw [nI_0] at e
        exact e
      · -- chance
        rw [if_pos h, if_neg (show ¬ kind k = 2 by rw [h]; decide), if_neg (show ¬ kind k = 1 by rw [h]; decide), un6_id, PX2_listenToChance_eq, h, show (27 : Int32) + nI k = nI (27 + k) from nI_add 27 k, nI_clamp (show 27 + k < 2 ^ 31 by omega), hm]
        have e := cloop (lo7 := lo7) (hi7 := hi7) hC hS hI hR kp kp2 hk hp hD h0 h (by rw [h100]; omega) hbc hF q 0 (((4 - (0 : Int32).toInt).toNat) + 1) ((((nI q).toInt - (0 : Int32).toInt).toNat) + 1) b c bits 0 hw cp hr cr rfl (by omega) (by rw [kc_0]; omega) (by rw [kc_0, nI_toInt (by omega)]; omega) ⟨by decide, by (rw [show pf opA 0 (fun j => wt (4 * k + (o (4 * k + j)).toInt.toNat)) 0 = 0 from rfl, kc_0, Int.mul_zero]) <;> exact Int.le_refl _⟩ hHS (by have := rsum_zero r Q k; omega)
        rw [nI_0] at e
        exact e
end WQ
end G2
end
section
/-! hearing from the throne; asking; by halves -/
section G3
section WQ
variable {N : Nat} {words unsures slips throne said unit : Int32} {kind parts pn wt tw uw uo r told W o Q ws steps below above : Nat → Int32} {F6 : Int32 → Int32 → (Nat → Int32) → (Nat → Int32) → (Nat → Int32) → (Nat → Int32) → (Nat → Int32) → (Nat → Int32) → (Nat → Int32) → Int32 → Int32 → Int32 → (Nat → Int32) → (Nat → Int32) → Int32 → Int32 → Int32 → Int32 × Int32 × Int32 × Int32 × (Nat → Int32) × (Nat → Int32)} {F7 : (Nat → Int32) → (Nat → Int32) → (Nat → Int32) → Int32 → Int32 → Int32 → (Nat → Int32) → (Nat → Int32) → Int32 → Int32 → Int32 × Int32 × Int32 × (Nat → Int32) × (Nat → Int32)}
theorem hgt_8 (hR : ROk r) {k : Nat} (hk : (k : Int) < (r 1).toInt) : hgt r k ≤ 8 := by
  unfold hgt
  by_cases c : (r (9 + k)).toInt = 0
  · rw [if_pos c]; omega
  · rw [if_neg c]
    have h1 := hR.ci (k + 1) (by omega)
    have h2 : cntP (fun j => (r (9 + j)).toInt ≠ 0) (k + 1) = rkI r k + 1 := by
      show rkI r k + (if (r (9 + k)).toInt ≠ 0 then 1 else 0) = _
      rw [if_pos c]
    omega
theorem hs_0 {hw cp hr cr : Nat → Int32} : HS 0 0 0 hw cp hr cr := ⟨fun x hx => absurd hx (by omega), fun x hx => absurd hx (by omega), rfl⟩
/-- a hearing from the throne -/
theorem thr_sim (hC : CR N words unsures slips throne said kind parts pn wt tw uw uo r told) (hS : StR N parts pn W o Q) (hI : CI N unit kind parts pn wt ws steps below above) (hR : ROk r) (hW : ∀ k : Nat, k < N → kind k = 0 → 0 ≤ (W k).toInt ∧ (W k).toInt ≤ 99) {un : Int32} (hun : 1 ≤ un.toInt ∧ un.toInt ≤ 1296) {t : Nat} (hth : throne = nI t) (hth6 : r 6 = nI t) (ht : t < N) {lo6 lo7 hi6 hi7 : Int32} (hlo : LoR (99 * un.toInt) lo6 lo7) (hhi : HiR (99 * un.toInt) hi6 hi7) (hw cp hr cr : Nat → Int32) : ∃ (v : Int32) (b c : Nat) (bits : Int32) (hw' cp' hr' cr' : Nat → Int32), PX2_listen 14 (nI N) un kind parts pn wt ws W o 0 0 0 hw cp throne lo6 hi6 0 = (v, nI b, bits, nI c, hw', cp') ∧ PX7_hearBy r told un hr cr Q lo7 hi7 = (v, nI b, nI c, hr', cr') ∧ (0 ≤ v.toInt ∧ v.toInt ≤ 99 * un.toInt) ∧ b + c ≤ 349 ∧ HS b c bits hw' cp' hr' cr' := by
  obtain ⟨hN0, hN, hr1⟩ := hC.N
  have h8 := hgt_8 hR (k := t) (by rw [hr1, nI_toInt (by omega)]; omega)
  have hw9 := (wgt_in r t).2
  obtain ⟨v, b, c, bits, hw', cp', hr', cr', e6, e7, hv, hb, hh⟩ := hear_sim hC hS hI hR hW hun t 14 18 0 0 0 0 lo6 lo7 hi6 hi7 hw cp hr cr ht (by omega) (by omega) (by omega) hlo hhi hs_0 (by omega)
  rw [nI_0] at e6 e7
  refine ⟨v, b, c, bits, hw', cp', hr', cr', by rw [hth]; exact e6, ?_, hv, by omega, hh⟩
  rw [PX7_hearBy_eq, lt_ap, six_cl, hth6, un5_id]
  exact e7
theorem a100 {un : Int32} (hun : 1 ≤ un.toInt ∧ un.toInt ≤ 1296) : 99 * un.toInt < ((100 : Int32) * un).toInt := by
  have e : (100 : Int32).toInt = 100 := by decide
  rw [fb_mulI (by rw [e]; omega) (by rw [e]; omega), e]
  omega
theorem lo_free {X : Int} : LoR X (-1) (-100000000) := Or.inr ⟨by decide, by decide⟩
theorem hi_free {un : Int32} (hun : 1 ≤ un.toInt ∧ un.toInt ≤ 1296) : HiR (99 * un.toInt) ((100 : Int32) * un) 100000000 := Or.inr ⟨a100 hun, by decide⟩
theorem free_sim (hC : CR N words unsures slips throne said kind parts pn wt tw uw uo r told) (hS : StR N parts pn W o Q) (hI : CI N unit kind parts pn wt ws steps below above) (hR : ROk r) (hW : ∀ k : Nat, k < N → kind k = 0 → 0 ≤ (W k).toInt ∧ (W k).toInt ≤ 99) {un : Int32} (hun : 1 ≤ un.toInt ∧ un.toInt ≤ 1296) {t : Nat} (hth : throne = nI t) (hth6 : r 6 = nI t) (ht : t < N) (hw cp hr cr : Nat → Int32) : ∃ (b c : Nat) (bits : Int32) (hw' cp' hr' cr' : Nat → Int32), PX2_breathsFreely hw cp (nI N) throne un kind parts pn wt ws W o = (nI b, nI b, bits, nI c, hw', cp') ∧ PX7_breathsBy r told un hr cr Q = (nI b, nI b, nI c, hr', cr') ∧ b + c ≤ 349 ∧ HS b c bits hw' cp' hr' cr' := by
  obtain ⟨v, b, c, bits, hw', cp', hr', cr', e6, e7, -, hb, hh⟩ := thr_sim hC hS hI hR hW hun hth hth6 ht lo_free (hi_free hun) hw cp hr cr
  refine ⟨b, c, bits, hw', cp', hr', cr', ?_, ?_, hb, hh⟩
  · rw [PX2_breathsFreely_eq, PX2_begin_eq, un3_eq rfl, PX2_aboveAll_eq, lt_ap, lt_ap, un6_eq e6]
  · rw [PX7_breathsBy_eq, un5_eq e7]
theorem m_in {p un : Int32} (h0 : 0 ≤ p.toInt) (h1 : p.toInt ≤ 99) (hun : 1 ≤ un.toInt ∧ un.toInt ≤ 1296) : (p * un).toInt = p.toInt * un.toInt ∧ 0 ≤ (p * un).toInt ∧ (p * un).toInt ≤ 99 * un.toInt := by
  have m0 : 0 ≤ p.toInt * un.toInt := Int.mul_nonneg h0 (by omega)
  have m1 : p.toInt * un.toInt ≤ 99 * un.toInt := Int.mul_le_mul_of_nonneg_right h1 (by omega)
  have e1 : (p * un).toInt = p.toInt * un.toInt := fb_mulI (by omega) (by omega)
  refine ⟨e1, ?_, ?_⟩
  · rw [e1]; exact m0
  · rw [e1]; exact m1
theorem within_sim (hC : CR N words unsures slips throne said kind parts pn wt tw uw uo r told) (hS : StR N parts pn W o Q) (hI : CI N unit kind parts pn wt ws steps below above) (hR : ROk r) (hW : ∀ k : Nat, k < N → kind k = 0 → 0 ≤ (W k).toInt ∧ (W k).toInt ≤ 99) {un : Int32} (hun : 1 ≤ un.toInt ∧ un.toInt ≤ 1296) {t : Nat} (hth : throne = nI t) (hth6 : r 6 = nI t) (ht : t < N) {p0 p1 : Int32} (h0 : 0 ≤ p0.toInt) (h1 : p0.toInt < p1.toInt) (h2 : p1.toInt ≤ 99) (hw cp hr cr : Nat → Int32) : ∃ (v : Int32) (b c : Nat) (bits : Int32) (hw' cp' hr' cr' : Nat → Int32), PX2_hearWithin hw cp (nI N) throne un kind parts pn wt ws W o p0 p1 = (v, nI b, bits, nI c, hw', cp') ∧ PX7_hearBy r told un hr cr Q (p0 * un) (p1 * un) = (v, nI b, nI c, hr', cr') ∧ (0 ≤ v.toInt ∧ v.toInt ≤ 99 * un.toInt) ∧ b + c ≤ 349 ∧ HS b c bits hw' cp' hr' cr' := by
  obtain ⟨-, a1, a2⟩ := m_in (p := p0) h0 (by omega) hun
  obtain ⟨-, b1, b2⟩ := m_in (p := p1) (by omega) h2 hun
  obtain ⟨v, b, c, bits, hw', cp', hr', cr', e6, e7, hv, hb, hh⟩ := thr_sim hC hS hI hR hW hun hth hth6 ht (Or.inl ⟨rfl, a1, a2⟩) (Or.inl ⟨rfl, b1, b2⟩) hw cp hr cr
  refine ⟨v, b, c, bits, hw', cp', hr', cr', ?_, e7, hv, hb, hh⟩
  rw [PX2_hearWithin_eq, PX2_begin_eq, un3_eq rfl]
  simp only [lt_ap]
  rw [un6_id]
  exact e6
theorem skloop (hC : CR N words unsures slips throne said kind parts pn wt tw uw uo r told) (hS : StR N parts pn W o Q) (hI : CI N unit kind parts pn wt ws steps below above) (hR : ROk r) {k q d : Nat} {un mu6 mu7 : Int32} (hk : k < N) (hp : parts k = nI q) (hD : ND k q kind pn wt ws steps below) (h0 : ¬ kind k = 0) {b0 c0 : Nat} (hbc : b0 + c0 + wgt r k ≤ 349) (hF : ∀ i j : Nat, i < q → j < 2 ^ 31 → Q (4 * k + i) = nI j → ∀ (b c : Nat) (bits : Int32) (hw cp hr cr : Nat → Int32), HS b c bits hw cp hr cr → b + c + wgt r j ≤ 349 → HOut (wgt r j) 1 b c (F6 (nI N) un kind parts pn wt ws W o (nI b) bits (nI c) hw cp (nI j) mu6 (nI (d + 1))) (F7 r told Q un (nI b) (nI c) hr cr (nI j) mu7)) : ∀ (m i f6 f7 b c : Nat) (bits : Int32) (hw cp hr cr : Nat → Int32), q - i = m → i ≤ q → m < f6 → m < f7 → HS b c bits hw cp hr cr → b + c ≤ b0 + c0 + rsum r Q k i → HOut (wgt r k) 1 b0 c0 (HX2_isSoMuch_0 F6 (nI N) un kind parts pn wt ws W o (nI k) mu6 (nI d) f6 (nI i) (nI b) bits (nI c) hw cp) (HX7_isSoMuch_0 F7 r told Q un (nI k) mu7 f7 (nI i) (nI b) (nI c) hr cr) := by
  obtain ⟨hN0, hN, hr1⟩ := hC.N
  have hq := hD.1
  have hm := many_q hC hk hp
  obtain ⟨hgap, hsum⟩ := rs_at hC hS hI hR hk hp hq h0
  intro m
  induction m with
  | zero =>
    intro i f6 f7 b c bits hw cp hr cr hd hi h6 h7 hHS hbs
    obtain ⟨f6, rfl⟩ : ∃ g, f6 = g + 1 := ⟨f6 - 1, by omega⟩
    obtain ⟨f7, rfl⟩ : ∃ g, f7 = g + 1 := ⟨f7 - 1, by omega⟩
    obtain rfl : i = q := by omega
    have hg := hgap i (Nat.le_refl _)
    refine ⟨0, b, c, bits, hw, cp, hr, cr, ?_, ?_, ⟨by decide, by decide⟩, by omega, hHS⟩
    · rw [HX2_isSoMuch_0_eq, lt_ap, nI_clamp (show k < 2 ^ 31 by omega), hp, if_pos (nI_le (Nat.le_refl _) (by omega))]
    · rw [HX7_isSoMuch_0_eq]
      simp only [lt_ap]
      rw [show (27 : Int32) + nI k = nI (27 + k) from nI_add 27 k, nI_clamp (show 27 + k < 2 ^ 31 by omega), hm, if_pos (nI_le (Nat.le_refl _) (by omega))]
  | succ m ih =>
    intro i f6 f7 b c bits hw cp hr cr hd hi h6 h7 hHS hbs
    obtain ⟨f6, rfl⟩ : ∃ g, f6 = g + 1 := ⟨f6 - 1, by omega⟩
    obtain ⟨f7, rfl⟩ : ∃ g, f7 = g + 1 := ⟨f7 - 1, by omega⟩
    have hiq : i < q := by omega
    obtain ⟨j, j1, -, j2, j3, -, -⟩ := hp_at hC hS hk hp hD hiq
    have hs1 := hsum i j (by omega) j3
    have hg1' := hgap (i + 1) (by omega)
    obtain ⟨v, b', c', bits', hw', cp', hr', cr', e6, e7, hv, hb', hH'⟩ := hF i j hiq (by omega) j3 b c bits hw cp hr cr hHS (by omega)
    rw [HX2_isSoMuch_0_eq, HX7_isSoMuch_0_eq]
    simp only [lt_ap]
    rw [nI_clamp (show k < 2 ^ 31 by omega), hp, if_neg (show ¬ nI q ≤ nI i by rw [nI_leI (by omega) (by omega)]; omega), j2, nI_1 d, un6_eq e6, show (27 : Int32) + nI k = nI (27 + k) from nI_add 27 k, nI_clamp (show 27 + k < 2 ^ 31 by omega), hm, if_neg (show ¬ nI q ≤ nI i by rw [nI_leI (by omega) (by omega)]; omega), nI_m4' (by omega), nI_add, nI_clamp (show 4 * k + i < 2 ^ 31 by omega), j3, un5_eq e7, nI_o1]
    by_cases y : v = 1
    · rw [if_pos y, if_pos y]
      exact ⟨1, b', c', bits', hw', cp', hr', cr', rfl, rfl, ⟨by decide, by decide⟩, by omega, hH'⟩
    · rw [if_neg y, if_neg y]
      exact ih (i + 1) f6 f7 b' c' bits' hw' cp' hr' cr' (by omega) (by omega) (by omega) (by omega) hH' (by omega)
theorem sqloop (hC : CR N words unsures slips throne said kind parts pn wt tw uw uo r told) (hS : StR N parts pn W o Q) (hI : CI N unit kind parts pn wt ws steps below above) (hR : ROk r) {k q d : Nat} {un mu6 mu7 : Int32} (hk : k < N) (hp : parts k = nI q) (hD : ND k q kind pn wt ws steps below) (h0 : ¬ kind k = 0) {b0 c0 : Nat} (hbc : b0 + c0 + wgt r k ≤ 349) (hF : ∀ i j : Nat, i < q → j < 2 ^ 31 → Q (4 * k + i) = nI j → ∀ (b c : Nat) (bits : Int32) (hw cp hr cr : Nat → Int32), HS b c bits hw cp hr cr → b + c + wgt r j ≤ 349 → HOut (wgt r j) 1 b c (F6 (nI N) un kind parts pn wt ws W o (nI b) bits (nI c) hw cp (nI j) mu6 (nI (d + 1))) (F7 r told Q un (nI b) (nI c) hr cr (nI j) mu7)) : ∀ (m i f6 f7 b c : Nat) (bits : Int32) (hw cp hr cr : Nat → Int32), q - i = m → i ≤ q → m < f6 → m < f7 → HS b c bits hw cp hr cr → b + c ≤ b0 + c0 + rsum r Q k i → HOut (wgt r k) 1 b0 c0 (HX2_isSoMuch_1 F6 (nI N) un kind parts pn wt ws W o (nI k) mu6 (nI d) f6 (nI i) (nI b) bits (nI c) hw cp) (HX7_isSoMuch_1 F7 r told Q un (nI k) mu7 f7 (nI i) (nI b) (nI c) hr cr) := by
  obtain ⟨hN0, hN, hr1⟩ := hC.N
  have hq := hD.1
  have hm := many_q hC hk hp
  obtain ⟨hgap, hsum⟩ := rs_at hC hS hI hR hk hp hq h0
  intro m
  induction m with
  | zero =>
    intro i f6 f7 b c bits hw cp hr cr hd hi h6 h7 hHS hbs
    obtain ⟨f6, rfl⟩ : ∃ g, f6 = g + 1 := ⟨f6 - 1, by omega⟩
    obtain ⟨f7, rfl⟩ : ∃ g, f7 = g + 1 := ⟨f7 - 1, by omega⟩
    obtain rfl : i = q := by omega
    have hg := hgap i (Nat.le_refl _)
    refine ⟨1, b, c, bits, hw, cp, hr, cr, ?_, ?_, ⟨by decide, by decide⟩, by omega, hHS⟩
    · rw [HX2_isSoMuch_1_eq, lt_ap, nI_clamp (show k < 2 ^ 31 by omega), hp, if_pos (nI_le (Nat.le_refl _) (by omega))]
    · rw [HX7_isSoMuch_1_eq]
      simp only [lt_ap]
      rw [show (27 : Int32) + nI k = nI (27 + k) from nI_add 27 k, nI_clamp (show 27 + k < 2 ^ 31 by omega), hm, if_pos (nI_le (Nat.le_refl _) (by omega))]
  | succ m ih =>
    intro i f6 f7 b c bits hw cp hr cr hd hi h6 h7 hHS hbs
    obtain ⟨f6, rfl⟩ : ∃ g, f6 = g + 1 := ⟨f6 - 1, by omega⟩
    obtain ⟨f7, rfl⟩ : ∃ g, f7 = g + 1 := ⟨f7 - 1, by omega⟩
    have hiq : i < q := by omega
    obtain ⟨j, j1, -, j2, j3, -, -⟩ := hp_at hC hS hk hp hD hiq
    have hs1 := hsum i j (by omega) j3
    have hg1' := hgap (i + 1) (by omega)
    obtain ⟨v, b', c', bits', hw', cp', hr', cr', e6, e7, hv, hb', hH'⟩ := hF i j hiq (by omega) j3 b c bits hw cp hr cr hHS (by omega)
    rw [HX2_isSoMuch_1_eq, HX7_isSoMuch_1_eq]
    simp only [lt_ap]
    rw [nI_clamp (show k < 2 ^ 31 by omega), hp, if_neg (show ¬ nI q ≤ nI i by rw [nI_leI (by omega) (by omega)]; omega), j2, nI_1 d, un6_eq e6, show (27 : Int32) + nI k = nI (27 + k) from nI_add 27 k, nI_clamp (show 27 + k < 2 ^ 31 by omega), hm, if_neg (show ¬ nI q ≤ nI i by rw [nI_leI (by omega) (by omega)]; omega), nI_m4' (by omega), nI_add, nI_clamp (show 4 * k + i < 2 ^ 31 by omega), j3, un5_eq e7, nI_o1]
    by_cases y : v = 0
    · rw [if_pos y, if_pos y]
      exact ⟨0, b', c', bits', hw', cp', hr', cr', rfl, rfl, ⟨by decide, by decide⟩, by omega, hH'⟩
    · rw [if_neg y, if_neg y]
      exact ih (i + 1) f6 f7 b' c' bits' hw' cp' hr' cr' (by omega) (by omega) (by omega) (by omega) hH' (by omega)
theorem so_sim (hC : CR N words unsures slips throne said kind parts pn wt tw uw uo r told) (hS : StR N parts pn W o Q) (hI : CI N unit kind parts pn wt ws steps below above) (hR : ROk r) (hW : ∀ k : Nat, k < N → kind k = 0 → 0 ≤ (W k).toInt ∧ (W k).toInt ≤ 99) {un : Int32} (hun : 1 ≤ un.toInt ∧ un.toInt ≤ 1296) {mu : Int32} (k : Nat) : ∀ (n6 n7 d b c : Nat) (bits : Int32) (hw cp hr cr : Nat → Int32), k < N → k < n7 → hgt r k < n6 → d + hgt r k ≤ 12 → HS b c bits hw cp hr cr → b + c + wgt r k ≤ 349 → HOut (wgt r k) 1 b c (PX2_isSoMuch n6 (nI N) un kind parts pn wt ws W o (nI b) bits (nI c) hw cp (nI k) (mu * un) (nI d)) (PX7_isSoMuch n7 r told Q un (nI b) (nI c) hr cr (nI k) mu) := by
  obtain ⟨hN0, hN, hr1⟩ := hC.N
  induction k using Nat.strongRecOn with
  | _ k ih =>
    intro n6 n7 d b c bits hw cp hr cr hk hn7 hn6 hd hHS hbc
    obtain ⟨n6, rfl⟩ : ∃ g, n6 = g + 1 := ⟨n6 - 1, by omega⟩
    obtain ⟨n7, rfl⟩ : ∃ g, n7 = g + 1 := ⟨n7 - 1, by omega⟩
    obtain ⟨q, hp, hD⟩ := hI.2.1 k hk
    have hq := hD.1
    have hm := many_q hC hk hp
    have hkd := (hC.k hk).1
    have hin : 0 ≤ (nI k).toInt ∧ (nI k).toInt < (N : Int) := by rw [nI_toInt (by omega)]; omega
    have hl : ¬ kind k = 1 → ¬ kind k = 2 → ∃ (x : Int32) (b' c' : Nat) (bits' : Int32) (hw' cp' hr' cr' : Nat → Int32), PX2_listen (n6 + 1) (nI N) un kind parts pn wt ws W o (nI b) bits (nI c) hw cp (nI k) (-1) ((100 : Int32) * un) (nI d) = (x, nI b', bits', nI c', hw', cp') ∧ PX7_hear 18 r told un Q (nI b) (nI c) hr cr (nI k) (-100000000) 100000000 = (x, nI b', nI c', hr', cr') ∧ b' + c' ≤ b + c + wgt r k ∧ HS b' c' bits' hw' cp' hr' cr' := fun _ _ => by
      obtain ⟨x, b', c', bits', hw', cp', hr', cr', e6, e7, -, hb', hH'⟩ := hear_sim hC hS hI hR hW hun k (n6 + 1) 18 d b c bits (-1) (-100000000) ((100 : Int32) * un) 100000000 hw cp hr cr hk (by omega) hn6 hd lo_free (hi_free hun) hHS hbc
      exact ⟨x, b', c', bits', hw', cp', hr', cr', e6, e7, hb', hH'⟩
    have hF : ¬ kind k = 0 → ∀ i j : Nat, i < q → j < 2 ^ 31 → Q (4 * k + i) = nI j → ∀ (b c : Nat) (bits : Int32) (hw cp hr cr : Nat → Int32), HS b c bits hw cp hr cr → b + c + wgt r j ≤ 349 → HOut (wgt r j) 1 b c (PX2_isSoMuch n6 (nI N) un kind parts pn wt ws W o (nI b) bits (nI c) hw cp (nI j) (mu * un) (nI (d + 1))) (PX7_isSoMuch n7 r told Q un (nI b) (nI c) hr cr (nI j) mu) := fun h0 i j hi hjl hj b c bits hw cp hr cr y3 y4 => by
        have h0' : ¬ (r (9 + k)).toInt = 0 := fun e => h0 (by rw [hkd, fz_eq, kc_0]; exact e)
        obtain ⟨j', j1, -, -, j2, -⟩ := hp_at hC hS hk hp hD hi
        obtain rfl : j' = j := (nI_eq (by omega) hjl).mp (j2.symm.trans hj)
        have hl := hgt_lt (r := r) h0' j1
        exact ih j' j1 n6 n7 (d + 1) b c bits hw cp hr cr (by omega) (by omega) (by omega) (by omega) y3 y4
    rw [PX2_isSoMuch_eq, PX7_isSoMuch_eq]
    simp only [lt_ap]
    rw [if_neg (show ¬ (12 : Int32) < nI d by rw [show (12 : Int32) = nI 12 by decide, nI_ltI (by omega) (by omega)]; omega), hn_eq hN, if_pos hin, if_pos (show (1 : Int32) = 1 from rfl), nI_clamp (show k < 2 ^ 31 by omega), show (9 : Int32) + nI k = nI (9 + k) from nI_add 9 k, nI_clamp (show 9 + k < 2 ^ 31 by omega), ← hkd, PX2_aboveAll_eq, lt_ap]
    rcases kd_of hC hR hk with h | h | h | h
    · obtain ⟨x, b', c', bits', hw', cp', hr', cr', e6, e7, hb', hH'⟩ := hl (by rw [h]; decide) (by rw [h]; decide)
      rw [if_pos h, if_neg (show ¬ kind k = 1 by rw [h]; decide), if_neg (show ¬ kind k = 2 by rw [h]; decide), un6_eq e6, un5_eq e7]
      by_cases y : x < mu * un
      · rw [if_pos y, if_pos y]
        exact ⟨0, b', c', bits', hw', cp', hr', cr', rfl, rfl, ⟨by decide, by decide⟩, hb', hH'⟩
      · rw [if_neg y, if_neg y]
        exact ⟨1, b', c', bits', hw', cp', hr', cr', rfl, rfl, ⟨by decide, by decide⟩, hb', hH'⟩
    · have h0 : ¬ kind k = 0 := by rw [h]; decide
      rw [if_neg h0, if_neg (show ¬ kind k = 3 by rw [h]; decide), if_pos h, if_pos h, if_pos h, hm]
      have e := skloop hC hS hI hR hk hp hD h0 hbc (hF h0) q 0 (((4 - (0 : Int32).toInt).toNat) + 1) ((((nI q).toInt - (0 : Int32).toInt).toNat) + 1) b c bits hw cp hr cr rfl (by omega) (by rw [kc_0]; omega) (by rw [kc_0, nI_toInt (by omega)]; omega) hHS (by have := rsum_zero r Q k; omega)
      rw [nI_0] at e
      exact e
    · have h0 : ¬ kind k = 0 := by rw [h]; decide
      rw [if_neg h0, if_neg (show ¬ kind k = 3 by rw [h]; decide), if_neg (show ¬ kind k = 1 by rw [h]; decide), if_neg (show ¬ kind k = 1 by rw [h]; decide), if_pos h, hm]
      have e := sqloop hC hS hI hR hk hp hD h0 hbc (hF h0) q 0 (((4 - (0 : Int32).toInt).toNat) + 1) ((((nI q).toInt - (0 : Int32).toInt).toNat) + 1) b c bits hw cp hr cr rfl (by omega) (by rw [kc_0]; omega) (by rw [kc_0, nI_toInt (by omega)]; omega) hHS (by have := rsum_zero r Q k; omega)
      rw [nI_0] at e
      first
        | exact e
        | (rw [if_neg (show ¬ kind k = 1 by rw [h]; decide)]; exact e)
    · obtain ⟨x, b', c', bits', hw', cp', hr', cr', e6, e7, hb', hH'⟩ := hl (by rw [h]; decide) (by rw [h]; decide)
      rw [if_neg (show ¬ kind k = 0 by rw [h]; decide), if_pos h, if_neg (show ¬ kind k = 1 by rw [h]; decide), if_neg (show ¬ kind k = 2 by rw [h]; decide), un6_eq e6, un5_eq e7]
      by_cases y : x < mu * un
      · rw [if_pos y, if_pos y]
        exact ⟨0, b', c', bits', hw', cp', hr', cr', rfl, rfl, ⟨by decide, by decide⟩, hb', hH'⟩
      · rw [if_neg y, if_neg y]
        exact ⟨1, b', c', bits', hw', cp', hr', cr', rfl, rfl, ⟨by decide, by decide⟩, hb', hH'⟩
theorem asked_sim (hC : CR N words unsures slips throne said kind parts pn wt tw uw uo r told) (hS : StR N parts pn W o Q) (hI : CI N unit kind parts pn wt ws steps below above) (hR : ROk r) (hW : ∀ k : Nat, k < N → kind k = 0 → 0 ≤ (W k).toInt ∧ (W k).toInt ≤ 99) {un : Int32} (hun : 1 ≤ un.toInt ∧ un.toInt ≤ 1296) {t : Nat} (hth : throne = nI t) (hth6 : r 6 = nI t) (ht : t < N) (p0 : Int32) (hw cp hr cr : Nat → Int32) : ∃ (v : Int32) (b c : Nat) (bits : Int32) (hw' cp' hr' cr' : Nat → Int32), PX2_asked hw cp (nI N) throne un kind parts pn wt ws W o p0 = (v, nI b, bits, nI c, hw', cp') ∧ PX7_askFor r told Q un hr cr 0 0 p0 = (v, nI b, nI c, hr', cr') := by
  obtain ⟨hN0, hN, hr1⟩ := hC.N
  have h8 := hgt_8 hR (k := t) (by rw [hr1, nI_toInt (by omega)]; omega)
  have hw9 := (wgt_in r t).2
  obtain ⟨v, b, c, bits, hw', cp', hr', cr', e6, e7, hv, hb, hh⟩ := so_sim hC hS hI hR hW hun (mu := p0) t 14 18 0 0 0 0 hw cp hr cr ht (by omega) (by omega) (by omega) hs_0 (by omega)
  rw [nI_0] at e6 e7
  refine ⟨v, b, c, bits, hw', cp', hr', cr', ?_, ?_⟩
  · rw [PX2_asked_eq, PX2_begin_eq, un3_eq rfl]
    simp only [lt_ap]
    rw [un6_id, hth]
    exact e6
  · rw [PX7_askFor_eq, lt_ap, six_cl, hth6, un5_id]
    exact e7
theorem hv_loop (hC : CR N words unsures slips throne said kind parts pn wt tw uw uo r told) (hS : StR N parts pn W o Q) (hI : CI N unit kind parts pn wt ws steps below above) (hR : ROk r) (hW : ∀ k : Nat, k < N → kind k = 0 → 0 ≤ (W k).toInt ∧ (W k).toInt ≤ 99) {un : Int32} (hun : 1 ≤ un.toInt ∧ un.toInt ≤ 1296) {t : Nat} (hth : throne = nI t) (hth6 : r 6 = nI t) (ht : t < N) : ∀ (m lo hi i f6 f7 : Nat) (b6 bits c6 b7 c7 acc : Int32) (hw cp hr cr : Nat → Int32), hi - lo ≤ m → lo ≤ hi → hi ≤ 99 → i + (hi - lo) ≤ 99 → m < f6 → m < f7 → ∃ (I : Nat) (A b6' bits' c6' b7' c7' : Int32) (hw' cp' hr' cr' : Nat → Int32), HX2_askByHalves_0 (nI N) throne un kind parts pn wt ws W o f6 (nI i) (nI hi) (nI lo) b6 bits c6 acc (nI i) hw cp = (b6', bits', c6', A, nI I, hw', cp') ∧ HX7_halve_0 r told Q un f7 (nI lo) (nI hi) (nI i) b7 c7 acc hr cr = (nI I, b7', c7', A, hr', cr') := by
  intro m
  induction m with
  | zero =>
    intro lo hi i f6 f7 b6 bits c6 b7 c7 acc hw cp hr cr hd hl hh hi99 h6 h7
    obtain ⟨f6, rfl⟩ : ∃ g, f6 = g + 1 := ⟨f6 - 1, by omega⟩
    obtain ⟨f7, rfl⟩ : ∃ g, f7 = g + 1 := ⟨f7 - 1, by omega⟩
    refine ⟨i, acc, b6, bits, c6, b7, c7, hw, cp, hr, cr, ?_, ?_⟩
    · rw [HX2_askByHalves_0_eq]
      by_cases y : (99 : Int32) ≤ nI i
      · rw [if_pos y]
      · rw [if_neg y, if_pos (nI_le (by omega) (by omega))]
    · rw [HX7_halve_0_eq, if_pos (nI_le (by omega) (by omega))]
  | succ m ih =>
    intro lo hi i f6 f7 b6 bits c6 b7 c7 acc hw cp hr cr hd hl hh hi99 h6 h7
    obtain ⟨f6, rfl⟩ : ∃ g, f6 = g + 1 := ⟨f6 - 1, by omega⟩
    obtain ⟨f7, rfl⟩ : ∃ g, f7 = g + 1 := ⟨f7 - 1, by omega⟩
    by_cases z : hi ≤ lo
    · refine ⟨i, acc, b6, bits, c6, b7, c7, hw, cp, hr, cr, ?_, ?_⟩
      · rw [HX2_askByHalves_0_eq]
        by_cases y : (99 : Int32) ≤ nI i
        · rw [if_pos y]
        · rw [if_neg y, if_pos (nI_le z (by omega))]
      · rw [HX7_halve_0_eq, if_pos (nI_le z (by omega))]
    · obtain ⟨v, b, c, bits1, hw1, cp1, hr1, cr1, e6, e7⟩ := asked_sim hC hS hI hR hW hun hth hth6 ht (nI ((lo + hi + 1) / 2)) hw cp hr cr
      rw [HX2_askByHalves_0_eq, HX7_halve_0_eq, if_neg (show ¬ (99 : Int32) ≤ nI i by rw [show (99 : Int32) = nI 99 by decide, nI_leI (by omega) (by omega)]; omega), if_neg (show ¬ nI hi ≤ nI lo by rw [nI_leI (by omega) (by omega)]; omega), if_neg (show ¬ nI hi ≤ nI lo by rw [nI_leI (by omega) (by omega)]; omega)]
      simp only [lt_ap]
      rw [nI_add, nI_1, nI_half _ (by omega), un6_eq e6, un5_eq e7, nI_m1 (show 0 < (lo + hi + 1) / 2 by omega), nI_o1, nI_1]
      by_cases y : v = 0
      · rw [if_pos y, if_pos y]
        exact ih lo ((lo + hi + 1) / 2 - 1) (i + 1) f6 f7 _ _ _ _ _ _ _ _ _ _ (by omega) (by omega) (by omega) (by omega) (by omega) (by omega)
      · rw [if_neg y, if_neg y]
        exact ih ((lo + hi + 1) / 2) hi (i + 1) f6 f7 _ _ _ _ _ _ _ _ _ _ (by omega) (by omega) (by omega) (by omega) (by omega) (by omega)
end WQ
end G3
end
