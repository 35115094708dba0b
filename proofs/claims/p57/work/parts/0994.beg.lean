/-! lines begin -/
section BG
variable {T U : Nat → Int32} {n lo : Nat} {keys : Nat → Int64} {kd fr to : Int32} {x : Int64} {key wh at7 en tk w2 ns : Int32} {L : Nat → Int32}
theorem pass0 {fd : Int32} (hf : ¬ fd = 0) : PX7_pass U (nI n) at7 en tk w2 ns L fd = (at7, en, tk, w2, ns, L) := by rw [PX7_pass_eq, if_neg hf]
theorem pass1 {at8 en8 tk8 w8 ns8 : Int32} {L8 : Nat → Int32} (h : PX7_next U (nI n) en L = (at8, en8, tk8, w8, ns8, L8)) : PX7_pass U (nI n) at7 en tk w2 ns L 0 = (at8, en8, tk8, w8, ns8, L8) := by rw [PX7_pass_eq, if_pos rfl, un6_eq h]
theorem wr1 {fd : Int32} (hf : ¬ fd = 0) (fa pl q a : Int32) : PX7_wrong fa pl fd q a = (fa, pl, fd) := by rw [PX7_wrong_eq, if_neg hf]
theorem five_cl : (5 : Int32).toNatClampNeg = 5 := by decide
theorem isW_f {sN : Nat} {sF : Nat → Int32} {fd : Int32} (hf : ¬ fd = 0) : PX7_isWord tk ns L fd sN sF = 0 := by rw [PX7_isWord_eq, if_neg hf]
theorem beg_f {sN : Nat} {sF : Nat → Int32} {fd fa pl p0 : Int32} {fsh : Nat → Int32} (hf : ¬ fd = 0) : PX7_begins U (nI n) at7 en tk w2 ns fa pl L fd fsh p0 sN sF = (0, at7, en, tk, w2, ns, fa, pl, fd, L) := by
  rw [PX7_begins_eq, isW_f hf]
  rfl
theorem num_f {fd fa pl lw hg : Int32} (hf : ¬ fd = 0) : PX7_number U (nI n) at7 en tk w2 ns fa pl L fd lw hg = (lw, at7, en, tk, w2, ns, fa, pl, fd, L) := by rw [PX7_number_eq, if_neg hf]
theorem nh_f {fd fa pl : Int32} {fsh : Nat → Int32} (hf : ¬ fd = 0) : PX7_nodeHere at7 tk ns fa pl L fd fsh = (0, fa, pl, fd) := by rw [PX7_nodeHere_eq, if_neg hf]
theorem nn_f {fd fa pl fs : Int32} {fsh fsr : Nat → Int32} (hf : ¬ fd = 0) : PX7_newName U (nI n) at7 en tk w2 ns fa pl L fd fsh fsr fs = (at7, en, tk, w2, ns, fa, pl, fd, fs, L, fsr) := by rw [PX7_newName_eq, if_neg hf]
theorem beg_0 (hK : KwOk keys) {a b : Nat} (hC : TokC keys a b kd key wh tk w2 ns x L) {fa pl p0 : Int32} {fsh : Nat → Int32} : (¬ key = nI 0 → PX7_begins U (nI n) at7 en tk w2 ns fa pl L 0 fsh p0 4 (fun j => ([119, 111, 114, 100] : List Int32).getD j 0) = (0, at7, en, tk, w2, ns, fa, pl, 0, L)) ∧ (key = nI 0 → (p0 = 0 → PX7_begins U (nI n) at7 en tk w2 ns fa pl L 0 fsh p0 4 (fun j => ([119, 111, 114, 100] : List Int32).getD j 0) = (1, at7, en, tk, w2, ns, 5, at7, 1, L)) ∧ (¬ p0 = 0 → fsh 5 = 0 → PX7_begins U (nI n) at7 en tk w2 ns fa pl L 0 fsh p0 4 (fun j => ([119, 111, 114, 100] : List Int32).getD j 0) = (1, at7, en, tk, w2, ns, 6, at7, 1, L)) ∧ (¬ p0 = 0 → ¬ fsh 5 = 0 → ∀ {at8 en8 tk8 w8 ns8 : Int32} {L8 : Nat → Int32}, PX7_next U (nI n) en L = (at8, en8, tk8, w8, ns8, L8) → PX7_begins U (nI n) at7 en tk w2 ns fa pl L 0 fsh p0 4 (fun j => ([119, 111, 114, 100] : List Int32).getD j 0) = (1, at8, en8, tk8, w8, ns8, fa, pl, 0, L8))) := by
  rw [PX7_begins_eq, isW_0 hK hC]
  dsimp only [lt_]
  rw [five_cl]
  refine ⟨fun h => by rw [if_neg h, if_pos rfl], fun h => ?_⟩
  rw [if_pos h, if_neg (show ¬ (1 : Int32) = 0 by decide)]
  refine ⟨fun h0 => ?_, fun h0 h5 => ?_, fun h0 h5 at8 en8 tk8 w8 ns8 L8 hx => ?_⟩
  · rw [if_pos h0, wr0, un3_eq rfl]
    by_cases h5 : fsh 5 = 0
    · rw [if_pos h5, wr1 (by decide), un3_eq rfl, pass0 (by decide)]; rfl
    · rw [if_neg h5, pass0 (by decide)]; rfl
  · rw [if_neg h0, if_pos h5, wr0, un3_eq rfl, pass0 (by decide)]; rfl
  · rw [if_neg h0, if_neg h5, pass1 hx]; rfl
theorem beg_1 (hK : KwOk keys) {a b : Nat} (hC : TokC keys a b kd key wh tk w2 ns x L) {fa pl p0 : Int32} {fsh : Nat → Int32} : (¬ key = nI 1 → PX7_begins U (nI n) at7 en tk w2 ns fa pl L 0 fsh p0 4 (fun j => ([107, 105, 110, 103] : List Int32).getD j 0) = (0, at7, en, tk, w2, ns, fa, pl, 0, L)) ∧ (key = nI 1 → (p0 = 0 → PX7_begins U (nI n) at7 en tk w2 ns fa pl L 0 fsh p0 4 (fun j => ([107, 105, 110, 103] : List Int32).getD j 0) = (1, at7, en, tk, w2, ns, 5, at7, 1, L)) ∧ (¬ p0 = 0 → fsh 5 = 0 → PX7_begins U (nI n) at7 en tk w2 ns fa pl L 0 fsh p0 4 (fun j => ([107, 105, 110, 103] : List Int32).getD j 0) = (1, at7, en, tk, w2, ns, 6, at7, 1, L)) ∧ (¬ p0 = 0 → ¬ fsh 5 = 0 → ∀ {at8 en8 tk8 w8 ns8 : Int32} {L8 : Nat → Int32}, PX7_next U (nI n) en L = (at8, en8, tk8, w8, ns8, L8) → PX7_begins U (nI n) at7 en tk w2 ns fa pl L 0 fsh p0 4 (fun j => ([107, 105, 110, 103] : List Int32).getD j 0) = (1, at8, en8, tk8, w8, ns8, fa, pl, 0, L8))) := by
  rw [PX7_begins_eq, isW_1 hK hC]
  dsimp only [lt_]
  rw [five_cl]
  refine ⟨fun h => by rw [if_neg h, if_pos rfl], fun h => ?_⟩
  rw [if_pos h, if_neg (show ¬ (1 : Int32) = 0 by decide)]
  refine ⟨fun h0 => ?_, fun h0 h5 => ?_, fun h0 h5 at8 en8 tk8 w8 ns8 L8 hx => ?_⟩
  · rw [if_pos h0, wr0, un3_eq rfl]
    by_cases h5 : fsh 5 = 0
    · rw [if_pos h5, wr1 (by decide), un3_eq rfl, pass0 (by decide)]; rfl
    · rw [if_neg h5, pass0 (by decide)]; rfl
  · rw [if_neg h0, if_pos h5, wr0, un3_eq rfl, pass0 (by decide)]; rfl
  · rw [if_neg h0, if_neg h5, pass1 hx]; rfl
theorem beg_2 (hK : KwOk keys) {a b : Nat} (hC : TokC keys a b kd key wh tk w2 ns x L) {fa pl p0 : Int32} {fsh : Nat → Int32} : (¬ key = nI 2 → PX7_begins U (nI n) at7 en tk w2 ns fa pl L 0 fsh p0 5 (fun j => ([113, 117, 101, 101, 110] : List Int32).getD j 0) = (0, at7, en, tk, w2, ns, fa, pl, 0, L)) ∧ (key = nI 2 → (p0 = 0 → PX7_begins U (nI n) at7 en tk w2 ns fa pl L 0 fsh p0 5 (fun j => ([113, 117, 101, 101, 110] : List Int32).getD j 0) = (1, at7, en, tk, w2, ns, 5, at7, 1, L)) ∧ (¬ p0 = 0 → fsh 5 = 0 → PX7_begins U (nI n) at7 en tk w2 ns fa pl L 0 fsh p0 5 (fun j => ([113, 117, 101, 101, 110] : List Int32).getD j 0) = (1, at7, en, tk, w2, ns, 6, at7, 1, L)) ∧ (¬ p0 = 0 → ¬ fsh 5 = 0 → ∀ {at8 en8 tk8 w8 ns8 : Int32} {L8 : Nat → Int32}, PX7_next U (nI n) en L = (at8, en8, tk8, w8, ns8, L8) → PX7_begins U (nI n) at7 en tk w2 ns fa pl L 0 fsh p0 5 (fun j => ([113, 117, 101, 101, 110] : List Int32).getD j 0) = (1, at8, en8, tk8, w8, ns8, fa, pl, 0, L8))) := by
  rw [PX7_begins_eq, isW_2 hK hC]
  dsimp only [lt_]
  rw [five_cl]
  refine ⟨fun h => by rw [if_neg h, if_pos rfl], fun h => ?_⟩
  rw [if_pos h, if_neg (show ¬ (1 : Int32) = 0 by decide)]
  refine ⟨fun h0 => ?_, fun h0 h5 => ?_, fun h0 h5 at8 en8 tk8 w8 ns8 L8 hx => ?_⟩
  · rw [if_pos h0, wr0, un3_eq rfl]
    by_cases h5 : fsh 5 = 0
    · rw [if_pos h5, wr1 (by decide), un3_eq rfl, pass0 (by decide)]; rfl
    · rw [if_neg h5, pass0 (by decide)]; rfl
  · rw [if_neg h0, if_pos h5, wr0, un3_eq rfl, pass0 (by decide)]; rfl
  · rw [if_neg h0, if_neg h5, pass1 hx]; rfl
theorem beg_3 (hK : KwOk keys) {a b : Nat} (hC : TokC keys a b kd key wh tk w2 ns x L) {fa pl p0 : Int32} {fsh : Nat → Int32} : (¬ key = nI 3 → PX7_begins U (nI n) at7 en tk w2 ns fa pl L 0 fsh p0 6 (fun j => ([99, 104, 97, 110, 99, 101] : List Int32).getD j 0) = (0, at7, en, tk, w2, ns, fa, pl, 0, L)) ∧ (key = nI 3 → (p0 = 0 → PX7_begins U (nI n) at7 en tk w2 ns fa pl L 0 fsh p0 6 (fun j => ([99, 104, 97, 110, 99, 101] : List Int32).getD j 0) = (1, at7, en, tk, w2, ns, 5, at7, 1, L)) ∧ (¬ p0 = 0 → fsh 5 = 0 → PX7_begins U (nI n) at7 en tk w2 ns fa pl L 0 fsh p0 6 (fun j => ([99, 104, 97, 110, 99, 101] : List Int32).getD j 0) = (1, at7, en, tk, w2, ns, 6, at7, 1, L)) ∧ (¬ p0 = 0 → ¬ fsh 5 = 0 → ∀ {at8 en8 tk8 w8 ns8 : Int32} {L8 : Nat → Int32}, PX7_next U (nI n) en L = (at8, en8, tk8, w8, ns8, L8) → PX7_begins U (nI n) at7 en tk w2 ns fa pl L 0 fsh p0 6 (fun j => ([99, 104, 97, 110, 99, 101] : List Int32).getD j 0) = (1, at8, en8, tk8, w8, ns8, fa, pl, 0, L8))) := by
  rw [PX7_begins_eq, isW_3 hK hC]
  dsimp only [lt_]
  rw [five_cl]
  refine ⟨fun h => by rw [if_neg h, if_pos rfl], fun h => ?_⟩
  rw [if_pos h, if_neg (show ¬ (1 : Int32) = 0 by decide)]
  refine ⟨fun h0 => ?_, fun h0 h5 => ?_, fun h0 h5 at8 en8 tk8 w8 ns8 L8 hx => ?_⟩
  · rw [if_pos h0, wr0, un3_eq rfl]
    by_cases h5 : fsh 5 = 0
    · rw [if_pos h5, wr1 (by decide), un3_eq rfl, pass0 (by decide)]; rfl
    · rw [if_neg h5, pass0 (by decide)]; rfl
  · rw [if_neg h0, if_pos h5, wr0, un3_eq rfl, pass0 (by decide)]; rfl
  · rw [if_neg h0, if_neg h5, pass1 hx]; rfl
theorem beg_5 (hK : KwOk keys) {a b : Nat} (hC : TokC keys a b kd key wh tk w2 ns x L) {fa pl p0 : Int32} {fsh : Nat → Int32} : (¬ key = nI 5 → PX7_begins U (nI n) at7 en tk w2 ns fa pl L 0 fsh p0 6 (fun j => ([116, 104, 114, 111, 110, 101] : List Int32).getD j 0) = (0, at7, en, tk, w2, ns, fa, pl, 0, L)) ∧ (key = nI 5 → (p0 = 0 → PX7_begins U (nI n) at7 en tk w2 ns fa pl L 0 fsh p0 6 (fun j => ([116, 104, 114, 111, 110, 101] : List Int32).getD j 0) = (1, at7, en, tk, w2, ns, 5, at7, 1, L)) ∧ (¬ p0 = 0 → fsh 5 = 0 → PX7_begins U (nI n) at7 en tk w2 ns fa pl L 0 fsh p0 6 (fun j => ([116, 104, 114, 111, 110, 101] : List Int32).getD j 0) = (1, at7, en, tk, w2, ns, 6, at7, 1, L)) ∧ (¬ p0 = 0 → ¬ fsh 5 = 0 → ∀ {at8 en8 tk8 w8 ns8 : Int32} {L8 : Nat → Int32}, PX7_next U (nI n) en L = (at8, en8, tk8, w8, ns8, L8) → PX7_begins U (nI n) at7 en tk w2 ns fa pl L 0 fsh p0 6 (fun j => ([116, 104, 114, 111, 110, 101] : List Int32).getD j 0) = (1, at8, en8, tk8, w8, ns8, fa, pl, 0, L8))) := by
  rw [PX7_begins_eq, isW_5 hK hC]
  dsimp only [lt_]
  rw [five_cl]
  refine ⟨fun h => by rw [if_neg h, if_pos rfl], fun h => ?_⟩
  rw [if_pos h, if_neg (show ¬ (1 : Int32) = 0 by decide)]
  refine ⟨fun h0 => ?_, fun h0 h5 => ?_, fun h0 h5 at8 en8 tk8 w8 ns8 L8 hx => ?_⟩
  · rw [if_pos h0, wr0, un3_eq rfl]
    by_cases h5 : fsh 5 = 0
    · rw [if_pos h5, wr1 (by decide), un3_eq rfl, pass0 (by decide)]; rfl
    · rw [if_neg h5, pass0 (by decide)]; rfl
  · rw [if_neg h0, if_pos h5, wr0, un3_eq rfl, pass0 (by decide)]; rfl
  · rw [if_neg h0, if_neg h5, pass1 hx]; rfl
theorem beg_6 (hK : KwOk keys) {a b : Nat} (hC : TokC keys a b kd key wh tk w2 ns x L) {fa pl p0 : Int32} {fsh : Nat → Int32} : (¬ key = nI 6 → PX7_begins U (nI n) at7 en tk w2 ns fa pl L 0 fsh p0 6 (fun j => ([117, 110, 115, 117, 114, 101] : List Int32).getD j 0) = (0, at7, en, tk, w2, ns, fa, pl, 0, L)) ∧ (key = nI 6 → (p0 = 0 → PX7_begins U (nI n) at7 en tk w2 ns fa pl L 0 fsh p0 6 (fun j => ([117, 110, 115, 117, 114, 101] : List Int32).getD j 0) = (1, at7, en, tk, w2, ns, 5, at7, 1, L)) ∧ (¬ p0 = 0 → fsh 5 = 0 → PX7_begins U (nI n) at7 en tk w2 ns fa pl L 0 fsh p0 6 (fun j => ([117, 110, 115, 117, 114, 101] : List Int32).getD j 0) = (1, at7, en, tk, w2, ns, 6, at7, 1, L)) ∧ (¬ p0 = 0 → ¬ fsh 5 = 0 → ∀ {at8 en8 tk8 w8 ns8 : Int32} {L8 : Nat → Int32}, PX7_next U (nI n) en L = (at8, en8, tk8, w8, ns8, L8) → PX7_begins U (nI n) at7 en tk w2 ns fa pl L 0 fsh p0 6 (fun j => ([117, 110, 115, 117, 114, 101] : List Int32).getD j 0) = (1, at8, en8, tk8, w8, ns8, fa, pl, 0, L8))) := by
  rw [PX7_begins_eq, isW_6 hK hC]
  dsimp only [lt_]
  rw [five_cl]
  refine ⟨fun h => by rw [if_neg h, if_pos rfl], fun h => ?_⟩
  rw [if_pos h, if_neg (show ¬ (1 : Int32) = 0 by decide)]
  refine ⟨fun h0 => ?_, fun h0 h5 => ?_, fun h0 h5 at8 en8 tk8 w8 ns8 L8 hx => ?_⟩
  · rw [if_pos h0, wr0, un3_eq rfl]
    by_cases h5 : fsh 5 = 0
    · rw [if_pos h5, wr1 (by decide), un3_eq rfl, pass0 (by decide)]; rfl
    · rw [if_neg h5, pass0 (by decide)]; rfl
  · rw [if_neg h0, if_pos h5, wr0, un3_eq rfl, pass0 (by decide)]; rfl
  · rw [if_neg h0, if_neg h5, pass1 hx]; rfl
theorem beg_7 (hK : KwOk keys) {a b : Nat} (hC : TokC keys a b kd key wh tk w2 ns x L) {fa pl p0 : Int32} {fsh : Nat → Int32} : (¬ key = nI 7 → PX7_begins U (nI n) at7 en tk w2 ns fa pl L 0 fsh p0 4 (fun j => ([115, 97, 105, 100] : List Int32).getD j 0) = (0, at7, en, tk, w2, ns, fa, pl, 0, L)) ∧ (key = nI 7 → (p0 = 0 → PX7_begins U (nI n) at7 en tk w2 ns fa pl L 0 fsh p0 4 (fun j => ([115, 97, 105, 100] : List Int32).getD j 0) = (1, at7, en, tk, w2, ns, 5, at7, 1, L)) ∧ (¬ p0 = 0 → fsh 5 = 0 → PX7_begins U (nI n) at7 en tk w2 ns fa pl L 0 fsh p0 4 (fun j => ([115, 97, 105, 100] : List Int32).getD j 0) = (1, at7, en, tk, w2, ns, 6, at7, 1, L)) ∧ (¬ p0 = 0 → ¬ fsh 5 = 0 → ∀ {at8 en8 tk8 w8 ns8 : Int32} {L8 : Nat → Int32}, PX7_next U (nI n) en L = (at8, en8, tk8, w8, ns8, L8) → PX7_begins U (nI n) at7 en tk w2 ns fa pl L 0 fsh p0 4 (fun j => ([115, 97, 105, 100] : List Int32).getD j 0) = (1, at8, en8, tk8, w8, ns8, fa, pl, 0, L8))) := by
  rw [PX7_begins_eq, isW_7 hK hC]
  dsimp only [lt_]
  rw [five_cl]
  refine ⟨fun h => by rw [if_neg h, if_pos rfl], fun h => ?_⟩
  rw [if_pos h, if_neg (show ¬ (1 : Int32) = 0 by decide)]
  refine ⟨fun h0 => ?_, fun h0 h5 => ?_, fun h0 h5 at8 en8 tk8 w8 ns8 L8 hx => ?_⟩
  · rw [if_pos h0, wr0, un3_eq rfl]
    by_cases h5 : fsh 5 = 0
    · rw [if_pos h5, wr1 (by decide), un3_eq rfl, pass0 (by decide)]; rfl
    · rw [if_neg h5, pass0 (by decide)]; rfl
  · rw [if_neg h0, if_pos h5, wr0, un3_eq rfl, pass0 (by decide)]; rfl
  · rw [if_neg h0, if_neg h5, pass1 hx]; rfl
theorem must_8 (hK : KwOk keys) {a b : Nat} (hC : TokC keys a b kd key wh tk w2 ns x L) {fa pl : Int32} : (¬ key = nI 8 → PX7_must U (nI n) at7 en tk w2 ns fa pl L 0 5 (fun j => ([115, 108, 105, 112, 115] : List Int32).getD j 0) = (at7, en, tk, w2, ns, 1, at7, 1, L)) ∧ (key = nI 8 → ∀ {at8 en8 tk8 w8 ns8 : Int32} {L8 : Nat → Int32}, PX7_next U (nI n) en L = (at8, en8, tk8, w8, ns8, L8) → PX7_must U (nI n) at7 en tk w2 ns fa pl L 0 5 (fun j => ([115, 108, 105, 112, 115] : List Int32).getD j 0) = (at8, en8, tk8, w8, ns8, fa, pl, 0, L8)) := by
  rw [PX7_must_eq, if_pos rfl, PX7_takesWord_eq, isW_8 hK hC]
  dsimp only [lt_]
  refine ⟨fun h => ?_, fun h at8 en8 tk8 w8 ns8 L8 hx => ?_⟩
  · rw [if_neg h, if_pos rfl, un7_eq rfl, if_pos rfl, wr0]; rfl
  · rw [if_pos h, if_neg (show ¬ (1 : Int32) = 0 by decide), un6_eq hx, un7_eq rfl, if_neg (show ¬ (1 : Int32) = 0 by decide)]
theorem must_9 (hK : KwOk keys) {a b : Nat} (hC : TokC keys a b kd key wh tk w2 ns x L) {fa pl : Int32} : (¬ key = nI 9 → PX7_must U (nI n) at7 en tk w2 ns fa pl L 0 5 (fun j => ([119, 111, 114, 116, 104] : List Int32).getD j 0) = (at7, en, tk, w2, ns, 1, at7, 1, L)) ∧ (key = nI 9 → ∀ {at8 en8 tk8 w8 ns8 : Int32} {L8 : Nat → Int32}, PX7_next U (nI n) en L = (at8, en8, tk8, w8, ns8, L8) → PX7_must U (nI n) at7 en tk w2 ns fa pl L 0 5 (fun j => ([119, 111, 114, 116, 104] : List Int32).getD j 0) = (at8, en8, tk8, w8, ns8, fa, pl, 0, L8)) := by
  rw [PX7_must_eq, if_pos rfl, PX7_takesWord_eq, isW_9 hK hC]
  dsimp only [lt_]
  refine ⟨fun h => ?_, fun h at8 en8 tk8 w8 ns8 L8 hx => ?_⟩
  · rw [if_neg h, if_pos rfl, un7_eq rfl, if_pos rfl, wr0]; rfl
  · rw [if_pos h, if_neg (show ¬ (1 : Int32) = 0 by decide), un6_eq hx, un7_eq rfl, if_neg (show ¬ (1 : Int32) = 0 by decide)]
theorem after_8 (hK : KwOk keys) (h : TS keys n lo kd fr to x key wh at7 en tk w2 ns L) (hT : TR T U n) (hn : n ≤ 900) (lw hg fn fp fa pl : Int32) :
    (∃ (kd1 fr1 to1 : Int32) (x1 : Int64) (key1 wh1 : Int32) (kd2 fr2 to2 : Int32) (x2 : Int64) (key2 wh2 at8 en8 tk8 w8 ns8 : Int32) (L8 : Nat → Int32), key = nI 8 ∧ PX3_nextToken T (nI n) to x wh keys = (kd1, fr1, to1, x1, key1, wh1) ∧ PX3_isWholeWithin fn fp kd1 fr1 wh1 lw hg = (1, fn, fp) ∧ lw.toInt ≤ wh1.toInt ∧ wh1.toInt ≤ hg.toInt ∧ PX3_nextToken T (nI n) to1 x1 wh1 keys = (kd2, fr2, to2, x2, key2, wh2) ∧ TS keys n lo kd2 fr2 to2 x2 key2 wh2 at8 en8 tk8 w8 ns8 L8 ∧ PX7_after U (nI n) at7 en tk w2 ns fa pl L 0 lw hg 5 (fun j => ([115, 108, 105, 112, 115] : List Int32).getD j 0) = (wh1, at8, en8, tk8, w8, ns8, fa, pl, 0, L8))
    ∨ (¬ key = nI 8 ∧ PX7_after U (nI n) at7 en tk w2 ns fa pl L 0 lw hg 5 (fun j => ([115, 108, 105, 112, 115] : List Int32).getD j 0) = (lw, at7, en, tk, w2, ns, 1, at7, 1, L))
    ∨ (∃ (kd1 fr1 to1 : Int32) (x1 : Int64) (key1 wh1 q z at8 en8 tk8 w8 ns8 : Int32) (L8 : Nat → Int32), key = nI 8 ∧ PX3_nextToken T (nI n) to x wh keys = (kd1, fr1, to1, x1, key1, wh1) ∧ PX3_isWholeWithin fn fp kd1 fr1 wh1 lw hg = (0, q, z) ∧ PX7_after U (nI n) at7 en tk w2 ns fa pl L 0 lw hg 5 (fun j => ([115, 108, 105, 112, 115] : List Int32).getD j 0) = (lw, at8, en8, tk8, w8, ns8, q, z, 1, L8)) := by
  obtain ⟨a, b, hC⟩ := h.tok
  rw [PX7_after_eq]
  by_cases hk : key = nI 8
  · obtain ⟨kd1, fr1, to1, x1, key1, wh1, at8, en8, tk8, w8, ns8, L8, g1, g2, g3, -⟩ := h.next hT hn x wh L
    rw [(must_8 hK hC).2 hk g2, un9_eq rfl]
    rcases num_sim g3 hT hn lw hg fn fp fa pl with ⟨b1, b2, b3, kd2, fr2, to2, x2, key2, wh2, at9, en9, tk9, w9, ns9, L9, ⟨c1, c2, c3, -⟩, c4⟩ | ⟨q, c1, c2⟩
    · left
      exact ⟨kd1, fr1, to1, x1, key1, wh1, kd2, fr2, to2, x2, key2, wh2, at9, en9, tk9, w9, ns9, L9, hk, g1, b3, b1, b2, c1, c3, by rw [c4]; rfl⟩
    · right; right
      exact ⟨kd1, fr1, to1, x1, key1, wh1, q, at8, at8, en8, tk8, w8, ns8, L8, hk, g1, c1, by rw [c2]; rfl⟩
  · right; left
    rw [(must_8 hK hC).1 hk, un9_eq rfl, num_f (by decide)]
    exact ⟨hk, rfl⟩
theorem after_9 (hK : KwOk keys) (h : TS keys n lo kd fr to x key wh at7 en tk w2 ns L) (hT : TR T U n) (hn : n ≤ 900) (lw hg fn fp fa pl : Int32) :
    (∃ (kd1 fr1 to1 : Int32) (x1 : Int64) (key1 wh1 : Int32) (kd2 fr2 to2 : Int32) (x2 : Int64) (key2 wh2 at8 en8 tk8 w8 ns8 : Int32) (L8 : Nat → Int32), key = nI 9 ∧ PX3_nextToken T (nI n) to x wh keys = (kd1, fr1, to1, x1, key1, wh1) ∧ PX3_isWholeWithin fn fp kd1 fr1 wh1 lw hg = (1, fn, fp) ∧ lw.toInt ≤ wh1.toInt ∧ wh1.toInt ≤ hg.toInt ∧ PX3_nextToken T (nI n) to1 x1 wh1 keys = (kd2, fr2, to2, x2, key2, wh2) ∧ TS keys n lo kd2 fr2 to2 x2 key2 wh2 at8 en8 tk8 w8 ns8 L8 ∧ PX7_after U (nI n) at7 en tk w2 ns fa pl L 0 lw hg 5 (fun j => ([119, 111, 114, 116, 104] : List Int32).getD j 0) = (wh1, at8, en8, tk8, w8, ns8, fa, pl, 0, L8))
    ∨ (¬ key = nI 9 ∧ PX7_after U (nI n) at7 en tk w2 ns fa pl L 0 lw hg 5 (fun j => ([119, 111, 114, 116, 104] : List Int32).getD j 0) = (lw, at7, en, tk, w2, ns, 1, at7, 1, L))
    ∨ (∃ (kd1 fr1 to1 : Int32) (x1 : Int64) (key1 wh1 q z at8 en8 tk8 w8 ns8 : Int32) (L8 : Nat → Int32), key = nI 9 ∧ PX3_nextToken T (nI n) to x wh keys = (kd1, fr1, to1, x1, key1, wh1) ∧ PX3_isWholeWithin fn fp kd1 fr1 wh1 lw hg = (0, q, z) ∧ PX7_after U (nI n) at7 en tk w2 ns fa pl L 0 lw hg 5 (fun j => ([119, 111, 114, 116, 104] : List Int32).getD j 0) = (lw, at8, en8, tk8, w8, ns8, q, z, 1, L8)) := by
  obtain ⟨a, b, hC⟩ := h.tok
  rw [PX7_after_eq]
  by_cases hk : key = nI 9
  · obtain ⟨kd1, fr1, to1, x1, key1, wh1, at8, en8, tk8, w8, ns8, L8, g1, g2, g3, -⟩ := h.next hT hn x wh L
    rw [(must_9 hK hC).2 hk g2, un9_eq rfl]
    rcases num_sim g3 hT hn lw hg fn fp fa pl with ⟨b1, b2, b3, kd2, fr2, to2, x2, key2, wh2, at9, en9, tk9, w9, ns9, L9, ⟨c1, c2, c3, -⟩, c4⟩ | ⟨q, c1, c2⟩
    · left
      exact ⟨kd1, fr1, to1, x1, key1, wh1, kd2, fr2, to2, x2, key2, wh2, at9, en9, tk9, w9, ns9, L9, hk, g1, b3, b1, b2, c1, c3, by rw [c4]; rfl⟩
    · right; right
      exact ⟨kd1, fr1, to1, x1, key1, wh1, q, at8, at8, en8, tk8, w8, ns8, L8, hk, g1, c1, by rw [c2]; rfl⟩
  · right; left
    rw [(must_9 hK hC).1 hk, un9_eq rfl, num_f (by decide)]
    exact ⟨hk, rfl⟩
end BG
