/-! the keywords -/
theorem chr_id {c : Int32} (h : 97 ≤ c.toInt ∧ c.toInt ≤ 122) : chr_ c = c := by
  have e : c = Int32.ofInt c.toInt := (Int32.ofInt_toInt c).symm
  generalize c.toInt = z at e h
  subst e
  rcases (show z = 97 ∨ z = 98 ∨ z = 99 ∨ z = 100 ∨ z = 101 ∨ z = 102 ∨ z = 103 ∨ z = 104 ∨ z = 105 ∨ z = 106 ∨ z = 107 ∨ z = 108 ∨ z = 109 ∨ z = 110 ∨ z = 111 ∨ z = 112 ∨ z = 113 ∨ z = 114 ∨ z = 115 ∨ z = 116 ∨ z = 117 ∨ z = 118 ∨ z = 119 ∨ z = 120 ∨ z = 121 ∨ z = 122 by omega) with rfl | rfl | rfl | rfl | rfl | rfl | rfl | rfl | rfl | rfl | rfl | rfl | rfl | rfl | rfl | rfl | rfl | rfl | rfl | rfl | rfl | rfl | rfl | rfl | rfl | rfl <;> decide +kernel
/-- the words that lines begin with, and two more, as the class numbers them -/
def kwL (i : Nat) : List Int32 := ([[119, 111, 114, 100], [107, 105, 110, 103], [113, 117, 101, 101, 110], [99, 104, 97, 110, 99, 101], [99, 111, 117, 114, 116], [116, 104, 114, 111, 110, 101], [117, 110, 115, 117, 114, 101], [115, 97, 105, 100], [115, 108, 105, 112, 115], [119, 111, 114, 116, 104]] : List (List Int32)).getD i []
def kwF (i : Nat) : Nat → Int32 := fun j => (kwL i).getD j 0
def KwOk (keys : Nat → Int64) : Prop := ∀ i : Nat, i < 10 → keys i = lcode (kwF i) (kwL i).length
theorem kw_lets {i : Nat} (hi : i < 10) : Lets (kwF i) (kwL i).length ∧ 1 ≤ (kwL i).length ∧ (kwL i).length ≤ 8 := by
  unfold Lets
  rcases (show i = 0 ∨ i = 1 ∨ i = 2 ∨ i = 3 ∨ i = 4 ∨ i = 5 ∨ i = 6 ∨ i = 7 ∨ i = 8 ∨ i = 9 by omega) with rfl | rfl | rfl | rfl | rfl | rfl | rfl | rfl | rfl | rfl <;> decide +kernel
theorem kw_ne {i j : Nat} (hi : i < 10) (hj : j < 10) (h : lnum (kwF i) (kwL i).length = lnum (kwF j) (kwL j).length) : i = j := by
  have key : ∀ i : Nat, i < 10 → ∀ j : Nat, j < 10 → lnum (kwF i) (kwL i).length = lnum (kwF j) (kwL j).length → i = j := by decide +kernel
  exact key i hi j hj h
theorem kw_inj {keys : Nat → Int64} (hK : KwOk keys) {i j : Nat} (hi : i < 10) (hj : j < 10) (h : keys i = keys j) : i = j := by
  obtain ⟨a1, a2, a3⟩ := kw_lets hi
  obtain ⟨b1, b2, b3⟩ := kw_lets hj
  rw [hK i hi, hK j hj] at h
  have q := congrArg Int64.toInt h
  rw [lcode_int a3 a1, lcode_int b3 b1] at q
  exact kw_ne hi hj (by omega)
theorem kwc_iff {keys : Nat → Int64} (hK : KwOk keys) {x : Int64} {key : Int32} (h : KeyC keys x key) {i : Nat} (hi : i < 10) : key = nI i ↔ keys i = x := by
  rcases h with ⟨h1, h2⟩ | ⟨j, h1, h2, h3⟩
  · constructor
    · intro e
      have q := congrArg Int32.toInt (h1.symm.trans e)
      rw [nI_toInt (by omega), m1_int] at q
      omega
    · intro e; exact absurd e (h2 i hi)
  · constructor
    · intro e
      have q : j = i := (nI_eq (by omega) (by omega)).mp (h2.symm.trans e)
      rw [← q]; exact h3
    · intro e
      rw [h2, kw_inj hK hi h1 (e.trans h3.symm)]
theorem isW_loop {L sF : Nat → Int32} {len : Nat} (hl : len ≤ 8) : ∀ (m k f : Nat) (b : Int32), len - k = m → k ≤ len → m < f → (b = 0 ∨ b = 1) → ∃ r : Int32, HX7_isWord_0 (nI len) L sF f (nI k) b = r ∧ (r = 0 ∨ r = 1) ∧ (r = 1 ↔ b = 1 ∧ ∀ i : Nat, k ≤ i → i < len → L i = chr_ (sF i)) := by
  intro m
  induction m with
  | zero =>
    intro k f b hm hk hf hb
    obtain ⟨f, rfl⟩ : ∃ g, f = g + 1 := ⟨f - 1, by omega⟩
    refine ⟨b, ?_, hb, fun h => ⟨h, fun i h1 h2 => absurd h2 (by omega)⟩, fun h => h.1⟩
    rw [HX7_isWord_0_eq, if_pos (nI_le (by omega) (by omega))]
  | succ m ih =>
    intro k f b hm hk hf hb
    obtain ⟨f, rfl⟩ : ∃ g, f = g + 1 := ⟨f - 1, by omega⟩
    rw [HX7_isWord_0_eq, if_neg (by rw [nI_leI (by omega) (by omega)]; omega)]
    simp only [lt_]
    rw [nI_clamp (by omega), nI_o1]
    rcases hb with rfl | rfl
    · rw [if_pos rfl]
      obtain ⟨r, g1, g2, g3⟩ := ih (k + 1) f 0 (by omega) (by omega) (by omega) (Or.inl rfl)
      refine ⟨r, g1, g2, fun h => absurd (g3.mp h).1 (by decide), fun h => absurd h.1 (by decide)⟩
    · rw [if_neg (by decide)]
      by_cases he : L k = chr_ (sF k)
      · rw [if_pos he]
        obtain ⟨r, g1, g2, g3⟩ := ih (k + 1) f 1 (by omega) (by omega) (by omega) (Or.inr rfl)
        refine ⟨r, g1, g2, fun h => ⟨rfl, fun i h1 h2 => ?_⟩, fun h => g3.mpr ⟨rfl, fun i h1 h2 => h.2 i (by omega) h2⟩⟩
        by_cases hi : i = k
        · rw [hi]; exact he
        · exact (g3.mp h).2 i (by omega) h2
      · rw [if_neg he]
        obtain ⟨r, g1, g2, g3⟩ := ih (k + 1) f 0 (by omega) (by omega) (by omega) (Or.inl rfl)
        refine ⟨r, g1, g2, fun h => absurd (g3.mp h).1 (by decide), fun h => absurd (h.2 k (Nat.le_refl _) (by omega)) he⟩
theorem isW_iff {keys : Nat → Int64} (hK : KwOk keys) {a b : Nat} {kd key wh tk w2 ns : Int32} {x : Int64} {L : Nat → Int32} (hC : TokC keys a b kd key wh tk w2 ns x L) {i : Nat} (hi : i < 10) : PX7_isWord tk ns L 0 (kwL i).length (kwF i) = if key = nI i then 1 else 0 := by
  obtain ⟨k1, k2, k3⟩ := kw_lets hi
  have nk : ∀ {q : Int32}, q = -1 → ¬ q = nI i := fun {q} e1 e2 => by
    have h := congrArg Int32.toInt (e1.symm.trans e2)
    rw [nI_toInt (by omega), m1_int] at h
    omega
  rw [PX7_isWord_eq, if_pos rfl]
  rcases hC with ⟨-, h2, h3⟩ | ⟨-, h2, h3⟩ | ⟨-, h2, len, l1, l2, l3, l4, l5, l6⟩ | ⟨-, h2, h3, -⟩ | ⟨-, h2, h3, -⟩ | ⟨-, h2, h3, -⟩
  · rw [h2, if_neg (by decide), if_neg (nk h3)]
  · rw [h2, if_neg (by decide), if_neg (nk h3)]
  · rw [h2, if_pos rfl]
    simp only [lt_]
    rw [l3]
    by_cases he : nI len = nI (kwL i).length
    · rw [if_pos he]
      have hlen : len = (kwL i).length := (nI_eq (by omega) (by omega)).mp he
      obtain ⟨r, g1, g2, g3⟩ := isW_loop (L := L) (sF := kwF i) l2 len 0 (((nI len).toInt - (0 : Int32).toInt).toNat + 1) 1 rfl (by omega) (by rw [nI_toInt (by omega), kc_0]; omega) (Or.inr rfl)
      rw [nI_0] at g1
      rw [g1]
      by_cases hq : key = nI i
      · rw [if_pos hq]
        refine g3.mpr ⟨rfl, fun j _ hj => ?_⟩
        have e1 := (kwc_iff hK l6 hi).mp hq
        rw [hK i hi, l5] at e1
        obtain ⟨-, e2⟩ := lcode_inj k3 l2 k1 l4 e1
        have hj2 : j < (kwL i).length := by omega
        rw [chr_id (k1 j hj2), e2 j hj2]
      · rw [if_neg hq]
        rcases g2 with g2 | g2
        · exact g2
        · refine absurd ((kwc_iff hK l6 hi).mpr ?_) hq
          rw [hK i hi, l5, ← hlen]
          refine lcode_congr (fun j hj => ?_)
          rw [(g3.mp g2).2 j (Nat.zero_le _) hj, chr_id (k1 j (by omega))]
    · rw [if_neg he]
      by_cases hq : key = nI i
      · exfalso
        have e1 := (kwc_iff hK l6 hi).mp hq
        rw [hK i hi, l5] at e1
        obtain ⟨e2, -⟩ := lcode_inj k3 l2 k1 l4 e1
        exact he (by rw [e2])
      · rw [if_neg hq]
  · rw [h2, if_neg (by decide), if_neg (nk h3)]
  · rw [h2, if_neg (by decide), if_neg (nk h3)]
  · rw [h2, if_neg (by decide), if_neg (nk h3)]
theorem isW_0 {keys : Nat → Int64} (hK : KwOk keys) {a b : Nat} {kd key wh tk w2 ns : Int32} {x : Int64} {L : Nat → Int32} (hC : TokC keys a b kd key wh tk w2 ns x L) : PX7_isWord tk ns L 0 4 (fun j => ([119, 111, 114, 100] : List Int32).getD j 0) = if key = nI 0 then 1 else 0 := isW_iff hK hC (i := 0) (by decide)
theorem isW_1 {keys : Nat → Int64} (hK : KwOk keys) {a b : Nat} {kd key wh tk w2 ns : Int32} {x : Int64} {L : Nat → Int32} (hC : TokC keys a b kd key wh tk w2 ns x L) : PX7_isWord tk ns L 0 4 (fun j => ([107, 105, 110, 103] : List Int32).getD j 0) = if key = nI 1 then 1 else 0 := isW_iff hK hC (i := 1) (by decide)
theorem isW_2 {keys : Nat → Int64} (hK : KwOk keys) {a b : Nat} {kd key wh tk w2 ns : Int32} {x : Int64} {L : Nat → Int32} (hC : TokC keys a b kd key wh tk w2 ns x L) : PX7_isWord tk ns L 0 5 (fun j => ([113, 117, 101, 101, 110] : List Int32).getD j 0) = if key = nI 2 then 1 else 0 := isW_iff hK hC (i := 2) (by decide)
theorem isW_3 {keys : Nat → Int64} (hK : KwOk keys) {a b : Nat} {kd key wh tk w2 ns : Int32} {x : Int64} {L : Nat → Int32} (hC : TokC keys a b kd key wh tk w2 ns x L) : PX7_isWord tk ns L 0 6 (fun j => ([99, 104, 97, 110, 99, 101] : List Int32).getD j 0) = if key = nI 3 then 1 else 0 := isW_iff hK hC (i := 3) (by decide)
theorem isW_4 {keys : Nat → Int64} (hK : KwOk keys) {a b : Nat} {kd key wh tk w2 ns : Int32} {x : Int64} {L : Nat → Int32} (hC : TokC keys a b kd key wh tk w2 ns x L) : PX7_isWord tk ns L 0 5 (fun j => ([99, 111, 117, 114, 116] : List Int32).getD j 0) = if key = nI 4 then 1 else 0 := isW_iff hK hC (i := 4) (by decide)
theorem isW_5 {keys : Nat → Int64} (hK : KwOk keys) {a b : Nat} {kd key wh tk w2 ns : Int32} {x : Int64} {L : Nat → Int32} (hC : TokC keys a b kd key wh tk w2 ns x L) : PX7_isWord tk ns L 0 6 (fun j => ([116, 104, 114, 111, 110, 101] : List Int32).getD j 0) = if key = nI 5 then 1 else 0 := isW_iff hK hC (i := 5) (by decide)
theorem isW_6 {keys : Nat → Int64} (hK : KwOk keys) {a b : Nat} {kd key wh tk w2 ns : Int32} {x : Int64} {L : Nat → Int32} (hC : TokC keys a b kd key wh tk w2 ns x L) : PX7_isWord tk ns L 0 6 (fun j => ([117, 110, 115, 117, 114, 101] : List Int32).getD j 0) = if key = nI 6 then 1 else 0 := isW_iff hK hC (i := 6) (by decide)
theorem isW_7 {keys : Nat → Int64} (hK : KwOk keys) {a b : Nat} {kd key wh tk w2 ns : Int32} {x : Int64} {L : Nat → Int32} (hC : TokC keys a b kd key wh tk w2 ns x L) : PX7_isWord tk ns L 0 4 (fun j => ([115, 97, 105, 100] : List Int32).getD j 0) = if key = nI 7 then 1 else 0 := isW_iff hK hC (i := 7) (by decide)
theorem isW_8 {keys : Nat → Int64} (hK : KwOk keys) {a b : Nat} {kd key wh tk w2 ns : Int32} {x : Int64} {L : Nat → Int32} (hC : TokC keys a b kd key wh tk w2 ns x L) : PX7_isWord tk ns L 0 5 (fun j => ([115, 108, 105, 112, 115] : List Int32).getD j 0) = if key = nI 8 then 1 else 0 := isW_iff hK hC (i := 8) (by decide)
theorem isW_9 {keys : Nat → Int64} (hK : KwOk keys) {a b : Nat} {kd key wh tk w2 ns : Int32} {x : Int64} {L : Nat → Int32} (hC : TokC keys a b kd key wh tk w2 ns x L) : PX7_isWord tk ns L 0 5 (fun j => ([119, 111, 114, 116, 104] : List Int32).getD j 0) = if key = nI 9 then 1 else 0 := isW_iff hK hC (i := 9) (by decide)
theorem lk_eq (key : Int32) : PX3_isLineKey key = if 0 ≤ key.toInt ∧ key.toInt ≤ 7 then 1 else 0 := by
  rw [PX3_isLineKey_eq]
  by_cases h1 : key < 0
  · rw [if_pos h1, if_neg (by rw [fz_lt, kc_0] at h1; omega)]
  · rw [if_neg h1]
    by_cases h2 : 7 < key
    · rw [if_pos h2, if_neg (by rw [fz_lt, kc_7] at h2; omega)]
    · rw [if_neg h2, if_pos (by rw [fz_lt, kc_0] at h1; rw [fz_lt, kc_7] at h2; omega)]
theorem lk_nI {i : Nat} (hi : i < 8) : PX3_isLineKey (nI i) = 1 := by
  rw [lk_eq, if_pos (by rw [nI_toInt (by omega)]; omega)]
theorem lk_of {keys : Nat → Int64} {x : Int64} {key : Int32} (h : KeyC keys x key) (hn : ∀ i : Nat, i < 8 → ¬ key = nI i) : PX3_isLineKey key = 0 := by
  rw [lk_eq]
  rcases h with ⟨h1, -⟩ | ⟨j, h1, h2, -⟩
  · rw [h1, if_neg (by rw [m1_int]; omega)]
  · rw [h2, if_neg (by rw [nI_toInt (by omega)]; intro q; exact hn j (by omega) h2)]
theorem wr0 (fa pl q at' : Int32) : PX7_wrong fa pl 0 q at' = (q, at', 1) := by rw [PX7_wrong_eq, if_pos rfl]
theorem mn_eq {keys : Nat → Int64} (hK : KwOk keys) {a b : Nat} {kd key wh tk w2 ns : Int32} {x : Int64} {L : Nat → Int32} (hC : TokC keys a b kd key wh tk w2 ns x L) {fa pl at7 : Int32} : PX7_mustName at7 tk ns fa pl L 0 = if kd = 1 ∧ PX3_isLineKey key = 0 then (fa, pl, 0) else (1, at7, 1) := by
  have hC0 := hC
  rw [PX7_mustName_eq]
  rcases hC with ⟨h1, h2, h3⟩ | ⟨h1, h2, h3⟩ | ⟨h1, h2, len, l1, l2, l3, l4, l5, l6⟩ | ⟨h1, h2, h3, -⟩ | ⟨h1, h2, h3, -⟩ | ⟨h1, h2, h3, -⟩
  · rw [h2, if_neg (by decide), wr0, if_neg (by rw [h1]; intro q; exact absurd q.1 (by decide))]; rfl
  · rw [h2, if_neg (by decide), wr0, if_neg (by rw [h1]; intro q; exact absurd q.1 (by decide))]; rfl
  · rw [if_pos h2]
    simp only [lt_]
    rw [isW_4 hK hC0, isW_0 hK hC0, isW_1 hK hC0, isW_2 hK hC0, isW_3 hK hC0, isW_5 hK hC0, isW_6 hK hC0, isW_7 hK hC0]
    by_cases c4 : key = nI 4
    · rw [if_pos c4, if_neg (by decide), wr0, if_neg (by rw [c4, lk_nI (by decide)]; intro q; exact absurd q.2 (by decide))]; rfl
    rw [if_neg c4, if_pos rfl]
    by_cases c0 : key = nI 0
    · rw [if_pos c0, if_neg (by decide), wr0, if_neg (by rw [c0, lk_nI (by decide)]; intro q; exact absurd q.2 (by decide))]; rfl
    rw [if_neg c0, if_pos rfl]
    by_cases c1 : key = nI 1
    · rw [if_pos c1, if_neg (by decide), wr0, if_neg (by rw [c1, lk_nI (by decide)]; intro q; exact absurd q.2 (by decide))]; rfl
    rw [if_neg c1, if_pos rfl]
    by_cases c2 : key = nI 2
    · rw [if_pos c2, if_neg (by decide), wr0, if_neg (by rw [c2, lk_nI (by decide)]; intro q; exact absurd q.2 (by decide))]; rfl
    rw [if_neg c2, if_pos rfl]
    by_cases c3 : key = nI 3
    · rw [if_pos c3, if_neg (by decide), wr0, if_neg (by rw [c3, lk_nI (by decide)]; intro q; exact absurd q.2 (by decide))]; rfl
    rw [if_neg c3, if_pos rfl]
    by_cases c5 : key = nI 5
    · rw [if_pos c5, if_neg (by decide), wr0, if_neg (by rw [c5, lk_nI (by decide)]; intro q; exact absurd q.2 (by decide))]; rfl
    rw [if_neg c5, if_pos rfl]
    by_cases c6 : key = nI 6
    · rw [if_pos c6, if_neg (by decide), wr0, if_neg (by rw [c6, lk_nI (by decide)]; intro q; exact absurd q.2 (by decide))]; rfl
    rw [if_neg c6, if_pos rfl]
    by_cases c7 : key = nI 7
    · rw [if_pos c7, if_neg (by decide), wr0, if_neg (by rw [c7, lk_nI (by decide)]; intro q; exact absurd q.2 (by decide))]; rfl
    rw [if_neg c7, if_pos rfl]
    rw [if_pos ⟨h1, lk_of l6 (fun i hi => by rcases (show i = 0 ∨ i = 1 ∨ i = 2 ∨ i = 3 ∨ i = 4 ∨ i = 5 ∨ i = 6 ∨ i = 7 by omega) with rfl | rfl | rfl | rfl | rfl | rfl | rfl | rfl <;> assumption)⟩]
  · rw [h2, if_neg (by decide), wr0, if_neg (by rw [h1]; intro q; exact absurd q.1 (by decide))]; rfl
  · rw [h2, if_neg (by decide), wr0, if_neg (by rw [h1]; intro q; exact absurd q.1 (by decide))]; rfl
  · rw [h2, if_neg (by decide), wr0, if_neg (by rw [h1]; intro q; exact absurd q.1 (by decide))]; rfl
