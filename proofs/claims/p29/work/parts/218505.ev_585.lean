theorem mem_idx {α : Type} {T L : List α} (is : List Nat) (h : is.map (fun i => T[i]?) = L.map some) : ∀ c ∈ L, c ∈ T := by
  intro c hc
  have h2 : some c ∈ L.map some := List.mem_map.mpr ⟨c, hc, rfl⟩
  rw [← h] at h2
  obtain ⟨i, _, hi⟩ := List.mem_map.mp h2
  exact List.mem_of_getElem? hi
def LE_ev_29 : List Cond := [Cond.exactly (Term.string "KingHears$Reader" 29) "java/lang/String", Cond.eq (.field (Term.string "KingHears$Reader" 29) "java/lang/String" "coder" "B") (.int 0), Cond.arrayOf (.field (Term.string "KingHears$Reader" 29) "java/lang/String" "value" "[B") .byte, Cond.eq (.length (.field (Term.string "KingHears$Reader" 29) "java/lang/String" "value" "[B")) (.int 4), Cond.eq (.elem (.field (Term.string "KingHears$Reader" 29) "java/lang/String" "value" "[B") (.int 0)) (.int 119), Cond.eq (.elem (.field (Term.string "KingHears$Reader" 29) "java/lang/String" "value" "[B") (.int 1)) (.int 111), Cond.eq (.elem (.field (Term.string "KingHears$Reader" 29) "java/lang/String" "value" "[B") (.int 2)) (.int 114), Cond.eq (.elem (.field (Term.string "KingHears$Reader" 29) "java/lang/String" "value" "[B") (.int 3)) (.int 100)]
set_option maxRecDepth 100000 in
theorem LEi_ev_29 : ∀ c ∈ LE_ev_29, c ∈ flatC (Jvm.Cond.and given_1 narrow_1) := mem_idx [19, 20, 21, 22, 23, 24, 25, 26] rfl
set_option maxRecDepth 100000 in
theorem ev_29 {s : State} {b : Nat} (hts : ∀ w ∈ lw_tbl, w.before #[Value.ref b] s = true) (hs : ∀ c ∈ flatC (Jvm.Cond.and given_1 narrow_1), c.before #[Value.ref b] s = true) {A : Nat → Prop} (hA : ∀ a : Nat, a < s.heap.size → ¬ A a) : ∃ (a v n : Nat) (f : Nat → Int32), n ≤ 8 ∧ n = ([119, 111, 114, 100] : List Int32).length ∧ f = (fun j => ([119, 111, 114, 100] : List Int32).getD j 0) ∧ vk_R RX3 29 "word" a s ∧ Sw a v n f A s s.heap := by
  have hq : ∀ c ∈ LE_ev_29, c.before #[Value.ref b] s = true := fun c h => hs c (LEi_ev_29 c h)
  obtain ⟨adK, adV, hk, he⟩ := vk_Sof (args := #[Value.ref b]) (s := s) (N := 1) (tm := fun _ => (Term.string "KingHears$Reader" 29)) (len := [4]) (byt := [[119, 111, 114, 100]]) (A := A)
    (fun i hi => by obtain rfl : i = 0 := (by omega); decide) (fun i hi => hq (Cond.exactly (Term.string "KingHears$Reader" 29) "java/lang/String") (List.mem_of_getElem? (i := 0) rfl)) (fun i hi => hq (Cond.eq (.field (Term.string "KingHears$Reader" 29) "java/lang/String" "coder" "B") (.int 0)) (List.mem_of_getElem? (i := 1) rfl)) (fun i hi => hq (Cond.arrayOf (.field (Term.string "KingHears$Reader" 29) "java/lang/String" "value" "[B") .byte) (List.mem_of_getElem? (i := 2) rfl))
    (fun i hi => by obtain rfl : i = 0 := (by omega); exact hq (Cond.eq (.length (.field (Term.string "KingHears$Reader" 29) "java/lang/String" "value" "[B")) (.int 4)) (List.mem_of_getElem? (i := 3) rfl))
    (fun i hi j hj => by
      obtain rfl : i = 0 := (by omega)
      have hj : j < 4 := hj
      rcases (show j = 0 ∨ j = 1 ∨ j = 2 ∨ j = 3 by omega) with rfl | rfl | rfl | rfl
      · exact hq (Cond.eq (.elem (.field (Term.string "KingHears$Reader" 29) "java/lang/String" "value" "[B") (.int 0)) (.int 119)) (List.mem_of_getElem? (i := 4) rfl)
      · exact hq (Cond.eq (.elem (.field (Term.string "KingHears$Reader" 29) "java/lang/String" "value" "[B") (.int 1)) (.int 111)) (List.mem_of_getElem? (i := 5) rfl)
      · exact hq (Cond.eq (.elem (.field (Term.string "KingHears$Reader" 29) "java/lang/String" "value" "[B") (.int 2)) (.int 114)) (List.mem_of_getElem? (i := 6) rfl)
      · exact hq (Cond.eq (.elem (.field (Term.string "KingHears$Reader" 29) "java/lang/String" "value" "[B") (.int 3)) (.int 100)) (List.mem_of_getElem? (i := 7) rfl)
    ) (fun i j hi hj h => absurd (show i = j by omega) h) hA
  exact ⟨adK 0, adV 0, 4, fun j => ([119, 111, 114, 100] : List Int32).getD j 0, by decide, rfl, rfl, vk_R.of (hts _ (List.mem_append_right _ (List.mem_of_getElem? (i := 140) (by decide +kernel)))) (he 0 (by decide)), hk.1 0 (by decide)⟩
def LE_ev_35 : List Cond := [Cond.exactly (Term.string "KingHears$Reader" 35) "java/lang/String", Cond.eq (.field (Term.string "KingHears$Reader" 35) "java/lang/String" "coder" "B") (.int 0), Cond.arrayOf (.field (Term.string "KingHears$Reader" 35) "java/lang/String" "value" "[B") .byte, Cond.eq (.length (.field (Term.string "KingHears$Reader" 35) "java/lang/String" "value" "[B")) (.int 4), Cond.eq (.elem (.field (Term.string "KingHears$Reader" 35) "java/lang/String" "value" "[B") (.int 0)) (.int 107), Cond.eq (.elem (.field (Term.string "KingHears$Reader" 35) "java/lang/String" "value" "[B") (.int 1)) (.int 105), Cond.eq (.elem (.field (Term.string "KingHears$Reader" 35) "java/lang/String" "value" "[B") (.int 2)) (.int 110), Cond.eq (.elem (.field (Term.string "KingHears$Reader" 35) "java/lang/String" "value" "[B") (.int 3)) (.int 103)]
set_option maxRecDepth 100000 in
theorem LEi_ev_35 : ∀ c ∈ LE_ev_35, c ∈ flatC (Jvm.Cond.and given_1 narrow_1) := mem_idx [27, 28, 29, 30, 31, 32, 33, 34] rfl
set_option maxRecDepth 100000 in
theorem ev_35 {s : State} {b : Nat} (hts : ∀ w ∈ lw_tbl, w.before #[Value.ref b] s = true) (hs : ∀ c ∈ flatC (Jvm.Cond.and given_1 narrow_1), c.before #[Value.ref b] s = true) {A : Nat → Prop} (hA : ∀ a : Nat, a < s.heap.size → ¬ A a) : ∃ (a v n : Nat) (f : Nat → Int32), n ≤ 8 ∧ n = ([107, 105, 110, 103] : List Int32).length ∧ f = (fun j => ([107, 105, 110, 103] : List Int32).getD j 0) ∧ vk_R RX3 35 "king" a s ∧ Sw a v n f A s s.heap := by
  have hq : ∀ c ∈ LE_ev_35, c.before #[Value.ref b] s = true := fun c h => hs c (LEi_ev_35 c h)
  obtain ⟨adK, adV, hk, he⟩ := vk_Sof (args := #[Value.ref b]) (s := s) (N := 1) (tm := fun _ => (Term.string "KingHears$Reader" 35)) (len := [4]) (byt := [[107, 105, 110, 103]]) (A := A)
    (fun i hi => by obtain rfl : i = 0 := (by omega); decide) (fun i hi => hq (Cond.exactly (Term.string "KingHears$Reader" 35) "java/lang/String") (List.mem_of_getElem? (i := 0) rfl)) (fun i hi => hq (Cond.eq (.field (Term.string "KingHears$Reader" 35) "java/lang/String" "coder" "B") (.int 0)) (List.mem_of_getElem? (i := 1) rfl)) (fun i hi => hq (Cond.arrayOf (.field (Term.string "KingHears$Reader" 35) "java/lang/String" "value" "[B") .byte) (List.mem_of_getElem? (i := 2) rfl))
    (fun i hi => by obtain rfl : i = 0 := (by omega); exact hq (Cond.eq (.length (.field (Term.string "KingHears$Reader" 35) "java/lang/String" "value" "[B")) (.int 4)) (List.mem_of_getElem? (i := 3) rfl))
    (fun i hi j hj => by
      obtain rfl : i = 0 := (by omega)
      have hj : j < 4 := hj
      rcases (show j = 0 ∨ j = 1 ∨ j = 2 ∨ j = 3 by omega) with rfl | rfl | rfl | rfl
      · exact hq (Cond.eq (.elem (.field (Term.string "KingHears$Reader" 35) "java/lang/String" "value" "[B") (.int 0)) (.int 107)) (List.mem_of_getElem? (i := 4) rfl)
      · exact hq (Cond.eq (.elem (.field (Term.string "KingHears$Reader" 35) "java/lang/String" "value" "[B") (.int 1)) (.int 105)) (List.mem_of_getElem? (i := 5) rfl)
      · exact hq (Cond.eq (.elem (.field (Term.string "KingHears$Reader" 35) "java/lang/String" "value" "[B") (.int 2)) (.int 110)) (List.mem_of_getElem? (i := 6) rfl)
      · exact hq (Cond.eq (.elem (.field (Term.string "KingHears$Reader" 35) "java/lang/String" "value" "[B") (.int 3)) (.int 103)) (List.mem_of_getElem? (i := 7) rfl)
    ) (fun i j hi hj h => absurd (show i = j by omega) h) hA
  exact ⟨adK 0, adV 0, 4, fun j => ([107, 105, 110, 103] : List Int32).getD j 0, by decide, rfl, rfl, vk_R.of (hts _ (List.mem_append_right _ (List.mem_of_getElem? (i := 196) (by decide +kernel)))) (he 0 (by decide)), hk.1 0 (by decide)⟩
def LE_ev_37 : List Cond := [Cond.exactly (Term.string "KingHears$Reader" 37) "java/lang/String", Cond.eq (.field (Term.string "KingHears$Reader" 37) "java/lang/String" "coder" "B") (.int 0), Cond.arrayOf (.field (Term.string "KingHears$Reader" 37) "java/lang/String" "value" "[B") .byte, Cond.eq (.length (.field (Term.string "KingHears$Reader" 37) "java/lang/String" "value" "[B")) (.int 5), Cond.eq (.elem (.field (Term.string "KingHears$Reader" 37) "java/lang/String" "value" "[B") (.int 0)) (.int 113), Cond.eq (.elem (.field (Term.string "KingHears$Reader" 37) "java/lang/String" "value" "[B") (.int 1)) (.int 117), Cond.eq (.elem (.field (Term.string "KingHears$Reader" 37) "java/lang/String" "value" "[B") (.int 2)) (.int 101), Cond.eq (.elem (.field (Term.string "KingHears$Reader" 37) "java/lang/String" "value" "[B") (.int 3)) (.int 101), Cond.eq (.elem (.field (Term.string "KingHears$Reader" 37) "java/lang/String" "value" "[B") (.int 4)) (.int 110)]
set_option maxRecDepth 100000 in
theorem LEi_ev_37 : ∀ c ∈ LE_ev_37, c ∈ flatC (Jvm.Cond.and given_1 narrow_1) := mem_idx [36, 37, 38, 39, 40, 41, 42, 43, 44] rfl
set_option maxRecDepth 100000 in
theorem ev_37 {s : State} {b : Nat} (hts : ∀ w ∈ lw_tbl, w.before #[Value.ref b] s = true) (hs : ∀ c ∈ flatC (Jvm.Cond.and given_1 narrow_1), c.before #[Value.ref b] s = true) {A : Nat → Prop} (hA : ∀ a : Nat, a < s.heap.size → ¬ A a) : ∃ (a v n : Nat) (f : Nat → Int32), n ≤ 8 ∧ n = ([113, 117, 101, 101, 110] : List Int32).length ∧ f = (fun j => ([113, 117, 101, 101, 110] : List Int32).getD j 0) ∧ vk_R RX3 37 "queen" a s ∧ Sw a v n f A s s.heap := by
  have hq : ∀ c ∈ LE_ev_37, c.before #[Value.ref b] s = true := fun c h => hs c (LEi_ev_37 c h)
  obtain ⟨adK, adV, hk, he⟩ := vk_Sof (args := #[Value.ref b]) (s := s) (N := 1) (tm := fun _ => (Term.string "KingHears$Reader" 37)) (len := [5]) (byt := [[113, 117, 101, 101, 110]]) (A := A)
    (fun i hi => by obtain rfl : i = 0 := (by omega); decide) (fun i hi => hq (Cond.exactly (Term.string "KingHears$Reader" 37) "java/lang/String") (List.mem_of_getElem? (i := 0) rfl)) (fun i hi => hq (Cond.eq (.field (Term.string "KingHears$Reader" 37) "java/lang/String" "coder" "B") (.int 0)) (List.mem_of_getElem? (i := 1) rfl)) (fun i hi => hq (Cond.arrayOf (.field (Term.string "KingHears$Reader" 37) "java/lang/String" "value" "[B") .byte) (List.mem_of_getElem? (i := 2) rfl))
    (fun i hi => by obtain rfl : i = 0 := (by omega); exact hq (Cond.eq (.length (.field (Term.string "KingHears$Reader" 37) "java/lang/String" "value" "[B")) (.int 5)) (List.mem_of_getElem? (i := 3) rfl))
    (fun i hi j hj => by
      obtain rfl : i = 0 := (by omega)
      have hj : j < 5 := hj
      rcases (show j = 0 ∨ j = 1 ∨ j = 2 ∨ j = 3 ∨ j = 4 by omega) with rfl | rfl | rfl | rfl | rfl
      · exact hq (Cond.eq (.elem (.field (Term.string "KingHears$Reader" 37) "java/lang/String" "value" "[B") (.int 0)) (.int 113)) (List.mem_of_getElem? (i := 4) rfl)
      · exact hq (Cond.eq (.elem (.field (Term.string "KingHears$Reader" 37) "java/lang/String" "value" "[B") (.int 1)) (.int 117)) (List.mem_of_getElem? (i := 5) rfl)
      · exact hq (Cond.eq (.elem (.field (Term.string "KingHears$Reader" 37) "java/lang/String" "value" "[B") (.int 2)) (.int 101)) (List.mem_of_getElem? (i := 6) rfl)
      · exact hq (Cond.eq (.elem (.field (Term.string "KingHears$Reader" 37) "java/lang/String" "value" "[B") (.int 3)) (.int 101)) (List.mem_of_getElem? (i := 7) rfl)
      · exact hq (Cond.eq (.elem (.field (Term.string "KingHears$Reader" 37) "java/lang/String" "value" "[B") (.int 4)) (.int 110)) (List.mem_of_getElem? (i := 8) rfl)
    ) (fun i j hi hj h => absurd (show i = j by omega) h) hA
  exact ⟨adK 0, adV 0, 5, fun j => ([113, 117, 101, 101, 110] : List Int32).getD j 0, by decide, rfl, rfl, vk_R.of (hts _ (List.mem_append_right _ (List.mem_of_getElem? (i := 197) (by decide +kernel)))) (he 0 (by decide)), hk.1 0 (by decide)⟩
def LE_ev_39 : List Cond := [Cond.exactly (Term.string "KingHears$Reader" 39) "java/lang/String", Cond.eq (.field (Term.string "KingHears$Reader" 39) "java/lang/String" "coder" "B") (.int 0), Cond.arrayOf (.field (Term.string "KingHears$Reader" 39) "java/lang/String" "value" "[B") .byte, Cond.eq (.length (.field (Term.string "KingHears$Reader" 39) "java/lang/String" "value" "[B")) (.int 6), Cond.eq (.elem (.field (Term.string "KingHears$Reader" 39) "java/lang/String" "value" "[B") (.int 0)) (.int 99), Cond.eq (.elem (.field (Term.string "KingHears$Reader" 39) "java/lang/String" "value" "[B") (.int 1)) (.int 104), Cond.eq (.elem (.field (Term.string "KingHears$Reader" 39) "java/lang/String" "value" "[B") (.int 2)) (.int 97), Cond.eq (.elem (.field (Term.string "KingHears$Reader" 39) "java/lang/String" "value" "[B") (.int 3)) (.int 110), Cond.eq (.elem (.field (Term.string "KingHears$Reader" 39) "java/lang/String" "value" "[B") (.int 4)) (.int 99), Cond.eq (.elem (.field (Term.string "KingHears$Reader" 39) "java/lang/String" "value" "[B") (.int 5)) (.int 101)]
set_option maxRecDepth 100000 in
theorem LEi_ev_39 : ∀ c ∈ LE_ev_39, c ∈ flatC (Jvm.Cond.and given_1 narrow_1) := mem_idx [47, 48, 49, 50, 51, 52, 53, 54, 55, 56] rfl
set_option maxRecDepth 100000 in
theorem ev_39 {s : State} {b : Nat} (hts : ∀ w ∈ lw_tbl, w.before #[Value.ref b] s = true) (hs : ∀ c ∈ flatC (Jvm.Cond.and given_1 narrow_1), c.before #[Value.ref b] s = true) {A : Nat → Prop} (hA : ∀ a : Nat, a < s.heap.size → ¬ A a) : ∃ (a v n : Nat) (f : Nat → Int32), n ≤ 8 ∧ n = ([99, 104, 97, 110, 99, 101] : List Int32).length ∧ f = (fun j => ([99, 104, 97, 110, 99, 101] : List Int32).getD j 0) ∧ vk_R RX3 39 "chance" a s ∧ Sw a v n f A s s.heap := by
  have hq : ∀ c ∈ LE_ev_39, c.before #[Value.ref b] s = true := fun c h => hs c (LEi_ev_39 c h)
  obtain ⟨adK, adV, hk, he⟩ := vk_Sof (args := #[Value.ref b]) (s := s) (N := 1) (tm := fun _ => (Term.string "KingHears$Reader" 39)) (len := [6]) (byt := [[99, 104, 97, 110, 99, 101]]) (A := A)
    (fun i hi => by obtain rfl : i = 0 := (by omega); decide) (fun i hi => hq (Cond.exactly (Term.string "KingHears$Reader" 39) "java/lang/String") (List.mem_of_getElem? (i := 0) rfl)) (fun i hi => hq (Cond.eq (.field (Term.string "KingHears$Reader" 39) "java/lang/String" "coder" "B") (.int 0)) (List.mem_of_getElem? (i := 1) rfl)) (fun i hi => hq (Cond.arrayOf (.field (Term.string "KingHears$Reader" 39) "java/lang/String" "value" "[B") .byte) (List.mem_of_getElem? (i := 2) rfl))
    (fun i hi => by obtain rfl : i = 0 := (by omega); exact hq (Cond.eq (.length (.field (Term.string "KingHears$Reader" 39) "java/lang/String" "value" "[B")) (.int 6)) (List.mem_of_getElem? (i := 3) rfl))
    (fun i hi j hj => by
      obtain rfl : i = 0 := (by omega)
      have hj : j < 6 := hj
      rcases (show j = 0 ∨ j = 1 ∨ j = 2 ∨ j = 3 ∨ j = 4 ∨ j = 5 by omega) with rfl | rfl | rfl | rfl | rfl | rfl
      · exact hq (Cond.eq (.elem (.field (Term.string "KingHears$Reader" 39) "java/lang/String" "value" "[B") (.int 0)) (.int 99)) (List.mem_of_getElem? (i := 4) rfl)
      · exact hq (Cond.eq (.elem (.field (Term.string "KingHears$Reader" 39) "java/lang/String" "value" "[B") (.int 1)) (.int 104)) (List.mem_of_getElem? (i := 5) rfl)
      · exact hq (Cond.eq (.elem (.field (Term.string "KingHears$Reader" 39) "java/lang/String" "value" "[B") (.int 2)) (.int 97)) (List.mem_of_getElem? (i := 6) rfl)
      · exact hq (Cond.eq (.elem (.field (Term.string "KingHears$Reader" 39) "java/lang/String" "value" "[B") (.int 3)) (.int 110)) (List.mem_of_getElem? (i := 7) rfl)
      · exact hq (Cond.eq (.elem (.field (Term.string "KingHears$Reader" 39) "java/lang/String" "value" "[B") (.int 4)) (.int 99)) (List.mem_of_getElem? (i := 8) rfl)
      · exact hq (Cond.eq (.elem (.field (Term.string "KingHears$Reader" 39) "java/lang/String" "value" "[B") (.int 5)) (.int 101)) (List.mem_of_getElem? (i := 9) rfl)
    ) (fun i j hi hj h => absurd (show i = j by omega) h) hA
  exact ⟨adK 0, adV 0, 6, fun j => ([99, 104, 97, 110, 99, 101] : List Int32).getD j 0, by decide, rfl, rfl, vk_R.of (hts _ (List.mem_append_right _ (List.mem_of_getElem? (i := 198) (by decide +kernel)))) (he 0 (by decide)), hk.1 0 (by decide)⟩
def LE_ev_41 : List Cond := [Cond.exactly (Term.string "KingHears$Reader" 41) "java/lang/String", Cond.eq (.field (Term.string "KingHears$Reader" 41) "java/lang/String" "coder" "B") (.int 0), Cond.arrayOf (.field (Term.string "KingHears$Reader" 41) "java/lang/String" "value" "[B") .byte, Cond.eq (.length (.field (Term.string "KingHears$Reader" 41) "java/lang/String" "value" "[B")) (.int 5), Cond.eq (.elem (.field (Term.string "KingHears$Reader" 41) "java/lang/String" "value" "[B") (.int 0)) (.int 99), Cond.eq (.elem (.field (Term.string "KingHears$Reader" 41) "java/lang/String" "value" "[B") (.int 1)) (.int 111), Cond.eq (.elem (.field (Term.string "KingHears$Reader" 41) "java/lang/String" "value" "[B") (.int 2)) (.int 117), Cond.eq (.elem (.field (Term.string "KingHears$Reader" 41) "java/lang/String" "value" "[B") (.int 3)) (.int 114), Cond.eq (.elem (.field (Term.string "KingHears$Reader" 41) "java/lang/String" "value" "[B") (.int 4)) (.int 116)]
set_option maxRecDepth 100000 in
theorem LEi_ev_41 : ∀ c ∈ LE_ev_41, c ∈ flatC (Jvm.Cond.and given_1 narrow_1) := mem_idx [60, 61, 62, 63, 64, 65, 66, 67, 68] rfl
set_option maxRecDepth 100000 in
theorem ev_41 {s : State} {b : Nat} (hts : ∀ w ∈ lw_tbl, w.before #[Value.ref b] s = true) (hs : ∀ c ∈ flatC (Jvm.Cond.and given_1 narrow_1), c.before #[Value.ref b] s = true) {A : Nat → Prop} (hA : ∀ a : Nat, a < s.heap.size → ¬ A a) : ∃ (a v n : Nat) (f : Nat → Int32), n ≤ 8 ∧ n = ([99, 111, 117, 114, 116] : List Int32).length ∧ f = (fun j => ([99, 111, 117, 114, 116] : List Int32).getD j 0) ∧ vk_R RX3 41 "court" a s ∧ Sw a v n f A s s.heap := by
  have hq : ∀ c ∈ LE_ev_41, c.before #[Value.ref b] s = true := fun c h => hs c (LEi_ev_41 c h)
  obtain ⟨adK, adV, hk, he⟩ := vk_Sof (args := #[Value.ref b]) (s := s) (N := 1) (tm := fun _ => (Term.string "KingHears$Reader" 41)) (len := [5]) (byt := [[99, 111, 117, 114, 116]]) (A := A)
    (fun i hi => by obtain rfl : i = 0 := (by omega); decide) (fun i hi => hq (Cond.exactly (Term.string "KingHears$Reader" 41) "java/lang/String") (List.mem_of_getElem? (i := 0) rfl)) (fun i hi => hq (Cond.eq (.field (Term.string "KingHears$Reader" 41) "java/lang/String" "coder" "B") (.int 0)) (List.mem_of_getElem? (i := 1) rfl)) (fun i hi => hq (Cond.arrayOf (.field (Term.string "KingHears$Reader" 41) "java/lang/String" "value" "[B") .byte) (List.mem_of_getElem? (i := 2) rfl))
    (fun i hi => by obtain rfl : i = 0 := (by omega); exact hq (Cond.eq (.length (.field (Term.string "KingHears$Reader" 41) "java/lang/String" "value" "[B")) (.int 5)) (List.mem_of_getElem? (i := 3) rfl))
    (fun i hi j hj => by
      obtain rfl : i = 0 := (by omega)
      have hj : j < 5 := hj
      rcases (show j = 0 ∨ j = 1 ∨ j = 2 ∨ j = 3 ∨ j = 4 by omega) with rfl | rfl | rfl | rfl | rfl
      · exact hq (Cond.eq (.elem (.field (Term.string "KingHears$Reader" 41) "java/lang/String" "value" "[B") (.int 0)) (.int 99)) (List.mem_of_getElem? (i := 4) rfl)
      · exact hq (Cond.eq (.elem (.field (Term.string "KingHears$Reader" 41) "java/lang/String" "value" "[B") (.int 1)) (.int 111)) (List.mem_of_getElem? (i := 5) rfl)
      · exact hq (Cond.eq (.elem (.field (Term.string "KingHears$Reader" 41) "java/lang/String" "value" "[B") (.int 2)) (.int 117)) (List.mem_of_getElem? (i := 6) rfl)
      · exact hq (Cond.eq (.elem (.field (Term.string "KingHears$Reader" 41) "java/lang/String" "value" "[B") (.int 3)) (.int 114)) (List.mem_of_getElem? (i := 7) rfl)
      · exact hq (Cond.eq (.elem (.field (Term.string "KingHears$Reader" 41) "java/lang/String" "value" "[B") (.int 4)) (.int 116)) (List.mem_of_getElem? (i := 8) rfl)
    ) (fun i j hi hj h => absurd (show i = j by omega) h) hA
  exact ⟨adK 0, adV 0, 5, fun j => ([99, 111, 117, 114, 116] : List Int32).getD j 0, by decide, rfl, rfl, vk_R.of (hts _ (List.mem_append_right _ (List.mem_of_getElem? (i := 199) (by decide +kernel)))) (he 0 (by decide)), hk.1 0 (by decide)⟩
def LE_ev_42 : List Cond := [Cond.exactly (Term.string "KingHears$Reader" 42) "java/lang/String", Cond.eq (.field (Term.string "KingHears$Reader" 42) "java/lang/String" "coder" "B") (.int 0), Cond.arrayOf (.field (Term.string "KingHears$Reader" 42) "java/lang/String" "value" "[B") .byte, Cond.eq (.length (.field (Term.string "KingHears$Reader" 42) "java/lang/String" "value" "[B")) (.int 6), Cond.eq (.elem (.field (Term.string "KingHears$Reader" 42) "java/lang/String" "value" "[B") (.int 0)) (.int 116), Cond.eq (.elem (.field (Term.string "KingHears$Reader" 42) "java/lang/String" "value" "[B") (.int 1)) (.int 104), Cond.eq (.elem (.field (Term.string "KingHears$Reader" 42) "java/lang/String" "value" "[B") (.int 2)) (.int 114), Cond.eq (.elem (.field (Term.string "KingHears$Reader" 42) "java/lang/String" "value" "[B") (.int 3)) (.int 111), Cond.eq (.elem (.field (Term.string "KingHears$Reader" 42) "java/lang/String" "value" "[B") (.int 4)) (.int 110), Cond.eq (.elem (.field (Term.string "KingHears$Reader" 42) "java/lang/String" "value" "[B") (.int 5)) (.int 101)]
set_option maxRecDepth 100000 in
theorem LEi_ev_42 : ∀ c ∈ LE_ev_42, c ∈ flatC (Jvm.Cond.and given_1 narrow_1) := mem_idx [73, 74, 75, 76, 77, 78, 79, 80, 81, 82] rfl
set_option maxRecDepth 100000 in
theorem ev_42 {s : State} {b : Nat} (hts : ∀ w ∈ lw_tbl, w.before #[Value.ref b] s = true) (hs : ∀ c ∈ flatC (Jvm.Cond.and given_1 narrow_1), c.before #[Value.ref b] s = true) {A : Nat → Prop} (hA : ∀ a : Nat, a < s.heap.size → ¬ A a) : ∃ (a v n : Nat) (f : Nat → Int32), n ≤ 8 ∧ n = ([116, 104, 114, 111, 110, 101] : List Int32).length ∧ f = (fun j => ([116, 104, 114, 111, 110, 101] : List Int32).getD j 0) ∧ vk_R RX3 42 "throne" a s ∧ Sw a v n f A s s.heap := by
  have hq : ∀ c ∈ LE_ev_42, c.before #[Value.ref b] s = true := fun c h => hs c (LEi_ev_42 c h)
  obtain ⟨adK, adV, hk, he⟩ := vk_Sof (args := #[Value.ref b]) (s := s) (N := 1) (tm := fun _ => (Term.string "KingHears$Reader" 42)) (len := [6]) (byt := [[116, 104, 114, 111, 110, 101]]) (A := A)
    (fun i hi => by obtain rfl : i = 0 := (by omega); decide) (fun i hi => hq (Cond.exactly (Term.string "KingHears$Reader" 42) "java/lang/String") (List.mem_of_getElem? (i := 0) rfl)) (fun i hi => hq (Cond.eq (.field (Term.string "KingHears$Reader" 42) "java/lang/String" "coder" "B") (.int 0)) (List.mem_of_getElem? (i := 1) rfl)) (fun i hi => hq (Cond.arrayOf (.field (Term.string "KingHears$Reader" 42) "java/lang/String" "value" "[B") .byte) (List.mem_of_getElem? (i := 2) rfl))
    (fun i hi => by obtain rfl : i = 0 := (by omega); exact hq (Cond.eq (.length (.field (Term.string "KingHears$Reader" 42) "java/lang/String" "value" "[B")) (.int 6)) (List.mem_of_getElem? (i := 3) rfl))
    (fun i hi j hj => by
      obtain rfl : i = 0 := (by omega)
      have hj : j < 6 := hj
      rcases (show j = 0 ∨ j = 1 ∨ j = 2 ∨ j = 3 ∨ j = 4 ∨ j = 5 by omega) with rfl | rfl | rfl | rfl | rfl | rfl
      · exact hq (Cond.eq (.elem (.field (Term.string "KingHears$Reader" 42) "java/lang/String" "value" "[B") (.int 0)) (.int 116)) (List.mem_of_getElem? (i := 4) rfl)
      · exact hq (Cond.eq (.elem (.field (Term.string "KingHears$Reader" 42) "java/lang/String" "value" "[B") (.int 1)) (.int 104)) (List.mem_of_getElem? (i := 5) rfl)
      · exact hq (Cond.eq (.elem (.field (Term.string "KingHears$Reader" 42) "java/lang/String" "value" "[B") (.int 2)) (.int 114)) (List.mem_of_getElem? (i := 6) rfl)
      · exact hq (Cond.eq (.elem (.field (Term.string "KingHears$Reader" 42) "java/lang/String" "value" "[B") (.int 3)) (.int 111)) (List.mem_of_getElem? (i := 7) rfl)
      · exact hq (Cond.eq (.elem (.field (Term.string "KingHears$Reader" 42) "java/lang/String" "value" "[B") (.int 4)) (.int 110)) (List.mem_of_getElem? (i := 8) rfl)
      · exact hq (Cond.eq (.elem (.field (Term.string "KingHears$Reader" 42) "java/lang/String" "value" "[B") (.int 5)) (.int 101)) (List.mem_of_getElem? (i := 9) rfl)
    ) (fun i j hi hj h => absurd (show i = j by omega) h) hA
  exact ⟨adK 0, adV 0, 6, fun j => ([116, 104, 114, 111, 110, 101] : List Int32).getD j 0, by decide, rfl, rfl, vk_R.of (hts _ (List.mem_append_right _ (List.mem_of_getElem? (i := 200) (by decide +kernel)))) (he 0 (by decide)), hk.1 0 (by decide)⟩
def LE_ev_44 : List Cond := [Cond.exactly (Term.string "KingHears$Reader" 44) "java/lang/String", Cond.eq (.field (Term.string "KingHears$Reader" 44) "java/lang/String" "coder" "B") (.int 0), Cond.arrayOf (.field (Term.string "KingHears$Reader" 44) "java/lang/String" "value" "[B") .byte, Cond.eq (.length (.field (Term.string "KingHears$Reader" 44) "java/lang/String" "value" "[B")) (.int 6), Cond.eq (.elem (.field (Term.string "KingHears$Reader" 44) "java/lang/String" "value" "[B") (.int 0)) (.int 117), Cond.eq (.elem (.field (Term.string "KingHears$Reader" 44) "java/lang/String" "value" "[B") (.int 1)) (.int 110), Cond.eq (.elem (.field (Term.string "KingHears$Reader" 44) "java/lang/String" "value" "[B") (.int 2)) (.int 115), Cond.eq (.elem (.field (Term.string "KingHears$Reader" 44) "java/lang/String" "value" "[B") (.int 3)) (.int 117), Cond.eq (.elem (.field (Term.string "KingHears$Reader" 44) "java/lang/String" "value" "[B") (.int 4)) (.int 114), Cond.eq (.elem (.field (Term.string "KingHears$Reader" 44) "java/lang/String" "value" "[B") (.int 5)) (.int 101)]
set_option maxRecDepth 100000 in
theorem LEi_ev_44 : ∀ c ∈ LE_ev_44, c ∈ flatC (Jvm.Cond.and given_1 narrow_1) := mem_idx [88, 89, 90, 91, 92, 93, 94, 95, 96, 97] rfl
set_option maxRecDepth 100000 in
theorem ev_44 {s : State} {b : Nat} (hts : ∀ w ∈ lw_tbl, w.before #[Value.ref b] s = true) (hs : ∀ c ∈ flatC (Jvm.Cond.and given_1 narrow_1), c.before #[Value.ref b] s = true) {A : Nat → Prop} (hA : ∀ a : Nat, a < s.heap.size → ¬ A a) : ∃ (a v n : Nat) (f : Nat → Int32), n ≤ 8 ∧ n = ([117, 110, 115, 117, 114, 101] : List Int32).length ∧ f = (fun j => ([117, 110, 115, 117, 114, 101] : List Int32).getD j 0) ∧ vk_R RX3 44 "unsure" a s ∧ Sw a v n f A s s.heap := by
  have hq : ∀ c ∈ LE_ev_44, c.before #[Value.ref b] s = true := fun c h => hs c (LEi_ev_44 c h)
  obtain ⟨adK, adV, hk, he⟩ := vk_Sof (args := #[Value.ref b]) (s := s) (N := 1) (tm := fun _ => (Term.string "KingHears$Reader" 44)) (len := [6]) (byt := [[117, 110, 115, 117, 114, 101]]) (A := A)
    (fun i hi => by obtain rfl : i = 0 := (by omega); decide) (fun i hi => hq (Cond.exactly (Term.string "KingHears$Reader" 44) "java/lang/String") (List.mem_of_getElem? (i := 0) rfl)) (fun i hi => hq (Cond.eq (.field (Term.string "KingHears$Reader" 44) "java/lang/String" "coder" "B") (.int 0)) (List.mem_of_getElem? (i := 1) rfl)) (fun i hi => hq (Cond.arrayOf (.field (Term.string "KingHears$Reader" 44) "java/lang/String" "value" "[B") .byte) (List.mem_of_getElem? (i := 2) rfl))
    (fun i hi => by obtain rfl : i = 0 := (by omega); exact hq (Cond.eq (.length (.field (Term.string "KingHears$Reader" 44) "java/lang/String" "value" "[B")) (.int 6)) (List.mem_of_getElem? (i := 3) rfl))
    (fun i hi j hj => by
      obtain rfl : i = 0 := (by omega)
      have hj : j < 6 := hj
      rcases (show j = 0 ∨ j = 1 ∨ j = 2 ∨ j = 3 ∨ j = 4 ∨ j = 5 by omega) with rfl | rfl | rfl | rfl | rfl | rfl
      · exact hq (Cond.eq (.elem (.field (Term.string "KingHears$Reader" 44) "java/lang/String" "value" "[B") (.int 0)) (.int 117)) (List.mem_of_getElem? (i := 4) rfl)
      · exact hq (Cond.eq (.elem (.field (Term.string "KingHears$Reader" 44) "java/lang/String" "value" "[B") (.int 1)) (.int 110)) (List.mem_of_getElem? (i := 5) rfl)
      · exact hq (Cond.eq (.elem (.field (Term.string "KingHears$Reader" 44) "java/lang/String" "value" "[B") (.int 2)) (.int 115)) (List.mem_of_getElem? (i := 6) rfl)
      · exact hq (Cond.eq (.elem (.field (Term.string "KingHears$Reader" 44) "java/lang/String" "value" "[B") (.int 3)) (.int 117)) (List.mem_of_getElem? (i := 7) rfl)
      · exact hq (Cond.eq (.elem (.field (Term.string "KingHears$Reader" 44) "java/lang/String" "value" "[B") (.int 4)) (.int 114)) (List.mem_of_getElem? (i := 8) rfl)
      · exact hq (Cond.eq (.elem (.field (Term.string "KingHears$Reader" 44) "java/lang/String" "value" "[B") (.int 5)) (.int 101)) (List.mem_of_getElem? (i := 9) rfl)
    ) (fun i j hi hj h => absurd (show i = j by omega) h) hA
  exact ⟨adK 0, adV 0, 6, fun j => ([117, 110, 115, 117, 114, 101] : List Int32).getD j 0, by decide, rfl, rfl, vk_R.of (hts _ (List.mem_append_right _ (List.mem_of_getElem? (i := 201) (by decide +kernel)))) (he 0 (by decide)), hk.1 0 (by decide)⟩
def LE_ev_46 : List Cond := [Cond.exactly (Term.string "KingHears$Reader" 46) "java/lang/String", Cond.eq (.field (Term.string "KingHears$Reader" 46) "java/lang/String" "coder" "B") (.int 0), Cond.arrayOf (.field (Term.string "KingHears$Reader" 46) "java/lang/String" "value" "[B") .byte, Cond.eq (.length (.field (Term.string "KingHears$Reader" 46) "java/lang/String" "value" "[B")) (.int 4), Cond.eq (.elem (.field (Term.string "KingHears$Reader" 46) "java/lang/String" "value" "[B") (.int 0)) (.int 115), Cond.eq (.elem (.field (Term.string "KingHears$Reader" 46) "java/lang/String" "value" "[B") (.int 1)) (.int 97), Cond.eq (.elem (.field (Term.string "KingHears$Reader" 46) "java/lang/String" "value" "[B") (.int 2)) (.int 105), Cond.eq (.elem (.field (Term.string "KingHears$Reader" 46) "java/lang/String" "value" "[B") (.int 3)) (.int 100)]
set_option maxRecDepth 100000 in
theorem LEi_ev_46 : ∀ c ∈ LE_ev_46, c ∈ flatC (Jvm.Cond.and given_1 narrow_1) := mem_idx [104, 105, 106, 107, 108, 109, 110, 111] rfl
set_option maxRecDepth 100000 in
theorem ev_46 {s : State} {b : Nat} (hts : ∀ w ∈ lw_tbl, w.before #[Value.ref b] s = true) (hs : ∀ c ∈ flatC (Jvm.Cond.and given_1 narrow_1), c.before #[Value.ref b] s = true) {A : Nat → Prop} (hA : ∀ a : Nat, a < s.heap.size → ¬ A a) : ∃ (a v n : Nat) (f : Nat → Int32), n ≤ 8 ∧ n = ([115, 97, 105, 100] : List Int32).length ∧ f = (fun j => ([115, 97, 105, 100] : List Int32).getD j 0) ∧ vk_R RX3 46 "said" a s ∧ Sw a v n f A s s.heap := by
  have hq : ∀ c ∈ LE_ev_46, c.before #[Value.ref b] s = true := fun c h => hs c (LEi_ev_46 c h)
  obtain ⟨adK, adV, hk, he⟩ := vk_Sof (args := #[Value.ref b]) (s := s) (N := 1) (tm := fun _ => (Term.string "KingHears$Reader" 46)) (len := [4]) (byt := [[115, 97, 105, 100]]) (A := A)
    (fun i hi => by obtain rfl : i = 0 := (by omega); decide) (fun i hi => hq (Cond.exactly (Term.string "KingHears$Reader" 46) "java/lang/String") (List.mem_of_getElem? (i := 0) rfl)) (fun i hi => hq (Cond.eq (.field (Term.string "KingHears$Reader" 46) "java/lang/String" "coder" "B") (.int 0)) (List.mem_of_getElem? (i := 1) rfl)) (fun i hi => hq (Cond.arrayOf (.field (Term.string "KingHears$Reader" 46) "java/lang/String" "value" "[B") .byte) (List.mem_of_getElem? (i := 2) rfl))
    (fun i hi => by obtain rfl : i = 0 := (by omega); exact hq (Cond.eq (.length (.field (Term.string "KingHears$Reader" 46) "java/lang/String" "value" "[B")) (.int 4)) (List.mem_of_getElem? (i := 3) rfl))
    (fun i hi j hj => by
      obtain rfl : i = 0 := (by omega)
      have hj : j < 4 := hj
      rcases (show j = 0 ∨ j = 1 ∨ j = 2 ∨ j = 3 by omega) with rfl | rfl | rfl | rfl
      · exact hq (Cond.eq (.elem (.field (Term.string "KingHears$Reader" 46) "java/lang/String" "value" "[B") (.int 0)) (.int 115)) (List.mem_of_getElem? (i := 4) rfl)
      · exact hq (Cond.eq (.elem (.field (Term.string "KingHears$Reader" 46) "java/lang/String" "value" "[B") (.int 1)) (.int 97)) (List.mem_of_getElem? (i := 5) rfl)
      · exact hq (Cond.eq (.elem (.field (Term.string "KingHears$Reader" 46) "java/lang/String" "value" "[B") (.int 2)) (.int 105)) (List.mem_of_getElem? (i := 6) rfl)
      · exact hq (Cond.eq (.elem (.field (Term.string "KingHears$Reader" 46) "java/lang/String" "value" "[B") (.int 3)) (.int 100)) (List.mem_of_getElem? (i := 7) rfl)
    ) (fun i j hi hj h => absurd (show i = j by omega) h) hA
  exact ⟨adK 0, adV 0, 4, fun j => ([115, 97, 105, 100] : List Int32).getD j 0, by decide, rfl, rfl, vk_R.of (hts _ (List.mem_append_right _ (List.mem_of_getElem? (i := 202) (by decide +kernel)))) (he 0 (by decide)), hk.1 0 (by decide)⟩
def LE_ev_48 : List Cond := [Cond.exactly (Term.string "KingHears$Reader" 48) "java/lang/String", Cond.eq (.field (Term.string "KingHears$Reader" 48) "java/lang/String" "coder" "B") (.int 0), Cond.arrayOf (.field (Term.string "KingHears$Reader" 48) "java/lang/String" "value" "[B") .byte, Cond.eq (.length (.field (Term.string "KingHears$Reader" 48) "java/lang/String" "value" "[B")) (.int 5), Cond.eq (.elem (.field (Term.string "KingHears$Reader" 48) "java/lang/String" "value" "[B") (.int 0)) (.int 115), Cond.eq (.elem (.field (Term.string "KingHears$Reader" 48) "java/lang/String" "value" "[B") (.int 1)) (.int 108), Cond.eq (.elem (.field (Term.string "KingHears$Reader" 48) "java/lang/String" "value" "[B") (.int 2)) (.int 105), Cond.eq (.elem (.field (Term.string "KingHears$Reader" 48) "java/lang/String" "value" "[B") (.int 3)) (.int 112), Cond.eq (.elem (.field (Term.string "KingHears$Reader" 48) "java/lang/String" "value" "[B") (.int 4)) (.int 115)]
set_option maxRecDepth 100000 in
theorem LEi_ev_48 : ∀ c ∈ LE_ev_48, c ∈ flatC (Jvm.Cond.and given_1 narrow_1) := mem_idx [119, 120, 121, 122, 123, 124, 125, 126, 127] rfl
set_option maxRecDepth 100000 in
theorem ev_48 {s : State} {b : Nat} (hts : ∀ w ∈ lw_tbl, w.before #[Value.ref b] s = true) (hs : ∀ c ∈ flatC (Jvm.Cond.and given_1 narrow_1), c.before #[Value.ref b] s = true) {A : Nat → Prop} (hA : ∀ a : Nat, a < s.heap.size → ¬ A a) : ∃ (a v n : Nat) (f : Nat → Int32), n ≤ 8 ∧ n = ([115, 108, 105, 112, 115] : List Int32).length ∧ f = (fun j => ([115, 108, 105, 112, 115] : List Int32).getD j 0) ∧ vk_R RX3 48 "slips" a s ∧ Sw a v n f A s s.heap := by
  have hq : ∀ c ∈ LE_ev_48, c.before #[Value.ref b] s = true := fun c h => hs c (LEi_ev_48 c h)
  obtain ⟨adK, adV, hk, he⟩ := vk_Sof (args := #[Value.ref b]) (s := s) (N := 1) (tm := fun _ => (Term.string "KingHears$Reader" 48)) (len := [5]) (byt := [[115, 108, 105, 112, 115]]) (A := A)
    (fun i hi => by obtain rfl : i = 0 := (by omega); decide) (fun i hi => hq (Cond.exactly (Term.string "KingHears$Reader" 48) "java/lang/String") (List.mem_of_getElem? (i := 0) rfl)) (fun i hi => hq (Cond.eq (.field (Term.string "KingHears$Reader" 48) "java/lang/String" "coder" "B") (.int 0)) (List.mem_of_getElem? (i := 1) rfl)) (fun i hi => hq (Cond.arrayOf (.field (Term.string "KingHears$Reader" 48) "java/lang/String" "value" "[B") .byte) (List.mem_of_getElem? (i := 2) rfl))
    (fun i hi => by obtain rfl : i = 0 := (by omega); exact hq (Cond.eq (.length (.field (Term.string "KingHears$Reader" 48) "java/lang/String" "value" "[B")) (.int 5)) (List.mem_of_getElem? (i := 3) rfl))
    (fun i hi j hj => by
      obtain rfl : i = 0 := (by omega)
      have hj : j < 5 := hj
      rcases (show j = 0 ∨ j = 1 ∨ j = 2 ∨ j = 3 ∨ j = 4 by omega) with rfl | rfl | rfl | rfl | rfl
      · exact hq (Cond.eq (.elem (.field (Term.string "KingHears$Reader" 48) "java/lang/String" "value" "[B") (.int 0)) (.int 115)) (List.mem_of_getElem? (i := 4) rfl)
      · exact hq (Cond.eq (.elem (.field (Term.string "KingHears$Reader" 48) "java/lang/String" "value" "[B") (.int 1)) (.int 108)) (List.mem_of_getElem? (i := 5) rfl)
      · exact hq (Cond.eq (.elem (.field (Term.string "KingHears$Reader" 48) "java/lang/String" "value" "[B") (.int 2)) (.int 105)) (List.mem_of_getElem? (i := 6) rfl)
      · exact hq (Cond.eq (.elem (.field (Term.string "KingHears$Reader" 48) "java/lang/String" "value" "[B") (.int 3)) (.int 112)) (List.mem_of_getElem? (i := 7) rfl)
      · exact hq (Cond.eq (.elem (.field (Term.string "KingHears$Reader" 48) "java/lang/String" "value" "[B") (.int 4)) (.int 115)) (List.mem_of_getElem? (i := 8) rfl)
    ) (fun i j hi hj h => absurd (show i = j by omega) h) hA
  exact ⟨adK 0, adV 0, 5, fun j => ([115, 108, 105, 112, 115] : List Int32).getD j 0, by decide, rfl, rfl, vk_R.of (hts _ (List.mem_append_right _ (List.mem_of_getElem? (i := 203) (by decide +kernel)))) (he 0 (by decide)), hk.1 0 (by decide)⟩
def LE_ev_50 : List Cond := [Cond.exactly (Term.string "KingHears$Reader" 50) "java/lang/String", Cond.eq (.field (Term.string "KingHears$Reader" 50) "java/lang/String" "coder" "B") (.int 0), Cond.arrayOf (.field (Term.string "KingHears$Reader" 50) "java/lang/String" "value" "[B") .byte, Cond.eq (.length (.field (Term.string "KingHears$Reader" 50) "java/lang/String" "value" "[B")) (.int 5), Cond.eq (.elem (.field (Term.string "KingHears$Reader" 50) "java/lang/String" "value" "[B") (.int 0)) (.int 119), Cond.eq (.elem (.field (Term.string "KingHears$Reader" 50) "java/lang/String" "value" "[B") (.int 1)) (.int 111), Cond.eq (.elem (.field (Term.string "KingHears$Reader" 50) "java/lang/String" "value" "[B") (.int 2)) (.int 114), Cond.eq (.elem (.field (Term.string "KingHears$Reader" 50) "java/lang/String" "value" "[B") (.int 3)) (.int 116), Cond.eq (.elem (.field (Term.string "KingHears$Reader" 50) "java/lang/String" "value" "[B") (.int 4)) (.int 104)]
set_option maxRecDepth 100000 in
theorem LEi_ev_50 : ∀ c ∈ LE_ev_50, c ∈ flatC (Jvm.Cond.and given_1 narrow_1) := mem_idx [136, 137, 138, 139, 140, 141, 142, 143, 144] rfl
set_option maxRecDepth 100000 in
theorem ev_50 {s : State} {b : Nat} (hts : ∀ w ∈ lw_tbl, w.before #[Value.ref b] s = true) (hs : ∀ c ∈ flatC (Jvm.Cond.and given_1 narrow_1), c.before #[Value.ref b] s = true) {A : Nat → Prop} (hA : ∀ a : Nat, a < s.heap.size → ¬ A a) : ∃ (a v n : Nat) (f : Nat → Int32), n ≤ 8 ∧ n = ([119, 111, 114, 116, 104] : List Int32).length ∧ f = (fun j => ([119, 111, 114, 116, 104] : List Int32).getD j 0) ∧ vk_R RX3 50 "worth" a s ∧ Sw a v n f A s s.heap := by
  have hq : ∀ c ∈ LE_ev_50, c.before #[Value.ref b] s = true := fun c h => hs c (LEi_ev_50 c h)
  obtain ⟨adK, adV, hk, he⟩ := vk_Sof (args := #[Value.ref b]) (s := s) (N := 1) (tm := fun _ => (Term.string "KingHears$Reader" 50)) (len := [5]) (byt := [[119, 111, 114, 116, 104]]) (A := A)
    (fun i hi => by obtain rfl : i = 0 := (by omega); decide) (fun i hi => hq (Cond.exactly (Term.string "KingHears$Reader" 50) "java/lang/String") (List.mem_of_getElem? (i := 0) rfl)) (fun i hi => hq (Cond.eq (.field (Term.string "KingHears$Reader" 50) "java/lang/String" "coder" "B") (.int 0)) (List.mem_of_getElem? (i := 1) rfl)) (fun i hi => hq (Cond.arrayOf (.field (Term.string "KingHears$Reader" 50) "java/lang/String" "value" "[B") .byte) (List.mem_of_getElem? (i := 2) rfl))
    (fun i hi => by obtain rfl : i = 0 := (by omega); exact hq (Cond.eq (.length (.field (Term.string "KingHears$Reader" 50) "java/lang/String" "value" "[B")) (.int 5)) (List.mem_of_getElem? (i := 3) rfl))
    (fun i hi j hj => by
      obtain rfl : i = 0 := (by omega)
      have hj : j < 5 := hj
      rcases (show j = 0 ∨ j = 1 ∨ j = 2 ∨ j = 3 ∨ j = 4 by omega) with rfl | rfl | rfl | rfl | rfl
      · exact hq (Cond.eq (.elem (.field (Term.string "KingHears$Reader" 50) "java/lang/String" "value" "[B") (.int 0)) (.int 119)) (List.mem_of_getElem? (i := 4) rfl)
      · exact hq (Cond.eq (.elem (.field (Term.string "KingHears$Reader" 50) "java/lang/String" "value" "[B") (.int 1)) (.int 111)) (List.mem_of_getElem? (i := 5) rfl)
      · exact hq (Cond.eq (.elem (.field (Term.string "KingHears$Reader" 50) "java/lang/String" "value" "[B") (.int 2)) (.int 114)) (List.mem_of_getElem? (i := 6) rfl)
      · exact hq (Cond.eq (.elem (.field (Term.string "KingHears$Reader" 50) "java/lang/String" "value" "[B") (.int 3)) (.int 116)) (List.mem_of_getElem? (i := 7) rfl)
      · exact hq (Cond.eq (.elem (.field (Term.string "KingHears$Reader" 50) "java/lang/String" "value" "[B") (.int 4)) (.int 104)) (List.mem_of_getElem? (i := 8) rfl)
    ) (fun i j hi hj h => absurd (show i = j by omega) h) hA
  exact ⟨adK 0, adV 0, 5, fun j => ([119, 111, 114, 116, 104] : List Int32).getD j 0, by decide, rfl, rfl, vk_R.of (hts _ (List.mem_append_right _ (List.mem_of_getElem? (i := 204) (by decide +kernel)))) (he 0 (by decide)), hk.1 0 (by decide)⟩
def LE_ev7_134 : List Cond := [Cond.exactly (Term.string "KingHearsModel" 134) "java/lang/String", Cond.eq (.field (Term.string "KingHearsModel" 134) "java/lang/String" "coder" "B") (.int 0), Cond.arrayOf (.field (Term.string "KingHearsModel" 134) "java/lang/String" "value" "[B") .byte, Cond.eq (.length (.field (Term.string "KingHearsModel" 134) "java/lang/String" "value" "[B")) (.int 5), Cond.eq (.elem (.field (Term.string "KingHearsModel" 134) "java/lang/String" "value" "[B") (.int 0)) (.int 99), Cond.eq (.elem (.field (Term.string "KingHearsModel" 134) "java/lang/String" "value" "[B") (.int 1)) (.int 111), Cond.eq (.elem (.field (Term.string "KingHearsModel" 134) "java/lang/String" "value" "[B") (.int 2)) (.int 117), Cond.eq (.elem (.field (Term.string "KingHearsModel" 134) "java/lang/String" "value" "[B") (.int 3)) (.int 114), Cond.eq (.elem (.field (Term.string "KingHearsModel" 134) "java/lang/String" "value" "[B") (.int 4)) (.int 116)]
set_option maxRecDepth 100000 in
theorem LEi_ev7_134 : ∀ c ∈ LE_ev7_134, c ∈ flatC (Jvm.Cond.and given_1 narrow_1) := mem_idx [180, 181, 182, 183, 184, 185, 186, 187, 188] rfl
set_option maxRecDepth 100000 in
theorem ev7_134 {s : State} {b : Nat} (hts : ∀ w ∈ lw_tbl, w.before #[Value.ref b] s = true) (hs : ∀ c ∈ flatC (Jvm.Cond.and given_1 narrow_1), c.before #[Value.ref b] s = true) {A : Nat → Prop} (hA : ∀ a : Nat, a < s.heap.size → ¬ A a) : ∃ (a v n : Nat) (f : Nat → Int32), n ≤ 8 ∧ n = ([99, 111, 117, 114, 116] : List Int32).length ∧ f = (fun j => ([99, 111, 117, 114, 116] : List Int32).getD j 0) ∧ vk_R RX7 134 "court" a s ∧ Sw a v n f A s s.heap := by
  have hq : ∀ c ∈ LE_ev7_134, c.before #[Value.ref b] s = true := fun c h => hs c (LEi_ev7_134 c h)
  obtain ⟨adK, adV, hk, he⟩ := vk_Sof (args := #[Value.ref b]) (s := s) (N := 1) (tm := fun _ => (Term.string "KingHearsModel" 134)) (len := [5]) (byt := [[99, 111, 117, 114, 116]]) (A := A)
    (fun i hi => by obtain rfl : i = 0 := (by omega); decide) (fun i hi => hq (Cond.exactly (Term.string "KingHearsModel" 134) "java/lang/String") (List.mem_of_getElem? (i := 0) rfl)) (fun i hi => hq (Cond.eq (.field (Term.string "KingHearsModel" 134) "java/lang/String" "coder" "B") (.int 0)) (List.mem_of_getElem? (i := 1) rfl)) (fun i hi => hq (Cond.arrayOf (.field (Term.string "KingHearsModel" 134) "java/lang/String" "value" "[B") .byte) (List.mem_of_getElem? (i := 2) rfl))
    (fun i hi => by obtain rfl : i = 0 := (by omega); exact hq (Cond.eq (.length (.field (Term.string "KingHearsModel" 134) "java/lang/String" "value" "[B")) (.int 5)) (List.mem_of_getElem? (i := 3) rfl))
    (fun i hi j hj => by
      obtain rfl : i = 0 := (by omega)
      have hj : j < 5 := hj
      rcases (show j = 0 ∨ j = 1 ∨ j = 2 ∨ j = 3 ∨ j = 4 by omega) with rfl | rfl | rfl | rfl | rfl
      · exact hq (Cond.eq (.elem (.field (Term.string "KingHearsModel" 134) "java/lang/String" "value" "[B") (.int 0)) (.int 99)) (List.mem_of_getElem? (i := 4) rfl)
      · exact hq (Cond.eq (.elem (.field (Term.string "KingHearsModel" 134) "java/lang/String" "value" "[B") (.int 1)) (.int 111)) (List.mem_of_getElem? (i := 5) rfl)
      · exact hq (Cond.eq (.elem (.field (Term.string "KingHearsModel" 134) "java/lang/String" "value" "[B") (.int 2)) (.int 117)) (List.mem_of_getElem? (i := 6) rfl)
      · exact hq (Cond.eq (.elem (.field (Term.string "KingHearsModel" 134) "java/lang/String" "value" "[B") (.int 3)) (.int 114)) (List.mem_of_getElem? (i := 7) rfl)
      · exact hq (Cond.eq (.elem (.field (Term.string "KingHearsModel" 134) "java/lang/String" "value" "[B") (.int 4)) (.int 116)) (List.mem_of_getElem? (i := 8) rfl)
    ) (fun i j hi hj h => absurd (show i = j by omega) h) hA
  exact ⟨adK 0, adV 0, 5, fun j => ([99, 111, 117, 114, 116] : List Int32).getD j 0, by decide, rfl, rfl, vk_R.of (hts _ (List.mem_append_right _ (List.mem_of_getElem? (i := 1298) (by decide +kernel)))) (he 0 (by decide)), hk.1 0 (by decide)⟩
def LE_ev7_136 : List Cond := [Cond.exactly (Term.string "KingHearsModel" 136) "java/lang/String", Cond.eq (.field (Term.string "KingHearsModel" 136) "java/lang/String" "coder" "B") (.int 0), Cond.arrayOf (.field (Term.string "KingHearsModel" 136) "java/lang/String" "value" "[B") .byte, Cond.eq (.length (.field (Term.string "KingHearsModel" 136) "java/lang/String" "value" "[B")) (.int 4), Cond.eq (.elem (.field (Term.string "KingHearsModel" 136) "java/lang/String" "value" "[B") (.int 0)) (.int 119), Cond.eq (.elem (.field (Term.string "KingHearsModel" 136) "java/lang/String" "value" "[B") (.int 1)) (.int 111), Cond.eq (.elem (.field (Term.string "KingHearsModel" 136) "java/lang/String" "value" "[B") (.int 2)) (.int 114), Cond.eq (.elem (.field (Term.string "KingHearsModel" 136) "java/lang/String" "value" "[B") (.int 3)) (.int 100)]
set_option maxRecDepth 100000 in
theorem LEi_ev7_136 : ∀ c ∈ LE_ev7_136, c ∈ flatC (Jvm.Cond.and given_1 narrow_1) := mem_idx [221, 222, 223, 224, 225, 226, 227, 228] rfl
set_option maxRecDepth 100000 in
theorem ev7_136 {s : State} {b : Nat} (hts : ∀ w ∈ lw_tbl, w.before #[Value.ref b] s = true) (hs : ∀ c ∈ flatC (Jvm.Cond.and given_1 narrow_1), c.before #[Value.ref b] s = true) {A : Nat → Prop} (hA : ∀ a : Nat, a < s.heap.size → ¬ A a) : ∃ (a v n : Nat) (f : Nat → Int32), n ≤ 8 ∧ n = ([119, 111, 114, 100] : List Int32).length ∧ f = (fun j => ([119, 111, 114, 100] : List Int32).getD j 0) ∧ vk_R RX7 136 "word" a s ∧ Sw a v n f A s s.heap := by
  have hq : ∀ c ∈ LE_ev7_136, c.before #[Value.ref b] s = true := fun c h => hs c (LEi_ev7_136 c h)
  obtain ⟨adK, adV, hk, he⟩ := vk_Sof (args := #[Value.ref b]) (s := s) (N := 1) (tm := fun _ => (Term.string "KingHearsModel" 136)) (len := [4]) (byt := [[119, 111, 114, 100]]) (A := A)
    (fun i hi => by obtain rfl : i = 0 := (by omega); decide) (fun i hi => hq (Cond.exactly (Term.string "KingHearsModel" 136) "java/lang/String") (List.mem_of_getElem? (i := 0) rfl)) (fun i hi => hq (Cond.eq (.field (Term.string "KingHearsModel" 136) "java/lang/String" "coder" "B") (.int 0)) (List.mem_of_getElem? (i := 1) rfl)) (fun i hi => hq (Cond.arrayOf (.field (Term.string "KingHearsModel" 136) "java/lang/String" "value" "[B") .byte) (List.mem_of_getElem? (i := 2) rfl))
    (fun i hi => by obtain rfl : i = 0 := (by omega); exact hq (Cond.eq (.length (.field (Term.string "KingHearsModel" 136) "java/lang/String" "value" "[B")) (.int 4)) (List.mem_of_getElem? (i := 3) rfl))
    (fun i hi j hj => by
      obtain rfl : i = 0 := (by omega)
      have hj : j < 4 := hj
      rcases (show j = 0 ∨ j = 1 ∨ j = 2 ∨ j = 3 by omega) with rfl | rfl | rfl | rfl
      · exact hq (Cond.eq (.elem (.field (Term.string "KingHearsModel" 136) "java/lang/String" "value" "[B") (.int 0)) (.int 119)) (List.mem_of_getElem? (i := 4) rfl)
      · exact hq (Cond.eq (.elem (.field (Term.string "KingHearsModel" 136) "java/lang/String" "value" "[B") (.int 1)) (.int 111)) (List.mem_of_getElem? (i := 5) rfl)
      · exact hq (Cond.eq (.elem (.field (Term.string "KingHearsModel" 136) "java/lang/String" "value" "[B") (.int 2)) (.int 114)) (List.mem_of_getElem? (i := 6) rfl)
      · exact hq (Cond.eq (.elem (.field (Term.string "KingHearsModel" 136) "java/lang/String" "value" "[B") (.int 3)) (.int 100)) (List.mem_of_getElem? (i := 7) rfl)
    ) (fun i j hi hj h => absurd (show i = j by omega) h) hA
  exact ⟨adK 0, adV 0, 4, fun j => ([119, 111, 114, 100] : List Int32).getD j 0, by decide, rfl, rfl, vk_R.of (hts _ (List.mem_append_right _ (List.mem_of_getElem? (i := 1330) (by decide +kernel)))) (he 0 (by decide)), hk.1 0 (by decide)⟩
def LE_ev7_138 : List Cond := [Cond.exactly (Term.string "KingHearsModel" 138) "java/lang/String", Cond.eq (.field (Term.string "KingHearsModel" 138) "java/lang/String" "coder" "B") (.int 0), Cond.arrayOf (.field (Term.string "KingHearsModel" 138) "java/lang/String" "value" "[B") .byte, Cond.eq (.length (.field (Term.string "KingHearsModel" 138) "java/lang/String" "value" "[B")) (.int 4), Cond.eq (.elem (.field (Term.string "KingHearsModel" 138) "java/lang/String" "value" "[B") (.int 0)) (.int 107), Cond.eq (.elem (.field (Term.string "KingHearsModel" 138) "java/lang/String" "value" "[B") (.int 1)) (.int 105), Cond.eq (.elem (.field (Term.string "KingHearsModel" 138) "java/lang/String" "value" "[B") (.int 2)) (.int 110), Cond.eq (.elem (.field (Term.string "KingHearsModel" 138) "java/lang/String" "value" "[B") (.int 3)) (.int 103)]
set_option maxRecDepth 100000 in
theorem LEi_ev7_138 : ∀ c ∈ LE_ev7_138, c ∈ flatC (Jvm.Cond.and given_1 narrow_1) := mem_idx [242, 243, 244, 245, 246, 247, 248, 249] rfl
set_option maxRecDepth 100000 in
theorem ev7_138 {s : State} {b : Nat} (hts : ∀ w ∈ lw_tbl, w.before #[Value.ref b] s = true) (hs : ∀ c ∈ flatC (Jvm.Cond.and given_1 narrow_1), c.before #[Value.ref b] s = true) {A : Nat → Prop} (hA : ∀ a : Nat, a < s.heap.size → ¬ A a) : ∃ (a v n : Nat) (f : Nat → Int32), n ≤ 8 ∧ n = ([107, 105, 110, 103] : List Int32).length ∧ f = (fun j => ([107, 105, 110, 103] : List Int32).getD j 0) ∧ vk_R RX7 138 "king" a s ∧ Sw a v n f A s s.heap := by
  have hq : ∀ c ∈ LE_ev7_138, c.before #[Value.ref b] s = true := fun c h => hs c (LEi_ev7_138 c h)
  obtain ⟨adK, adV, hk, he⟩ := vk_Sof (args := #[Value.ref b]) (s := s) (N := 1) (tm := fun _ => (Term.string "KingHearsModel" 138)) (len := [4]) (byt := [[107, 105, 110, 103]]) (A := A)
    (fun i hi => by obtain rfl : i = 0 := (by omega); decide) (fun i hi => hq (Cond.exactly (Term.string "KingHearsModel" 138) "java/lang/String") (List.mem_of_getElem? (i := 0) rfl)) (fun i hi => hq (Cond.eq (.field (Term.string "KingHearsModel" 138) "java/lang/String" "coder" "B") (.int 0)) (List.mem_of_getElem? (i := 1) rfl)) (fun i hi => hq (Cond.arrayOf (.field (Term.string "KingHearsModel" 138) "java/lang/String" "value" "[B") .byte) (List.mem_of_getElem? (i := 2) rfl))
    (fun i hi => by obtain rfl : i = 0 := (by omega); exact hq (Cond.eq (.length (.field (Term.string "KingHearsModel" 138) "java/lang/String" "value" "[B")) (.int 4)) (List.mem_of_getElem? (i := 3) rfl))
    (fun i hi j hj => by
      obtain rfl : i = 0 := (by omega)
      have hj : j < 4 := hj
      rcases (show j = 0 ∨ j = 1 ∨ j = 2 ∨ j = 3 by omega) with rfl | rfl | rfl | rfl
      · exact hq (Cond.eq (.elem (.field (Term.string "KingHearsModel" 138) "java/lang/String" "value" "[B") (.int 0)) (.int 107)) (List.mem_of_getElem? (i := 4) rfl)
      · exact hq (Cond.eq (.elem (.field (Term.string "KingHearsModel" 138) "java/lang/String" "value" "[B") (.int 1)) (.int 105)) (List.mem_of_getElem? (i := 5) rfl)
      · exact hq (Cond.eq (.elem (.field (Term.string "KingHearsModel" 138) "java/lang/String" "value" "[B") (.int 2)) (.int 110)) (List.mem_of_getElem? (i := 6) rfl)
      · exact hq (Cond.eq (.elem (.field (Term.string "KingHearsModel" 138) "java/lang/String" "value" "[B") (.int 3)) (.int 103)) (List.mem_of_getElem? (i := 7) rfl)
    ) (fun i j hi hj h => absurd (show i = j by omega) h) hA
  exact ⟨adK 0, adV 0, 4, fun j => ([107, 105, 110, 103] : List Int32).getD j 0, by decide, rfl, rfl, vk_R.of (hts _ (List.mem_append_right _ (List.mem_of_getElem? (i := 1351) (by decide +kernel)))) (he 0 (by decide)), hk.1 0 (by decide)⟩
def LE_ev7_140 : List Cond := [Cond.exactly (Term.string "KingHearsModel" 140) "java/lang/String", Cond.eq (.field (Term.string "KingHearsModel" 140) "java/lang/String" "coder" "B") (.int 0), Cond.arrayOf (.field (Term.string "KingHearsModel" 140) "java/lang/String" "value" "[B") .byte, Cond.eq (.length (.field (Term.string "KingHearsModel" 140) "java/lang/String" "value" "[B")) (.int 5), Cond.eq (.elem (.field (Term.string "KingHearsModel" 140) "java/lang/String" "value" "[B") (.int 0)) (.int 113), Cond.eq (.elem (.field (Term.string "KingHearsModel" 140) "java/lang/String" "value" "[B") (.int 1)) (.int 117), Cond.eq (.elem (.field (Term.string "KingHearsModel" 140) "java/lang/String" "value" "[B") (.int 2)) (.int 101), Cond.eq (.elem (.field (Term.string "KingHearsModel" 140) "java/lang/String" "value" "[B") (.int 3)) (.int 101), Cond.eq (.elem (.field (Term.string "KingHearsModel" 140) "java/lang/String" "value" "[B") (.int 4)) (.int 110)]
set_option maxRecDepth 100000 in
theorem LEi_ev7_140 : ∀ c ∈ LE_ev7_140, c ∈ flatC (Jvm.Cond.and given_1 narrow_1) := mem_idx [264, 265, 266, 267, 268, 269, 270, 271, 272] rfl
set_option maxRecDepth 100000 in
theorem ev7_140 {s : State} {b : Nat} (hts : ∀ w ∈ lw_tbl, w.before #[Value.ref b] s = true) (hs : ∀ c ∈ flatC (Jvm.Cond.and given_1 narrow_1), c.before #[Value.ref b] s = true) {A : Nat → Prop} (hA : ∀ a : Nat, a < s.heap.size → ¬ A a) : ∃ (a v n : Nat) (f : Nat → Int32), n ≤ 8 ∧ n = ([113, 117, 101, 101, 110] : List Int32).length ∧ f = (fun j => ([113, 117, 101, 101, 110] : List Int32).getD j 0) ∧ vk_R RX7 140 "queen" a s ∧ Sw a v n f A s s.heap := by
  have hq : ∀ c ∈ LE_ev7_140, c.before #[Value.ref b] s = true := fun c h => hs c (LEi_ev7_140 c h)
  obtain ⟨adK, adV, hk, he⟩ := vk_Sof (args := #[Value.ref b]) (s := s) (N := 1) (tm := fun _ => (Term.string "KingHearsModel" 140)) (len := [5]) (byt := [[113, 117, 101, 101, 110]]) (A := A)
    (fun i hi => by obtain rfl : i = 0 := (by omega); decide) (fun i hi => hq (Cond.exactly (Term.string "KingHearsModel" 140) "java/lang/String") (List.mem_of_getElem? (i := 0) rfl)) (fun i hi => hq (Cond.eq (.field (Term.string "KingHearsModel" 140) "java/lang/String" "coder" "B") (.int 0)) (List.mem_of_getElem? (i := 1) rfl)) (fun i hi => hq (Cond.arrayOf (.field (Term.string "KingHearsModel" 140) "java/lang/String" "value" "[B") .byte) (List.mem_of_getElem? (i := 2) rfl))
    (fun i hi => by obtain rfl : i = 0 := (by omega); exact hq (Cond.eq (.length (.field (Term.string "KingHearsModel" 140) "java/lang/String" "value" "[B")) (.int 5)) (List.mem_of_getElem? (i := 3) rfl))
    (fun i hi j hj => by
      obtain rfl : i = 0 := (by omega)
      have hj : j < 5 := hj
      rcases (show j = 0 ∨ j = 1 ∨ j = 2 ∨ j = 3 ∨ j = 4 by omega) with rfl | rfl | rfl | rfl | rfl
      · exact hq (Cond.eq (.elem (.field (Term.string "KingHearsModel" 140) "java/lang/String" "value" "[B") (.int 0)) (.int 113)) (List.mem_of_getElem? (i := 4) rfl)
      · exact hq (Cond.eq (.elem (.field (Term.string "KingHearsModel" 140) "java/lang/String" "value" "[B") (.int 1)) (.int 117)) (List.mem_of_getElem? (i := 5) rfl)
      · exact hq (Cond.eq (.elem (.field (Term.string "KingHearsModel" 140) "java/lang/String" "value" "[B") (.int 2)) (.int 101)) (List.mem_of_getElem? (i := 6) rfl)
      · exact hq (Cond.eq (.elem (.field (Term.string "KingHearsModel" 140) "java/lang/String" "value" "[B") (.int 3)) (.int 101)) (List.mem_of_getElem? (i := 7) rfl)
      · exact hq (Cond.eq (.elem (.field (Term.string "KingHearsModel" 140) "java/lang/String" "value" "[B") (.int 4)) (.int 110)) (List.mem_of_getElem? (i := 8) rfl)
    ) (fun i j hi hj h => absurd (show i = j by omega) h) hA
  exact ⟨adK 0, adV 0, 5, fun j => ([113, 117, 101, 101, 110] : List Int32).getD j 0, by decide, rfl, rfl, vk_R.of (hts _ (List.mem_append_right _ (List.mem_of_getElem? (i := 1352) (by decide +kernel)))) (he 0 (by decide)), hk.1 0 (by decide)⟩
def LE_ev7_142 : List Cond := [Cond.exactly (Term.string "KingHearsModel" 142) "java/lang/String", Cond.eq (.field (Term.string "KingHearsModel" 142) "java/lang/String" "coder" "B") (.int 0), Cond.arrayOf (.field (Term.string "KingHearsModel" 142) "java/lang/String" "value" "[B") .byte, Cond.eq (.length (.field (Term.string "KingHearsModel" 142) "java/lang/String" "value" "[B")) (.int 6), Cond.eq (.elem (.field (Term.string "KingHearsModel" 142) "java/lang/String" "value" "[B") (.int 0)) (.int 99), Cond.eq (.elem (.field (Term.string "KingHearsModel" 142) "java/lang/String" "value" "[B") (.int 1)) (.int 104), Cond.eq (.elem (.field (Term.string "KingHearsModel" 142) "java/lang/String" "value" "[B") (.int 2)) (.int 97), Cond.eq (.elem (.field (Term.string "KingHearsModel" 142) "java/lang/String" "value" "[B") (.int 3)) (.int 110), Cond.eq (.elem (.field (Term.string "KingHearsModel" 142) "java/lang/String" "value" "[B") (.int 4)) (.int 99), Cond.eq (.elem (.field (Term.string "KingHearsModel" 142) "java/lang/String" "value" "[B") (.int 5)) (.int 101)]
set_option maxRecDepth 100000 in
theorem LEi_ev7_142 : ∀ c ∈ LE_ev7_142, c ∈ flatC (Jvm.Cond.and given_1 narrow_1) := mem_idx [288, 289, 290, 291, 292, 293, 294, 295, 296, 297] rfl
set_option maxRecDepth 100000 in
theorem ev7_142 {s : State} {b : Nat} (hts : ∀ w ∈ lw_tbl, w.before #[Value.ref b] s = true) (hs : ∀ c ∈ flatC (Jvm.Cond.and given_1 narrow_1), c.before #[Value.ref b] s = true) {A : Nat → Prop} (hA : ∀ a : Nat, a < s.heap.size → ¬ A a) : ∃ (a v n : Nat) (f : Nat → Int32), n ≤ 8 ∧ n = ([99, 104, 97, 110, 99, 101] : List Int32).length ∧ f = (fun j => ([99, 104, 97, 110, 99, 101] : List Int32).getD j 0) ∧ vk_R RX7 142 "chance" a s ∧ Sw a v n f A s s.heap := by
  have hq : ∀ c ∈ LE_ev7_142, c.before #[Value.ref b] s = true := fun c h => hs c (LEi_ev7_142 c h)
  obtain ⟨adK, adV, hk, he⟩ := vk_Sof (args := #[Value.ref b]) (s := s) (N := 1) (tm := fun _ => (Term.string "KingHearsModel" 142)) (len := [6]) (byt := [[99, 104, 97, 110, 99, 101]]) (A := A)
    (fun i hi => by obtain rfl : i = 0 := (by omega); decide) (fun i hi => hq (Cond.exactly (Term.string "KingHearsModel" 142) "java/lang/String") (List.mem_of_getElem? (i := 0) rfl)) (fun i hi => hq (Cond.eq (.field (Term.string "KingHearsModel" 142) "java/lang/String" "coder" "B") (.int 0)) (List.mem_of_getElem? (i := 1) rfl)) (fun i hi => hq (Cond.arrayOf (.field (Term.string "KingHearsModel" 142) "java/lang/String" "value" "[B") .byte) (List.mem_of_getElem? (i := 2) rfl))
    (fun i hi => by obtain rfl : i = 0 := (by omega); exact hq (Cond.eq (.length (.field (Term.string "KingHearsModel" 142) "java/lang/String" "value" "[B")) (.int 6)) (List.mem_of_getElem? (i := 3) rfl))
    (fun i hi j hj => by
      obtain rfl : i = 0 := (by omega)
      have hj : j < 6 := hj
      rcases (show j = 0 ∨ j = 1 ∨ j = 2 ∨ j = 3 ∨ j = 4 ∨ j = 5 by omega) with rfl | rfl | rfl | rfl | rfl | rfl
      · exact hq (Cond.eq (.elem (.field (Term.string "KingHearsModel" 142) "java/lang/String" "value" "[B") (.int 0)) (.int 99)) (List.mem_of_getElem? (i := 4) rfl)
      · exact hq (Cond.eq (.elem (.field (Term.string "KingHearsModel" 142) "java/lang/String" "value" "[B") (.int 1)) (.int 104)) (List.mem_of_getElem? (i := 5) rfl)
      · exact hq (Cond.eq (.elem (.field (Term.string "KingHearsModel" 142) "java/lang/String" "value" "[B") (.int 2)) (.int 97)) (List.mem_of_getElem? (i := 6) rfl)
      · exact hq (Cond.eq (.elem (.field (Term.string "KingHearsModel" 142) "java/lang/String" "value" "[B") (.int 3)) (.int 110)) (List.mem_of_getElem? (i := 7) rfl)
      · exact hq (Cond.eq (.elem (.field (Term.string "KingHearsModel" 142) "java/lang/String" "value" "[B") (.int 4)) (.int 99)) (List.mem_of_getElem? (i := 8) rfl)
      · exact hq (Cond.eq (.elem (.field (Term.string "KingHearsModel" 142) "java/lang/String" "value" "[B") (.int 5)) (.int 101)) (List.mem_of_getElem? (i := 9) rfl)
    ) (fun i j hi hj h => absurd (show i = j by omega) h) hA
  exact ⟨adK 0, adV 0, 6, fun j => ([99, 104, 97, 110, 99, 101] : List Int32).getD j 0, by decide, rfl, rfl, vk_R.of (hts _ (List.mem_append_right _ (List.mem_of_getElem? (i := 1353) (by decide +kernel)))) (he 0 (by decide)), hk.1 0 (by decide)⟩
def LE_ev7_144 : List Cond := [Cond.exactly (Term.string "KingHearsModel" 144) "java/lang/String", Cond.eq (.field (Term.string "KingHearsModel" 144) "java/lang/String" "coder" "B") (.int 0), Cond.arrayOf (.field (Term.string "KingHearsModel" 144) "java/lang/String" "value" "[B") .byte, Cond.eq (.length (.field (Term.string "KingHearsModel" 144) "java/lang/String" "value" "[B")) (.int 6), Cond.eq (.elem (.field (Term.string "KingHearsModel" 144) "java/lang/String" "value" "[B") (.int 0)) (.int 116), Cond.eq (.elem (.field (Term.string "KingHearsModel" 144) "java/lang/String" "value" "[B") (.int 1)) (.int 104), Cond.eq (.elem (.field (Term.string "KingHearsModel" 144) "java/lang/String" "value" "[B") (.int 2)) (.int 114), Cond.eq (.elem (.field (Term.string "KingHearsModel" 144) "java/lang/String" "value" "[B") (.int 3)) (.int 111), Cond.eq (.elem (.field (Term.string "KingHearsModel" 144) "java/lang/String" "value" "[B") (.int 4)) (.int 110), Cond.eq (.elem (.field (Term.string "KingHearsModel" 144) "java/lang/String" "value" "[B") (.int 5)) (.int 101)]
set_option maxRecDepth 100000 in
theorem LEi_ev7_144 : ∀ c ∈ LE_ev7_144, c ∈ flatC (Jvm.Cond.and given_1 narrow_1) := mem_idx [314, 315, 316, 317, 318, 319, 320, 321, 322, 323] rfl
set_option maxRecDepth 100000 in
theorem ev7_144 {s : State} {b : Nat} (hts : ∀ w ∈ lw_tbl, w.before #[Value.ref b] s = true) (hs : ∀ c ∈ flatC (Jvm.Cond.and given_1 narrow_1), c.before #[Value.ref b] s = true) {A : Nat → Prop} (hA : ∀ a : Nat, a < s.heap.size → ¬ A a) : ∃ (a v n : Nat) (f : Nat → Int32), n ≤ 8 ∧ n = ([116, 104, 114, 111, 110, 101] : List Int32).length ∧ f = (fun j => ([116, 104, 114, 111, 110, 101] : List Int32).getD j 0) ∧ vk_R RX7 144 "throne" a s ∧ Sw a v n f A s s.heap := by
  have hq : ∀ c ∈ LE_ev7_144, c.before #[Value.ref b] s = true := fun c h => hs c (LEi_ev7_144 c h)
  obtain ⟨adK, adV, hk, he⟩ := vk_Sof (args := #[Value.ref b]) (s := s) (N := 1) (tm := fun _ => (Term.string "KingHearsModel" 144)) (len := [6]) (byt := [[116, 104, 114, 111, 110, 101]]) (A := A)
    (fun i hi => by obtain rfl : i = 0 := (by omega); decide) (fun i hi => hq (Cond.exactly (Term.string "KingHearsModel" 144) "java/lang/String") (List.mem_of_getElem? (i := 0) rfl)) (fun i hi => hq (Cond.eq (.field (Term.string "KingHearsModel" 144) "java/lang/String" "coder" "B") (.int 0)) (List.mem_of_getElem? (i := 1) rfl)) (fun i hi => hq (Cond.arrayOf (.field (Term.string "KingHearsModel" 144) "java/lang/String" "value" "[B") .byte) (List.mem_of_getElem? (i := 2) rfl))
    (fun i hi => by obtain rfl : i = 0 := (by omega); exact hq (Cond.eq (.length (.field (Term.string "KingHearsModel" 144) "java/lang/String" "value" "[B")) (.int 6)) (List.mem_of_getElem? (i := 3) rfl))
    (fun i hi j hj => by
      obtain rfl : i = 0 := (by omega)
      have hj : j < 6 := hj
      rcases (show j = 0 ∨ j = 1 ∨ j = 2 ∨ j = 3 ∨ j = 4 ∨ j = 5 by omega) with rfl | rfl | rfl | rfl | rfl | rfl
      · exact hq (Cond.eq (.elem (.field (Term.string "KingHearsModel" 144) "java/lang/String" "value" "[B") (.int 0)) (.int 116)) (List.mem_of_getElem? (i := 4) rfl)
      · exact hq (Cond.eq (.elem (.field (Term.string "KingHearsModel" 144) "java/lang/String" "value" "[B") (.int 1)) (.int 104)) (List.mem_of_getElem? (i := 5) rfl)
      · exact hq (Cond.eq (.elem (.field (Term.string "KingHearsModel" 144) "java/lang/String" "value" "[B") (.int 2)) (.int 114)) (List.mem_of_getElem? (i := 6) rfl)
      · exact hq (Cond.eq (.elem (.field (Term.string "KingHearsModel" 144) "java/lang/String" "value" "[B") (.int 3)) (.int 111)) (List.mem_of_getElem? (i := 7) rfl)
      · exact hq (Cond.eq (.elem (.field (Term.string "KingHearsModel" 144) "java/lang/String" "value" "[B") (.int 4)) (.int 110)) (List.mem_of_getElem? (i := 8) rfl)
      · exact hq (Cond.eq (.elem (.field (Term.string "KingHearsModel" 144) "java/lang/String" "value" "[B") (.int 5)) (.int 101)) (List.mem_of_getElem? (i := 9) rfl)
    ) (fun i j hi hj h => absurd (show i = j by omega) h) hA
  exact ⟨adK 0, adV 0, 6, fun j => ([116, 104, 114, 111, 110, 101] : List Int32).getD j 0, by decide, rfl, rfl, vk_R.of (hts _ (List.mem_append_right _ (List.mem_of_getElem? (i := 1354) (by decide +kernel)))) (he 0 (by decide)), hk.1 0 (by decide)⟩
def LE_ev7_146 : List Cond := [Cond.exactly (Term.string "KingHearsModel" 146) "java/lang/String", Cond.eq (.field (Term.string "KingHearsModel" 146) "java/lang/String" "coder" "B") (.int 0), Cond.arrayOf (.field (Term.string "KingHearsModel" 146) "java/lang/String" "value" "[B") .byte, Cond.eq (.length (.field (Term.string "KingHearsModel" 146) "java/lang/String" "value" "[B")) (.int 6), Cond.eq (.elem (.field (Term.string "KingHearsModel" 146) "java/lang/String" "value" "[B") (.int 0)) (.int 117), Cond.eq (.elem (.field (Term.string "KingHearsModel" 146) "java/lang/String" "value" "[B") (.int 1)) (.int 110), Cond.eq (.elem (.field (Term.string "KingHearsModel" 146) "java/lang/String" "value" "[B") (.int 2)) (.int 115), Cond.eq (.elem (.field (Term.string "KingHearsModel" 146) "java/lang/String" "value" "[B") (.int 3)) (.int 117), Cond.eq (.elem (.field (Term.string "KingHearsModel" 146) "java/lang/String" "value" "[B") (.int 4)) (.int 114), Cond.eq (.elem (.field (Term.string "KingHearsModel" 146) "java/lang/String" "value" "[B") (.int 5)) (.int 101)]
set_option maxRecDepth 100000 in
theorem LEi_ev7_146 : ∀ c ∈ LE_ev7_146, c ∈ flatC (Jvm.Cond.and given_1 narrow_1) := mem_idx [341, 342, 343, 344, 345, 346, 347, 348, 349, 350] rfl
set_option maxRecDepth 100000 in
theorem ev7_146 {s : State} {b : Nat} (hts : ∀ w ∈ lw_tbl, w.before #[Value.ref b] s = true) (hs : ∀ c ∈ flatC (Jvm.Cond.and given_1 narrow_1), c.before #[Value.ref b] s = true) {A : Nat → Prop} (hA : ∀ a : Nat, a < s.heap.size → ¬ A a) : ∃ (a v n : Nat) (f : Nat → Int32), n ≤ 8 ∧ n = ([117, 110, 115, 117, 114, 101] : List Int32).length ∧ f = (fun j => ([117, 110, 115, 117, 114, 101] : List Int32).getD j 0) ∧ vk_R RX7 146 "unsure" a s ∧ Sw a v n f A s s.heap := by
  have hq : ∀ c ∈ LE_ev7_146, c.before #[Value.ref b] s = true := fun c h => hs c (LEi_ev7_146 c h)
  obtain ⟨adK, adV, hk, he⟩ := vk_Sof (args := #[Value.ref b]) (s := s) (N := 1) (tm := fun _ => (Term.string "KingHearsModel" 146)) (len := [6]) (byt := [[117, 110, 115, 117, 114, 101]]) (A := A)
    (fun i hi => by obtain rfl : i = 0 := (by omega); decide) (fun i hi => hq (Cond.exactly (Term.string "KingHearsModel" 146) "java/lang/String") (List.mem_of_getElem? (i := 0) rfl)) (fun i hi => hq (Cond.eq (.field (Term.string "KingHearsModel" 146) "java/lang/String" "coder" "B") (.int 0)) (List.mem_of_getElem? (i := 1) rfl)) (fun i hi => hq (Cond.arrayOf (.field (Term.string "KingHearsModel" 146) "java/lang/String" "value" "[B") .byte) (List.mem_of_getElem? (i := 2) rfl))
    (fun i hi => by obtain rfl : i = 0 := (by omega); exact hq (Cond.eq (.length (.field (Term.string "KingHearsModel" 146) "java/lang/String" "value" "[B")) (.int 6)) (List.mem_of_getElem? (i := 3) rfl))
    (fun i hi j hj => by
      obtain rfl : i = 0 := (by omega)
      have hj : j < 6 := hj
      rcases (show j = 0 ∨ j = 1 ∨ j = 2 ∨ j = 3 ∨ j = 4 ∨ j = 5 by omega) with rfl | rfl | rfl | rfl | rfl | rfl
      · exact hq (Cond.eq (.elem (.field (Term.string "KingHearsModel" 146) "java/lang/String" "value" "[B") (.int 0)) (.int 117)) (List.mem_of_getElem? (i := 4) rfl)
      · exact hq (Cond.eq (.elem (.field (Term.string "KingHearsModel" 146) "java/lang/String" "value" "[B") (.int 1)) (.int 110)) (List.mem_of_getElem? (i := 5) rfl)
      · exact hq (Cond.eq (.elem (.field (Term.string "KingHearsModel" 146) "java/lang/String" "value" "[B") (.int 2)) (.int 115)) (List.mem_of_getElem? (i := 6) rfl)
      · exact hq (Cond.eq (.elem (.field (Term.string "KingHearsModel" 146) "java/lang/String" "value" "[B") (.int 3)) (.int 117)) (List.mem_of_getElem? (i := 7) rfl)
      · exact hq (Cond.eq (.elem (.field (Term.string "KingHearsModel" 146) "java/lang/String" "value" "[B") (.int 4)) (.int 114)) (List.mem_of_getElem? (i := 8) rfl)
      · exact hq (Cond.eq (.elem (.field (Term.string "KingHearsModel" 146) "java/lang/String" "value" "[B") (.int 5)) (.int 101)) (List.mem_of_getElem? (i := 9) rfl)
    ) (fun i j hi hj h => absurd (show i = j by omega) h) hA
  exact ⟨adK 0, adV 0, 6, fun j => ([117, 110, 115, 117, 114, 101] : List Int32).getD j 0, by decide, rfl, rfl, vk_R.of (hts _ (List.mem_append_right _ (List.mem_of_getElem? (i := 1355) (by decide +kernel)))) (he 0 (by decide)), hk.1 0 (by decide)⟩
def LE_ev7_148 : List Cond := [Cond.exactly (Term.string "KingHearsModel" 148) "java/lang/String", Cond.eq (.field (Term.string "KingHearsModel" 148) "java/lang/String" "coder" "B") (.int 0), Cond.arrayOf (.field (Term.string "KingHearsModel" 148) "java/lang/String" "value" "[B") .byte, Cond.eq (.length (.field (Term.string "KingHearsModel" 148) "java/lang/String" "value" "[B")) (.int 4), Cond.eq (.elem (.field (Term.string "KingHearsModel" 148) "java/lang/String" "value" "[B") (.int 0)) (.int 115), Cond.eq (.elem (.field (Term.string "KingHearsModel" 148) "java/lang/String" "value" "[B") (.int 1)) (.int 97), Cond.eq (.elem (.field (Term.string "KingHearsModel" 148) "java/lang/String" "value" "[B") (.int 2)) (.int 105), Cond.eq (.elem (.field (Term.string "KingHearsModel" 148) "java/lang/String" "value" "[B") (.int 3)) (.int 100)]
set_option maxRecDepth 100000 in
theorem LEi_ev7_148 : ∀ c ∈ LE_ev7_148, c ∈ flatC (Jvm.Cond.and given_1 narrow_1) := mem_idx [369, 370, 371, 372, 373, 374, 375, 376] rfl
set_option maxRecDepth 100000 in
theorem ev7_148 {s : State} {b : Nat} (hts : ∀ w ∈ lw_tbl, w.before #[Value.ref b] s = true) (hs : ∀ c ∈ flatC (Jvm.Cond.and given_1 narrow_1), c.before #[Value.ref b] s = true) {A : Nat → Prop} (hA : ∀ a : Nat, a < s.heap.size → ¬ A a) : ∃ (a v n : Nat) (f : Nat → Int32), n ≤ 8 ∧ n = ([115, 97, 105, 100] : List Int32).length ∧ f = (fun j => ([115, 97, 105, 100] : List Int32).getD j 0) ∧ vk_R RX7 148 "said" a s ∧ Sw a v n f A s s.heap := by
  have hq : ∀ c ∈ LE_ev7_148, c.before #[Value.ref b] s = true := fun c h => hs c (LEi_ev7_148 c h)
  obtain ⟨adK, adV, hk, he⟩ := vk_Sof (args := #[Value.ref b]) (s := s) (N := 1) (tm := fun _ => (Term.string "KingHearsModel" 148)) (len := [4]) (byt := [[115, 97, 105, 100]]) (A := A)
    (fun i hi => by obtain rfl : i = 0 := (by omega); decide) (fun i hi => hq (Cond.exactly (Term.string "KingHearsModel" 148) "java/lang/String") (List.mem_of_getElem? (i := 0) rfl)) (fun i hi => hq (Cond.eq (.field (Term.string "KingHearsModel" 148) "java/lang/String" "coder" "B") (.int 0)) (List.mem_of_getElem? (i := 1) rfl)) (fun i hi => hq (Cond.arrayOf (.field (Term.string "KingHearsModel" 148) "java/lang/String" "value" "[B") .byte) (List.mem_of_getElem? (i := 2) rfl))
    (fun i hi => by obtain rfl : i = 0 := (by omega); exact hq (Cond.eq (.length (.field (Term.string "KingHearsModel" 148) "java/lang/String" "value" "[B")) (.int 4)) (List.mem_of_getElem? (i := 3) rfl))
    (fun i hi j hj => by
      obtain rfl : i = 0 := (by omega)
      have hj : j < 4 := hj
      rcases (show j = 0 ∨ j = 1 ∨ j = 2 ∨ j = 3 by omega) with rfl | rfl | rfl | rfl
      · exact hq (Cond.eq (.elem (.field (Term.string "KingHearsModel" 148) "java/lang/String" "value" "[B") (.int 0)) (.int 115)) (List.mem_of_getElem? (i := 4) rfl)
      · exact hq (Cond.eq (.elem (.field (Term.string "KingHearsModel" 148) "java/lang/String" "value" "[B") (.int 1)) (.int 97)) (List.mem_of_getElem? (i := 5) rfl)
      · exact hq (Cond.eq (.elem (.field (Term.string "KingHearsModel" 148) "java/lang/String" "value" "[B") (.int 2)) (.int 105)) (List.mem_of_getElem? (i := 6) rfl)
      · exact hq (Cond.eq (.elem (.field (Term.string "KingHearsModel" 148) "java/lang/String" "value" "[B") (.int 3)) (.int 100)) (List.mem_of_getElem? (i := 7) rfl)
    ) (fun i j hi hj h => absurd (show i = j by omega) h) hA
  exact ⟨adK 0, adV 0, 4, fun j => ([115, 97, 105, 100] : List Int32).getD j 0, by decide, rfl, rfl, vk_R.of (hts _ (List.mem_append_right _ (List.mem_of_getElem? (i := 1356) (by decide +kernel)))) (he 0 (by decide)), hk.1 0 (by decide)⟩
def LE_ev7_222 : List Cond := [Cond.exactly (Term.string "KingHearsModel" 222) "java/lang/String", Cond.eq (.field (Term.string "KingHearsModel" 222) "java/lang/String" "coder" "B") (.int 0), Cond.arrayOf (.field (Term.string "KingHearsModel" 222) "java/lang/String" "value" "[B") .byte, Cond.eq (.length (.field (Term.string "KingHearsModel" 222) "java/lang/String" "value" "[B")) (.int 5), Cond.eq (.elem (.field (Term.string "KingHearsModel" 222) "java/lang/String" "value" "[B") (.int 0)) (.int 115), Cond.eq (.elem (.field (Term.string "KingHearsModel" 222) "java/lang/String" "value" "[B") (.int 1)) (.int 108), Cond.eq (.elem (.field (Term.string "KingHearsModel" 222) "java/lang/String" "value" "[B") (.int 2)) (.int 105), Cond.eq (.elem (.field (Term.string "KingHearsModel" 222) "java/lang/String" "value" "[B") (.int 3)) (.int 112), Cond.eq (.elem (.field (Term.string "KingHearsModel" 222) "java/lang/String" "value" "[B") (.int 4)) (.int 115)]
set_option maxRecDepth 100000 in
theorem LEi_ev7_222 : ∀ c ∈ LE_ev7_222, c ∈ flatC (Jvm.Cond.and given_1 narrow_1) := mem_idx [200, 201, 202, 203, 204, 205, 206, 207, 208] rfl
set_option maxRecDepth 100000 in
theorem ev7_222 {s : State} {b : Nat} (hts : ∀ w ∈ lw_tbl, w.before #[Value.ref b] s = true) (hs : ∀ c ∈ flatC (Jvm.Cond.and given_1 narrow_1), c.before #[Value.ref b] s = true) {A : Nat → Prop} (hA : ∀ a : Nat, a < s.heap.size → ¬ A a) : ∃ (a v n : Nat) (f : Nat → Int32), n ≤ 8 ∧ n = ([115, 108, 105, 112, 115] : List Int32).length ∧ f = (fun j => ([115, 108, 105, 112, 115] : List Int32).getD j 0) ∧ vk_R RX7 222 "slips" a s ∧ Sw a v n f A s s.heap := by
  have hq : ∀ c ∈ LE_ev7_222, c.before #[Value.ref b] s = true := fun c h => hs c (LEi_ev7_222 c h)
  obtain ⟨adK, adV, hk, he⟩ := vk_Sof (args := #[Value.ref b]) (s := s) (N := 1) (tm := fun _ => (Term.string "KingHearsModel" 222)) (len := [5]) (byt := [[115, 108, 105, 112, 115]]) (A := A)
    (fun i hi => by obtain rfl : i = 0 := (by omega); decide) (fun i hi => hq (Cond.exactly (Term.string "KingHearsModel" 222) "java/lang/String") (List.mem_of_getElem? (i := 0) rfl)) (fun i hi => hq (Cond.eq (.field (Term.string "KingHearsModel" 222) "java/lang/String" "coder" "B") (.int 0)) (List.mem_of_getElem? (i := 1) rfl)) (fun i hi => hq (Cond.arrayOf (.field (Term.string "KingHearsModel" 222) "java/lang/String" "value" "[B") .byte) (List.mem_of_getElem? (i := 2) rfl))
    (fun i hi => by obtain rfl : i = 0 := (by omega); exact hq (Cond.eq (.length (.field (Term.string "KingHearsModel" 222) "java/lang/String" "value" "[B")) (.int 5)) (List.mem_of_getElem? (i := 3) rfl))
    (fun i hi j hj => by
      obtain rfl : i = 0 := (by omega)
      have hj : j < 5 := hj
      rcases (show j = 0 ∨ j = 1 ∨ j = 2 ∨ j = 3 ∨ j = 4 by omega) with rfl | rfl | rfl | rfl | rfl
      · exact hq (Cond.eq (.elem (.field (Term.string "KingHearsModel" 222) "java/lang/String" "value" "[B") (.int 0)) (.int 115)) (List.mem_of_getElem? (i := 4) rfl)
      · exact hq (Cond.eq (.elem (.field (Term.string "KingHearsModel" 222) "java/lang/String" "value" "[B") (.int 1)) (.int 108)) (List.mem_of_getElem? (i := 5) rfl)
      · exact hq (Cond.eq (.elem (.field (Term.string "KingHearsModel" 222) "java/lang/String" "value" "[B") (.int 2)) (.int 105)) (List.mem_of_getElem? (i := 6) rfl)
      · exact hq (Cond.eq (.elem (.field (Term.string "KingHearsModel" 222) "java/lang/String" "value" "[B") (.int 3)) (.int 112)) (List.mem_of_getElem? (i := 7) rfl)
      · exact hq (Cond.eq (.elem (.field (Term.string "KingHearsModel" 222) "java/lang/String" "value" "[B") (.int 4)) (.int 115)) (List.mem_of_getElem? (i := 8) rfl)
    ) (fun i j hi hj h => absurd (show i = j by omega) h) hA
  exact ⟨adK 0, adV 0, 5, fun j => ([115, 108, 105, 112, 115] : List Int32).getD j 0, by decide, rfl, rfl, vk_R.of (hts _ (List.mem_append_right _ (List.mem_of_getElem? (i := 1313) (by decide +kernel)))) (he 0 (by decide)), hk.1 0 (by decide)⟩
def LE_ev7_231 : List Cond := [Cond.exactly (Term.string "KingHearsModel" 231) "java/lang/String", Cond.eq (.field (Term.string "KingHearsModel" 231) "java/lang/String" "coder" "B") (.int 0), Cond.arrayOf (.field (Term.string "KingHearsModel" 231) "java/lang/String" "value" "[B") .byte, Cond.eq (.length (.field (Term.string "KingHearsModel" 231) "java/lang/String" "value" "[B")) (.int 5), Cond.eq (.elem (.field (Term.string "KingHearsModel" 231) "java/lang/String" "value" "[B") (.int 0)) (.int 119), Cond.eq (.elem (.field (Term.string "KingHearsModel" 231) "java/lang/String" "value" "[B") (.int 1)) (.int 111), Cond.eq (.elem (.field (Term.string "KingHearsModel" 231) "java/lang/String" "value" "[B") (.int 2)) (.int 114), Cond.eq (.elem (.field (Term.string "KingHearsModel" 231) "java/lang/String" "value" "[B") (.int 3)) (.int 116), Cond.eq (.elem (.field (Term.string "KingHearsModel" 231) "java/lang/String" "value" "[B") (.int 4)) (.int 104)]
set_option maxRecDepth 100000 in
theorem LEi_ev7_231 : ∀ c ∈ LE_ev7_231, c ∈ flatC (Jvm.Cond.and given_1 narrow_1) := mem_idx [396, 397, 398, 399, 400, 401, 402, 403, 404] rfl
set_option maxRecDepth 100000 in
theorem ev7_231 {s : State} {b : Nat} (hts : ∀ w ∈ lw_tbl, w.before #[Value.ref b] s = true) (hs : ∀ c ∈ flatC (Jvm.Cond.and given_1 narrow_1), c.before #[Value.ref b] s = true) {A : Nat → Prop} (hA : ∀ a : Nat, a < s.heap.size → ¬ A a) : ∃ (a v n : Nat) (f : Nat → Int32), n ≤ 8 ∧ n = ([119, 111, 114, 116, 104] : List Int32).length ∧ f = (fun j => ([119, 111, 114, 116, 104] : List Int32).getD j 0) ∧ vk_R RX7 231 "worth" a s ∧ Sw a v n f A s s.heap := by
  have hq : ∀ c ∈ LE_ev7_231, c.before #[Value.ref b] s = true := fun c h => hs c (LEi_ev7_231 c h)
  obtain ⟨adK, adV, hk, he⟩ := vk_Sof (args := #[Value.ref b]) (s := s) (N := 1) (tm := fun _ => (Term.string "KingHearsModel" 231)) (len := [5]) (byt := [[119, 111, 114, 116, 104]]) (A := A)
    (fun i hi => by obtain rfl : i = 0 := (by omega); decide) (fun i hi => hq (Cond.exactly (Term.string "KingHearsModel" 231) "java/lang/String") (List.mem_of_getElem? (i := 0) rfl)) (fun i hi => hq (Cond.eq (.field (Term.string "KingHearsModel" 231) "java/lang/String" "coder" "B") (.int 0)) (List.mem_of_getElem? (i := 1) rfl)) (fun i hi => hq (Cond.arrayOf (.field (Term.string "KingHearsModel" 231) "java/lang/String" "value" "[B") .byte) (List.mem_of_getElem? (i := 2) rfl))
    (fun i hi => by obtain rfl : i = 0 := (by omega); exact hq (Cond.eq (.length (.field (Term.string "KingHearsModel" 231) "java/lang/String" "value" "[B")) (.int 5)) (List.mem_of_getElem? (i := 3) rfl))
    (fun i hi j hj => by
      obtain rfl : i = 0 := (by omega)
      have hj : j < 5 := hj
      rcases (show j = 0 ∨ j = 1 ∨ j = 2 ∨ j = 3 ∨ j = 4 by omega) with rfl | rfl | rfl | rfl | rfl
      · exact hq (Cond.eq (.elem (.field (Term.string "KingHearsModel" 231) "java/lang/String" "value" "[B") (.int 0)) (.int 119)) (List.mem_of_getElem? (i := 4) rfl)
      · exact hq (Cond.eq (.elem (.field (Term.string "KingHearsModel" 231) "java/lang/String" "value" "[B") (.int 1)) (.int 111)) (List.mem_of_getElem? (i := 5) rfl)
      · exact hq (Cond.eq (.elem (.field (Term.string "KingHearsModel" 231) "java/lang/String" "value" "[B") (.int 2)) (.int 114)) (List.mem_of_getElem? (i := 6) rfl)
      · exact hq (Cond.eq (.elem (.field (Term.string "KingHearsModel" 231) "java/lang/String" "value" "[B") (.int 3)) (.int 116)) (List.mem_of_getElem? (i := 7) rfl)
      · exact hq (Cond.eq (.elem (.field (Term.string "KingHearsModel" 231) "java/lang/String" "value" "[B") (.int 4)) (.int 104)) (List.mem_of_getElem? (i := 8) rfl)
    ) (fun i j hi hj h => absurd (show i = j by omega) h) hA
  exact ⟨adK 0, adV 0, 5, fun j => ([119, 111, 114, 116, 104] : List Int32).getD j 0, by decide, rfl, rfl, vk_R.of (hts _ (List.mem_append_right _ (List.mem_of_getElem? (i := 1364) (by decide +kernel)))) (he 0 (by decide)), hk.1 0 (by decide)⟩
set_option maxRecDepth 100000 in
theorem ev_start {s : State} {b : Nat} (hts : ∀ w ∈ lw_tbl, w.before #[Value.ref b] s = true) (hs : ∀ c ∈ flatC (Jvm.Cond.and given_1 narrow_1), c.before #[Value.ref b] s = true) {A : Nat → Prop} (hA : ∀ a : Nat, a < s.heap.size → ¬ A a) : Ev A s s.heap := by
  refine ⟨?_, ⟨?_, ?_⟩, ?_, ?_, ?_⟩
  · exact List.forall_mem_cons.mpr ⟨ev_29 hts hs hA, List.forall_mem_cons.mpr ⟨ev_35 hts hs hA, List.forall_mem_cons.mpr ⟨ev_37 hts hs hA, List.forall_mem_cons.mpr ⟨ev_39 hts hs hA, List.forall_mem_cons.mpr ⟨ev_41 hts hs hA, List.forall_mem_cons.mpr ⟨ev_42 hts hs hA, List.forall_mem_cons.mpr ⟨ev_44 hts hs hA, List.forall_mem_cons.mpr ⟨ev_46 hts hs hA, List.forall_mem_cons.mpr ⟨ev_48 hts hs hA, List.forall_mem_cons.mpr ⟨ev_50 hts hs hA, fun _ h => absurd h List.not_mem_nil⟩⟩⟩⟩⟩⟩⟩⟩⟩⟩
  · exact va_Zof (args := #[Value.ref b]) (hts _ (List.mem_append_right _ (List.mem_of_getElem? (i := 153) (by decide +kernel)))) (hts _ (List.mem_append_right _ (List.mem_of_getElem? (i := 4) (by decide +kernel)))) (va_eqt (hs (Cond.eq (.static "java/lang/String" "COMPACT_STRINGS" "Z") (.int 1)) (List.mem_of_getElem? (i := 4) (by decide +kernel)))) hA
  · exact va_Zqof (args := #[Value.ref b]) (hts _ (List.mem_append_right _ (List.mem_of_getElem? (i := 169) (by decide +kernel)))) (hts _ (List.mem_append_right _ (List.mem_of_getElem? (i := 6) (by decide +kernel)))) (hs (Cond.isRef (.static "jdk/internal/util/Preconditions" "SIOOBE_FORMATTER" "Ljava/util/function/BiFunction;")) (List.mem_of_getElem? (i := 5) (by decide +kernel))) hA
  · exact List.forall_mem_cons.mpr ⟨ev7_134 hts hs hA, List.forall_mem_cons.mpr ⟨ev7_136 hts hs hA, List.forall_mem_cons.mpr ⟨ev7_138 hts hs hA, List.forall_mem_cons.mpr ⟨ev7_140 hts hs hA, List.forall_mem_cons.mpr ⟨ev7_142 hts hs hA, List.forall_mem_cons.mpr ⟨ev7_144 hts hs hA, List.forall_mem_cons.mpr ⟨ev7_146 hts hs hA, List.forall_mem_cons.mpr ⟨ev7_148 hts hs hA, List.forall_mem_cons.mpr ⟨ev7_222 hts hs hA, List.forall_mem_cons.mpr ⟨ev7_231 hts hs hA, fun _ h => absurd h List.not_mem_nil⟩⟩⟩⟩⟩⟩⟩⟩⟩⟩
  · exact List.forall_mem_cons.mpr ⟨va_Nw.of rfl (hts _ (List.mem_append_right _ (List.mem_of_getElem? (i := 259) (by decide +kernel)))), List.forall_mem_cons.mpr ⟨va_Nw.of rfl (hts _ (List.mem_append_right _ (List.mem_of_getElem? (i := 280) (by decide +kernel)))), List.forall_mem_cons.mpr ⟨va_Nw.of rfl (hts _ (List.mem_append_right _ (List.mem_of_getElem? (i := 301) (by decide +kernel)))), List.forall_mem_cons.mpr ⟨va_Nw.of rfl (hts _ (List.mem_append_right _ (List.mem_of_getElem? (i := 334) (by decide +kernel)))), List.forall_mem_cons.mpr ⟨va_Nw.of rfl (hts _ (List.mem_append_right _ (List.mem_of_getElem? (i := 604) (by decide +kernel)))), List.forall_mem_cons.mpr ⟨va_Nw.of rfl (hts _ (List.mem_append_right _ (List.mem_of_getElem? (i := 679) (by decide +kernel)))), fun _ h => absurd h List.not_mem_nil⟩⟩⟩⟩⟩⟩
  · exact va_AO.of (hts _ (List.mem_append_right _ (List.mem_of_getElem? (i := 277) (by decide +kernel))))
