set_option maxRecDepth 100000 in
theorem ev_29 {s : State} {b : Nat} (hts : ∀ w ∈ lw_tbl, w.before #[Value.ref b] s = true) (hs : ∀ c ∈ flatC (Jvm.Cond.and given_1 narrow_1), c.before #[Value.ref b] s = true) {A : Nat → Prop} (hA : ∀ a : Nat, a < s.heap.size → ¬ A a) : ∃ (a v n : Nat) (f : Nat → Int32), n ≤ 8 ∧ n = ([119, 111, 114, 100] : List Int32).length ∧ f = (fun j => ([119, 111, 114, 100] : List Int32).getD j 0) ∧ vk_R RX3 29 "word" a s ∧ Sw a v n f A s s.heap := by
  obtain ⟨adK, adV, hk, he⟩ := vk_Sof (args := #[Value.ref b]) (s := s) (N := 1) (tm := fun _ => (Term.string "KingHears$Reader" 29)) (len := [4]) (byt := [[119, 111, 114, 100]]) (A := A)
    (fun i hi => by obtain rfl : i = 0 := (by omega); decide) (fun i hi => hs (Cond.exactly (Term.string "KingHears$Reader" 29) "java/lang/String") (by decide +kernel)) (fun i hi => hs (Cond.eq (.field (Term.string "KingHears$Reader" 29) "java/lang/String" "coder" "B") (.int 0)) (by decide +kernel)) (fun i hi => hs (Cond.arrayOf (.field (Term.string "KingHears$Reader" 29) "java/lang/String" "value" "[B") .byte) (by decide +kernel))
    (fun i hi => by obtain rfl : i = 0 := (by omega); exact hs (Cond.eq (.length (.field (Term.string "KingHears$Reader" 29) "java/lang/String" "value" "[B")) (.int 4)) (by decide +kernel))
    (fun i hi j hj => by
      obtain rfl : i = 0 := (by omega)
      have hj : j < 4 := hj
      rcases (show j = 0 ∨ j = 1 ∨ j = 2 ∨ j = 3 by omega) with rfl | rfl | rfl | rfl
      · exact hs (Cond.eq (.elem (.field (Term.string "KingHears$Reader" 29) "java/lang/String" "value" "[B") (.int 0)) (.int 119)) (by decide +kernel)
      · exact hs (Cond.eq (.elem (.field (Term.string "KingHears$Reader" 29) "java/lang/String" "value" "[B") (.int 1)) (.int 111)) (by decide +kernel)
      · exact hs (Cond.eq (.elem (.field (Term.string "KingHears$Reader" 29) "java/lang/String" "value" "[B") (.int 2)) (.int 114)) (by decide +kernel)
      · exact hs (Cond.eq (.elem (.field (Term.string "KingHears$Reader" 29) "java/lang/String" "value" "[B") (.int 3)) (.int 100)) (by decide +kernel)
    ) (fun i j hi hj h => absurd (show i = j by omega) h) hA
  exact ⟨adK 0, adV 0, 4, fun j => ([119, 111, 114, 100] : List Int32).getD j 0, by decide, rfl, rfl, vk_R.of (hts _ (List.mem_append_right _ (List.mem_of_getElem? (i := 140) (by decide +kernel)))) (he 0 (by decide)), hk.1 0 (by decide)⟩
set_option maxRecDepth 100000 in
theorem ev_35 {s : State} {b : Nat} (hts : ∀ w ∈ lw_tbl, w.before #[Value.ref b] s = true) (hs : ∀ c ∈ flatC (Jvm.Cond.and given_1 narrow_1), c.before #[Value.ref b] s = true) {A : Nat → Prop} (hA : ∀ a : Nat, a < s.heap.size → ¬ A a) : ∃ (a v n : Nat) (f : Nat → Int32), n ≤ 8 ∧ n = ([107, 105, 110, 103] : List Int32).length ∧ f = (fun j => ([107, 105, 110, 103] : List Int32).getD j 0) ∧ vk_R RX3 35 "king" a s ∧ Sw a v n f A s s.heap := by
  obtain ⟨adK, adV, hk, he⟩ := vk_Sof (args := #[Value.ref b]) (s := s) (N := 1) (tm := fun _ => (Term.string "KingHears$Reader" 35)) (len := [4]) (byt := [[107, 105, 110, 103]]) (A := A)
    (fun i hi => by obtain rfl : i = 0 := (by omega); decide) (fun i hi => hs (Cond.exactly (Term.string "KingHears$Reader" 35) "java/lang/String") (by decide +kernel)) (fun i hi => hs (Cond.eq (.field (Term.string "KingHears$Reader" 35) "java/lang/String" "coder" "B") (.int 0)) (by decide +kernel)) (fun i hi => hs (Cond.arrayOf (.field (Term.string "KingHears$Reader" 35) "java/lang/String" "value" "[B") .byte) (by decide +kernel))
    (fun i hi => by obtain rfl : i = 0 := (by omega); exact hs (Cond.eq (.length (.field (Term.string "KingHears$Reader" 35) "java/lang/String" "value" "[B")) (.int 4)) (by decide +kernel))
    (fun i hi j hj => by
      obtain rfl : i = 0 := (by omega)
      have hj : j < 4 := hj
      rcases (show j = 0 ∨ j = 1 ∨ j = 2 ∨ j = 3 by omega) with rfl | rfl | rfl | rfl
      · exact hs (Cond.eq (.elem (.field (Term.string "KingHears$Reader" 35) "java/lang/String" "value" "[B") (.int 0)) (.int 107)) (by decide +kernel)
      · exact hs (Cond.eq (.elem (.field (Term.string "KingHears$Reader" 35) "java/lang/String" "value" "[B") (.int 1)) (.int 105)) (by decide +kernel)
      · exact hs (Cond.eq (.elem (.field (Term.string "KingHears$Reader" 35) "java/lang/String" "value" "[B") (.int 2)) (.int 110)) (by decide +kernel)
      · exact hs (Cond.eq (.elem (.field (Term.string "KingHears$Reader" 35) "java/lang/String" "value" "[B") (.int 3)) (.int 103)) (by decide +kernel)
    ) (fun i j hi hj h => absurd (show i = j by omega) h) hA
  exact ⟨adK 0, adV 0, 4, fun j => ([107, 105, 110, 103] : List Int32).getD j 0, by decide, rfl, rfl, vk_R.of (hts _ (List.mem_append_right _ (List.mem_of_getElem? (i := 196) (by decide +kernel)))) (he 0 (by decide)), hk.1 0 (by decide)⟩
set_option maxRecDepth 100000 in
theorem ev_37 {s : State} {b : Nat} (hts : ∀ w ∈ lw_tbl, w.before #[Value.ref b] s = true) (hs : ∀ c ∈ flatC (Jvm.Cond.and given_1 narrow_1), c.before #[Value.ref b] s = true) {A : Nat → Prop} (hA : ∀ a : Nat, a < s.heap.size → ¬ A a) : ∃ (a v n : Nat) (f : Nat → Int32), n ≤ 8 ∧ n = ([113, 117, 101, 101, 110] : List Int32).length ∧ f = (fun j => ([113, 117, 101, 101, 110] : List Int32).getD j 0) ∧ vk_R RX3 37 "queen" a s ∧ Sw a v n f A s s.heap := by
  obtain ⟨adK, adV, hk, he⟩ := vk_Sof (args := #[Value.ref b]) (s := s) (N := 1) (tm := fun _ => (Term.string "KingHears$Reader" 37)) (len := [5]) (byt := [[113, 117, 101, 101, 110]]) (A := A)
    (fun i hi => by obtain rfl : i = 0 := (by omega); decide) (fun i hi => hs (Cond.exactly (Term.string "KingHears$Reader" 37) "java/lang/String") (by decide +kernel)) (fun i hi => hs (Cond.eq (.field (Term.string "KingHears$Reader" 37) "java/lang/String" "coder" "B") (.int 0)) (by decide +kernel)) (fun i hi => hs (Cond.arrayOf (.field (Term.string "KingHears$Reader" 37) "java/lang/String" "value" "[B") .byte) (by decide +kernel))
    (fun i hi => by obtain rfl : i = 0 := (by omega); exact hs (Cond.eq (.length (.field (Term.string "KingHears$Reader" 37) "java/lang/String" "value" "[B")) (.int 5)) (by decide +kernel))
    (fun i hi j hj => by
      obtain rfl : i = 0 := (by omega)
      have hj : j < 5 := hj
      rcases (show j = 0 ∨ j = 1 ∨ j = 2 ∨ j = 3 ∨ j = 4 by omega) with rfl | rfl | rfl | rfl | rfl
      · exact hs (Cond.eq (.elem (.field (Term.string "KingHears$Reader" 37) "java/lang/String" "value" "[B") (.int 0)) (.int 113)) (by decide +kernel)
      · exact hs (Cond.eq (.elem (.field (Term.string "KingHears$Reader" 37) "java/lang/String" "value" "[B") (.int 1)) (.int 117)) (by decide +kernel)
      · exact hs (Cond.eq (.elem (.field (Term.string "KingHears$Reader" 37) "java/lang/String" "value" "[B") (.int 2)) (.int 101)) (by decide +kernel)
      · exact hs (Cond.eq (.elem (.field (Term.string "KingHears$Reader" 37) "java/lang/String" "value" "[B") (.int 3)) (.int 101)) (by decide +kernel)
      · exact hs (Cond.eq (.elem (.field (Term.string "KingHears$Reader" 37) "java/lang/String" "value" "[B") (.int 4)) (.int 110)) (by decide +kernel)
    ) (fun i j hi hj h => absurd (show i = j by omega) h) hA
  exact ⟨adK 0, adV 0, 5, fun j => ([113, 117, 101, 101, 110] : List Int32).getD j 0, by decide, rfl, rfl, vk_R.of (hts _ (List.mem_append_right _ (List.mem_of_getElem? (i := 197) (by decide +kernel)))) (he 0 (by decide)), hk.1 0 (by decide)⟩
set_option maxRecDepth 100000 in
theorem ev_39 {s : State} {b : Nat} (hts : ∀ w ∈ lw_tbl, w.before #[Value.ref b] s = true) (hs : ∀ c ∈ flatC (Jvm.Cond.and given_1 narrow_1), c.before #[Value.ref b] s = true) {A : Nat → Prop} (hA : ∀ a : Nat, a < s.heap.size → ¬ A a) : ∃ (a v n : Nat) (f : Nat → Int32), n ≤ 8 ∧ n = ([99, 104, 97, 110, 99, 101] : List Int32).length ∧ f = (fun j => ([99, 104, 97, 110, 99, 101] : List Int32).getD j 0) ∧ vk_R RX3 39 "chance" a s ∧ Sw a v n f A s s.heap := by
  obtain ⟨adK, adV, hk, he⟩ := vk_Sof (args := #[Value.ref b]) (s := s) (N := 1) (tm := fun _ => (Term.string "KingHears$Reader" 39)) (len := [6]) (byt := [[99, 104, 97, 110, 99, 101]]) (A := A)
    (fun i hi => by obtain rfl : i = 0 := (by omega); decide) (fun i hi => hs (Cond.exactly (Term.string "KingHears$Reader" 39) "java/lang/String") (by decide +kernel)) (fun i hi => hs (Cond.eq (.field (Term.string "KingHears$Reader" 39) "java/lang/String" "coder" "B") (.int 0)) (by decide +kernel)) (fun i hi => hs (Cond.arrayOf (.field (Term.string "KingHears$Reader" 39) "java/lang/String" "value" "[B") .byte) (by decide +kernel))
    (fun i hi => by obtain rfl : i = 0 := (by omega); exact hs (Cond.eq (.length (.field (Term.string "KingHears$Reader" 39) "java/lang/String" "value" "[B")) (.int 6)) (by decide +kernel))
    (fun i hi j hj => by
      obtain rfl : i = 0 := (by omega)
      have hj : j < 6 := hj
      rcases (show j = 0 ∨ j = 1 ∨ j = 2 ∨ j = 3 ∨ j = 4 ∨ j = 5 by omega) with rfl | rfl | rfl | rfl | rfl | rfl
      · exact hs (Cond.eq (.elem (.field (Term.string "KingHears$Reader" 39) "java/lang/String" "value" "[B") (.int 0)) (.int 99)) (by decide +kernel)
      · exact hs (Cond.eq (.elem (.field (Term.string "KingHears$Reader" 39) "java/lang/String" "value" "[B") (.int 1)) (.int 104)) (by decide +kernel)
      · exact hs (Cond.eq (.elem (.field (Term.string "KingHears$Reader" 39) "java/lang/String" "value" "[B") (.int 2)) (.int 97)) (by decide +kernel)
      · exact hs (Cond.eq (.elem (.field (Term.string "KingHears$Reader" 39) "java/lang/String" "value" "[B") (.int 3)) (.int 110)) (by decide +kernel)
      · exact hs (Cond.eq (.elem (.field (Term.string "KingHears$Reader" 39) "java/lang/String" "value" "[B") (.int 4)) (.int 99)) (by decide +kernel)
      · exact hs (Cond.eq (.elem (.field (Term.string "KingHears$Reader" 39) "java/lang/String" "value" "[B") (.int 5)) (.int 101)) (by decide +kernel)
    ) (fun i j hi hj h => absurd (show i = j by omega) h) hA
  exact ⟨adK 0, adV 0, 6, fun j => ([99, 104, 97, 110, 99, 101] : List Int32).getD j 0, by decide, rfl, rfl, vk_R.of (hts _ (List.mem_append_right _ (List.mem_of_getElem? (i := 198) (by decide +kernel)))) (he 0 (by decide)), hk.1 0 (by decide)⟩
set_option maxRecDepth 100000 in
theorem ev_41 {s : State} {b : Nat} (hts : ∀ w ∈ lw_tbl, w.before #[Value.ref b] s = true) (hs : ∀ c ∈ flatC (Jvm.Cond.and given_1 narrow_1), c.before #[Value.ref b] s = true) {A : Nat → Prop} (hA : ∀ a : Nat, a < s.heap.size → ¬ A a) : ∃ (a v n : Nat) (f : Nat → Int32), n ≤ 8 ∧ n = ([99, 111, 117, 114, 116] : List Int32).length ∧ f = (fun j => ([99, 111, 117, 114, 116] : List Int32).getD j 0) ∧ vk_R RX3 41 "court" a s ∧ Sw a v n f A s s.heap := by
  obtain ⟨adK, adV, hk, he⟩ := vk_Sof (args := #[Value.ref b]) (s := s) (N := 1) (tm := fun _ => (Term.string "KingHears$Reader" 41)) (len := [5]) (byt := [[99, 111, 117, 114, 116]]) (A := A)
    (fun i hi => by obtain rfl : i = 0 := (by omega); decide) (fun i hi => hs (Cond.exactly (Term.string "KingHears$Reader" 41) "java/lang/String") (by decide +kernel)) (fun i hi => hs (Cond.eq (.field (Term.string "KingHears$Reader" 41) "java/lang/String" "coder" "B") (.int 0)) (by decide +kernel)) (fun i hi => hs (Cond.arrayOf (.field (Term.string "KingHears$Reader" 41) "java/lang/String" "value" "[B") .byte) (by decide +kernel))
    (fun i hi => by obtain rfl : i = 0 := (by omega); exact hs (Cond.eq (.length (.field (Term.string "KingHears$Reader" 41) "java/lang/String" "value" "[B")) (.int 5)) (by decide +kernel))
    (fun i hi j hj => by
      obtain rfl : i = 0 := (by omega)
      have hj : j < 5 := hj
      rcases (show j = 0 ∨ j = 1 ∨ j = 2 ∨ j = 3 ∨ j = 4 by omega) with rfl | rfl | rfl | rfl | rfl
      · exact hs (Cond.eq (.elem (.field (Term.string "KingHears$Reader" 41) "java/lang/String" "value" "[B") (.int 0)) (.int 99)) (by decide +kernel)
      · exact hs (Cond.eq (.elem (.field (Term.string "KingHears$Reader" 41) "java/lang/String" "value" "[B") (.int 1)) (.int 111)) (by decide +kernel)
      · exact hs (Cond.eq (.elem (.field (Term.string "KingHears$Reader" 41) "java/lang/String" "value" "[B") (.int 2)) (.int 117)) (by decide +kernel)
      · exact hs (Cond.eq (.elem (.field (Term.string "KingHears$Reader" 41) "java/lang/String" "value" "[B") (.int 3)) (.int 114)) (by decide +kernel)
      · exact hs (Cond.eq (.elem (.field (Term.string "KingHears$Reader" 41) "java/lang/String" "value" "[B") (.int 4)) (.int 116)) (by decide +kernel)
    ) (fun i j hi hj h => absurd (show i = j by omega) h) hA
  exact ⟨adK 0, adV 0, 5, fun j => ([99, 111, 117, 114, 116] : List Int32).getD j 0, by decide, rfl, rfl, vk_R.of (hts _ (List.mem_append_right _ (List.mem_of_getElem? (i := 199) (by decide +kernel)))) (he 0 (by decide)), hk.1 0 (by decide)⟩
set_option maxRecDepth 100000 in
theorem ev_42 {s : State} {b : Nat} (hts : ∀ w ∈ lw_tbl, w.before #[Value.ref b] s = true) (hs : ∀ c ∈ flatC (Jvm.Cond.and given_1 narrow_1), c.before #[Value.ref b] s = true) {A : Nat → Prop} (hA : ∀ a : Nat, a < s.heap.size → ¬ A a) : ∃ (a v n : Nat) (f : Nat → Int32), n ≤ 8 ∧ n = ([116, 104, 114, 111, 110, 101] : List Int32).length ∧ f = (fun j => ([116, 104, 114, 111, 110, 101] : List Int32).getD j 0) ∧ vk_R RX3 42 "throne" a s ∧ Sw a v n f A s s.heap := by
  obtain ⟨adK, adV, hk, he⟩ := vk_Sof (args := #[Value.ref b]) (s := s) (N := 1) (tm := fun _ => (Term.string "KingHears$Reader" 42)) (len := [6]) (byt := [[116, 104, 114, 111, 110, 101]]) (A := A)
    (fun i hi => by obtain rfl : i = 0 := (by omega); decide) (fun i hi => hs (Cond.exactly (Term.string "KingHears$Reader" 42) "java/lang/String") (by decide +kernel)) (fun i hi => hs (Cond.eq (.field (Term.string "KingHears$Reader" 42) "java/lang/String" "coder" "B") (.int 0)) (by decide +kernel)) (fun i hi => hs (Cond.arrayOf (.field (Term.string "KingHears$Reader" 42) "java/lang/String" "value" "[B") .byte) (by decide +kernel))
    (fun i hi => by obtain rfl : i = 0 := (by omega); exact hs (Cond.eq (.length (.field (Term.string "KingHears$Reader" 42) "java/lang/String" "value" "[B")) (.int 6)) (by decide +kernel))
    (fun i hi j hj => by
      obtain rfl : i = 0 := (by omega)
      have hj : j < 6 := hj
      rcases (show j = 0 ∨ j = 1 ∨ j = 2 ∨ j = 3 ∨ j = 4 ∨ j = 5 by omega) with rfl | rfl | rfl | rfl | rfl | rfl
      · exact hs (Cond.eq (.elem (.field (Term.string "KingHears$Reader" 42) "java/lang/String" "value" "[B") (.int 0)) (.int 116)) (by decide +kernel)
      · exact hs (Cond.eq (.elem (.field (Term.string "KingHears$Reader" 42) "java/lang/String" "value" "[B") (.int 1)) (.int 104)) (by decide +kernel)
      · exact hs (Cond.eq (.elem (.field (Term.string "KingHears$Reader" 42) "java/lang/String" "value" "[B") (.int 2)) (.int 114)) (by decide +kernel)
      · exact hs (Cond.eq (.elem (.field (Term.string "KingHears$Reader" 42) "java/lang/String" "value" "[B") (.int 3)) (.int 111)) (by decide +kernel)
      · exact hs (Cond.eq (.elem (.field (Term.string "KingHears$Reader" 42) "java/lang/String" "value" "[B") (.int 4)) (.int 110)) (by decide +kernel)
      · exact hs (Cond.eq (.elem (.field (Term.string "KingHears$Reader" 42) "java/lang/String" "value" "[B") (.int 5)) (.int 101)) (by decide +kernel)
    ) (fun i j hi hj h => absurd (show i = j by omega) h) hA
  exact ⟨adK 0, adV 0, 6, fun j => ([116, 104, 114, 111, 110, 101] : List Int32).getD j 0, by decide, rfl, rfl, vk_R.of (hts _ (List.mem_append_right _ (List.mem_of_getElem? (i := 200) (by decide +kernel)))) (he 0 (by decide)), hk.1 0 (by decide)⟩
set_option maxRecDepth 100000 in
theorem ev_44 {s : State} {b : Nat} (hts : ∀ w ∈ lw_tbl, w.before #[Value.ref b] s = true) (hs : ∀ c ∈ flatC (Jvm.Cond.and given_1 narrow_1), c.before #[Value.ref b] s = true) {A : Nat → Prop} (hA : ∀ a : Nat, a < s.heap.size → ¬ A a) : ∃ (a v n : Nat) (f : Nat → Int32), n ≤ 8 ∧ n = ([117, 110, 115, 117, 114, 101] : List Int32).length ∧ f = (fun j => ([117, 110, 115, 117, 114, 101] : List Int32).getD j 0) ∧ vk_R RX3 44 "unsure" a s ∧ Sw a v n f A s s.heap := by
  obtain ⟨adK, adV, hk, he⟩ := vk_Sof (args := #[Value.ref b]) (s := s) (N := 1) (tm := fun _ => (Term.string "KingHears$Reader" 44)) (len := [6]) (byt := [[117, 110, 115, 117, 114, 101]]) (A := A)
    (fun i hi => by obtain rfl : i = 0 := (by omega); decide) (fun i hi => hs (Cond.exactly (Term.string "KingHears$Reader" 44) "java/lang/String") (by decide +kernel)) (fun i hi => hs (Cond.eq (.field (Term.string "KingHears$Reader" 44) "java/lang/String" "coder" "B") (.int 0)) (by decide +kernel)) (fun i hi => hs (Cond.arrayOf (.field (Term.string "KingHears$Reader" 44) "java/lang/String" "value" "[B") .byte) (by decide +kernel))
    (fun i hi => by obtain rfl : i = 0 := (by omega); exact hs (Cond.eq (.length (.field (Term.string "KingHears$Reader" 44) "java/lang/String" "value" "[B")) (.int 6)) (by decide +kernel))
    (fun i hi j hj => by
      obtain rfl : i = 0 := (by omega)
      have hj : j < 6 := hj
      rcases (show j = 0 ∨ j = 1 ∨ j = 2 ∨ j = 3 ∨ j = 4 ∨ j = 5 by omega) with rfl | rfl | rfl | rfl | rfl | rfl
      · exact hs (Cond.eq (.elem (.field (Term.string "KingHears$Reader" 44) "java/lang/String" "value" "[B") (.int 0)) (.int 117)) (by decide +kernel)
      · exact hs (Cond.eq (.elem (.field (Term.string "KingHears$Reader" 44) "java/lang/String" "value" "[B") (.int 1)) (.int 110)) (by decide +kernel)
      · exact hs (Cond.eq (.elem (.field (Term.string "KingHears$Reader" 44) "java/lang/String" "value" "[B") (.int 2)) (.int 115)) (by decide +kernel)
      · exact hs (Cond.eq (.elem (.field (Term.string "KingHears$Reader" 44) "java/lang/String" "value" "[B") (.int 3)) (.int 117)) (by decide +kernel)
      · exact hs (Cond.eq (.elem (.field (Term.string "KingHears$Reader" 44) "java/lang/String" "value" "[B") (.int 4)) (.int 114)) (by decide +kernel)
      · exact hs (Cond.eq (.elem (.field (Term.string "KingHears$Reader" 44) "java/lang/String" "value" "[B") (.int 5)) (.int 101)) (by decide +kernel)
    ) (fun i j hi hj h => absurd (show i = j by omega) h) hA
  exact ⟨adK 0, adV 0, 6, fun j => ([117, 110, 115, 117, 114, 101] : List Int32).getD j 0, by decide, rfl, rfl, vk_R.of (hts _ (List.mem_append_right _ (List.mem_of_getElem? (i := 201) (by decide +kernel)))) (he 0 (by decide)), hk.1 0 (by decide)⟩
set_option maxRecDepth 100000 in
theorem ev_46 {s : State} {b : Nat} (hts : ∀ w ∈ lw_tbl, w.before #[Value.ref b] s = true) (hs : ∀ c ∈ flatC (Jvm.Cond.and given_1 narrow_1), c.before #[Value.ref b] s = true) {A : Nat → Prop} (hA : ∀ a : Nat, a < s.heap.size → ¬ A a) : ∃ (a v n : Nat) (f : Nat → Int32), n ≤ 8 ∧ n = ([115, 97, 105, 100] : List Int32).length ∧ f = (fun j => ([115, 97, 105, 100] : List Int32).getD j 0) ∧ vk_R RX3 46 "said" a s ∧ Sw a v n f A s s.heap := by
  obtain ⟨adK, adV, hk, he⟩ := vk_Sof (args := #[Value.ref b]) (s := s) (N := 1) (tm := fun _ => (Term.string "KingHears$Reader" 46)) (len := [4]) (byt := [[115, 97, 105, 100]]) (A := A)
    (fun i hi => by obtain rfl : i = 0 := (by omega); decide) (fun i hi => hs (Cond.exactly (Term.string "KingHears$Reader" 46) "java/lang/String") (by decide +kernel)) (fun i hi => hs (Cond.eq (.field (Term.string "KingHears$Reader" 46) "java/lang/String" "coder" "B") (.int 0)) (by decide +kernel)) (fun i hi => hs (Cond.arrayOf (.field (Term.string "KingHears$Reader" 46) "java/lang/String" "value" "[B") .byte) (by decide +kernel))
    (fun i hi => by obtain rfl : i = 0 := (by omega); exact hs (Cond.eq (.length (.field (Term.string "KingHears$Reader" 46) "java/lang/String" "value" "[B")) (.int 4)) (by decide +kernel))
    (fun i hi j hj => by
      obtain rfl : i = 0 := (by omega)
      have hj : j < 4 := hj
      rcases (show j = 0 ∨ j = 1 ∨ j = 2 ∨ j = 3 by omega) with rfl | rfl | rfl | rfl
      · exact hs (Cond.eq (.elem (.field (Term.string "KingHears$Reader" 46) "java/lang/String" "value" "[B") (.int 0)) (.int 115)) (by decide +kernel)
      · exact hs (Cond.eq (.elem (.field (Term.string "KingHears$Reader" 46) "java/lang/String" "value" "[B") (.int 1)) (.int 97)) (by decide +kernel)
      · exact hs (Cond.eq (.elem (.field (Term.string "KingHears$Reader" 46) "java/lang/String" "value" "[B") (.int 2)) (.int 105)) (by decide +kernel)
      · exact hs (Cond.eq (.elem (.field (Term.string "KingHears$Reader" 46) "java/lang/String" "value" "[B") (.int 3)) (.int 100)) (by decide +kernel)
    ) (fun i j hi hj h => absurd (show i = j by omega) h) hA
  exact ⟨adK 0, adV 0, 4, fun j => ([115, 97, 105, 100] : List Int32).getD j 0, by decide, rfl, rfl, vk_R.of (hts _ (List.mem_append_right _ (List.mem_of_getElem? (i := 202) (by decide +kernel)))) (he 0 (by decide)), hk.1 0 (by decide)⟩
set_option maxRecDepth 100000 in
theorem ev_48 {s : State} {b : Nat} (hts : ∀ w ∈ lw_tbl, w.before #[Value.ref b] s = true) (hs : ∀ c ∈ flatC (Jvm.Cond.and given_1 narrow_1), c.before #[Value.ref b] s = true) {A : Nat → Prop} (hA : ∀ a : Nat, a < s.heap.size → ¬ A a) : ∃ (a v n : Nat) (f : Nat → Int32), n ≤ 8 ∧ n = ([115, 108, 105, 112, 115] : List Int32).length ∧ f = (fun j => ([115, 108, 105, 112, 115] : List Int32).getD j 0) ∧ vk_R RX3 48 "slips" a s ∧ Sw a v n f A s s.heap := by
  obtain ⟨adK, adV, hk, he⟩ := vk_Sof (args := #[Value.ref b]) (s := s) (N := 1) (tm := fun _ => (Term.string "KingHears$Reader" 48)) (len := [5]) (byt := [[115, 108, 105, 112, 115]]) (A := A)
    (fun i hi => by obtain rfl : i = 0 := (by omega); decide) (fun i hi => hs (Cond.exactly (Term.string "KingHears$Reader" 48) "java/lang/String") (by decide +kernel)) (fun i hi => hs (Cond.eq (.field (Term.string "KingHears$Reader" 48) "java/lang/String" "coder" "B") (.int 0)) (by decide +kernel)) (fun i hi => hs (Cond.arrayOf (.field (Term.string "KingHears$Reader" 48) "java/lang/String" "value" "[B") .byte) (by decide +kernel))
    (fun i hi => by obtain rfl : i = 0 := (by omega); exact hs (Cond.eq (.length (.field (Term.string "KingHears$Reader" 48) "java/lang/String" "value" "[B")) (.int 5)) (by decide +kernel))
    (fun i hi j hj => by
      obtain rfl : i = 0 := (by omega)
      have hj : j < 5 := hj
      rcases (show j = 0 ∨ j = 1 ∨ j = 2 ∨ j = 3 ∨ j = 4 by omega) with rfl | rfl | rfl | rfl | rfl
      · exact hs (Cond.eq (.elem (.field (Term.string "KingHears$Reader" 48) "java/lang/String" "value" "[B") (.int 0)) (.int 115)) (by decide +kernel)
      · exact hs (Cond.eq (.elem (.field (Term.string "KingHears$Reader" 48) "java/lang/String" "value" "[B") (.int 1)) (.int 108)) (by decide +kernel)
      · exact hs (Cond.eq (.elem (.field (Term.string "KingHears$Reader" 48) "java/lang/String" "value" "[B") (.int 2)) (.int 105)) (by decide +kernel)
      · exact hs (Cond.eq (.elem (.field (Term.string "KingHears$Reader" 48) "java/lang/String" "value" "[B") (.int 3)) (.int 112)) (by decide +kernel)
      · exact hs (Cond.eq (.elem (.field (Term.string "KingHears$Reader" 48) "java/lang/String" "value" "[B") (.int 4)) (.int 115)) (by decide +kernel)
    ) (fun i j hi hj h => absurd (show i = j by omega) h) hA
  exact ⟨adK 0, adV 0, 5, fun j => ([115, 108, 105, 112, 115] : List Int32).getD j 0, by decide, rfl, rfl, vk_R.of (hts _ (List.mem_append_right _ (List.mem_of_getElem? (i := 203) (by decide +kernel)))) (he 0 (by decide)), hk.1 0 (by decide)⟩
set_option maxRecDepth 100000 in
theorem ev_50 {s : State} {b : Nat} (hts : ∀ w ∈ lw_tbl, w.before #[Value.ref b] s = true) (hs : ∀ c ∈ flatC (Jvm.Cond.and given_1 narrow_1), c.before #[Value.ref b] s = true) {A : Nat → Prop} (hA : ∀ a : Nat, a < s.heap.size → ¬ A a) : ∃ (a v n : Nat) (f : Nat → Int32), n ≤ 8 ∧ n = ([119, 111, 114, 116, 104] : List Int32).length ∧ f = (fun j => ([119, 111, 114, 116, 104] : List Int32).getD j 0) ∧ vk_R RX3 50 "worth" a s ∧ Sw a v n f A s s.heap := by
  obtain ⟨adK, adV, hk, he⟩ := vk_Sof (args := #[Value.ref b]) (s := s) (N := 1) (tm := fun _ => (Term.string "KingHears$Reader" 50)) (len := [5]) (byt := [[119, 111, 114, 116, 104]]) (A := A)
    (fun i hi => by obtain rfl : i = 0 := (by omega); decide) (fun i hi => hs (Cond.exactly (Term.string "KingHears$Reader" 50) "java/lang/String") (by decide +kernel)) (fun i hi => hs (Cond.eq (.field (Term.string "KingHears$Reader" 50) "java/lang/String" "coder" "B") (.int 0)) (by decide +kernel)) (fun i hi => hs (Cond.arrayOf (.field (Term.string "KingHears$Reader" 50) "java/lang/String" "value" "[B") .byte) (by decide +kernel))
    (fun i hi => by obtain rfl : i = 0 := (by omega); exact hs (Cond.eq (.length (.field (Term.string "KingHears$Reader" 50) "java/lang/String" "value" "[B")) (.int 5)) (by decide +kernel))
    (fun i hi j hj => by
      obtain rfl : i = 0 := (by omega)
      have hj : j < 5 := hj
      rcases (show j = 0 ∨ j = 1 ∨ j = 2 ∨ j = 3 ∨ j = 4 by omega) with rfl | rfl | rfl | rfl | rfl
      · exact hs (Cond.eq (.elem (.field (Term.string "KingHears$Reader" 50) "java/lang/String" "value" "[B") (.int 0)) (.int 119)) (by decide +kernel)
      · exact hs (Cond.eq (.elem (.field (Term.string "KingHears$Reader" 50) "java/lang/String" "value" "[B") (.int 1)) (.int 111)) (by decide +kernel)
      · exact hs (Cond.eq (.elem (.field (Term.string "KingHears$Reader" 50) "java/lang/String" "value" "[B") (.int 2)) (.int 114)) (by decide +kernel)
      · exact hs (Cond.eq (.elem (.field (Term.string "KingHears$Reader" 50) "java/lang/String" "value" "[B") (.int 3)) (.int 116)) (by decide +kernel)
      · exact hs (Cond.eq (.elem (.field (Term.string "KingHears$Reader" 50) "java/lang/String" "value" "[B") (.int 4)) (.int 104)) (by decide +kernel)
    ) (fun i j hi hj h => absurd (show i = j by omega) h) hA
  exact ⟨adK 0, adV 0, 5, fun j => ([119, 111, 114, 116, 104] : List Int32).getD j 0, by decide, rfl, rfl, vk_R.of (hts _ (List.mem_append_right _ (List.mem_of_getElem? (i := 204) (by decide +kernel)))) (he 0 (by decide)), hk.1 0 (by decide)⟩
set_option maxRecDepth 100000 in
theorem ev7_134 {s : State} {b : Nat} (hts : ∀ w ∈ lw_tbl, w.before #[Value.ref b] s = true) (hs : ∀ c ∈ flatC (Jvm.Cond.and given_1 narrow_1), c.before #[Value.ref b] s = true) {A : Nat → Prop} (hA : ∀ a : Nat, a < s.heap.size → ¬ A a) : ∃ (a v n : Nat) (f : Nat → Int32), n ≤ 8 ∧ n = ([99, 111, 117, 114, 116] : List Int32).length ∧ f = (fun j => ([99, 111, 117, 114, 116] : List Int32).getD j 0) ∧ vk_R RX7 134 "court" a s ∧ Sw a v n f A s s.heap := by
  obtain ⟨adK, adV, hk, he⟩ := vk_Sof (args := #[Value.ref b]) (s := s) (N := 1) (tm := fun _ => (Term.string "KingHearsModel" 134)) (len := [5]) (byt := [[99, 111, 117, 114, 116]]) (A := A)
    (fun i hi => by obtain rfl : i = 0 := (by omega); decide) (fun i hi => hs (Cond.exactly (Term.string "KingHearsModel" 134) "java/lang/String") (by decide +kernel)) (fun i hi => hs (Cond.eq (.field (Term.string "KingHearsModel" 134) "java/lang/String" "coder" "B") (.int 0)) (by decide +kernel)) (fun i hi => hs (Cond.arrayOf (.field (Term.string "KingHearsModel" 134) "java/lang/String" "value" "[B") .byte) (by decide +kernel))
    (fun i hi => by obtain rfl : i = 0 := (by omega); exact hs (Cond.eq (.length (.field (Term.string "KingHearsModel" 134) "java/lang/String" "value" "[B")) (.int 5)) (by decide +kernel))
    (fun i hi j hj => by
      obtain rfl : i = 0 := (by omega)
      have hj : j < 5 := hj
      rcases (show j = 0 ∨ j = 1 ∨ j = 2 ∨ j = 3 ∨ j = 4 by omega) with rfl | rfl | rfl | rfl | rfl
      · exact hs (Cond.eq (.elem (.field (Term.string "KingHearsModel" 134) "java/lang/String" "value" "[B") (.int 0)) (.int 99)) (by decide +kernel)
      · exact hs (Cond.eq (.elem (.field (Term.string "KingHearsModel" 134) "java/lang/String" "value" "[B") (.int 1)) (.int 111)) (by decide +kernel)
      · exact hs (Cond.eq (.elem (.field (Term.string "KingHearsModel" 134) "java/lang/String" "value" "[B") (.int 2)) (.int 117)) (by decide +kernel)
      · exact hs (Cond.eq (.elem (.field (Term.string "KingHearsModel" 134) "java/lang/String" "value" "[B") (.int 3)) (.int 114)) (by decide +kernel)
      · exact hs (Cond.eq (.elem (.field (Term.string "KingHearsModel" 134) "java/lang/String" "value" "[B") (.int 4)) (.int 116)) (by decide +kernel)
    ) (fun i j hi hj h => absurd (show i = j by omega) h) hA
  exact ⟨adK 0, adV 0, 5, fun j => ([99, 111, 117, 114, 116] : List Int32).getD j 0, by decide, rfl, rfl, vk_R.of (hts _ (List.mem_append_right _ (List.mem_of_getElem? (i := 1298) (by decide +kernel)))) (he 0 (by decide)), hk.1 0 (by decide)⟩
set_option maxRecDepth 100000 in
theorem ev7_136 {s : State} {b : Nat} (hts : ∀ w ∈ lw_tbl, w.before #[Value.ref b] s = true) (hs : ∀ c ∈ flatC (Jvm.Cond.and given_1 narrow_1), c.before #[Value.ref b] s = true) {A : Nat → Prop} (hA : ∀ a : Nat, a < s.heap.size → ¬ A a) : ∃ (a v n : Nat) (f : Nat → Int32), n ≤ 8 ∧ n = ([119, 111, 114, 100] : List Int32).length ∧ f = (fun j => ([119, 111, 114, 100] : List Int32).getD j 0) ∧ vk_R RX7 136 "word" a s ∧ Sw a v n f A s s.heap := by
  obtain ⟨adK, adV, hk, he⟩ := vk_Sof (args := #[Value.ref b]) (s := s) (N := 1) (tm := fun _ => (Term.string "KingHearsModel" 136)) (len := [4]) (byt := [[119, 111, 114, 100]]) (A := A)
    (fun i hi => by obtain rfl : i = 0 := (by omega); decide) (fun i hi => hs (Cond.exactly (Term.string "KingHearsModel" 136) "java/lang/String") (by decide +kernel)) (fun i hi => hs (Cond.eq (.field (Term.string "KingHearsModel" 136) "java/lang/String" "coder" "B") (.int 0)) (by decide +kernel)) (fun i hi => hs (Cond.arrayOf (.field (Term.string "KingHearsModel" 136) "java/lang/String" "value" "[B") .byte) (by decide +kernel))
    (fun i hi => by obtain rfl : i = 0 := (by omega); exact hs (Cond.eq (.length (.field (Term.string "KingHearsModel" 136) "java/lang/String" "value" "[B")) (.int 4)) (by decide +kernel))
    (fun i hi j hj => by
      obtain rfl : i = 0 := (by omega)
      have hj : j < 4 := hj
      rcases (show j = 0 ∨ j = 1 ∨ j = 2 ∨ j = 3 by omega) with rfl | rfl | rfl | rfl
      · exact hs (Cond.eq (.elem (.field (Term.string "KingHearsModel" 136) "java/lang/String" "value" "[B") (.int 0)) (.int 119)) (by decide +kernel)
      · exact hs (Cond.eq (.elem (.field (Term.string "KingHearsModel" 136) "java/lang/String" "value" "[B") (.int 1)) (.int 111)) (by decide +kernel)
      · exact hs (Cond.eq (.elem (.field (Term.string "KingHearsModel" 136) "java/lang/String" "value" "[B") (.int 2)) (.int 114)) (by decide +kernel)
      · exact hs (Cond.eq (.elem (.field (Term.string "KingHearsModel" 136) "java/lang/String" "value" "[B") (.int 3)) (.int 100)) (by decide +kernel)
    ) (fun i j hi hj h => absurd (show i = j by omega) h) hA
  exact ⟨adK 0, adV 0, 4, fun j => ([119, 111, 114, 100] : List Int32).getD j 0, by decide, rfl, rfl, vk_R.of (hts _ (List.mem_append_right _ (List.mem_of_getElem? (i := 1330) (by decide +kernel)))) (he 0 (by decide)), hk.1 0 (by decide)⟩
set_option maxRecDepth 100000 in
theorem ev7_138 {s : State} {b : Nat} (hts : ∀ w ∈ lw_tbl, w.before #[Value.ref b] s = true) (hs : ∀ c ∈ flatC (Jvm.Cond.and given_1 narrow_1), c.before #[Value.ref b] s = true) {A : Nat → Prop} (hA : ∀ a : Nat, a < s.heap.size → ¬ A a) : ∃ (a v n : Nat) (f : Nat → Int32), n ≤ 8 ∧ n = ([107, 105, 110, 103] : List Int32).length ∧ f = (fun j => ([107, 105, 110, 103] : List Int32).getD j 0) ∧ vk_R RX7 138 "king" a s ∧ Sw a v n f A s s.heap := by
  obtain ⟨adK, adV, hk, he⟩ := vk_Sof (args := #[Value.ref b]) (s := s) (N := 1) (tm := fun _ => (Term.string "KingHearsModel" 138)) (len := [4]) (byt := [[107, 105, 110, 103]]) (A := A)
    (fun i hi => by obtain rfl : i = 0 := (by omega); decide) (fun i hi => hs (Cond.exactly (Term.string "KingHearsModel" 138) "java/lang/String") (by decide +kernel)) (fun i hi => hs (Cond.eq (.field (Term.string "KingHearsModel" 138) "java/lang/String" "coder" "B") (.int 0)) (by decide +kernel)) (fun i hi => hs (Cond.arrayOf (.field (Term.string "KingHearsModel" 138) "java/lang/String" "value" "[B") .byte) (by decide +kernel))
    (fun i hi => by obtain rfl : i = 0 := (by omega); exact hs (Cond.eq (.length (.field (Term.string "KingHearsModel" 138) "java/lang/String" "value" "[B")) (.int 4)) (by decide +kernel))
    (fun i hi j hj => by
      obtain rfl : i = 0 := (by omega)
      have hj : j < 4 := hj
      rcases (show j = 0 ∨ j = 1 ∨ j = 2 ∨ j = 3 by omega) with rfl | rfl | rfl | rfl
      · exact hs (Cond.eq (.elem (.field (Term.string "KingHearsModel" 138) "java/lang/String" "value" "[B") (.int 0)) (.int 107)) (by decide +kernel)
      · exact hs (Cond.eq (.elem (.field (Term.string "KingHearsModel" 138) "java/lang/String" "value" "[B") (.int 1)) (.int 105)) (by decide +kernel)
      · exact hs (Cond.eq (.elem (.field (Term.string "KingHearsModel" 138) "java/lang/String" "value" "[B") (.int 2)) (.int 110)) (by decide +kernel)
      · exact hs (Cond.eq (.elem (.field (Term.string "KingHearsModel" 138) "java/lang/String" "value" "[B") (.int 3)) (.int 103)) (by decide +kernel)
    ) (fun i j hi hj h => absurd (show i = j by omega) h) hA
  exact ⟨adK 0, adV 0, 4, fun j => ([107, 105, 110, 103] : List Int32).getD j 0, by decide, rfl, rfl, vk_R.of (hts _ (List.mem_append_right _ (List.mem_of_getElem? (i := 1351) (by decide +kernel)))) (he 0 (by decide)), hk.1 0 (by decide)⟩
set_option maxRecDepth 100000 in
theorem ev7_140 {s : State} {b : Nat} (hts : ∀ w ∈ lw_tbl, w.before #[Value.ref b] s = true) (hs : ∀ c ∈ flatC (Jvm.Cond.and given_1 narrow_1), c.before #[Value.ref b] s = true) {A : Nat → Prop} (hA : ∀ a : Nat, a < s.heap.size → ¬ A a) : ∃ (a v n : Nat) (f : Nat → Int32), n ≤ 8 ∧ n = ([113, 117, 101, 101, 110] : List Int32).length ∧ f = (fun j => ([113, 117, 101, 101, 110] : List Int32).getD j 0) ∧ vk_R RX7 140 "queen" a s ∧ Sw a v n f A s s.heap := by
  obtain ⟨adK, adV, hk, he⟩ := vk_Sof (args := #[Value.ref b]) (s := s) (N := 1) (tm := fun _ => (Term.string "KingHearsModel" 140)) (len := [5]) (byt := [[113, 117, 101, 101, 110]]) (A := A)
    (fun i hi => by obtain rfl : i = 0 := (by omega); decide) (fun i hi => hs (Cond.exactly (Term.string "KingHearsModel" 140) "java/lang/String") (by decide +kernel)) (fun i hi => hs (Cond.eq (.field (Term.string "KingHearsModel" 140) "java/lang/String" "coder" "B") (.int 0)) (by decide +kernel)) (fun i hi => hs (Cond.arrayOf (.field (Term.string "KingHearsModel" 140) "java/lang/String" "value" "[B") .byte) (by decide +kernel))
    (fun i hi => by obtain rfl : i = 0 := (by omega); exact hs (Cond.eq (.length (.field (Term.string "KingHearsModel" 140) "java/lang/String" "value" "[B")) (.int 5)) (by decide +kernel))
    (fun i hi j hj => by
      obtain rfl : i = 0 := (by omega)
      have hj : j < 5 := hj
      rcases (show j = 0 ∨ j = 1 ∨ j = 2 ∨ j = 3 ∨ j = 4 by omega) with rfl | rfl | rfl | rfl | rfl
      · exact hs (Cond.eq (.elem (.field (Term.string "KingHearsModel" 140) "java/lang/String" "value" "[B") (.int 0)) (.int 113)) (by decide +kernel)
      · exact hs (Cond.eq (.elem (.field (Term.string "KingHearsModel" 140) "java/lang/String" "value" "[B") (.int 1)) (.int 117)) (by decide +kernel)
      · exact hs (Cond.eq (.elem (.field (Term.string "KingHearsModel" 140) "java/lang/String" "value" "[B") (.int 2)) (.int 101)) (by decide +kernel)
      · exact hs (Cond.eq (.elem (.field (Term.string "KingHearsModel" 140) "java/lang/String" "value" "[B") (.int 3)) (.int 101)) (by decide +kernel)
      · exact hs (Cond.eq (.elem (.field (Term.string "KingHearsModel" 140) "java/lang/String" "value" "[B") (.int 4)) (.int 110)) (by decide +kernel)
    ) (fun i j hi hj h => absurd (show i = j by omega) h) hA
  exact ⟨adK 0, adV 0, 5, fun j => ([113, 117, 101, 101, 110] : List Int32).getD j 0, by decide, rfl, rfl, vk_R.of (hts _ (List.mem_append_right _ (List.mem_of_getElem? (i := 1352) (by decide +kernel)))) (he 0 (by decide)), hk.1 0 (by decide)⟩
set_option maxRecDepth 100000 in
theorem ev7_142 {s : State} {b : Nat} (hts : ∀ w ∈ lw_tbl, w.before #[Value.ref b] s = true) (hs : ∀ c ∈ flatC (Jvm.Cond.and given_1 narrow_1), c.before #[Value.ref b] s = true) {A : Nat → Prop} (hA : ∀ a : Nat, a < s.heap.size → ¬ A a) : ∃ (a v n : Nat) (f : Nat → Int32), n ≤ 8 ∧ n = ([99, 104, 97, 110, 99, 101] : List Int32).length ∧ f = (fun j => ([99, 104, 97, 110, 99, 101] : List Int32).getD j 0) ∧ vk_R RX7 142 "chance" a s ∧ Sw a v n f A s s.heap := by
  obtain ⟨adK, adV, hk, he⟩ := vk_Sof (args := #[Value.ref b]) (s := s) (N := 1) (tm := fun _ => (Term.string "KingHearsModel" 142)) (len := [6]) (byt := [[99, 104, 97, 110, 99, 101]]) (A := A)
    (fun i hi => by obtain rfl : i = 0 := (by omega); decide) (fun i hi => hs (Cond.exactly (Term.string "KingHearsModel" 142) "java/lang/String") (by decide +kernel)) (fun i hi => hs (Cond.eq (.field (Term.string "KingHearsModel" 142) "java/lang/String" "coder" "B") (.int 0)) (by decide +kernel)) (fun i hi => hs (Cond.arrayOf (.field (Term.string "KingHearsModel" 142) "java/lang/String" "value" "[B") .byte) (by decide +kernel))
    (fun i hi => by obtain rfl : i = 0 := (by omega); exact hs (Cond.eq (.length (.field (Term.string "KingHearsModel" 142) "java/lang/String" "value" "[B")) (.int 6)) (by decide +kernel))
    (fun i hi j hj => by
      obtain rfl : i = 0 := (by omega)
      have hj : j < 6 := hj
      rcases (show j = 0 ∨ j = 1 ∨ j = 2 ∨ j = 3 ∨ j = 4 ∨ j = 5 by omega) with rfl | rfl | rfl | rfl | rfl | rfl
      · exact hs (Cond.eq (.elem (.field (Term.string "KingHearsModel" 142) "java/lang/String" "value" "[B") (.int 0)) (.int 99)) (by decide +kernel)
      · exact hs (Cond.eq (.elem (.field (Term.string "KingHearsModel" 142) "java/lang/String" "value" "[B") (.int 1)) (.int 104)) (by decide +kernel)
      · exact hs (Cond.eq (.elem (.field (Term.string "KingHearsModel" 142) "java/lang/String" "value" "[B") (.int 2)) (.int 97)) (by decide +kernel)
      · exact hs (Cond.eq (.elem (.field (Term.string "KingHearsModel" 142) "java/lang/String" "value" "[B") (.int 3)) (.int 110)) (by decide +kernel)
      · exact hs (Cond.eq (.elem (.field (Term.string "KingHearsModel" 142) "java/lang/String" "value" "[B") (.int 4)) (.int 99)) (by decide +kernel)
      · exact hs (Cond.eq (.elem (.field (Term.string "KingHearsModel" 142) "java/lang/String" "value" "[B") (.int 5)) (.int 101)) (by decide +kernel)
    ) (fun i j hi hj h => absurd (show i = j by omega) h) hA
  exact ⟨adK 0, adV 0, 6, fun j => ([99, 104, 97, 110, 99, 101] : List Int32).getD j 0, by decide, rfl, rfl, vk_R.of (hts _ (List.mem_append_right _ (List.mem_of_getElem? (i := 1353) (by decide +kernel)))) (he 0 (by decide)), hk.1 0 (by decide)⟩
set_option maxRecDepth 100000 in
theorem ev7_144 {s : State} {b : Nat} (hts : ∀ w ∈ lw_tbl, w.before #[Value.ref b] s = true) (hs : ∀ c ∈ flatC (Jvm.Cond.and given_1 narrow_1), c.before #[Value.ref b] s = true) {A : Nat → Prop} (hA : ∀ a : Nat, a < s.heap.size → ¬ A a) : ∃ (a v n : Nat) (f : Nat → Int32), n ≤ 8 ∧ n = ([116, 104, 114, 111, 110, 101] : List Int32).length ∧ f = (fun j => ([116, 104, 114, 111, 110, 101] : List Int32).getD j 0) ∧ vk_R RX7 144 "throne" a s ∧ Sw a v n f A s s.heap := by
  obtain ⟨adK, adV, hk, he⟩ := vk_Sof (args := #[Value.ref b]) (s := s) (N := 1) (tm := fun _ => (Term.string "KingHearsModel" 144)) (len := [6]) (byt := [[116, 104, 114, 111, 110, 101]]) (A := A)
    (fun i hi => by obtain rfl : i = 0 := (by omega); decide) (fun i hi => hs (Cond.exactly (Term.string "KingHearsModel" 144) "java/lang/String") (by decide +kernel)) (fun i hi => hs (Cond.eq (.field (Term.string "KingHearsModel" 144) "java/lang/String" "coder" "B") (.int 0)) (by decide +kernel)) (fun i hi => hs (Cond.arrayOf (.field (Term.string "KingHearsModel" 144) "java/lang/String" "value" "[B") .byte) (by decide +kernel))
    (fun i hi => by obtain rfl : i = 0 := (by omega); exact hs (Cond.eq (.length (.field (Term.string "KingHearsModel" 144) "java/lang/String" "value" "[B")) (.int 6)) (by decide +kernel))
    (fun i hi j hj => by
      obtain rfl : i = 0 := (by omega)
      have hj : j < 6 := hj
      rcases (show j = 0 ∨ j = 1 ∨ j = 2 ∨ j = 3 ∨ j = 4 ∨ j = 5 by omega) with rfl | rfl | rfl | rfl | rfl | rfl
      · exact hs (Cond.eq (.elem (.field (Term.string "KingHearsModel" 144) "java/lang/String" "value" "[B") (.int 0)) (.int 116)) (by decide +kernel)
      · exact hs (Cond.eq (.elem (.field (Term.string "KingHearsModel" 144) "java/lang/String" "value" "[B") (.int 1)) (.int 104)) (by decide +kernel)
      · exact hs (Cond.eq (.elem (.field (Term.string "KingHearsModel" 144) "java/lang/String" "value" "[B") (.int 2)) (.int 114)) (by decide +kernel)
      · exact hs (Cond.eq (.elem (.field (Term.string "KingHearsModel" 144) "java/lang/String" "value" "[B") (.int 3)) (.int 111)) (by decide +kernel)
      · exact hs (Cond.eq (.elem (.field (Term.string "KingHearsModel" 144) "java/lang/String" "value" "[B") (.int 4)) (.int 110)) (by decide +kernel)
      · exact hs (Cond.eq (.elem (.field (Term.string "KingHearsModel" 144) "java/lang/String" "value" "[B") (.int 5)) (.int 101)) (by decide +kernel)
    ) (fun i j hi hj h => absurd (show i = j by omega) h) hA
  exact ⟨adK 0, adV 0, 6, fun j => ([116, 104, 114, 111, 110, 101] : List Int32).getD j 0, by decide, rfl, rfl, vk_R.of (hts _ (List.mem_append_right _ (List.mem_of_getElem? (i := 1354) (by decide +kernel)))) (he 0 (by decide)), hk.1 0 (by decide)⟩
set_option maxRecDepth 100000 in
theorem ev7_146 {s : State} {b : Nat} (hts : ∀ w ∈ lw_tbl, w.before #[Value.ref b] s = true) (hs : ∀ c ∈ flatC (Jvm.Cond.and given_1 narrow_1), c.before #[Value.ref b] s = true) {A : Nat → Prop} (hA : ∀ a : Nat, a < s.heap.size → ¬ A a) : ∃ (a v n : Nat) (f : Nat → Int32), n ≤ 8 ∧ n = ([117, 110, 115, 117, 114, 101] : List Int32).length ∧ f = (fun j => ([117, 110, 115, 117, 114, 101] : List Int32).getD j 0) ∧ vk_R RX7 146 "unsure" a s ∧ Sw a v n f A s s.heap := by
  obtain ⟨adK, adV, hk, he⟩ := vk_Sof (args := #[Value.ref b]) (s := s) (N := 1) (tm := fun _ => (Term.string "KingHearsModel" 146)) (len := [6]) (byt := [[117, 110, 115, 117, 114, 101]]) (A := A)
    (fun i hi => by obtain rfl : i = 0 := (by omega); decide) (fun i hi => hs (Cond.exactly (Term.string "KingHearsModel" 146) "java/lang/String") (by decide +kernel)) (fun i hi => hs (Cond.eq (.field (Term.string "KingHearsModel" 146) "java/lang/String" "coder" "B") (.int 0)) (by decide +kernel)) (fun i hi => hs (Cond.arrayOf (.field (Term.string "KingHearsModel" 146) "java/lang/String" "value" "[B") .byte) (by decide +kernel))
    (fun i hi => by obtain rfl : i = 0 := (by omega); exact hs (Cond.eq (.length (.field (Term.string "KingHearsModel" 146) "java/lang/String" "value" "[B")) (.int 6)) (by decide +kernel))
    (fun i hi j hj => by
      obtain rfl : i = 0 := (by omega)
      have hj : j < 6 := hj
      rcases (show j = 0 ∨ j = 1 ∨ j = 2 ∨ j = 3 ∨ j = 4 ∨ j = 5 by omega) with rfl | rfl | rfl | rfl | rfl | rfl
      · exact hs (Cond.eq (.elem (.field (Term.string "KingHearsModel" 146) "java/lang/String" "value" "[B") (.int 0)) (.int 117)) (by decide +kernel)
      · exact hs (Cond.eq (.elem (.field (Term.string "KingHearsModel" 146) "java/lang/String" "value" "[B") (.int 1)) (.int 110)) (by decide +kernel)
      · exact hs (Cond.eq (.elem (.field (Term.string "KingHearsModel" 146) "java/lang/String" "value" "[B") (.int 2)) (.int 115)) (by decide +kernel)
      · exact hs (Cond.eq (.elem (.field (Term.string "KingHearsModel" 146) "java/lang/String" "value" "[B") (.int 3)) (.int 117)) (by decide +kernel)
      · exact hs (Cond.eq (.elem (.field (Term.string "KingHearsModel" 146) "java/lang/String" "value" "[B") (.int 4)) (.int 114)) (by decide +kernel)
      · exact hs (Cond.eq (.elem (.field (Term.string "KingHearsModel" 146) "java/lang/String" "value" "[B") (.int 5)) (.int 101)) (by decide +kernel)
    ) (fun i j hi hj h => absurd (show i = j by omega) h) hA
  exact ⟨adK 0, adV 0, 6, fun j => ([117, 110, 115, 117, 114, 101] : List Int32).getD j 0, by decide, rfl, rfl, vk_R.of (hts _ (List.mem_append_right _ (List.mem_of_getElem? (i := 1355) (by decide +kernel)))) (he 0 (by decide)), hk.1 0 (by decide)⟩
set_option maxRecDepth 100000 in
theorem ev7_148 {s : State} {b : Nat} (hts : ∀ w ∈ lw_tbl, w.before #[Value.ref b] s = true) (hs : ∀ c ∈ flatC (Jvm.Cond.and given_1 narrow_1), c.before #[Value.ref b] s = true) {A : Nat → Prop} (hA : ∀ a : Nat, a < s.heap.size → ¬ A a) : ∃ (a v n : Nat) (f : Nat → Int32), n ≤ 8 ∧ n = ([115, 97, 105, 100] : List Int32).length ∧ f = (fun j => ([115, 97, 105, 100] : List Int32).getD j 0) ∧ vk_R RX7 148 "said" a s ∧ Sw a v n f A s s.heap := by
  obtain ⟨adK, adV, hk, he⟩ := vk_Sof (args := #[Value.ref b]) (s := s) (N := 1) (tm := fun _ => (Term.string "KingHearsModel" 148)) (len := [4]) (byt := [[115, 97, 105, 100]]) (A := A)
    (fun i hi => by obtain rfl : i = 0 := (by omega); decide) (fun i hi => hs (Cond.exactly (Term.string "KingHearsModel" 148) "java/lang/String") (by decide +kernel)) (fun i hi => hs (Cond.eq (.field (Term.string "KingHearsModel" 148) "java/lang/String" "coder" "B") (.int 0)) (by decide +kernel)) (fun i hi => hs (Cond.arrayOf (.field (Term.string "KingHearsModel" 148) "java/lang/String" "value" "[B") .byte) (by decide +kernel))
    (fun i hi => by obtain rfl : i = 0 := (by omega); exact hs (Cond.eq (.length (.field (Term.string "KingHearsModel" 148) "java/lang/String" "value" "[B")) (.int 4)) (by decide +kernel))
    (fun i hi j hj => by
      obtain rfl : i = 0 := (by omega)
      have hj : j < 4 := hj
      rcases (show j = 0 ∨ j = 1 ∨ j = 2 ∨ j = 3 by omega) with rfl | rfl | rfl | rfl
      · exact hs (Cond.eq (.elem (.field (Term.string "KingHearsModel" 148) "java/lang/String" "value" "[B") (.int 0)) (.int 115)) (by decide +kernel)
      · exact hs (Cond.eq (.elem (.field (Term.string "KingHearsModel" 148) "java/lang/String" "value" "[B") (.int 1)) (.int 97)) (by decide +kernel)
      · exact hs (Cond.eq (.elem (.field (Term.string "KingHearsModel" 148) "java/lang/String" "value" "[B") (.int 2)) (.int 105)) (by decide +kernel)
      · exact hs (Cond.eq (.elem (.field (Term.string "KingHearsModel" 148) "java/lang/String" "value" "[B") (.int 3)) (.int 100)) (by decide +kernel)
    ) (fun i j hi hj h => absurd (show i = j by omega) h) hA
  exact ⟨adK 0, adV 0, 4, fun j => ([115, 97, 105, 100] : List Int32).getD j 0, by decide, rfl, rfl, vk_R.of (hts _ (List.mem_append_right _ (List.mem_of_getElem? (i := 1356) (by decide +kernel)))) (he 0 (by decide)), hk.1 0 (by decide)⟩
set_option maxRecDepth 100000 in
theorem ev7_222 {s : State} {b : Nat} (hts : ∀ w ∈ lw_tbl, w.before #[Value.ref b] s = true) (hs : ∀ c ∈ flatC (Jvm.Cond.and given_1 narrow_1), c.before #[Value.ref b] s = true) {A : Nat → Prop} (hA : ∀ a : Nat, a < s.heap.size → ¬ A a) : ∃ (a v n : Nat) (f : Nat → Int32), n ≤ 8 ∧ n = ([115, 108, 105, 112, 115] : List Int32).length ∧ f = (fun j => ([115, 108, 105, 112, 115] : List Int32).getD j 0) ∧ vk_R RX7 222 "slips" a s ∧ Sw a v n f A s s.heap := by
  obtain ⟨adK, adV, hk, he⟩ := vk_Sof (args := #[Value.ref b]) (s := s) (N := 1) (tm := fun _ => (Term.string "KingHearsModel" 222)) (len := [5]) (byt := [[115, 108, 105, 112, 115]]) (A := A)
    (fun i hi => by obtain rfl : i = 0 := (by omega); decide) (fun i hi => hs (Cond.exactly (Term.string "KingHearsModel" 222) "java/lang/String") (by decide +kernel)) (fun i hi => hs (Cond.eq (.field (Term.string "KingHearsModel" 222) "java/lang/String" "coder" "B") (.int 0)) (by decide +kernel)) (fun i hi => hs (Cond.arrayOf (.field (Term.string "KingHearsModel" 222) "java/lang/String" "value" "[B") .byte) (by decide +kernel))
    (fun i hi => by obtain rfl : i = 0 := (by omega); exact hs (Cond.eq (.length (.field (Term.string "KingHearsModel" 222) "java/lang/String" "value" "[B")) (.int 5)) (by decide +kernel))
    (fun i hi j hj => by
      obtain rfl : i = 0 := (by omega)
      have hj : j < 5 := hj
      rcases (show j = 0 ∨ j = 1 ∨ j = 2 ∨ j = 3 ∨ j = 4 by omega) with rfl | rfl | rfl | rfl | rfl
      · exact hs (Cond.eq (.elem (.field (Term.string "KingHearsModel" 222) "java/lang/String" "value" "[B") (.int 0)) (.int 115)) (by decide +kernel)
      · exact hs (Cond.eq (.elem (.field (Term.string "KingHearsModel" 222) "java/lang/String" "value" "[B") (.int 1)) (.int 108)) (by decide +kernel)
      · exact hs (Cond.eq (.elem (.field (Term.string "KingHearsModel" 222) "java/lang/String" "value" "[B") (.int 2)) (.int 105)) (by decide +kernel)
      · exact hs (Cond.eq (.elem (.field (Term.string "KingHearsModel" 222) "java/lang/String" "value" "[B") (.int 3)) (.int 112)) (by decide +kernel)
      · exact hs (Cond.eq (.elem (.field (Term.string "KingHearsModel" 222) "java/lang/String" "value" "[B") (.int 4)) (.int 115)) (by decide +kernel)
    ) (fun i j hi hj h => absurd (show i = j by omega) h) hA
  exact ⟨adK 0, adV 0, 5, fun j => ([115, 108, 105, 112, 115] : List Int32).getD j 0, by decide, rfl, rfl, vk_R.of (hts _ (List.mem_append_right _ (List.mem_of_getElem? (i := 1313) (by decide +kernel)))) (he 0 (by decide)), hk.1 0 (by decide)⟩
set_option maxRecDepth 100000 in
theorem ev7_231 {s : State} {b : Nat} (hts : ∀ w ∈ lw_tbl, w.before #[Value.ref b] s = true) (hs : ∀ c ∈ flatC (Jvm.Cond.and given_1 narrow_1), c.before #[Value.ref b] s = true) {A : Nat → Prop} (hA : ∀ a : Nat, a < s.heap.size → ¬ A a) : ∃ (a v n : Nat) (f : Nat → Int32), n ≤ 8 ∧ n = ([119, 111, 114, 116, 104] : List Int32).length ∧ f = (fun j => ([119, 111, 114, 116, 104] : List Int32).getD j 0) ∧ vk_R RX7 231 "worth" a s ∧ Sw a v n f A s s.heap := by
  obtain ⟨adK, adV, hk, he⟩ := vk_Sof (args := #[Value.ref b]) (s := s) (N := 1) (tm := fun _ => (Term.string "KingHearsModel" 231)) (len := [5]) (byt := [[119, 111, 114, 116, 104]]) (A := A)
    (fun i hi => by obtain rfl : i = 0 := (by omega); decide) (fun i hi => hs (Cond.exactly (Term.string "KingHearsModel" 231) "java/lang/String") (by decide +kernel)) (fun i hi => hs (Cond.eq (.field (Term.string "KingHearsModel" 231) "java/lang/String" "coder" "B") (.int 0)) (by decide +kernel)) (fun i hi => hs (Cond.arrayOf (.field (Term.string "KingHearsModel" 231) "java/lang/String" "value" "[B") .byte) (by decide +kernel))
    (fun i hi => by obtain rfl : i = 0 := (by omega); exact hs (Cond.eq (.length (.field (Term.string "KingHearsModel" 231) "java/lang/String" "value" "[B")) (.int 5)) (by decide +kernel))
    (fun i hi j hj => by
      obtain rfl : i = 0 := (by omega)
      have hj : j < 5 := hj
      rcases (show j = 0 ∨ j = 1 ∨ j = 2 ∨ j = 3 ∨ j = 4 by omega) with rfl | rfl | rfl | rfl | rfl
      · exact hs (Cond.eq (.elem (.field (Term.string "KingHearsModel" 231) "java/lang/String" "value" "[B") (.int 0)) (.int 119)) (by decide +kernel)
      · exact hs (Cond.eq (.elem (.field (Term.string "KingHearsModel" 231) "java/lang/String" "value" "[B") (.int 1)) (.int 111)) (by decide +kernel)
      · exact hs (Cond.eq (.elem (.field (Term.string "KingHearsModel" 231) "java/lang/String" "value" "[B") (.int 2)) (.int 114)) (by decide +kernel)
      · exact hs (Cond.eq (.elem (.field (Term.string "KingHearsModel" 231) "java/lang/String" "value" "[B") (.int 3)) (.int 116)) (by decide +kernel)
      · exact hs (Cond.eq (.elem (.field (Term.string "KingHearsModel" 231) "java/lang/String" "value" "[B") (.int 4)) (.int 104)) (by decide +kernel)
    ) (fun i j hi hj h => absurd (show i = j by omega) h) hA
  exact ⟨adK 0, adV 0, 5, fun j => ([119, 111, 114, 116, 104] : List Int32).getD j 0, by decide, rfl, rfl, vk_R.of (hts _ (List.mem_append_right _ (List.mem_of_getElem? (i := 1364) (by decide +kernel)))) (he 0 (by decide)), hk.1 0 (by decide)⟩
set_option maxRecDepth 100000 in
theorem ev_start {s : State} {b : Nat} (hts : ∀ w ∈ lw_tbl, w.before #[Value.ref b] s = true) (hs : ∀ c ∈ flatC (Jvm.Cond.and given_1 narrow_1), c.before #[Value.ref b] s = true) {A : Nat → Prop} (hA : ∀ a : Nat, a < s.heap.size → ¬ A a) : Ev A s s.heap := by
  refine ⟨?_, ⟨?_, ?_⟩, ?_, ?_, ?_⟩
  · exact List.forall_mem_cons.mpr ⟨ev_29 hts hs hA, List.forall_mem_cons.mpr ⟨ev_35 hts hs hA, List.forall_mem_cons.mpr ⟨ev_37 hts hs hA, List.forall_mem_cons.mpr ⟨ev_39 hts hs hA, List.forall_mem_cons.mpr ⟨ev_41 hts hs hA, List.forall_mem_cons.mpr ⟨ev_42 hts hs hA, List.forall_mem_cons.mpr ⟨ev_44 hts hs hA, List.forall_mem_cons.mpr ⟨ev_46 hts hs hA, List.forall_mem_cons.mpr ⟨ev_48 hts hs hA, List.forall_mem_cons.mpr ⟨ev_50 hts hs hA, fun _ h => absurd h List.not_mem_nil⟩⟩⟩⟩⟩⟩⟩⟩⟩⟩
  · exact va_Zof (args := #[Value.ref b]) (hts _ (List.mem_append_right _ (List.mem_of_getElem? (i := 153) (by decide +kernel)))) (hts _ (List.mem_append_right _ (List.mem_of_getElem? (i := 4) (by decide +kernel)))) (va_eqt (hs (Cond.eq (.static "java/lang/String" "COMPACT_STRINGS" "Z") (.int 1)) (by decide +kernel))) hA
  · exact va_Zqof (args := #[Value.ref b]) (hts _ (List.mem_append_right _ (List.mem_of_getElem? (i := 169) (by decide +kernel)))) (hts _ (List.mem_append_right _ (List.mem_of_getElem? (i := 6) (by decide +kernel)))) (hs (Cond.isRef (.static "jdk/internal/util/Preconditions" "SIOOBE_FORMATTER" "Ljava/util/function/BiFunction;")) (by decide +kernel)) hA
  · exact List.forall_mem_cons.mpr ⟨ev7_134 hts hs hA, List.forall_mem_cons.mpr ⟨ev7_136 hts hs hA, List.forall_mem_cons.mpr ⟨ev7_138 hts hs hA, List.forall_mem_cons.mpr ⟨ev7_140 hts hs hA, List.forall_mem_cons.mpr ⟨ev7_142 hts hs hA, List.forall_mem_cons.mpr ⟨ev7_144 hts hs hA, List.forall_mem_cons.mpr ⟨ev7_146 hts hs hA, List.forall_mem_cons.mpr ⟨ev7_148 hts hs hA, List.forall_mem_cons.mpr ⟨ev7_222 hts hs hA, List.forall_mem_cons.mpr ⟨ev7_231 hts hs hA, fun _ h => absurd h List.not_mem_nil⟩⟩⟩⟩⟩⟩⟩⟩⟩⟩
  · exact List.forall_mem_cons.mpr ⟨va_Nw.of rfl (hts _ (List.mem_append_right _ (List.mem_of_getElem? (i := 259) (by decide +kernel)))), List.forall_mem_cons.mpr ⟨va_Nw.of rfl (hts _ (List.mem_append_right _ (List.mem_of_getElem? (i := 280) (by decide +kernel)))), List.forall_mem_cons.mpr ⟨va_Nw.of rfl (hts _ (List.mem_append_right _ (List.mem_of_getElem? (i := 301) (by decide +kernel)))), List.forall_mem_cons.mpr ⟨va_Nw.of rfl (hts _ (List.mem_append_right _ (List.mem_of_getElem? (i := 334) (by decide +kernel)))), List.forall_mem_cons.mpr ⟨va_Nw.of rfl (hts _ (List.mem_append_right _ (List.mem_of_getElem? (i := 604) (by decide +kernel)))), List.forall_mem_cons.mpr ⟨va_Nw.of rfl (hts _ (List.mem_append_right _ (List.mem_of_getElem? (i := 679) (by decide +kernel)))), fun _ h => absurd h List.not_mem_nil⟩⟩⟩⟩⟩⟩
  · exact va_AO.of (hts _ (List.mem_append_right _ (List.mem_of_getElem? (i := 277) (by decide +kernel))))
