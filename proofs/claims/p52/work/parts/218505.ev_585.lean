set_option maxRecDepth 100000 in
theorem ev_29 {s : State} {b : Nat} (hts : ∀ w ∈ lw_tbl, w.before #[Value.ref b] s = true) (hs : ∀ c ∈ flatC (Jvm.Cond.and given_1 narrow_1), c.before #[Value.ref b] s = true) {A : Nat → Prop} (hA : ∀ a : Nat, a < s.heap.size → ¬ A a) : ∃ (a v n : Nat) (f : Nat → Int32), n ≤ 8 ∧ n = ([119, 111, 114, 100] : List Int32).length ∧ f = (fun j => ([119, 111, 114, 100] : List Int32).getD j 0) ∧ vk_R RX3 29 "word" a s ∧ Sw a v n f A s s.heap := by
  obtain ⟨adK, adV, hk, he⟩ := vk_Sof (args := #[Value.ref b]) (s := s) (N := 1) (tm := fun _ => (Term.string "KingHears$Reader" 29)) (len := [4]) (byt := [[119, 111, 114, 100]]) (A := A)
    (fun i hi => by obtain rfl : i = 0 := (by omega); decide) (fun i hi => hs (Cond.exactly (Term.string "KingHears$Reader" 29) "java/lang/String") (List.mem_of_getElem? (i := 19) (by decide +kernel))) (fun i hi => hs (Cond.eq (.field (Term.string "KingHears$Reader" 29) "java/lang/String" "coder" "B") (.int 0)) (List.mem_of_getElem? (i := 20) (by decide +kernel))) (fun i hi => hs (Cond.arrayOf (.field (Term.string "KingHears$Reader" 29) "java/lang/String" "value" "[B") .byte) (List.mem_of_getElem? (i := 21) (by decide +kernel)))
    (fun i hi => by obtain rfl : i = 0 := (by omega); exact hs (Cond.eq (.length (.field (Term.string "KingHears$Reader" 29) "java/lang/String" "value" "[B")) (.int 4)) (List.mem_of_getElem? (i := 22) (by decide +kernel)))
    (fun i hi j hj => by
      obtain rfl : i = 0 := (by omega)
      have hj : j < 4 := hj
      rcases (show j = 0 ∨ j = 1 ∨ j = 2 ∨ j = 3 by omega) with rfl | rfl | rfl | rfl
      · exact hs (Cond.eq (.elem (.field (Term.string "KingHears$Reader" 29) "java/lang/String" "value" "[B") (.int 0)) (.int 119)) (List.mem_of_getElem? (i := 23) (by decide +kernel))
      · exact hs (Cond.eq (.elem (.field (Term.string "KingHears$Reader" 29) "java/lang/String" "value" "[B") (.int 1)) (.int 111)) (List.mem_of_getElem? (i := 24) (by decide +kernel))
      · exact hs (Cond.eq (.elem (.field (Term.string "KingHears$Reader" 29) "java/lang/String" "value" "[B") (.int 2)) (.int 114)) (List.mem_of_getElem? (i := 25) (by decide +kernel))
      · exact hs (Cond.eq (.elem (.field (Term.string "KingHears$Reader" 29) "java/lang/String" "value" "[B") (.int 3)) (.int 100)) (List.mem_of_getElem? (i := 26) (by decide +kernel))
    ) (fun i j hi hj h => absurd (show i = j by omega) h) hA
  exact ⟨adK 0, adV 0, 4, fun j => ([119, 111, 114, 100] : List Int32).getD j 0, by decide, rfl, rfl, vk_R.of (hts _ (List.mem_append_right _ (List.mem_of_getElem? (i := 140) (by decide +kernel)))) (he 0 (by decide)), hk.1 0 (by decide)⟩
set_option maxRecDepth 100000 in
theorem ev_35 {s : State} {b : Nat} (hts : ∀ w ∈ lw_tbl, w.before #[Value.ref b] s = true) (hs : ∀ c ∈ flatC (Jvm.Cond.and given_1 narrow_1), c.before #[Value.ref b] s = true) {A : Nat → Prop} (hA : ∀ a : Nat, a < s.heap.size → ¬ A a) : ∃ (a v n : Nat) (f : Nat → Int32), n ≤ 8 ∧ n = ([107, 105, 110, 103] : List Int32).length ∧ f = (fun j => ([107, 105, 110, 103] : List Int32).getD j 0) ∧ vk_R RX3 35 "king" a s ∧ Sw a v n f A s s.heap := by
  obtain ⟨adK, adV, hk, he⟩ := vk_Sof (args := #[Value.ref b]) (s := s) (N := 1) (tm := fun _ => (Term.string "KingHears$Reader" 35)) (len := [4]) (byt := [[107, 105, 110, 103]]) (A := A)
    (fun i hi => by obtain rfl : i = 0 := (by omega); decide) (fun i hi => hs (Cond.exactly (Term.string "KingHears$Reader" 35) "java/lang/String") (List.mem_of_getElem? (i := 27) (by decide +kernel))) (fun i hi => hs (Cond.eq (.field (Term.string "KingHears$Reader" 35) "java/lang/String" "coder" "B") (.int 0)) (List.mem_of_getElem? (i := 28) (by decide +kernel))) (fun i hi => hs (Cond.arrayOf (.field (Term.string "KingHears$Reader" 35) "java/lang/String" "value" "[B") .byte) (List.mem_of_getElem? (i := 29) (by decide +kernel)))
    (fun i hi => by obtain rfl : i = 0 := (by omega); exact hs (Cond.eq (.length (.field (Term.string "KingHears$Reader" 35) "java/lang/String" "value" "[B")) (.int 4)) (List.mem_of_getElem? (i := 30) (by decide +kernel)))
    (fun i hi j hj => by
      obtain rfl : i = 0 := (by omega)
      have hj : j < 4 := hj
      rcases (show j = 0 ∨ j = 1 ∨ j = 2 ∨ j = 3 by omega) with rfl | rfl | rfl | rfl
      · exact hs (Cond.eq (.elem (.field (Term.string "KingHears$Reader" 35) "java/lang/String" "value" "[B") (.int 0)) (.int 107)) (List.mem_of_getElem? (i := 31) (by decide +kernel))
      · exact hs (Cond.eq (.elem (.field (Term.string "KingHears$Reader" 35) "java/lang/String" "value" "[B") (.int 1)) (.int 105)) (List.mem_of_getElem? (i := 32) (by decide +kernel))
      · exact hs (Cond.eq (.elem (.field (Term.string "KingHears$Reader" 35) "java/lang/String" "value" "[B") (.int 2)) (.int 110)) (List.mem_of_getElem? (i := 33) (by decide +kernel))
      · exact hs (Cond.eq (.elem (.field (Term.string "KingHears$Reader" 35) "java/lang/String" "value" "[B") (.int 3)) (.int 103)) (List.mem_of_getElem? (i := 34) (by decide +kernel))
    ) (fun i j hi hj h => absurd (show i = j by omega) h) hA
  exact ⟨adK 0, adV 0, 4, fun j => ([107, 105, 110, 103] : List Int32).getD j 0, by decide, rfl, rfl, vk_R.of (hts _ (List.mem_append_right _ (List.mem_of_getElem? (i := 196) (by decide +kernel)))) (he 0 (by decide)), hk.1 0 (by decide)⟩
set_option maxRecDepth 100000 in
theorem ev_37 {s : State} {b : Nat} (hts : ∀ w ∈ lw_tbl, w.before #[Value.ref b] s = true) (hs : ∀ c ∈ flatC (Jvm.Cond.and given_1 narrow_1), c.before #[Value.ref b] s = true) {A : Nat → Prop} (hA : ∀ a : Nat, a < s.heap.size → ¬ A a) : ∃ (a v n : Nat) (f : Nat → Int32), n ≤ 8 ∧ n = ([113, 117, 101, 101, 110] : List Int32).length ∧ f = (fun j => ([113, 117, 101, 101, 110] : List Int32).getD j 0) ∧ vk_R RX3 37 "queen" a s ∧ Sw a v n f A s s.heap := by
  obtain ⟨adK, adV, hk, he⟩ := vk_Sof (args := #[Value.ref b]) (s := s) (N := 1) (tm := fun _ => (Term.string "KingHears$Reader" 37)) (len := [5]) (byt := [[113, 117, 101, 101, 110]]) (A := A)
    (fun i hi => by obtain rfl : i = 0 := (by omega); decide) (fun i hi => hs (Cond.exactly (Term.string "KingHears$Reader" 37) "java/lang/String") (List.mem_of_getElem? (i := 36) (by decide +kernel))) (fun i hi => hs (Cond.eq (.field (Term.string "KingHears$Reader" 37) "java/lang/String" "coder" "B") (.int 0)) (List.mem_of_getElem? (i := 37) (by decide +kernel))) (fun i hi => hs (Cond.arrayOf (.field (Term.string "KingHears$Reader" 37) "java/lang/String" "value" "[B") .byte) (List.mem_of_getElem? (i := 38) (by decide +kernel)))
    (fun i hi => by obtain rfl : i = 0 := (by omega); exact hs (Cond.eq (.length (.field (Term.string "KingHears$Reader" 37) "java/lang/String" "value" "[B")) (.int 5)) (List.mem_of_getElem? (i := 39) (by decide +kernel)))
    (fun i hi j hj => by
      obtain rfl : i = 0 := (by omega)
      have hj : j < 5 := hj
      rcases (show j = 0 ∨ j = 1 ∨ j = 2 ∨ j = 3 ∨ j = 4 by omega) with rfl | rfl | rfl | rfl | rfl
      · exact hs (Cond.eq (.elem (.field (Term.string "KingHears$Reader" 37) "java/lang/String" "value" "[B") (.int 0)) (.int 113)) (List.mem_of_getElem? (i := 40) (by decide +kernel))
      · exact hs (Cond.eq (.elem (.field (Term.string "KingHears$Reader" 37) "java/lang/String" "value" "[B") (.int 1)) (.int 117)) (List.mem_of_getElem? (i := 41) (by decide +kernel))
      · exact hs (Cond.eq (.elem (.field (Term.string "KingHears$Reader" 37) "java/lang/String" "value" "[B") (.int 2)) (.int 101)) (List.mem_of_getElem? (i := 42) (by decide +kernel))
      · exact hs (Cond.eq (.elem (.field (Term.string "KingHears$Reader" 37) "java/lang/String" "value" "[B") (.int 3)) (.int 101)) (List.mem_of_getElem? (i := 43) (by decide +kernel))
      · exact hs (Cond.eq (.elem (.field (Term.string "KingHears$Reader" 37) "java/lang/String" "value" "[B") (.int 4)) (.int 110)) (List.mem_of_getElem? (i := 44) (by decide +kernel))
    ) (fun i j hi hj h => absurd (show i = j by omega) h) hA
  exact ⟨adK 0, adV 0, 5, fun j => ([113, 117, 101, 101, 110] : List Int32).getD j 0, by decide, rfl, rfl, vk_R.of (hts _ (List.mem_append_right _ (List.mem_of_getElem? (i := 197) (by decide +kernel)))) (he 0 (by decide)), hk.1 0 (by decide)⟩
set_option maxRecDepth 100000 in
theorem ev_39 {s : State} {b : Nat} (hts : ∀ w ∈ lw_tbl, w.before #[Value.ref b] s = true) (hs : ∀ c ∈ flatC (Jvm.Cond.and given_1 narrow_1), c.before #[Value.ref b] s = true) {A : Nat → Prop} (hA : ∀ a : Nat, a < s.heap.size → ¬ A a) : ∃ (a v n : Nat) (f : Nat → Int32), n ≤ 8 ∧ n = ([99, 104, 97, 110, 99, 101] : List Int32).length ∧ f = (fun j => ([99, 104, 97, 110, 99, 101] : List Int32).getD j 0) ∧ vk_R RX3 39 "chance" a s ∧ Sw a v n f A s s.heap := by
  obtain ⟨adK, adV, hk, he⟩ := vk_Sof (args := #[Value.ref b]) (s := s) (N := 1) (tm := fun _ => (Term.string "KingHears$Reader" 39)) (len := [6]) (byt := [[99, 104, 97, 110, 99, 101]]) (A := A)
    (fun i hi => by obtain rfl : i = 0 := (by omega); decide) (fun i hi => hs (Cond.exactly (Term.string "KingHears$Reader" 39) "java/lang/String") (List.mem_of_getElem? (i := 47) (by decide +kernel))) (fun i hi => hs (Cond.eq (.field (Term.string "KingHears$Reader" 39) "java/lang/String" "coder" "B") (.int 0)) (List.mem_of_getElem? (i := 48) (by decide +kernel))) (fun i hi => hs (Cond.arrayOf (.field (Term.string "KingHears$Reader" 39) "java/lang/String" "value" "[B") .byte) (List.mem_of_getElem? (i := 49) (by decide +kernel)))
    (fun i hi => by obtain rfl : i = 0 := (by omega); exact hs (Cond.eq (.length (.field (Term.string "KingHears$Reader" 39) "java/lang/String" "value" "[B")) (.int 6)) (List.mem_of_getElem? (i := 50) (by decide +kernel)))
    (fun i hi j hj => by
      obtain rfl : i = 0 := (by omega)
      have hj : j < 6 := hj
      rcases (show j = 0 ∨ j = 1 ∨ j = 2 ∨ j = 3 ∨ j = 4 ∨ j = 5 by omega) with rfl | rfl | rfl | rfl | rfl | rfl
      · exact hs (Cond.eq (.elem (.field (Term.string "KingHears$Reader" 39) "java/lang/String" "value" "[B") (.int 0)) (.int 99)) (List.mem_of_getElem? (i := 51) (by decide +kernel))
      · exact hs (Cond.eq (.elem (.field (Term.string "KingHears$Reader" 39) "java/lang/String" "value" "[B") (.int 1)) (.int 104)) (List.mem_of_getElem? (i := 52) (by decide +kernel))
      · exact hs (Cond.eq (.elem (.field (Term.string "KingHears$Reader" 39) "java/lang/String" "value" "[B") (.int 2)) (.int 97)) (List.mem_of_getElem? (i := 53) (by decide +kernel))
      · exact hs (Cond.eq (.elem (.field (Term.string "KingHears$Reader" 39) "java/lang/String" "value" "[B") (.int 3)) (.int 110)) (List.mem_of_getElem? (i := 54) (by decide +kernel))
      · exact hs (Cond.eq (.elem (.field (Term.string "KingHears$Reader" 39) "java/lang/String" "value" "[B") (.int 4)) (.int 99)) (List.mem_of_getElem? (i := 55) (by decide +kernel))
      · exact hs (Cond.eq (.elem (.field (Term.string "KingHears$Reader" 39) "java/lang/String" "value" "[B") (.int 5)) (.int 101)) (List.mem_of_getElem? (i := 56) (by decide +kernel))
    ) (fun i j hi hj h => absurd (show i = j by omega) h) hA
  exact ⟨adK 0, adV 0, 6, fun j => ([99, 104, 97, 110, 99, 101] : List Int32).getD j 0, by decide, rfl, rfl, vk_R.of (hts _ (List.mem_append_right _ (List.mem_of_getElem? (i := 198) (by decide +kernel)))) (he 0 (by decide)), hk.1 0 (by decide)⟩
set_option maxRecDepth 100000 in
theorem ev_41 {s : State} {b : Nat} (hts : ∀ w ∈ lw_tbl, w.before #[Value.ref b] s = true) (hs : ∀ c ∈ flatC (Jvm.Cond.and given_1 narrow_1), c.before #[Value.ref b] s = true) {A : Nat → Prop} (hA : ∀ a : Nat, a < s.heap.size → ¬ A a) : ∃ (a v n : Nat) (f : Nat → Int32), n ≤ 8 ∧ n = ([99, 111, 117, 114, 116] : List Int32).length ∧ f = (fun j => ([99, 111, 117, 114, 116] : List Int32).getD j 0) ∧ vk_R RX3 41 "court" a s ∧ Sw a v n f A s s.heap := by
  obtain ⟨adK, adV, hk, he⟩ := vk_Sof (args := #[Value.ref b]) (s := s) (N := 1) (tm := fun _ => (Term.string "KingHears$Reader" 41)) (len := [5]) (byt := [[99, 111, 117, 114, 116]]) (A := A)
    (fun i hi => by obtain rfl : i = 0 := (by omega); decide) (fun i hi => hs (Cond.exactly (Term.string "KingHears$Reader" 41) "java/lang/String") (List.mem_of_getElem? (i := 60) (by decide +kernel))) (fun i hi => hs (Cond.eq (.field (Term.string "KingHears$Reader" 41) "java/lang/String" "coder" "B") (.int 0)) (List.mem_of_getElem? (i := 61) (by decide +kernel))) (fun i hi => hs (Cond.arrayOf (.field (Term.string "KingHears$Reader" 41) "java/lang/String" "value" "[B") .byte) (List.mem_of_getElem? (i := 62) (by decide +kernel)))
    (fun i hi => by obtain rfl : i = 0 := (by omega); exact hs (Cond.eq (.length (.field (Term.string "KingHears$Reader" 41) "java/lang/String" "value" "[B")) (.int 5)) (List.mem_of_getElem? (i := 63) (by decide +kernel)))
    (fun i hi j hj => by
      obtain rfl : i = 0 := (by omega)
      have hj : j < 5 := hj
      rcases (show j = 0 ∨ j = 1 ∨ j = 2 ∨ j = 3 ∨ j = 4 by omega) with rfl | rfl | rfl | rfl | rfl
      · exact hs (Cond.eq (.elem (.field (Term.string "KingHears$Reader" 41) "java/lang/String" "value" "[B") (.int 0)) (.int 99)) (List.mem_of_getElem? (i := 64) (by decide +kernel))
      · exact hs (Cond.eq (.elem (.field (Term.string "KingHears$Reader" 41) "java/lang/String" "value" "[B") (.int 1)) (.int 111)) (List.mem_of_getElem? (i := 65) (by decide +kernel))
      · exact hs (Cond.eq (.elem (.field (Term.string "KingHears$Reader" 41) "java/lang/String" "value" "[B") (.int 2)) (.int 117)) (List.mem_of_getElem? (i := 66) (by decide +kernel))
      · exact hs (Cond.eq (.elem (.field (Term.string "KingHears$Reader" 41) "java/lang/String" "value" "[B") (.int 3)) (.int 114)) (List.mem_of_getElem? (i := 67) (by decide +kernel))
      · exact hs (Cond.eq (.elem (.field (Term.string "KingHears$Reader" 41) "java/lang/String" "value" "[B") (.int 4)) (.int 116)) (List.mem_of_getElem? (i := 68) (by decide +kernel))
    ) (fun i j hi hj h => absurd (show i = j by omega) h) hA
  exact ⟨adK 0, adV 0, 5, fun j => ([99, 111, 117, 114, 116] : List Int32).getD j 0, by decide, rfl, rfl, vk_R.of (hts _ (List.mem_append_right _ (List.mem_of_getElem? (i := 199) (by decide +kernel)))) (he 0 (by decide)), hk.1 0 (by decide)⟩
set_option maxRecDepth 100000 in
theorem ev_42 {s : State} {b : Nat} (hts : ∀ w ∈ lw_tbl, w.before #[Value.ref b] s = true) (hs : ∀ c ∈ flatC (Jvm.Cond.and given_1 narrow_1), c.before #[Value.ref b] s = true) {A : Nat → Prop} (hA : ∀ a : Nat, a < s.heap.size → ¬ A a) : ∃ (a v n : Nat) (f : Nat → Int32), n ≤ 8 ∧ n = ([116, 104, 114, 111, 110, 101] : List Int32).length ∧ f = (fun j => ([116, 104, 114, 111, 110, 101] : List Int32).getD j 0) ∧ vk_R RX3 42 "throne" a s ∧ Sw a v n f A s s.heap := by
  obtain ⟨adK, adV, hk, he⟩ := vk_Sof (args := #[Value.ref b]) (s := s) (N := 1) (tm := fun _ => (Term.string "KingHears$Reader" 42)) (len := [6]) (byt := [[116, 104, 114, 111, 110, 101]]) (A := A)
    (fun i hi => by obtain rfl : i = 0 := (by omega); decide) (fun i hi => hs (Cond.exactly (Term.string "KingHears$Reader" 42) "java/lang/String") (List.mem_of_getElem? (i := 73) (by decide +kernel))) (fun i hi => hs (Cond.eq (.field (Term.string "KingHears$Reader" 42) "java/lang/String" "coder" "B") (.int 0)) (List.mem_of_getElem? (i := 74) (by decide +kernel))) (fun i hi => hs (Cond.arrayOf (.field (Term.string "KingHears$Reader" 42) "java/lang/String" "value" "[B") .byte) (List.mem_of_getElem? (i := 75) (by decide +kernel)))
    (fun i hi => by obtain rfl : i = 0 := (by omega); exact hs (Cond.eq (.length (.field (Term.string "KingHears$Reader" 42) "java/lang/String" "value" "[B")) (.int 6)) (List.mem_of_getElem? (i := 76) (by decide +kernel)))
    (fun i hi j hj => by
      obtain rfl : i = 0 := (by omega)
      have hj : j < 6 := hj
      rcases (show j = 0 ∨ j = 1 ∨ j = 2 ∨ j = 3 ∨ j = 4 ∨ j = 5 by omega) with rfl | rfl | rfl | rfl | rfl | rfl
      · exact hs (Cond.eq (.elem (.field (Term.string "KingHears$Reader" 42) "java/lang/String" "value" "[B") (.int 0)) (.int 116)) (List.mem_of_getElem? (i := 77) (by decide +kernel))
      · exact hs (Cond.eq (.elem (.field (Term.string "KingHears$Reader" 42) "java/lang/String" "value" "[B") (.int 1)) (.int 104)) (List.mem_of_getElem? (i := 78) (by decide +kernel))
      · exact hs (Cond.eq (.elem (.field (Term.string "KingHears$Reader" 42) "java/lang/String" "value" "[B") (.int 2)) (.int 114)) (List.mem_of_getElem? (i := 79) (by decide +kernel))
      · exact hs (Cond.eq (.elem (.field (Term.string "KingHears$Reader" 42) "java/lang/String" "value" "[B") (.int 3)) (.int 111)) (List.mem_of_getElem? (i := 80) (by decide +kernel))
      · exact hs (Cond.eq (.elem (.field (Term.string "KingHears$Reader" 42) "java/lang/String" "value" "[B") (.int 4)) (.int 110)) (List.mem_of_getElem? (i := 81) (by decide +kernel))
      · exact hs (Cond.eq (.elem (.field (Term.string "KingHears$Reader" 42) "java/lang/String" "value" "[B") (.int 5)) (.int 101)) (List.mem_of_getElem? (i := 82) (by decide +kernel))
    ) (fun i j hi hj h => absurd (show i = j by omega) h) hA
  exact ⟨adK 0, adV 0, 6, fun j => ([116, 104, 114, 111, 110, 101] : List Int32).getD j 0, by decide, rfl, rfl, vk_R.of (hts _ (List.mem_append_right _ (List.mem_of_getElem? (i := 200) (by decide +kernel)))) (he 0 (by decide)), hk.1 0 (by decide)⟩
set_option maxRecDepth 100000 in
theorem ev_44 {s : State} {b : Nat} (hts : ∀ w ∈ lw_tbl, w.before #[Value.ref b] s = true) (hs : ∀ c ∈ flatC (Jvm.Cond.and given_1 narrow_1), c.before #[Value.ref b] s = true) {A : Nat → Prop} (hA : ∀ a : Nat, a < s.heap.size → ¬ A a) : ∃ (a v n : Nat) (f : Nat → Int32), n ≤ 8 ∧ n = ([117, 110, 115, 117, 114, 101] : List Int32).length ∧ f = (fun j => ([117, 110, 115, 117, 114, 101] : List Int32).getD j 0) ∧ vk_R RX3 44 "unsure" a s ∧ Sw a v n f A s s.heap := by
  obtain ⟨adK, adV, hk, he⟩ := vk_Sof (args := #[Value.ref b]) (s := s) (N := 1) (tm := fun _ => (Term.string "KingHears$Reader" 44)) (len := [6]) (byt := [[117, 110, 115, 117, 114, 101]]) (A := A)
    (fun i hi => by obtain rfl : i = 0 := (by omega); decide) (fun i hi => hs (Cond.exactly (Term.string "KingHears$Reader" 44) "java/lang/String") (List.mem_of_getElem? (i := 88) (by decide +kernel))) (fun i hi => hs (Cond.eq (.field (Term.string "KingHears$Reader" 44) "java/lang/String" "coder" "B") (.int 0)) (List.mem_of_getElem? (i := 89) (by decide +kernel))) (fun i hi => hs (Cond.arrayOf (.field (Term.string "KingHears$Reader" 44) "java/lang/String" "value" "[B") .byte) (List.mem_of_getElem? (i := 90) (by decide +kernel)))
    (fun i hi => by obtain rfl : i = 0 := (by omega); exact hs (Cond.eq (.length (.field (Term.string "KingHears$Reader" 44) "java/lang/String" "value" "[B")) (.int 6)) (List.mem_of_getElem? (i := 91) (by decide +kernel)))
    (fun i hi j hj => by
      obtain rfl : i = 0 := (by omega)
      have hj : j < 6 := hj
      rcases (show j = 0 ∨ j = 1 ∨ j = 2 ∨ j = 3 ∨ j = 4 ∨ j = 5 by omega) with rfl | rfl | rfl | rfl | rfl | rfl
      · exact hs (Cond.eq (.elem (.field (Term.string "KingHears$Reader" 44) "java/lang/String" "value" "[B") (.int 0)) (.int 117)) (List.mem_of_getElem? (i := 92) (by decide +kernel))
      · exact hs (Cond.eq (.elem (.field (Term.string "KingHears$Reader" 44) "java/lang/String" "value" "[B") (.int 1)) (.int 110)) (List.mem_of_getElem? (i := 93) (by decide +kernel))
      · exact hs (Cond.eq (.elem (.field (Term.string "KingHears$Reader" 44) "java/lang/String" "value" "[B") (.int 2)) (.int 115)) (List.mem_of_getElem? (i := 94) (by decide +kernel))
      · exact hs (Cond.eq (.elem (.field (Term.string "KingHears$Reader" 44) "java/lang/String" "value" "[B") (.int 3)) (.int 117)) (List.mem_of_getElem? (i := 95) (by decide +kernel))
      · exact hs (Cond.eq (.elem (.field (Term.string "KingHears$Reader" 44) "java/lang/String" "value" "[B") (.int 4)) (.int 114)) (List.mem_of_getElem? (i := 96) (by decide +kernel))
      · exact hs (Cond.eq (.elem (.field (Term.string "KingHears$Reader" 44) "java/lang/String" "value" "[B") (.int 5)) (.int 101)) (List.mem_of_getElem? (i := 97) (by decide +kernel))
    ) (fun i j hi hj h => absurd (show i = j by omega) h) hA
  exact ⟨adK 0, adV 0, 6, fun j => ([117, 110, 115, 117, 114, 101] : List Int32).getD j 0, by decide, rfl, rfl, vk_R.of (hts _ (List.mem_append_right _ (List.mem_of_getElem? (i := 201) (by decide +kernel)))) (he 0 (by decide)), hk.1 0 (by decide)⟩
set_option maxRecDepth 100000 in
theorem ev_46 {s : State} {b : Nat} (hts : ∀ w ∈ lw_tbl, w.before #[Value.ref b] s = true) (hs : ∀ c ∈ flatC (Jvm.Cond.and given_1 narrow_1), c.before #[Value.ref b] s = true) {A : Nat → Prop} (hA : ∀ a : Nat, a < s.heap.size → ¬ A a) : ∃ (a v n : Nat) (f : Nat → Int32), n ≤ 8 ∧ n = ([115, 97, 105, 100] : List Int32).length ∧ f = (fun j => ([115, 97, 105, 100] : List Int32).getD j 0) ∧ vk_R RX3 46 "said" a s ∧ Sw a v n f A s s.heap := by
  obtain ⟨adK, adV, hk, he⟩ := vk_Sof (args := #[Value.ref b]) (s := s) (N := 1) (tm := fun _ => (Term.string "KingHears$Reader" 46)) (len := [4]) (byt := [[115, 97, 105, 100]]) (A := A)
    (fun i hi => by obtain rfl : i = 0 := (by omega); decide) (fun i hi => hs (Cond.exactly (Term.string "KingHears$Reader" 46) "java/lang/String") (List.mem_of_getElem? (i := 104) (by decide +kernel))) (fun i hi => hs (Cond.eq (.field (Term.string "KingHears$Reader" 46) "java/lang/String" "coder" "B") (.int 0)) (List.mem_of_getElem? (i := 105) (by decide +kernel))) (fun i hi => hs (Cond.arrayOf (.field (Term.string "KingHears$Reader" 46) "java/lang/String" "value" "[B") .byte) (List.mem_of_getElem? (i := 106) (by decide +kernel)))
    (fun i hi => by obtain rfl : i = 0 := (by omega); exact hs (Cond.eq (.length (.field (Term.string "KingHears$Reader" 46) "java/lang/String" "value" "[B")) (.int 4)) (List.mem_of_getElem? (i := 107) (by decide +kernel)))
    (fun i hi j hj => by
      obtain rfl : i = 0 := (by omega)
      have hj : j < 4 := hj
      rcases (show j = 0 ∨ j = 1 ∨ j = 2 ∨ j = 3 by omega) with rfl | rfl | rfl | rfl
      · exact hs (Cond.eq (.elem (.field (Term.string "KingHears$Reader" 46) "java/lang/String" "value" "[B") (.int 0)) (.int 115)) (List.mem_of_getElem? (i := 108) (by decide +kernel))
      · exact hs (Cond.eq (.elem (.field (Term.string "KingHears$Reader" 46) "java/lang/String" "value" "[B") (.int 1)) (.int 97)) (List.mem_of_getElem? (i := 109) (by decide +kernel))
      · exact hs (Cond.eq (.elem (.field (Term.string "KingHears$Reader" 46) "java/lang/String" "value" "[B") (.int 2)) (.int 105)) (List.mem_of_getElem? (i := 110) (by decide +kernel))
      · exact hs (Cond.eq (.elem (.field (Term.string "KingHears$Reader" 46) "java/lang/String" "value" "[B") (.int 3)) (.int 100)) (List.mem_of_getElem? (i := 111) (by decide +kernel))
    ) (fun i j hi hj h => absurd (show i = j by omega) h) hA
  exact ⟨adK 0, adV 0, 4, fun j => ([115, 97, 105, 100] : List Int32).getD j 0, by decide, rfl, rfl, vk_R.of (hts _ (List.mem_append_right _ (List.mem_of_getElem? (i := 202) (by decide +kernel)))) (he 0 (by decide)), hk.1 0 (by decide)⟩
set_option maxRecDepth 100000 in
theorem ev_48 {s : State} {b : Nat} (hts : ∀ w ∈ lw_tbl, w.before #[Value.ref b] s = true) (hs : ∀ c ∈ flatC (Jvm.Cond.and given_1 narrow_1), c.before #[Value.ref b] s = true) {A : Nat → Prop} (hA : ∀ a : Nat, a < s.heap.size → ¬ A a) : ∃ (a v n : Nat) (f : Nat → Int32), n ≤ 8 ∧ n = ([115, 108, 105, 112, 115] : List Int32).length ∧ f = (fun j => ([115, 108, 105, 112, 115] : List Int32).getD j 0) ∧ vk_R RX3 48 "slips" a s ∧ Sw a v n f A s s.heap := by
  obtain ⟨adK, adV, hk, he⟩ := vk_Sof (args := #[Value.ref b]) (s := s) (N := 1) (tm := fun _ => (Term.string "KingHears$Reader" 48)) (len := [5]) (byt := [[115, 108, 105, 112, 115]]) (A := A)
    (fun i hi => by obtain rfl : i = 0 := (by omega); decide) (fun i hi => hs (Cond.exactly (Term.string "KingHears$Reader" 48) "java/lang/String") (List.mem_of_getElem? (i := 119) (by decide +kernel))) (fun i hi => hs (Cond.eq (.field (Term.string "KingHears$Reader" 48) "java/lang/String" "coder" "B") (.int 0)) (List.mem_of_getElem? (i := 120) (by decide +kernel))) (fun i hi => hs (Cond.arrayOf (.field (Term.string "KingHears$Reader" 48) "java/lang/String" "value" "[B") .byte) (List.mem_of_getElem? (i := 121) (by decide +kernel)))
    (fun i hi => by obtain rfl : i = 0 := (by omega); exact hs (Cond.eq (.length (.field (Term.string "KingHears$Reader" 48) "java/lang/String" "value" "[B")) (.int 5)) (List.mem_of_getElem? (i := 122) (by decide +kernel)))
    (fun i hi j hj => by
      obtain rfl : i = 0 := (by omega)
      have hj : j < 5 := hj
      rcases (show j = 0 ∨ j = 1 ∨ j = 2 ∨ j = 3 ∨ j = 4 by omega) with rfl | rfl | rfl | rfl | rfl
      · exact hs (Cond.eq (.elem (.field (Term.string "KingHears$Reader" 48) "java/lang/String" "value" "[B") (.int 0)) (.int 115)) (List.mem_of_getElem? (i := 123) (by decide +kernel))
      · exact hs (Cond.eq (.elem (.field (Term.string "KingHears$Reader" 48) "java/lang/String" "value" "[B") (.int 1)) (.int 108)) (List.mem_of_getElem? (i := 124) (by decide +kernel))
      · exact hs (Cond.eq (.elem (.field (Term.string "KingHears$Reader" 48) "java/lang/String" "value" "[B") (.int 2)) (.int 105)) (List.mem_of_getElem? (i := 125) (by decide +kernel))
      · exact hs (Cond.eq (.elem (.field (Term.string "KingHears$Reader" 48) "java/lang/String" "value" "[B") (.int 3)) (.int 112)) (List.mem_of_getElem? (i := 126) (by decide +kernel))
      · exact hs (Cond.eq (.elem (.field (Term.string "KingHears$Reader" 48) "java/lang/String" "value" "[B") (.int 4)) (.int 115)) (List.mem_of_getElem? (i := 127) (by decide +kernel))
    ) (fun i j hi hj h => absurd (show i = j by omega) h) hA
  exact ⟨adK 0, adV 0, 5, fun j => ([115, 108, 105, 112, 115] : List Int32).getD j 0, by decide, rfl, rfl, vk_R.of (hts _ (List.mem_append_right _ (List.mem_of_getElem? (i := 203) (by decide +kernel)))) (he 0 (by decide)), hk.1 0 (by decide)⟩
set_option maxRecDepth 100000 in
theorem ev_50 {s : State} {b : Nat} (hts : ∀ w ∈ lw_tbl, w.before #[Value.ref b] s = true) (hs : ∀ c ∈ flatC (Jvm.Cond.and given_1 narrow_1), c.before #[Value.ref b] s = true) {A : Nat → Prop} (hA : ∀ a : Nat, a < s.heap.size → ¬ A a) : ∃ (a v n : Nat) (f : Nat → Int32), n ≤ 8 ∧ n = ([119, 111, 114, 116, 104] : List Int32).length ∧ f = (fun j => ([119, 111, 114, 116, 104] : List Int32).getD j 0) ∧ vk_R RX3 50 "worth" a s ∧ Sw a v n f A s s.heap := by
  obtain ⟨adK, adV, hk, he⟩ := vk_Sof (args := #[Value.ref b]) (s := s) (N := 1) (tm := fun _ => (Term.string "KingHears$Reader" 50)) (len := [5]) (byt := [[119, 111, 114, 116, 104]]) (A := A)
    (fun i hi => by obtain rfl : i = 0 := (by omega); decide) (fun i hi => hs (Cond.exactly (Term.string "KingHears$Reader" 50) "java/lang/String") (List.mem_of_getElem? (i := 136) (by decide +kernel))) (fun i hi => hs (Cond.eq (.field (Term.string "KingHears$Reader" 50) "java/lang/String" "coder" "B") (.int 0)) (List.mem_of_getElem? (i := 137) (by decide +kernel))) (fun i hi => hs (Cond.arrayOf (.field (Term.string "KingHears$Reader" 50) "java/lang/String" "value" "[B") .byte) (List.mem_of_getElem? (i := 138) (by decide +kernel)))
    (fun i hi => by obtain rfl : i = 0 := (by omega); exact hs (Cond.eq (.length (.field (Term.string "KingHears$Reader" 50) "java/lang/String" "value" "[B")) (.int 5)) (List.mem_of_getElem? (i := 139) (by decide +kernel)))
    (fun i hi j hj => by
      obtain rfl : i = 0 := (by omega)
      have hj : j < 5 := hj
      rcases (show j = 0 ∨ j = 1 ∨ j = 2 ∨ j = 3 ∨ j = 4 by omega) with rfl | rfl | rfl | rfl | rfl
      · exact hs (Cond.eq (.elem (.field (Term.string "KingHears$Reader" 50) "java/lang/String" "value" "[B") (.int 0)) (.int 119)) (List.mem_of_getElem? (i := 140) (by decide +kernel))
      · exact hs (Cond.eq (.elem (.field (Term.string "KingHears$Reader" 50) "java/lang/String" "value" "[B") (.int 1)) (.int 111)) (List.mem_of_getElem? (i := 141) (by decide +kernel))
      · exact hs (Cond.eq (.elem (.field (Term.string "KingHears$Reader" 50) "java/lang/String" "value" "[B") (.int 2)) (.int 114)) (List.mem_of_getElem? (i := 142) (by decide +kernel))
      · exact hs (Cond.eq (.elem (.field (Term.string "KingHears$Reader" 50) "java/lang/String" "value" "[B") (.int 3)) (.int 116)) (List.mem_of_getElem? (i := 143) (by decide +kernel))
      · exact hs (Cond.eq (.elem (.field (Term.string "KingHears$Reader" 50) "java/lang/String" "value" "[B") (.int 4)) (.int 104)) (List.mem_of_getElem? (i := 144) (by decide +kernel))
    ) (fun i j hi hj h => absurd (show i = j by omega) h) hA
  exact ⟨adK 0, adV 0, 5, fun j => ([119, 111, 114, 116, 104] : List Int32).getD j 0, by decide, rfl, rfl, vk_R.of (hts _ (List.mem_append_right _ (List.mem_of_getElem? (i := 204) (by decide +kernel)))) (he 0 (by decide)), hk.1 0 (by decide)⟩
set_option maxRecDepth 100000 in
theorem ev7_134 {s : State} {b : Nat} (hts : ∀ w ∈ lw_tbl, w.before #[Value.ref b] s = true) (hs : ∀ c ∈ flatC (Jvm.Cond.and given_1 narrow_1), c.before #[Value.ref b] s = true) {A : Nat → Prop} (hA : ∀ a : Nat, a < s.heap.size → ¬ A a) : ∃ (a v n : Nat) (f : Nat → Int32), n ≤ 8 ∧ n = ([99, 111, 117, 114, 116] : List Int32).length ∧ f = (fun j => ([99, 111, 117, 114, 116] : List Int32).getD j 0) ∧ vk_R RX7 134 "court" a s ∧ Sw a v n f A s s.heap := by
  obtain ⟨adK, adV, hk, he⟩ := vk_Sof (args := #[Value.ref b]) (s := s) (N := 1) (tm := fun _ => (Term.string "KingHearsModel" 134)) (len := [5]) (byt := [[99, 111, 117, 114, 116]]) (A := A)
    (fun i hi => by obtain rfl : i = 0 := (by omega); decide) (fun i hi => hs (Cond.exactly (Term.string "KingHearsModel" 134) "java/lang/String") (List.mem_of_getElem? (i := 180) (by decide +kernel))) (fun i hi => hs (Cond.eq (.field (Term.string "KingHearsModel" 134) "java/lang/String" "coder" "B") (.int 0)) (List.mem_of_getElem? (i := 181) (by decide +kernel))) (fun i hi => hs (Cond.arrayOf (.field (Term.string "KingHearsModel" 134) "java/lang/String" "value" "[B") .byte) (List.mem_of_getElem? (i := 182) (by decide +kernel)))
    (fun i hi => by obtain rfl : i = 0 := (by omega); exact hs (Cond.eq (.length (.field (Term.string "KingHearsModel" 134) "java/lang/String" "value" "[B")) (.int 5)) (List.mem_of_getElem? (i := 183) (by decide +kernel)))
    (fun i hi j hj => by
      obtain rfl : i = 0 := (by omega)
      have hj : j < 5 := hj
      rcases (show j = 0 ∨ j = 1 ∨ j = 2 ∨ j = 3 ∨ j = 4 by omega) with rfl | rfl | rfl | rfl | rfl
      · exact hs (Cond.eq (.elem (.field (Term.string "KingHearsModel" 134) "java/lang/String" "value" "[B") (.int 0)) (.int 99)) (List.mem_of_getElem? (i := 184) (by decide +kernel))
      · exact hs (Cond.eq (.elem (.field (Term.string "KingHearsModel" 134) "java/lang/String" "value" "[B") (.int 1)) (.int 111)) (List.mem_of_getElem? (i := 185) (by decide +kernel))
      · exact hs (Cond.eq (.elem (.field (Term.string "KingHearsModel" 134) "java/lang/String" "value" "[B") (.int 2)) (.int 117)) (List.mem_of_getElem? (i := 186) (by decide +kernel))
      · exact hs (Cond.eq (.elem (.field (Term.string "KingHearsModel" 134) "java/lang/String" "value" "[B") (.int 3)) (.int 114)) (List.mem_of_getElem? (i := 187) (by decide +kernel))
      · exact hs (Cond.eq (.elem (.field (Term.string "KingHearsModel" 134) "java/lang/String" "value" "[B") (.int 4)) (.int 116)) (List.mem_of_getElem? (i := 188) (by decide +kernel))
    ) (fun i j hi hj h => absurd (show i = j by omega) h) hA
  exact ⟨adK 0, adV 0, 5, fun j => ([99, 111, 117, 114, 116] : List Int32).getD j 0, by decide, rfl, rfl, vk_R.of (hts _ (List.mem_append_right _ (List.mem_of_getElem? (i := 1298) (by decide +kernel)))) (he 0 (by decide)), hk.1 0 (by decide)⟩
set_option maxRecDepth 100000 in
theorem ev7_136 {s : State} {b : Nat} (hts : ∀ w ∈ lw_tbl, w.before #[Value.ref b] s = true) (hs : ∀ c ∈ flatC (Jvm.Cond.and given_1 narrow_1), c.before #[Value.ref b] s = true) {A : Nat → Prop} (hA : ∀ a : Nat, a < s.heap.size → ¬ A a) : ∃ (a v n : Nat) (f : Nat → Int32), n ≤ 8 ∧ n = ([119, 111, 114, 100] : List Int32).length ∧ f = (fun j => ([119, 111, 114, 100] : List Int32).getD j 0) ∧ vk_R RX7 136 "word" a s ∧ Sw a v n f A s s.heap := by
  obtain ⟨adK, adV, hk, he⟩ := vk_Sof (args := #[Value.ref b]) (s := s) (N := 1) (tm := fun _ => (Term.string "KingHearsModel" 136)) (len := [4]) (byt := [[119, 111, 114, 100]]) (A := A)
    (fun i hi => by obtain rfl : i = 0 := (by omega); decide) (fun i hi => hs (Cond.exactly (Term.string "KingHearsModel" 136) "java/lang/String") (List.mem_of_getElem? (i := 221) (by decide +kernel))) (fun i hi => hs (Cond.eq (.field (Term.string "KingHearsModel" 136) "java/lang/String" "coder" "B") (.int 0)) (List.mem_of_getElem? (i := 222) (by decide +kernel))) (fun i hi => hs (Cond.arrayOf (.field (Term.string "KingHearsModel" 136) "java/lang/String" "value" "[B") .byte) (List.mem_of_getElem? (i := 223) (by decide +kernel)))
    (fun i hi => by obtain rfl : i = 0 := (by omega); exact hs (Cond.eq (.length (.field (Term.string "KingHearsModel" 136) "java/lang/String" "value" "[B")) (.int 4)) (List.mem_of_getElem? (i := 224) (by decide +kernel)))
    (fun i hi j hj => by
      obtain rfl : i = 0 := (by omega)
      have hj : j < 4 := hj
      rcases (show j = 0 ∨ j = 1 ∨ j = 2 ∨ j = 3 by omega) with rfl | rfl | rfl | rfl
      · exact hs (Cond.eq (.elem (.field (Term.string "KingHearsModel" 136) "java/lang/String" "value" "[B") (.int 0)) (.int 119)) (List.mem_of_getElem? (i := 225) (by decide +kernel))
      · exact hs (Cond.eq (.elem (.field (Term.string "KingHearsModel" 136) "java/lang/String" "value" "[B") (.int 1)) (.int 111)) (List.mem_of_getElem? (i := 226) (by decide +kernel))
      · exact hs (Cond.eq (.elem (.field (Term.string "KingHearsModel" 136) "java/lang/String" "value" "[B") (.int 2)) (.int 114)) (List.mem_of_getElem? (i := 227) (by decide +kernel))
      · exact hs (Cond.eq (.elem (.field (Term.string "KingHearsModel" 136) "java/lang/String" "value" "[B") (.int 3)) (.int 100)) (List.mem_of_getElem? (i := 228) (by decide +kernel))
    ) (fun i j hi hj h => absurd (show i = j by omega) h) hA
  exact ⟨adK 0, adV 0, 4, fun j => ([119, 111, 114, 100] : List Int32).getD j 0, by decide, rfl, rfl, vk_R.of (hts _ (List.mem_append_right _ (List.mem_of_getElem? (i := 1330) (by decide +kernel)))) (he 0 (by decide)), hk.1 0 (by decide)⟩
set_option maxRecDepth 100000 in
theorem ev7_138 {s : State} {b : Nat} (hts : ∀ w ∈ lw_tbl, w.before #[Value.ref b] s = true) (hs : ∀ c ∈ flatC (Jvm.Cond.and given_1 narrow_1), c.before #[Value.ref b] s = true) {A : Nat → Prop} (hA : ∀ a : Nat, a < s.heap.size → ¬ A a) : ∃ (a v n : Nat) (f : Nat → Int32), n ≤ 8 ∧ n = ([107, 105, 110, 103] : List Int32).length ∧ f = (fun j => ([107, 105, 110, 103] : List Int32).getD j 0) ∧ vk_R RX7 138 "king" a s ∧ Sw a v n f A s s.heap := by
  obtain ⟨adK, adV, hk, he⟩ := vk_Sof (args := #[Value.ref b]) (s := s) (N := 1) (tm := fun _ => (Term.string "KingHearsModel" 138)) (len := [4]) (byt := [[107, 105, 110, 103]]) (A := A)
    (fun i hi => by obtain rfl : i = 0 := (by omega); decide) (fun i hi => hs (Cond.exactly (Term.string "KingHearsModel" 138) "java/lang/String") (List.mem_of_getElem? (i := 242) (by decide +kernel))) (fun i hi => hs (Cond.eq (.field (Term.string "KingHearsModel" 138) "java/lang/String" "coder" "B") (.int 0)) (List.mem_of_getElem? (i := 243) (by decide +kernel))) (fun i hi => hs (Cond.arrayOf (.field (Term.string "KingHearsModel" 138) "java/lang/String" "value" "[B") .byte) (List.mem_of_getElem? (i := 244) (by decide +kernel)))
    (fun i hi => by obtain rfl : i = 0 := (by omega); exact hs (Cond.eq (.length (.field (Term.string "KingHearsModel" 138) "java/lang/String" "value" "[B")) (.int 4)) (List.mem_of_getElem? (i := 245) (by decide +kernel)))
    (fun i hi j hj => by
      obtain rfl : i = 0 := (by omega)
      have hj : j < 4 := hj
      rcases (show j = 0 ∨ j = 1 ∨ j = 2 ∨ j = 3 by omega) with rfl | rfl | rfl | rfl
      · exact hs (Cond.eq (.elem (.field (Term.string "KingHearsModel" 138) "java/lang/String" "value" "[B") (.int 0)) (.int 107)) (List.mem_of_getElem? (i := 246) (by decide +kernel))
      · exact hs (Cond.eq (.elem (.field (Term.string "KingHearsModel" 138) "java/lang/String" "value" "[B") (.int 1)) (.int 105)) (List.mem_of_getElem? (i := 247) (by decide +kernel))
      · exact hs (Cond.eq (.elem (.field (Term.string "KingHearsModel" 138) "java/lang/String" "value" "[B") (.int 2)) (.int 110)) (List.mem_of_getElem? (i := 248) (by decide +kernel))
      · exact hs (Cond.eq (.elem (.field (Term.string "KingHearsModel" 138) "java/lang/String" "value" "[B") (.int 3)) (.int 103)) (List.mem_of_getElem? (i := 249) (by decide +kernel))
    ) (fun i j hi hj h => absurd (show i = j by omega) h) hA
  exact ⟨adK 0, adV 0, 4, fun j => ([107, 105, 110, 103] : List Int32).getD j 0, by decide, rfl, rfl, vk_R.of (hts _ (List.mem_append_right _ (List.mem_of_getElem? (i := 1351) (by decide +kernel)))) (he 0 (by decide)), hk.1 0 (by decide)⟩
set_option maxRecDepth 100000 in
theorem ev7_140 {s : State} {b : Nat} (hts : ∀ w ∈ lw_tbl, w.before #[Value.ref b] s = true) (hs : ∀ c ∈ flatC (Jvm.Cond.and given_1 narrow_1), c.before #[Value.ref b] s = true) {A : Nat → Prop} (hA : ∀ a : Nat, a < s.heap.size → ¬ A a) : ∃ (a v n : Nat) (f : Nat → Int32), n ≤ 8 ∧ n = ([113, 117, 101, 101, 110] : List Int32).length ∧ f = (fun j => ([113, 117, 101, 101, 110] : List Int32).getD j 0) ∧ vk_R RX7 140 "queen" a s ∧ Sw a v n f A s s.heap := by
  obtain ⟨adK, adV, hk, he⟩ := vk_Sof (args := #[Value.ref b]) (s := s) (N := 1) (tm := fun _ => (Term.string "KingHearsModel" 140)) (len := [5]) (byt := [[113, 117, 101, 101, 110]]) (A := A)
    (fun i hi => by obtain rfl : i = 0 := (by omega); decide) (fun i hi => hs (Cond.exactly (Term.string "KingHearsModel" 140) "java/lang/String") (List.mem_of_getElem? (i := 264) (by decide +kernel))) (fun i hi => hs (Cond.eq (.field (Term.string "KingHearsModel" 140) "java/lang/String" "coder" "B") (.int 0)) (List.mem_of_getElem? (i := 265) (by decide +kernel))) (fun i hi => hs (Cond.arrayOf (.field (Term.string "KingHearsModel" 140) "java/lang/String" "value" "[B") .byte) (List.mem_of_getElem? (i := 266) (by decide +kernel)))
    (fun i hi => by obtain rfl : i = 0 := (by omega); exact hs (Cond.eq (.length (.field (Term.string "KingHearsModel" 140) "java/lang/String" "value" "[B")) (.int 5)) (List.mem_of_getElem? (i := 267) (by decide +kernel)))
    (fun i hi j hj => by
      obtain rfl : i = 0 := (by omega)
      have hj : j < 5 := hj
      rcases (show j = 0 ∨ j = 1 ∨ j = 2 ∨ j = 3 ∨ j = 4 by omega) with rfl | rfl | rfl | rfl | rfl
      · exact hs (Cond.eq (.elem (.field (Term.string "KingHearsModel" 140) "java/lang/String" "value" "[B") (.int 0)) (.int 113)) (List.mem_of_getElem? (i := 268) (by decide +kernel))
      · exact hs (Cond.eq (.elem (.field (Term.string "KingHearsModel" 140) "java/lang/String" "value" "[B") (.int 1)) (.int 117)) (List.mem_of_getElem? (i := 269) (by decide +kernel))
      · exact hs (Cond.eq (.elem (.field (Term.string "KingHearsModel" 140) "java/lang/String" "value" "[B") (.int 2)) (.int 101)) (List.mem_of_getElem? (i := 270) (by decide +kernel))
      · exact hs (Cond.eq (.elem (.field (Term.string "KingHearsModel" 140) "java/lang/String" "value" "[B") (.int 3)) (.int 101)) (List.mem_of_getElem? (i := 271) (by decide +kernel))
      · exact hs (Cond.eq (.elem (.field (Term.string "KingHearsModel" 140) "java/lang/String" "value" "[B") (.int 4)) (.int 110)) (List.mem_of_getElem? (i := 272) (by decide +kernel))
    ) (fun i j hi hj h => absurd (show i = j by omega) h) hA
  exact ⟨adK 0, adV 0, 5, fun j => ([113, 117, 101, 101, 110] : List Int32).getD j 0, by decide, rfl, rfl, vk_R.of (hts _ (List.mem_append_right _ (List.mem_of_getElem? (i := 1352) (by decide +kernel)))) (he 0 (by decide)), hk.1 0 (by decide)⟩
set_option maxRecDepth 100000 in
theorem ev7_142 {s : State} {b : Nat} (hts : ∀ w ∈ lw_tbl, w.before #[Value.ref b] s = true) (hs : ∀ c ∈ flatC (Jvm.Cond.and given_1 narrow_1), c.before #[Value.ref b] s = true) {A : Nat → Prop} (hA : ∀ a : Nat, a < s.heap.size → ¬ A a) : ∃ (a v n : Nat) (f : Nat → Int32), n ≤ 8 ∧ n = ([99, 104, 97, 110, 99, 101] : List Int32).length ∧ f = (fun j => ([99, 104, 97, 110, 99, 101] : List Int32).getD j 0) ∧ vk_R RX7 142 "chance" a s ∧ Sw a v n f A s s.heap := by
  obtain ⟨adK, adV, hk, he⟩ := vk_Sof (args := #[Value.ref b]) (s := s) (N := 1) (tm := fun _ => (Term.string "KingHearsModel" 142)) (len := [6]) (byt := [[99, 104, 97, 110, 99, 101]]) (A := A)
    (fun i hi => by obtain rfl : i = 0 := (by omega); decide) (fun i hi => hs (Cond.exactly (Term.string "KingHearsModel" 142) "java/lang/String") (List.mem_of_getElem? (i := 288) (by decide +kernel))) (fun i hi => hs (Cond.eq (.field (Term.string "KingHearsModel" 142) "java/lang/String" "coder" "B") (.int 0)) (List.mem_of_getElem? (i := 289) (by decide +kernel))) (fun i hi => hs (Cond.arrayOf (.field (Term.string "KingHearsModel" 142) "java/lang/String" "value" "[B") .byte) (List.mem_of_getElem? (i := 290) (by decide +kernel)))
    (fun i hi => by obtain rfl : i = 0 := (by omega); exact hs (Cond.eq (.length (.field (Term.string "KingHearsModel" 142) "java/lang/String" "value" "[B")) (.int 6)) (List.mem_of_getElem? (i := 291) (by decide +kernel)))
    (fun i hi j hj => by
      obtain rfl : i = 0 := (by omega)
      have hj : j < 6 := hj
      rcases (show j = 0 ∨ j = 1 ∨ j = 2 ∨ j = 3 ∨ j = 4 ∨ j = 5 by omega) with rfl | rfl | rfl | rfl | rfl | rfl
      · exact hs (Cond.eq (.elem (.field (Term.string "KingHearsModel" 142) "java/lang/String" "value" "[B") (.int 0)) (.int 99)) (List.mem_of_getElem? (i := 292) (by decide +kernel))
      · exact hs (Cond.eq (.elem (.field (Term.string "KingHearsModel" 142) "java/lang/String" "value" "[B") (.int 1)) (.int 104)) (List.mem_of_getElem? (i := 293) (by decide +kernel))
      · exact hs (Cond.eq (.elem (.field (Term.string "KingHearsModel" 142) "java/lang/String" "value" "[B") (.int 2)) (.int 97)) (List.mem_of_getElem? (i := 294) (by decide +kernel))
      · exact hs (Cond.eq (.elem (.field (Term.string "KingHearsModel" 142) "java/lang/String" "value" "[B") (.int 3)) (.int 110)) (List.mem_of_getElem? (i := 295) (by decide +kernel))
      · exact hs (Cond.eq (.elem (.field (Term.string "KingHearsModel" 142) "java/lang/String" "value" "[B") (.int 4)) (.int 99)) (List.mem_of_getElem? (i := 296) (by decide +kernel))
      · exact hs (Cond.eq (.elem (.field (Term.string "KingHearsModel" 142) "java/lang/String" "value" "[B") (.int 5)) (.int 101)) (List.mem_of_getElem? (i := 297) (by decide +kernel))
    ) (fun i j hi hj h => absurd (show i = j by omega) h) hA
  exact ⟨adK 0, adV 0, 6, fun j => ([99, 104, 97, 110, 99, 101] : List Int32).getD j 0, by decide, rfl, rfl, vk_R.of (hts _ (List.mem_append_right _ (List.mem_of_getElem? (i := 1353) (by decide +kernel)))) (he 0 (by decide)), hk.1 0 (by decide)⟩
set_option maxRecDepth 100000 in
theorem ev7_144 {s : State} {b : Nat} (hts : ∀ w ∈ lw_tbl, w.before #[Value.ref b] s = true) (hs : ∀ c ∈ flatC (Jvm.Cond.and given_1 narrow_1), c.before #[Value.ref b] s = true) {A : Nat → Prop} (hA : ∀ a : Nat, a < s.heap.size → ¬ A a) : ∃ (a v n : Nat) (f : Nat → Int32), n ≤ 8 ∧ n = ([116, 104, 114, 111, 110, 101] : List Int32).length ∧ f = (fun j => ([116, 104, 114, 111, 110, 101] : List Int32).getD j 0) ∧ vk_R RX7 144 "throne" a s ∧ Sw a v n f A s s.heap := by
  obtain ⟨adK, adV, hk, he⟩ := vk_Sof (args := #[Value.ref b]) (s := s) (N := 1) (tm := fun _ => (Term.string "KingHearsModel" 144)) (len := [6]) (byt := [[116, 104, 114, 111, 110, 101]]) (A := A)
    (fun i hi => by obtain rfl : i = 0 := (by omega); decide) (fun i hi => hs (Cond.exactly (Term.string "KingHearsModel" 144) "java/lang/String") (List.mem_of_getElem? (i := 314) (by decide +kernel))) (fun i hi => hs (Cond.eq (.field (Term.string "KingHearsModel" 144) "java/lang/String" "coder" "B") (.int 0)) (List.mem_of_getElem? (i := 315) (by decide +kernel))) (fun i hi => hs (Cond.arrayOf (.field (Term.string "KingHearsModel" 144) "java/lang/String" "value" "[B") .byte) (List.mem_of_getElem? (i := 316) (by decide +kernel)))
    (fun i hi => by obtain rfl : i = 0 := (by omega); exact hs (Cond.eq (.length (.field (Term.string "KingHearsModel" 144) "java/lang/String" "value" "[B")) (.int 6)) (List.mem_of_getElem? (i := 317) (by decide +kernel)))
    (fun i hi j hj => by
      obtain rfl : i = 0 := (by omega)
      have hj : j < 6 := hj
      rcases (show j = 0 ∨ j = 1 ∨ j = 2 ∨ j = 3 ∨ j = 4 ∨ j = 5 by omega) with rfl | rfl | rfl | rfl | rfl | rfl
      · exact hs (Cond.eq (.elem (.field (Term.string "KingHearsModel" 144) "java/lang/String" "value" "[B") (.int 0)) (.int 116)) (List.mem_of_getElem? (i := 318) (by decide +kernel))
      · exact hs (Cond.eq (.elem (.field (Term.string "KingHearsModel" 144) "java/lang/String" "value" "[B") (.int 1)) (.int 104)) (List.mem_of_getElem? (i := 319) (by decide +kernel))
      · exact hs (Cond.eq (.elem (.field (Term.string "KingHearsModel" 144) "java/lang/String" "value" "[B") (.int 2)) (.int 114)) (List.mem_of_getElem? (i := 320) (by decide +kernel))
      · exact hs (Cond.eq (.elem (.field (Term.string "KingHearsModel" 144) "java/lang/String" "value" "[B") (.int 3)) (.int 111)) (List.mem_of_getElem? (i := 321) (by decide +kernel))
      · exact hs (Cond.eq (.elem (.field (Term.string "KingHearsModel" 144) "java/lang/String" "value" "[B") (.int 4)) (.int 110)) (List.mem_of_getElem? (i := 322) (by decide +kernel))
      · exact hs (Cond.eq (.elem (.field (Term.string "KingHearsModel" 144) "java/lang/String" "value" "[B") (.int 5)) (.int 101)) (List.mem_of_getElem? (i := 323) (by decide +kernel))
    ) (fun i j hi hj h => absurd (show i = j by omega) h) hA
  exact ⟨adK 0, adV 0, 6, fun j => ([116, 104, 114, 111, 110, 101] : List Int32).getD j 0, by decide, rfl, rfl, vk_R.of (hts _ (List.mem_append_right _ (List.mem_of_getElem? (i := 1354) (by decide +kernel)))) (he 0 (by decide)), hk.1 0 (by decide)⟩
set_option maxRecDepth 100000 in
theorem ev7_146 {s : State} {b : Nat} (hts : ∀ w ∈ lw_tbl, w.before #[Value.ref b] s = true) (hs : ∀ c ∈ flatC (Jvm.Cond.and given_1 narrow_1), c.before #[Value.ref b] s = true) {A : Nat → Prop} (hA : ∀ a : Nat, a < s.heap.size → ¬ A a) : ∃ (a v n : Nat) (f : Nat → Int32), n ≤ 8 ∧ n = ([117, 110, 115, 117, 114, 101] : List Int32).length ∧ f = (fun j => ([117, 110, 115, 117, 114, 101] : List Int32).getD j 0) ∧ vk_R RX7 146 "unsure" a s ∧ Sw a v n f A s s.heap := by
  obtain ⟨adK, adV, hk, he⟩ := vk_Sof (args := #[Value.ref b]) (s := s) (N := 1) (tm := fun _ => (Term.string "KingHearsModel" 146)) (len := [6]) (byt := [[117, 110, 115, 117, 114, 101]]) (A := A)
    (fun i hi => by obtain rfl : i = 0 := (by omega); decide) (fun i hi => hs (Cond.exactly (Term.string "KingHearsModel" 146) "java/lang/String") (List.mem_of_getElem? (i := 341) (by decide +kernel))) (fun i hi => hs (Cond.eq (.field (Term.string "KingHearsModel" 146) "java/lang/String" "coder" "B") (.int 0)) (List.mem_of_getElem? (i := 342) (by decide +kernel))) (fun i hi => hs (Cond.arrayOf (.field (Term.string "KingHearsModel" 146) "java/lang/String" "value" "[B") .byte) (List.mem_of_getElem? (i := 343) (by decide +kernel)))
    (fun i hi => by obtain rfl : i = 0 := (by omega); exact hs (Cond.eq (.length (.field (Term.string "KingHearsModel" 146) "java/lang/String" "value" "[B")) (.int 6)) (List.mem_of_getElem? (i := 344) (by decide +kernel)))
    (fun i hi j hj => by
      obtain rfl : i = 0 := (by omega)
      have hj : j < 6 := hj
      rcases (show j = 0 ∨ j = 1 ∨ j = 2 ∨ j = 3 ∨ j = 4 ∨ j = 5 by omega) with rfl | rfl | rfl | rfl | rfl | rfl
      · exact hs (Cond.eq (.elem (.field (Term.string "KingHearsModel" 146) "java/lang/String" "value" "[B") (.int 0)) (.int 117)) (List.mem_of_getElem? (i := 345) (by decide +kernel))
      · exact hs (Cond.eq (.elem (.field (Term.string "KingHearsModel" 146) "java/lang/String" "value" "[B") (.int 1)) (.int 110)) (List.mem_of_getElem? (i := 346) (by decide +kernel))
      · exact hs (Cond.eq (.elem (.field (Term.string "KingHearsModel" 146) "java/lang/String" "value" "[B") (.int 2)) (.int 115)) (List.mem_of_getElem? (i := 347) (by decide +kernel))
      · exact hs (Cond.eq (.elem (.field (Term.string "KingHearsModel" 146) "java/lang/String" "value" "[B") (.int 3)) (.int 117)) (List.mem_of_getElem? (i := 348) (by decide +kernel))
      · exact hs (Cond.eq (.elem (.field (Term.string "KingHearsModel" 146) "java/lang/String" "value" "[B") (.int 4)) (.int 114)) (List.mem_of_getElem? (i := 349) (by decide +kernel))
      · exact hs (Cond.eq (.elem (.field (Term.string "KingHearsModel" 146) "java/lang/String" "value" "[B") (.int 5)) (.int 101)) (List.mem_of_getElem? (i := 350) (by decide +kernel))
    ) (fun i j hi hj h => absurd (show i = j by omega) h) hA
  exact ⟨adK 0, adV 0, 6, fun j => ([117, 110, 115, 117, 114, 101] : List Int32).getD j 0, by decide, rfl, rfl, vk_R.of (hts _ (List.mem_append_right _ (List.mem_of_getElem? (i := 1355) (by decide +kernel)))) (he 0 (by decide)), hk.1 0 (by decide)⟩
set_option maxRecDepth 100000 in
theorem ev7_148 {s : State} {b : Nat} (hts : ∀ w ∈ lw_tbl, w.before #[Value.ref b] s = true) (hs : ∀ c ∈ flatC (Jvm.Cond.and given_1 narrow_1), c.before #[Value.ref b] s = true) {A : Nat → Prop} (hA : ∀ a : Nat, a < s.heap.size → ¬ A a) : ∃ (a v n : Nat) (f : Nat → Int32), n ≤ 8 ∧ n = ([115, 97, 105, 100] : List Int32).length ∧ f = (fun j => ([115, 97, 105, 100] : List Int32).getD j 0) ∧ vk_R RX7 148 "said" a s ∧ Sw a v n f A s s.heap := by
  obtain ⟨adK, adV, hk, he⟩ := vk_Sof (args := #[Value.ref b]) (s := s) (N := 1) (tm := fun _ => (Term.string "KingHearsModel" 148)) (len := [4]) (byt := [[115, 97, 105, 100]]) (A := A)
    (fun i hi => by obtain rfl : i = 0 := (by omega); decide) (fun i hi => hs (Cond.exactly (Term.string "KingHearsModel" 148) "java/lang/String") (List.mem_of_getElem? (i := 369) (by decide +kernel))) (fun i hi => hs (Cond.eq (.field (Term.string "KingHearsModel" 148) "java/lang/String" "coder" "B") (.int 0)) (List.mem_of_getElem? (i := 370) (by decide +kernel))) (fun i hi => hs (Cond.arrayOf (.field (Term.string "KingHearsModel" 148) "java/lang/String" "value" "[B") .byte) (List.mem_of_getElem? (i := 371) (by decide +kernel)))
    (fun i hi => by obtain rfl : i = 0 := (by omega); exact hs (Cond.eq (.length (.field (Term.string "KingHearsModel" 148) "java/lang/String" "value" "[B")) (.int 4)) (List.mem_of_getElem? (i := 372) (by decide +kernel)))
    (fun i hi j hj => by
      obtain rfl : i = 0 := (by omega)
      have hj : j < 4 := hj
      rcases (show j = 0 ∨ j = 1 ∨ j = 2 ∨ j = 3 by omega) with rfl | rfl | rfl | rfl
      · exact hs (Cond.eq (.elem (.field (Term.string "KingHearsModel" 148) "java/lang/String" "value" "[B") (.int 0)) (.int 115)) (List.mem_of_getElem? (i := 373) (by decide +kernel))
      · exact hs (Cond.eq (.elem (.field (Term.string "KingHearsModel" 148) "java/lang/String" "value" "[B") (.int 1)) (.int 97)) (List.mem_of_getElem? (i := 374) (by decide +kernel))
      · exact hs (Cond.eq (.elem (.field (Term.string "KingHearsModel" 148) "java/lang/String" "value" "[B") (.int 2)) (.int 105)) (List.mem_of_getElem? (i := 375) (by decide +kernel))
      · exact hs (Cond.eq (.elem (.field (Term.string "KingHearsModel" 148) "java/lang/String" "value" "[B") (.int 3)) (.int 100)) (List.mem_of_getElem? (i := 376) (by decide +kernel))
    ) (fun i j hi hj h => absurd (show i = j by omega) h) hA
  exact ⟨adK 0, adV 0, 4, fun j => ([115, 97, 105, 100] : List Int32).getD j 0, by decide, rfl, rfl, vk_R.of (hts _ (List.mem_append_right _ (List.mem_of_getElem? (i := 1356) (by decide +kernel)))) (he 0 (by decide)), hk.1 0 (by decide)⟩
set_option maxRecDepth 100000 in
theorem ev7_222 {s : State} {b : Nat} (hts : ∀ w ∈ lw_tbl, w.before #[Value.ref b] s = true) (hs : ∀ c ∈ flatC (Jvm.Cond.and given_1 narrow_1), c.before #[Value.ref b] s = true) {A : Nat → Prop} (hA : ∀ a : Nat, a < s.heap.size → ¬ A a) : ∃ (a v n : Nat) (f : Nat → Int32), n ≤ 8 ∧ n = ([115, 108, 105, 112, 115] : List Int32).length ∧ f = (fun j => ([115, 108, 105, 112, 115] : List Int32).getD j 0) ∧ vk_R RX7 222 "slips" a s ∧ Sw a v n f A s s.heap := by
  obtain ⟨adK, adV, hk, he⟩ := vk_Sof (args := #[Value.ref b]) (s := s) (N := 1) (tm := fun _ => (Term.string "KingHearsModel" 222)) (len := [5]) (byt := [[115, 108, 105, 112, 115]]) (A := A)
    (fun i hi => by obtain rfl : i = 0 := (by omega); decide) (fun i hi => hs (Cond.exactly (Term.string "KingHearsModel" 222) "java/lang/String") (List.mem_of_getElem? (i := 200) (by decide +kernel))) (fun i hi => hs (Cond.eq (.field (Term.string "KingHearsModel" 222) "java/lang/String" "coder" "B") (.int 0)) (List.mem_of_getElem? (i := 201) (by decide +kernel))) (fun i hi => hs (Cond.arrayOf (.field (Term.string "KingHearsModel" 222) "java/lang/String" "value" "[B") .byte) (List.mem_of_getElem? (i := 202) (by decide +kernel)))
    (fun i hi => by obtain rfl : i = 0 := (by omega); exact hs (Cond.eq (.length (.field (Term.string "KingHearsModel" 222) "java/lang/String" "value" "[B")) (.int 5)) (List.mem_of_getElem? (i := 203) (by decide +kernel)))
    (fun i hi j hj => by
      obtain rfl : i = 0 := (by omega)
      have hj : j < 5 := hj
      rcases (show j = 0 ∨ j = 1 ∨ j = 2 ∨ j = 3 ∨ j = 4 by omega) with rfl | rfl | rfl | rfl | rfl
      · exact hs (Cond.eq (.elem (.field (Term.string "KingHearsModel" 222) "java/lang/String" "value" "[B") (.int 0)) (.int 115)) (List.mem_of_getElem? (i := 204) (by decide +kernel))
      · exact hs (Cond.eq (.elem (.field (Term.string "KingHearsModel" 222) "java/lang/String" "value" "[B") (.int 1)) (.int 108)) (List.mem_of_getElem? (i := 205) (by decide +kernel))
      · exact hs (Cond.eq (.elem (.field (Term.string "KingHearsModel" 222) "java/lang/String" "value" "[B") (.int 2)) (.int 105)) (List.mem_of_getElem? (i := 206) (by decide +kernel))
      · exact hs (Cond.eq (.elem (.field (Term.string "KingHearsModel" 222) "java/lang/String" "value" "[B") (.int 3)) (.int 112)) (List.mem_of_getElem? (i := 207) (by decide +kernel))
      · exact hs (Cond.eq (.elem (.field (Term.string "KingHearsModel" 222) "java/lang/String" "value" "[B") (.int 4)) (.int 115)) (List.mem_of_getElem? (i := 208) (by decide +kernel))
    ) (fun i j hi hj h => absurd (show i = j by omega) h) hA
  exact ⟨adK 0, adV 0, 5, fun j => ([115, 108, 105, 112, 115] : List Int32).getD j 0, by decide, rfl, rfl, vk_R.of (hts _ (List.mem_append_right _ (List.mem_of_getElem? (i := 1313) (by decide +kernel)))) (he 0 (by decide)), hk.1 0 (by decide)⟩
set_option maxRecDepth 100000 in
theorem ev7_231 {s : State} {b : Nat} (hts : ∀ w ∈ lw_tbl, w.before #[Value.ref b] s = true) (hs : ∀ c ∈ flatC (Jvm.Cond.and given_1 narrow_1), c.before #[Value.ref b] s = true) {A : Nat → Prop} (hA : ∀ a : Nat, a < s.heap.size → ¬ A a) : ∃ (a v n : Nat) (f : Nat → Int32), n ≤ 8 ∧ n = ([119, 111, 114, 116, 104] : List Int32).length ∧ f = (fun j => ([119, 111, 114, 116, 104] : List Int32).getD j 0) ∧ vk_R RX7 231 "worth" a s ∧ Sw a v n f A s s.heap := by
  obtain ⟨adK, adV, hk, he⟩ := vk_Sof (args := #[Value.ref b]) (s := s) (N := 1) (tm := fun _ => (Term.string "KingHearsModel" 231)) (len := [5]) (byt := [[119, 111, 114, 116, 104]]) (A := A)
    (fun i hi => by obtain rfl : i = 0 := (by omega); decide) (fun i hi => hs (Cond.exactly (Term.string "KingHearsModel" 231) "java/lang/String") (List.mem_of_getElem? (i := 396) (by decide +kernel))) (fun i hi => hs (Cond.eq (.field (Term.string "KingHearsModel" 231) "java/lang/String" "coder" "B") (.int 0)) (List.mem_of_getElem? (i := 397) (by decide +kernel))) (fun i hi => hs (Cond.arrayOf (.field (Term.string "KingHearsModel" 231) "java/lang/String" "value" "[B") .byte) (List.mem_of_getElem? (i := 398) (by decide +kernel)))
    (fun i hi => by obtain rfl : i = 0 := (by omega); exact hs (Cond.eq (.length (.field (Term.string "KingHearsModel" 231) "java/lang/String" "value" "[B")) (.int 5)) (List.mem_of_getElem? (i := 399) (by decide +kernel)))
    (fun i hi j hj => by
      obtain rfl : i = 0 := (by omega)
      have hj : j < 5 := hj
      rcases (show j = 0 ∨ j = 1 ∨ j = 2 ∨ j = 3 ∨ j = 4 by omega) with rfl | rfl | rfl | rfl | rfl
      · exact hs (Cond.eq (.elem (.field (Term.string "KingHearsModel" 231) "java/lang/String" "value" "[B") (.int 0)) (.int 119)) (List.mem_of_getElem? (i := 400) (by decide +kernel))
      · exact hs (Cond.eq (.elem (.field (Term.string "KingHearsModel" 231) "java/lang/String" "value" "[B") (.int 1)) (.int 111)) (List.mem_of_getElem? (i := 401) (by decide +kernel))
      · exact hs (Cond.eq (.elem (.field (Term.string "KingHearsModel" 231) "java/lang/String" "value" "[B") (.int 2)) (.int 114)) (List.mem_of_getElem? (i := 402) (by decide +kernel))
      · exact hs (Cond.eq (.elem (.field (Term.string "KingHearsModel" 231) "java/lang/String" "value" "[B") (.int 3)) (.int 116)) (List.mem_of_getElem? (i := 403) (by decide +kernel))
      · exact hs (Cond.eq (.elem (.field (Term.string "KingHearsModel" 231) "java/lang/String" "value" "[B") (.int 4)) (.int 104)) (List.mem_of_getElem? (i := 404) (by decide +kernel))
    ) (fun i j hi hj h => absurd (show i = j by omega) h) hA
  exact ⟨adK 0, adV 0, 5, fun j => ([119, 111, 114, 116, 104] : List Int32).getD j 0, by decide, rfl, rfl, vk_R.of (hts _ (List.mem_append_right _ (List.mem_of_getElem? (i := 1364) (by decide +kernel)))) (he 0 (by decide)), hk.1 0 (by decide)⟩
set_option maxRecDepth 100000 in
theorem ev_start {s : State} {b : Nat} (hts : ∀ w ∈ lw_tbl, w.before #[Value.ref b] s = true) (hs : ∀ c ∈ flatC (Jvm.Cond.and given_1 narrow_1), c.before #[Value.ref b] s = true) {A : Nat → Prop} (hA : ∀ a : Nat, a < s.heap.size → ¬ A a) : Ev A s s.heap := by
  refine ⟨?_, ⟨?_, ?_⟩, ?_, ?_, ?_⟩
  · exact List.forall_mem_cons.mpr ⟨ev_29 hts hs hA, List.forall_mem_cons.mpr ⟨ev_35 hts hs hA, List.forall_mem_cons.mpr ⟨ev_37 hts hs hA, List.forall_mem_cons.mpr ⟨ev_39 hts hs hA, List.forall_mem_cons.mpr ⟨ev_41 hts hs hA, List.forall_mem_cons.mpr ⟨ev_42 hts hs hA, List.forall_mem_cons.mpr ⟨ev_44 hts hs hA, List.forall_mem_cons.mpr ⟨ev_46 hts hs hA, List.forall_mem_cons.mpr ⟨ev_48 hts hs hA, List.forall_mem_cons.mpr ⟨ev_50 hts hs hA, fun _ h => absurd h List.not_mem_nil⟩⟩⟩⟩⟩⟩⟩⟩⟩⟩
  · exact va_Zof (args := #[Value.ref b]) (hts _ (List.mem_append_right _ (List.mem_of_getElem? (i := 153) (by decide +kernel)))) (hts _ (List.mem_append_right _ (List.mem_of_getElem? (i := 4) (by decide +kernel)))) (va_eqt (hs (Cond.eq (.static "java/lang/String" "COMPACT_STRINGS" "Z") (.int 1)) (List.mem_of_getElem? (i := 4) (by decide +kernel)))) hA
  · exact va_Zqof (args := #[Value.ref b]) (hts _ (List.mem_append_right _ (List.mem_of_getElem? (i := 169) (by decide +kernel)))) (hts _ (List.mem_append_right _ (List.mem_of_getElem? (i := 6) (by decide +kernel)))) (hs (Cond.isRef (.static "jdk/internal/util/Preconditions" "SIOOBE_FORMATTER" "Ljava/util/function/BiFunction;")) (List.mem_of_getElem? (i := 5) (by decide +kernel))) hA
  · exact List.forall_mem_cons.mpr ⟨ev7_134 hts hs hA, List.forall_mem_cons.mpr ⟨ev7_136 hts hs hA, List.forall_mem_cons.mpr ⟨ev7_138 hts hs hA, List.forall_mem_cons.mpr ⟨ev7_140 hts hs hA, List.forall_mem_cons.mpr ⟨ev7_142 hts hs hA, List.forall_mem_cons.mpr ⟨ev7_144 hts hs hA, List.forall_mem_cons.mpr ⟨ev7_146 hts hs hA, List.forall_mem_cons.mpr ⟨ev7_148 hts hs hA, List.forall_mem_cons.mpr ⟨ev7_222 hts hs hA, List.forall_mem_cons.mpr ⟨ev7_231 hts hs hA, fun _ h => absurd h List.not_mem_nil⟩⟩⟩⟩⟩⟩⟩⟩⟩⟩
  · exact List.forall_mem_cons.mpr ⟨va_Nw.of rfl (hts _ (List.mem_append_right _ (List.mem_of_getElem? (i := 259) (by decide +kernel)))), List.forall_mem_cons.mpr ⟨va_Nw.of rfl (hts _ (List.mem_append_right _ (List.mem_of_getElem? (i := 280) (by decide +kernel)))), List.forall_mem_cons.mpr ⟨va_Nw.of rfl (hts _ (List.mem_append_right _ (List.mem_of_getElem? (i := 301) (by decide +kernel)))), List.forall_mem_cons.mpr ⟨va_Nw.of rfl (hts _ (List.mem_append_right _ (List.mem_of_getElem? (i := 334) (by decide +kernel)))), List.forall_mem_cons.mpr ⟨va_Nw.of rfl (hts _ (List.mem_append_right _ (List.mem_of_getElem? (i := 604) (by decide +kernel)))), List.forall_mem_cons.mpr ⟨va_Nw.of rfl (hts _ (List.mem_append_right _ (List.mem_of_getElem? (i := 679) (by decide +kernel)))), fun _ h => absurd h List.not_mem_nil⟩⟩⟩⟩⟩⟩
  · exact va_AO.of (hts _ (List.mem_append_right _ (List.mem_of_getElem? (i := 277) (by decide +kernel))))
