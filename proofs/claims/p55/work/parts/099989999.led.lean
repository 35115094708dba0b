/-! led on both sides: the word that wasn't heard, or none -/
/-- led on the class's side: q is the word that it finds, or is below 0 -/
def LedC (nodes throne unit : Int32) (kind parts pn wt ws w o : Nat → Int32) (p0 q : Int32) : Prop := (nodes ≤ 0 ∧ q = -1) ∨ (¬ nodes ≤ 0 ∧ ∃ (hw cp : Nat → Int32) (x0 x1 x2 : Int32) (xh xc : Nat → Int32), PX6_unheardWord nodes throne unit kind parts pn wt ws w o hw cp p0 = (q, x0, x1, x2, xh, xc))
/-- what the law's own method makes of it: 1 if it throws, 0 with the word -/
def LedQ (u : Nat) (w : Int32) (x : Int64) : Prop := (u = 1 ∧ ¬ 0 ≤ w) ∨ (u = 0 ∧ 0 ≤ w ∧ x = w.toInt64)
theorem LedC.mk {nodes throne unit : Int32} {kind parts pn wt ws w o : Nat → Int32} {p0 r : Int32} {u : Nat} (h : ¬ nodes ≤ 0) (hw : r = Int32.ofNat u) (e : ∃ (hw cp : Nat → Int32) (x0 x1 x2 : Int32) (xh xc : Nat → Int32), PX6_unheardWord nodes throne unit kind parts pn wt ws w o hw cp p0 = (Int32.ofNat u, x0, x1, x2, xh, xc)) : LedC nodes throne unit kind parts pn wt ws w o p0 r := by
  subst hw
  exact Or.inr ⟨h, e⟩
theorem and_1 (x : Int32) : x &&& 1 = 0 ∨ x &&& 1 = 1 := by
  obtain ⟨j, hj, ej⟩ := pk_andE x (m := 1) 1 (by decide)
  rw [ej]
  rcases (show j = 0 ∨ j = 1 by omega) with rfl | rfl
  · exact Or.inl (by decide)
  · exact Or.inr (by decide)
theorem led_loop {kind r : Nat → Int32} {N : Nat} (hN : N ≤ 18) (hr1 : r 1 = nI N) (hk : ∀ k : Nat, k < N → kind k = r (9 + k)) {p0 B0 bits C0 B C : Int32} {hw cp hr cr : Nat → Int32} : ∀ (m i f g : Nat) (n : Int32), N - i = m → i ≤ N → m < f → m < g → ∃ q b t : Int32, HX6_unheardWord_0 (nI N) kind p0 B0 bits C0 hw cp f (nI i) n = (q, B0, bits, C0, hw, cp) ∧ HX7_led_1 1 r p0 B C hr cr bits g (nI i) n = (b, t, B, C, hr, cr) ∧ ((¬ 0 ≤ q ∧ t = 1) ∨ (0 ≤ q ∧ t = 0 ∧ b = q)) := by
  have k1 : (1 : Int32).toNatClampNeg = 1 := by decide
  have k10 : ¬ (1 : Int32) = 0 := by decide
  intro m
  induction m with
  | zero =>
    intro i f g n hm hi hf hg
    obtain ⟨f, rfl⟩ : ∃ j, f = j + 1 := ⟨f - 1, by omega⟩
    obtain ⟨g, rfl⟩ : ∃ j, g = j + 1 := ⟨g - 1, by omega⟩
    have c1 : nI N ≤ nI i := nI_le (by omega) (by omega)
    refine ⟨-1, 0, 1, ?_, ?_, Or.inl ⟨by decide, rfl⟩⟩
    · rw [HX6_unheardWord_0_eq, if_pos c1]
    · rw [HX7_led_1_eq, if_neg k10]
      simp only [lt_ap]
      rw [k1, hr1, if_pos c1]
  | succ m ih =>
    intro i f g n hm hi hf hg
    obtain ⟨f, rfl⟩ : ∃ j, f = j + 1 := ⟨f - 1, by omega⟩
    obtain ⟨g, rfl⟩ : ∃ j, g = j + 1 := ⟨g - 1, by omega⟩
    have hiN : i < N := by omega
    have c1 : ¬ nI N ≤ nI i := by rw [nI_leI (by omega) (by omega)]; omega
    have e9 : (9 : Int32) + nI i = nI (9 + i) := by rw [show (9 : Int32) = nI 9 by decide, nI_add]
    have e6 : HX6_unheardWord_0 (nI N) kind p0 B0 bits C0 hw cp (f + 1) (nI i) n = if r (9 + i) = 0 then (if (bits >>> (nI i &&& 31)) &&& 1 = 0 then (if n = p0 then (nI i, B0, bits, C0, hw, cp) else HX6_unheardWord_0 (nI N) kind p0 B0 bits C0 hw cp f (nI (i + 1)) (n + Int32.ofInt 1)) else HX6_unheardWord_0 (nI N) kind p0 B0 bits C0 hw cp f (nI (i + 1)) n) else HX6_unheardWord_0 (nI N) kind p0 B0 bits C0 hw cp f (nI (i + 1)) n := by
      rw [HX6_unheardWord_0_eq, if_neg c1]
      simp only [lt_ap]
      rw [nI_clamp (show i < 2 ^ 31 by omega), hk i hiN, nI_o1]
    have e7 : HX7_led_1 1 r p0 B C hr cr bits (g + 1) (nI i) n = if r (9 + i) = 0 then (if PX7_hasBit bits (nI i) = 0 then (if n = p0 then (nI i, 0, B, C, hr, cr) else HX7_led_1 1 r p0 B C hr cr bits g (nI (i + 1)) (n + Int32.ofInt 1)) else HX7_led_1 1 r p0 B C hr cr bits g (nI (i + 1)) n) else HX7_led_1 1 r p0 B C hr cr bits g (nI (i + 1)) n := by
      rw [HX7_led_1_eq, if_neg k10]
      simp only [lt_ap]
      rw [k1, hr1, if_neg c1, e9, nI_clamp (show 9 + i < 2 ^ 31 by omega), nI_o1]
    rw [e6, e7]
    by_cases h0 : r (9 + i) = 0
    · rw [if_pos h0, if_pos h0]
      rcases and_1 (bits >>> (nI i &&& 31)) with h1 | h1
      · have hb : PX7_hasBit bits (nI i) = 0 := by
          rw [PX7_hasBit_eq]
          simp only [lt_ap]
          rw [h1, if_neg (by decide)]
        rw [if_pos h1, if_pos hb]
        by_cases h2 : n = p0
        · rw [if_pos h2, if_pos h2]
          exact ⟨nI i, nI i, 0, rfl, rfl, Or.inr ⟨by rw [fz_le, kc_0, nI_toInt (by omega)]; omega, rfl, rfl⟩⟩
        · rw [if_neg h2, if_neg h2]
          exact ih (i + 1) f g (n + Int32.ofInt 1) (by omega) (by omega) (by omega) (by omega)
      · have hb : PX7_hasBit bits (nI i) = 1 := by
          rw [PX7_hasBit_eq]
          simp only [lt_ap]
          rw [if_pos h1]
        rw [if_neg (show ¬ (bits >>> (nI i &&& 31)) &&& 1 = 0 by rw [h1]; decide), if_neg (show ¬ PX7_hasBit bits (nI i) = 0 by rw [hb]; decide)]
        exact ih (i + 1) f g n (by omega) (by omega) (by omega) (by omega)
    · rw [if_neg h0, if_neg h0]
      exact ih (i + 1) f g n (by omega) (by omega) (by omega) (by omega)
section G10
variable {nodes words unsures slips throne said : Int32} {kind parts pn wt tw uw uo w o : Nat → Int32} {ic : Int32} {iw0 io0 iw1 io1 iw2 io2 : Nat → Int32} {ac : Int32} {an ao as : Nat → Int32} {hc : Int32} {r told st und kept : Nat → Int32} {undos images : Int32} {unit : Int32} {ws steps below above : Nat → Int32} {scale night : Int32}
theorem led_join (h : Rel nodes words unsures slips throne said kind parts pn wt tw uw uo w o ic iw0 io0 iw1 io1 iw2 io2 ac an ao as hc r told st und kept undos images) (hx : CIS nodes unit kind parts pn wt ws steps below above) (hs : PX7_layScale r = scale) (hM : ROk r ∧ RowOk r st ∧ RowOk r told ∧ WorOk st ∧ night.toInt = -1 ∧ 1 ≤ scale.toInt ∧ scale.toInt ≤ 1296) {br cm br' cm' : Int32} {hr cr hr' cr' : Nat → Int32} {p0 q b t : Int32} (e6 : LedC nodes throne unit kind parts pn wt ws w o p0 q) (e7 : PX7_led hc r told st scale hr cr br cm p0 = (b, t, br', cm', hr', cr')) : (¬ 0 ≤ q ∧ t = 1) ∨ (0 ≤ q ∧ t = 0 ∧ b = q) := by
  obtain ⟨hR, hQ, hQt, hW, hnt, hsc⟩ := hM
  rcases h with ⟨rfl, h0⟩ | ⟨N, c, d, rfl, rfl, rfl, rfl, hc, rfl, rfl, hd, hC, hS, hU, hI⟩
  · obtain ⟨h2, h3, h4, h5, h6, h7, rfl, h8, h9⟩ := h0
    rw [PX7_led_eq, if_pos rfl, HX7_led_0_eq, if_pos rfl] at e7
    simp only [Prod.mk.injEq] at e7
    obtain ⟨-, rfl, -⟩ := e7
    rcases e6 with ⟨-, rfl⟩ | ⟨q9, -⟩
    · exact Or.inl ⟨by decide, rfl⟩
    · exact absurd (by decide) q9
  · obtain ⟨hN0, hN, hr1⟩ := hC.N
    obtain ⟨M, hM, hX⟩ := hx
    obtain rfl : N = M := (nI_eq (by omega) (by have := hX.1; omega)).mp hM
    obtain rfl : unit = scale := (ls_eq hC hX).symm.trans hs
    have hth : r 6 = throne := hC.2.2.2.2.2.2.1
    obtain ⟨th9, t2, t1⟩ := nd_of hN hC.2.2.2.2.2.2.2.2.1
    have hWw := w_in hC hS hW
    rcases e6 with ⟨q9, -⟩ | ⟨-, hw, cp, x0, x1, x2, xh, xc, e6⟩
    · exact absurd q9 (by rw [fz_le, kc_0, nI_toInt (by omega)]; omega)
    obtain ⟨b9, c9, bits, hw', cp', hr9, cr9, e6', e7', hbc, hH⟩ := free_sim hC hS hX hR hWw hsc t1 (hth.trans t1) t2 hw cp hr cr
    have e := hs_loop (B := nI b9) (C := nI c9) (hr := hr9) (cr := cr9) (b := b9) (by omega) b9 0 (((2147483647 - (0 : Int32).toInt).toNat) + 1) rfl (by omega) (by rw [kc_0]; omega)
    rw [nI_0, show hO hr9 0 = 0 from rfl] at e
    have e9 : PX7_heardSet r told st unit hr cr = (bits, nI b9, nI c9, hr9, cr9) := by rw [PX7_heardSet_eq, un5_eq e7', hH.2.2]; exact e
    rw [PX6_unheardWord_eq, un6_eq e6'] at e6
    rw [PX7_led_eq, if_neg (show ¬ (1 : Int32) = 0 by decide), un5_eq e9] at e7
    obtain ⟨q8, b8, t8, g6, g7, g8⟩ := led_loop (p0 := p0) (B0 := nI b9) (bits := bits) (C0 := nI c9) (B := nI b9) (C := nI c9) (hw := hw') (cp := cp') (hr := hr9) (cr := cr9) hN hr1 (fun k hk => (hC.k hk).1) N 0 (((2147483647 - (0 : Int32).toInt).toNat) + 1) (((2147483647 - (0 : Int32).toInt).toNat) + 1) 0 (by omega) (by omega) (by rw [kc_0]; omega) (by rw [kc_0]; omega)
    rw [nI_0] at g6 g7
    have x := g6.symm.trans e6
    have y := g7.symm.trans e7
    simp only [Prod.mk.injEq] at x y
    obtain ⟨rfl, -⟩ := x
    obtain ⟨rfl, rfl, -⟩ := y
    exact g8
/-- what the law compares -/
theorem led_cmp {u : Nat} {w thr b : Int32} {x : Int64} (hc : LedQ u w x) (hj : (¬ 0 ≤ w ∧ thr = 1) ∨ (0 ≤ w ∧ thr = 0 ∧ b = w)) : thr = Int32.ofNat u ∧ (Int32.ofNat u = 0 → x = b.toInt64) := by
  rcases hc with ⟨rfl, h1⟩ | ⟨rfl, h1, h2⟩
  · rcases hj with ⟨-, rfl⟩ | ⟨h3, -⟩
    · exact ⟨by decide, fun q => absurd q (by decide)⟩
    · exact absurd h3 h1
  · rcases hj with ⟨h3, -⟩ | ⟨-, rfl, rfl⟩
    · exact absurd h1 h3
    · exact ⟨by decide, fun _ => h2⟩
end G10
