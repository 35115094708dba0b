/-! the scale, on both sides -/
section F4
def SQ (M : Int32 × Int32 × Int32 × Int32 × Int32 × Int32 × Int32 × Int32 × Int32 × Int32 × Int32 × Int32 × Int32 × Int32 × Int32 × Int32 × Int32 × Int32 × (Nat → Int32) × (Nat → Int32) × (Nat → Int32) × (Nat → Int32) × (Nat → Int32) × (Nat → Int32) × (Nat → Int32)) : Prop := ¬ M.1 = 0 → PX7_layScale M.2.2.2.2.2.2.2.2.2.2.2.2.2.2.2.2.2.2.2.1 = M.2.2.2.2.2.2.2.2.2.2.2.2.2.2.2.2.2.1
theorem sc2 {fM_tape : Nat → Int32} {iM_hasCourt : Int32} {fM_r : Nat → Int32} {fM_told : Nat → Int32} {fM_st : Nat → Int32} {iM_undos : Int32} {iM_images : Int32} {iM_scale : Int32} {p0 : Int32} {x_14069 : Int32} {x_14070 : Int32} (hs : PX7_layScale fM_r = iM_scale) : ∀ (n9 : Nat) (z_14101 : Int32) (z_14102 : Int32) (z_14103 : Int32) (z_14104 : Int32) (z_14105 : Int32) (z_14106 : Int32) (z_14107 : Int32) (z_14108 : Int32) (z_14109 : Int32) (f_14110 : Nat → Int32) (f_14111 : Nat → Int32) (f_14112 : Nat → Int32) (f_14113 : Nat → Int32), SQ (HX7_court_2 fM_tape iM_hasCourt fM_r fM_told fM_st iM_undos iM_images iM_scale p0 x_14069 x_14070 n9 z_14101 z_14102 z_14103 z_14104 z_14105 z_14106 z_14107 z_14108 z_14109 f_14110 f_14111 f_14112 f_14113)
  | 0, _, _, _, _, _, _, _, _, _, _, _, _, _ => fun q => absurd rfl q
  | n9 + 1, z_14101, z_14102, z_14103, z_14104, z_14105, z_14106, z_14107, z_14108, z_14109, f_14110, f_14111, f_14112, f_14113 => by
    rw [HX7_court_2_eq]
    refine ite_Q (fun _ => ?_) (fun _ => ?_)
    · skip
      refine ite_Q (fun _ => ?_) (fun _ => ?_)
      · skip
        refine un6_Q (fun x_14164 x_14165 x_14166 x_14167 x_14168 f_14169 _ => ?_)
        refine un13_Q (fun x_14170 x_14171 x_14172 x_14173 x_14174 x_14175 x_14176 x_14177 x_14178 f_14179 f_14180 f_14181 f_14182 _ => ?_)
        exact sc2 hs n9 x_14170 x_14171 x_14172 x_14173 x_14174 x_14175 x_14176 x_14177 x_14178 f_14179 f_14180 f_14181 f_14182
      · skip
        refine ite_Q (fun _ => ?_) (fun _ => ?_)
        · skip
          refine ite_Q (fun _ => ?_) (fun _ => ?_)
          · skip
            refine ite_Q (fun _ => ?_) (fun _ => ?_)
            · skip
              refine lt_Q (fun x_14125 e_x_14125 => ?_)
              refine ite_Q (fun _ => ?_) (fun _ => ?_)
              · skip
                refine un3_Q (fun x_14127 x_14128 x_14129 _ => ?_)
                refine ite_Q (fun _ => ?_) (fun _ => ?_)
                · skip
                  exact fun q => absurd rfl q
                · skip
                  refine un2_Q (fun x_14132 x_14131 _ => ?_)
                  exact fun _ => hs
              · skip
                refine lt_Q (fun x_14133 e_x_14133 => ?_)
                refine ite_Q (fun _ => ?_) (fun _ => ?_)
                · skip
                  refine un3_Q (fun x_14151 x_14152 x_14153 _ => ?_)
                  refine ite_Q (fun _ => ?_) (fun _ => ?_)
                  · skip
                    exact fun q => absurd rfl q
                  · skip
                    refine un2_Q (fun x_14156 x_14155 _ => ?_)
                    exact fun _ => hs
                · skip
                  refine ite_Q (fun _ => ?_) (fun _ => ?_)
                  · skip
                    refine lt_Q (fun x_14136 e_x_14136 => ?_)
                    refine ite_Q (fun _ => ?_) (fun _ => ?_)
                    · skip
                      refine lt_Q (fun f_14138 e_f_14138 => ?_)
                      refine lt_Q (fun f_14139 e_f_14139 => ?_)
                      refine lt_Q (fun f_14140 e_f_14140 => ?_)
                      refine lt_Q (fun x_14141 e_x_14141 => ?_)
                      refine lt_Q (fun x_14142 e_x_14142 => ?_)
                      exact fun _ => e_x_14141
                    · skip
                      refine lt_Q (fun x_14143 e_x_14143 => ?_)
                      refine lt_Q (fun x_14144 e_x_14144 => ?_)
                      refine lt_Q (fun f_14145 e_f_14145 => ?_)
                      refine lt_Q (fun f_14146 e_f_14146 => ?_)
                      refine lt_Q (fun f_14147 e_f_14147 => ?_)
                      refine lt_Q (fun f_14148 e_f_14148 => ?_)
                      refine lt_Q (fun x_14149 e_x_14149 => ?_)
                      refine lt_Q (fun x_14150 e_x_14150 => ?_)
                      exact fun _ => e_x_14149
                  · skip
                    exact fun q => absurd rfl q
            · skip
              exact fun q => absurd rfl q
          · skip
            refine un3_Q (fun x_14157 x_14158 x_14159 _ => ?_)
            refine ite_Q (fun _ => ?_) (fun _ => ?_)
            · skip
              exact fun q => absurd rfl q
            · skip
              refine ite_Q (fun _ => ?_) (fun _ => ?_)
              · skip
                exact fun q => absurd rfl q
              · skip
                refine un2_Q (fun x_14163 x_14162 _ => ?_)
                exact fun _ => hs
        · skip
          exact fun q => absurd rfl q
    · skip
      refine ite_Q (fun _ => ?_) (fun _ => ?_)
      · skip
        exact fun q => absurd rfl q
      · skip
        refine ite_Q (fun _ => ?_) (fun _ => ?_)
        · skip
          exact fun q => absurd rfl q
        · skip
          refine ite_Q (fun _ => ?_) (fun _ => ?_)
          · skip
            exact fun q => absurd rfl q
          · skip
            refine un2_Q (fun x_14120 x_14119 _ => ?_)
            exact fun _ => hs
theorem sc1 {fM_tape : Nat → Int32} {iM_place : Int32} {fM_letters : Nat → Int32} {iM_hasCourt : Int32} {fM_r : Nat → Int32} {fM_told : Nat → Int32} {fM_st : Nat → Int32} {iM_undos : Int32} {iM_images : Int32} {fM_fresher : Nat → Int32} {iM_fresherSize : Int32} {iM_scale : Int32} {p0 : Int32} {x_14069 : Int32} {x_14070 : Int32} {f_14074 : Nat → Int32} (hs : PX7_layScale fM_r = iM_scale) : ∀ (n9 : Nat) (z_14077 : Int32) (f_14078 : Nat → Int32), SQ (HX7_court_1 fM_tape iM_place fM_letters iM_hasCourt fM_r fM_told fM_st iM_undos iM_images fM_fresher iM_fresherSize iM_scale p0 x_14069 x_14070 f_14074 n9 z_14077 f_14078)
  | 0, _, _ => fun q => absurd rfl q
  | n9 + 1, z_14077, f_14078 => by
    rw [HX7_court_1_eq]
    refine ite_Q (fun _ => ?_) (fun _ => ?_)
    · skip
      refine lt_Q (fun f_14081 e_f_14081 => ?_)
      refine un6_Q (fun x_14082 x_14083 x_14084 x_14085 x_14086 f_14087 _ => ?_)
      refine un13_Q (fun x_14088 x_14089 x_14090 x_14091 x_14092 x_14093 x_14094 x_14095 x_14096 f_14097 f_14098 f_14099 f_14100 _ => ?_)
      exact sc2 hs _ _ _ _ _ _ _ _ _ _ _ _ _ _ 
    · skip
      refine lt_Q (fun f_14183 e_f_14183 => ?_)
      refine lt_Q (fun x_14184 e_x_14184 => ?_)
      exact sc1 hs n9 x_14184 f_14183
theorem sc0 {fM_tape : Nat → Int32} {iM_place : Int32} {fM_letters : Nat → Int32} {iM_hasCourt : Int32} {fM_r : Nat → Int32} {fM_told : Nat → Int32} {fM_read : Nat → Int32} {fM_st : Nat → Int32} {iM_undos : Int32} {iM_images : Int32} {fM_fresher : Nat → Int32} {iM_fresherSize : Int32} {iM_scale : Int32} {p0 : Int32} {x_14069 : Int32} {x_14070 : Int32} (hs : PX7_layScale fM_r = iM_scale) : ∀ (n9 : Nat) (z_14073 : Int32) (f_14074 : Nat → Int32), SQ (HX7_court_0 fM_tape iM_place fM_letters iM_hasCourt fM_r fM_told fM_read fM_st iM_undos iM_images fM_fresher iM_fresherSize iM_scale p0 x_14069 x_14070 n9 z_14073 f_14074)
  | 0, _, _ => fun q => absurd rfl q
  | n9 + 1, z_14073, f_14074 => by
    rw [HX7_court_0_eq]
    refine ite_Q (fun _ => ?_) (fun _ => ?_)
    · skip
      exact sc1 hs _ _ _ 
    · skip
      refine lt_Q (fun f_14185 e_f_14185 => ?_)
      refine lt_Q (fun x_14186 e_x_14186 => ?_)
      exact sc0 hs n9 x_14186 f_14185
theorem court_S {fM_tape : Nat → Int32} {iM_taped : Int32} {iM_size : Int32} {iM_at : Int32} {iM_end : Int32} {iM_token : Int32} {iM_whole : Int32} {iM_nameSize : Int32} {iM_fault : Int32} {iM_place : Int32} {fM_letters : Nat → Int32} {iM_failed : Int32} {iM_hasCourt : Int32} {fM_r : Nat → Int32} {fM_fresh : Nat → Int32} {fM_told : Nat → Int32} {fM_read : Nat → Int32} {fM_st : Nat → Int32} {iM_undos : Int32} {iM_images : Int32} {fM_fresher : Nat → Int32} {iM_fresherSize : Int32} {iM_scale : Int32} {p0 : Int32} (hs : PX7_layScale fM_r = iM_scale) : SQ (PX7_court fM_tape iM_taped iM_size iM_at iM_end iM_token iM_whole iM_nameSize iM_fault iM_place fM_letters iM_failed iM_hasCourt fM_r fM_fresh fM_told fM_read fM_st iM_undos iM_images fM_fresher iM_fresherSize iM_scale p0) := by
  rw [PX7_court_eq]
  refine un2_Q (fun x_14069 x_14070 _ => ?_)
  refine lt_Q (fun x_14071 e_x_14071 => ?_)
  refine ite_Q (fun _ => ?_) (fun _ => ?_)
  · skip
    refine un2_Q (fun x_14189 x_14188 _ => ?_)
    exact fun _ => hs
  · skip
    exact sc0 hs _ _ _ 
section LQ
variable {N : Nat} {words unsures slips throne said unit : Int32} {kind parts pn wt tw uw uo r told ws steps below above : Nat → Int32}
theorem ls_loop (hC : CR N words unsures slips throne said kind parts pn wt tw uw uo r told) (hI : CI N unit kind parts pn wt ws steps below above) : ∀ (m i f : Nat), N - i = m → i ≤ N → m < f → HX7_layScale_0 r f (nI i) (uI kind ws i) = uI kind ws N := by
  obtain ⟨hN0, hN, hr⟩ := hC.N
  intro m
  induction m with
  | zero =>
    intro i f hm hi hf
    obtain ⟨f, rfl⟩ : ∃ g, f = g + 1 := ⟨f - 1, by omega⟩
    obtain rfl : i = N := by omega
    rw [HX7_layScale_0_eq]
    simp only [lt_ap]
    rw [one_cl, hr, if_pos (nI_le (by omega) (by omega))]
  | succ m ih =>
    intro i f hm hi hf
    obtain ⟨f, rfl⟩ : ∃ g, f = g + 1 := ⟨f - 1, by omega⟩
    obtain ⟨q, hp, hD⟩ := hI.2.1 i (by omega)
    rw [HX7_layScale_0_eq]
    simp only [lt_ap]
    rw [one_cl, hr, if_neg (by rw [nI_leI (by omega) (by omega)]; omega), show (9 : Int32) + nI i = nI (9 + i) from nI_add 9 i, nI_clamp (by omega), ← (hC.k (show i < N by omega)).1, ws_eq (by omega) hD.1 (many_q hC (by omega) hp), ws_of hC (by omega) hp hD, nI_o1]
    have e : uI kind ws (i + 1) = if kind i = 3 then uI kind ws i * ws i else uI kind ws i := rfl
    by_cases c : kind i = 3
    · rw [if_pos c] at e
      rw [if_pos c, ← e]
      exact ih (i + 1) f (by omega) (by omega) (by omega)
    · rw [if_neg c] at e
      rw [if_neg c, ← e]
      exact ih (i + 1) f (by omega) (by omega) (by omega)
theorem ls_eq (hC : CR N words unsures slips throne said kind parts pn wt tw uw uo r told) (hI : CI N unit kind parts pn wt ws steps below above) : PX7_layScale r = unit := by
  obtain ⟨hN0, hN, hr⟩ := hC.N
  have e := ls_loop hC hI N 0 ((((r 1).toInt - (0 : Int32).toInt).toNat) + 1) rfl (by omega) (by rw [hr, nI_toInt (by omega), kc_0]; omega)
  rw [nI_0] at e
  rw [PX7_layScale_eq, hI.2.2.1]
  exact e
end LQ
theorem sc_start : PX7_layScale (fun _ => 0) = 1 := by
  rw [PX7_layScale_eq]
  show HX7_layScale_0 (fun _ => 0) (0 + 1) 0 1 = 1
  rw [HX7_layScale_0_eq]
  simp only [lt_ap]
  exact if_pos (by decide)

theorem ct_joinS {U : Nat → Int32} {ts lf hc : Int32} {r told st : Nat → Int32} {undos images scale p : Int32} {r7 : Int32} {a7 : Int32} {l7 : Int32} {f7 : Int32} {hc7 : Int32} {rr7 : Nat → Int32} {told7 : Nat → Int32} {st7 : Nat → Int32} {undos7 : Int32} {images7 : Int32} {scale7 : Int32} (hs : PX7_layScale r = scale) (h7 : CtMX U ts lf hc r told st undos images scale p r7 a7 l7 f7 hc7 rr7 told7 st7 undos7 images7 scale7) (h0 : ¬ r7 = 0) : PX7_layScale rr7 = scale7 := by
  obtain ⟨y_iM_size, y_iM_at, y_iM_end, y_iM_token, y_iM_whole, y_iM_nameSize, y_iM_place, y_fM_letters, y_iM_failed, y_fM_fresh, y_fM_read, y_fM_fresher, y_iM_fresherSize, y⟩ := h7
  have hq : SQ (PX7_court U ts y_iM_size y_iM_at y_iM_end y_iM_token y_iM_whole y_iM_nameSize lf y_iM_place y_fM_letters y_iM_failed hc r y_fM_fresh told y_fM_read st undos images y_fM_fresher y_iM_fresherSize scale p) := court_S hs
  generalize PX7_court U ts y_iM_size y_iM_at y_iM_end y_iM_token y_iM_whole y_iM_nameSize lf y_iM_place y_fM_letters y_iM_failed hc r y_fM_fresh told y_fM_read st undos images y_fM_fresher y_iM_fresherSize scale p = M at y hq
  obtain ⟨y1, y3, y10, y12, y14, y20, y22, y24, y15, y16, y18⟩ := y
  have g := hq (fun e => h0 (y1.symm.trans e))
  rw [y20, y18] at g
  exact g
end F4
