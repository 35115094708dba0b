/-! the told worths behind a court -/
section F21
def TQ (t0 : Nat → Int32) (M : Int32 × Int32 × Int32 × Int32 × Int32 × Int32 × Int32 × Int32 × Int32 × Int32 × Int32 × Int32 × Int32 × Int32 × Int32 × Int32 × Int32 × Int32 × (Nat → Int32) × (Nat → Int32) × (Nat → Int32) × (Nat → Int32) × (Nat → Int32) × (Nat → Int32) × (Nat → Int32)) : Prop := M.2.2.2.2.2.2.2.2.2.2.2.2.2.2.2.2.2.2.2.2.2.1 = t0 ∨ ∀ q : Nat, q < 90 → M.2.2.2.2.2.2.2.2.2.2.2.2.2.2.2.2.2.2.2.2.2.1 q = M.2.2.2.2.2.2.2.2.2.2.2.2.2.2.2.2.2.2.2.2.2.2.2.1 q
theorem tc2 {fM_tape : Nat → Int32} {iM_hasCourt : Int32} {fM_r : Nat → Int32} {fM_told : Nat → Int32} {fM_st : Nat → Int32} {iM_undos : Int32} {iM_images : Int32} {iM_scale : Int32} {p0 : Int32} {x_14016 : Int32} {x_14017 : Int32} : ∀ (n9 : Nat) (z_14048 : Int32) (z_14049 : Int32) (z_14050 : Int32) (z_14051 : Int32) (z_14052 : Int32) (z_14053 : Int32) (z_14054 : Int32) (z_14055 : Int32) (z_14056 : Int32) (f_14057 : Nat → Int32) (f_14058 : Nat → Int32) (f_14059 : Nat → Int32) (f_14060 : Nat → Int32), TQ fM_told (HX7_court_2 fM_tape iM_hasCourt fM_r fM_told fM_st iM_undos iM_images iM_scale p0 x_14016 x_14017 n9 z_14048 z_14049 z_14050 z_14051 z_14052 z_14053 z_14054 z_14055 z_14056 f_14057 f_14058 f_14059 f_14060)
  | 0, _, _, _, _, _, _, _, _, _, _, _, _, _ => Or.inr (fun _ _ => rfl)
  | n9 + 1, z_14048, z_14049, z_14050, z_14051, z_14052, z_14053, z_14054, z_14055, z_14056, f_14057, f_14058, f_14059, f_14060 => by
    rw [HX7_court_2_eq]
    refine ite_Q (fun _ => ?_) (fun _ => ?_)
    · skip
      refine ite_Q (fun _ => ?_) (fun _ => ?_)
      · skip
        refine un6_Q (fun x_14111 x_14112 x_14113 x_14114 x_14115 f_14116 _ => ?_)
        refine un13_Q (fun x_14117 x_14118 x_14119 x_14120 x_14121 x_14122 x_14123 x_14124 x_14125 f_14126 f_14127 f_14128 f_14129 _ => ?_)
        exact tc2 n9 x_14117 x_14118 x_14119 x_14120 x_14121 x_14122 x_14123 x_14124 x_14125 f_14126 f_14127 f_14128 f_14129
      · skip
        refine ite_Q (fun _ => ?_) (fun _ => ?_)
        · skip
          refine ite_Q (fun _ => ?_) (fun _ => ?_)
          · skip
            refine ite_Q (fun _ => ?_) (fun _ => ?_)
            · skip
              refine lt_Q (fun x_14072 e_x_14072 => ?_)
              refine ite_Q (fun _ => ?_) (fun _ => ?_)
              · skip
                refine un3_Q (fun x_14074 x_14075 x_14076 _ => ?_)
                refine ite_Q (fun _ => ?_) (fun _ => ?_)
                · skip
                  exact Or.inr (fun _ _ => rfl)
                · skip
                  refine un2_Q (fun x_14079 x_14078 _ => ?_)
                  exact Or.inl rfl
              · skip
                refine lt_Q (fun x_14080 e_x_14080 => ?_)
                refine ite_Q (fun _ => ?_) (fun _ => ?_)
                · skip
                  refine un3_Q (fun x_14098 x_14099 x_14100 _ => ?_)
                  refine ite_Q (fun _ => ?_) (fun _ => ?_)
                  · skip
                    exact Or.inr (fun _ _ => rfl)
                  · skip
                    refine un2_Q (fun x_14103 x_14102 _ => ?_)
                    exact Or.inl rfl
                · skip
                  refine ite_Q (fun _ => ?_) (fun _ => ?_)
                  · skip
                    refine lt_Q (fun x_14083 e_x_14083 => ?_)
                    refine ite_Q (fun _ => ?_) (fun _ => ?_)
                    · skip
                      refine lt_Q (fun f_14085 e_f_14085 => ?_)
                      refine lt_Q (fun f_14086 e_f_14086 => ?_)
                      refine lt_Q (fun f_14087 e_f_14087 => ?_)
                      refine lt_Q (fun x_14088 e_x_14088 => ?_)
                      refine lt_Q (fun x_14089 e_x_14089 => ?_)
                      exact Or.inr (fun q hq => by show f_14086 q = f_14087 q; rw [← e_f_14086, ← e_f_14087, cpF90 hq, cpF90 hq])
                    · skip
                      refine lt_Q (fun x_14090 e_x_14090 => ?_)
                      refine lt_Q (fun x_14091 e_x_14091 => ?_)
                      refine lt_Q (fun f_14092 e_f_14092 => ?_)
                      refine lt_Q (fun f_14093 e_f_14093 => ?_)
                      refine lt_Q (fun f_14094 e_f_14094 => ?_)
                      refine lt_Q (fun f_14095 e_f_14095 => ?_)
                      refine lt_Q (fun x_14096 e_x_14096 => ?_)
                      refine lt_Q (fun x_14097 e_x_14097 => ?_)
                      exact Or.inr (fun q hq => by show f_14094 q = f_14095 q; rw [← e_f_14094, ← e_f_14095, cpF90 hq, cpF90 hq])
                  · skip
                    exact Or.inr (fun _ _ => rfl)
            · skip
              exact Or.inr (fun _ _ => rfl)
          · skip
            refine un3_Q (fun x_14104 x_14105 x_14106 _ => ?_)
            refine ite_Q (fun _ => ?_) (fun _ => ?_)
            · skip
              exact Or.inr (fun _ _ => rfl)
            · skip
              refine ite_Q (fun _ => ?_) (fun _ => ?_)
              · skip
                exact Or.inr (fun _ _ => rfl)
              · skip
                refine un2_Q (fun x_14110 x_14109 _ => ?_)
                exact Or.inl rfl
        · skip
          exact Or.inr (fun _ _ => rfl)
    · skip
      refine ite_Q (fun _ => ?_) (fun _ => ?_)
      · skip
        exact Or.inr (fun _ _ => rfl)
      · skip
        refine ite_Q (fun _ => ?_) (fun _ => ?_)
        · skip
          exact Or.inr (fun _ _ => rfl)
        · skip
          refine ite_Q (fun _ => ?_) (fun _ => ?_)
          · skip
            exact Or.inr (fun _ _ => rfl)
          · skip
            refine un2_Q (fun x_14067 x_14066 _ => ?_)
            exact Or.inl rfl
theorem tc1 {fM_tape : Nat → Int32} {iM_place : Int32} {fM_letters : Nat → Int32} {iM_hasCourt : Int32} {fM_r : Nat → Int32} {fM_told : Nat → Int32} {fM_st : Nat → Int32} {iM_undos : Int32} {iM_images : Int32} {fM_fresher : Nat → Int32} {iM_fresherSize : Int32} {iM_scale : Int32} {p0 : Int32} {x_14016 : Int32} {x_14017 : Int32} {f_14021 : Nat → Int32} : ∀ (n9 : Nat) (z_14024 : Int32) (f_14025 : Nat → Int32), TQ fM_told (HX7_court_1 fM_tape iM_place fM_letters iM_hasCourt fM_r fM_told fM_st iM_undos iM_images fM_fresher iM_fresherSize iM_scale p0 x_14016 x_14017 f_14021 n9 z_14024 f_14025)
  | 0, _, _ => Or.inr (fun _ _ => rfl)
  | n9 + 1, z_14024, f_14025 => by
    rw [HX7_court_1_eq]
    refine ite_Q (fun _ => ?_) (fun _ => ?_)
    · skip
      refine lt_Q (fun f_14028 e_f_14028 => ?_)
      refine un6_Q (fun x_14029 x_14030 x_14031 x_14032 x_14033 f_14034 _ => ?_)
      refine un13_Q (fun x_14035 x_14036 x_14037 x_14038 x_14039 x_14040 x_14041 x_14042 x_14043 f_14044 f_14045 f_14046 f_14047 _ => ?_)
      exact tc2 _ _ _ _ _ _ _ _ _ _ _ _ _ _ 
    · skip
      refine lt_Q (fun f_14130 e_f_14130 => ?_)
      refine lt_Q (fun x_14131 e_x_14131 => ?_)
      exact tc1 n9 x_14131 f_14130
theorem tc0 {fM_tape : Nat → Int32} {iM_place : Int32} {fM_letters : Nat → Int32} {iM_hasCourt : Int32} {fM_r : Nat → Int32} {fM_told : Nat → Int32} {fM_read : Nat → Int32} {fM_st : Nat → Int32} {iM_undos : Int32} {iM_images : Int32} {fM_fresher : Nat → Int32} {iM_fresherSize : Int32} {iM_scale : Int32} {p0 : Int32} {x_14016 : Int32} {x_14017 : Int32} : ∀ (n9 : Nat) (z_14020 : Int32) (f_14021 : Nat → Int32), TQ fM_told (HX7_court_0 fM_tape iM_place fM_letters iM_hasCourt fM_r fM_told fM_read fM_st iM_undos iM_images fM_fresher iM_fresherSize iM_scale p0 x_14016 x_14017 n9 z_14020 f_14021)
  | 0, _, _ => Or.inr (fun _ _ => rfl)
  | n9 + 1, z_14020, f_14021 => by
    rw [HX7_court_0_eq]
    refine ite_Q (fun _ => ?_) (fun _ => ?_)
    · skip
      exact tc1 _ _ _ 
    · skip
      refine lt_Q (fun f_14132 e_f_14132 => ?_)
      refine lt_Q (fun x_14133 e_x_14133 => ?_)
      exact tc0 n9 x_14133 f_14132
theorem court_T {fM_tape : Nat → Int32} {iM_taped : Int32} {iM_size : Int32} {iM_at : Int32} {iM_end : Int32} {iM_token : Int32} {iM_whole : Int32} {iM_nameSize : Int32} {iM_fault : Int32} {iM_place : Int32} {fM_letters : Nat → Int32} {iM_failed : Int32} {iM_hasCourt : Int32} {fM_r : Nat → Int32} {fM_fresh : Nat → Int32} {fM_told : Nat → Int32} {fM_read : Nat → Int32} {fM_st : Nat → Int32} {iM_undos : Int32} {iM_images : Int32} {fM_fresher : Nat → Int32} {iM_fresherSize : Int32} {iM_scale : Int32} {p0 : Int32} : TQ fM_told (PX7_court fM_tape iM_taped iM_size iM_at iM_end iM_token iM_whole iM_nameSize iM_fault iM_place fM_letters iM_failed iM_hasCourt fM_r fM_fresh fM_told fM_read fM_st iM_undos iM_images fM_fresher iM_fresherSize iM_scale p0) := by
  rw [PX7_court_eq]
  refine un2_Q (fun x_14016 x_14017 _ => ?_)
  refine lt_Q (fun x_14018 e_x_14018 => ?_)
  refine ite_Q (fun _ => ?_) (fun _ => ?_)
  · skip
    refine un2_Q (fun x_14136 x_14135 _ => ?_)
    exact Or.inl rfl
  · skip
    exact tc0 _ _ _ 
theorem ct_joinT {U : Nat → Int32} {ts lf hc : Int32} {r told st : Nat → Int32} {undos images scale p : Int32} {r7 : Int32} {a7 : Int32} {l7 : Int32} {f7 : Int32} {hc7 : Int32} {rr7 : Nat → Int32} {told7 : Nat → Int32} {st7 : Nat → Int32} {undos7 : Int32} {images7 : Int32} {scale7 : Int32} (hT : WorOk told) (h7 : CtMX U ts lf hc r told st undos images scale p r7 a7 l7 f7 hc7 rr7 told7 st7 undos7 images7 scale7) (hw : WorOk st7) : WorOk told7 := by
  obtain ⟨y_iM_size, y_iM_at, y_iM_end, y_iM_token, y_iM_whole, y_iM_nameSize, y_iM_place, y_fM_letters, y_iM_failed, y_fM_fresh, y_fM_read, y_fM_fresher, y_iM_fresherSize, y⟩ := h7
  have hq : TQ told (PX7_court U ts y_iM_size y_iM_at y_iM_end y_iM_token y_iM_whole y_iM_nameSize lf y_iM_place y_fM_letters y_iM_failed hc r y_fM_fresh told y_fM_read st undos images y_fM_fresher y_iM_fresherSize scale p) := court_T
  generalize PX7_court U ts y_iM_size y_iM_at y_iM_end y_iM_token y_iM_whole y_iM_nameSize lf y_iM_place y_fM_letters y_iM_failed hc r y_fM_fresh told y_fM_read st undos images y_fM_fresher y_iM_fresherSize scale p = M at y hq
  obtain ⟨y1, y3, y10, y12, y14, y20, y22, y24, y15, y16, y18⟩ := y
  intro j h1 h2
  rcases hq with e | e
  · rw [← y22, e]; exact hT j h1 h2
  · rw [← y22, e j h2, y24]; exact hw j h1 h2
end F21
