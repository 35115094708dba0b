/-! the told worths behind a court -/
section F21
def TQ (t0 : Nat → Int32) (M : Int32 × Int32 × Int32 × Int32 × Int32 × Int32 × Int32 × Int32 × Int32 × Int32 × Int32 × Int32 × Int32 × Int32 × Int32 × Int32 × Int32 × Int32 × (Nat → Int32) × (Nat → Int32) × (Nat → Int32) × (Nat → Int32) × (Nat → Int32) × (Nat → Int32) × (Nat → Int32)) : Prop := M.2.2.2.2.2.2.2.2.2.2.2.2.2.2.2.2.2.2.2.2.2.1 = t0 ∨ ∀ q : Nat, q < 90 → M.2.2.2.2.2.2.2.2.2.2.2.2.2.2.2.2.2.2.2.2.2.1 q = M.2.2.2.2.2.2.2.2.2.2.2.2.2.2.2.2.2.2.2.2.2.2.2.1 q
theorem tc2 {fM_tape : Nat → Int32} {iM_hasCourt : Int32} {fM_r : Nat → Int32} {fM_told : Nat → Int32} {fM_st : Nat → Int32} {iM_undos : Int32} {iM_images : Int32} {iM_scale : Int32} {p0 : Int32} {x_14035 : Int32} {x_14036 : Int32} : ∀ (n9 : Nat) (z_14067 : Int32) (z_14068 : Int32) (z_14069 : Int32) (z_14070 : Int32) (z_14071 : Int32) (z_14072 : Int32) (z_14073 : Int32) (z_14074 : Int32) (z_14075 : Int32) (f_14076 : Nat → Int32) (f_14077 : Nat → Int32) (f_14078 : Nat → Int32) (f_14079 : Nat → Int32), TQ fM_told (HX7_court_2 fM_tape iM_hasCourt fM_r fM_told fM_st iM_undos iM_images iM_scale p0 x_14035 x_14036 n9 z_14067 z_14068 z_14069 z_14070 z_14071 z_14072 z_14073 z_14074 z_14075 f_14076 f_14077 f_14078 f_14079)
  | 0, _, _, _, _, _, _, _, _, _, _, _, _, _ => Or.inr (fun _ _ => rfl)
  | n9 + 1, z_14067, z_14068, z_14069, z_14070, z_14071, z_14072, z_14073, z_14074, z_14075, f_14076, f_14077, f_14078, f_14079 => by
    rw [HX7_court_2_eq]
    refine ite_Q (fun _ => ?_) (fun _ => ?_)
    · skip
      refine ite_Q (fun _ => ?_) (fun _ => ?_)
      · skip
        refine un6_Q (fun x_14130 x_14131 x_14132 x_14133 x_14134 f_14135 _ => ?_)
        refine un13_Q (fun x_14136 x_14137 x_14138 x_14139 x_14140 x_14141 x_14142 x_14143 x_14144 f_14145 f_14146 f_14147 f_14148 _ => ?_)
        exact tc2 n9 x_14136 x_14137 x_14138 x_14139 x_14140 x_14141 x_14142 x_14143 x_14144 f_14145 f_14146 f_14147 f_14148
      · skip
        refine ite_Q (fun _ => ?_) (fun _ => ?_)
        · skip
          refine ite_Q (fun _ => ?_) (fun _ => ?_)
          · skip
            refine ite_Q (fun _ => ?_) (fun _ => ?_)
            · skip
              refine lt_Q (fun x_14091 e_x_14091 => ?_)
              refine ite_Q (fun _ => ?_) (fun _ => ?_)
              · skip
                refine un3_Q (fun x_14093 x_14094 x_14095 _ => ?_)
                refine ite_Q (fun _ => ?_) (fun _ => ?_)
                · skip
                  exact Or.inr (fun _ _ => rfl)
                · skip
                  refine un2_Q (fun x_14098 x_14097 _ => ?_)
                  exact Or.inl rfl
              · skip
                refine lt_Q (fun x_14099 e_x_14099 => ?_)
                refine ite_Q (fun _ => ?_) (fun _ => ?_)
                · skip
                  refine un3_Q (fun x_14117 x_14118 x_14119 _ => ?_)
                  refine ite_Q (fun _ => ?_) (fun _ => ?_)
                  · skip
                    exact Or.inr (fun _ _ => rfl)
                  · skip
                    refine un2_Q (fun x_14122 x_14121 _ => ?_)
                    exact Or.inl rfl
                · skip
                  refine ite_Q (fun _ => ?_) (fun _ => ?_)
                  · skip
                    refine lt_Q (fun x_14102 e_x_14102 => ?_)
                    refine ite_Q (fun _ => ?_) (fun _ => ?_)
                    · skip
                      refine lt_Q (fun f_14104 e_f_14104 => ?_)
                      refine lt_Q (fun f_14105 e_f_14105 => ?_)
                      refine lt_Q (fun f_14106 e_f_14106 => ?_)
                      refine lt_Q (fun x_14107 e_x_14107 => ?_)
                      refine lt_Q (fun x_14108 e_x_14108 => ?_)
                      exact Or.inr (fun q hq => by show f_14105 q = f_14106 q; rw [← e_f_14105, ← e_f_14106, cpF90 hq, cpF90 hq])
                    · skip
                      refine lt_Q (fun x_14109 e_x_14109 => ?_)
                      refine lt_Q (fun x_14110 e_x_14110 => ?_)
                      refine lt_Q (fun f_14111 e_f_14111 => ?_)
                      refine lt_Q (fun f_14112 e_f_14112 => ?_)
                      refine lt_Q (fun f_14113 e_f_14113 => ?_)
                      refine lt_Q (fun f_14114 e_f_14114 => ?_)
                      refine lt_Q (fun x_14115 e_x_14115 => ?_)
                      refine lt_Q (fun x_14116 e_x_14116 => ?_)
                      exact Or.inr (fun q hq => by show f_14113 q = f_14114 q; rw [← e_f_14113, ← e_f_14114, cpF90 hq, cpF90 hq])
                  · skip
                    exact Or.inr (fun _ _ => rfl)
            · skip
              exact Or.inr (fun _ _ => rfl)
          · skip
            refine un3_Q (fun x_14123 x_14124 x_14125 _ => ?_)
            refine ite_Q (fun _ => ?_) (fun _ => ?_)
            · skip
              exact Or.inr (fun _ _ => rfl)
            · skip
              refine ite_Q (fun _ => ?_) (fun _ => ?_)
              · skip
                exact Or.inr (fun _ _ => rfl)
              · skip
                refine un2_Q (fun x_14129 x_14128 _ => ?_)
                exact Or.inl rfl
        · skip
          exact Or.inr (fun _ _ => rfl)
    · skip
      refine ite_Q (fun _ => ?_) (fun _ => ?_)
      · skip
        exact Or.inr (fun _ _ => rfl)
      · skip
        refine ite_Q (fun _ => ?_) (fun _ => ?_)
        · skip
          exact Or.inr (fun _ _ => rfl)
        · skip
          refine ite_Q (fun _ => ?_) (fun _ => ?_)
          · skip
            exact Or.inr (fun _ _ => rfl)
          · skip
            refine un2_Q (fun x_14086 x_14085 _ => ?_)
            exact Or.inl rfl
theorem tc1 {fM_tape : Nat → Int32} {iM_place : Int32} {fM_letters : Nat → Int32} {iM_hasCourt : Int32} {fM_r : Nat → Int32} {fM_told : Nat → Int32} {fM_st : Nat → Int32} {iM_undos : Int32} {iM_images : Int32} {fM_fresher : Nat → Int32} {iM_fresherSize : Int32} {iM_scale : Int32} {p0 : Int32} {x_14035 : Int32} {x_14036 : Int32} {f_14040 : Nat → Int32} : ∀ (n9 : Nat) (z_14043 : Int32) (f_14044 : Nat → Int32), TQ fM_told (HX7_court_1 fM_tape iM_place fM_letters iM_hasCourt fM_r fM_told fM_st iM_undos iM_images fM_fresher iM_fresherSize iM_scale p0 x_14035 x_14036 f_14040 n9 z_14043 f_14044)
  | 0, _, _ => Or.inr (fun _ _ => rfl)
  | n9 + 1, z_14043, f_14044 => by
    rw [HX7_court_1_eq]
    refine ite_Q (fun _ => ?_) (fun _ => ?_)
    · skip
      refine lt_Q (fun f_14047 e_f_14047 => ?_)
      refine un6_Q (fun x_14048 x_14049 x_14050 x_14051 x_14052 f_14053 _ => ?_)
      refine un13_Q (fun x_14054 x_14055 x_14056 x_14057 x_14058 x_14059 x_14060 x_14061 x_14062 f_14063 f_14064 f_14065 f_14066 _ => ?_)
      exact tc2 _ _ _ _ _ _ _ _ _ _ _ _ _ _ 
    · skip
      refine lt_Q (fun f_14149 e_f_14149 => ?_)
      refine lt_Q (fun x_14150 e_x_14150 => ?_)
      exact tc1 n9 x_14150 f_14149
theorem tc0 {fM_tape : Nat → Int32} {iM_place : Int32} {fM_letters : Nat → Int32} {iM_hasCourt : Int32} {fM_r : Nat → Int32} {fM_told : Nat → Int32} {fM_read : Nat → Int32} {fM_st : Nat → Int32} {iM_undos : Int32} {iM_images : Int32} {fM_fresher : Nat → Int32} {iM_fresherSize : Int32} {iM_scale : Int32} {p0 : Int32} {x_14035 : Int32} {x_14036 : Int32} : ∀ (n9 : Nat) (z_14039 : Int32) (f_14040 : Nat → Int32), TQ fM_told (HX7_court_0 fM_tape iM_place fM_letters iM_hasCourt fM_r fM_told fM_read fM_st iM_undos iM_images fM_fresher iM_fresherSize iM_scale p0 x_14035 x_14036 n9 z_14039 f_14040)
  | 0, _, _ => Or.inr (fun _ _ => rfl)
  | n9 + 1, z_14039, f_14040 => by
    rw [HX7_court_0_eq]
    refine ite_Q (fun _ => ?_) (fun _ => ?_)
    · skip
      exact tc1 _ _ _ 
    · skip
      refine lt_Q (fun f_14151 e_f_14151 => ?_)
      refine lt_Q (fun x_14152 e_x_14152 => ?_)
      exact tc0 n9 x_14152 f_14151
theorem court_T {fM_tape : Nat → Int32} {iM_taped : Int32} {iM_size : Int32} {iM_at : Int32} {iM_end : Int32} {iM_token : Int32} {iM_whole : Int32} {iM_nameSize : Int32} {iM_fault : Int32} {iM_place : Int32} {fM_letters : Nat → Int32} {iM_failed : Int32} {iM_hasCourt : Int32} {fM_r : Nat → Int32} {fM_fresh : Nat → Int32} {fM_told : Nat → Int32} {fM_read : Nat → Int32} {fM_st : Nat → Int32} {iM_undos : Int32} {iM_images : Int32} {fM_fresher : Nat → Int32} {iM_fresherSize : Int32} {iM_scale : Int32} {p0 : Int32} : TQ fM_told (PX7_court fM_tape iM_taped iM_size iM_at iM_end iM_token iM_whole iM_nameSize iM_fault iM_place fM_letters iM_failed iM_hasCourt fM_r fM_fresh fM_told fM_read fM_st iM_undos iM_images fM_fresher iM_fresherSize iM_scale p0) := by
  rw [PX7_court_eq]
  refine un2_Q (fun x_14035 x_14036 _ => ?_)
  refine lt_Q (fun x_14037 e_x_14037 => ?_)
  refine ite_Q (fun _ => ?_) (fun _ => ?_)
  · skip
    refine un2_Q (fun x_14155 x_14154 _ => ?_)
    exact Or.inl rfl
  · skip
    exact tc0 _ _ _ 
theorem ct_joinT {U : Nat → Int32} {ts lf hc : Int32} {r told st : Nat → Int32} {undos images scale p : Int32} {r7 : Int32} {a7 : Int32} {l7 : Int32} {f7 : Int32} {hc7 : Int32} {rr7 : Nat → Int32} {told7 : Nat → Int32} {st7 : Nat → Int32} {undos7 : Int32} {images7 : Int32} {scale7 : Int32} (hT : WorOk told) (h7 : CtMX U ts lf hc r told st undos images scale p r7 a7 l7 f7 hc7 rr7 told7 st7 undos7 images7 scale7) (hw : WorOk st7) : WorOk told7 := by
  obtain ⟨y_iM_size, y_iM_at, y_iM_end, y_iM_token, y_iM_whole, y_iM_nameSize, y_iM_place, y_fM_letters, y_iM_failed, y_fM_fresh, y_fM_read, y_fM_fresher, y_iM_fresherSize, y⟩ := h7
  have hq : TQ told (PX7_court U ts y_iM_size y_iM_at y_iM_end y_iM_token y_iM_whole y_iM_nameSize lf y_iM_place y_fM_letters y_iM_failed hc r y_fM_fresh told y_fM_read st undos images y_fM_fresher y_iM_fresherSize scale p) := court_T
  generalize PX7_court U ts y_iM_size y_iM_at y_iM_end y_iM_token y_iM_whole y_iM_nameSize lf y_iM_place y_fM_letters y_iM_failed hc r y_fM_fresh told y_fM_read st undos images y_fM_fresher y_iM_fresherSize scale p = M at y hq
  obtain ⟨y1, y3, y10, y12, y14, y20, y22, y24, y15, y16, y18⟩ := y
  intro j h1 h2
  rcases hq with e | e
  · rw [← y22, e]; exact hT j h1 h2
  · rw [← y22, e j h2, y24]; exact hw j h1 h2
end F21
