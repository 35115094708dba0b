theorem om_60c3b8c8 {a0 a1 a2 : Int} (h0 : a0 < a1) (h1 : a0 = a2) (h2 : 0 ≤ a2) : 1 ≤ a1 := by omega
