theorem kc_117 : (117 : Int32).toInt = 117 := by decide
theorem kc_122 : (122 : Int32).toInt = 122 := by decide
theorem kc_1350 : (1350 : Int32).toInt = 1350 := by decide
theorem kc_880 : (880 : Int32).toInt = 880 := by decide
theorem kc_m8 : ((-8) : Int32).toInt = (-8) := by decide
