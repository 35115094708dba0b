theorem kc_122 : (122 : Int32).toInt = 122 := by decide
