section
set_option maxRecDepth 20000 in
theorem wGg_0 : ∀ w ∈ wG_0, goodWord w = true := fun w h => List.all_eq_true.mp (show wG_0.all goodWord = true by decide +kernel) w h
set_option maxRecDepth 20000 in
theorem wGg_1 : ∀ w ∈ wG_1, goodWord w = true := fun w h => List.all_eq_true.mp (show wG_1.all goodWord = true by decide +kernel) w h
set_option maxRecDepth 20000 in
theorem wGg_2 : ∀ w ∈ wG_2, goodWord w = true := fun w h => List.all_eq_true.mp (show wG_2.all goodWord = true by decide +kernel) w h
set_option maxRecDepth 20000 in
theorem wGg_3 : ∀ w ∈ wG_3, goodWord w = true := fun w h => List.all_eq_true.mp (show wG_3.all goodWord = true by decide +kernel) w h
set_option maxRecDepth 20000 in
theorem wGg_4 : ∀ w ∈ wG_4, goodWord w = true := fun w h => List.all_eq_true.mp (show wG_4.all goodWord = true by decide +kernel) w h
set_option maxRecDepth 20000 in
theorem wGg_5 : ∀ w ∈ wG_5, goodWord w = true := fun w h => List.all_eq_true.mp (show wG_5.all goodWord = true by decide +kernel) w h
set_option maxRecDepth 20000 in
theorem wGg_6 : ∀ w ∈ wG_6, goodWord w = true := fun w h => List.all_eq_true.mp (show wG_6.all goodWord = true by decide +kernel) w h
set_option maxRecDepth 20000 in
theorem wGg_7 : ∀ w ∈ wG_7, goodWord w = true := fun w h => List.all_eq_true.mp (show wG_7.all goodWord = true by decide +kernel) w h
set_option maxRecDepth 20000 in
theorem wGg_8 : ∀ w ∈ wG_8, goodWord w = true := fun w h => List.all_eq_true.mp (show wG_8.all goodWord = true by decide +kernel) w h
set_option maxRecDepth 20000 in
theorem wGg_9 : ∀ w ∈ wG_9, goodWord w = true := fun w h => List.all_eq_true.mp (show wG_9.all goodWord = true by decide +kernel) w h
set_option maxRecDepth 20000 in
theorem wGg_10 : ∀ w ∈ wG_10, goodWord w = true := fun w h => List.all_eq_true.mp (show wG_10.all goodWord = true by decide +kernel) w h
set_option maxRecDepth 20000 in
theorem wGg_11 : ∀ w ∈ wG_11, goodWord w = true := fun w h => List.all_eq_true.mp (show wG_11.all goodWord = true by decide +kernel) w h
set_option maxRecDepth 20000 in
theorem wGg_12 : ∀ w ∈ wG_12, goodWord w = true := fun w h => List.all_eq_true.mp (show wG_12.all goodWord = true by decide +kernel) w h
set_option maxRecDepth 20000 in
theorem wGg_13 : ∀ w ∈ wG_13, goodWord w = true := fun w h => List.all_eq_true.mp (show wG_13.all goodWord = true by decide +kernel) w h
set_option maxRecDepth 20000 in
theorem wGg_14 : ∀ w ∈ wG_14, goodWord w = true := fun w h => List.all_eq_true.mp (show wG_14.all goodWord = true by decide +kernel) w h
set_option maxRecDepth 20000 in
theorem wGg_15 : ∀ w ∈ wG_15, goodWord w = true := fun w h => List.all_eq_true.mp (show wG_15.all goodWord = true by decide +kernel) w h
set_option maxRecDepth 20000 in
theorem wGg_16 : ∀ w ∈ wG_16, goodWord w = true := fun w h => List.all_eq_true.mp (show wG_16.all goodWord = true by decide +kernel) w h
set_option maxRecDepth 20000 in
theorem wGg_17 : ∀ w ∈ wG_17, goodWord w = true := fun w h => List.all_eq_true.mp (show wG_17.all goodWord = true by decide +kernel) w h
set_option maxRecDepth 20000 in
theorem wGg_18 : ∀ w ∈ wG_18, goodWord w = true := fun w h => List.all_eq_true.mp (show wG_18.all goodWord = true by decide +kernel) w h
set_option maxRecDepth 20000 in
theorem wGg_19 : ∀ w ∈ wG_19, goodWord w = true := fun w h => List.all_eq_true.mp (show wG_19.all goodWord = true by decide +kernel) w h
set_option maxRecDepth 20000 in
theorem wGg_20 : ∀ w ∈ wG_20, goodWord w = true := fun w h => List.all_eq_true.mp (show wG_20.all goodWord = true by decide +kernel) w h
set_option maxRecDepth 20000 in
theorem wGg_21 : ∀ w ∈ wG_21, goodWord w = true := fun w h => List.all_eq_true.mp (show wG_21.all goodWord = true by decide +kernel) w h
set_option maxRecDepth 20000 in
theorem wGg_22 : ∀ w ∈ wG_22, goodWord w = true := fun w h => List.all_eq_true.mp (show wG_22.all goodWord = true by decide +kernel) w h
set_option maxRecDepth 20000 in
theorem wGg_23 : ∀ w ∈ wG_23, goodWord w = true := fun w h => List.all_eq_true.mp (show wG_23.all goodWord = true by decide +kernel) w h
set_option maxRecDepth 20000 in
theorem wGg_24 : ∀ w ∈ wG_24, goodWord w = true := fun w h => List.all_eq_true.mp (show wG_24.all goodWord = true by decide +kernel) w h
set_option maxRecDepth 20000 in
theorem wGg_25 : ∀ w ∈ wG_25, goodWord w = true := fun w h => List.all_eq_true.mp (show wG_25.all goodWord = true by decide +kernel) w h
set_option maxRecDepth 20000 in
theorem wGg_26 : ∀ w ∈ wG_26, goodWord w = true := fun w h => List.all_eq_true.mp (show wG_26.all goodWord = true by decide +kernel) w h
set_option maxRecDepth 20000 in
theorem wGg_27 : ∀ w ∈ wG_27, goodWord w = true := fun w h => List.all_eq_true.mp (show wG_27.all goodWord = true by decide +kernel) w h
set_option maxRecDepth 20000 in
theorem wGg_28 : ∀ w ∈ wG_28, goodWord w = true := fun w h => List.all_eq_true.mp (show wG_28.all goodWord = true by decide +kernel) w h
set_option maxRecDepth 20000 in
theorem wGg_29 : ∀ w ∈ wG_29, goodWord w = true := fun w h => List.all_eq_true.mp (show wG_29.all goodWord = true by decide +kernel) w h
set_option maxRecDepth 20000 in
theorem wGg_30 : ∀ w ∈ wG_30, goodWord w = true := fun w h => List.all_eq_true.mp (show wG_30.all goodWord = true by decide +kernel) w h
set_option maxRecDepth 20000 in
theorem wGg_31 : ∀ w ∈ wG_31, goodWord w = true := fun w h => List.all_eq_true.mp (show wG_31.all goodWord = true by decide +kernel) w h
set_option maxRecDepth 20000 in
theorem wGg_32 : ∀ w ∈ wG_32, goodWord w = true := fun w h => List.all_eq_true.mp (show wG_32.all goodWord = true by decide +kernel) w h
set_option maxRecDepth 20000 in
theorem wGg_33 : ∀ w ∈ wG_33, goodWord w = true := fun w h => List.all_eq_true.mp (show wG_33.all goodWord = true by decide +kernel) w h
set_option maxRecDepth 20000 in
theorem wGg_34 : ∀ w ∈ wG_34, goodWord w = true := fun w h => List.all_eq_true.mp (show wG_34.all goodWord = true by decide +kernel) w h
set_option maxRecDepth 20000 in
theorem wGg_35 : ∀ w ∈ wG_35, goodWord w = true := fun w h => List.all_eq_true.mp (show wG_35.all goodWord = true by decide +kernel) w h
set_option maxRecDepth 20000 in
theorem wGg_36 : ∀ w ∈ wG_36, goodWord w = true := fun w h => List.all_eq_true.mp (show wG_36.all goodWord = true by decide +kernel) w h
set_option maxRecDepth 20000 in
theorem wGg_X0 : ∀ w ∈ wsX00, goodWord w = true := fun w h => List.all_eq_true.mp (show wsX00.all goodWord = true by decide +kernel) w h
set_option maxRecDepth 20000 in
theorem wGg_X1 : ∀ w ∈ wsX10, goodWord w = true := fun w h => List.all_eq_true.mp (show wsX10.all goodWord = true by decide +kernel) w h
set_option maxRecDepth 20000 in
theorem wGg_X2 : ∀ w ∈ wsX20, goodWord w = true := fun w h => List.all_eq_true.mp (show wsX20.all goodWord = true by decide +kernel) w h
set_option maxRecDepth 20000 in
theorem wGg_X3 : ∀ w ∈ wsX30, goodWord w = true := fun w h => List.all_eq_true.mp (show wsX30.all goodWord = true by decide +kernel) w h
set_option maxRecDepth 20000 in
theorem wGg_X4 : ∀ w ∈ wsX40, goodWord w = true := fun w h => List.all_eq_true.mp (show wsX40.all goodWord = true by decide +kernel) w h
set_option maxRecDepth 20000 in
theorem wGg_X5 : ∀ w ∈ wsX50, goodWord w = true := fun w h => List.all_eq_true.mp (show wsX50.all goodWord = true by decide +kernel) w h
set_option maxRecDepth 20000 in
theorem wGg_X6 : ∀ w ∈ wsX60, goodWord w = true := fun w h => List.all_eq_true.mp (show wsX60.all goodWord = true by decide +kernel) w h
set_option maxRecDepth 20000 in
theorem wGg_X7 : ∀ w ∈ wsX70, goodWord w = true := fun w h => List.all_eq_true.mp (show wsX70.all goodWord = true by decide +kernel) w h
theorem wG_in : ∀ w ∈ wG, w ∈ lw_tbl := List.forall_mem_append.mpr ⟨wGi_0, List.forall_mem_append.mpr ⟨wGi_1, List.forall_mem_append.mpr ⟨wGi_2, List.forall_mem_append.mpr ⟨wGi_3, List.forall_mem_append.mpr ⟨wGi_4, List.forall_mem_append.mpr ⟨wGi_5, List.forall_mem_append.mpr ⟨wGi_6, List.forall_mem_append.mpr ⟨wGi_7, List.forall_mem_append.mpr ⟨wGi_8, List.forall_mem_append.mpr ⟨wGi_9, List.forall_mem_append.mpr ⟨wGi_10, List.forall_mem_append.mpr ⟨wGi_11, List.forall_mem_append.mpr ⟨wGi_12, List.forall_mem_append.mpr ⟨wGi_13, List.forall_mem_append.mpr ⟨wGi_14, List.forall_mem_append.mpr ⟨wGi_15, List.forall_mem_append.mpr ⟨wGi_16, List.forall_mem_append.mpr ⟨wGi_17, List.forall_mem_append.mpr ⟨wGi_18, List.forall_mem_append.mpr ⟨wGi_19, List.forall_mem_append.mpr ⟨wGi_20, List.forall_mem_append.mpr ⟨wGi_21, List.forall_mem_append.mpr ⟨wGi_22, List.forall_mem_append.mpr ⟨wGi_23, List.forall_mem_append.mpr ⟨wGi_24, List.forall_mem_append.mpr ⟨wGi_25, List.forall_mem_append.mpr ⟨wGi_26, List.forall_mem_append.mpr ⟨wGi_27, List.forall_mem_append.mpr ⟨wGi_28, List.forall_mem_append.mpr ⟨wGi_29, List.forall_mem_append.mpr ⟨wGi_30, List.forall_mem_append.mpr ⟨wGi_31, List.forall_mem_append.mpr ⟨wGi_32, List.forall_mem_append.mpr ⟨wGi_33, List.forall_mem_append.mpr ⟨wGi_34, List.forall_mem_append.mpr ⟨wGi_35, List.forall_mem_append.mpr ⟨wGi_36, List.forall_mem_append.mpr ⟨wGi_X0, List.forall_mem_append.mpr ⟨wGi_X1, List.forall_mem_append.mpr ⟨wGi_X2, List.forall_mem_append.mpr ⟨wGi_X3, List.forall_mem_append.mpr ⟨wGi_X4, List.forall_mem_append.mpr ⟨wGi_X5, List.forall_mem_append.mpr ⟨wGi_X6, wGi_X7⟩⟩⟩⟩⟩⟩⟩⟩⟩⟩⟩⟩⟩⟩⟩⟩⟩⟩⟩⟩⟩⟩⟩⟩⟩⟩⟩⟩⟩⟩⟩⟩⟩⟩⟩⟩⟩⟩⟩⟩⟩⟩⟩⟩
theorem wG_good : ∀ w ∈ wG, goodWord w = true := List.forall_mem_append.mpr ⟨wGg_0, List.forall_mem_append.mpr ⟨wGg_1, List.forall_mem_append.mpr ⟨wGg_2, List.forall_mem_append.mpr ⟨wGg_3, List.forall_mem_append.mpr ⟨wGg_4, List.forall_mem_append.mpr ⟨wGg_5, List.forall_mem_append.mpr ⟨wGg_6, List.forall_mem_append.mpr ⟨wGg_7, List.forall_mem_append.mpr ⟨wGg_8, List.forall_mem_append.mpr ⟨wGg_9, List.forall_mem_append.mpr ⟨wGg_10, List.forall_mem_append.mpr ⟨wGg_11, List.forall_mem_append.mpr ⟨wGg_12, List.forall_mem_append.mpr ⟨wGg_13, List.forall_mem_append.mpr ⟨wGg_14, List.forall_mem_append.mpr ⟨wGg_15, List.forall_mem_append.mpr ⟨wGg_16, List.forall_mem_append.mpr ⟨wGg_17, List.forall_mem_append.mpr ⟨wGg_18, List.forall_mem_append.mpr ⟨wGg_19, List.forall_mem_append.mpr ⟨wGg_20, List.forall_mem_append.mpr ⟨wGg_21, List.forall_mem_append.mpr ⟨wGg_22, List.forall_mem_append.mpr ⟨wGg_23, List.forall_mem_append.mpr ⟨wGg_24, List.forall_mem_append.mpr ⟨wGg_25, List.forall_mem_append.mpr ⟨wGg_26, List.forall_mem_append.mpr ⟨wGg_27, List.forall_mem_append.mpr ⟨wGg_28, List.forall_mem_append.mpr ⟨wGg_29, List.forall_mem_append.mpr ⟨wGg_30, List.forall_mem_append.mpr ⟨wGg_31, List.forall_mem_append.mpr ⟨wGg_32, List.forall_mem_append.mpr ⟨wGg_33, List.forall_mem_append.mpr ⟨wGg_34, List.forall_mem_append.mpr ⟨wGg_35, List.forall_mem_append.mpr ⟨wGg_36, List.forall_mem_append.mpr ⟨wGg_X0, List.forall_mem_append.mpr ⟨wGg_X1, List.forall_mem_append.mpr ⟨wGg_X2, List.forall_mem_append.mpr ⟨wGg_X3, List.forall_mem_append.mpr ⟨wGg_X4, List.forall_mem_append.mpr ⟨wGg_X5, List.forall_mem_append.mpr ⟨wGg_X6, wGg_X7⟩⟩⟩⟩⟩⟩⟩⟩⟩⟩⟩⟩⟩⟩⟩⟩⟩⟩⟩⟩⟩⟩⟩⟩⟩⟩⟩⟩⟩⟩⟩⟩⟩⟩⟩⟩⟩⟩⟩⟩⟩⟩⟩⟩
end
section
theorem kc_m100000000 : ((-100000000) : Int32).toInt = (-100000000) := by decide
theorem kc_m100 : ((-100) : Int32).toInt = (-100) := by decide
theorem kc_m2 : ((-2) : Int32).toInt = (-2) := by decide
theorem kc_m1 : ((-1) : Int32).toInt = (-1) := by decide
theorem kc_0 : (0 : Int32).toInt = 0 := by decide
theorem kc_1 : (1 : Int32).toInt = 1 := by decide
theorem kc_2 : (2 : Int32).toInt = 2 := by decide
theorem kc_3 : (3 : Int32).toInt = 3 := by decide
theorem kc_4 : (4 : Int32).toInt = 4 := by decide
theorem kc_5 : (5 : Int32).toInt = 5 := by decide
theorem kc_6 : (6 : Int32).toInt = 6 := by decide
theorem kc_7 : (7 : Int32).toInt = 7 := by decide
theorem kc_8 : (8 : Int32).toInt = 8 := by decide
theorem kc_9 : (9 : Int32).toInt = 9 := by decide
theorem kc_10 : (10 : Int32).toInt = 10 := by decide
theorem kc_11 : (11 : Int32).toInt = 11 := by decide
theorem kc_12 : (12 : Int32).toInt = 12 := by decide
theorem kc_13 : (13 : Int32).toInt = 13 := by decide
theorem kc_14 : (14 : Int32).toInt = 14 := by decide
theorem kc_15 : (15 : Int32).toInt = 15 := by decide
theorem kc_16 : (16 : Int32).toInt = 16 := by decide
theorem kc_17 : (17 : Int32).toInt = 17 := by decide
theorem kc_18 : (18 : Int32).toInt = 18 := by decide
theorem kc_19 : (19 : Int32).toInt = 19 := by decide
theorem kc_20 : (20 : Int32).toInt = 20 := by decide
theorem kc_21 : (21 : Int32).toInt = 21 := by decide
theorem kc_22 : (22 : Int32).toInt = 22 := by decide
theorem kc_23 : (23 : Int32).toInt = 23 := by decide
theorem kc_24 : (24 : Int32).toInt = 24 := by decide
theorem kc_25 : (25 : Int32).toInt = 25 := by decide
theorem kc_26 : (26 : Int32).toInt = 26 := by decide
theorem kc_27 : (27 : Int32).toInt = 27 := by decide
theorem kc_28 : (28 : Int32).toInt = 28 := by decide
theorem kc_29 : (29 : Int32).toInt = 29 := by decide
theorem kc_30 : (30 : Int32).toInt = 30 := by decide
theorem kc_31 : (31 : Int32).toInt = 31 := by decide
theorem kc_32 : (32 : Int32).toInt = 32 := by decide
theorem kc_33 : (33 : Int32).toInt = 33 := by decide
theorem kc_34 : (34 : Int32).toInt = 34 := by decide
theorem kc_35 : (35 : Int32).toInt = 35 := by decide
theorem kc_36 : (36 : Int32).toInt = 36 := by decide
theorem kc_37 : (37 : Int32).toInt = 37 := by decide
theorem kc_38 : (38 : Int32).toInt = 38 := by decide
theorem kc_39 : (39 : Int32).toInt = 39 := by decide
theorem kc_40 : (40 : Int32).toInt = 40 := by decide
theorem kc_41 : (41 : Int32).toInt = 41 := by decide
theorem kc_42 : (42 : Int32).toInt = 42 := by decide
theorem kc_43 : (43 : Int32).toInt = 43 := by decide
theorem kc_44 : (44 : Int32).toInt = 44 := by decide
theorem kc_45 : (45 : Int32).toInt = 45 := by decide
theorem kc_46 : (46 : Int32).toInt = 46 := by decide
theorem kc_47 : (47 : Int32).toInt = 47 := by decide
theorem kc_48 : (48 : Int32).toInt = 48 := by decide
theorem kc_49 : (49 : Int32).toInt = 49 := by decide
theorem kc_50 : (50 : Int32).toInt = 50 := by decide
theorem kc_51 : (51 : Int32).toInt = 51 := by decide
theorem kc_52 : (52 : Int32).toInt = 52 := by decide
theorem kc_53 : (53 : Int32).toInt = 53 := by decide
theorem kc_54 : (54 : Int32).toInt = 54 := by decide
theorem kc_55 : (55 : Int32).toInt = 55 := by decide
theorem kc_56 : (56 : Int32).toInt = 56 := by decide
theorem kc_57 : (57 : Int32).toInt = 57 := by decide
theorem kc_58 : (58 : Int32).toInt = 58 := by decide
theorem kc_59 : (59 : Int32).toInt = 59 := by decide
theorem kc_60 : (60 : Int32).toInt = 60 := by decide
theorem kc_61 : (61 : Int32).toInt = 61 := by decide
theorem kc_62 : (62 : Int32).toInt = 62 := by decide
theorem kc_63 : (63 : Int32).toInt = 63 := by decide
theorem kc_64 : (64 : Int32).toInt = 64 := by decide
theorem kc_65 : (65 : Int32).toInt = 65 := by decide
theorem kc_66 : (66 : Int32).toInt = 66 := by decide
theorem kc_67 : (67 : Int32).toInt = 67 := by decide
theorem kc_68 : (68 : Int32).toInt = 68 := by decide
theorem kc_69 : (69 : Int32).toInt = 69 := by decide
theorem kc_70 : (70 : Int32).toInt = 70 := by decide
theorem kc_71 : (71 : Int32).toInt = 71 := by decide
theorem kc_72 : (72 : Int32).toInt = 72 := by decide
theorem kc_73 : (73 : Int32).toInt = 73 := by decide
theorem kc_74 : (74 : Int32).toInt = 74 := by decide
theorem kc_75 : (75 : Int32).toInt = 75 := by decide
theorem kc_76 : (76 : Int32).toInt = 76 := by decide
theorem kc_77 : (77 : Int32).toInt = 77 := by decide
theorem kc_78 : (78 : Int32).toInt = 78 := by decide
theorem kc_79 : (79 : Int32).toInt = 79 := by decide
theorem kc_80 : (80 : Int32).toInt = 80 := by decide
theorem kc_81 : (81 : Int32).toInt = 81 := by decide
theorem kc_82 : (82 : Int32).toInt = 82 := by decide
theorem kc_83 : (83 : Int32).toInt = 83 := by decide
theorem kc_84 : (84 : Int32).toInt = 84 := by decide
theorem kc_85 : (85 : Int32).toInt = 85 := by decide
theorem kc_86 : (86 : Int32).toInt = 86 := by decide
theorem kc_87 : (87 : Int32).toInt = 87 := by decide
theorem kc_88 : (88 : Int32).toInt = 88 := by decide
theorem kc_89 : (89 : Int32).toInt = 89 := by decide
theorem kc_90 : (90 : Int32).toInt = 90 := by decide
theorem kc_91 : (91 : Int32).toInt = 91 := by decide
theorem kc_92 : (92 : Int32).toInt = 92 := by decide
theorem kc_93 : (93 : Int32).toInt = 93 := by decide
theorem kc_94 : (94 : Int32).toInt = 94 := by decide
theorem kc_95 : (95 : Int32).toInt = 95 := by decide
theorem kc_96 : (96 : Int32).toInt = 96 := by decide
theorem kc_97 : (97 : Int32).toInt = 97 := by decide
theorem kc_98 : (98 : Int32).toInt = 98 := by decide
theorem kc_99 : (99 : Int32).toInt = 99 := by decide
theorem kc_100 : (100 : Int32).toInt = 100 := by decide
theorem kc_127 : (127 : Int32).toInt = 127 := by decide
theorem kc_255 : (255 : Int32).toInt = 255 := by decide
theorem kc_287 : (287 : Int32).toInt = 287 := by decide
theorem kc_349 : (349 : Int32).toInt = 349 := by decide
theorem kc_400 : (400 : Int32).toInt = 400 := by decide
theorem kc_464 : (464 : Int32).toInt = 464 := by decide
theorem kc_512 : (512 : Int32).toInt = 512 := by decide
theorem kc_800 : (800 : Int32).toInt = 800 := by decide
theorem kc_900 : (900 : Int32).toInt = 900 := by decide
theorem kc_999 : (999 : Int32).toInt = 999 := by decide
theorem kc_1000 : (1000 : Int32).toInt = 1000 := by decide
theorem kc_1296 : (1296 : Int32).toInt = 1296 := by decide
theorem kc_1440 : (1440 : Int32).toInt = 1440 := by decide
theorem kc_65536 : (65536 : Int32).toInt = 65536 := by decide
theorem kc_65537 : (65537 : Int32).toInt = 65537 := by decide
theorem kc_100000000 : (100000000 : Int32).toInt = 100000000 := by decide
theorem dfX0 : ∀ j, j < 4 → defaultValue (tyX0 j) = vp_V [.int 0, .null, .null, .null] j := by
  intro j hj
  rcases (show j = 0 ∨ j = 1 ∨ j = 2 ∨ j = 3 by omega) with rfl | rfl | rfl | rfl <;> rfl
theorem dfX1 : ∀ j, j < 19 → defaultValue (tyX1 j) = vp_V [.int 0, .int 0, .int 0, .int 0, .int 0, .int 0, .int 0, .int 0, .null, .null, .null, .null, .null, .null, .null, .null, .null, .null, .null] j := by
  intro j hj
  rcases (show j = 0 ∨ j = 1 ∨ j = 2 ∨ j = 3 ∨ j = 4 ∨ j = 5 ∨ j = 6 ∨ j = 7 ∨ j = 8 ∨ j = 9 ∨ j = 10 ∨ j = 11 ∨ j = 12 ∨ j = 13 ∨ j = 14 ∨ j = 15 ∨ j = 16 ∨ j = 17 ∨ j = 18 by omega) with rfl | rfl | rfl | rfl | rfl | rfl | rfl | rfl | rfl | rfl | rfl | rfl | rfl | rfl | rfl | rfl | rfl | rfl | rfl <;> rfl
theorem dfX2 : ∀ j, j < 7 → defaultValue (tyX2 j) = vp_V [.int 0, .int 0, .int 0, .int 0, .int 0, .null, .null] j := by
  intro j hj
  rcases (show j = 0 ∨ j = 1 ∨ j = 2 ∨ j = 3 ∨ j = 4 ∨ j = 5 ∨ j = 6 by omega) with rfl | rfl | rfl | rfl | rfl | rfl | rfl <;> rfl
theorem dfX3 : ∀ j, j < 15 → defaultValue (tyX3 j) = vp_V [.int 0, .int 0, .int 0, .null, .int 0, .int 0, .int 0, .int 0, .long 0, .int 0, .int 0, .null, .int 0, .null, .null] j := by
  intro j hj
  rcases (show j = 0 ∨ j = 1 ∨ j = 2 ∨ j = 3 ∨ j = 4 ∨ j = 5 ∨ j = 6 ∨ j = 7 ∨ j = 8 ∨ j = 9 ∨ j = 10 ∨ j = 11 ∨ j = 12 ∨ j = 13 ∨ j = 14 by omega) with rfl | rfl | rfl | rfl | rfl | rfl | rfl | rfl | rfl | rfl | rfl | rfl | rfl | rfl | rfl <;> rfl
theorem dfX4 : ∀ j, j < 2 → defaultValue (tyX4 j) = vp_V [.null, .null] j := by
  intro j hj
  rcases (show j = 0 ∨ j = 1 by omega) with rfl | rfl <;> rfl
theorem dfX5 : ∀ j, j < 3 → defaultValue (tyX5 j) = vp_V [.null, .null, .null] j := by
  intro j hj
  rcases (show j = 0 ∨ j = 1 ∨ j = 2 by omega) with rfl | rfl | rfl <;> rfl
theorem dfX6 : ∀ j, j < 12 → defaultValue (tyX6 j) = vp_V [.null, .null, .null, .null, .null, .int 0, .null, .null, .null, .int 0, .int 0, .int 0] j := by
  intro j hj
  rcases (show j = 0 ∨ j = 1 ∨ j = 2 ∨ j = 3 ∨ j = 4 ∨ j = 5 ∨ j = 6 ∨ j = 7 ∨ j = 8 ∨ j = 9 ∨ j = 10 ∨ j = 11 by omega) with rfl | rfl | rfl | rfl | rfl | rfl | rfl | rfl | rfl | rfl | rfl | rfl <;> rfl
theorem dfX7 : ∀ j, j < 48 → defaultValue (tyX7 j) = vp_V [.int 0, .null, .int 0, .int 0, .int 0, .int 0, .int 0, .int 0, .int 0, .int 0, .int 0, .int 0, .null, .int 0, .int 0, .null, .null, .null, .null, .null, .null, .null, .int 0, .int 0, .null, .int 0, .int 0, .int 0, .null, .null, .int 0, .int 0, .int 0, .null, .null, .int 0, .int 0, .int 0, .int 0, .null, .int 0, .int 0, .int 0, .long 0, .long 0, .long 0, .int 0, .int 0] j := by
  intro j hj
  rcases (show j = 0 ∨ j = 1 ∨ j = 2 ∨ j = 3 ∨ j = 4 ∨ j = 5 ∨ j = 6 ∨ j = 7 ∨ j = 8 ∨ j = 9 ∨ j = 10 ∨ j = 11 ∨ j = 12 ∨ j = 13 ∨ j = 14 ∨ j = 15 ∨ j = 16 ∨ j = 17 ∨ j = 18 ∨ j = 19 ∨ j = 20 ∨ j = 21 ∨ j = 22 ∨ j = 23 ∨ j = 24 ∨ j = 25 ∨ j = 26 ∨ j = 27 ∨ j = 28 ∨ j = 29 ∨ j = 30 ∨ j = 31 ∨ j = 32 ∨ j = 33 ∨ j = 34 ∨ j = 35 ∨ j = 36 ∨ j = 37 ∨ j = 38 ∨ j = 39 ∨ j = 40 ∨ j = 41 ∨ j = 42 ∨ j = 43 ∨ j = 44 ∨ j = 45 ∨ j = 46 ∨ j = 47 by omega) with rfl | rfl | rfl | rfl | rfl | rfl | rfl | rfl | rfl | rfl | rfl | rfl | rfl | rfl | rfl | rfl | rfl | rfl | rfl | rfl | rfl | rfl | rfl | rfl | rfl | rfl | rfl | rfl | rfl | rfl | rfl | rfl | rfl | rfl | rfl | rfl | rfl | rfl | rfl | rfl | rfl | rfl | rfl | rfl | rfl | rfl | rfl | rfl <;> rfl
end
section
/-! the words that every contract carries: one list for all; the world's standing premises -/
theorem wd_gw {w : Cond} (h : w ∈ wG) : w ∈ wG ∧ ((w.onTables && w.keeps) = true ∨ ∃ ty, w = .arrayClass ty) := ⟨h, good_of_word (wG_good w h)⟩
theorem wd_c {w : Cond} (h : w ∈ wG) : GoodIn wG (w :: wG) := fun w' hw => (List.mem_cons.mp hw).elim (fun e => by rw [e]; exact wd_gw h) (fun h => wd_gw h)
theorem wd_V {own C : String} {idx : Nat} {y : MethodName} {ws : List Cond} (h1 : Cond.methodLink own idx y ∈ wG) (h2 : Cond.instanceMethod y ∈ wG) (h3 : Cond.selects C y y ∈ wG) (h4 : Cond.initialized C ∈ wG) (h : GoodIn wG ws) : GoodIn wG (wsV own idx C y ws) := by
  intro w hw
  rcases List.mem_append.mp hw with hw | hw
  · simp only [List.mem_cons, List.not_mem_nil, or_false] at hw
    rcases hw with rfl | rfl | rfl | rfl
    · exact wd_gw h1
    · exact wd_gw h2
    · exact wd_gw h3
    · exact wd_gw h4
  · exact h w hw
theorem wd_S {own : String} {idx : Nat} {y : MethodName} {ws : List Cond} (h1 : Cond.methodLink own idx y ∈ wG) (h2 : Cond.static y ∈ wG) (h4 : Cond.initialized y.cls ∈ wG) (h : GoodIn wG ws) : GoodIn wG (va_wsS own idx y ws) := by
  intro w hw
  rcases List.mem_append.mp hw with hw | hw
  · simp only [List.mem_cons, List.not_mem_nil, or_false] at hw
    rcases hw with rfl | rfl | rfl
    · exact wd_gw h1
    · exact wd_gw h2
    · exact wd_gw h4
  · exact h w hw
/-- a String that is there: coder 0, its bytes -/
def Sw (a v n : Nat) (f : Nat → Int32) (A : Nat → Prop) (U : State) (H : Heap) : Prop := va_O "java/lang/String" a A U H ∧ va_OF "java/lang/String" "coder" "B" (.int 0) a A U H ∧ va_OF "java/lang/String" "value" "[B" (.ref v) a A U H ∧ va_T .byte v n (fun j => .int (f j)) A U H
def Jz (A : Nat → Prop) (U : State) (H : Heap) : Prop := va_Z "java/lang/String" "COMPACT_STRINGS" "Z" (.int 1) A U H ∧ va_Zq "jdk/internal/util/Preconditions" "SIOOBE_FORMATTER" "Ljava/util/function/BiFunction;" A U H
theorem Sw.to {a v n : Nat} {f : Nat → Int32} {A B : Nat → Prop} {s U : State} {H : Heap} {locs : List Loc} (h : Sw a v n f A s s.heap) (hS : va_S A s.heap H locs) (hF : ∀ q, B q → A q) (hU : U.heap = H) (hW : s.WarmedH U.vm) : Sw a v n f B U U.heap := by
  rw [hU]
  obtain ⟨h1, h2, h3, h4⟩ := h
  exact ⟨va_O.moved hW.alike ((h1.kept hS.2.1).narrow hF), va_OF.moved hW.alike ((h2.kept hS.2.1).narrow hF), va_OF.moved hW.alike ((h3.kept hS.2.1).narrow hF), va_T.moved hW.alike ((h4.kept hS.2.1).narrow hF)⟩
theorem Jz.to {A B : Nat → Prop} {s U : State} {H : Heap} {locs : List Loc} (h : Jz A s s.heap) (hS : va_S A s.heap H locs) (hF : ∀ q, B q → A q) (hU : U.heap = H) (hW : s.WarmedH U.vm) : Jz B U U.heap := by
  rw [hU]
  exact ⟨va_Z.moved hW.alike ((h.1.kept hS.2.1).narrow hF), va_Zq.moved hW.alike ((h.2.kept hS.2.1).narrow hF)⟩
theorem Sw.call {a v n : Nat} {f : Nat → Int32} {A : Nat → Prop} {U V : State} (h : Sw a v n f A U U.heap) (hv : U.vm.Alike V.vm) (hh : V.heap = U.heap) : Sw a v n f A V V.heap := by
  rw [hh]
  obtain ⟨h1, h2, h3, h4⟩ := h
  exact ⟨va_O.moved hv h1, va_OF.moved hv h2, va_OF.moved hv h3, va_T.moved hv h4⟩
theorem Jz.call {A : Nat → Prop} {U V : State} (h : Jz A U U.heap) (hv : U.vm.Alike V.vm) (hh : V.heap = U.heap) : Jz A V V.heap := by
  rw [hh]
  exact ⟨va_Z.moved hv h.1, va_Zq.moved hv h.2⟩
def lits3 : List (Nat × String × List Int32) := [(29, "word", [119, 111, 114, 100]), (35, "king", [107, 105, 110, 103]), (37, "queen", [113, 117, 101, 101, 110]), (39, "chance", [99, 104, 97, 110, 99, 101]), (41, "court", [99, 111, 117, 114, 116]), (42, "throne", [116, 104, 114, 111, 110, 101]), (44, "unsure", [117, 110, 115, 117, 114, 101]), (46, "said", [115, 97, 105, 100]), (48, "slips", [115, 108, 105, 112, 115]), (50, "worth", [119, 111, 114, 116, 104])]
def lits7 : List (Nat × String × List Int32) := [(134, "court", [99, 111, 117, 114, 116]), (136, "word", [119, 111, 114, 100]), (138, "king", [107, 105, 110, 103]), (140, "queen", [113, 117, 101, 101, 110]), (142, "chance", [99, 104, 97, 110, 99, 101]), (144, "throne", [116, 104, 114, 111, 110, 101]), (146, "unsure", [117, 110, 115, 117, 114, 101]), (148, "said", [115, 97, 105, 100]), (222, "slips", [115, 108, 105, 112, 115]), (231, "worth", [119, 111, 114, 116, 104])]
def nests : List (String × Nat × MethodName) := [(RX6, 25, yX5_init), (RX6, 39, yX0_init), (RX6, 46, yX2_init), (RX6, 53, yX4_init), (RX4, 57, yX6_wholeOf), (RX2, 97, yX6_wholeOf)]
/-- what stands beside the cells: the Strings, the JDK's statics, the links among nest mates, the array class of Stands -/
def Ev (A : Nat → Prop) (U : State) (H : Heap) : Prop := (∀ q ∈ lits3, ∃ (a v n : Nat) (f : Nat → Int32), n ≤ 8 ∧ n = q.2.2.length ∧ f = (fun j => q.2.2.getD j 0) ∧ vk_R RX3 q.1 q.2.1 a U ∧ Sw a v n f A U H) ∧ Jz A U H ∧ (∀ q ∈ lits7, ∃ (a v n : Nat) (f : Nat → Int32), n ≤ 8 ∧ n = q.2.2.length ∧ f = (fun j => q.2.2.getD j 0) ∧ vk_R RX7 q.1 q.2.1 a U ∧ Sw a v n f A U H) ∧ (∀ q ∈ nests, va_Nw (.methodLinkNest q.1 q.2.1 q.2.2 "KingHears") U) ∧ va_AO RX5 U
theorem Ev.to {A B : Nat → Prop} {s U : State} {H : Heap} {locs : List Loc} (h : Ev A s s.heap) (hS : va_S A s.heap H locs) (hF : ∀ q, B q → A q) (hU : U.heap = H) (hW : s.WarmedH U.vm) : Ev B U U.heap := by
  obtain ⟨h1, h2, h3, h4, h5⟩ := h
  refine ⟨fun q hq => ?_, h2.to hS hF hU hW, fun q hq => ?_, fun q hq => va_Nw.warmM hW (h4 q hq), va_AO.moved hW.alike h5⟩
  · obtain ⟨a, v, n, f, g1, g4, g5, g2, g3⟩ := h1 q hq
    exact ⟨a, v, n, f, g1, g4, g5, vk_R.warm hW g2, g3.to hS hF hU hW⟩
  · obtain ⟨a, v, n, f, g1, g4, g5, g2, g3⟩ := h3 q hq
    exact ⟨a, v, n, f, g1, g4, g5, vk_R.warm hW g2, g3.to hS hF hU hW⟩
theorem Ev.call {A : Nat → Prop} {U V : State} (h : Ev A U U.heap) (hv : V.vm = U.vm) (hh : V.heap = U.heap) : Ev A V V.heap := by
  obtain ⟨h1, h2, h3, h4, h5⟩ := h
  have ha : U.vm.Alike V.vm := by rw [hv]; exact Vm.Alike.refl _
  refine ⟨fun q hq => ?_, h2.call ha hh, fun q hq => ?_, fun q hq => va_Nw.same rfl hv.symm (h4 q hq), va_AO.moved ha h5⟩
  · obtain ⟨a, v, n, f, g1, g4, g5, g2, g3⟩ := h1 q hq
    exact ⟨a, v, n, f, g1, g4, g5, vk_R.same hv g2, g3.call ha hh⟩
  · obtain ⟨a, v, n, f, g1, g4, g5, g2, g3⟩ := h3 q hq
    exact ⟨a, v, n, f, g1, g4, g5, vk_R.same hv g2, g3.call ha hh⟩
/-- a contract's start: the cells, the array classes, what stands beside them -/
def Pw (dC : Nat → ClassId) (dI : Nat → Nat → Nat) (sz : Nat) (ws : va_W) (tys : List (ClassId × FieldType)) (U : State) : Prop := U.heap.size = sz ∧ va_P (dC, dI) vwCl ws U.heap ∧ va_K (dC, dI) vwCl tys U ∧ va_D (fun _ => True) ws ∧ Ev (va_A ws sz) U U.heap
/-- a contract's end -/
def Bw (dC : Nat → ClassId) (dI : Nat → Nat → Nat) (A : Nat → Prop) (ws : va_W) (tys : List (ClassId × FieldType)) (t : State) : Prop := va_P (dC, dI) vwCl ws t.heap ∧ va_K (dC, dI) vwCl tys t ∧ va_D A ws
theorem Pw.fb {av : List Value} {dC : Nat → ClassId} {dI : Nat → Nat → Nat} {sz : Nat} {ws : va_W} {tys : List (ClassId × FieldType)} : FrameBlind (va_Pc av (Pw dC dI sz ws tys)) := by
  intro a U g mk q
  obtain ⟨q0, q1, qP, qK, qD, qE⟩ := q
  exact ⟨q0, q1, qP, va_K.moved (u := U) (U := U.calling g mk a) (Vm.Alike.refl U.vm) qK, qD, Ev.call (V := U.calling g mk a) qE rfl rfl⟩
theorem Pw.to {av : List Value} {dC : Nat → ClassId} {dI : Nat → Nat → Nat} {A : Nat → Prop} {ws : va_W} {tys : List (ClassId × FieldType)} {s U : State} {H : Heap} {locs : List Loc} (hP : va_P (dC, dI) vwCl ws H) (hD : va_D A ws) (hK : va_K (dC, dI) vwCl tys s) (hE : Ev A s s.heap) (hS : va_S A s.heap H locs) (hF : ∀ q, va_A ws H.size q → A q) (hU : U.heap = H) (hW : s.WarmedH U.vm) : va_Pc av (Pw dC dI H.size ws tys) av.toArray U :=
  ⟨rfl, by rw [hU], by rw [hU]; exact hP, va_K.moved hW.alike hK, hD.weaken (fun _ _ _ _ => trivial), hE.to hS hF hU hW⟩
theorem Bw.to {dC : Nat → ClassId} {dI : Nat → Nat → Nat} {A : Nat → Prop} {ws : va_W} {tys : List (ClassId × FieldType)} {s t : State} {H : Heap} (hP : va_P (dC, dI) vwCl ws H) (hD : va_D A ws) (hK : va_K (dC, dI) vwCl tys s) (ht : t.heap = H) (hW : s.WarmedH t.vm) : Bw dC dI A ws tys t :=
  ⟨by rw [ht]; exact hP, va_K.moved hW.alike hK, hD⟩
theorem Bw.back {dC : Nat → ClassId} {dI : Nat → Nat → Nat} {A0 A : Nat → Prop} {ws wc wr w1 : va_W} {tys tyr ty1 : List (ClassId × FieldType)} {s t : State} {H H1 : Heap} (h : Bw dC dI A w1 ty1 t) (hA : A = va_A wc H.size) (ht : t.heap = H1) (hvm : s.vm.Alike t.vm) (hP : va_P (dC, dI) vwCl ws H) (hD : va_D A0 ws) (hK : va_K (dC, dI) vwCl tys s) (isC isR : List Nat) (hC : isC.map (fun i => ws[i]?) = wc.map some) (hR : isR.map (fun i => ws[i]?) = wr.map some) (hn : va_nd isR = true) (hdis : ∀ i ∈ isR, i ∉ isC) (isT : List Nat) (hT : isT.filterMap (fun i => tys[i]?) = tyr)
    (hk : ∀ q : Nat, q < H.size → ¬ va_A wc H.size q → H1[q]? = H[q]?) (hF : ∀ q, va_A wc H.size q → A0 q) : va_P (dC, dI) vwCl (wr ++ w1) H1 ∧ va_D A0 (wr ++ w1) ∧ va_K (dC, dI) vwCl (tyr ++ ty1) s := by
  subst hA
  obtain ⟨hP1, hK1, hD1⟩ := h
  rw [ht] at hP1
  obtain ⟨gP, gD⟩ := va_join (wr := wr) (w1 := w1) hP hD isC isR hC hR hn hdis hk hF hP1 hD1
  exact ⟨gP, gD, (hK.sub (tys' := tyr) isT hT).app (va_K.moved hvm.symm hK1)⟩
theorem fz_lt (a b : Int32) : a < b ↔ a.toInt < b.toInt := Int32.lt_iff_toInt_lt
theorem fz_le (a b : Int32) : a ≤ b ↔ a.toInt ≤ b.toInt := Int32.le_iff_toInt_le
theorem fz_eq (a b : Int32) : a = b ↔ a.toInt = b.toInt := Int32.toInt_inj.symm
theorem Bw.nil {dC : Nat → ClassId} {dI : Nat → Nat → Nat} {A : Nat → Prop} {tys : List (ClassId × FieldType)} {s t : State} (_ : True) (hvm : s.vm.Alike t.vm) (hK : va_K (dC, dI) vwCl tys s) : Bw dC dI A [] [] t :=
  ⟨fun k q h => by simp at h, va_K.moved hvm (hK.sub (tys' := []) [] rfl), ⟨fun i j p q h => by simp at h, fun k q h => by simp at h⟩⟩
section VZ
variable {p : Program} {l : Launch} {e : Env} {R : Room} {s : State} {m : MethodId} {args : Array Value} {below : List Frame} {meth : Method} {c : Code} {H : Heap} {locs : List Loc} {cells slots : Nat} {Q : State → Prop}
variable {cc : ByteArray} {pc : Nat} {ls : Array Slot} {rest : List Value} {D : va_G} {cl : List vw_C} {A : Nat → Prop} {a : Nat} {tys : List (ClassId × FieldType)} {ws : va_W} {H0 : Heap}
theorem vz_iast (hexec : p.tables.exec = Jvm.exec) (hb : c.code = cc) (hK : va_K D cl tys s) (hP : va_P D cl ws H) (hD : va_D A ws) (hS : va_S A H0 H locs) (q0 t0 : Nat) {cA : ClassId} {n : Nat} {f : Nat → Int32} (ha : ws[q0]? = some (a, .inl (cA, n, .inl f))) (ht : tys[t0]? = some (cA, .int)) {i : Int32} {x : Int32} (hin : vp_in i n) (hdg : decode cc pc = .ok (.iastore, 1))
    (kk : ∀ (H1 : Heap) (locs1 : List Loc) (g : Nat → Int32), va_P D cl (ws.set q0 (a, .inl (cA, n, .inl g))) H1 → va_D A (ws.set q0 (a, .inl (cA, n, .inl g))) → va_S A H0 H1 locs1 → W p l e R s m args below meth c H1 locs1 cells slots Q (F0 m (pc + 1) ls rest)) : W p l e R s m args below meth c H locs cells slots Q (F0 m pc ls (.int x :: .int i :: .ref a :: rest)) :=
  va_iast hexec hb hK hP hD hS q0 t0 ha ht hin hdg (fun H1 locs1 h1 h2 h3 => kk H1 locs1 _ h1 h2 h3)
theorem vz_bast (hexec : p.tables.exec = Jvm.exec) (hb : c.code = cc) (hK : va_K D cl tys s) (hP : va_P D cl ws H) (hD : va_D A ws) (hS : va_S A H0 H locs) (q0 t0 : Nat) {cA : ClassId} {n : Nat} {f : Nat → Int32} (ha : ws[q0]? = some (a, .inl (cA, n, .inl f))) (ht : tys[t0]? = some (cA, .byte)) {i : Int32} {x : Int32} (hin : vp_in i n) (hdg : decode cc pc = .ok (.bastore, 1))
    (kk : ∀ (H1 : Heap) (locs1 : List Loc) (g : Nat → Int32), va_P D cl (ws.set q0 (a, .inl (cA, n, .inl g))) H1 → va_D A (ws.set q0 (a, .inl (cA, n, .inl g))) → va_S A H0 H1 locs1 → W p l e R s m args below meth c H1 locs1 cells slots Q (F0 m (pc + 1) ls rest)) : W p l e R s m args below meth c H locs cells slots Q (F0 m pc ls (.int x :: .int i :: .ref a :: rest)) :=
  va_bast hexec hb hK hP hD hS q0 t0 ha ht hin hdg (fun H1 locs1 h1 h2 h3 => kk H1 locs1 _ h1 h2 h3)
theorem vz_last (hexec : p.tables.exec = Jvm.exec) (hb : c.code = cc) (hK : va_K D cl tys s) (hP : va_P D cl ws H) (hD : va_D A ws) (hS : va_S A H0 H locs) (q0 t0 : Nat) {cA : ClassId} {n : Nat} {f : Nat → Int64} (ha : ws[q0]? = some (a, .inl (cA, n, .inr (.inl f)))) (ht : tys[t0]? = some (cA, .long)) {i : Int32} {x : Int64} (hin : vp_in i n) (hdg : decode cc pc = .ok (.lastore, 1))
    (kk : ∀ (H1 : Heap) (locs1 : List Loc) (g : Nat → Int64), va_P D cl (ws.set q0 (a, .inl (cA, n, .inr (.inl g)))) H1 → va_D A (ws.set q0 (a, .inl (cA, n, .inr (.inl g)))) → va_S A H0 H1 locs1 → W p l e R s m args below meth c H1 locs1 cells slots Q (F0 m (pc + 1) ls rest)) : W p l e R s m args below meth c H locs cells slots Q (F0 m pc ls (.long x :: .int i :: .ref a :: rest)) :=
  va_last hexec hb hK hP hD hS q0 t0 ha ht hin hdg (fun H1 locs1 h1 h2 h3 => kk H1 locs1 _ h1 h2 h3)
theorem vz_astq (hexec : p.tables.exec = Jvm.exec) (hb : c.code = cc) (hK : va_K D cl tys s) (hP : va_P D cl ws H) (hD : va_D A ws) (hS : va_S A H0 H locs) (q0 t0 qk ci : Nat) {cA : ClassId} {r : vw_C} {n v : Nat} {vs : List Value} {f : Nat → Option Nat} (ha : ws[q0]? = some (a, .inl (cA, n, .inr (.inr (.inr (.inr f)))))) (ht : tys[t0]? = some (cA, .object r.1)) (hv : ws[qk]? = some (v, .inr (ci, vs))) (hc : cl[ci]? = some r) {i : Int32} (hin : vp_in i n) (hdg : decode cc pc = .ok (.aastore, 1))
    (kk : ∀ (H1 : Heap) (locs1 : List Loc) (g : Nat → Option Nat), va_P D cl (ws.set q0 (a, .inl (cA, n, .inr (.inr (.inr (.inr g)))))) H1 → va_D A (ws.set q0 (a, .inl (cA, n, .inr (.inr (.inr (.inr g)))))) → va_S A H0 H1 locs1 → W p l e R s m args below meth c H1 locs1 cells slots Q (F0 m (pc + 1) ls rest)) : W p l e R s m args below meth c H locs cells slots Q (F0 m pc ls (.ref v :: .int i :: .ref a :: rest)) :=
  va_astq hexec hb hK hP hD hS q0 t0 qk ci ha ht hv hc hin hdg (fun H1 locs1 h1 h2 h3 => kk H1 locs1 _ h1 h2 h3)
theorem vz_jge (hexec : p.tables.exec = Jvm.exec) (hb : c.code = cc) {x y : Int32} (d0 : decode cc pc = .ok (.if_icmp .ge 7, 3)) (d1 : decode cc (pc + 3) = .ok (.iconst 1, 1)) (d2 : decode cc (pc + 4) = .ok (.goto 4, 3)) (d3 : decode cc (pc + 7) = .ok (.iconst 0, 1))
    (kk : ∀ b : Int32, W p l e R s m args below meth c H locs cells slots Q (F0 m (pc + 8) ls (.int b :: rest))) : W p l e R s m args below meth c H locs cells slots Q (F0 m pc ls (.int y :: .int x :: rest)) :=
  lv_icmp_ge (tgt := pc + 7) hexec hb d0 (by omega) (fun _ => lv_iconst (v := 0) hexec hb d3 (by decide) (kk 0)) (fun _ => lv_iconst (v := 1) hexec hb d1 (by decide) (lv_goto (tgt := pc + 8) hexec hb d2 (by omega) (kk 1)))
theorem vz_jeq (hexec : p.tables.exec = Jvm.exec) (hb : c.code = cc) {x : Int32} (d0 : decode cc pc = .ok (.ifCond .eq 7, 3)) (d1 : decode cc (pc + 3) = .ok (.iconst 1, 1)) (d2 : decode cc (pc + 4) = .ok (.goto 4, 3)) (d3 : decode cc (pc + 7) = .ok (.iconst 0, 1))
    (kk : ∀ b : Int32, W p l e R s m args below meth c H locs cells slots Q (F0 m (pc + 8) ls (.int b :: rest))) : W p l e R s m args below meth c H locs cells slots Q (F0 m pc ls (.int x :: rest)) :=
  lv_if_eq (tgt := pc + 7) hexec hb d0 (by omega) (fun _ => lv_iconst (v := 0) hexec hb d3 (by decide) (kk 0)) (fun _ => lv_iconst (v := 1) hexec hb d1 (by decide) (lv_goto (tgt := pc + 8) hexec hb d2 (by omega) (kk 1)))
end VZ
theorem fb_rng (x : Int32) : -2147483648 ≤ x.toInt ∧ x.toInt < 2147483648 := by
  have h1 := Int32.le_toInt x
  have h2 := Int32.toInt_lt x
  omega
theorem fb_bmod {z : Int} (h1 : -2147483648 ≤ z) (h2 : z < 2147483648) : z.bmod (2 ^ 32) = z := by
  rw [Int.bmod_eq_of_le (by omega) (by omega)]
theorem fb_addI {x y : Int32} (h1 : -2147483648 ≤ x.toInt + y.toInt) (h2 : x.toInt + y.toInt < 2147483648) : (x + y).toInt = x.toInt + y.toInt := by
  rw [Int32.toInt_add, fb_bmod h1 h2]
theorem fb_subI {x y : Int32} (h1 : -2147483648 ≤ x.toInt - y.toInt) (h2 : x.toInt - y.toInt < 2147483648) : (x - y).toInt = x.toInt - y.toInt := by
  rw [Int32.toInt_sub, fb_bmod h1 h2]
theorem fb_mulI {x y : Int32} (h1 : -2147483648 ≤ x.toInt * y.toInt) (h2 : x.toInt * y.toInt < 2147483648) : (x * y).toInt = x.toInt * y.toInt := by
  rw [Int32.toInt_mul, fb_bmod h1 h2]
theorem fb_negI {x : Int32} (h : x.toInt ≠ -2147483648) : (-x).toInt = -x.toInt := by
  have := fb_rng x
  rw [Int32.toInt_neg, fb_bmod (by omega) (by omega)]
theorem fb_ofI {z : Int} (h1 : -2147483648 ≤ z) (h2 : z < 2147483648) : (Int32.ofInt z).toInt = z := by
  rw [Int32.toInt_ofInt, fb_bmod h1 h2]
theorem fb_asI (x : Int32) : Int32.ofInt x.toInt = x := Int32.ofInt_toInt x
theorem fb_rngL (x : Int64) : -9223372036854775808 ≤ x.toInt ∧ x.toInt < 9223372036854775808 := by
  have h1 := Int64.le_toInt x
  have h2 := Int64.toInt_lt x
  omega
theorem fb_bmodL {z : Int} (h1 : -9223372036854775808 ≤ z) (h2 : z < 9223372036854775808) : z.bmod (2 ^ 64) = z := by
  rw [Int.bmod_eq_of_le (by omega) (by omega)]
theorem fb_addL {x y : Int64} (h1 : -9223372036854775808 ≤ x.toInt + y.toInt) (h2 : x.toInt + y.toInt < 9223372036854775808) : (x + y).toInt = x.toInt + y.toInt := by
  rw [Int64.toInt_add, fb_bmodL h1 h2]
theorem fb_subL {x y : Int64} (h1 : -9223372036854775808 ≤ x.toInt - y.toInt) (h2 : x.toInt - y.toInt < 9223372036854775808) : (x - y).toInt = x.toInt - y.toInt := by
  rw [Int64.toInt_sub, fb_bmodL h1 h2]
theorem fb_mulL {x y : Int64} (h1 : -9223372036854775808 ≤ x.toInt * y.toInt) (h2 : x.toInt * y.toInt < 9223372036854775808) : (x * y).toInt = x.toInt * y.toInt := by
  rw [Int64.toInt_mul, fb_bmodL h1 h2]
/-! numbers by their toInt: facts for omega -/
theorem ti_add {x y z : Int32} {a b : Int} (h : z = x + y) (hx : x.toInt = a) (hy : y.toInt = b) (h1 : -2147483648 ≤ a + b) (h2 : a + b < 2147483648) : z.toInt = a + b := by
  subst hx; subst hy; rw [h]; exact fb_addI h1 h2
theorem ti_sub {x y z : Int32} {a b : Int} (h : z = x - y) (hx : x.toInt = a) (hy : y.toInt = b) (h1 : -2147483648 ≤ a - b) (h2 : a - b < 2147483648) : z.toInt = a - b := by
  subst hx; subst hy; rw [h]; exact fb_subI h1 h2
theorem ti_mul {x y z : Int32} {a b : Int} (h : z = x * y) (hx : x.toInt = a) (hy : y.toInt = b) (h1 : -2147483648 ≤ a * b) (h2 : a * b < 2147483648) : z.toInt = a * b := by
  subst hx; subst hy; rw [h]; exact fb_mulI h1 h2
theorem ti_lt {x y : Int32} {a b : Int} (c : x < y) (hx : x.toInt = a) (hy : y.toInt = b) : a < b := by
  subst hx; subst hy; exact (fz_lt _ _).mp c
theorem ti_nlt {x y : Int32} {a b : Int} (c : ¬ x < y) (hx : x.toInt = a) (hy : y.toInt = b) : b ≤ a := by
  subst hx; subst hy; rw [fz_lt] at c; omega
theorem ti_le {x y : Int32} {a b : Int} (c : x ≤ y) (hx : x.toInt = a) (hy : y.toInt = b) : a ≤ b := by
  subst hx; subst hy; exact (fz_le _ _).mp c
theorem ti_nle {x y : Int32} {a b : Int} (c : ¬ x ≤ y) (hx : x.toInt = a) (hy : y.toInt = b) : b < a := by
  subst hx; subst hy; rw [fz_le] at c; omega
theorem ti_eq {x y : Int32} {a b : Int} (c : x = y) (hx : x.toInt = a) (hy : y.toInt = b) : a = b := by
  subst hx; subst hy; rw [c]
theorem ti_ne {x y : Int32} {a b : Int} (c : ¬ x = y) (hx : x.toInt = a) (hy : y.toInt = b) : a ≠ b := by
  subst hx; subst hy; exact fun h => c (Int32.toInt_inj.mp h)
theorem ti_in {x : Int32} {a : Int} {n : Nat} (hx : x.toInt = a) (h1 : 0 ≤ a) (h2 : a < n) : vp_in x n := vp_in_iff.mpr (by rw [hx]; exact ⟨h1, h2⟩)
theorem ti_cl {x : Int32} {a : Int} (hx : x.toInt = a) (h : 0 ≤ a) : (x.toNatClampNeg : Int) = a := by
  have hc : x.toNatClampNeg = x.toInt.toNat := rfl
  rw [hc, hx]; omega
theorem ti_n0 {x : Int32} {a : Int} (hx : x.toInt = a) (h : a ≠ 0) : ¬ x = 0 := fun e => h (by rw [← hx, e]; decide)
theorem bz_nar {v : Int32} (h : v = 0 ∨ v = 1) : narrow .boolean (.int v) = .int v := by rcases h with rfl | rfl <;> rfl
theorem va_nilA {sz q : Nat} (h : va_A [] sz q) : sz ≤ q := by
  rcases h with ⟨k, e, h⟩ | h
  · simp at h
  · exact h
theorem Pn.to {av : List Value} {dC : Nat → ClassId} {dI : Nat → Nat → Nat} {A : Nat → Prop} {tys : List (ClassId × FieldType)} {s U : State} {H : Heap} {locs : List Loc} (hK : va_K (dC, dI) vwCl tys s) (hE : Ev A s s.heap) (hS : va_S A s.heap H locs) (hA : ∀ q, s.heap.size ≤ q → A q) (hU : U.heap = H) (hW : s.WarmedH U.vm) : va_Pc av (Pw dC dI H.size [] []) av.toArray U := by
  have hF : ∀ q, va_A [] H.size q → A q := fun q h => hA q (Nat.le_trans hS.1 (va_nilA h))
  exact ⟨rfl, by rw [hU], fun k q h => by simp at h, va_K.moved hW.alike (hK.sub (tys' := []) [] rfl), ⟨fun i j p q h => by simp at h, fun k q h => by simp at h⟩, hE.to hS hF hU hW⟩
theorem lg_nz {z : Int32} {x : Int64} (e : z = lg_cmp x 0) (h : ¬ z = 0) : ¬ x = 0 := fun hx => h (by rw [e, hx]; decide)
theorem lg_ze {z : Int32} {x : Int64} (e : z = lg_cmp x 0) (h : z = 0) : x = 0 := by
  rw [e] at h
  unfold lg_cmp at h
  by_cases h1 : x > 0
  · rw [if_pos h1] at h; exact absurd h (by decide)
  · rw [if_neg h1] at h
    by_cases h2 : x = 0
    · exact h2
    · rw [if_neg h2] at h; exact absurd h (by decide)
theorem lg_rem (x y : Int64) (hy : ¬ y = 0) : (x - x / y * y).toInt.natAbs < y.toInt.natAbs := by
  have hy0 : y.toInt ≠ 0 := fun h => hy (Int64.toInt_inj.mp (by rw [h]; decide))
  have hx := fb_rngL x
  have hyr := fb_rngL y
  have key : (x - x / y * y).toInt = x.toInt.tmod y.toInt := by
    rw [Int64.toInt_sub, Int64.toInt_mul, Int64.toInt_div]
    have h1 : x.toInt.tmod y.toInt = x.toInt - y.toInt * x.toInt.tdiv y.toInt := Int.tmod_def _ _
    have h2 : (x.toInt.tmod y.toInt).natAbs < y.toInt.natAbs := by rw [Int.natAbs_tmod]; exact Nat.mod_lt _ (by omega)
    rw [← fb_bmodL (z := x.toInt.tmod y.toInt) (by omega) (by omega), h1]
    simp only [Int.sub_bmod_bmod, Int.bmod_mul_bmod, Int.mul_comm]
    rw [← Int.sub_bmod_bmod, Int.mul_bmod_bmod, Int.sub_bmod_bmod]
  rw [key, Int.natAbs_tmod]
  exact Nat.mod_lt _ (by omega)
theorem bz_fit {v : Int32} (h : v = 0 ∨ v = 1) : fits .boolean (.int v) = true := by rcases h with rfl | rfl <;> rfl
theorem upd_in {f : Nat → Int32} {n k : Nat} {x : Int32} {lo hi : Int} (h : ∀ j : Nat, j < n → lo ≤ (f j).toInt ∧ (f j).toInt ≤ hi) (hx : lo ≤ x.toInt ∧ x.toInt ≤ hi) : ∀ j : Nat, j < n → lo ≤ (upd f k x j).toInt ∧ (upd f k x j).toInt ≤ hi := by
  intro j hj
  by_cases hk : j = k
  · subst hk; rw [pk_us]; exact hx
  · rw [pk_un hk]; exact h j hj
section VI
variable {p : Program} {l : Launch} {e : Env} {R : Room} {s : State} {m : MethodId} {args : Array Value} {below : List Frame} {meth : Method} {c : Code} {H : Heap} {locs : List Loc} {cells slots : Nat} {Q : State → Prop}
variable {cc : ByteArray} {pc : Nat} {ls : Array Slot} {rest : List Value} {D : va_G} {cl : List vw_C} {A : Nat → Prop} {a : Nat} {tys : List (ClassId × FieldType)} {ws : va_W} {H0 : Heap}
theorem vi_iast {lo hi : Int} (hexec : p.tables.exec = Jvm.exec) (hb : c.code = cc) (hK : va_K D cl tys s) (hP : va_P D cl ws H) (hD : va_D A ws) (hS : va_S A H0 H locs) (q0 t0 : Nat) {cA : ClassId} {n : Nat} {f : Nat → Int32} (ha : ws[q0]? = some (a, .inl (cA, n, .inl f))) (ht : tys[t0]? = some (cA, .int)) {i : Int32} {x : Int32} (hin : vp_in i n) (hf : ∀ j : Nat, j < n → lo ≤ (f j).toInt ∧ (f j).toInt ≤ hi) (hxb : lo ≤ x.toInt ∧ x.toInt ≤ hi) (hdg : decode cc pc = .ok (.iastore, 1))
    (kk : ∀ (H1 : Heap) (locs1 : List Loc) (g : Nat → Int32), (∀ j : Nat, j < n → lo ≤ (g j).toInt ∧ (g j).toInt ≤ hi) → va_P D cl (ws.set q0 (a, .inl (cA, n, .inl g))) H1 → va_D A (ws.set q0 (a, .inl (cA, n, .inl g))) → va_S A H0 H1 locs1 → W p l e R s m args below meth c H1 locs1 cells slots Q (F0 m (pc + 1) ls rest)) : W p l e R s m args below meth c H locs cells slots Q (F0 m pc ls (.int x :: .int i :: .ref a :: rest)) :=
  va_iast hexec hb hK hP hD hS q0 t0 ha ht hin hdg (fun H1 locs1 h1 h2 h3 => kk H1 locs1 _ (upd_in hf hxb) h1 h2 h3)
end VI
end
section
/-! decoding by opcodes: one row for each, over the bytes as a list -/
theorem u1_at {c : ByteArray} {p : Nat} {b : UInt8} (h : c.data.toList[p]? = some b) : (ClassFile.Reader.u1 : ClassFile.Decoder Nat) c p = .ok (b.toNat, p + 1) := by
  obtain ⟨⟨l⟩⟩ := c
  have h : l[p]? = some b := h
  obtain ⟨hp, e⟩ := List.getElem?_eq_some_iff.mp h
  show (dite (p < l.length) (fun h => ((fun _ _ => Except.ok ((l[p]'h).toNat, p + 1)) : ClassFile.Decoder Nat)) (fun _ => (throw (ClassFile.HasTruncated.truncated p) : ClassFile.Decoder Nat))) ⟨⟨l⟩⟩ p = _
  rw [dif_pos hp, e]
theorem dk_0 {c : ByteArray} {pc : Nat} {b : UInt8} {i : ClassFile.Instr} (hM : ∃ M : Nat → ClassFile.Decoder ClassFile.Instr, ClassFile.Decoder.instr pc = (ClassFile.Reader.u1 >>= M) ∧ M b.toNat = Pure.pure i) (h0 : c.data.toList[pc]? = some b) : decode c pc = .ok (i, 1) := by
  obtain ⟨M, hM, hp⟩ := hM
  have e : ClassFile.Decoder.instr pc c pc = .ok (i, pc + 1) := by
    rw [hM]
    show Except.bind ((ClassFile.Reader.u1 : ClassFile.Decoder Nat) c pc) (fun q => M q.1 c q.2) = _
    rw [u1_at h0]
    show M b.toNat c (pc + 1) = _
    rw [hp]
    rfl
  show Except.bind (ClassFile.Decoder.instr pc c pc) (fun q => Except.ok (q.1, q.2 - pc)) = _
  rw [e]
  show Except.ok (i, pc + 1 - pc) = _
  rw [Nat.add_sub_cancel_left]
theorem dk_n {c : ByteArray} {pc n : Nat} {b : UInt8} {i : ClassFile.Instr} {X : ClassFile.Decoder ClassFile.Instr} (hM : ∃ M : Nat → ClassFile.Decoder ClassFile.Instr, ClassFile.Decoder.instr pc = (ClassFile.Reader.u1 >>= M) ∧ M b.toNat = X) (h0 : c.data.toList[pc]? = some b) (hX : X c (pc + 1) = .ok (i, pc + n)) : decode c pc = .ok (i, n) := by
  obtain ⟨M, hM, hp⟩ := hM
  have e : ClassFile.Decoder.instr pc c pc = .ok (i, pc + n) := by
    rw [hM]
    show Except.bind ((ClassFile.Reader.u1 : ClassFile.Decoder Nat) c pc) (fun q => M q.1 c q.2) = _
    rw [u1_at h0]
    show M b.toNat c (pc + 1) = _
    rw [hp]
    exact hX
  show Except.bind (ClassFile.Decoder.instr pc c pc) (fun q => Except.ok (q.1, q.2 - pc)) = _
  rw [e]
  show Except.ok (i, pc + n - pc) = _
  rw [Nat.add_sub_cancel_left]
theorem dk_u1 {c : ByteArray} {pc n : Nat} {b x : UInt8} {f : Nat → ClassFile.Instr} (hM : ∃ M : Nat → ClassFile.Decoder ClassFile.Instr, ClassFile.Decoder.instr pc = (ClassFile.Reader.u1 >>= M) ∧ M b.toNat = (do Pure.pure (f (← ClassFile.Reader.u1)))) (h0 : c.data.toList[pc]? = some b) (h1 : c.data.toList[pc + 1]? = some x) (e : x.toNat = n) : decode c pc = .ok (f n, 2) := by
  refine dk_n hM h0 ?_
  show Except.bind ((ClassFile.Reader.u1 : ClassFile.Decoder Nat) c (pc + 1)) (fun q => Except.ok (f q.1, q.2)) = _
  rw [u1_at h1, ← e]
  rfl
theorem dk_s1 {c : ByteArray} {pc : Nat} {n : Int} {b x : UInt8} {f : Int → ClassFile.Instr} (hM : ∃ M : Nat → ClassFile.Decoder ClassFile.Instr, ClassFile.Decoder.instr pc = (ClassFile.Reader.u1 >>= M) ∧ M b.toNat = (do Pure.pure (f (← ClassFile.Reader.s1)))) (h0 : c.data.toList[pc]? = some b) (h1 : c.data.toList[pc + 1]? = some x) (e : ClassFile.Reader.signed 8 x.toNat = n) : decode c pc = .ok (f n, 2) := by
  refine dk_n hM h0 ?_
  show Except.bind (Except.bind ((ClassFile.Reader.u1 : ClassFile.Decoder Nat) c (pc + 1)) (fun q => Except.ok (ClassFile.Reader.signed 8 q.1, q.2))) (fun q => Except.ok (f q.1, q.2)) = _
  rw [u1_at h1, ← e]
  rfl
theorem u2_at {c : ByteArray} {p : Nat} {x y : UInt8} (h0 : c.data.toList[p]? = some x) (h1 : c.data.toList[p + 1]? = some y) : (ClassFile.Reader.u2 : ClassFile.Decoder Nat) c p = .ok (x.toNat * 256 + y.toNat, p + 2) := by
  show Except.bind ((ClassFile.Reader.u1 : ClassFile.Decoder Nat) c p) (fun q => Except.bind ((ClassFile.Reader.u1 : ClassFile.Decoder Nat) c q.2) (fun r => Except.ok (q.1 * 256 + r.1, r.2))) = _
  rw [u1_at h0]
  show Except.bind ((ClassFile.Reader.u1 : ClassFile.Decoder Nat) c (p + 1)) (fun r => Except.ok (x.toNat * 256 + r.1, r.2)) = _
  rw [u1_at h1]
  rfl
theorem dk_u2 {c : ByteArray} {pc n : Nat} {b x y : UInt8} {f : Nat → ClassFile.Instr} (hM : ∃ M : Nat → ClassFile.Decoder ClassFile.Instr, ClassFile.Decoder.instr pc = (ClassFile.Reader.u1 >>= M) ∧ M b.toNat = (do Pure.pure (f (← ClassFile.Reader.u2)))) (h0 : c.data.toList[pc]? = some b) (h1 : c.data.toList[pc + 1]? = some x) (h2 : c.data.toList[pc + 2]? = some y) (e : x.toNat * 256 + y.toNat = n) : decode c pc = .ok (f n, 3) := by
  refine dk_n hM h0 ?_
  show Except.bind ((ClassFile.Reader.u2 : ClassFile.Decoder Nat) c (pc + 1)) (fun q => Except.ok (f q.1, q.2)) = _
  rw [u2_at h1 h2, ← e]
  rfl
theorem dk_s2 {c : ByteArray} {pc : Nat} {n : Int} {b x y : UInt8} {f : Int → ClassFile.Instr} (hM : ∃ M : Nat → ClassFile.Decoder ClassFile.Instr, ClassFile.Decoder.instr pc = (ClassFile.Reader.u1 >>= M) ∧ M b.toNat = (do Pure.pure (f (← ClassFile.Reader.s2)))) (h0 : c.data.toList[pc]? = some b) (h1 : c.data.toList[pc + 1]? = some x) (h2 : c.data.toList[pc + 2]? = some y) (e : ClassFile.Reader.signed 16 (x.toNat * 256 + y.toNat) = n) : decode c pc = .ok (f n, 3) := by
  refine dk_n hM h0 ?_
  show Except.bind (Except.bind ((ClassFile.Reader.u2 : ClassFile.Decoder Nat) c (pc + 1)) (fun q => Except.ok (ClassFile.Reader.signed 16 q.1, q.2))) (fun q => Except.ok (f q.1, q.2)) = _
  rw [u2_at h1 h2, ← e]
  rfl
theorem dk_us {c : ByteArray} {pc n : Nat} {m : Int} {b x y : UInt8} {f : Nat → Int → ClassFile.Instr} (hM : ∃ M : Nat → ClassFile.Decoder ClassFile.Instr, ClassFile.Decoder.instr pc = (ClassFile.Reader.u1 >>= M) ∧ M b.toNat = (do Pure.pure (f (← ClassFile.Reader.u1) (← ClassFile.Reader.s1)))) (h0 : c.data.toList[pc]? = some b) (h1 : c.data.toList[pc + 1]? = some x) (h2 : c.data.toList[pc + 2]? = some y) (e : x.toNat = n) (e2 : ClassFile.Reader.signed 8 y.toNat = m) : decode c pc = .ok (f n m, 3) := by
  refine dk_n hM h0 ?_
  show Except.bind ((ClassFile.Reader.u1 : ClassFile.Decoder Nat) c (pc + 1)) (fun q => Except.bind (Except.bind ((ClassFile.Reader.u1 : ClassFile.Decoder Nat) c q.2) (fun r => Except.ok (ClassFile.Reader.signed 8 r.1, r.2))) (fun r => Except.ok (f q.1 r.1, r.2))) = _
  rw [u1_at h1]
  show Except.bind (Except.bind ((ClassFile.Reader.u1 : ClassFile.Decoder Nat) c (pc + 1 + 1)) (fun r => Except.ok (ClassFile.Reader.signed 8 r.1, r.2))) (fun r => Except.ok (f x.toNat r.1, r.2)) = _
  rw [u1_at h2, ← e, ← e2]
  rfl
/-- the bytes from a place on -/
theorem dt0 {l r : List UInt8} {k : Nat} {b : UInt8} (h : l.drop k = b :: r) : l[k]? = some b := by
  have e : (l.drop k)[0]? = some b := by rw [h]; rfl
  rw [List.getElem?_drop] at e
  exact e
theorem dt1 {l r : List UInt8} {k : Nat} {b x : UInt8} (h : l.drop k = b :: x :: r) : l[k + 1]? = some x := by
  have e : (l.drop k)[1]? = some x := by rw [h]; rfl
  rw [List.getElem?_drop] at e
  exact e
theorem dt2 {l r : List UInt8} {k : Nat} {b x y : UInt8} (h : l.drop k = b :: x :: y :: r) : l[k + 2]? = some y := by
  have e : (l.drop k)[2]? = some y := by rw [h]; rfl
  rw [List.getElem?_drop] at e
  exact e
theorem dn1 {l r : List UInt8} {k : Nat} {b : UInt8} (h : l.drop k = b :: r) : l.drop (k + 1) = r := by
  rw [← List.drop_drop, h]; rfl
theorem dn2 {l r : List UInt8} {k : Nat} {b x : UInt8} (h : l.drop k = b :: x :: r) : l.drop (k + 2) = r := by
  rw [← List.drop_drop, h]; rfl
theorem dn3 {l r : List UInt8} {k : Nat} {b x y : UInt8} (h : l.drop k = b :: x :: y :: r) : l.drop (k + 3) = r := by
  rw [← List.drop_drop, h]; rfl
theorem dnl {l a r : List UInt8} {k n : Nat} (h : l.drop k = a ++ r) (ha : a.length = n) : l.drop (k + n) = r := by
  rw [← List.drop_drop, h, ← ha]; exact List.drop_left
theorem dk2 {c : ByteArray} {pc : Nat} {r : List UInt8} (h : c.data.toList.drop pc = 2 :: r) : decode c pc = .ok (.iconst (-1), 1) := dk_0 ⟨_, rfl, rfl⟩ (dt0 h)
theorem dk3 {c : ByteArray} {pc : Nat} {r : List UInt8} (h : c.data.toList.drop pc = 3 :: r) : decode c pc = .ok (.iconst 0, 1) := dk_0 ⟨_, rfl, rfl⟩ (dt0 h)
theorem dk4 {c : ByteArray} {pc : Nat} {r : List UInt8} (h : c.data.toList.drop pc = 4 :: r) : decode c pc = .ok (.iconst 1, 1) := dk_0 ⟨_, rfl, rfl⟩ (dt0 h)
theorem dk5 {c : ByteArray} {pc : Nat} {r : List UInt8} (h : c.data.toList.drop pc = 5 :: r) : decode c pc = .ok (.iconst 2, 1) := dk_0 ⟨_, rfl, rfl⟩ (dt0 h)
theorem dk6 {c : ByteArray} {pc : Nat} {r : List UInt8} (h : c.data.toList.drop pc = 6 :: r) : decode c pc = .ok (.iconst 3, 1) := dk_0 ⟨_, rfl, rfl⟩ (dt0 h)
theorem dk7 {c : ByteArray} {pc : Nat} {r : List UInt8} (h : c.data.toList.drop pc = 7 :: r) : decode c pc = .ok (.iconst 4, 1) := dk_0 ⟨_, rfl, rfl⟩ (dt0 h)
theorem dk8 {c : ByteArray} {pc : Nat} {r : List UInt8} (h : c.data.toList.drop pc = 8 :: r) : decode c pc = .ok (.iconst 5, 1) := dk_0 ⟨_, rfl, rfl⟩ (dt0 h)
theorem dk9 {c : ByteArray} {pc : Nat} {r : List UInt8} (h : c.data.toList.drop pc = 9 :: r) : decode c pc = .ok (.lconst 0, 1) := dk_0 ⟨_, rfl, rfl⟩ (dt0 h)
theorem dk10 {c : ByteArray} {pc : Nat} {r : List UInt8} (h : c.data.toList.drop pc = 10 :: r) : decode c pc = .ok (.lconst 1, 1) := dk_0 ⟨_, rfl, rfl⟩ (dt0 h)
theorem dk26 {c : ByteArray} {pc : Nat} {r : List UInt8} (h : c.data.toList.drop pc = 26 :: r) : decode c pc = .ok (.iload_n 0, 1) := dk_0 ⟨_, rfl, rfl⟩ (dt0 h)
theorem dk27 {c : ByteArray} {pc : Nat} {r : List UInt8} (h : c.data.toList.drop pc = 27 :: r) : decode c pc = .ok (.iload_n 1, 1) := dk_0 ⟨_, rfl, rfl⟩ (dt0 h)
theorem dk28 {c : ByteArray} {pc : Nat} {r : List UInt8} (h : c.data.toList.drop pc = 28 :: r) : decode c pc = .ok (.iload_n 2, 1) := dk_0 ⟨_, rfl, rfl⟩ (dt0 h)
theorem dk29 {c : ByteArray} {pc : Nat} {r : List UInt8} (h : c.data.toList.drop pc = 29 :: r) : decode c pc = .ok (.iload_n 3, 1) := dk_0 ⟨_, rfl, rfl⟩ (dt0 h)
theorem dk30 {c : ByteArray} {pc : Nat} {r : List UInt8} (h : c.data.toList.drop pc = 30 :: r) : decode c pc = .ok (.lload_n 0, 1) := dk_0 ⟨_, rfl, rfl⟩ (dt0 h)
theorem dk31 {c : ByteArray} {pc : Nat} {r : List UInt8} (h : c.data.toList.drop pc = 31 :: r) : decode c pc = .ok (.lload_n 1, 1) := dk_0 ⟨_, rfl, rfl⟩ (dt0 h)
theorem dk32 {c : ByteArray} {pc : Nat} {r : List UInt8} (h : c.data.toList.drop pc = 32 :: r) : decode c pc = .ok (.lload_n 2, 1) := dk_0 ⟨_, rfl, rfl⟩ (dt0 h)
theorem dk33 {c : ByteArray} {pc : Nat} {r : List UInt8} (h : c.data.toList.drop pc = 33 :: r) : decode c pc = .ok (.lload_n 3, 1) := dk_0 ⟨_, rfl, rfl⟩ (dt0 h)
theorem dk42 {c : ByteArray} {pc : Nat} {r : List UInt8} (h : c.data.toList.drop pc = 42 :: r) : decode c pc = .ok (.aload_n 0, 1) := dk_0 ⟨_, rfl, rfl⟩ (dt0 h)
theorem dk43 {c : ByteArray} {pc : Nat} {r : List UInt8} (h : c.data.toList.drop pc = 43 :: r) : decode c pc = .ok (.aload_n 1, 1) := dk_0 ⟨_, rfl, rfl⟩ (dt0 h)
theorem dk44 {c : ByteArray} {pc : Nat} {r : List UInt8} (h : c.data.toList.drop pc = 44 :: r) : decode c pc = .ok (.aload_n 2, 1) := dk_0 ⟨_, rfl, rfl⟩ (dt0 h)
theorem dk45 {c : ByteArray} {pc : Nat} {r : List UInt8} (h : c.data.toList.drop pc = 45 :: r) : decode c pc = .ok (.aload_n 3, 1) := dk_0 ⟨_, rfl, rfl⟩ (dt0 h)
theorem dk59 {c : ByteArray} {pc : Nat} {r : List UInt8} (h : c.data.toList.drop pc = 59 :: r) : decode c pc = .ok (.istore_n 0, 1) := dk_0 ⟨_, rfl, rfl⟩ (dt0 h)
theorem dk60 {c : ByteArray} {pc : Nat} {r : List UInt8} (h : c.data.toList.drop pc = 60 :: r) : decode c pc = .ok (.istore_n 1, 1) := dk_0 ⟨_, rfl, rfl⟩ (dt0 h)
theorem dk61 {c : ByteArray} {pc : Nat} {r : List UInt8} (h : c.data.toList.drop pc = 61 :: r) : decode c pc = .ok (.istore_n 2, 1) := dk_0 ⟨_, rfl, rfl⟩ (dt0 h)
theorem dk62 {c : ByteArray} {pc : Nat} {r : List UInt8} (h : c.data.toList.drop pc = 62 :: r) : decode c pc = .ok (.istore_n 3, 1) := dk_0 ⟨_, rfl, rfl⟩ (dt0 h)
theorem dk63 {c : ByteArray} {pc : Nat} {r : List UInt8} (h : c.data.toList.drop pc = 63 :: r) : decode c pc = .ok (.lstore_n 0, 1) := dk_0 ⟨_, rfl, rfl⟩ (dt0 h)
theorem dk64 {c : ByteArray} {pc : Nat} {r : List UInt8} (h : c.data.toList.drop pc = 64 :: r) : decode c pc = .ok (.lstore_n 1, 1) := dk_0 ⟨_, rfl, rfl⟩ (dt0 h)
theorem dk65 {c : ByteArray} {pc : Nat} {r : List UInt8} (h : c.data.toList.drop pc = 65 :: r) : decode c pc = .ok (.lstore_n 2, 1) := dk_0 ⟨_, rfl, rfl⟩ (dt0 h)
theorem dk66 {c : ByteArray} {pc : Nat} {r : List UInt8} (h : c.data.toList.drop pc = 66 :: r) : decode c pc = .ok (.lstore_n 3, 1) := dk_0 ⟨_, rfl, rfl⟩ (dt0 h)
theorem dk75 {c : ByteArray} {pc : Nat} {r : List UInt8} (h : c.data.toList.drop pc = 75 :: r) : decode c pc = .ok (.astore_n 0, 1) := dk_0 ⟨_, rfl, rfl⟩ (dt0 h)
theorem dk76 {c : ByteArray} {pc : Nat} {r : List UInt8} (h : c.data.toList.drop pc = 76 :: r) : decode c pc = .ok (.astore_n 1, 1) := dk_0 ⟨_, rfl, rfl⟩ (dt0 h)
theorem dk77 {c : ByteArray} {pc : Nat} {r : List UInt8} (h : c.data.toList.drop pc = 77 :: r) : decode c pc = .ok (.astore_n 2, 1) := dk_0 ⟨_, rfl, rfl⟩ (dt0 h)
theorem dk78 {c : ByteArray} {pc : Nat} {r : List UInt8} (h : c.data.toList.drop pc = 78 :: r) : decode c pc = .ok (.astore_n 3, 1) := dk_0 ⟨_, rfl, rfl⟩ (dt0 h)
theorem dk46 {c : ByteArray} {pc : Nat} {r : List UInt8} (h : c.data.toList.drop pc = 46 :: r) : decode c pc = .ok (.iaload, 1) := dk_0 ⟨_, rfl, rfl⟩ (dt0 h)
theorem dk47 {c : ByteArray} {pc : Nat} {r : List UInt8} (h : c.data.toList.drop pc = 47 :: r) : decode c pc = .ok (.laload, 1) := dk_0 ⟨_, rfl, rfl⟩ (dt0 h)
theorem dk50 {c : ByteArray} {pc : Nat} {r : List UInt8} (h : c.data.toList.drop pc = 50 :: r) : decode c pc = .ok (.aaload, 1) := dk_0 ⟨_, rfl, rfl⟩ (dt0 h)
theorem dk51 {c : ByteArray} {pc : Nat} {r : List UInt8} (h : c.data.toList.drop pc = 51 :: r) : decode c pc = .ok (.baload, 1) := dk_0 ⟨_, rfl, rfl⟩ (dt0 h)
theorem dk79 {c : ByteArray} {pc : Nat} {r : List UInt8} (h : c.data.toList.drop pc = 79 :: r) : decode c pc = .ok (.iastore, 1) := dk_0 ⟨_, rfl, rfl⟩ (dt0 h)
theorem dk80 {c : ByteArray} {pc : Nat} {r : List UInt8} (h : c.data.toList.drop pc = 80 :: r) : decode c pc = .ok (.lastore, 1) := dk_0 ⟨_, rfl, rfl⟩ (dt0 h)
theorem dk83 {c : ByteArray} {pc : Nat} {r : List UInt8} (h : c.data.toList.drop pc = 83 :: r) : decode c pc = .ok (.aastore, 1) := dk_0 ⟨_, rfl, rfl⟩ (dt0 h)
theorem dk84 {c : ByteArray} {pc : Nat} {r : List UInt8} (h : c.data.toList.drop pc = 84 :: r) : decode c pc = .ok (.bastore, 1) := dk_0 ⟨_, rfl, rfl⟩ (dt0 h)
theorem dk87 {c : ByteArray} {pc : Nat} {r : List UInt8} (h : c.data.toList.drop pc = 87 :: r) : decode c pc = .ok (.pop, 1) := dk_0 ⟨_, rfl, rfl⟩ (dt0 h)
theorem dk88 {c : ByteArray} {pc : Nat} {r : List UInt8} (h : c.data.toList.drop pc = 88 :: r) : decode c pc = .ok (.pop2, 1) := dk_0 ⟨_, rfl, rfl⟩ (dt0 h)
theorem dk89 {c : ByteArray} {pc : Nat} {r : List UInt8} (h : c.data.toList.drop pc = 89 :: r) : decode c pc = .ok (.dup, 1) := dk_0 ⟨_, rfl, rfl⟩ (dt0 h)
theorem dk90 {c : ByteArray} {pc : Nat} {r : List UInt8} (h : c.data.toList.drop pc = 90 :: r) : decode c pc = .ok (.dup_x1, 1) := dk_0 ⟨_, rfl, rfl⟩ (dt0 h)
theorem dk92 {c : ByteArray} {pc : Nat} {r : List UInt8} (h : c.data.toList.drop pc = 92 :: r) : decode c pc = .ok (.dup2, 1) := dk_0 ⟨_, rfl, rfl⟩ (dt0 h)
theorem dk96 {c : ByteArray} {pc : Nat} {r : List UInt8} (h : c.data.toList.drop pc = 96 :: r) : decode c pc = .ok (.iadd, 1) := dk_0 ⟨_, rfl, rfl⟩ (dt0 h)
theorem dk97 {c : ByteArray} {pc : Nat} {r : List UInt8} (h : c.data.toList.drop pc = 97 :: r) : decode c pc = .ok (.ladd, 1) := dk_0 ⟨_, rfl, rfl⟩ (dt0 h)
theorem dk100 {c : ByteArray} {pc : Nat} {r : List UInt8} (h : c.data.toList.drop pc = 100 :: r) : decode c pc = .ok (.isub, 1) := dk_0 ⟨_, rfl, rfl⟩ (dt0 h)
theorem dk101 {c : ByteArray} {pc : Nat} {r : List UInt8} (h : c.data.toList.drop pc = 101 :: r) : decode c pc = .ok (.lsub, 1) := dk_0 ⟨_, rfl, rfl⟩ (dt0 h)
theorem dk104 {c : ByteArray} {pc : Nat} {r : List UInt8} (h : c.data.toList.drop pc = 104 :: r) : decode c pc = .ok (.imul, 1) := dk_0 ⟨_, rfl, rfl⟩ (dt0 h)
theorem dk105 {c : ByteArray} {pc : Nat} {r : List UInt8} (h : c.data.toList.drop pc = 105 :: r) : decode c pc = .ok (.lmul, 1) := dk_0 ⟨_, rfl, rfl⟩ (dt0 h)
theorem dk108 {c : ByteArray} {pc : Nat} {r : List UInt8} (h : c.data.toList.drop pc = 108 :: r) : decode c pc = .ok (.idiv, 1) := dk_0 ⟨_, rfl, rfl⟩ (dt0 h)
theorem dk109 {c : ByteArray} {pc : Nat} {r : List UInt8} (h : c.data.toList.drop pc = 109 :: r) : decode c pc = .ok (.ldiv, 1) := dk_0 ⟨_, rfl, rfl⟩ (dt0 h)
theorem dk112 {c : ByteArray} {pc : Nat} {r : List UInt8} (h : c.data.toList.drop pc = 112 :: r) : decode c pc = .ok (.irem, 1) := dk_0 ⟨_, rfl, rfl⟩ (dt0 h)
theorem dk113 {c : ByteArray} {pc : Nat} {r : List UInt8} (h : c.data.toList.drop pc = 113 :: r) : decode c pc = .ok (.lrem, 1) := dk_0 ⟨_, rfl, rfl⟩ (dt0 h)
theorem dk116 {c : ByteArray} {pc : Nat} {r : List UInt8} (h : c.data.toList.drop pc = 116 :: r) : decode c pc = .ok (.ineg, 1) := dk_0 ⟨_, rfl, rfl⟩ (dt0 h)
theorem dk120 {c : ByteArray} {pc : Nat} {r : List UInt8} (h : c.data.toList.drop pc = 120 :: r) : decode c pc = .ok (.ishl, 1) := dk_0 ⟨_, rfl, rfl⟩ (dt0 h)
theorem dk122 {c : ByteArray} {pc : Nat} {r : List UInt8} (h : c.data.toList.drop pc = 122 :: r) : decode c pc = .ok (.ishr, 1) := dk_0 ⟨_, rfl, rfl⟩ (dt0 h)
theorem dk124 {c : ByteArray} {pc : Nat} {r : List UInt8} (h : c.data.toList.drop pc = 124 :: r) : decode c pc = .ok (.iushr, 1) := dk_0 ⟨_, rfl, rfl⟩ (dt0 h)
theorem dk126 {c : ByteArray} {pc : Nat} {r : List UInt8} (h : c.data.toList.drop pc = 126 :: r) : decode c pc = .ok (.iand, 1) := dk_0 ⟨_, rfl, rfl⟩ (dt0 h)
theorem dk128 {c : ByteArray} {pc : Nat} {r : List UInt8} (h : c.data.toList.drop pc = 128 :: r) : decode c pc = .ok (.ior, 1) := dk_0 ⟨_, rfl, rfl⟩ (dt0 h)
theorem dk130 {c : ByteArray} {pc : Nat} {r : List UInt8} (h : c.data.toList.drop pc = 130 :: r) : decode c pc = .ok (.ixor, 1) := dk_0 ⟨_, rfl, rfl⟩ (dt0 h)
theorem dk133 {c : ByteArray} {pc : Nat} {r : List UInt8} (h : c.data.toList.drop pc = 133 :: r) : decode c pc = .ok (.i2l, 1) := dk_0 ⟨_, rfl, rfl⟩ (dt0 h)
theorem dk145 {c : ByteArray} {pc : Nat} {r : List UInt8} (h : c.data.toList.drop pc = 145 :: r) : decode c pc = .ok (.i2b, 1) := dk_0 ⟨_, rfl, rfl⟩ (dt0 h)
theorem dk146 {c : ByteArray} {pc : Nat} {r : List UInt8} (h : c.data.toList.drop pc = 146 :: r) : decode c pc = .ok (.i2c, 1) := dk_0 ⟨_, rfl, rfl⟩ (dt0 h)
theorem dk148 {c : ByteArray} {pc : Nat} {r : List UInt8} (h : c.data.toList.drop pc = 148 :: r) : decode c pc = .ok (.lcmp, 1) := dk_0 ⟨_, rfl, rfl⟩ (dt0 h)
theorem dk172 {c : ByteArray} {pc : Nat} {r : List UInt8} (h : c.data.toList.drop pc = 172 :: r) : decode c pc = .ok (.ireturn, 1) := dk_0 ⟨_, rfl, rfl⟩ (dt0 h)
theorem dk173 {c : ByteArray} {pc : Nat} {r : List UInt8} (h : c.data.toList.drop pc = 173 :: r) : decode c pc = .ok (.lreturn, 1) := dk_0 ⟨_, rfl, rfl⟩ (dt0 h)
theorem dk176 {c : ByteArray} {pc : Nat} {r : List UInt8} (h : c.data.toList.drop pc = 176 :: r) : decode c pc = .ok (.areturn, 1) := dk_0 ⟨_, rfl, rfl⟩ (dt0 h)
theorem dk177 {c : ByteArray} {pc : Nat} {r : List UInt8} (h : c.data.toList.drop pc = 177 :: r) : decode c pc = .ok (.return_, 1) := dk_0 ⟨_, rfl, rfl⟩ (dt0 h)
theorem dk190 {c : ByteArray} {pc : Nat} {r : List UInt8} (h : c.data.toList.drop pc = 190 :: r) : decode c pc = .ok (.arraylength, 1) := dk_0 ⟨_, rfl, rfl⟩ (dt0 h)
theorem dk191 {c : ByteArray} {pc : Nat} {r : List UInt8} (h : c.data.toList.drop pc = 191 :: r) : decode c pc = .ok (.athrow, 1) := dk_0 ⟨_, rfl, rfl⟩ (dt0 h)
theorem dk18 {c : ByteArray} {pc : Nat} {r : List UInt8} {n : Nat} {x : UInt8} (h : c.data.toList.drop pc = 18 :: x :: r) (e : x.toNat = n) : decode c pc = .ok (.ldc n, 2) := dk_u1 (f := fun n => .ldc n) ⟨_, rfl, rfl⟩ (dt0 h) (dt1 h) e
theorem dk21 {c : ByteArray} {pc : Nat} {r : List UInt8} {n : Nat} {x : UInt8} (h : c.data.toList.drop pc = 21 :: x :: r) (e : x.toNat = n) : decode c pc = .ok (.iload n, 2) := dk_u1 (f := fun n => .iload n) ⟨_, rfl, rfl⟩ (dt0 h) (dt1 h) e
theorem dk22 {c : ByteArray} {pc : Nat} {r : List UInt8} {n : Nat} {x : UInt8} (h : c.data.toList.drop pc = 22 :: x :: r) (e : x.toNat = n) : decode c pc = .ok (.lload n, 2) := dk_u1 (f := fun n => .lload n) ⟨_, rfl, rfl⟩ (dt0 h) (dt1 h) e
theorem dk25 {c : ByteArray} {pc : Nat} {r : List UInt8} {n : Nat} {x : UInt8} (h : c.data.toList.drop pc = 25 :: x :: r) (e : x.toNat = n) : decode c pc = .ok (.aload n, 2) := dk_u1 (f := fun n => .aload n) ⟨_, rfl, rfl⟩ (dt0 h) (dt1 h) e
theorem dk54 {c : ByteArray} {pc : Nat} {r : List UInt8} {n : Nat} {x : UInt8} (h : c.data.toList.drop pc = 54 :: x :: r) (e : x.toNat = n) : decode c pc = .ok (.istore n, 2) := dk_u1 (f := fun n => .istore n) ⟨_, rfl, rfl⟩ (dt0 h) (dt1 h) e
theorem dk55 {c : ByteArray} {pc : Nat} {r : List UInt8} {n : Nat} {x : UInt8} (h : c.data.toList.drop pc = 55 :: x :: r) (e : x.toNat = n) : decode c pc = .ok (.lstore n, 2) := dk_u1 (f := fun n => .lstore n) ⟨_, rfl, rfl⟩ (dt0 h) (dt1 h) e
theorem dk58 {c : ByteArray} {pc : Nat} {r : List UInt8} {n : Nat} {x : UInt8} (h : c.data.toList.drop pc = 58 :: x :: r) (e : x.toNat = n) : decode c pc = .ok (.astore n, 2) := dk_u1 (f := fun n => .astore n) ⟨_, rfl, rfl⟩ (dt0 h) (dt1 h) e
theorem dk16 {c : ByteArray} {pc : Nat} {r : List UInt8} {n : Int} {x : UInt8} (h : c.data.toList.drop pc = 16 :: x :: r) (e : ClassFile.Reader.signed 8 x.toNat = n) : decode c pc = .ok (.bipush n, 2) := dk_s1 (f := fun n => .bipush n) ⟨_, rfl, rfl⟩ (dt0 h) (dt1 h) e
theorem dk19 {c : ByteArray} {pc : Nat} {r : List UInt8} {n : Nat} {x y : UInt8} (h : c.data.toList.drop pc = 19 :: x :: y :: r) (e : x.toNat * 256 + y.toNat = n) : decode c pc = .ok (.ldc_w n, 3) := dk_u2 (f := fun n => .ldc_w n) ⟨_, rfl, rfl⟩ (dt0 h) (dt1 h) (dt2 h) e
theorem dk20 {c : ByteArray} {pc : Nat} {r : List UInt8} {n : Nat} {x y : UInt8} (h : c.data.toList.drop pc = 20 :: x :: y :: r) (e : x.toNat * 256 + y.toNat = n) : decode c pc = .ok (.ldc2_w n, 3) := dk_u2 (f := fun n => .ldc2_w n) ⟨_, rfl, rfl⟩ (dt0 h) (dt1 h) (dt2 h) e
theorem dk178 {c : ByteArray} {pc : Nat} {r : List UInt8} {n : Nat} {x y : UInt8} (h : c.data.toList.drop pc = 178 :: x :: y :: r) (e : x.toNat * 256 + y.toNat = n) : decode c pc = .ok (.getstatic n, 3) := dk_u2 (f := fun n => .getstatic n) ⟨_, rfl, rfl⟩ (dt0 h) (dt1 h) (dt2 h) e
theorem dk179 {c : ByteArray} {pc : Nat} {r : List UInt8} {n : Nat} {x y : UInt8} (h : c.data.toList.drop pc = 179 :: x :: y :: r) (e : x.toNat * 256 + y.toNat = n) : decode c pc = .ok (.putstatic n, 3) := dk_u2 (f := fun n => .putstatic n) ⟨_, rfl, rfl⟩ (dt0 h) (dt1 h) (dt2 h) e
theorem dk180 {c : ByteArray} {pc : Nat} {r : List UInt8} {n : Nat} {x y : UInt8} (h : c.data.toList.drop pc = 180 :: x :: y :: r) (e : x.toNat * 256 + y.toNat = n) : decode c pc = .ok (.getfield n, 3) := dk_u2 (f := fun n => .getfield n) ⟨_, rfl, rfl⟩ (dt0 h) (dt1 h) (dt2 h) e
theorem dk181 {c : ByteArray} {pc : Nat} {r : List UInt8} {n : Nat} {x y : UInt8} (h : c.data.toList.drop pc = 181 :: x :: y :: r) (e : x.toNat * 256 + y.toNat = n) : decode c pc = .ok (.putfield n, 3) := dk_u2 (f := fun n => .putfield n) ⟨_, rfl, rfl⟩ (dt0 h) (dt1 h) (dt2 h) e
theorem dk182 {c : ByteArray} {pc : Nat} {r : List UInt8} {n : Nat} {x y : UInt8} (h : c.data.toList.drop pc = 182 :: x :: y :: r) (e : x.toNat * 256 + y.toNat = n) : decode c pc = .ok (.invokevirtual n, 3) := dk_u2 (f := fun n => .invokevirtual n) ⟨_, rfl, rfl⟩ (dt0 h) (dt1 h) (dt2 h) e
theorem dk183 {c : ByteArray} {pc : Nat} {r : List UInt8} {n : Nat} {x y : UInt8} (h : c.data.toList.drop pc = 183 :: x :: y :: r) (e : x.toNat * 256 + y.toNat = n) : decode c pc = .ok (.invokespecial n, 3) := dk_u2 (f := fun n => .invokespecial n) ⟨_, rfl, rfl⟩ (dt0 h) (dt1 h) (dt2 h) e
theorem dk184 {c : ByteArray} {pc : Nat} {r : List UInt8} {n : Nat} {x y : UInt8} (h : c.data.toList.drop pc = 184 :: x :: y :: r) (e : x.toNat * 256 + y.toNat = n) : decode c pc = .ok (.invokestatic n, 3) := dk_u2 (f := fun n => .invokestatic n) ⟨_, rfl, rfl⟩ (dt0 h) (dt1 h) (dt2 h) e
theorem dk187 {c : ByteArray} {pc : Nat} {r : List UInt8} {n : Nat} {x y : UInt8} (h : c.data.toList.drop pc = 187 :: x :: y :: r) (e : x.toNat * 256 + y.toNat = n) : decode c pc = .ok (.new n, 3) := dk_u2 (f := fun n => .new n) ⟨_, rfl, rfl⟩ (dt0 h) (dt1 h) (dt2 h) e
theorem dk189 {c : ByteArray} {pc : Nat} {r : List UInt8} {n : Nat} {x y : UInt8} (h : c.data.toList.drop pc = 189 :: x :: y :: r) (e : x.toNat * 256 + y.toNat = n) : decode c pc = .ok (.anewarray n, 3) := dk_u2 (f := fun n => .anewarray n) ⟨_, rfl, rfl⟩ (dt0 h) (dt1 h) (dt2 h) e
theorem dk17 {c : ByteArray} {pc : Nat} {r : List UInt8} {n : Int} {x y : UInt8} (h : c.data.toList.drop pc = 17 :: x :: y :: r) (e : ClassFile.Reader.signed 16 (x.toNat * 256 + y.toNat) = n) : decode c pc = .ok (.sipush n, 3) := dk_s2 (f := fun n => .sipush n) ⟨_, rfl, rfl⟩ (dt0 h) (dt1 h) (dt2 h) e
theorem dk167 {c : ByteArray} {pc : Nat} {r : List UInt8} {n : Int} {x y : UInt8} (h : c.data.toList.drop pc = 167 :: x :: y :: r) (e : ClassFile.Reader.signed 16 (x.toNat * 256 + y.toNat) = n) : decode c pc = .ok (.goto n, 3) := dk_s2 (f := fun n => .goto n) ⟨_, rfl, rfl⟩ (dt0 h) (dt1 h) (dt2 h) e
theorem dk153 {c : ByteArray} {pc : Nat} {r : List UInt8} {n : Int} {x y : UInt8} (h : c.data.toList.drop pc = 153 :: x :: y :: r) (e : ClassFile.Reader.signed 16 (x.toNat * 256 + y.toNat) = n) : decode c pc = .ok (.ifCond .eq n, 3) := dk_s2 (f := fun n => .ifCond .eq n) ⟨_, rfl, rfl⟩ (dt0 h) (dt1 h) (dt2 h) e
theorem dk159 {c : ByteArray} {pc : Nat} {r : List UInt8} {n : Int} {x y : UInt8} (h : c.data.toList.drop pc = 159 :: x :: y :: r) (e : ClassFile.Reader.signed 16 (x.toNat * 256 + y.toNat) = n) : decode c pc = .ok (.if_icmp .eq n, 3) := dk_s2 (f := fun n => .if_icmp .eq n) ⟨_, rfl, rfl⟩ (dt0 h) (dt1 h) (dt2 h) e
theorem dk154 {c : ByteArray} {pc : Nat} {r : List UInt8} {n : Int} {x y : UInt8} (h : c.data.toList.drop pc = 154 :: x :: y :: r) (e : ClassFile.Reader.signed 16 (x.toNat * 256 + y.toNat) = n) : decode c pc = .ok (.ifCond .ne n, 3) := dk_s2 (f := fun n => .ifCond .ne n) ⟨_, rfl, rfl⟩ (dt0 h) (dt1 h) (dt2 h) e
theorem dk160 {c : ByteArray} {pc : Nat} {r : List UInt8} {n : Int} {x y : UInt8} (h : c.data.toList.drop pc = 160 :: x :: y :: r) (e : ClassFile.Reader.signed 16 (x.toNat * 256 + y.toNat) = n) : decode c pc = .ok (.if_icmp .ne n, 3) := dk_s2 (f := fun n => .if_icmp .ne n) ⟨_, rfl, rfl⟩ (dt0 h) (dt1 h) (dt2 h) e
theorem dk155 {c : ByteArray} {pc : Nat} {r : List UInt8} {n : Int} {x y : UInt8} (h : c.data.toList.drop pc = 155 :: x :: y :: r) (e : ClassFile.Reader.signed 16 (x.toNat * 256 + y.toNat) = n) : decode c pc = .ok (.ifCond .lt n, 3) := dk_s2 (f := fun n => .ifCond .lt n) ⟨_, rfl, rfl⟩ (dt0 h) (dt1 h) (dt2 h) e
theorem dk161 {c : ByteArray} {pc : Nat} {r : List UInt8} {n : Int} {x y : UInt8} (h : c.data.toList.drop pc = 161 :: x :: y :: r) (e : ClassFile.Reader.signed 16 (x.toNat * 256 + y.toNat) = n) : decode c pc = .ok (.if_icmp .lt n, 3) := dk_s2 (f := fun n => .if_icmp .lt n) ⟨_, rfl, rfl⟩ (dt0 h) (dt1 h) (dt2 h) e
theorem dk156 {c : ByteArray} {pc : Nat} {r : List UInt8} {n : Int} {x y : UInt8} (h : c.data.toList.drop pc = 156 :: x :: y :: r) (e : ClassFile.Reader.signed 16 (x.toNat * 256 + y.toNat) = n) : decode c pc = .ok (.ifCond .ge n, 3) := dk_s2 (f := fun n => .ifCond .ge n) ⟨_, rfl, rfl⟩ (dt0 h) (dt1 h) (dt2 h) e
theorem dk162 {c : ByteArray} {pc : Nat} {r : List UInt8} {n : Int} {x y : UInt8} (h : c.data.toList.drop pc = 162 :: x :: y :: r) (e : ClassFile.Reader.signed 16 (x.toNat * 256 + y.toNat) = n) : decode c pc = .ok (.if_icmp .ge n, 3) := dk_s2 (f := fun n => .if_icmp .ge n) ⟨_, rfl, rfl⟩ (dt0 h) (dt1 h) (dt2 h) e
theorem dk157 {c : ByteArray} {pc : Nat} {r : List UInt8} {n : Int} {x y : UInt8} (h : c.data.toList.drop pc = 157 :: x :: y :: r) (e : ClassFile.Reader.signed 16 (x.toNat * 256 + y.toNat) = n) : decode c pc = .ok (.ifCond .gt n, 3) := dk_s2 (f := fun n => .ifCond .gt n) ⟨_, rfl, rfl⟩ (dt0 h) (dt1 h) (dt2 h) e
theorem dk163 {c : ByteArray} {pc : Nat} {r : List UInt8} {n : Int} {x y : UInt8} (h : c.data.toList.drop pc = 163 :: x :: y :: r) (e : ClassFile.Reader.signed 16 (x.toNat * 256 + y.toNat) = n) : decode c pc = .ok (.if_icmp .gt n, 3) := dk_s2 (f := fun n => .if_icmp .gt n) ⟨_, rfl, rfl⟩ (dt0 h) (dt1 h) (dt2 h) e
theorem dk158 {c : ByteArray} {pc : Nat} {r : List UInt8} {n : Int} {x y : UInt8} (h : c.data.toList.drop pc = 158 :: x :: y :: r) (e : ClassFile.Reader.signed 16 (x.toNat * 256 + y.toNat) = n) : decode c pc = .ok (.ifCond .le n, 3) := dk_s2 (f := fun n => .ifCond .le n) ⟨_, rfl, rfl⟩ (dt0 h) (dt1 h) (dt2 h) e
theorem dk164 {c : ByteArray} {pc : Nat} {r : List UInt8} {n : Int} {x y : UInt8} (h : c.data.toList.drop pc = 164 :: x :: y :: r) (e : ClassFile.Reader.signed 16 (x.toNat * 256 + y.toNat) = n) : decode c pc = .ok (.if_icmp .le n, 3) := dk_s2 (f := fun n => .if_icmp .le n) ⟨_, rfl, rfl⟩ (dt0 h) (dt1 h) (dt2 h) e
theorem dk132 {c : ByteArray} {pc : Nat} {r : List UInt8} {n : Nat} {m : Int} {x y : UInt8} (h : c.data.toList.drop pc = 132 :: x :: y :: r) (e : x.toNat = n) (e2 : ClassFile.Reader.signed 8 y.toNat = m) : decode c pc = .ok (.iinc n m, 3) := dk_us (f := fun n m => .iinc n m) ⟨_, rfl, rfl⟩ (dt0 h) (dt1 h) (dt2 h) e e2
end
