theorem kc_m100000000 : ((-100000000) : Int32).toInt = (-100000000) := by decide
theorem kc_m100 : ((-100) : Int32).toInt = (-100) := by decide
theorem kc_m2 : ((-2) : Int32).toInt = (-2) := by decide
theorem kc_m1 : ((-1) : Int32).toInt = (-1) := by decide
theorem kc_0 : (0 : Int32).toInt = 0 := by decide
theorem kc_1 : (1 : Int32).toInt = 1 := by decide
theorem kc_2 : (2 : Int32).toInt = 2 := by decide
theorem kc_3 : (3 : Int32).toInt = 3 := by decide
theorem kc_4 : (4 : Int32).toInt = 4 := by decide
theorem kc_5 : (5 : Int32).toInt = 5 := by decide
theorem kc_6 : (6 : Int32).toInt = 6 := by decide
theorem kc_7 : (7 : Int32).toInt = 7 := by decide
theorem kc_8 : (8 : Int32).toInt = 8 := by decide
theorem kc_9 : (9 : Int32).toInt = 9 := by decide
theorem kc_10 : (10 : Int32).toInt = 10 := by decide
theorem kc_11 : (11 : Int32).toInt = 11 := by decide
theorem kc_12 : (12 : Int32).toInt = 12 := by decide
theorem kc_13 : (13 : Int32).toInt = 13 := by decide
theorem kc_14 : (14 : Int32).toInt = 14 := by decide
theorem kc_15 : (15 : Int32).toInt = 15 := by decide
theorem kc_16 : (16 : Int32).toInt = 16 := by decide
theorem kc_17 : (17 : Int32).toInt = 17 := by decide
theorem kc_18 : (18 : Int32).toInt = 18 := by decide
theorem kc_19 : (19 : Int32).toInt = 19 := by decide
theorem kc_20 : (20 : Int32).toInt = 20 := by decide
theorem kc_21 : (21 : Int32).toInt = 21 := by decide
theorem kc_22 : (22 : Int32).toInt = 22 := by decide
theorem kc_23 : (23 : Int32).toInt = 23 := by decide
theorem kc_24 : (24 : Int32).toInt = 24 := by decide
theorem kc_25 : (25 : Int32).toInt = 25 := by decide
theorem kc_26 : (26 : Int32).toInt = 26 := by decide
theorem kc_27 : (27 : Int32).toInt = 27 := by decide
theorem kc_28 : (28 : Int32).toInt = 28 := by decide
theorem kc_29 : (29 : Int32).toInt = 29 := by decide
theorem kc_30 : (30 : Int32).toInt = 30 := by decide
theorem kc_31 : (31 : Int32).toInt = 31 := by decide
theorem kc_32 : (32 : Int32).toInt = 32 := by decide
theorem kc_33 : (33 : Int32).toInt = 33 := by decide
theorem kc_34 : (34 : Int32).toInt = 34 := by decide
theorem kc_35 : (35 : Int32).toInt = 35 := by decide
theorem kc_36 : (36 : Int32).toInt = 36 := by decide
theorem kc_37 : (37 : Int32).toInt = 37 := by decide
theorem kc_38 : (38 : Int32).toInt = 38 := by decide
theorem kc_39 : (39 : Int32).toInt = 39 := by decide
theorem kc_40 : (40 : Int32).toInt = 40 := by decide
theorem kc_41 : (41 : Int32).toInt = 41 := by decide
theorem kc_42 : (42 : Int32).toInt = 42 := by decide
theorem kc_43 : (43 : Int32).toInt = 43 := by decide
theorem kc_44 : (44 : Int32).toInt = 44 := by decide
theorem kc_45 : (45 : Int32).toInt = 45 := by decide
theorem kc_46 : (46 : Int32).toInt = 46 := by decide
theorem kc_47 : (47 : Int32).toInt = 47 := by decide
theorem kc_48 : (48 : Int32).toInt = 48 := by decide
theorem kc_49 : (49 : Int32).toInt = 49 := by decide
theorem kc_50 : (50 : Int32).toInt = 50 := by decide
theorem kc_51 : (51 : Int32).toInt = 51 := by decide
theorem kc_52 : (52 : Int32).toInt = 52 := by decide
theorem kc_53 : (53 : Int32).toInt = 53 := by decide
theorem kc_54 : (54 : Int32).toInt = 54 := by decide
theorem kc_55 : (55 : Int32).toInt = 55 := by decide
theorem kc_56 : (56 : Int32).toInt = 56 := by decide
theorem kc_57 : (57 : Int32).toInt = 57 := by decide
theorem kc_58 : (58 : Int32).toInt = 58 := by decide
theorem kc_59 : (59 : Int32).toInt = 59 := by decide
theorem kc_60 : (60 : Int32).toInt = 60 := by decide
theorem kc_61 : (61 : Int32).toInt = 61 := by decide
theorem kc_62 : (62 : Int32).toInt = 62 := by decide
theorem kc_63 : (63 : Int32).toInt = 63 := by decide
theorem kc_64 : (64 : Int32).toInt = 64 := by decide
theorem kc_65 : (65 : Int32).toInt = 65 := by decide
theorem kc_66 : (66 : Int32).toInt = 66 := by decide
theorem kc_67 : (67 : Int32).toInt = 67 := by decide
theorem kc_68 : (68 : Int32).toInt = 68 := by decide
theorem kc_69 : (69 : Int32).toInt = 69 := by decide
theorem kc_70 : (70 : Int32).toInt = 70 := by decide
theorem kc_71 : (71 : Int32).toInt = 71 := by decide
theorem kc_72 : (72 : Int32).toInt = 72 := by decide
theorem kc_73 : (73 : Int32).toInt = 73 := by decide
theorem kc_74 : (74 : Int32).toInt = 74 := by decide
theorem kc_75 : (75 : Int32).toInt = 75 := by decide
theorem kc_76 : (76 : Int32).toInt = 76 := by decide
theorem kc_77 : (77 : Int32).toInt = 77 := by decide
theorem kc_78 : (78 : Int32).toInt = 78 := by decide
theorem kc_79 : (79 : Int32).toInt = 79 := by decide
theorem kc_80 : (80 : Int32).toInt = 80 := by decide
theorem kc_81 : (81 : Int32).toInt = 81 := by decide
theorem kc_82 : (82 : Int32).toInt = 82 := by decide
theorem kc_83 : (83 : Int32).toInt = 83 := by decide
theorem kc_84 : (84 : Int32).toInt = 84 := by decide
theorem kc_85 : (85 : Int32).toInt = 85 := by decide
theorem kc_86 : (86 : Int32).toInt = 86 := by decide
theorem kc_87 : (87 : Int32).toInt = 87 := by decide
theorem kc_88 : (88 : Int32).toInt = 88 := by decide
theorem kc_89 : (89 : Int32).toInt = 89 := by decide
theorem kc_90 : (90 : Int32).toInt = 90 := by decide
theorem kc_91 : (91 : Int32).toInt = 91 := by decide
theorem kc_92 : (92 : Int32).toInt = 92 := by decide
theorem kc_93 : (93 : Int32).toInt = 93 := by decide
theorem kc_94 : (94 : Int32).toInt = 94 := by decide
theorem kc_95 : (95 : Int32).toInt = 95 := by decide
theorem kc_96 : (96 : Int32).toInt = 96 := by decide
theorem kc_97 : (97 : Int32).toInt = 97 := by decide
theorem kc_98 : (98 : Int32).toInt = 98 := by decide
theorem kc_99 : (99 : Int32).toInt = 99 := by decide
theorem kc_100 : (100 : Int32).toInt = 100 := by decide
theorem kc_127 : (127 : Int32).toInt = 127 := by decide
theorem kc_255 : (255 : Int32).toInt = 255 := by decide
theorem kc_287 : (287 : Int32).toInt = 287 := by decide
theorem kc_349 : (349 : Int32).toInt = 349 := by decide
theorem kc_400 : (400 : Int32).toInt = 400 := by decide
theorem kc_464 : (464 : Int32).toInt = 464 := by decide
theorem kc_512 : (512 : Int32).toInt = 512 := by decide
theorem kc_800 : (800 : Int32).toInt = 800 := by decide
theorem kc_900 : (900 : Int32).toInt = 900 := by decide
theorem kc_999 : (999 : Int32).toInt = 999 := by decide
theorem kc_1000 : (1000 : Int32).toInt = 1000 := by decide
theorem kc_1296 : (1296 : Int32).toInt = 1296 := by decide
theorem kc_1440 : (1440 : Int32).toInt = 1440 := by decide
theorem kc_65536 : (65536 : Int32).toInt = 65536 := by decide
theorem kc_65537 : (65537 : Int32).toInt = 65537 := by decide
theorem kc_100000000 : (100000000 : Int32).toInt = 100000000 := by decide
theorem dfX0 : ∀ j, j < 4 → defaultValue (tyX0 j) = vp_V [.int 0, .null, .null, .null] j := by
  intro j hj
  rcases (show j = 0 ∨ j = 1 ∨ j = 2 ∨ j = 3 by omega) with rfl | rfl | rfl | rfl <;> rfl
theorem dfX1 : ∀ j, j < 19 → defaultValue (tyX1 j) = vp_V [.int 0, .int 0, .int 0, .int 0, .int 0, .int 0, .int 0, .int 0, .null, .null, .null, .null, .null, .null, .null, .null, .null, .null, .null] j := by
  intro j hj
  rcases (show j = 0 ∨ j = 1 ∨ j = 2 ∨ j = 3 ∨ j = 4 ∨ j = 5 ∨ j = 6 ∨ j = 7 ∨ j = 8 ∨ j = 9 ∨ j = 10 ∨ j = 11 ∨ j = 12 ∨ j = 13 ∨ j = 14 ∨ j = 15 ∨ j = 16 ∨ j = 17 ∨ j = 18 by omega) with rfl | rfl | rfl | rfl | rfl | rfl | rfl | rfl | rfl | rfl | rfl | rfl | rfl | rfl | rfl | rfl | rfl | rfl | rfl <;> rfl
theorem dfX2 : ∀ j, j < 7 → defaultValue (tyX2 j) = vp_V [.int 0, .int 0, .int 0, .int 0, .int 0, .null, .null] j := by
  intro j hj
  rcases (show j = 0 ∨ j = 1 ∨ j = 2 ∨ j = 3 ∨ j = 4 ∨ j = 5 ∨ j = 6 by omega) with rfl | rfl | rfl | rfl | rfl | rfl | rfl <;> rfl
theorem dfX3 : ∀ j, j < 15 → defaultValue (tyX3 j) = vp_V [.int 0, .int 0, .int 0, .null, .int 0, .int 0, .int 0, .int 0, .long 0, .int 0, .int 0, .null, .int 0, .null, .null] j := by
  intro j hj
  rcases (show j = 0 ∨ j = 1 ∨ j = 2 ∨ j = 3 ∨ j = 4 ∨ j = 5 ∨ j = 6 ∨ j = 7 ∨ j = 8 ∨ j = 9 ∨ j = 10 ∨ j = 11 ∨ j = 12 ∨ j = 13 ∨ j = 14 by omega) with rfl | rfl | rfl | rfl | rfl | rfl | rfl | rfl | rfl | rfl | rfl | rfl | rfl | rfl | rfl <;> rfl
theorem dfX4 : ∀ j, j < 2 → defaultValue (tyX4 j) = vp_V [.null, .null] j := by
  intro j hj
  rcases (show j = 0 ∨ j = 1 by omega) with rfl | rfl <;> rfl
theorem dfX5 : ∀ j, j < 3 → defaultValue (tyX5 j) = vp_V [.null, .null, .null] j := by
  intro j hj
  rcases (show j = 0 ∨ j = 1 ∨ j = 2 by omega) with rfl | rfl | rfl <;> rfl
theorem dfX6 : ∀ j, j < 12 → defaultValue (tyX6 j) = vp_V [.null, .null, .null, .null, .null, .int 0, .null, .null, .null, .int 0, .int 0, .int 0] j := by
  intro j hj
  rcases (show j = 0 ∨ j = 1 ∨ j = 2 ∨ j = 3 ∨ j = 4 ∨ j = 5 ∨ j = 6 ∨ j = 7 ∨ j = 8 ∨ j = 9 ∨ j = 10 ∨ j = 11 by omega) with rfl | rfl | rfl | rfl | rfl | rfl | rfl | rfl | rfl | rfl | rfl | rfl <;> rfl
theorem dfX7 : ∀ j, j < 48 → defaultValue (tyX7 j) = vp_V [.int 0, .null, .int 0, .int 0, .int 0, .int 0, .int 0, .int 0, .int 0, .int 0, .int 0, .int 0, .null, .int 0, .int 0, .null, .null, .null, .null, .null, .null, .null, .int 0, .int 0, .null, .int 0, .int 0, .int 0, .null, .null, .int 0, .int 0, .int 0, .null, .null, .int 0, .int 0, .int 0, .int 0, .null, .int 0, .int 0, .int 0, .long 0, .long 0, .long 0, .int 0, .int 0] j := by
  intro j hj
  rcases (show j = 0 ∨ j = 1 ∨ j = 2 ∨ j = 3 ∨ j = 4 ∨ j = 5 ∨ j = 6 ∨ j = 7 ∨ j = 8 ∨ j = 9 ∨ j = 10 ∨ j = 11 ∨ j = 12 ∨ j = 13 ∨ j = 14 ∨ j = 15 ∨ j = 16 ∨ j = 17 ∨ j = 18 ∨ j = 19 ∨ j = 20 ∨ j = 21 ∨ j = 22 ∨ j = 23 ∨ j = 24 ∨ j = 25 ∨ j = 26 ∨ j = 27 ∨ j = 28 ∨ j = 29 ∨ j = 30 ∨ j = 31 ∨ j = 32 ∨ j = 33 ∨ j = 34 ∨ j = 35 ∨ j = 36 ∨ j = 37 ∨ j = 38 ∨ j = 39 ∨ j = 40 ∨ j = 41 ∨ j = 42 ∨ j = 43 ∨ j = 44 ∨ j = 45 ∨ j = 46 ∨ j = 47 by omega) with rfl | rfl | rfl | rfl | rfl | rfl | rfl | rfl | rfl | rfl | rfl | rfl | rfl | rfl | rfl | rfl | rfl | rfl | rfl | rfl | rfl | rfl | rfl | rfl | rfl | rfl | rfl | rfl | rfl | rfl | rfl | rfl | rfl | rfl | rfl | rfl | rfl | rfl | rfl | rfl | rfl | rfl | rfl | rfl | rfl | rfl | rfl | rfl <;> rfl
