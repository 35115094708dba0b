set_option maxRecDepth 100000 in
theorem dAX1_addPart_0 : decode cX1_addPart 0 = .ok (.aload_n 0, 1) ∧ decode cX1_addPart 1 = .ok (.invokevirtual 74, 3) ∧ decode cX1_addPart 4 = .ok (.ifCond .eq 130, 3) ∧ decode cX1_addPart 7 = .ok (.aload_n 0, 1) ∧ decode cX1_addPart 8 = .ok (.iload_n 1, 1) ∧ decode cX1_addPart 9 = .ok (.invokevirtual 70, 3) ∧ decode cX1_addPart 12 = .ok (.ifCond .eq 122, 3) ∧ decode cX1_addPart 15 = .ok (.aload_n 0, 1) := by decide +kernel
theorem dX1_addPart_0 : decode cX1_addPart 0 = .ok (.aload_n 0, 1) := dAX1_addPart_0.1
theorem dX1_addPart_1 : decode cX1_addPart 1 = .ok (.invokevirtual 74, 3) := dAX1_addPart_0.2.1
theorem dX1_addPart_4 : decode cX1_addPart 4 = .ok (.ifCond .eq 130, 3) := dAX1_addPart_0.2.2.1
theorem dX1_addPart_7 : decode cX1_addPart 7 = .ok (.aload_n 0, 1) := dAX1_addPart_0.2.2.2.1
theorem dX1_addPart_8 : decode cX1_addPart 8 = .ok (.iload_n 1, 1) := dAX1_addPart_0.2.2.2.2.1
theorem dX1_addPart_9 : decode cX1_addPart 9 = .ok (.invokevirtual 70, 3) := dAX1_addPart_0.2.2.2.2.2.1
theorem dX1_addPart_12 : decode cX1_addPart 12 = .ok (.ifCond .eq 122, 3) := dAX1_addPart_0.2.2.2.2.2.2.1
theorem dX1_addPart_15 : decode cX1_addPart 15 = .ok (.aload_n 0, 1) := dAX1_addPart_0.2.2.2.2.2.2.2
set_option maxRecDepth 100000 in
theorem dAX1_addPart_1 : decode cX1_addPart 16 = .ok (.getfield 55, 3) ∧ decode cX1_addPart 19 = .ok (.iconst 4, 1) ∧ decode cX1_addPart 20 = .ok (.imul, 1) ∧ decode cX1_addPart 21 = .ok (.aload_n 0, 1) ∧ decode cX1_addPart 22 = .ok (.getfield 15, 3) ∧ decode cX1_addPart 25 = .ok (.aload_n 0, 1) ∧ decode cX1_addPart 26 = .ok (.getfield 55, 3) ∧ decode cX1_addPart 29 = .ok (.iaload, 1) := by decide +kernel
theorem dX1_addPart_16 : decode cX1_addPart 16 = .ok (.getfield 55, 3) := dAX1_addPart_1.1
theorem dX1_addPart_19 : decode cX1_addPart 19 = .ok (.iconst 4, 1) := dAX1_addPart_1.2.1
theorem dX1_addPart_20 : decode cX1_addPart 20 = .ok (.imul, 1) := dAX1_addPart_1.2.2.1
theorem dX1_addPart_21 : decode cX1_addPart 21 = .ok (.aload_n 0, 1) := dAX1_addPart_1.2.2.2.1
theorem dX1_addPart_22 : decode cX1_addPart 22 = .ok (.getfield 15, 3) := dAX1_addPart_1.2.2.2.2.1
theorem dX1_addPart_25 : decode cX1_addPart 25 = .ok (.aload_n 0, 1) := dAX1_addPart_1.2.2.2.2.2.1
theorem dX1_addPart_26 : decode cX1_addPart 26 = .ok (.getfield 55, 3) := dAX1_addPart_1.2.2.2.2.2.2.1
theorem dX1_addPart_29 : decode cX1_addPart 29 = .ok (.iaload, 1) := dAX1_addPart_1.2.2.2.2.2.2.2
set_option maxRecDepth 100000 in
theorem dAX1_addPart_2 : decode cX1_addPart 30 = .ok (.iadd, 1) ∧ decode cX1_addPart 31 = .ok (.istore_n 3, 1) ∧ decode cX1_addPart 32 = .ok (.aload_n 0, 1) ∧ decode cX1_addPart 33 = .ok (.getfield 18, 3) ∧ decode cX1_addPart 36 = .ok (.iload_n 3, 1) ∧ decode cX1_addPart 37 = .ok (.iload_n 1, 1) ∧ decode cX1_addPart 38 = .ok (.iastore, 1) ∧ decode cX1_addPart 39 = .ok (.aload_n 0, 1) := by decide +kernel
theorem dX1_addPart_30 : decode cX1_addPart 30 = .ok (.iadd, 1) := dAX1_addPart_2.1
theorem dX1_addPart_31 : decode cX1_addPart 31 = .ok (.istore_n 3, 1) := dAX1_addPart_2.2.1
theorem dX1_addPart_32 : decode cX1_addPart 32 = .ok (.aload_n 0, 1) := dAX1_addPart_2.2.2.1
theorem dX1_addPart_33 : decode cX1_addPart 33 = .ok (.getfield 18, 3) := dAX1_addPart_2.2.2.2.1
theorem dX1_addPart_36 : decode cX1_addPart 36 = .ok (.iload_n 3, 1) := dAX1_addPart_2.2.2.2.2.1
theorem dX1_addPart_37 : decode cX1_addPart 37 = .ok (.iload_n 1, 1) := dAX1_addPart_2.2.2.2.2.2.1
theorem dX1_addPart_38 : decode cX1_addPart 38 = .ok (.iastore, 1) := dAX1_addPart_2.2.2.2.2.2.2.1
theorem dX1_addPart_39 : decode cX1_addPart 39 = .ok (.aload_n 0, 1) := dAX1_addPart_2.2.2.2.2.2.2.2
set_option maxRecDepth 100000 in
theorem dAX1_addPart_3 : decode cX1_addPart 40 = .ok (.getfield 21, 3) ∧ decode cX1_addPart 43 = .ok (.iload_n 3, 1) ∧ decode cX1_addPart 44 = .ok (.iload_n 2, 1) ∧ decode cX1_addPart 45 = .ok (.iastore, 1) ∧ decode cX1_addPart 46 = .ok (.aload_n 0, 1) ∧ decode cX1_addPart 47 = .ok (.getfield 15, 3) ∧ decode cX1_addPart 50 = .ok (.aload_n 0, 1) ∧ decode cX1_addPart 51 = .ok (.getfield 55, 3) := by decide +kernel
theorem dX1_addPart_40 : decode cX1_addPart 40 = .ok (.getfield 21, 3) := dAX1_addPart_3.1
theorem dX1_addPart_43 : decode cX1_addPart 43 = .ok (.iload_n 3, 1) := dAX1_addPart_3.2.1
theorem dX1_addPart_44 : decode cX1_addPart 44 = .ok (.iload_n 2, 1) := dAX1_addPart_3.2.2.1
theorem dX1_addPart_45 : decode cX1_addPart 45 = .ok (.iastore, 1) := dAX1_addPart_3.2.2.2.1
theorem dX1_addPart_46 : decode cX1_addPart 46 = .ok (.aload_n 0, 1) := dAX1_addPart_3.2.2.2.2.1
theorem dX1_addPart_47 : decode cX1_addPart 47 = .ok (.getfield 15, 3) := dAX1_addPart_3.2.2.2.2.2.1
theorem dX1_addPart_50 : decode cX1_addPart 50 = .ok (.aload_n 0, 1) := dAX1_addPart_3.2.2.2.2.2.2.1
theorem dX1_addPart_51 : decode cX1_addPart 51 = .ok (.getfield 55, 3) := dAX1_addPart_3.2.2.2.2.2.2.2
set_option maxRecDepth 100000 in
theorem dAX1_addPart_4 : decode cX1_addPart 54 = .ok (.dup2, 1) ∧ decode cX1_addPart 55 = .ok (.iaload, 1) ∧ decode cX1_addPart 56 = .ok (.iconst 1, 1) ∧ decode cX1_addPart 57 = .ok (.iadd, 1) ∧ decode cX1_addPart 58 = .ok (.iastore, 1) ∧ decode cX1_addPart 59 = .ok (.aload_n 0, 1) ∧ decode cX1_addPart 60 = .ok (.getfield 24, 3) ∧ decode cX1_addPart 63 = .ok (.aload_n 0, 1) := by decide +kernel
theorem dX1_addPart_54 : decode cX1_addPart 54 = .ok (.dup2, 1) := dAX1_addPart_4.1
theorem dX1_addPart_55 : decode cX1_addPart 55 = .ok (.iaload, 1) := dAX1_addPart_4.2.1
theorem dX1_addPart_56 : decode cX1_addPart 56 = .ok (.iconst 1, 1) := dAX1_addPart_4.2.2.1
theorem dX1_addPart_57 : decode cX1_addPart 57 = .ok (.iadd, 1) := dAX1_addPart_4.2.2.2.1
theorem dX1_addPart_58 : decode cX1_addPart 58 = .ok (.iastore, 1) := dAX1_addPart_4.2.2.2.2.1
theorem dX1_addPart_59 : decode cX1_addPart 59 = .ok (.aload_n 0, 1) := dAX1_addPart_4.2.2.2.2.2.1
theorem dX1_addPart_60 : decode cX1_addPart 60 = .ok (.getfield 24, 3) := dAX1_addPart_4.2.2.2.2.2.2.1
theorem dX1_addPart_63 : decode cX1_addPart 63 = .ok (.aload_n 0, 1) := dAX1_addPart_4.2.2.2.2.2.2.2
set_option maxRecDepth 100000 in
theorem dAX1_addPart_5 : decode cX1_addPart 64 = .ok (.getfield 55, 3) ∧ decode cX1_addPart 67 = .ok (.dup2, 1) ∧ decode cX1_addPart 68 = .ok (.iaload, 1) ∧ decode cX1_addPart 69 = .ok (.iload_n 2, 1) ∧ decode cX1_addPart 70 = .ok (.iadd, 1) ∧ decode cX1_addPart 71 = .ok (.iastore, 1) ∧ decode cX1_addPart 72 = .ok (.aload_n 0, 1) ∧ decode cX1_addPart 73 = .ok (.getfield 30, 3) := by decide +kernel
theorem dX1_addPart_64 : decode cX1_addPart 64 = .ok (.getfield 55, 3) := dAX1_addPart_5.1
theorem dX1_addPart_67 : decode cX1_addPart 67 = .ok (.dup2, 1) := dAX1_addPart_5.2.1
theorem dX1_addPart_68 : decode cX1_addPart 68 = .ok (.iaload, 1) := dAX1_addPart_5.2.2.1
theorem dX1_addPart_69 : decode cX1_addPart 69 = .ok (.iload_n 2, 1) := dAX1_addPart_5.2.2.2.1
theorem dX1_addPart_70 : decode cX1_addPart 70 = .ok (.iadd, 1) := dAX1_addPart_5.2.2.2.2.1
theorem dX1_addPart_71 : decode cX1_addPart 71 = .ok (.iastore, 1) := dAX1_addPart_5.2.2.2.2.2.1
theorem dX1_addPart_72 : decode cX1_addPart 72 = .ok (.aload_n 0, 1) := dAX1_addPart_5.2.2.2.2.2.2.1
theorem dX1_addPart_73 : decode cX1_addPart 73 = .ok (.getfield 30, 3) := dAX1_addPart_5.2.2.2.2.2.2.2
set_option maxRecDepth 100000 in
theorem dAX1_addPart_6 : decode cX1_addPart 76 = .ok (.aload_n 0, 1) ∧ decode cX1_addPart 77 = .ok (.getfield 55, 3) ∧ decode cX1_addPart 80 = .ok (.aload_n 0, 1) ∧ decode cX1_addPart 81 = .ok (.getfield 30, 3) ∧ decode cX1_addPart 84 = .ok (.aload_n 0, 1) ∧ decode cX1_addPart 85 = .ok (.getfield 55, 3) ∧ decode cX1_addPart 88 = .ok (.iaload, 1) ∧ decode cX1_addPart 89 = .ok (.aload_n 0, 1) := by decide +kernel
theorem dX1_addPart_76 : decode cX1_addPart 76 = .ok (.aload_n 0, 1) := dAX1_addPart_6.1
theorem dX1_addPart_77 : decode cX1_addPart 77 = .ok (.getfield 55, 3) := dAX1_addPart_6.2.1
theorem dX1_addPart_80 : decode cX1_addPart 80 = .ok (.aload_n 0, 1) := dAX1_addPart_6.2.2.1
theorem dX1_addPart_81 : decode cX1_addPart 81 = .ok (.getfield 30, 3) := dAX1_addPart_6.2.2.2.1
theorem dX1_addPart_84 : decode cX1_addPart 84 = .ok (.aload_n 0, 1) := dAX1_addPart_6.2.2.2.2.1
theorem dX1_addPart_85 : decode cX1_addPart 85 = .ok (.getfield 55, 3) := dAX1_addPart_6.2.2.2.2.2.1
theorem dX1_addPart_88 : decode cX1_addPart 88 = .ok (.iaload, 1) := dAX1_addPart_6.2.2.2.2.2.2.1
theorem dX1_addPart_89 : decode cX1_addPart 89 = .ok (.aload_n 0, 1) := dAX1_addPart_6.2.2.2.2.2.2.2
set_option maxRecDepth 100000 in
theorem dAX1_addPart_7 : decode cX1_addPart 90 = .ok (.getfield 30, 3) ∧ decode cX1_addPart 93 = .ok (.iload_n 1, 1) ∧ decode cX1_addPart 94 = .ok (.iaload, 1) ∧ decode cX1_addPart 95 = .ok (.iconst 1, 1) ∧ decode cX1_addPart 96 = .ok (.iadd, 1) ∧ decode cX1_addPart 97 = .ok (.invokestatic 78, 3) ∧ decode cX1_addPart 100 = .ok (.iastore, 1) ∧ decode cX1_addPart 101 = .ok (.aload_n 0, 1) := by decide +kernel
theorem dX1_addPart_90 : decode cX1_addPart 90 = .ok (.getfield 30, 3) := dAX1_addPart_7.1
theorem dX1_addPart_93 : decode cX1_addPart 93 = .ok (.iload_n 1, 1) := dAX1_addPart_7.2.1
theorem dX1_addPart_94 : decode cX1_addPart 94 = .ok (.iaload, 1) := dAX1_addPart_7.2.2.1
theorem dX1_addPart_95 : decode cX1_addPart 95 = .ok (.iconst 1, 1) := dAX1_addPart_7.2.2.2.1
theorem dX1_addPart_96 : decode cX1_addPart 96 = .ok (.iadd, 1) := dAX1_addPart_7.2.2.2.2.1
theorem dX1_addPart_97 : decode cX1_addPart 97 = .ok (.invokestatic 78, 3) := dAX1_addPart_7.2.2.2.2.2.1
theorem dX1_addPart_100 : decode cX1_addPart 100 = .ok (.iastore, 1) := dAX1_addPart_7.2.2.2.2.2.2.1
theorem dX1_addPart_101 : decode cX1_addPart 101 = .ok (.aload_n 0, 1) := dAX1_addPart_7.2.2.2.2.2.2.2
set_option maxRecDepth 100000 in
theorem dAX1_addPart_8 : decode cX1_addPart 102 = .ok (.getfield 33, 3) ∧ decode cX1_addPart 105 = .ok (.aload_n 0, 1) ∧ decode cX1_addPart 106 = .ok (.getfield 55, 3) ∧ decode cX1_addPart 109 = .ok (.dup2, 1) ∧ decode cX1_addPart 110 = .ok (.iaload, 1) ∧ decode cX1_addPart 111 = .ok (.aload_n 0, 1) ∧ decode cX1_addPart 112 = .ok (.getfield 33, 3) ∧ decode cX1_addPart 115 = .ok (.iload_n 1, 1) := by decide +kernel
theorem dX1_addPart_102 : decode cX1_addPart 102 = .ok (.getfield 33, 3) := dAX1_addPart_8.1
theorem dX1_addPart_105 : decode cX1_addPart 105 = .ok (.aload_n 0, 1) := dAX1_addPart_8.2.1
theorem dX1_addPart_106 : decode cX1_addPart 106 = .ok (.getfield 55, 3) := dAX1_addPart_8.2.2.1
theorem dX1_addPart_109 : decode cX1_addPart 109 = .ok (.dup2, 1) := dAX1_addPart_8.2.2.2.1
theorem dX1_addPart_110 : decode cX1_addPart 110 = .ok (.iaload, 1) := dAX1_addPart_8.2.2.2.2.1
theorem dX1_addPart_111 : decode cX1_addPart 111 = .ok (.aload_n 0, 1) := dAX1_addPart_8.2.2.2.2.2.1
theorem dX1_addPart_112 : decode cX1_addPart 112 = .ok (.getfield 33, 3) := dAX1_addPart_8.2.2.2.2.2.2.1
theorem dX1_addPart_115 : decode cX1_addPart 115 = .ok (.iload_n 1, 1) := dAX1_addPart_8.2.2.2.2.2.2.2
set_option maxRecDepth 100000 in
theorem dAX1_addPart_9 : decode cX1_addPart 116 = .ok (.iaload, 1) ∧ decode cX1_addPart 117 = .ok (.ior, 1) ∧ decode cX1_addPart 118 = .ok (.iastore, 1) ∧ decode cX1_addPart 119 = .ok (.aload_n 0, 1) ∧ decode cX1_addPart 120 = .ok (.getfield 36, 3) ∧ decode cX1_addPart 123 = .ok (.iload_n 1, 1) ∧ decode cX1_addPart 124 = .ok (.dup2, 1) ∧ decode cX1_addPart 125 = .ok (.iaload, 1) := by decide +kernel
theorem dX1_addPart_116 : decode cX1_addPart 116 = .ok (.iaload, 1) := dAX1_addPart_9.1
theorem dX1_addPart_117 : decode cX1_addPart 117 = .ok (.ior, 1) := dAX1_addPart_9.2.1
theorem dX1_addPart_118 : decode cX1_addPart 118 = .ok (.iastore, 1) := dAX1_addPart_9.2.2.1
theorem dX1_addPart_119 : decode cX1_addPart 119 = .ok (.aload_n 0, 1) := dAX1_addPart_9.2.2.2.1
theorem dX1_addPart_120 : decode cX1_addPart 120 = .ok (.getfield 36, 3) := dAX1_addPart_9.2.2.2.2.1
theorem dX1_addPart_123 : decode cX1_addPart 123 = .ok (.iload_n 1, 1) := dAX1_addPart_9.2.2.2.2.2.1
theorem dX1_addPart_124 : decode cX1_addPart 124 = .ok (.dup2, 1) := dAX1_addPart_9.2.2.2.2.2.2.1
theorem dX1_addPart_125 : decode cX1_addPart 125 = .ok (.iaload, 1) := dAX1_addPart_9.2.2.2.2.2.2.2
set_option maxRecDepth 100000 in
theorem dAX1_addPart_10 : decode cX1_addPart 126 = .ok (.iconst 1, 1) ∧ decode cX1_addPart 127 = .ok (.aload_n 0, 1) ∧ decode cX1_addPart 128 = .ok (.getfield 55, 3) ∧ decode cX1_addPart 131 = .ok (.ishl, 1) ∧ decode cX1_addPart 132 = .ok (.ior, 1) ∧ decode cX1_addPart 133 = .ok (.iastore, 1) ∧ decode cX1_addPart 134 = .ok (.return_, 1) := by decide +kernel
theorem dX1_addPart_126 : decode cX1_addPart 126 = .ok (.iconst 1, 1) := dAX1_addPart_10.1
theorem dX1_addPart_127 : decode cX1_addPart 127 = .ok (.aload_n 0, 1) := dAX1_addPart_10.2.1
theorem dX1_addPart_128 : decode cX1_addPart 128 = .ok (.getfield 55, 3) := dAX1_addPart_10.2.2.1
theorem dX1_addPart_131 : decode cX1_addPart 131 = .ok (.ishl, 1) := dAX1_addPart_10.2.2.2.1
theorem dX1_addPart_132 : decode cX1_addPart 132 = .ok (.ior, 1) := dAX1_addPart_10.2.2.2.2.1
theorem dX1_addPart_133 : decode cX1_addPart 133 = .ok (.iastore, 1) := dAX1_addPart_10.2.2.2.2.2.1
theorem dX1_addPart_134 : decode cX1_addPart 134 = .ok (.return_, 1) := dAX1_addPart_10.2.2.2.2.2.2
set_option maxRecDepth 100000 in
theorem dAX1_addUnsure_0 : decode cX1_addUnsure 0 = .ok (.aload_n 0, 1) ∧ decode cX1_addUnsure 1 = .ok (.getfield 64, 3) ∧ decode cX1_addUnsure 4 = .ok (.iconst 4, 1) ∧ decode cX1_addUnsure 5 = .ok (.if_icmp .ge 33, 3) ∧ decode cX1_addUnsure 8 = .ok (.aload_n 0, 1) ∧ decode cX1_addUnsure 9 = .ok (.getfield 39, 3) ∧ decode cX1_addUnsure 12 = .ok (.aload_n 0, 1) ∧ decode cX1_addUnsure 13 = .ok (.getfield 64, 3) := by decide +kernel
theorem dX1_addUnsure_0 : decode cX1_addUnsure 0 = .ok (.aload_n 0, 1) := dAX1_addUnsure_0.1
theorem dX1_addUnsure_1 : decode cX1_addUnsure 1 = .ok (.getfield 64, 3) := dAX1_addUnsure_0.2.1
theorem dX1_addUnsure_4 : decode cX1_addUnsure 4 = .ok (.iconst 4, 1) := dAX1_addUnsure_0.2.2.1
theorem dX1_addUnsure_5 : decode cX1_addUnsure 5 = .ok (.if_icmp .ge 33, 3) := dAX1_addUnsure_0.2.2.2.1
theorem dX1_addUnsure_8 : decode cX1_addUnsure 8 = .ok (.aload_n 0, 1) := dAX1_addUnsure_0.2.2.2.2.1
theorem dX1_addUnsure_9 : decode cX1_addUnsure 9 = .ok (.getfield 39, 3) := dAX1_addUnsure_0.2.2.2.2.2.1
theorem dX1_addUnsure_12 : decode cX1_addUnsure 12 = .ok (.aload_n 0, 1) := dAX1_addUnsure_0.2.2.2.2.2.2.1
theorem dX1_addUnsure_13 : decode cX1_addUnsure 13 = .ok (.getfield 64, 3) := dAX1_addUnsure_0.2.2.2.2.2.2.2
set_option maxRecDepth 100000 in
theorem dAX1_addUnsure_1 : decode cX1_addUnsure 16 = .ok (.iload_n 1, 1) ∧ decode cX1_addUnsure 17 = .ok (.iastore, 1) ∧ decode cX1_addUnsure 18 = .ok (.aload_n 0, 1) ∧ decode cX1_addUnsure 19 = .ok (.getfield 42, 3) ∧ decode cX1_addUnsure 22 = .ok (.aload_n 0, 1) ∧ decode cX1_addUnsure 23 = .ok (.getfield 64, 3) ∧ decode cX1_addUnsure 26 = .ok (.iload_n 2, 1) ∧ decode cX1_addUnsure 27 = .ok (.iastore, 1) := by decide +kernel
theorem dX1_addUnsure_16 : decode cX1_addUnsure 16 = .ok (.iload_n 1, 1) := dAX1_addUnsure_1.1
theorem dX1_addUnsure_17 : decode cX1_addUnsure 17 = .ok (.iastore, 1) := dAX1_addUnsure_1.2.1
theorem dX1_addUnsure_18 : decode cX1_addUnsure 18 = .ok (.aload_n 0, 1) := dAX1_addUnsure_1.2.2.1
theorem dX1_addUnsure_19 : decode cX1_addUnsure 19 = .ok (.getfield 42, 3) := dAX1_addUnsure_1.2.2.2.1
theorem dX1_addUnsure_22 : decode cX1_addUnsure 22 = .ok (.aload_n 0, 1) := dAX1_addUnsure_1.2.2.2.2.1
theorem dX1_addUnsure_23 : decode cX1_addUnsure 23 = .ok (.getfield 64, 3) := dAX1_addUnsure_1.2.2.2.2.2.1
theorem dX1_addUnsure_26 : decode cX1_addUnsure 26 = .ok (.iload_n 2, 1) := dAX1_addUnsure_1.2.2.2.2.2.2.1
theorem dX1_addUnsure_27 : decode cX1_addUnsure 27 = .ok (.iastore, 1) := dAX1_addUnsure_1.2.2.2.2.2.2.2
set_option maxRecDepth 100000 in
theorem dAX1_addUnsure_2 : decode cX1_addUnsure 28 = .ok (.aload_n 0, 1) ∧ decode cX1_addUnsure 29 = .ok (.dup, 1) ∧ decode cX1_addUnsure 30 = .ok (.getfield 64, 3) ∧ decode cX1_addUnsure 33 = .ok (.iconst 1, 1) ∧ decode cX1_addUnsure 34 = .ok (.iadd, 1) ∧ decode cX1_addUnsure 35 = .ok (.putfield 64, 3) ∧ decode cX1_addUnsure 38 = .ok (.return_, 1) := by decide +kernel
theorem dX1_addUnsure_28 : decode cX1_addUnsure 28 = .ok (.aload_n 0, 1) := dAX1_addUnsure_2.1
theorem dX1_addUnsure_29 : decode cX1_addUnsure 29 = .ok (.dup, 1) := dAX1_addUnsure_2.2.1
theorem dX1_addUnsure_30 : decode cX1_addUnsure 30 = .ok (.getfield 64, 3) := dAX1_addUnsure_2.2.2.1
theorem dX1_addUnsure_33 : decode cX1_addUnsure 33 = .ok (.iconst 1, 1) := dAX1_addUnsure_2.2.2.2.1
theorem dX1_addUnsure_34 : decode cX1_addUnsure 34 = .ok (.iadd, 1) := dAX1_addUnsure_2.2.2.2.2.1
theorem dX1_addUnsure_35 : decode cX1_addUnsure 35 = .ok (.putfield 64, 3) := dAX1_addUnsure_2.2.2.2.2.2.1
theorem dX1_addUnsure_38 : decode cX1_addUnsure 38 = .ok (.return_, 1) := dAX1_addUnsure_2.2.2.2.2.2.2
set_option maxRecDepth 100000 in
theorem dAX1_allLikelihood_0 : decode cX1_allLikelihood 0 = .ok (.lconst 1, 1) ∧ decode cX1_allLikelihood 1 = .ok (.lstore_n 1, 1) ∧ decode cX1_allLikelihood 2 = .ok (.iconst 0, 1) ∧ decode cX1_allLikelihood 3 = .ok (.istore_n 3, 1) ∧ decode cX1_allLikelihood 4 = .ok (.iload_n 3, 1) ∧ decode cX1_allLikelihood 5 = .ok (.aload_n 0, 1) ∧ decode cX1_allLikelihood 6 = .ok (.getfield 64, 3) ∧ decode cX1_allLikelihood 9 = .ok (.if_icmp .ge 15, 3) := by decide +kernel
theorem dX1_allLikelihood_0 : decode cX1_allLikelihood 0 = .ok (.lconst 1, 1) := dAX1_allLikelihood_0.1
theorem dX1_allLikelihood_1 : decode cX1_allLikelihood 1 = .ok (.lstore_n 1, 1) := dAX1_allLikelihood_0.2.1
theorem dX1_allLikelihood_2 : decode cX1_allLikelihood 2 = .ok (.iconst 0, 1) := dAX1_allLikelihood_0.2.2.1
theorem dX1_allLikelihood_3 : decode cX1_allLikelihood 3 = .ok (.istore_n 3, 1) := dAX1_allLikelihood_0.2.2.2.1
theorem dX1_allLikelihood_4 : decode cX1_allLikelihood 4 = .ok (.iload_n 3, 1) := dAX1_allLikelihood_0.2.2.2.2.1
theorem dX1_allLikelihood_5 : decode cX1_allLikelihood 5 = .ok (.aload_n 0, 1) := dAX1_allLikelihood_0.2.2.2.2.2.1
theorem dX1_allLikelihood_6 : decode cX1_allLikelihood 6 = .ok (.getfield 64, 3) := dAX1_allLikelihood_0.2.2.2.2.2.2.1
theorem dX1_allLikelihood_9 : decode cX1_allLikelihood 9 = .ok (.if_icmp .ge 15, 3) := dAX1_allLikelihood_0.2.2.2.2.2.2.2
set_option maxRecDepth 100000 in
theorem dAX1_allLikelihood_1 : decode cX1_allLikelihood 12 = .ok (.lload_n 1, 1) ∧ decode cX1_allLikelihood 13 = .ok (.ldc2_w 84, 3) ∧ decode cX1_allLikelihood 16 = .ok (.lmul, 1) ∧ decode cX1_allLikelihood 17 = .ok (.lstore_n 1, 1) ∧ decode cX1_allLikelihood 18 = .ok (.iinc 3 1, 3) ∧ decode cX1_allLikelihood 21 = .ok (.goto (-17), 3) ∧ decode cX1_allLikelihood 24 = .ok (.lload_n 1, 1) ∧ decode cX1_allLikelihood 25 = .ok (.lreturn, 1) := by decide +kernel
theorem dX1_allLikelihood_12 : decode cX1_allLikelihood 12 = .ok (.lload_n 1, 1) := dAX1_allLikelihood_1.1
theorem dX1_allLikelihood_13 : decode cX1_allLikelihood 13 = .ok (.ldc2_w 84, 3) := dAX1_allLikelihood_1.2.1
theorem dX1_allLikelihood_16 : decode cX1_allLikelihood 16 = .ok (.lmul, 1) := dAX1_allLikelihood_1.2.2.1
theorem dX1_allLikelihood_17 : decode cX1_allLikelihood 17 = .ok (.lstore_n 1, 1) := dAX1_allLikelihood_1.2.2.2.1
theorem dX1_allLikelihood_18 : decode cX1_allLikelihood 18 = .ok (.iinc 3 1, 3) := dAX1_allLikelihood_1.2.2.2.2.1
theorem dX1_allLikelihood_21 : decode cX1_allLikelihood 21 = .ok (.goto (-17), 3) := dAX1_allLikelihood_1.2.2.2.2.2.1
theorem dX1_allLikelihood_24 : decode cX1_allLikelihood 24 = .ok (.lload_n 1, 1) := dAX1_allLikelihood_1.2.2.2.2.2.2.1
theorem dX1_allLikelihood_25 : decode cX1_allLikelihood 25 = .ok (.lreturn, 1) := dAX1_allLikelihood_1.2.2.2.2.2.2.2
set_option maxRecDepth 100000 in
theorem dAX1_beginNode_0 : decode cX1_beginNode 0 = .ok (.aload_n 0, 1) ∧ decode cX1_beginNode 1 = .ok (.getfield 55, 3) ∧ decode cX1_beginNode 4 = .ok (.bipush 18, 2) ∧ decode cX1_beginNode 6 = .ok (.if_icmp .ge 86, 3) ∧ decode cX1_beginNode 9 = .ok (.aload_n 0, 1) ∧ decode cX1_beginNode 10 = .ok (.getfield 9, 3) ∧ decode cX1_beginNode 13 = .ok (.aload_n 0, 1) ∧ decode cX1_beginNode 14 = .ok (.getfield 55, 3) := by decide +kernel
theorem dX1_beginNode_0 : decode cX1_beginNode 0 = .ok (.aload_n 0, 1) := dAX1_beginNode_0.1
theorem dX1_beginNode_1 : decode cX1_beginNode 1 = .ok (.getfield 55, 3) := dAX1_beginNode_0.2.1
theorem dX1_beginNode_4 : decode cX1_beginNode 4 = .ok (.bipush 18, 2) := dAX1_beginNode_0.2.2.1
theorem dX1_beginNode_6 : decode cX1_beginNode 6 = .ok (.if_icmp .ge 86, 3) := dAX1_beginNode_0.2.2.2.1
theorem dX1_beginNode_9 : decode cX1_beginNode 9 = .ok (.aload_n 0, 1) := dAX1_beginNode_0.2.2.2.2.1
theorem dX1_beginNode_10 : decode cX1_beginNode 10 = .ok (.getfield 9, 3) := dAX1_beginNode_0.2.2.2.2.2.1
theorem dX1_beginNode_13 : decode cX1_beginNode 13 = .ok (.aload_n 0, 1) := dAX1_beginNode_0.2.2.2.2.2.2.1
theorem dX1_beginNode_14 : decode cX1_beginNode 14 = .ok (.getfield 55, 3) := dAX1_beginNode_0.2.2.2.2.2.2.2
set_option maxRecDepth 100000 in
theorem dAX1_beginNode_1 : decode cX1_beginNode 17 = .ok (.iload_n 1, 1) ∧ decode cX1_beginNode 18 = .ok (.iastore, 1) ∧ decode cX1_beginNode 19 = .ok (.aload_n 0, 1) ∧ decode cX1_beginNode 20 = .ok (.getfield 15, 3) ∧ decode cX1_beginNode 23 = .ok (.aload_n 0, 1) ∧ decode cX1_beginNode 24 = .ok (.getfield 55, 3) ∧ decode cX1_beginNode 27 = .ok (.iconst 0, 1) ∧ decode cX1_beginNode 28 = .ok (.iastore, 1) := by decide +kernel
theorem dX1_beginNode_17 : decode cX1_beginNode 17 = .ok (.iload_n 1, 1) := dAX1_beginNode_1.1
theorem dX1_beginNode_18 : decode cX1_beginNode 18 = .ok (.iastore, 1) := dAX1_beginNode_1.2.1
theorem dX1_beginNode_19 : decode cX1_beginNode 19 = .ok (.aload_n 0, 1) := dAX1_beginNode_1.2.2.1
theorem dX1_beginNode_20 : decode cX1_beginNode 20 = .ok (.getfield 15, 3) := dAX1_beginNode_1.2.2.2.1
theorem dX1_beginNode_23 : decode cX1_beginNode 23 = .ok (.aload_n 0, 1) := dAX1_beginNode_1.2.2.2.2.1
theorem dX1_beginNode_24 : decode cX1_beginNode 24 = .ok (.getfield 55, 3) := dAX1_beginNode_1.2.2.2.2.2.1
theorem dX1_beginNode_27 : decode cX1_beginNode 27 = .ok (.iconst 0, 1) := dAX1_beginNode_1.2.2.2.2.2.2.1
theorem dX1_beginNode_28 : decode cX1_beginNode 28 = .ok (.iastore, 1) := dAX1_beginNode_1.2.2.2.2.2.2.2
set_option maxRecDepth 100000 in
theorem dAX1_beginNode_2 : decode cX1_beginNode 29 = .ok (.aload_n 0, 1) ∧ decode cX1_beginNode 30 = .ok (.getfield 24, 3) ∧ decode cX1_beginNode 33 = .ok (.aload_n 0, 1) ∧ decode cX1_beginNode 34 = .ok (.getfield 55, 3) ∧ decode cX1_beginNode 37 = .ok (.iconst 0, 1) ∧ decode cX1_beginNode 38 = .ok (.iastore, 1) ∧ decode cX1_beginNode 39 = .ok (.aload_n 0, 1) ∧ decode cX1_beginNode 40 = .ok (.getfield 27, 3) := by decide +kernel
theorem dX1_beginNode_29 : decode cX1_beginNode 29 = .ok (.aload_n 0, 1) := dAX1_beginNode_2.1
theorem dX1_beginNode_30 : decode cX1_beginNode 30 = .ok (.getfield 24, 3) := dAX1_beginNode_2.2.1
theorem dX1_beginNode_33 : decode cX1_beginNode 33 = .ok (.aload_n 0, 1) := dAX1_beginNode_2.2.2.1
theorem dX1_beginNode_34 : decode cX1_beginNode 34 = .ok (.getfield 55, 3) := dAX1_beginNode_2.2.2.2.1
theorem dX1_beginNode_37 : decode cX1_beginNode 37 = .ok (.iconst 0, 1) := dAX1_beginNode_2.2.2.2.2.1
theorem dX1_beginNode_38 : decode cX1_beginNode 38 = .ok (.iastore, 1) := dAX1_beginNode_2.2.2.2.2.2.1
theorem dX1_beginNode_39 : decode cX1_beginNode 39 = .ok (.aload_n 0, 1) := dAX1_beginNode_2.2.2.2.2.2.2.1
theorem dX1_beginNode_40 : decode cX1_beginNode 40 = .ok (.getfield 27, 3) := dAX1_beginNode_2.2.2.2.2.2.2.2
set_option maxRecDepth 100000 in
theorem dAX1_beginNode_3 : decode cX1_beginNode 43 = .ok (.aload_n 0, 1) ∧ decode cX1_beginNode 44 = .ok (.getfield 55, 3) ∧ decode cX1_beginNode 47 = .ok (.iconst 0, 1) ∧ decode cX1_beginNode 48 = .ok (.iastore, 1) ∧ decode cX1_beginNode 49 = .ok (.aload_n 0, 1) ∧ decode cX1_beginNode 50 = .ok (.getfield 30, 3) ∧ decode cX1_beginNode 53 = .ok (.aload_n 0, 1) ∧ decode cX1_beginNode 54 = .ok (.getfield 55, 3) := by decide +kernel
theorem dX1_beginNode_43 : decode cX1_beginNode 43 = .ok (.aload_n 0, 1) := dAX1_beginNode_3.1
theorem dX1_beginNode_44 : decode cX1_beginNode 44 = .ok (.getfield 55, 3) := dAX1_beginNode_3.2.1
theorem dX1_beginNode_47 : decode cX1_beginNode 47 = .ok (.iconst 0, 1) := dAX1_beginNode_3.2.2.1
theorem dX1_beginNode_48 : decode cX1_beginNode 48 = .ok (.iastore, 1) := dAX1_beginNode_3.2.2.2.1
theorem dX1_beginNode_49 : decode cX1_beginNode 49 = .ok (.aload_n 0, 1) := dAX1_beginNode_3.2.2.2.2.1
theorem dX1_beginNode_50 : decode cX1_beginNode 50 = .ok (.getfield 30, 3) := dAX1_beginNode_3.2.2.2.2.2.1
theorem dX1_beginNode_53 : decode cX1_beginNode 53 = .ok (.aload_n 0, 1) := dAX1_beginNode_3.2.2.2.2.2.2.1
theorem dX1_beginNode_54 : decode cX1_beginNode 54 = .ok (.getfield 55, 3) := dAX1_beginNode_3.2.2.2.2.2.2.2
set_option maxRecDepth 100000 in
theorem dAX1_beginNode_4 : decode cX1_beginNode 57 = .ok (.iconst 0, 1) ∧ decode cX1_beginNode 58 = .ok (.iastore, 1) ∧ decode cX1_beginNode 59 = .ok (.aload_n 0, 1) ∧ decode cX1_beginNode 60 = .ok (.getfield 33, 3) ∧ decode cX1_beginNode 63 = .ok (.aload_n 0, 1) ∧ decode cX1_beginNode 64 = .ok (.getfield 55, 3) ∧ decode cX1_beginNode 67 = .ok (.iload_n 1, 1) ∧ decode cX1_beginNode 68 = .ok (.ifCond .ne 12, 3) := by decide +kernel
theorem dX1_beginNode_57 : decode cX1_beginNode 57 = .ok (.iconst 0, 1) := dAX1_beginNode_4.1
theorem dX1_beginNode_58 : decode cX1_beginNode 58 = .ok (.iastore, 1) := dAX1_beginNode_4.2.1
theorem dX1_beginNode_59 : decode cX1_beginNode 59 = .ok (.aload_n 0, 1) := dAX1_beginNode_4.2.2.1
theorem dX1_beginNode_60 : decode cX1_beginNode 60 = .ok (.getfield 33, 3) := dAX1_beginNode_4.2.2.2.1
theorem dX1_beginNode_63 : decode cX1_beginNode 63 = .ok (.aload_n 0, 1) := dAX1_beginNode_4.2.2.2.2.1
theorem dX1_beginNode_64 : decode cX1_beginNode 64 = .ok (.getfield 55, 3) := dAX1_beginNode_4.2.2.2.2.2.1
theorem dX1_beginNode_67 : decode cX1_beginNode 67 = .ok (.iload_n 1, 1) := dAX1_beginNode_4.2.2.2.2.2.2.1
theorem dX1_beginNode_68 : decode cX1_beginNode 68 = .ok (.ifCond .ne 12, 3) := dAX1_beginNode_4.2.2.2.2.2.2.2
set_option maxRecDepth 100000 in
theorem dAX1_beginNode_5 : decode cX1_beginNode 71 = .ok (.iconst 1, 1) ∧ decode cX1_beginNode 72 = .ok (.aload_n 0, 1) ∧ decode cX1_beginNode 73 = .ok (.getfield 55, 3) ∧ decode cX1_beginNode 76 = .ok (.ishl, 1) ∧ decode cX1_beginNode 77 = .ok (.goto 4, 3) ∧ decode cX1_beginNode 80 = .ok (.iconst 0, 1) ∧ decode cX1_beginNode 81 = .ok (.iastore, 1) ∧ decode cX1_beginNode 82 = .ok (.aload_n 0, 1) := by decide +kernel
theorem dX1_beginNode_71 : decode cX1_beginNode 71 = .ok (.iconst 1, 1) := dAX1_beginNode_5.1
theorem dX1_beginNode_72 : decode cX1_beginNode 72 = .ok (.aload_n 0, 1) := dAX1_beginNode_5.2.1
theorem dX1_beginNode_73 : decode cX1_beginNode 73 = .ok (.getfield 55, 3) := dAX1_beginNode_5.2.2.1
theorem dX1_beginNode_76 : decode cX1_beginNode 76 = .ok (.ishl, 1) := dAX1_beginNode_5.2.2.2.1
theorem dX1_beginNode_77 : decode cX1_beginNode 77 = .ok (.goto 4, 3) := dAX1_beginNode_5.2.2.2.2.1
theorem dX1_beginNode_80 : decode cX1_beginNode 80 = .ok (.iconst 0, 1) := dAX1_beginNode_5.2.2.2.2.2.1
theorem dX1_beginNode_81 : decode cX1_beginNode 81 = .ok (.iastore, 1) := dAX1_beginNode_5.2.2.2.2.2.2.1
theorem dX1_beginNode_82 : decode cX1_beginNode 82 = .ok (.aload_n 0, 1) := dAX1_beginNode_5.2.2.2.2.2.2.2
set_option maxRecDepth 100000 in
theorem dAX1_beginNode_6 : decode cX1_beginNode 83 = .ok (.getfield 36, 3) ∧ decode cX1_beginNode 86 = .ok (.aload_n 0, 1) ∧ decode cX1_beginNode 87 = .ok (.getfield 55, 3) ∧ decode cX1_beginNode 90 = .ok (.iconst 0, 1) ∧ decode cX1_beginNode 91 = .ok (.iastore, 1) ∧ decode cX1_beginNode 92 = .ok (.return_, 1) := by decide +kernel
theorem dX1_beginNode_83 : decode cX1_beginNode 83 = .ok (.getfield 36, 3) := dAX1_beginNode_6.1
theorem dX1_beginNode_86 : decode cX1_beginNode 86 = .ok (.aload_n 0, 1) := dAX1_beginNode_6.2.1
theorem dX1_beginNode_87 : decode cX1_beginNode 87 = .ok (.getfield 55, 3) := dAX1_beginNode_6.2.2.1
theorem dX1_beginNode_90 : decode cX1_beginNode 90 = .ok (.iconst 0, 1) := dAX1_beginNode_6.2.2.2.1
theorem dX1_beginNode_91 : decode cX1_beginNode 91 = .ok (.iastore, 1) := dAX1_beginNode_6.2.2.2.2.1
theorem dX1_beginNode_92 : decode cX1_beginNode 92 = .ok (.return_, 1) := dAX1_beginNode_6.2.2.2.2.2
set_option maxRecDepth 100000 in
theorem dAX1_clear_0 : decode cX1_clear 0 = .ok (.aload_n 0, 1) ∧ decode cX1_clear 1 = .ok (.iconst 0, 1) ∧ decode cX1_clear 2 = .ok (.putfield 55, 3) ∧ decode cX1_clear 5 = .ok (.aload_n 0, 1) ∧ decode cX1_clear 6 = .ok (.iconst 0, 1) ∧ decode cX1_clear 7 = .ok (.putfield 58, 3) ∧ decode cX1_clear 10 = .ok (.aload_n 0, 1) ∧ decode cX1_clear 11 = .ok (.iconst 0, 1) := by decide +kernel
theorem dX1_clear_0 : decode cX1_clear 0 = .ok (.aload_n 0, 1) := dAX1_clear_0.1
theorem dX1_clear_1 : decode cX1_clear 1 = .ok (.iconst 0, 1) := dAX1_clear_0.2.1
theorem dX1_clear_2 : decode cX1_clear 2 = .ok (.putfield 55, 3) := dAX1_clear_0.2.2.1
theorem dX1_clear_5 : decode cX1_clear 5 = .ok (.aload_n 0, 1) := dAX1_clear_0.2.2.2.1
theorem dX1_clear_6 : decode cX1_clear 6 = .ok (.iconst 0, 1) := dAX1_clear_0.2.2.2.2.1
theorem dX1_clear_7 : decode cX1_clear 7 = .ok (.putfield 58, 3) := dAX1_clear_0.2.2.2.2.2.1
theorem dX1_clear_10 : decode cX1_clear 10 = .ok (.aload_n 0, 1) := dAX1_clear_0.2.2.2.2.2.2.1
theorem dX1_clear_11 : decode cX1_clear 11 = .ok (.iconst 0, 1) := dAX1_clear_0.2.2.2.2.2.2.2
set_option maxRecDepth 100000 in
theorem dAX1_clear_1 : decode cX1_clear 12 = .ok (.putfield 61, 3) ∧ decode cX1_clear 15 = .ok (.aload_n 0, 1) ∧ decode cX1_clear 16 = .ok (.iconst 0, 1) ∧ decode cX1_clear 17 = .ok (.putfield 64, 3) ∧ decode cX1_clear 20 = .ok (.aload_n 0, 1) ∧ decode cX1_clear 21 = .ok (.iconst 0, 1) ∧ decode cX1_clear 22 = .ok (.putfield 67, 3) ∧ decode cX1_clear 25 = .ok (.aload_n 0, 1) := by decide +kernel
theorem dX1_clear_12 : decode cX1_clear 12 = .ok (.putfield 61, 3) := dAX1_clear_1.1
theorem dX1_clear_15 : decode cX1_clear 15 = .ok (.aload_n 0, 1) := dAX1_clear_1.2.1
theorem dX1_clear_16 : decode cX1_clear 16 = .ok (.iconst 0, 1) := dAX1_clear_1.2.2.1
theorem dX1_clear_17 : decode cX1_clear 17 = .ok (.putfield 64, 3) := dAX1_clear_1.2.2.2.1
theorem dX1_clear_20 : decode cX1_clear 20 = .ok (.aload_n 0, 1) := dAX1_clear_1.2.2.2.2.1
theorem dX1_clear_21 : decode cX1_clear 21 = .ok (.iconst 0, 1) := dAX1_clear_1.2.2.2.2.2.1
theorem dX1_clear_22 : decode cX1_clear 22 = .ok (.putfield 67, 3) := dAX1_clear_1.2.2.2.2.2.2.1
theorem dX1_clear_25 : decode cX1_clear 25 = .ok (.aload_n 0, 1) := dAX1_clear_1.2.2.2.2.2.2.2
set_option maxRecDepth 100000 in
theorem dAX1_clear_2 : decode cX1_clear 26 = .ok (.iconst (-1), 1) ∧ decode cX1_clear 27 = .ok (.putfield 49, 3) ∧ decode cX1_clear 30 = .ok (.aload_n 0, 1) ∧ decode cX1_clear 31 = .ok (.iconst (-1), 1) ∧ decode cX1_clear 32 = .ok (.putfield 45, 3) ∧ decode cX1_clear 35 = .ok (.aload_n 0, 1) ∧ decode cX1_clear 36 = .ok (.iconst 1, 1) ∧ decode cX1_clear 37 = .ok (.putfield 52, 3) := by decide +kernel
theorem dX1_clear_26 : decode cX1_clear 26 = .ok (.iconst (-1), 1) := dAX1_clear_2.1
theorem dX1_clear_27 : decode cX1_clear 27 = .ok (.putfield 49, 3) := dAX1_clear_2.2.1
theorem dX1_clear_30 : decode cX1_clear 30 = .ok (.aload_n 0, 1) := dAX1_clear_2.2.2.1
theorem dX1_clear_31 : decode cX1_clear 31 = .ok (.iconst (-1), 1) := dAX1_clear_2.2.2.2.1
theorem dX1_clear_32 : decode cX1_clear 32 = .ok (.putfield 45, 3) := dAX1_clear_2.2.2.2.2.1
theorem dX1_clear_35 : decode cX1_clear 35 = .ok (.aload_n 0, 1) := dAX1_clear_2.2.2.2.2.2.1
theorem dX1_clear_36 : decode cX1_clear 36 = .ok (.iconst 1, 1) := dAX1_clear_2.2.2.2.2.2.2.1
theorem dX1_clear_37 : decode cX1_clear 37 = .ok (.putfield 52, 3) := dAX1_clear_2.2.2.2.2.2.2.2
theorem dX1_clear_40 : decode cX1_clear 40 = .ok (.return_, 1) := by decide +kernel
set_option maxRecDepth 100000 in
theorem dAX1_endNode_0 : decode cX1_endNode 0 = .ok (.aload_n 0, 1) ∧ decode cX1_endNode 1 = .ok (.getfield 55, 3) ∧ decode cX1_endNode 4 = .ok (.bipush 18, 2) ∧ decode cX1_endNode 6 = .ok (.if_icmp .ge 86, 3) ∧ decode cX1_endNode 9 = .ok (.aload_n 0, 1) ∧ decode cX1_endNode 10 = .ok (.getfield 27, 3) ∧ decode cX1_endNode 13 = .ok (.aload_n 0, 1) ∧ decode cX1_endNode 14 = .ok (.getfield 55, 3) := by decide +kernel
theorem dX1_endNode_0 : decode cX1_endNode 0 = .ok (.aload_n 0, 1) := dAX1_endNode_0.1
theorem dX1_endNode_1 : decode cX1_endNode 1 = .ok (.getfield 55, 3) := dAX1_endNode_0.2.1
theorem dX1_endNode_4 : decode cX1_endNode 4 = .ok (.bipush 18, 2) := dAX1_endNode_0.2.2.1
theorem dX1_endNode_6 : decode cX1_endNode 6 = .ok (.if_icmp .ge 86, 3) := dAX1_endNode_0.2.2.2.1
theorem dX1_endNode_9 : decode cX1_endNode 9 = .ok (.aload_n 0, 1) := dAX1_endNode_0.2.2.2.2.1
theorem dX1_endNode_10 : decode cX1_endNode 10 = .ok (.getfield 27, 3) := dAX1_endNode_0.2.2.2.2.2.1
theorem dX1_endNode_13 : decode cX1_endNode 13 = .ok (.aload_n 0, 1) := dAX1_endNode_0.2.2.2.2.2.2.1
theorem dX1_endNode_14 : decode cX1_endNode 14 = .ok (.getfield 55, 3) := dAX1_endNode_0.2.2.2.2.2.2.2
set_option maxRecDepth 100000 in
theorem dAX1_endNode_1 : decode cX1_endNode 17 = .ok (.iload_n 1, 1) ∧ decode cX1_endNode 18 = .ok (.iastore, 1) ∧ decode cX1_endNode 19 = .ok (.aload_n 0, 1) ∧ decode cX1_endNode 20 = .ok (.getfield 9, 3) ∧ decode cX1_endNode 23 = .ok (.aload_n 0, 1) ∧ decode cX1_endNode 24 = .ok (.getfield 55, 3) ∧ decode cX1_endNode 27 = .ok (.iaload, 1) ∧ decode cX1_endNode 28 = .ok (.ifCond .ne 13, 3) := by decide +kernel
theorem dX1_endNode_17 : decode cX1_endNode 17 = .ok (.iload_n 1, 1) := dAX1_endNode_1.1
theorem dX1_endNode_18 : decode cX1_endNode 18 = .ok (.iastore, 1) := dAX1_endNode_1.2.1
theorem dX1_endNode_19 : decode cX1_endNode 19 = .ok (.aload_n 0, 1) := dAX1_endNode_1.2.2.1
theorem dX1_endNode_20 : decode cX1_endNode 20 = .ok (.getfield 9, 3) := dAX1_endNode_1.2.2.2.1
theorem dX1_endNode_23 : decode cX1_endNode 23 = .ok (.aload_n 0, 1) := dAX1_endNode_1.2.2.2.2.1
theorem dX1_endNode_24 : decode cX1_endNode 24 = .ok (.getfield 55, 3) := dAX1_endNode_1.2.2.2.2.2.1
theorem dX1_endNode_27 : decode cX1_endNode 27 = .ok (.iaload, 1) := dAX1_endNode_1.2.2.2.2.2.2.1
theorem dX1_endNode_28 : decode cX1_endNode 28 = .ok (.ifCond .ne 13, 3) := dAX1_endNode_1.2.2.2.2.2.2.2
set_option maxRecDepth 100000 in
theorem dAX1_endNode_2 : decode cX1_endNode 31 = .ok (.aload_n 0, 1) ∧ decode cX1_endNode 32 = .ok (.dup, 1) ∧ decode cX1_endNode 33 = .ok (.getfield 58, 3) ∧ decode cX1_endNode 36 = .ok (.iconst 1, 1) ∧ decode cX1_endNode 37 = .ok (.iadd, 1) ∧ decode cX1_endNode 38 = .ok (.putfield 58, 3) ∧ decode cX1_endNode 41 = .ok (.aload_n 0, 1) ∧ decode cX1_endNode 42 = .ok (.getfield 9, 3) := by decide +kernel
theorem dX1_endNode_31 : decode cX1_endNode 31 = .ok (.aload_n 0, 1) := dAX1_endNode_2.1
theorem dX1_endNode_32 : decode cX1_endNode 32 = .ok (.dup, 1) := dAX1_endNode_2.2.1
theorem dX1_endNode_33 : decode cX1_endNode 33 = .ok (.getfield 58, 3) := dAX1_endNode_2.2.2.1
theorem dX1_endNode_36 : decode cX1_endNode 36 = .ok (.iconst 1, 1) := dAX1_endNode_2.2.2.2.1
theorem dX1_endNode_37 : decode cX1_endNode 37 = .ok (.iadd, 1) := dAX1_endNode_2.2.2.2.2.1
theorem dX1_endNode_38 : decode cX1_endNode 38 = .ok (.putfield 58, 3) := dAX1_endNode_2.2.2.2.2.2.1
theorem dX1_endNode_41 : decode cX1_endNode 41 = .ok (.aload_n 0, 1) := dAX1_endNode_2.2.2.2.2.2.2.1
theorem dX1_endNode_42 : decode cX1_endNode 42 = .ok (.getfield 9, 3) := dAX1_endNode_2.2.2.2.2.2.2.2
set_option maxRecDepth 100000 in
theorem dAX1_endNode_3 : decode cX1_endNode 45 = .ok (.aload_n 0, 1) ∧ decode cX1_endNode 46 = .ok (.getfield 55, 3) ∧ decode cX1_endNode 49 = .ok (.iaload, 1) ∧ decode cX1_endNode 50 = .ok (.iconst 3, 1) ∧ decode cX1_endNode 51 = .ok (.if_icmp .ne 31, 3) ∧ decode cX1_endNode 54 = .ok (.aload_n 0, 1) ∧ decode cX1_endNode 55 = .ok (.dup, 1) ∧ decode cX1_endNode 56 = .ok (.getfield 61, 3) := by decide +kernel
theorem dX1_endNode_45 : decode cX1_endNode 45 = .ok (.aload_n 0, 1) := dAX1_endNode_3.1
theorem dX1_endNode_46 : decode cX1_endNode 46 = .ok (.getfield 55, 3) := dAX1_endNode_3.2.1
theorem dX1_endNode_49 : decode cX1_endNode 49 = .ok (.iaload, 1) := dAX1_endNode_3.2.2.1
theorem dX1_endNode_50 : decode cX1_endNode 50 = .ok (.iconst 3, 1) := dAX1_endNode_3.2.2.2.1
theorem dX1_endNode_51 : decode cX1_endNode 51 = .ok (.if_icmp .ne 31, 3) := dAX1_endNode_3.2.2.2.2.1
theorem dX1_endNode_54 : decode cX1_endNode 54 = .ok (.aload_n 0, 1) := dAX1_endNode_3.2.2.2.2.2.1
theorem dX1_endNode_55 : decode cX1_endNode 55 = .ok (.dup, 1) := dAX1_endNode_3.2.2.2.2.2.2.1
theorem dX1_endNode_56 : decode cX1_endNode 56 = .ok (.getfield 61, 3) := dAX1_endNode_3.2.2.2.2.2.2.2
set_option maxRecDepth 100000 in
theorem dAX1_endNode_4 : decode cX1_endNode 59 = .ok (.iconst 1, 1) ∧ decode cX1_endNode 60 = .ok (.iadd, 1) ∧ decode cX1_endNode 61 = .ok (.putfield 61, 3) ∧ decode cX1_endNode 64 = .ok (.aload_n 0, 1) ∧ decode cX1_endNode 65 = .ok (.dup, 1) ∧ decode cX1_endNode 66 = .ok (.getfield 52, 3) ∧ decode cX1_endNode 69 = .ok (.aload_n 0, 1) ∧ decode cX1_endNode 70 = .ok (.getfield 24, 3) := by decide +kernel
theorem dX1_endNode_59 : decode cX1_endNode 59 = .ok (.iconst 1, 1) := dAX1_endNode_4.1
theorem dX1_endNode_60 : decode cX1_endNode 60 = .ok (.iadd, 1) := dAX1_endNode_4.2.1
theorem dX1_endNode_61 : decode cX1_endNode 61 = .ok (.putfield 61, 3) := dAX1_endNode_4.2.2.1
theorem dX1_endNode_64 : decode cX1_endNode 64 = .ok (.aload_n 0, 1) := dAX1_endNode_4.2.2.2.1
theorem dX1_endNode_65 : decode cX1_endNode 65 = .ok (.dup, 1) := dAX1_endNode_4.2.2.2.2.1
theorem dX1_endNode_66 : decode cX1_endNode 66 = .ok (.getfield 52, 3) := dAX1_endNode_4.2.2.2.2.2.1
theorem dX1_endNode_69 : decode cX1_endNode 69 = .ok (.aload_n 0, 1) := dAX1_endNode_4.2.2.2.2.2.2.1
theorem dX1_endNode_70 : decode cX1_endNode 70 = .ok (.getfield 24, 3) := dAX1_endNode_4.2.2.2.2.2.2.2
set_option maxRecDepth 100000 in
theorem dAX1_endNode_5 : decode cX1_endNode 73 = .ok (.aload_n 0, 1) ∧ decode cX1_endNode 74 = .ok (.getfield 55, 3) ∧ decode cX1_endNode 77 = .ok (.iaload, 1) ∧ decode cX1_endNode 78 = .ok (.imul, 1) ∧ decode cX1_endNode 79 = .ok (.putfield 52, 3) ∧ decode cX1_endNode 82 = .ok (.aload_n 0, 1) ∧ decode cX1_endNode 83 = .ok (.dup, 1) ∧ decode cX1_endNode 84 = .ok (.getfield 55, 3) := by decide +kernel
theorem dX1_endNode_73 : decode cX1_endNode 73 = .ok (.aload_n 0, 1) := dAX1_endNode_5.1
theorem dX1_endNode_74 : decode cX1_endNode 74 = .ok (.getfield 55, 3) := dAX1_endNode_5.2.1
theorem dX1_endNode_77 : decode cX1_endNode 77 = .ok (.iaload, 1) := dAX1_endNode_5.2.2.1
theorem dX1_endNode_78 : decode cX1_endNode 78 = .ok (.imul, 1) := dAX1_endNode_5.2.2.2.1
theorem dX1_endNode_79 : decode cX1_endNode 79 = .ok (.putfield 52, 3) := dAX1_endNode_5.2.2.2.2.1
theorem dX1_endNode_82 : decode cX1_endNode 82 = .ok (.aload_n 0, 1) := dAX1_endNode_5.2.2.2.2.2.1
theorem dX1_endNode_83 : decode cX1_endNode 83 = .ok (.dup, 1) := dAX1_endNode_5.2.2.2.2.2.2.1
theorem dX1_endNode_84 : decode cX1_endNode 84 = .ok (.getfield 55, 3) := dAX1_endNode_5.2.2.2.2.2.2.2
set_option maxRecDepth 100000 in
theorem dAX1_endNode_6 : decode cX1_endNode 87 = .ok (.iconst 1, 1) ∧ decode cX1_endNode 88 = .ok (.iadd, 1) ∧ decode cX1_endNode 89 = .ok (.putfield 55, 3) ∧ decode cX1_endNode 92 = .ok (.return_, 1) := by decide +kernel
theorem dX1_endNode_87 : decode cX1_endNode 87 = .ok (.iconst 1, 1) := dAX1_endNode_6.1
theorem dX1_endNode_88 : decode cX1_endNode 88 = .ok (.iadd, 1) := dAX1_endNode_6.2.1
theorem dX1_endNode_89 : decode cX1_endNode 89 = .ok (.putfield 55, 3) := dAX1_endNode_6.2.2.1
theorem dX1_endNode_92 : decode cX1_endNode 92 = .ok (.return_, 1) := dAX1_endNode_6.2.2.2
set_option maxRecDepth 100000 in
theorem dAX1_hasNode_0 : decode cX1_hasNode 0 = .ok (.iload_n 1, 1) ∧ decode cX1_hasNode 1 = .ok (.ifCond .lt 15, 3) ∧ decode cX1_hasNode 4 = .ok (.iload_n 1, 1) ∧ decode cX1_hasNode 5 = .ok (.aload_n 0, 1) ∧ decode cX1_hasNode 6 = .ok (.getfield 55, 3) ∧ decode cX1_hasNode 9 = .ok (.if_icmp .ge 7, 3) ∧ decode cX1_hasNode 12 = .ok (.iconst 1, 1) ∧ decode cX1_hasNode 13 = .ok (.goto 4, 3) := by decide +kernel
theorem dX1_hasNode_0 : decode cX1_hasNode 0 = .ok (.iload_n 1, 1) := dAX1_hasNode_0.1
theorem dX1_hasNode_1 : decode cX1_hasNode 1 = .ok (.ifCond .lt 15, 3) := dAX1_hasNode_0.2.1
theorem dX1_hasNode_4 : decode cX1_hasNode 4 = .ok (.iload_n 1, 1) := dAX1_hasNode_0.2.2.1
theorem dX1_hasNode_5 : decode cX1_hasNode 5 = .ok (.aload_n 0, 1) := dAX1_hasNode_0.2.2.2.1
theorem dX1_hasNode_6 : decode cX1_hasNode 6 = .ok (.getfield 55, 3) := dAX1_hasNode_0.2.2.2.2.1
theorem dX1_hasNode_9 : decode cX1_hasNode 9 = .ok (.if_icmp .ge 7, 3) := dAX1_hasNode_0.2.2.2.2.2.1
theorem dX1_hasNode_12 : decode cX1_hasNode 12 = .ok (.iconst 1, 1) := dAX1_hasNode_0.2.2.2.2.2.2.1
theorem dX1_hasNode_13 : decode cX1_hasNode 13 = .ok (.goto 4, 3) := dAX1_hasNode_0.2.2.2.2.2.2.2
set_option maxRecDepth 100000 in
theorem dAX1_hasNode_1 : decode cX1_hasNode 16 = .ok (.iconst 0, 1) ∧ decode cX1_hasNode 17 = .ok (.ireturn, 1) := by decide +kernel
theorem dX1_hasNode_16 : decode cX1_hasNode 16 = .ok (.iconst 0, 1) := dAX1_hasNode_1.1
theorem dX1_hasNode_17 : decode cX1_hasNode 17 = .ok (.ireturn, 1) := dAX1_hasNode_1.2
set_option maxRecDepth 100000 in
theorem dAX1_hasRoomFor_0 : decode cX1_hasRoomFor 0 = .ok (.aload_n 0, 1) ∧ decode cX1_hasRoomFor 1 = .ok (.getfield 55, 3) ∧ decode cX1_hasRoomFor 4 = .ok (.bipush 18, 2) ∧ decode cX1_hasRoomFor 6 = .ok (.if_icmp .lt 5, 3) ∧ decode cX1_hasRoomFor 9 = .ok (.iconst 0, 1) ∧ decode cX1_hasRoomFor 10 = .ok (.ireturn, 1) ∧ decode cX1_hasRoomFor 11 = .ok (.iload_n 1, 1) ∧ decode cX1_hasRoomFor 12 = .ok (.ifCond .ne 18, 3) := by decide +kernel
theorem dX1_hasRoomFor_0 : decode cX1_hasRoomFor 0 = .ok (.aload_n 0, 1) := dAX1_hasRoomFor_0.1
theorem dX1_hasRoomFor_1 : decode cX1_hasRoomFor 1 = .ok (.getfield 55, 3) := dAX1_hasRoomFor_0.2.1
theorem dX1_hasRoomFor_4 : decode cX1_hasRoomFor 4 = .ok (.bipush 18, 2) := dAX1_hasRoomFor_0.2.2.1
theorem dX1_hasRoomFor_6 : decode cX1_hasRoomFor 6 = .ok (.if_icmp .lt 5, 3) := dAX1_hasRoomFor_0.2.2.2.1
theorem dX1_hasRoomFor_9 : decode cX1_hasRoomFor 9 = .ok (.iconst 0, 1) := dAX1_hasRoomFor_0.2.2.2.2.1
theorem dX1_hasRoomFor_10 : decode cX1_hasRoomFor 10 = .ok (.ireturn, 1) := dAX1_hasRoomFor_0.2.2.2.2.2.1
theorem dX1_hasRoomFor_11 : decode cX1_hasRoomFor 11 = .ok (.iload_n 1, 1) := dAX1_hasRoomFor_0.2.2.2.2.2.2.1
theorem dX1_hasRoomFor_12 : decode cX1_hasRoomFor 12 = .ok (.ifCond .ne 18, 3) := dAX1_hasRoomFor_0.2.2.2.2.2.2.2
set_option maxRecDepth 100000 in
theorem dAX1_hasRoomFor_1 : decode cX1_hasRoomFor 15 = .ok (.aload_n 0, 1) ∧ decode cX1_hasRoomFor 16 = .ok (.getfield 58, 3) ∧ decode cX1_hasRoomFor 19 = .ok (.bipush 10, 2) ∧ decode cX1_hasRoomFor 21 = .ok (.if_icmp .ge 7, 3) ∧ decode cX1_hasRoomFor 24 = .ok (.iconst 1, 1) ∧ decode cX1_hasRoomFor 25 = .ok (.goto 4, 3) ∧ decode cX1_hasRoomFor 28 = .ok (.iconst 0, 1) ∧ decode cX1_hasRoomFor 29 = .ok (.ireturn, 1) := by decide +kernel
theorem dX1_hasRoomFor_15 : decode cX1_hasRoomFor 15 = .ok (.aload_n 0, 1) := dAX1_hasRoomFor_1.1
theorem dX1_hasRoomFor_16 : decode cX1_hasRoomFor 16 = .ok (.getfield 58, 3) := dAX1_hasRoomFor_1.2.1
theorem dX1_hasRoomFor_19 : decode cX1_hasRoomFor 19 = .ok (.bipush 10, 2) := dAX1_hasRoomFor_1.2.2.1
theorem dX1_hasRoomFor_21 : decode cX1_hasRoomFor 21 = .ok (.if_icmp .ge 7, 3) := dAX1_hasRoomFor_1.2.2.2.1
theorem dX1_hasRoomFor_24 : decode cX1_hasRoomFor 24 = .ok (.iconst 1, 1) := dAX1_hasRoomFor_1.2.2.2.2.1
theorem dX1_hasRoomFor_25 : decode cX1_hasRoomFor 25 = .ok (.goto 4, 3) := dAX1_hasRoomFor_1.2.2.2.2.2.1
theorem dX1_hasRoomFor_28 : decode cX1_hasRoomFor 28 = .ok (.iconst 0, 1) := dAX1_hasRoomFor_1.2.2.2.2.2.2.1
theorem dX1_hasRoomFor_29 : decode cX1_hasRoomFor 29 = .ok (.ireturn, 1) := dAX1_hasRoomFor_1.2.2.2.2.2.2.2
set_option maxRecDepth 100000 in
theorem dAX1_hasRoomFor_2 : decode cX1_hasRoomFor 30 = .ok (.aload_n 0, 1) ∧ decode cX1_hasRoomFor 31 = .ok (.getfield 55, 3) ∧ decode cX1_hasRoomFor 34 = .ok (.aload_n 0, 1) ∧ decode cX1_hasRoomFor 35 = .ok (.getfield 58, 3) ∧ decode cX1_hasRoomFor 38 = .ok (.isub, 1) ∧ decode cX1_hasRoomFor 39 = .ok (.bipush 8, 2) ∧ decode cX1_hasRoomFor 41 = .ok (.if_icmp .ge 20, 3) ∧ decode cX1_hasRoomFor 44 = .ok (.iload_n 1, 1) := by decide +kernel
theorem dX1_hasRoomFor_30 : decode cX1_hasRoomFor 30 = .ok (.aload_n 0, 1) := dAX1_hasRoomFor_2.1
theorem dX1_hasRoomFor_31 : decode cX1_hasRoomFor 31 = .ok (.getfield 55, 3) := dAX1_hasRoomFor_2.2.1
theorem dX1_hasRoomFor_34 : decode cX1_hasRoomFor 34 = .ok (.aload_n 0, 1) := dAX1_hasRoomFor_2.2.2.1
theorem dX1_hasRoomFor_35 : decode cX1_hasRoomFor 35 = .ok (.getfield 58, 3) := dAX1_hasRoomFor_2.2.2.2.1
theorem dX1_hasRoomFor_38 : decode cX1_hasRoomFor 38 = .ok (.isub, 1) := dAX1_hasRoomFor_2.2.2.2.2.1
theorem dX1_hasRoomFor_39 : decode cX1_hasRoomFor 39 = .ok (.bipush 8, 2) := dAX1_hasRoomFor_2.2.2.2.2.2.1
theorem dX1_hasRoomFor_41 : decode cX1_hasRoomFor 41 = .ok (.if_icmp .ge 20, 3) := dAX1_hasRoomFor_2.2.2.2.2.2.2.1
theorem dX1_hasRoomFor_44 : decode cX1_hasRoomFor 44 = .ok (.iload_n 1, 1) := dAX1_hasRoomFor_2.2.2.2.2.2.2.2
set_option maxRecDepth 100000 in
theorem dAX1_hasRoomFor_3 : decode cX1_hasRoomFor 45 = .ok (.iconst 3, 1) ∧ decode cX1_hasRoomFor 46 = .ok (.if_icmp .ne 11, 3) ∧ decode cX1_hasRoomFor 49 = .ok (.aload_n 0, 1) ∧ decode cX1_hasRoomFor 50 = .ok (.getfield 61, 3) ∧ decode cX1_hasRoomFor 53 = .ok (.iconst 2, 1) ∧ decode cX1_hasRoomFor 54 = .ok (.if_icmp .ge 7, 3) ∧ decode cX1_hasRoomFor 57 = .ok (.iconst 1, 1) ∧ decode cX1_hasRoomFor 58 = .ok (.goto 4, 3) := by decide +kernel
theorem dX1_hasRoomFor_45 : decode cX1_hasRoomFor 45 = .ok (.iconst 3, 1) := dAX1_hasRoomFor_3.1
theorem dX1_hasRoomFor_46 : decode cX1_hasRoomFor 46 = .ok (.if_icmp .ne 11, 3) := dAX1_hasRoomFor_3.2.1
theorem dX1_hasRoomFor_49 : decode cX1_hasRoomFor 49 = .ok (.aload_n 0, 1) := dAX1_hasRoomFor_3.2.2.1
theorem dX1_hasRoomFor_50 : decode cX1_hasRoomFor 50 = .ok (.getfield 61, 3) := dAX1_hasRoomFor_3.2.2.2.1
theorem dX1_hasRoomFor_53 : decode cX1_hasRoomFor 53 = .ok (.iconst 2, 1) := dAX1_hasRoomFor_3.2.2.2.2.1
theorem dX1_hasRoomFor_54 : decode cX1_hasRoomFor 54 = .ok (.if_icmp .ge 7, 3) := dAX1_hasRoomFor_3.2.2.2.2.2.1
theorem dX1_hasRoomFor_57 : decode cX1_hasRoomFor 57 = .ok (.iconst 1, 1) := dAX1_hasRoomFor_3.2.2.2.2.2.2.1
theorem dX1_hasRoomFor_58 : decode cX1_hasRoomFor 58 = .ok (.goto 4, 3) := dAX1_hasRoomFor_3.2.2.2.2.2.2.2
set_option maxRecDepth 100000 in
theorem dAX1_hasRoomFor_4 : decode cX1_hasRoomFor 61 = .ok (.iconst 0, 1) ∧ decode cX1_hasRoomFor 62 = .ok (.ireturn, 1) := by decide +kernel
theorem dX1_hasRoomFor_61 : decode cX1_hasRoomFor 61 = .ok (.iconst 0, 1) := dAX1_hasRoomFor_4.1
theorem dX1_hasRoomFor_62 : decode cX1_hasRoomFor 62 = .ok (.ireturn, 1) := dAX1_hasRoomFor_4.2
set_option maxRecDepth 100000 in
theorem dAX1_hasRoomForPart_0 : decode cX1_hasRoomForPart 0 = .ok (.aload_n 0, 1) ∧ decode cX1_hasRoomForPart 1 = .ok (.getfield 55, 3) ∧ decode cX1_hasRoomForPart 4 = .ok (.bipush 18, 2) ∧ decode cX1_hasRoomForPart 6 = .ok (.if_icmp .ge 20, 3) ∧ decode cX1_hasRoomForPart 9 = .ok (.aload_n 0, 1) ∧ decode cX1_hasRoomForPart 10 = .ok (.getfield 15, 3) ∧ decode cX1_hasRoomForPart 13 = .ok (.aload_n 0, 1) ∧ decode cX1_hasRoomForPart 14 = .ok (.getfield 55, 3) := by decide +kernel
theorem dX1_hasRoomForPart_0 : decode cX1_hasRoomForPart 0 = .ok (.aload_n 0, 1) := dAX1_hasRoomForPart_0.1
theorem dX1_hasRoomForPart_1 : decode cX1_hasRoomForPart 1 = .ok (.getfield 55, 3) := dAX1_hasRoomForPart_0.2.1
theorem dX1_hasRoomForPart_4 : decode cX1_hasRoomForPart 4 = .ok (.bipush 18, 2) := dAX1_hasRoomForPart_0.2.2.1
theorem dX1_hasRoomForPart_6 : decode cX1_hasRoomForPart 6 = .ok (.if_icmp .ge 20, 3) := dAX1_hasRoomForPart_0.2.2.2.1
theorem dX1_hasRoomForPart_9 : decode cX1_hasRoomForPart 9 = .ok (.aload_n 0, 1) := dAX1_hasRoomForPart_0.2.2.2.2.1
theorem dX1_hasRoomForPart_10 : decode cX1_hasRoomForPart 10 = .ok (.getfield 15, 3) := dAX1_hasRoomForPart_0.2.2.2.2.2.1
theorem dX1_hasRoomForPart_13 : decode cX1_hasRoomForPart 13 = .ok (.aload_n 0, 1) := dAX1_hasRoomForPart_0.2.2.2.2.2.2.1
theorem dX1_hasRoomForPart_14 : decode cX1_hasRoomForPart 14 = .ok (.getfield 55, 3) := dAX1_hasRoomForPart_0.2.2.2.2.2.2.2
set_option maxRecDepth 100000 in
theorem dAX1_hasRoomForPart_1 : decode cX1_hasRoomForPart 17 = .ok (.iaload, 1) ∧ decode cX1_hasRoomForPart 18 = .ok (.iconst 4, 1) ∧ decode cX1_hasRoomForPart 19 = .ok (.if_icmp .ge 7, 3) ∧ decode cX1_hasRoomForPart 22 = .ok (.iconst 1, 1) ∧ decode cX1_hasRoomForPart 23 = .ok (.goto 4, 3) ∧ decode cX1_hasRoomForPart 26 = .ok (.iconst 0, 1) ∧ decode cX1_hasRoomForPart 27 = .ok (.ireturn, 1) := by decide +kernel
theorem dX1_hasRoomForPart_17 : decode cX1_hasRoomForPart 17 = .ok (.iaload, 1) := dAX1_hasRoomForPart_1.1
theorem dX1_hasRoomForPart_18 : decode cX1_hasRoomForPart 18 = .ok (.iconst 4, 1) := dAX1_hasRoomForPart_1.2.1
theorem dX1_hasRoomForPart_19 : decode cX1_hasRoomForPart 19 = .ok (.if_icmp .ge 7, 3) := dAX1_hasRoomForPart_1.2.2.1
theorem dX1_hasRoomForPart_22 : decode cX1_hasRoomForPart 22 = .ok (.iconst 1, 1) := dAX1_hasRoomForPart_1.2.2.2.1
theorem dX1_hasRoomForPart_23 : decode cX1_hasRoomForPart 23 = .ok (.goto 4, 3) := dAX1_hasRoomForPart_1.2.2.2.2.1
theorem dX1_hasRoomForPart_26 : decode cX1_hasRoomForPart 26 = .ok (.iconst 0, 1) := dAX1_hasRoomForPart_1.2.2.2.2.2.1
theorem dX1_hasRoomForPart_27 : decode cX1_hasRoomForPart 27 = .ok (.ireturn, 1) := dAX1_hasRoomForPart_1.2.2.2.2.2.2
set_option maxRecDepth 100000 in
theorem dAX1_hasWord_0 : decode cX1_hasWord 0 = .ok (.aload_n 0, 1) ∧ decode cX1_hasWord 1 = .ok (.iload_n 1, 1) ∧ decode cX1_hasWord 2 = .ok (.invokevirtual 70, 3) ∧ decode cX1_hasWord 5 = .ok (.ifCond .eq 16, 3) ∧ decode cX1_hasWord 8 = .ok (.aload_n 0, 1) ∧ decode cX1_hasWord 9 = .ok (.getfield 9, 3) ∧ decode cX1_hasWord 12 = .ok (.iload_n 1, 1) ∧ decode cX1_hasWord 13 = .ok (.iaload, 1) := by decide +kernel
theorem dX1_hasWord_0 : decode cX1_hasWord 0 = .ok (.aload_n 0, 1) := dAX1_hasWord_0.1
theorem dX1_hasWord_1 : decode cX1_hasWord 1 = .ok (.iload_n 1, 1) := dAX1_hasWord_0.2.1
theorem dX1_hasWord_2 : decode cX1_hasWord 2 = .ok (.invokevirtual 70, 3) := dAX1_hasWord_0.2.2.1
theorem dX1_hasWord_5 : decode cX1_hasWord 5 = .ok (.ifCond .eq 16, 3) := dAX1_hasWord_0.2.2.2.1
theorem dX1_hasWord_8 : decode cX1_hasWord 8 = .ok (.aload_n 0, 1) := dAX1_hasWord_0.2.2.2.2.1
theorem dX1_hasWord_9 : decode cX1_hasWord 9 = .ok (.getfield 9, 3) := dAX1_hasWord_0.2.2.2.2.2.1
theorem dX1_hasWord_12 : decode cX1_hasWord 12 = .ok (.iload_n 1, 1) := dAX1_hasWord_0.2.2.2.2.2.2.1
theorem dX1_hasWord_13 : decode cX1_hasWord 13 = .ok (.iaload, 1) := dAX1_hasWord_0.2.2.2.2.2.2.2
set_option maxRecDepth 100000 in
theorem dAX1_hasWord_1 : decode cX1_hasWord 14 = .ok (.ifCond .ne 7, 3) ∧ decode cX1_hasWord 17 = .ok (.iconst 1, 1) ∧ decode cX1_hasWord 18 = .ok (.goto 4, 3) ∧ decode cX1_hasWord 21 = .ok (.iconst 0, 1) ∧ decode cX1_hasWord 22 = .ok (.ireturn, 1) := by decide +kernel
theorem dX1_hasWord_14 : decode cX1_hasWord 14 = .ok (.ifCond .ne 7, 3) := dAX1_hasWord_1.1
theorem dX1_hasWord_17 : decode cX1_hasWord 17 = .ok (.iconst 1, 1) := dAX1_hasWord_1.2.1
theorem dX1_hasWord_18 : decode cX1_hasWord 18 = .ok (.goto 4, 3) := dAX1_hasWord_1.2.2.1
theorem dX1_hasWord_21 : decode cX1_hasWord 21 = .ok (.iconst 0, 1) := dAX1_hasWord_1.2.2.2.1
theorem dX1_hasWord_22 : decode cX1_hasWord 22 = .ok (.ireturn, 1) := dAX1_hasWord_1.2.2.2.2
set_option maxRecDepth 100000 in
theorem dAX1_init_0 : decode cX1_init 0 = .ok (.aload_n 0, 1) ∧ decode cX1_init 1 = .ok (.invokespecial 3, 3) ∧ decode cX1_init 4 = .ok (.aload_n 0, 1) ∧ decode cX1_init 5 = .ok (.bipush 18, 2) ∧ decode cX1_init 7 = .ok (.newarray .int, 2) ∧ decode cX1_init 9 = .ok (.putfield 9, 3) ∧ decode cX1_init 12 = .ok (.aload_n 0, 1) ∧ decode cX1_init 13 = .ok (.bipush 18, 2) := by decide +kernel
theorem dX1_init_0 : decode cX1_init 0 = .ok (.aload_n 0, 1) := dAX1_init_0.1
theorem dX1_init_1 : decode cX1_init 1 = .ok (.invokespecial 3, 3) := dAX1_init_0.2.1
theorem dX1_init_4 : decode cX1_init 4 = .ok (.aload_n 0, 1) := dAX1_init_0.2.2.1
theorem dX1_init_5 : decode cX1_init 5 = .ok (.bipush 18, 2) := dAX1_init_0.2.2.2.1
theorem dX1_init_7 : decode cX1_init 7 = .ok (.newarray .int, 2) := dAX1_init_0.2.2.2.2.1
theorem dX1_init_9 : decode cX1_init 9 = .ok (.putfield 9, 3) := dAX1_init_0.2.2.2.2.2.1
theorem dX1_init_12 : decode cX1_init 12 = .ok (.aload_n 0, 1) := dAX1_init_0.2.2.2.2.2.2.1
theorem dX1_init_13 : decode cX1_init 13 = .ok (.bipush 18, 2) := dAX1_init_0.2.2.2.2.2.2.2
set_option maxRecDepth 100000 in
theorem dAX1_init_1 : decode cX1_init 15 = .ok (.newarray .int, 2) ∧ decode cX1_init 17 = .ok (.putfield 15, 3) ∧ decode cX1_init 20 = .ok (.aload_n 0, 1) ∧ decode cX1_init 21 = .ok (.bipush 72, 2) ∧ decode cX1_init 23 = .ok (.newarray .int, 2) ∧ decode cX1_init 25 = .ok (.putfield 18, 3) ∧ decode cX1_init 28 = .ok (.aload_n 0, 1) ∧ decode cX1_init 29 = .ok (.bipush 72, 2) := by decide +kernel
theorem dX1_init_15 : decode cX1_init 15 = .ok (.newarray .int, 2) := dAX1_init_1.1
theorem dX1_init_17 : decode cX1_init 17 = .ok (.putfield 15, 3) := dAX1_init_1.2.1
theorem dX1_init_20 : decode cX1_init 20 = .ok (.aload_n 0, 1) := dAX1_init_1.2.2.1
theorem dX1_init_21 : decode cX1_init 21 = .ok (.bipush 72, 2) := dAX1_init_1.2.2.2.1
theorem dX1_init_23 : decode cX1_init 23 = .ok (.newarray .int, 2) := dAX1_init_1.2.2.2.2.1
theorem dX1_init_25 : decode cX1_init 25 = .ok (.putfield 18, 3) := dAX1_init_1.2.2.2.2.2.1
theorem dX1_init_28 : decode cX1_init 28 = .ok (.aload_n 0, 1) := dAX1_init_1.2.2.2.2.2.2.1
theorem dX1_init_29 : decode cX1_init 29 = .ok (.bipush 72, 2) := dAX1_init_1.2.2.2.2.2.2.2
set_option maxRecDepth 100000 in
theorem dAX1_init_2 : decode cX1_init 31 = .ok (.newarray .int, 2) ∧ decode cX1_init 33 = .ok (.putfield 21, 3) ∧ decode cX1_init 36 = .ok (.aload_n 0, 1) ∧ decode cX1_init 37 = .ok (.bipush 18, 2) ∧ decode cX1_init 39 = .ok (.newarray .int, 2) ∧ decode cX1_init 41 = .ok (.putfield 24, 3) ∧ decode cX1_init 44 = .ok (.aload_n 0, 1) ∧ decode cX1_init 45 = .ok (.bipush 18, 2) := by decide +kernel
theorem dX1_init_31 : decode cX1_init 31 = .ok (.newarray .int, 2) := dAX1_init_2.1
theorem dX1_init_33 : decode cX1_init 33 = .ok (.putfield 21, 3) := dAX1_init_2.2.1
theorem dX1_init_36 : decode cX1_init 36 = .ok (.aload_n 0, 1) := dAX1_init_2.2.2.1
theorem dX1_init_37 : decode cX1_init 37 = .ok (.bipush 18, 2) := dAX1_init_2.2.2.2.1
theorem dX1_init_39 : decode cX1_init 39 = .ok (.newarray .int, 2) := dAX1_init_2.2.2.2.2.1
theorem dX1_init_41 : decode cX1_init 41 = .ok (.putfield 24, 3) := dAX1_init_2.2.2.2.2.2.1
theorem dX1_init_44 : decode cX1_init 44 = .ok (.aload_n 0, 1) := dAX1_init_2.2.2.2.2.2.2.1
theorem dX1_init_45 : decode cX1_init 45 = .ok (.bipush 18, 2) := dAX1_init_2.2.2.2.2.2.2.2
set_option maxRecDepth 100000 in
theorem dAX1_init_3 : decode cX1_init 47 = .ok (.newarray .int, 2) ∧ decode cX1_init 49 = .ok (.putfield 27, 3) ∧ decode cX1_init 52 = .ok (.aload_n 0, 1) ∧ decode cX1_init 53 = .ok (.bipush 18, 2) ∧ decode cX1_init 55 = .ok (.newarray .int, 2) ∧ decode cX1_init 57 = .ok (.putfield 30, 3) ∧ decode cX1_init 60 = .ok (.aload_n 0, 1) ∧ decode cX1_init 61 = .ok (.bipush 18, 2) := by decide +kernel
theorem dX1_init_47 : decode cX1_init 47 = .ok (.newarray .int, 2) := dAX1_init_3.1
theorem dX1_init_49 : decode cX1_init 49 = .ok (.putfield 27, 3) := dAX1_init_3.2.1
theorem dX1_init_52 : decode cX1_init 52 = .ok (.aload_n 0, 1) := dAX1_init_3.2.2.1
theorem dX1_init_53 : decode cX1_init 53 = .ok (.bipush 18, 2) := dAX1_init_3.2.2.2.1
theorem dX1_init_55 : decode cX1_init 55 = .ok (.newarray .int, 2) := dAX1_init_3.2.2.2.2.1
theorem dX1_init_57 : decode cX1_init 57 = .ok (.putfield 30, 3) := dAX1_init_3.2.2.2.2.2.1
theorem dX1_init_60 : decode cX1_init 60 = .ok (.aload_n 0, 1) := dAX1_init_3.2.2.2.2.2.2.1
theorem dX1_init_61 : decode cX1_init 61 = .ok (.bipush 18, 2) := dAX1_init_3.2.2.2.2.2.2.2
set_option maxRecDepth 100000 in
theorem dAX1_init_4 : decode cX1_init 63 = .ok (.newarray .int, 2) ∧ decode cX1_init 65 = .ok (.putfield 33, 3) ∧ decode cX1_init 68 = .ok (.aload_n 0, 1) ∧ decode cX1_init 69 = .ok (.bipush 18, 2) ∧ decode cX1_init 71 = .ok (.newarray .int, 2) ∧ decode cX1_init 73 = .ok (.putfield 36, 3) ∧ decode cX1_init 76 = .ok (.aload_n 0, 1) ∧ decode cX1_init 77 = .ok (.iconst 4, 1) := by decide +kernel
theorem dX1_init_63 : decode cX1_init 63 = .ok (.newarray .int, 2) := dAX1_init_4.1
theorem dX1_init_65 : decode cX1_init 65 = .ok (.putfield 33, 3) := dAX1_init_4.2.1
theorem dX1_init_68 : decode cX1_init 68 = .ok (.aload_n 0, 1) := dAX1_init_4.2.2.1
theorem dX1_init_69 : decode cX1_init 69 = .ok (.bipush 18, 2) := dAX1_init_4.2.2.2.1
theorem dX1_init_71 : decode cX1_init 71 = .ok (.newarray .int, 2) := dAX1_init_4.2.2.2.2.1
theorem dX1_init_73 : decode cX1_init 73 = .ok (.putfield 36, 3) := dAX1_init_4.2.2.2.2.2.1
theorem dX1_init_76 : decode cX1_init 76 = .ok (.aload_n 0, 1) := dAX1_init_4.2.2.2.2.2.2.1
theorem dX1_init_77 : decode cX1_init 77 = .ok (.iconst 4, 1) := dAX1_init_4.2.2.2.2.2.2.2
set_option maxRecDepth 100000 in
theorem dAX1_init_5 : decode cX1_init 78 = .ok (.newarray .int, 2) ∧ decode cX1_init 80 = .ok (.putfield 39, 3) ∧ decode cX1_init 83 = .ok (.aload_n 0, 1) ∧ decode cX1_init 84 = .ok (.iconst 4, 1) ∧ decode cX1_init 85 = .ok (.newarray .int, 2) ∧ decode cX1_init 87 = .ok (.putfield 42, 3) ∧ decode cX1_init 90 = .ok (.aload_n 0, 1) ∧ decode cX1_init 91 = .ok (.iconst (-1), 1) := by decide +kernel
theorem dX1_init_78 : decode cX1_init 78 = .ok (.newarray .int, 2) := dAX1_init_5.1
theorem dX1_init_80 : decode cX1_init 80 = .ok (.putfield 39, 3) := dAX1_init_5.2.1
theorem dX1_init_83 : decode cX1_init 83 = .ok (.aload_n 0, 1) := dAX1_init_5.2.2.1
theorem dX1_init_84 : decode cX1_init 84 = .ok (.iconst 4, 1) := dAX1_init_5.2.2.2.1
theorem dX1_init_85 : decode cX1_init 85 = .ok (.newarray .int, 2) := dAX1_init_5.2.2.2.2.1
theorem dX1_init_87 : decode cX1_init 87 = .ok (.putfield 42, 3) := dAX1_init_5.2.2.2.2.2.1
theorem dX1_init_90 : decode cX1_init 90 = .ok (.aload_n 0, 1) := dAX1_init_5.2.2.2.2.2.2.1
theorem dX1_init_91 : decode cX1_init 91 = .ok (.iconst (-1), 1) := dAX1_init_5.2.2.2.2.2.2.2
set_option maxRecDepth 100000 in
theorem dAX1_init_6 : decode cX1_init 92 = .ok (.putfield 45, 3) ∧ decode cX1_init 95 = .ok (.aload_n 0, 1) ∧ decode cX1_init 96 = .ok (.iconst (-1), 1) ∧ decode cX1_init 97 = .ok (.putfield 49, 3) ∧ decode cX1_init 100 = .ok (.aload_n 0, 1) ∧ decode cX1_init 101 = .ok (.iconst 1, 1) ∧ decode cX1_init 102 = .ok (.putfield 52, 3) ∧ decode cX1_init 105 = .ok (.return_, 1) := by decide +kernel
theorem dX1_init_92 : decode cX1_init 92 = .ok (.putfield 45, 3) := dAX1_init_6.1
theorem dX1_init_95 : decode cX1_init 95 = .ok (.aload_n 0, 1) := dAX1_init_6.2.1
theorem dX1_init_96 : decode cX1_init 96 = .ok (.iconst (-1), 1) := dAX1_init_6.2.2.1
theorem dX1_init_97 : decode cX1_init 97 = .ok (.putfield 49, 3) := dAX1_init_6.2.2.2.1
theorem dX1_init_100 : decode cX1_init 100 = .ok (.aload_n 0, 1) := dAX1_init_6.2.2.2.2.1
theorem dX1_init_101 : decode cX1_init 101 = .ok (.iconst 1, 1) := dAX1_init_6.2.2.2.2.2.1
theorem dX1_init_102 : decode cX1_init 102 = .ok (.putfield 52, 3) := dAX1_init_6.2.2.2.2.2.2.1
theorem dX1_init_105 : decode cX1_init 105 = .ok (.return_, 1) := dAX1_init_6.2.2.2.2.2.2.2
set_option maxRecDepth 100000 in
theorem dAX1_isUnsure_0 : decode cX1_isUnsure 0 = .ok (.iconst 0, 1) ∧ decode cX1_isUnsure 1 = .ok (.istore_n 2, 1) ∧ decode cX1_isUnsure 2 = .ok (.iload_n 2, 1) ∧ decode cX1_isUnsure 3 = .ok (.aload_n 0, 1) ∧ decode cX1_isUnsure 4 = .ok (.getfield 64, 3) ∧ decode cX1_isUnsure 7 = .ok (.if_icmp .ge 21, 3) ∧ decode cX1_isUnsure 10 = .ok (.aload_n 0, 1) ∧ decode cX1_isUnsure 11 = .ok (.getfield 39, 3) := by decide +kernel
theorem dX1_isUnsure_0 : decode cX1_isUnsure 0 = .ok (.iconst 0, 1) := dAX1_isUnsure_0.1
theorem dX1_isUnsure_1 : decode cX1_isUnsure 1 = .ok (.istore_n 2, 1) := dAX1_isUnsure_0.2.1
theorem dX1_isUnsure_2 : decode cX1_isUnsure 2 = .ok (.iload_n 2, 1) := dAX1_isUnsure_0.2.2.1
theorem dX1_isUnsure_3 : decode cX1_isUnsure 3 = .ok (.aload_n 0, 1) := dAX1_isUnsure_0.2.2.2.1
theorem dX1_isUnsure_4 : decode cX1_isUnsure 4 = .ok (.getfield 64, 3) := dAX1_isUnsure_0.2.2.2.2.1
theorem dX1_isUnsure_7 : decode cX1_isUnsure 7 = .ok (.if_icmp .ge 21, 3) := dAX1_isUnsure_0.2.2.2.2.2.1
theorem dX1_isUnsure_10 : decode cX1_isUnsure 10 = .ok (.aload_n 0, 1) := dAX1_isUnsure_0.2.2.2.2.2.2.1
theorem dX1_isUnsure_11 : decode cX1_isUnsure 11 = .ok (.getfield 39, 3) := dAX1_isUnsure_0.2.2.2.2.2.2.2
set_option maxRecDepth 100000 in
theorem dAX1_isUnsure_1 : decode cX1_isUnsure 14 = .ok (.iload_n 2, 1) ∧ decode cX1_isUnsure 15 = .ok (.iaload, 1) ∧ decode cX1_isUnsure 16 = .ok (.iload_n 1, 1) ∧ decode cX1_isUnsure 17 = .ok (.if_icmp .ne 5, 3) ∧ decode cX1_isUnsure 20 = .ok (.iconst 1, 1) ∧ decode cX1_isUnsure 21 = .ok (.ireturn, 1) ∧ decode cX1_isUnsure 22 = .ok (.iinc 2 1, 3) ∧ decode cX1_isUnsure 25 = .ok (.goto (-23), 3) := by decide +kernel
theorem dX1_isUnsure_14 : decode cX1_isUnsure 14 = .ok (.iload_n 2, 1) := dAX1_isUnsure_1.1
theorem dX1_isUnsure_15 : decode cX1_isUnsure 15 = .ok (.iaload, 1) := dAX1_isUnsure_1.2.1
theorem dX1_isUnsure_16 : decode cX1_isUnsure 16 = .ok (.iload_n 1, 1) := dAX1_isUnsure_1.2.2.1
theorem dX1_isUnsure_17 : decode cX1_isUnsure 17 = .ok (.if_icmp .ne 5, 3) := dAX1_isUnsure_1.2.2.2.1
theorem dX1_isUnsure_20 : decode cX1_isUnsure 20 = .ok (.iconst 1, 1) := dAX1_isUnsure_1.2.2.2.2.1
theorem dX1_isUnsure_21 : decode cX1_isUnsure 21 = .ok (.ireturn, 1) := dAX1_isUnsure_1.2.2.2.2.2.1
theorem dX1_isUnsure_22 : decode cX1_isUnsure 22 = .ok (.iinc 2 1, 3) := dAX1_isUnsure_1.2.2.2.2.2.2.1
theorem dX1_isUnsure_25 : decode cX1_isUnsure 25 = .ok (.goto (-23), 3) := dAX1_isUnsure_1.2.2.2.2.2.2.2
set_option maxRecDepth 100000 in
theorem dAX1_isUnsure_2 : decode cX1_isUnsure 28 = .ok (.iconst 0, 1) ∧ decode cX1_isUnsure 29 = .ok (.ireturn, 1) := by decide +kernel
theorem dX1_isUnsure_28 : decode cX1_isUnsure 28 = .ok (.iconst 0, 1) := dAX1_isUnsure_2.1
theorem dX1_isUnsure_29 : decode cX1_isUnsure 29 = .ok (.ireturn, 1) := dAX1_isUnsure_2.2
set_option maxRecDepth 100000 in
theorem dAX1_likelihood_0 : decode cX1_likelihood 0 = .ok (.lconst 1, 1) ∧ decode cX1_likelihood 1 = .ok (.lstore_n 2, 1) ∧ decode cX1_likelihood 2 = .ok (.iconst 0, 1) ∧ decode cX1_likelihood 3 = .ok (.istore 4, 2) ∧ decode cX1_likelihood 5 = .ok (.iload 4, 2) ∧ decode cX1_likelihood 7 = .ok (.aload_n 0, 1) ∧ decode cX1_likelihood 8 = .ok (.getfield 64, 3) ∧ decode cX1_likelihood 11 = .ok (.if_icmp .ge 38, 3) := by decide +kernel
theorem dX1_likelihood_0 : decode cX1_likelihood 0 = .ok (.lconst 1, 1) := dAX1_likelihood_0.1
theorem dX1_likelihood_1 : decode cX1_likelihood 1 = .ok (.lstore_n 2, 1) := dAX1_likelihood_0.2.1
theorem dX1_likelihood_2 : decode cX1_likelihood 2 = .ok (.iconst 0, 1) := dAX1_likelihood_0.2.2.1
theorem dX1_likelihood_3 : decode cX1_likelihood 3 = .ok (.istore 4, 2) := dAX1_likelihood_0.2.2.2.1
theorem dX1_likelihood_5 : decode cX1_likelihood 5 = .ok (.iload 4, 2) := dAX1_likelihood_0.2.2.2.2.1
theorem dX1_likelihood_7 : decode cX1_likelihood 7 = .ok (.aload_n 0, 1) := dAX1_likelihood_0.2.2.2.2.2.1
theorem dX1_likelihood_8 : decode cX1_likelihood 8 = .ok (.getfield 64, 3) := dAX1_likelihood_0.2.2.2.2.2.2.1
theorem dX1_likelihood_11 : decode cX1_likelihood 11 = .ok (.if_icmp .ge 38, 3) := dAX1_likelihood_0.2.2.2.2.2.2.2
set_option maxRecDepth 100000 in
theorem dAX1_likelihood_1 : decode cX1_likelihood 14 = .ok (.lload_n 2, 1) ∧ decode cX1_likelihood 15 = .ok (.iload_n 1, 1) ∧ decode cX1_likelihood 16 = .ok (.iload 4, 2) ∧ decode cX1_likelihood 18 = .ok (.ishr, 1) ∧ decode cX1_likelihood 19 = .ok (.iconst 1, 1) ∧ decode cX1_likelihood 20 = .ok (.iand, 1) ∧ decode cX1_likelihood 21 = .ok (.iconst 1, 1) ∧ decode cX1_likelihood 22 = .ok (.if_icmp .ne 11, 3) := by decide +kernel
theorem dX1_likelihood_14 : decode cX1_likelihood 14 = .ok (.lload_n 2, 1) := dAX1_likelihood_1.1
theorem dX1_likelihood_15 : decode cX1_likelihood 15 = .ok (.iload_n 1, 1) := dAX1_likelihood_1.2.1
theorem dX1_likelihood_16 : decode cX1_likelihood 16 = .ok (.iload 4, 2) := dAX1_likelihood_1.2.2.1
theorem dX1_likelihood_18 : decode cX1_likelihood 18 = .ok (.ishr, 1) := dAX1_likelihood_1.2.2.2.1
theorem dX1_likelihood_19 : decode cX1_likelihood 19 = .ok (.iconst 1, 1) := dAX1_likelihood_1.2.2.2.2.1
theorem dX1_likelihood_20 : decode cX1_likelihood 20 = .ok (.iand, 1) := dAX1_likelihood_1.2.2.2.2.2.1
theorem dX1_likelihood_21 : decode cX1_likelihood 21 = .ok (.iconst 1, 1) := dAX1_likelihood_1.2.2.2.2.2.2.1
theorem dX1_likelihood_22 : decode cX1_likelihood 22 = .ok (.if_icmp .ne 11, 3) := dAX1_likelihood_1.2.2.2.2.2.2.2
set_option maxRecDepth 100000 in
theorem dAX1_likelihood_2 : decode cX1_likelihood 25 = .ok (.aload_n 0, 1) ∧ decode cX1_likelihood 26 = .ok (.getfield 67, 3) ∧ decode cX1_likelihood 29 = .ok (.i2l, 1) ∧ decode cX1_likelihood 30 = .ok (.goto 11, 3) ∧ decode cX1_likelihood 33 = .ok (.bipush 100, 2) ∧ decode cX1_likelihood 35 = .ok (.aload_n 0, 1) ∧ decode cX1_likelihood 36 = .ok (.getfield 67, 3) ∧ decode cX1_likelihood 39 = .ok (.isub, 1) := by decide +kernel
theorem dX1_likelihood_25 : decode cX1_likelihood 25 = .ok (.aload_n 0, 1) := dAX1_likelihood_2.1
theorem dX1_likelihood_26 : decode cX1_likelihood 26 = .ok (.getfield 67, 3) := dAX1_likelihood_2.2.1
theorem dX1_likelihood_29 : decode cX1_likelihood 29 = .ok (.i2l, 1) := dAX1_likelihood_2.2.2.1
theorem dX1_likelihood_30 : decode cX1_likelihood 30 = .ok (.goto 11, 3) := dAX1_likelihood_2.2.2.2.1
theorem dX1_likelihood_33 : decode cX1_likelihood 33 = .ok (.bipush 100, 2) := dAX1_likelihood_2.2.2.2.2.1
theorem dX1_likelihood_35 : decode cX1_likelihood 35 = .ok (.aload_n 0, 1) := dAX1_likelihood_2.2.2.2.2.2.1
theorem dX1_likelihood_36 : decode cX1_likelihood 36 = .ok (.getfield 67, 3) := dAX1_likelihood_2.2.2.2.2.2.2.1
theorem dX1_likelihood_39 : decode cX1_likelihood 39 = .ok (.isub, 1) := dAX1_likelihood_2.2.2.2.2.2.2.2
set_option maxRecDepth 100000 in
theorem dAX1_likelihood_3 : decode cX1_likelihood 40 = .ok (.i2l, 1) ∧ decode cX1_likelihood 41 = .ok (.lmul, 1) ∧ decode cX1_likelihood 42 = .ok (.lstore_n 2, 1) ∧ decode cX1_likelihood 43 = .ok (.iinc 4 1, 3) ∧ decode cX1_likelihood 46 = .ok (.goto (-41), 3) ∧ decode cX1_likelihood 49 = .ok (.lload_n 2, 1) ∧ decode cX1_likelihood 50 = .ok (.lreturn, 1) := by decide +kernel
theorem dX1_likelihood_40 : decode cX1_likelihood 40 = .ok (.i2l, 1) := dAX1_likelihood_3.1
theorem dX1_likelihood_41 : decode cX1_likelihood 41 = .ok (.lmul, 1) := dAX1_likelihood_3.2.1
theorem dX1_likelihood_42 : decode cX1_likelihood 42 = .ok (.lstore_n 2, 1) := dAX1_likelihood_3.2.2.1
theorem dX1_likelihood_43 : decode cX1_likelihood 43 = .ok (.iinc 4 1, 3) := dAX1_likelihood_3.2.2.2.1
theorem dX1_likelihood_46 : decode cX1_likelihood 46 = .ok (.goto (-41), 3) := dAX1_likelihood_3.2.2.2.2.1
theorem dX1_likelihood_49 : decode cX1_likelihood 49 = .ok (.lload_n 2, 1) := dAX1_likelihood_3.2.2.2.2.2.1
theorem dX1_likelihood_50 : decode cX1_likelihood 50 = .ok (.lreturn, 1) := dAX1_likelihood_3.2.2.2.2.2.2
set_option maxRecDepth 100000 in
theorem dAX1_placeOfPart_0 : decode cX1_placeOfPart 0 = .ok (.iload_n 1, 1) ∧ decode cX1_placeOfPart 1 = .ok (.ifCond .lt 9, 3) ∧ decode cX1_placeOfPart 4 = .ok (.iload_n 1, 1) ∧ decode cX1_placeOfPart 5 = .ok (.bipush 18, 2) ∧ decode cX1_placeOfPart 7 = .ok (.if_icmp .lt 5, 3) ∧ decode cX1_placeOfPart 10 = .ok (.iconst (-1), 1) ∧ decode cX1_placeOfPart 11 = .ok (.ireturn, 1) ∧ decode cX1_placeOfPart 12 = .ok (.iconst 0, 1) := by decide +kernel
theorem dX1_placeOfPart_0 : decode cX1_placeOfPart 0 = .ok (.iload_n 1, 1) := dAX1_placeOfPart_0.1
theorem dX1_placeOfPart_1 : decode cX1_placeOfPart 1 = .ok (.ifCond .lt 9, 3) := dAX1_placeOfPart_0.2.1
theorem dX1_placeOfPart_4 : decode cX1_placeOfPart 4 = .ok (.iload_n 1, 1) := dAX1_placeOfPart_0.2.2.1
theorem dX1_placeOfPart_5 : decode cX1_placeOfPart 5 = .ok (.bipush 18, 2) := dAX1_placeOfPart_0.2.2.2.1
theorem dX1_placeOfPart_7 : decode cX1_placeOfPart 7 = .ok (.if_icmp .lt 5, 3) := dAX1_placeOfPart_0.2.2.2.2.1
theorem dX1_placeOfPart_10 : decode cX1_placeOfPart 10 = .ok (.iconst (-1), 1) := dAX1_placeOfPart_0.2.2.2.2.2.1
theorem dX1_placeOfPart_11 : decode cX1_placeOfPart 11 = .ok (.ireturn, 1) := dAX1_placeOfPart_0.2.2.2.2.2.2.1
theorem dX1_placeOfPart_12 : decode cX1_placeOfPart 12 = .ok (.iconst 0, 1) := dAX1_placeOfPart_0.2.2.2.2.2.2.2
set_option maxRecDepth 100000 in
theorem dAX1_placeOfPart_1 : decode cX1_placeOfPart 13 = .ok (.istore_n 3, 1) ∧ decode cX1_placeOfPart 14 = .ok (.iload_n 3, 1) ∧ decode cX1_placeOfPart 15 = .ok (.aload_n 0, 1) ∧ decode cX1_placeOfPart 16 = .ok (.getfield 15, 3) ∧ decode cX1_placeOfPart 19 = .ok (.iload_n 1, 1) ∧ decode cX1_placeOfPart 20 = .ok (.iaload, 1) ∧ decode cX1_placeOfPart 21 = .ok (.if_icmp .ge 25, 3) ∧ decode cX1_placeOfPart 24 = .ok (.aload_n 0, 1) := by decide +kernel
theorem dX1_placeOfPart_13 : decode cX1_placeOfPart 13 = .ok (.istore_n 3, 1) := dAX1_placeOfPart_1.1
theorem dX1_placeOfPart_14 : decode cX1_placeOfPart 14 = .ok (.iload_n 3, 1) := dAX1_placeOfPart_1.2.1
theorem dX1_placeOfPart_15 : decode cX1_placeOfPart 15 = .ok (.aload_n 0, 1) := dAX1_placeOfPart_1.2.2.1
theorem dX1_placeOfPart_16 : decode cX1_placeOfPart 16 = .ok (.getfield 15, 3) := dAX1_placeOfPart_1.2.2.2.1
theorem dX1_placeOfPart_19 : decode cX1_placeOfPart 19 = .ok (.iload_n 1, 1) := dAX1_placeOfPart_1.2.2.2.2.1
theorem dX1_placeOfPart_20 : decode cX1_placeOfPart 20 = .ok (.iaload, 1) := dAX1_placeOfPart_1.2.2.2.2.2.1
theorem dX1_placeOfPart_21 : decode cX1_placeOfPart 21 = .ok (.if_icmp .ge 25, 3) := dAX1_placeOfPart_1.2.2.2.2.2.2.1
theorem dX1_placeOfPart_24 : decode cX1_placeOfPart 24 = .ok (.aload_n 0, 1) := dAX1_placeOfPart_1.2.2.2.2.2.2.2
set_option maxRecDepth 100000 in
theorem dAX1_placeOfPart_2 : decode cX1_placeOfPart 25 = .ok (.getfield 18, 3) ∧ decode cX1_placeOfPart 28 = .ok (.iload_n 1, 1) ∧ decode cX1_placeOfPart 29 = .ok (.iconst 4, 1) ∧ decode cX1_placeOfPart 30 = .ok (.imul, 1) ∧ decode cX1_placeOfPart 31 = .ok (.iload_n 3, 1) ∧ decode cX1_placeOfPart 32 = .ok (.iadd, 1) ∧ decode cX1_placeOfPart 33 = .ok (.iaload, 1) ∧ decode cX1_placeOfPart 34 = .ok (.iload_n 2, 1) := by decide +kernel
theorem dX1_placeOfPart_25 : decode cX1_placeOfPart 25 = .ok (.getfield 18, 3) := dAX1_placeOfPart_2.1
theorem dX1_placeOfPart_28 : decode cX1_placeOfPart 28 = .ok (.iload_n 1, 1) := dAX1_placeOfPart_2.2.1
theorem dX1_placeOfPart_29 : decode cX1_placeOfPart 29 = .ok (.iconst 4, 1) := dAX1_placeOfPart_2.2.2.1
theorem dX1_placeOfPart_30 : decode cX1_placeOfPart 30 = .ok (.imul, 1) := dAX1_placeOfPart_2.2.2.2.1
theorem dX1_placeOfPart_31 : decode cX1_placeOfPart 31 = .ok (.iload_n 3, 1) := dAX1_placeOfPart_2.2.2.2.2.1
theorem dX1_placeOfPart_32 : decode cX1_placeOfPart 32 = .ok (.iadd, 1) := dAX1_placeOfPart_2.2.2.2.2.2.1
theorem dX1_placeOfPart_33 : decode cX1_placeOfPart 33 = .ok (.iaload, 1) := dAX1_placeOfPart_2.2.2.2.2.2.2.1
theorem dX1_placeOfPart_34 : decode cX1_placeOfPart 34 = .ok (.iload_n 2, 1) := dAX1_placeOfPart_2.2.2.2.2.2.2.2
set_option maxRecDepth 100000 in
theorem dAX1_placeOfPart_3 : decode cX1_placeOfPart 35 = .ok (.if_icmp .ne 5, 3) ∧ decode cX1_placeOfPart 38 = .ok (.iload_n 3, 1) ∧ decode cX1_placeOfPart 39 = .ok (.ireturn, 1) ∧ decode cX1_placeOfPart 40 = .ok (.iinc 3 1, 3) ∧ decode cX1_placeOfPart 43 = .ok (.goto (-29), 3) ∧ decode cX1_placeOfPart 46 = .ok (.iconst (-1), 1) ∧ decode cX1_placeOfPart 47 = .ok (.ireturn, 1) := by decide +kernel
theorem dX1_placeOfPart_35 : decode cX1_placeOfPart 35 = .ok (.if_icmp .ne 5, 3) := dAX1_placeOfPart_3.1
theorem dX1_placeOfPart_38 : decode cX1_placeOfPart 38 = .ok (.iload_n 3, 1) := dAX1_placeOfPart_3.2.1
theorem dX1_placeOfPart_39 : decode cX1_placeOfPart 39 = .ok (.ireturn, 1) := dAX1_placeOfPart_3.2.2.1
theorem dX1_placeOfPart_40 : decode cX1_placeOfPart 40 = .ok (.iinc 3 1, 3) := dAX1_placeOfPart_3.2.2.2.1
theorem dX1_placeOfPart_43 : decode cX1_placeOfPart 43 = .ok (.goto (-29), 3) := dAX1_placeOfPart_3.2.2.2.2.1
theorem dX1_placeOfPart_46 : decode cX1_placeOfPart 46 = .ok (.iconst (-1), 1) := dAX1_placeOfPart_3.2.2.2.2.2.1
theorem dX1_placeOfPart_47 : decode cX1_placeOfPart 47 = .ok (.ireturn, 1) := dAX1_placeOfPart_3.2.2.2.2.2.2
set_option maxRecDepth 100000 in
theorem dAX1_unsureSets_0 : decode cX1_unsureSets 0 = .ok (.iconst 1, 1) ∧ decode cX1_unsureSets 1 = .ok (.aload_n 0, 1) ∧ decode cX1_unsureSets 2 = .ok (.getfield 64, 3) ∧ decode cX1_unsureSets 5 = .ok (.ishl, 1) ∧ decode cX1_unsureSets 6 = .ok (.ireturn, 1) := by decide +kernel
theorem dX1_unsureSets_0 : decode cX1_unsureSets 0 = .ok (.iconst 1, 1) := dAX1_unsureSets_0.1
theorem dX1_unsureSets_1 : decode cX1_unsureSets 1 = .ok (.aload_n 0, 1) := dAX1_unsureSets_0.2.1
theorem dX1_unsureSets_2 : decode cX1_unsureSets 2 = .ok (.getfield 64, 3) := dAX1_unsureSets_0.2.2.1
theorem dX1_unsureSets_5 : decode cX1_unsureSets 5 = .ok (.ishl, 1) := dAX1_unsureSets_0.2.2.2.1
theorem dX1_unsureSets_6 : decode cX1_unsureSets 6 = .ok (.ireturn, 1) := dAX1_unsureSets_0.2.2.2.2
