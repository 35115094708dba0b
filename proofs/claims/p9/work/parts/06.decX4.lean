set_option maxRecDepth 100000 in
theorem dAX4_init_0 : decode cX4_init 0 = .ok (.aload_n 0, 1) ∧ decode cX4_init 1 = .ok (.invokespecial 3, 3) ∧ decode cX4_init 4 = .ok (.aload_n 0, 1) ∧ decode cX4_init 5 = .ok (.bipush 18, 2) ∧ decode cX4_init 7 = .ok (.newarray .int, 2) ∧ decode cX4_init 9 = .ok (.putfield 9, 3) ∧ decode cX4_init 12 = .ok (.aload_n 0, 1) ∧ decode cX4_init 13 = .ok (.bipush 18, 2) := by decide +kernel
theorem dX4_init_0 : decode cX4_init 0 = .ok (.aload_n 0, 1) := dAX4_init_0.1
theorem dX4_init_1 : decode cX4_init 1 = .ok (.invokespecial 3, 3) := dAX4_init_0.2.1
theorem dX4_init_4 : decode cX4_init 4 = .ok (.aload_n 0, 1) := dAX4_init_0.2.2.1
theorem dX4_init_5 : decode cX4_init 5 = .ok (.bipush 18, 2) := dAX4_init_0.2.2.2.1
theorem dX4_init_7 : decode cX4_init 7 = .ok (.newarray .int, 2) := dAX4_init_0.2.2.2.2.1
theorem dX4_init_9 : decode cX4_init 9 = .ok (.putfield 9, 3) := dAX4_init_0.2.2.2.2.2.1
theorem dX4_init_12 : decode cX4_init 12 = .ok (.aload_n 0, 1) := dAX4_init_0.2.2.2.2.2.2.1
theorem dX4_init_13 : decode cX4_init 13 = .ok (.bipush 18, 2) := dAX4_init_0.2.2.2.2.2.2.2
set_option maxRecDepth 100000 in
theorem dAX4_init_1 : decode cX4_init 15 = .ok (.newarray .int, 2) ∧ decode cX4_init 17 = .ok (.putfield 15, 3) ∧ decode cX4_init 20 = .ok (.return_, 1) := by decide +kernel
theorem dX4_init_15 : decode cX4_init 15 = .ok (.newarray .int, 2) := dAX4_init_1.1
theorem dX4_init_17 : decode cX4_init 17 = .ok (.putfield 15, 3) := dAX4_init_1.2.1
theorem dX4_init_20 : decode cX4_init 20 = .ok (.return_, 1) := dAX4_init_1.2.2
set_option maxRecDepth 100000 in
theorem dAX4_joined_0 : decode cX4_joined 0 = .ok (.aload_n 1, 1) ∧ decode cX4_joined 1 = .ok (.getfield 24, 3) ∧ decode cX4_joined 4 = .ok (.iload_n 2, 1) ∧ decode cX4_joined 5 = .ok (.iaload, 1) ∧ decode cX4_joined 6 = .ok (.istore_n 3, 1) ∧ decode cX4_joined 7 = .ok (.iconst 0, 1) ∧ decode cX4_joined 8 = .ok (.istore 4, 2) ∧ decode cX4_joined 10 = .ok (.iconst 0, 1) := by decide +kernel
theorem dX4_joined_0 : decode cX4_joined 0 = .ok (.aload_n 1, 1) := dAX4_joined_0.1
theorem dX4_joined_1 : decode cX4_joined 1 = .ok (.getfield 24, 3) := dAX4_joined_0.2.1
theorem dX4_joined_4 : decode cX4_joined 4 = .ok (.iload_n 2, 1) := dAX4_joined_0.2.2.1
theorem dX4_joined_5 : decode cX4_joined 5 = .ok (.iaload, 1) := dAX4_joined_0.2.2.2.1
theorem dX4_joined_6 : decode cX4_joined 6 = .ok (.istore_n 3, 1) := dAX4_joined_0.2.2.2.2.1
theorem dX4_joined_7 : decode cX4_joined 7 = .ok (.iconst 0, 1) := dAX4_joined_0.2.2.2.2.2.1
theorem dX4_joined_8 : decode cX4_joined 8 = .ok (.istore 4, 2) := dAX4_joined_0.2.2.2.2.2.2.1
theorem dX4_joined_10 : decode cX4_joined 10 = .ok (.iconst 0, 1) := dAX4_joined_0.2.2.2.2.2.2.2
set_option maxRecDepth 100000 in
theorem dAX4_joined_1 : decode cX4_joined 11 = .ok (.istore 5, 2) ∧ decode cX4_joined 13 = .ok (.iload 5, 2) ∧ decode cX4_joined 15 = .ok (.aload_n 1, 1) ∧ decode cX4_joined 16 = .ok (.getfield 45, 3) ∧ decode cX4_joined 19 = .ok (.iload_n 2, 1) ∧ decode cX4_joined 20 = .ok (.iaload, 1) ∧ decode cX4_joined 21 = .ok (.if_icmp .ge 85, 3) ∧ decode cX4_joined 24 = .ok (.iload_n 2, 1) := by decide +kernel
theorem dX4_joined_11 : decode cX4_joined 11 = .ok (.istore 5, 2) := dAX4_joined_1.1
theorem dX4_joined_13 : decode cX4_joined 13 = .ok (.iload 5, 2) := dAX4_joined_1.2.1
theorem dX4_joined_15 : decode cX4_joined 15 = .ok (.aload_n 1, 1) := dAX4_joined_1.2.2.1
theorem dX4_joined_16 : decode cX4_joined 16 = .ok (.getfield 45, 3) := dAX4_joined_1.2.2.2.1
theorem dX4_joined_19 : decode cX4_joined 19 = .ok (.iload_n 2, 1) := dAX4_joined_1.2.2.2.2.1
theorem dX4_joined_20 : decode cX4_joined 20 = .ok (.iaload, 1) := dAX4_joined_1.2.2.2.2.2.1
theorem dX4_joined_21 : decode cX4_joined 21 = .ok (.if_icmp .ge 85, 3) := dAX4_joined_1.2.2.2.2.2.2.1
theorem dX4_joined_24 : decode cX4_joined 24 = .ok (.iload_n 2, 1) := dAX4_joined_1.2.2.2.2.2.2.2
set_option maxRecDepth 100000 in
theorem dAX4_joined_2 : decode cX4_joined 25 = .ok (.iconst 4, 1) ∧ decode cX4_joined 26 = .ok (.imul, 1) ∧ decode cX4_joined 27 = .ok (.iload 5, 2) ∧ decode cX4_joined 29 = .ok (.iadd, 1) ∧ decode cX4_joined 30 = .ok (.istore 6, 2) ∧ decode cX4_joined 32 = .ok (.aload_n 0, 1) ∧ decode cX4_joined 33 = .ok (.getfield 9, 3) ∧ decode cX4_joined 36 = .ok (.aload_n 1, 1) := by decide +kernel
theorem dX4_joined_25 : decode cX4_joined 25 = .ok (.iconst 4, 1) := dAX4_joined_2.1
theorem dX4_joined_26 : decode cX4_joined 26 = .ok (.imul, 1) := dAX4_joined_2.2.1
theorem dX4_joined_27 : decode cX4_joined 27 = .ok (.iload 5, 2) := dAX4_joined_2.2.2.1
theorem dX4_joined_29 : decode cX4_joined 29 = .ok (.iadd, 1) := dAX4_joined_2.2.2.2.1
theorem dX4_joined_30 : decode cX4_joined 30 = .ok (.istore 6, 2) := dAX4_joined_2.2.2.2.2.1
theorem dX4_joined_32 : decode cX4_joined 32 = .ok (.aload_n 0, 1) := dAX4_joined_2.2.2.2.2.2.1
theorem dX4_joined_33 : decode cX4_joined 33 = .ok (.getfield 9, 3) := dAX4_joined_2.2.2.2.2.2.2.1
theorem dX4_joined_36 : decode cX4_joined 36 = .ok (.aload_n 1, 1) := dAX4_joined_2.2.2.2.2.2.2.2
set_option maxRecDepth 100000 in
theorem dAX4_joined_3 : decode cX4_joined 37 = .ok (.getfield 48, 3) ∧ decode cX4_joined 40 = .ok (.iload 6, 2) ∧ decode cX4_joined 42 = .ok (.iaload, 1) ∧ decode cX4_joined 43 = .ok (.iaload, 1) ∧ decode cX4_joined 44 = .ok (.istore 7, 2) ∧ decode cX4_joined 46 = .ok (.iload_n 3, 1) ∧ decode cX4_joined 47 = .ok (.iconst 3, 1) ∧ decode cX4_joined 48 = .ok (.if_icmp .ne 21, 3) := by decide +kernel
theorem dX4_joined_37 : decode cX4_joined 37 = .ok (.getfield 48, 3) := dAX4_joined_3.1
theorem dX4_joined_40 : decode cX4_joined 40 = .ok (.iload 6, 2) := dAX4_joined_3.2.1
theorem dX4_joined_42 : decode cX4_joined 42 = .ok (.iaload, 1) := dAX4_joined_3.2.2.1
theorem dX4_joined_43 : decode cX4_joined 43 = .ok (.iaload, 1) := dAX4_joined_3.2.2.2.1
theorem dX4_joined_44 : decode cX4_joined 44 = .ok (.istore 7, 2) := dAX4_joined_3.2.2.2.2.1
theorem dX4_joined_46 : decode cX4_joined 46 = .ok (.iload_n 3, 1) := dAX4_joined_3.2.2.2.2.2.1
theorem dX4_joined_47 : decode cX4_joined 47 = .ok (.iconst 3, 1) := dAX4_joined_3.2.2.2.2.2.2.1
theorem dX4_joined_48 : decode cX4_joined 48 = .ok (.if_icmp .ne 21, 3) := dAX4_joined_3.2.2.2.2.2.2.2
set_option maxRecDepth 100000 in
theorem dAX4_joined_4 : decode cX4_joined 51 = .ok (.iload 4, 2) ∧ decode cX4_joined 53 = .ok (.iload 7, 2) ∧ decode cX4_joined 55 = .ok (.aload_n 1, 1) ∧ decode cX4_joined 56 = .ok (.getfield 51, 3) ∧ decode cX4_joined 59 = .ok (.iload 6, 2) ∧ decode cX4_joined 61 = .ok (.iaload, 1) ∧ decode cX4_joined 62 = .ok (.imul, 1) ∧ decode cX4_joined 63 = .ok (.iadd, 1) := by decide +kernel
theorem dX4_joined_51 : decode cX4_joined 51 = .ok (.iload 4, 2) := dAX4_joined_4.1
theorem dX4_joined_53 : decode cX4_joined 53 = .ok (.iload 7, 2) := dAX4_joined_4.2.1
theorem dX4_joined_55 : decode cX4_joined 55 = .ok (.aload_n 1, 1) := dAX4_joined_4.2.2.1
theorem dX4_joined_56 : decode cX4_joined 56 = .ok (.getfield 51, 3) := dAX4_joined_4.2.2.2.1
theorem dX4_joined_59 : decode cX4_joined 59 = .ok (.iload 6, 2) := dAX4_joined_4.2.2.2.2.1
theorem dX4_joined_61 : decode cX4_joined 61 = .ok (.iaload, 1) := dAX4_joined_4.2.2.2.2.2.1
theorem dX4_joined_62 : decode cX4_joined 62 = .ok (.imul, 1) := dAX4_joined_4.2.2.2.2.2.2.1
theorem dX4_joined_63 : decode cX4_joined 63 = .ok (.iadd, 1) := dAX4_joined_4.2.2.2.2.2.2.2
set_option maxRecDepth 100000 in
theorem dAX4_joined_5 : decode cX4_joined 64 = .ok (.istore 4, 2) ∧ decode cX4_joined 66 = .ok (.goto 34, 3) ∧ decode cX4_joined 69 = .ok (.iload 5, 2) ∧ decode cX4_joined 71 = .ok (.ifCond .eq 25, 3) ∧ decode cX4_joined 74 = .ok (.iload_n 3, 1) ∧ decode cX4_joined 75 = .ok (.iconst 1, 1) ∧ decode cX4_joined 76 = .ok (.if_icmp .ne 13, 3) ∧ decode cX4_joined 79 = .ok (.iload 7, 2) := by decide +kernel
theorem dX4_joined_64 : decode cX4_joined 64 = .ok (.istore 4, 2) := dAX4_joined_5.1
theorem dX4_joined_66 : decode cX4_joined 66 = .ok (.goto 34, 3) := dAX4_joined_5.2.1
theorem dX4_joined_69 : decode cX4_joined 69 = .ok (.iload 5, 2) := dAX4_joined_5.2.2.1
theorem dX4_joined_71 : decode cX4_joined 71 = .ok (.ifCond .eq 25, 3) := dAX4_joined_5.2.2.2.1
theorem dX4_joined_74 : decode cX4_joined 74 = .ok (.iload_n 3, 1) := dAX4_joined_5.2.2.2.2.1
theorem dX4_joined_75 : decode cX4_joined 75 = .ok (.iconst 1, 1) := dAX4_joined_5.2.2.2.2.2.1
theorem dX4_joined_76 : decode cX4_joined 76 = .ok (.if_icmp .ne 13, 3) := dAX4_joined_5.2.2.2.2.2.2.1
theorem dX4_joined_79 : decode cX4_joined 79 = .ok (.iload 7, 2) := dAX4_joined_5.2.2.2.2.2.2.2
set_option maxRecDepth 100000 in
theorem dAX4_joined_6 : decode cX4_joined 81 = .ok (.iload 4, 2) ∧ decode cX4_joined 83 = .ok (.if_icmp .le 17, 3) ∧ decode cX4_joined 86 = .ok (.goto 10, 3) ∧ decode cX4_joined 89 = .ok (.iload 7, 2) ∧ decode cX4_joined 91 = .ok (.iload 4, 2) ∧ decode cX4_joined 93 = .ok (.if_icmp .ge 7, 3) ∧ decode cX4_joined 96 = .ok (.iload 7, 2) ∧ decode cX4_joined 98 = .ok (.istore 4, 2) := by decide +kernel
theorem dX4_joined_81 : decode cX4_joined 81 = .ok (.iload 4, 2) := dAX4_joined_6.1
theorem dX4_joined_83 : decode cX4_joined 83 = .ok (.if_icmp .le 17, 3) := dAX4_joined_6.2.1
theorem dX4_joined_86 : decode cX4_joined 86 = .ok (.goto 10, 3) := dAX4_joined_6.2.2.1
theorem dX4_joined_89 : decode cX4_joined 89 = .ok (.iload 7, 2) := dAX4_joined_6.2.2.2.1
theorem dX4_joined_91 : decode cX4_joined 91 = .ok (.iload 4, 2) := dAX4_joined_6.2.2.2.2.1
theorem dX4_joined_93 : decode cX4_joined 93 = .ok (.if_icmp .ge 7, 3) := dAX4_joined_6.2.2.2.2.2.1
theorem dX4_joined_96 : decode cX4_joined 96 = .ok (.iload 7, 2) := dAX4_joined_6.2.2.2.2.2.2.1
theorem dX4_joined_98 : decode cX4_joined 98 = .ok (.istore 4, 2) := dAX4_joined_6.2.2.2.2.2.2.2
set_option maxRecDepth 100000 in
theorem dAX4_joined_7 : decode cX4_joined 100 = .ok (.iinc 5 1, 3) ∧ decode cX4_joined 103 = .ok (.goto (-90), 3) ∧ decode cX4_joined 106 = .ok (.iload_n 3, 1) ∧ decode cX4_joined 107 = .ok (.iconst 3, 1) ∧ decode cX4_joined 108 = .ok (.if_icmp .ne 17, 3) ∧ decode cX4_joined 111 = .ok (.iload 4, 2) ∧ decode cX4_joined 113 = .ok (.aload_n 1, 1) ∧ decode cX4_joined 114 = .ok (.getfield 54, 3) := by decide +kernel
theorem dX4_joined_100 : decode cX4_joined 100 = .ok (.iinc 5 1, 3) := dAX4_joined_7.1
theorem dX4_joined_103 : decode cX4_joined 103 = .ok (.goto (-90), 3) := dAX4_joined_7.2.1
theorem dX4_joined_106 : decode cX4_joined 106 = .ok (.iload_n 3, 1) := dAX4_joined_7.2.2.1
theorem dX4_joined_107 : decode cX4_joined 107 = .ok (.iconst 3, 1) := dAX4_joined_7.2.2.2.1
theorem dX4_joined_108 : decode cX4_joined 108 = .ok (.if_icmp .ne 17, 3) := dAX4_joined_7.2.2.2.2.1
theorem dX4_joined_111 : decode cX4_joined 111 = .ok (.iload 4, 2) := dAX4_joined_7.2.2.2.2.2.1
theorem dX4_joined_113 : decode cX4_joined 113 = .ok (.aload_n 1, 1) := dAX4_joined_7.2.2.2.2.2.2.1
theorem dX4_joined_114 : decode cX4_joined 114 = .ok (.getfield 54, 3) := dAX4_joined_7.2.2.2.2.2.2.2
set_option maxRecDepth 100000 in
theorem dAX4_joined_8 : decode cX4_joined 117 = .ok (.iload_n 2, 1) ∧ decode cX4_joined 118 = .ok (.iaload, 1) ∧ decode cX4_joined 119 = .ok (.invokestatic 57, 3) ∧ decode cX4_joined 122 = .ok (.goto 5, 3) ∧ decode cX4_joined 125 = .ok (.iload 4, 2) ∧ decode cX4_joined 127 = .ok (.ireturn, 1) := by decide +kernel
theorem dX4_joined_117 : decode cX4_joined 117 = .ok (.iload_n 2, 1) := dAX4_joined_8.1
theorem dX4_joined_118 : decode cX4_joined 118 = .ok (.iaload, 1) := dAX4_joined_8.2.1
theorem dX4_joined_119 : decode cX4_joined 119 = .ok (.invokestatic 57, 3) := dAX4_joined_8.2.2.1
theorem dX4_joined_122 : decode cX4_joined 122 = .ok (.goto 5, 3) := dAX4_joined_8.2.2.2.1
theorem dX4_joined_125 : decode cX4_joined 125 = .ok (.iload 4, 2) := dAX4_joined_8.2.2.2.2.1
theorem dX4_joined_127 : decode cX4_joined 127 = .ok (.ireturn, 1) := dAX4_joined_8.2.2.2.2.2
set_option maxRecDepth 100000 in
theorem dAX4_throneBySet_0 : decode cX4_throneBySet 0 = .ok (.iconst 0, 1) ∧ decode cX4_throneBySet 1 = .ok (.istore 5, 2) ∧ decode cX4_throneBySet 3 = .ok (.iload 5, 2) ∧ decode cX4_throneBySet 5 = .ok (.aload_n 1, 1) ∧ decode cX4_throneBySet 6 = .ok (.getfield 18, 3) ∧ decode cX4_throneBySet 9 = .ok (.if_icmp .ge 38, 3) ∧ decode cX4_throneBySet 12 = .ok (.aload_n 0, 1) ∧ decode cX4_throneBySet 13 = .ok (.getfield 15, 3) := by decide +kernel
theorem dX4_throneBySet_0 : decode cX4_throneBySet 0 = .ok (.iconst 0, 1) := dAX4_throneBySet_0.1
theorem dX4_throneBySet_1 : decode cX4_throneBySet 1 = .ok (.istore 5, 2) := dAX4_throneBySet_0.2.1
theorem dX4_throneBySet_3 : decode cX4_throneBySet 3 = .ok (.iload 5, 2) := dAX4_throneBySet_0.2.2.1
theorem dX4_throneBySet_5 : decode cX4_throneBySet 5 = .ok (.aload_n 1, 1) := dAX4_throneBySet_0.2.2.2.1
theorem dX4_throneBySet_6 : decode cX4_throneBySet 6 = .ok (.getfield 18, 3) := dAX4_throneBySet_0.2.2.2.2.1
theorem dX4_throneBySet_9 : decode cX4_throneBySet 9 = .ok (.if_icmp .ge 38, 3) := dAX4_throneBySet_0.2.2.2.2.2.1
theorem dX4_throneBySet_12 : decode cX4_throneBySet 12 = .ok (.aload_n 0, 1) := dAX4_throneBySet_0.2.2.2.2.2.2.1
theorem dX4_throneBySet_13 : decode cX4_throneBySet 13 = .ok (.getfield 15, 3) := dAX4_throneBySet_0.2.2.2.2.2.2.2
set_option maxRecDepth 100000 in
theorem dAX4_throneBySet_1 : decode cX4_throneBySet 16 = .ok (.iload 5, 2) ∧ decode cX4_throneBySet 18 = .ok (.iload_n 3, 1) ∧ decode cX4_throneBySet 19 = .ok (.iload 5, 2) ∧ decode cX4_throneBySet 21 = .ok (.ishr, 1) ∧ decode cX4_throneBySet 22 = .ok (.iconst 1, 1) ∧ decode cX4_throneBySet 23 = .ok (.iand, 1) ∧ decode cX4_throneBySet 24 = .ok (.iconst 1, 1) ∧ decode cX4_throneBySet 25 = .ok (.if_icmp .ne 13, 3) := by decide +kernel
theorem dX4_throneBySet_16 : decode cX4_throneBySet 16 = .ok (.iload 5, 2) := dAX4_throneBySet_1.1
theorem dX4_throneBySet_18 : decode cX4_throneBySet 18 = .ok (.iload_n 3, 1) := dAX4_throneBySet_1.2.1
theorem dX4_throneBySet_19 : decode cX4_throneBySet 19 = .ok (.iload 5, 2) := dAX4_throneBySet_1.2.2.1
theorem dX4_throneBySet_21 : decode cX4_throneBySet 21 = .ok (.ishr, 1) := dAX4_throneBySet_1.2.2.2.1
theorem dX4_throneBySet_22 : decode cX4_throneBySet 22 = .ok (.iconst 1, 1) := dAX4_throneBySet_1.2.2.2.2.1
theorem dX4_throneBySet_23 : decode cX4_throneBySet 23 = .ok (.iand, 1) := dAX4_throneBySet_1.2.2.2.2.2.1
theorem dX4_throneBySet_24 : decode cX4_throneBySet 24 = .ok (.iconst 1, 1) := dAX4_throneBySet_1.2.2.2.2.2.2.1
theorem dX4_throneBySet_25 : decode cX4_throneBySet 25 = .ok (.if_icmp .ne 13, 3) := dAX4_throneBySet_1.2.2.2.2.2.2.2
set_option maxRecDepth 100000 in
theorem dAX4_throneBySet_2 : decode cX4_throneBySet 28 = .ok (.aload_n 2, 1) ∧ decode cX4_throneBySet 29 = .ok (.getfield 61, 3) ∧ decode cX4_throneBySet 32 = .ok (.iload 5, 2) ∧ decode cX4_throneBySet 34 = .ok (.iaload, 1) ∧ decode cX4_throneBySet 35 = .ok (.goto 5, 3) ∧ decode cX4_throneBySet 38 = .ok (.iload 4, 2) ∧ decode cX4_throneBySet 40 = .ok (.iastore, 1) ∧ decode cX4_throneBySet 41 = .ok (.iinc 5 1, 3) := by decide +kernel
theorem dX4_throneBySet_28 : decode cX4_throneBySet 28 = .ok (.aload_n 2, 1) := dAX4_throneBySet_2.1
theorem dX4_throneBySet_29 : decode cX4_throneBySet 29 = .ok (.getfield 61, 3) := dAX4_throneBySet_2.2.1
theorem dX4_throneBySet_32 : decode cX4_throneBySet 32 = .ok (.iload 5, 2) := dAX4_throneBySet_2.2.2.1
theorem dX4_throneBySet_34 : decode cX4_throneBySet 34 = .ok (.iaload, 1) := dAX4_throneBySet_2.2.2.2.1
theorem dX4_throneBySet_35 : decode cX4_throneBySet 35 = .ok (.goto 5, 3) := dAX4_throneBySet_2.2.2.2.2.1
theorem dX4_throneBySet_38 : decode cX4_throneBySet 38 = .ok (.iload 4, 2) := dAX4_throneBySet_2.2.2.2.2.2.1
theorem dX4_throneBySet_40 : decode cX4_throneBySet 40 = .ok (.iastore, 1) := dAX4_throneBySet_2.2.2.2.2.2.2.1
theorem dX4_throneBySet_41 : decode cX4_throneBySet 41 = .ok (.iinc 5 1, 3) := dAX4_throneBySet_2.2.2.2.2.2.2.2
set_option maxRecDepth 100000 in
theorem dAX4_throneBySet_3 : decode cX4_throneBySet 44 = .ok (.goto (-41), 3) ∧ decode cX4_throneBySet 47 = .ok (.aload_n 0, 1) ∧ decode cX4_throneBySet 48 = .ok (.aload_n 1, 1) ∧ decode cX4_throneBySet 49 = .ok (.aload_n 0, 1) ∧ decode cX4_throneBySet 50 = .ok (.getfield 15, 3) ∧ decode cX4_throneBySet 53 = .ok (.invokevirtual 72, 3) ∧ decode cX4_throneBySet 56 = .ok (.ireturn, 1) := by decide +kernel
theorem dX4_throneBySet_44 : decode cX4_throneBySet 44 = .ok (.goto (-41), 3) := dAX4_throneBySet_3.1
theorem dX4_throneBySet_47 : decode cX4_throneBySet 47 = .ok (.aload_n 0, 1) := dAX4_throneBySet_3.2.1
theorem dX4_throneBySet_48 : decode cX4_throneBySet 48 = .ok (.aload_n 1, 1) := dAX4_throneBySet_3.2.2.1
theorem dX4_throneBySet_49 : decode cX4_throneBySet 49 = .ok (.aload_n 0, 1) := dAX4_throneBySet_3.2.2.2.1
theorem dX4_throneBySet_50 : decode cX4_throneBySet 50 = .ok (.getfield 15, 3) := dAX4_throneBySet_3.2.2.2.2.1
theorem dX4_throneBySet_53 : decode cX4_throneBySet 53 = .ok (.invokevirtual 72, 3) := dAX4_throneBySet_3.2.2.2.2.2.1
theorem dX4_throneBySet_56 : decode cX4_throneBySet 56 = .ok (.ireturn, 1) := dAX4_throneBySet_3.2.2.2.2.2.2
set_option maxRecDepth 100000 in
theorem dAX4_throneByUnsure_0 : decode cX4_throneByUnsure 0 = .ok (.aload_n 2, 1) ∧ decode cX4_throneByUnsure 1 = .ok (.iconst 0, 1) ∧ decode cX4_throneByUnsure 2 = .ok (.aload_n 0, 1) ∧ decode cX4_throneByUnsure 3 = .ok (.getfield 15, 3) ∧ decode cX4_throneByUnsure 6 = .ok (.iconst 0, 1) ∧ decode cX4_throneByUnsure 7 = .ok (.bipush 18, 2) ∧ decode cX4_throneByUnsure 9 = .ok (.invokestatic 66, 3) ∧ decode cX4_throneByUnsure 12 = .ok (.iconst 0, 1) := by decide +kernel
theorem dX4_throneByUnsure_0 : decode cX4_throneByUnsure 0 = .ok (.aload_n 2, 1) := dAX4_throneByUnsure_0.1
theorem dX4_throneByUnsure_1 : decode cX4_throneByUnsure 1 = .ok (.iconst 0, 1) := dAX4_throneByUnsure_0.2.1
theorem dX4_throneByUnsure_2 : decode cX4_throneByUnsure 2 = .ok (.aload_n 0, 1) := dAX4_throneByUnsure_0.2.2.1
theorem dX4_throneByUnsure_3 : decode cX4_throneByUnsure 3 = .ok (.getfield 15, 3) := dAX4_throneByUnsure_0.2.2.2.1
theorem dX4_throneByUnsure_6 : decode cX4_throneByUnsure 6 = .ok (.iconst 0, 1) := dAX4_throneByUnsure_0.2.2.2.2.1
theorem dX4_throneByUnsure_7 : decode cX4_throneByUnsure 7 = .ok (.bipush 18, 2) := dAX4_throneByUnsure_0.2.2.2.2.2.1
theorem dX4_throneByUnsure_9 : decode cX4_throneByUnsure 9 = .ok (.invokestatic 66, 3) := dAX4_throneByUnsure_0.2.2.2.2.2.2.1
theorem dX4_throneByUnsure_12 : decode cX4_throneByUnsure 12 = .ok (.iconst 0, 1) := dAX4_throneByUnsure_0.2.2.2.2.2.2.2
set_option maxRecDepth 100000 in
theorem dAX4_throneByUnsure_1 : decode cX4_throneByUnsure 13 = .ok (.istore 4, 2) ∧ decode cX4_throneByUnsure 15 = .ok (.iload 4, 2) ∧ decode cX4_throneByUnsure 17 = .ok (.aload_n 1, 1) ∧ decode cX4_throneByUnsure 18 = .ok (.getfield 76, 3) ∧ decode cX4_throneByUnsure 21 = .ok (.if_icmp .ge 38, 3) ∧ decode cX4_throneByUnsure 24 = .ok (.iload_n 3, 1) ∧ decode cX4_throneByUnsure 25 = .ok (.iload 4, 2) ∧ decode cX4_throneByUnsure 27 = .ok (.ishr, 1) := by decide +kernel
theorem dX4_throneByUnsure_13 : decode cX4_throneByUnsure 13 = .ok (.istore 4, 2) := dAX4_throneByUnsure_1.1
theorem dX4_throneByUnsure_15 : decode cX4_throneByUnsure 15 = .ok (.iload 4, 2) := dAX4_throneByUnsure_1.2.1
theorem dX4_throneByUnsure_17 : decode cX4_throneByUnsure 17 = .ok (.aload_n 1, 1) := dAX4_throneByUnsure_1.2.2.1
theorem dX4_throneByUnsure_18 : decode cX4_throneByUnsure 18 = .ok (.getfield 76, 3) := dAX4_throneByUnsure_1.2.2.2.1
theorem dX4_throneByUnsure_21 : decode cX4_throneByUnsure 21 = .ok (.if_icmp .ge 38, 3) := dAX4_throneByUnsure_1.2.2.2.2.1
theorem dX4_throneByUnsure_24 : decode cX4_throneByUnsure 24 = .ok (.iload_n 3, 1) := dAX4_throneByUnsure_1.2.2.2.2.2.1
theorem dX4_throneByUnsure_25 : decode cX4_throneByUnsure 25 = .ok (.iload 4, 2) := dAX4_throneByUnsure_1.2.2.2.2.2.2.1
theorem dX4_throneByUnsure_27 : decode cX4_throneByUnsure 27 = .ok (.ishr, 1) := dAX4_throneByUnsure_1.2.2.2.2.2.2.2
set_option maxRecDepth 100000 in
theorem dAX4_throneByUnsure_2 : decode cX4_throneByUnsure 28 = .ok (.iconst 1, 1) ∧ decode cX4_throneByUnsure 29 = .ok (.iand, 1) ∧ decode cX4_throneByUnsure 30 = .ok (.iconst 1, 1) ∧ decode cX4_throneByUnsure 31 = .ok (.if_icmp .ne 22, 3) ∧ decode cX4_throneByUnsure 34 = .ok (.aload_n 0, 1) ∧ decode cX4_throneByUnsure 35 = .ok (.getfield 15, 3) ∧ decode cX4_throneByUnsure 38 = .ok (.aload_n 1, 1) ∧ decode cX4_throneByUnsure 39 = .ok (.getfield 79, 3) := by decide +kernel
theorem dX4_throneByUnsure_28 : decode cX4_throneByUnsure 28 = .ok (.iconst 1, 1) := dAX4_throneByUnsure_2.1
theorem dX4_throneByUnsure_29 : decode cX4_throneByUnsure 29 = .ok (.iand, 1) := dAX4_throneByUnsure_2.2.1
theorem dX4_throneByUnsure_30 : decode cX4_throneByUnsure 30 = .ok (.iconst 1, 1) := dAX4_throneByUnsure_2.2.2.1
theorem dX4_throneByUnsure_31 : decode cX4_throneByUnsure 31 = .ok (.if_icmp .ne 22, 3) := dAX4_throneByUnsure_2.2.2.2.1
theorem dX4_throneByUnsure_34 : decode cX4_throneByUnsure 34 = .ok (.aload_n 0, 1) := dAX4_throneByUnsure_2.2.2.2.2.1
theorem dX4_throneByUnsure_35 : decode cX4_throneByUnsure 35 = .ok (.getfield 15, 3) := dAX4_throneByUnsure_2.2.2.2.2.2.1
theorem dX4_throneByUnsure_38 : decode cX4_throneByUnsure 38 = .ok (.aload_n 1, 1) := dAX4_throneByUnsure_2.2.2.2.2.2.2.1
theorem dX4_throneByUnsure_39 : decode cX4_throneByUnsure 39 = .ok (.getfield 79, 3) := dAX4_throneByUnsure_2.2.2.2.2.2.2.2
set_option maxRecDepth 100000 in
theorem dAX4_throneByUnsure_3 : decode cX4_throneByUnsure 42 = .ok (.iload 4, 2) ∧ decode cX4_throneByUnsure 44 = .ok (.iaload, 1) ∧ decode cX4_throneByUnsure 45 = .ok (.aload_n 1, 1) ∧ decode cX4_throneByUnsure 46 = .ok (.getfield 82, 3) ∧ decode cX4_throneByUnsure 49 = .ok (.iload 4, 2) ∧ decode cX4_throneByUnsure 51 = .ok (.iaload, 1) ∧ decode cX4_throneByUnsure 52 = .ok (.iastore, 1) ∧ decode cX4_throneByUnsure 53 = .ok (.iinc 4 1, 3) := by decide +kernel
theorem dX4_throneByUnsure_42 : decode cX4_throneByUnsure 42 = .ok (.iload 4, 2) := dAX4_throneByUnsure_3.1
theorem dX4_throneByUnsure_44 : decode cX4_throneByUnsure 44 = .ok (.iaload, 1) := dAX4_throneByUnsure_3.2.1
theorem dX4_throneByUnsure_45 : decode cX4_throneByUnsure 45 = .ok (.aload_n 1, 1) := dAX4_throneByUnsure_3.2.2.1
theorem dX4_throneByUnsure_46 : decode cX4_throneByUnsure 46 = .ok (.getfield 82, 3) := dAX4_throneByUnsure_3.2.2.2.1
theorem dX4_throneByUnsure_49 : decode cX4_throneByUnsure 49 = .ok (.iload 4, 2) := dAX4_throneByUnsure_3.2.2.2.2.1
theorem dX4_throneByUnsure_51 : decode cX4_throneByUnsure 51 = .ok (.iaload, 1) := dAX4_throneByUnsure_3.2.2.2.2.2.1
theorem dX4_throneByUnsure_52 : decode cX4_throneByUnsure 52 = .ok (.iastore, 1) := dAX4_throneByUnsure_3.2.2.2.2.2.2.1
theorem dX4_throneByUnsure_53 : decode cX4_throneByUnsure 53 = .ok (.iinc 4 1, 3) := dAX4_throneByUnsure_3.2.2.2.2.2.2.2
set_option maxRecDepth 100000 in
theorem dAX4_throneByUnsure_4 : decode cX4_throneByUnsure 56 = .ok (.goto (-41), 3) ∧ decode cX4_throneByUnsure 59 = .ok (.aload_n 0, 1) ∧ decode cX4_throneByUnsure 60 = .ok (.aload_n 1, 1) ∧ decode cX4_throneByUnsure 61 = .ok (.aload_n 0, 1) ∧ decode cX4_throneByUnsure 62 = .ok (.getfield 15, 3) ∧ decode cX4_throneByUnsure 65 = .ok (.invokevirtual 72, 3) ∧ decode cX4_throneByUnsure 68 = .ok (.ireturn, 1) := by decide +kernel
theorem dX4_throneByUnsure_56 : decode cX4_throneByUnsure 56 = .ok (.goto (-41), 3) := dAX4_throneByUnsure_4.1
theorem dX4_throneByUnsure_59 : decode cX4_throneByUnsure 59 = .ok (.aload_n 0, 1) := dAX4_throneByUnsure_4.2.1
theorem dX4_throneByUnsure_60 : decode cX4_throneByUnsure 60 = .ok (.aload_n 1, 1) := dAX4_throneByUnsure_4.2.2.1
theorem dX4_throneByUnsure_61 : decode cX4_throneByUnsure 61 = .ok (.aload_n 0, 1) := dAX4_throneByUnsure_4.2.2.2.1
theorem dX4_throneByUnsure_62 : decode cX4_throneByUnsure 62 = .ok (.getfield 15, 3) := dAX4_throneByUnsure_4.2.2.2.2.1
theorem dX4_throneByUnsure_65 : decode cX4_throneByUnsure 65 = .ok (.invokevirtual 72, 3) := dAX4_throneByUnsure_4.2.2.2.2.2.1
theorem dX4_throneByUnsure_68 : decode cX4_throneByUnsure 68 = .ok (.ireturn, 1) := dAX4_throneByUnsure_4.2.2.2.2.2.2
set_option maxRecDepth 100000 in
theorem dAX4_throneByWord_0 : decode cX4_throneByWord 0 = .ok (.aload_n 2, 1) ∧ decode cX4_throneByWord 1 = .ok (.getfield 61, 3) ∧ decode cX4_throneByWord 4 = .ok (.iconst 0, 1) ∧ decode cX4_throneByWord 5 = .ok (.aload_n 0, 1) ∧ decode cX4_throneByWord 6 = .ok (.getfield 15, 3) ∧ decode cX4_throneByWord 9 = .ok (.iconst 0, 1) ∧ decode cX4_throneByWord 10 = .ok (.bipush 18, 2) ∧ decode cX4_throneByWord 12 = .ok (.invokestatic 66, 3) := by decide +kernel
theorem dX4_throneByWord_0 : decode cX4_throneByWord 0 = .ok (.aload_n 2, 1) := dAX4_throneByWord_0.1
theorem dX4_throneByWord_1 : decode cX4_throneByWord 1 = .ok (.getfield 61, 3) := dAX4_throneByWord_0.2.1
theorem dX4_throneByWord_4 : decode cX4_throneByWord 4 = .ok (.iconst 0, 1) := dAX4_throneByWord_0.2.2.1
theorem dX4_throneByWord_5 : decode cX4_throneByWord 5 = .ok (.aload_n 0, 1) := dAX4_throneByWord_0.2.2.2.1
theorem dX4_throneByWord_6 : decode cX4_throneByWord 6 = .ok (.getfield 15, 3) := dAX4_throneByWord_0.2.2.2.2.1
theorem dX4_throneByWord_9 : decode cX4_throneByWord 9 = .ok (.iconst 0, 1) := dAX4_throneByWord_0.2.2.2.2.2.1
theorem dX4_throneByWord_10 : decode cX4_throneByWord 10 = .ok (.bipush 18, 2) := dAX4_throneByWord_0.2.2.2.2.2.2.1
theorem dX4_throneByWord_12 : decode cX4_throneByWord 12 = .ok (.invokestatic 66, 3) := dAX4_throneByWord_0.2.2.2.2.2.2.2
set_option maxRecDepth 100000 in
theorem dAX4_throneByWord_1 : decode cX4_throneByWord 15 = .ok (.aload_n 1, 1) ∧ decode cX4_throneByWord 16 = .ok (.iload_n 3, 1) ∧ decode cX4_throneByWord 17 = .ok (.invokevirtual 41, 3) ∧ decode cX4_throneByWord 20 = .ok (.ifCond .eq 11, 3) ∧ decode cX4_throneByWord 23 = .ok (.aload_n 0, 1) ∧ decode cX4_throneByWord 24 = .ok (.getfield 15, 3) ∧ decode cX4_throneByWord 27 = .ok (.iload_n 3, 1) ∧ decode cX4_throneByWord 28 = .ok (.iload 4, 2) := by decide +kernel
theorem dX4_throneByWord_15 : decode cX4_throneByWord 15 = .ok (.aload_n 1, 1) := dAX4_throneByWord_1.1
theorem dX4_throneByWord_16 : decode cX4_throneByWord 16 = .ok (.iload_n 3, 1) := dAX4_throneByWord_1.2.1
theorem dX4_throneByWord_17 : decode cX4_throneByWord 17 = .ok (.invokevirtual 41, 3) := dAX4_throneByWord_1.2.2.1
theorem dX4_throneByWord_20 : decode cX4_throneByWord 20 = .ok (.ifCond .eq 11, 3) := dAX4_throneByWord_1.2.2.2.1
theorem dX4_throneByWord_23 : decode cX4_throneByWord 23 = .ok (.aload_n 0, 1) := dAX4_throneByWord_1.2.2.2.2.1
theorem dX4_throneByWord_24 : decode cX4_throneByWord 24 = .ok (.getfield 15, 3) := dAX4_throneByWord_1.2.2.2.2.2.1
theorem dX4_throneByWord_27 : decode cX4_throneByWord 27 = .ok (.iload_n 3, 1) := dAX4_throneByWord_1.2.2.2.2.2.2.1
theorem dX4_throneByWord_28 : decode cX4_throneByWord 28 = .ok (.iload 4, 2) := dAX4_throneByWord_1.2.2.2.2.2.2.2
set_option maxRecDepth 100000 in
theorem dAX4_throneByWord_2 : decode cX4_throneByWord 30 = .ok (.iastore, 1) ∧ decode cX4_throneByWord 31 = .ok (.aload_n 0, 1) ∧ decode cX4_throneByWord 32 = .ok (.aload_n 1, 1) ∧ decode cX4_throneByWord 33 = .ok (.aload_n 0, 1) ∧ decode cX4_throneByWord 34 = .ok (.getfield 15, 3) ∧ decode cX4_throneByWord 37 = .ok (.invokevirtual 72, 3) ∧ decode cX4_throneByWord 40 = .ok (.ireturn, 1) := by decide +kernel
theorem dX4_throneByWord_30 : decode cX4_throneByWord 30 = .ok (.iastore, 1) := dAX4_throneByWord_2.1
theorem dX4_throneByWord_31 : decode cX4_throneByWord 31 = .ok (.aload_n 0, 1) := dAX4_throneByWord_2.2.1
theorem dX4_throneByWord_32 : decode cX4_throneByWord 32 = .ok (.aload_n 1, 1) := dAX4_throneByWord_2.2.2.1
theorem dX4_throneByWord_33 : decode cX4_throneByWord 33 = .ok (.aload_n 0, 1) := dAX4_throneByWord_2.2.2.2.1
theorem dX4_throneByWord_34 : decode cX4_throneByWord 34 = .ok (.getfield 15, 3) := dAX4_throneByWord_2.2.2.2.2.1
theorem dX4_throneByWord_37 : decode cX4_throneByWord 37 = .ok (.invokevirtual 72, 3) := dAX4_throneByWord_2.2.2.2.2.2.1
theorem dX4_throneByWord_40 : decode cX4_throneByWord 40 = .ok (.ireturn, 1) := dAX4_throneByWord_2.2.2.2.2.2.2
set_option maxRecDepth 100000 in
theorem dAX4_throneValue_0 : decode cX4_throneValue 0 = .ok (.aload_n 1, 1) ∧ decode cX4_throneValue 1 = .ok (.aload_n 1, 1) ∧ decode cX4_throneValue 2 = .ok (.getfield 38, 3) ∧ decode cX4_throneValue 5 = .ok (.invokevirtual 41, 3) ∧ decode cX4_throneValue 8 = .ok (.ifCond .eq 15, 3) ∧ decode cX4_throneValue 11 = .ok (.aload_n 0, 1) ∧ decode cX4_throneValue 12 = .ok (.getfield 9, 3) ∧ decode cX4_throneValue 15 = .ok (.aload_n 1, 1) := by decide +kernel
theorem dX4_throneValue_0 : decode cX4_throneValue 0 = .ok (.aload_n 1, 1) := dAX4_throneValue_0.1
theorem dX4_throneValue_1 : decode cX4_throneValue 1 = .ok (.aload_n 1, 1) := dAX4_throneValue_0.2.1
theorem dX4_throneValue_2 : decode cX4_throneValue 2 = .ok (.getfield 38, 3) := dAX4_throneValue_0.2.2.1
theorem dX4_throneValue_5 : decode cX4_throneValue 5 = .ok (.invokevirtual 41, 3) := dAX4_throneValue_0.2.2.2.1
theorem dX4_throneValue_8 : decode cX4_throneValue 8 = .ok (.ifCond .eq 15, 3) := dAX4_throneValue_0.2.2.2.2.1
theorem dX4_throneValue_11 : decode cX4_throneValue 11 = .ok (.aload_n 0, 1) := dAX4_throneValue_0.2.2.2.2.2.1
theorem dX4_throneValue_12 : decode cX4_throneValue 12 = .ok (.getfield 9, 3) := dAX4_throneValue_0.2.2.2.2.2.2.1
theorem dX4_throneValue_15 : decode cX4_throneValue 15 = .ok (.aload_n 1, 1) := dAX4_throneValue_0.2.2.2.2.2.2.2
set_option maxRecDepth 100000 in
theorem dAX4_throneValue_1 : decode cX4_throneValue 16 = .ok (.getfield 38, 3) ∧ decode cX4_throneValue 19 = .ok (.iaload, 1) ∧ decode cX4_throneValue 20 = .ok (.goto 4, 3) ∧ decode cX4_throneValue 23 = .ok (.iconst 0, 1) ∧ decode cX4_throneValue 24 = .ok (.ireturn, 1) := by decide +kernel
theorem dX4_throneValue_16 : decode cX4_throneValue 16 = .ok (.getfield 38, 3) := dAX4_throneValue_1.1
theorem dX4_throneValue_19 : decode cX4_throneValue 19 = .ok (.iaload, 1) := dAX4_throneValue_1.2.1
theorem dX4_throneValue_20 : decode cX4_throneValue 20 = .ok (.goto 4, 3) := dAX4_throneValue_1.2.2.1
theorem dX4_throneValue_23 : decode cX4_throneValue 23 = .ok (.iconst 0, 1) := dAX4_throneValue_1.2.2.2.1
theorem dX4_throneValue_24 : decode cX4_throneValue 24 = .ok (.ireturn, 1) := dAX4_throneValue_1.2.2.2.2
set_option maxRecDepth 100000 in
theorem dAX4_waysDown_0 : decode cX4_waysDown 0 = .ok (.iconst 0, 1) ∧ decode cX4_waysDown 1 = .ok (.istore_n 2, 1) ∧ decode cX4_waysDown 2 = .ok (.iload_n 2, 1) ∧ decode cX4_waysDown 3 = .ok (.aload_n 1, 1) ∧ decode cX4_waysDown 4 = .ok (.getfield 18, 3) ∧ decode cX4_waysDown 7 = .ok (.if_icmp .ge 71, 3) ∧ decode cX4_waysDown 10 = .ok (.aload_n 0, 1) ∧ decode cX4_waysDown 11 = .ok (.getfield 9, 3) := by decide +kernel
theorem dX4_waysDown_0 : decode cX4_waysDown 0 = .ok (.iconst 0, 1) := dAX4_waysDown_0.1
theorem dX4_waysDown_1 : decode cX4_waysDown 1 = .ok (.istore_n 2, 1) := dAX4_waysDown_0.2.1
theorem dX4_waysDown_2 : decode cX4_waysDown 2 = .ok (.iload_n 2, 1) := dAX4_waysDown_0.2.2.1
theorem dX4_waysDown_3 : decode cX4_waysDown 3 = .ok (.aload_n 1, 1) := dAX4_waysDown_0.2.2.2.1
theorem dX4_waysDown_4 : decode cX4_waysDown 4 = .ok (.getfield 18, 3) := dAX4_waysDown_0.2.2.2.2.1
theorem dX4_waysDown_7 : decode cX4_waysDown 7 = .ok (.if_icmp .ge 71, 3) := dAX4_waysDown_0.2.2.2.2.2.1
theorem dX4_waysDown_10 : decode cX4_waysDown 10 = .ok (.aload_n 0, 1) := dAX4_waysDown_0.2.2.2.2.2.2.1
theorem dX4_waysDown_11 : decode cX4_waysDown 11 = .ok (.getfield 9, 3) := dAX4_waysDown_0.2.2.2.2.2.2.2
set_option maxRecDepth 100000 in
theorem dAX4_waysDown_1 : decode cX4_waysDown 14 = .ok (.iload_n 2, 1) ∧ decode cX4_waysDown 15 = .ok (.aload_n 1, 1) ∧ decode cX4_waysDown 16 = .ok (.getfield 24, 3) ∧ decode cX4_waysDown 19 = .ok (.iload_n 2, 1) ∧ decode cX4_waysDown 20 = .ok (.iaload, 1) ∧ decode cX4_waysDown 21 = .ok (.ifCond .ne 7, 3) ∧ decode cX4_waysDown 24 = .ok (.iconst 1, 1) ∧ decode cX4_waysDown 25 = .ok (.goto 4, 3) := by decide +kernel
theorem dX4_waysDown_14 : decode cX4_waysDown 14 = .ok (.iload_n 2, 1) := dAX4_waysDown_1.1
theorem dX4_waysDown_15 : decode cX4_waysDown 15 = .ok (.aload_n 1, 1) := dAX4_waysDown_1.2.1
theorem dX4_waysDown_16 : decode cX4_waysDown 16 = .ok (.getfield 24, 3) := dAX4_waysDown_1.2.2.1
theorem dX4_waysDown_19 : decode cX4_waysDown 19 = .ok (.iload_n 2, 1) := dAX4_waysDown_1.2.2.2.1
theorem dX4_waysDown_20 : decode cX4_waysDown 20 = .ok (.iaload, 1) := dAX4_waysDown_1.2.2.2.2.1
theorem dX4_waysDown_21 : decode cX4_waysDown 21 = .ok (.ifCond .ne 7, 3) := dAX4_waysDown_1.2.2.2.2.2.1
theorem dX4_waysDown_24 : decode cX4_waysDown 24 = .ok (.iconst 1, 1) := dAX4_waysDown_1.2.2.2.2.2.2.1
theorem dX4_waysDown_25 : decode cX4_waysDown 25 = .ok (.goto 4, 3) := dAX4_waysDown_1.2.2.2.2.2.2.2
set_option maxRecDepth 100000 in
theorem dAX4_waysDown_2 : decode cX4_waysDown 28 = .ok (.iconst 0, 1) ∧ decode cX4_waysDown 29 = .ok (.iastore, 1) ∧ decode cX4_waysDown 30 = .ok (.iconst 0, 1) ∧ decode cX4_waysDown 31 = .ok (.istore_n 3, 1) ∧ decode cX4_waysDown 32 = .ok (.iload_n 3, 1) ∧ decode cX4_waysDown 33 = .ok (.aload_n 1, 1) ∧ decode cX4_waysDown 34 = .ok (.getfield 45, 3) ∧ decode cX4_waysDown 37 = .ok (.iload_n 2, 1) := by decide +kernel
theorem dX4_waysDown_28 : decode cX4_waysDown 28 = .ok (.iconst 0, 1) := dAX4_waysDown_2.1
theorem dX4_waysDown_29 : decode cX4_waysDown 29 = .ok (.iastore, 1) := dAX4_waysDown_2.2.1
theorem dX4_waysDown_30 : decode cX4_waysDown 30 = .ok (.iconst 0, 1) := dAX4_waysDown_2.2.2.1
theorem dX4_waysDown_31 : decode cX4_waysDown 31 = .ok (.istore_n 3, 1) := dAX4_waysDown_2.2.2.2.1
theorem dX4_waysDown_32 : decode cX4_waysDown 32 = .ok (.iload_n 3, 1) := dAX4_waysDown_2.2.2.2.2.1
theorem dX4_waysDown_33 : decode cX4_waysDown 33 = .ok (.aload_n 1, 1) := dAX4_waysDown_2.2.2.2.2.2.1
theorem dX4_waysDown_34 : decode cX4_waysDown 34 = .ok (.getfield 45, 3) := dAX4_waysDown_2.2.2.2.2.2.2.1
theorem dX4_waysDown_37 : decode cX4_waysDown 37 = .ok (.iload_n 2, 1) := dAX4_waysDown_2.2.2.2.2.2.2.2
set_option maxRecDepth 100000 in
theorem dAX4_waysDown_3 : decode cX4_waysDown 38 = .ok (.iaload, 1) ∧ decode cX4_waysDown 39 = .ok (.if_icmp .ge 33, 3) ∧ decode cX4_waysDown 42 = .ok (.aload_n 0, 1) ∧ decode cX4_waysDown 43 = .ok (.getfield 9, 3) ∧ decode cX4_waysDown 46 = .ok (.iload_n 2, 1) ∧ decode cX4_waysDown 47 = .ok (.dup2, 1) ∧ decode cX4_waysDown 48 = .ok (.iaload, 1) ∧ decode cX4_waysDown 49 = .ok (.aload_n 0, 1) := by decide +kernel
theorem dX4_waysDown_38 : decode cX4_waysDown 38 = .ok (.iaload, 1) := dAX4_waysDown_3.1
theorem dX4_waysDown_39 : decode cX4_waysDown 39 = .ok (.if_icmp .ge 33, 3) := dAX4_waysDown_3.2.1
theorem dX4_waysDown_42 : decode cX4_waysDown 42 = .ok (.aload_n 0, 1) := dAX4_waysDown_3.2.2.1
theorem dX4_waysDown_43 : decode cX4_waysDown 43 = .ok (.getfield 9, 3) := dAX4_waysDown_3.2.2.2.1
theorem dX4_waysDown_46 : decode cX4_waysDown 46 = .ok (.iload_n 2, 1) := dAX4_waysDown_3.2.2.2.2.1
theorem dX4_waysDown_47 : decode cX4_waysDown 47 = .ok (.dup2, 1) := dAX4_waysDown_3.2.2.2.2.2.1
theorem dX4_waysDown_48 : decode cX4_waysDown 48 = .ok (.iaload, 1) := dAX4_waysDown_3.2.2.2.2.2.2.1
theorem dX4_waysDown_49 : decode cX4_waysDown 49 = .ok (.aload_n 0, 1) := dAX4_waysDown_3.2.2.2.2.2.2.2
set_option maxRecDepth 100000 in
theorem dAX4_waysDown_4 : decode cX4_waysDown 50 = .ok (.getfield 9, 3) ∧ decode cX4_waysDown 53 = .ok (.aload_n 1, 1) ∧ decode cX4_waysDown 54 = .ok (.getfield 48, 3) ∧ decode cX4_waysDown 57 = .ok (.iload_n 2, 1) ∧ decode cX4_waysDown 58 = .ok (.iconst 4, 1) ∧ decode cX4_waysDown 59 = .ok (.imul, 1) ∧ decode cX4_waysDown 60 = .ok (.iload_n 3, 1) ∧ decode cX4_waysDown 61 = .ok (.iadd, 1) := by decide +kernel
theorem dX4_waysDown_50 : decode cX4_waysDown 50 = .ok (.getfield 9, 3) := dAX4_waysDown_4.1
theorem dX4_waysDown_53 : decode cX4_waysDown 53 = .ok (.aload_n 1, 1) := dAX4_waysDown_4.2.1
theorem dX4_waysDown_54 : decode cX4_waysDown 54 = .ok (.getfield 48, 3) := dAX4_waysDown_4.2.2.1
theorem dX4_waysDown_57 : decode cX4_waysDown 57 = .ok (.iload_n 2, 1) := dAX4_waysDown_4.2.2.2.1
theorem dX4_waysDown_58 : decode cX4_waysDown 58 = .ok (.iconst 4, 1) := dAX4_waysDown_4.2.2.2.2.1
theorem dX4_waysDown_59 : decode cX4_waysDown 59 = .ok (.imul, 1) := dAX4_waysDown_4.2.2.2.2.2.1
theorem dX4_waysDown_60 : decode cX4_waysDown 60 = .ok (.iload_n 3, 1) := dAX4_waysDown_4.2.2.2.2.2.2.1
theorem dX4_waysDown_61 : decode cX4_waysDown 61 = .ok (.iadd, 1) := dAX4_waysDown_4.2.2.2.2.2.2.2
set_option maxRecDepth 100000 in
theorem dAX4_waysDown_5 : decode cX4_waysDown 62 = .ok (.iaload, 1) ∧ decode cX4_waysDown 63 = .ok (.iaload, 1) ∧ decode cX4_waysDown 64 = .ok (.iadd, 1) ∧ decode cX4_waysDown 65 = .ok (.iastore, 1) ∧ decode cX4_waysDown 66 = .ok (.iinc 3 1, 3) ∧ decode cX4_waysDown 69 = .ok (.goto (-37), 3) ∧ decode cX4_waysDown 72 = .ok (.iinc 2 1, 3) ∧ decode cX4_waysDown 75 = .ok (.goto (-73), 3) := by decide +kernel
theorem dX4_waysDown_62 : decode cX4_waysDown 62 = .ok (.iaload, 1) := dAX4_waysDown_5.1
theorem dX4_waysDown_63 : decode cX4_waysDown 63 = .ok (.iaload, 1) := dAX4_waysDown_5.2.1
theorem dX4_waysDown_64 : decode cX4_waysDown 64 = .ok (.iadd, 1) := dAX4_waysDown_5.2.2.1
theorem dX4_waysDown_65 : decode cX4_waysDown 65 = .ok (.iastore, 1) := dAX4_waysDown_5.2.2.2.1
theorem dX4_waysDown_66 : decode cX4_waysDown 66 = .ok (.iinc 3 1, 3) := dAX4_waysDown_5.2.2.2.2.1
theorem dX4_waysDown_69 : decode cX4_waysDown 69 = .ok (.goto (-37), 3) := dAX4_waysDown_5.2.2.2.2.2.1
theorem dX4_waysDown_72 : decode cX4_waysDown 72 = .ok (.iinc 2 1, 3) := dAX4_waysDown_5.2.2.2.2.2.2.1
theorem dX4_waysDown_75 : decode cX4_waysDown 75 = .ok (.goto (-73), 3) := dAX4_waysDown_5.2.2.2.2.2.2.2
set_option maxRecDepth 100000 in
theorem dAX4_waysDown_6 : decode cX4_waysDown 78 = .ok (.aload_n 0, 1) ∧ decode cX4_waysDown 79 = .ok (.aload_n 1, 1) ∧ decode cX4_waysDown 80 = .ok (.invokevirtual 34, 3) ∧ decode cX4_waysDown 83 = .ok (.ireturn, 1) := by decide +kernel
theorem dX4_waysDown_78 : decode cX4_waysDown 78 = .ok (.aload_n 0, 1) := dAX4_waysDown_6.1
theorem dX4_waysDown_79 : decode cX4_waysDown 79 = .ok (.aload_n 1, 1) := dAX4_waysDown_6.2.1
theorem dX4_waysDown_80 : decode cX4_waysDown 80 = .ok (.invokevirtual 34, 3) := dAX4_waysDown_6.2.2.1
theorem dX4_waysDown_83 : decode cX4_waysDown 83 = .ok (.ireturn, 1) := dAX4_waysDown_6.2.2.2
set_option maxRecDepth 100000 in
theorem dAX4_weighAll_0 : decode cX4_weighAll 0 = .ok (.iconst 0, 1) ∧ decode cX4_weighAll 1 = .ok (.istore_n 3, 1) ∧ decode cX4_weighAll 2 = .ok (.iload_n 3, 1) ∧ decode cX4_weighAll 3 = .ok (.aload_n 1, 1) ∧ decode cX4_weighAll 4 = .ok (.getfield 18, 3) ∧ decode cX4_weighAll 7 = .ok (.if_icmp .ge 41, 3) ∧ decode cX4_weighAll 10 = .ok (.aload_n 0, 1) ∧ decode cX4_weighAll 11 = .ok (.getfield 9, 3) := by decide +kernel
theorem dX4_weighAll_0 : decode cX4_weighAll 0 = .ok (.iconst 0, 1) := dAX4_weighAll_0.1
theorem dX4_weighAll_1 : decode cX4_weighAll 1 = .ok (.istore_n 3, 1) := dAX4_weighAll_0.2.1
theorem dX4_weighAll_2 : decode cX4_weighAll 2 = .ok (.iload_n 3, 1) := dAX4_weighAll_0.2.2.1
theorem dX4_weighAll_3 : decode cX4_weighAll 3 = .ok (.aload_n 1, 1) := dAX4_weighAll_0.2.2.2.1
theorem dX4_weighAll_4 : decode cX4_weighAll 4 = .ok (.getfield 18, 3) := dAX4_weighAll_0.2.2.2.2.1
theorem dX4_weighAll_7 : decode cX4_weighAll 7 = .ok (.if_icmp .ge 41, 3) := dAX4_weighAll_0.2.2.2.2.2.1
theorem dX4_weighAll_10 : decode cX4_weighAll 10 = .ok (.aload_n 0, 1) := dAX4_weighAll_0.2.2.2.2.2.2.1
theorem dX4_weighAll_11 : decode cX4_weighAll 11 = .ok (.getfield 9, 3) := dAX4_weighAll_0.2.2.2.2.2.2.2
set_option maxRecDepth 100000 in
theorem dAX4_weighAll_1 : decode cX4_weighAll 14 = .ok (.iload_n 3, 1) ∧ decode cX4_weighAll 15 = .ok (.aload_n 1, 1) ∧ decode cX4_weighAll 16 = .ok (.getfield 24, 3) ∧ decode cX4_weighAll 19 = .ok (.iload_n 3, 1) ∧ decode cX4_weighAll 20 = .ok (.iaload, 1) ∧ decode cX4_weighAll 21 = .ok (.ifCond .ne 14, 3) ∧ decode cX4_weighAll 24 = .ok (.aload_n 2, 1) ∧ decode cX4_weighAll 25 = .ok (.iload_n 3, 1) := by decide +kernel
theorem dX4_weighAll_14 : decode cX4_weighAll 14 = .ok (.iload_n 3, 1) := dAX4_weighAll_1.1
theorem dX4_weighAll_15 : decode cX4_weighAll 15 = .ok (.aload_n 1, 1) := dAX4_weighAll_1.2.1
theorem dX4_weighAll_16 : decode cX4_weighAll 16 = .ok (.getfield 24, 3) := dAX4_weighAll_1.2.2.1
theorem dX4_weighAll_19 : decode cX4_weighAll 19 = .ok (.iload_n 3, 1) := dAX4_weighAll_1.2.2.2.1
theorem dX4_weighAll_20 : decode cX4_weighAll 20 = .ok (.iaload, 1) := dAX4_weighAll_1.2.2.2.2.1
theorem dX4_weighAll_21 : decode cX4_weighAll 21 = .ok (.ifCond .ne 14, 3) := dAX4_weighAll_1.2.2.2.2.2.1
theorem dX4_weighAll_24 : decode cX4_weighAll 24 = .ok (.aload_n 2, 1) := dAX4_weighAll_1.2.2.2.2.2.2.1
theorem dX4_weighAll_25 : decode cX4_weighAll 25 = .ok (.iload_n 3, 1) := dAX4_weighAll_1.2.2.2.2.2.2.2
set_option maxRecDepth 100000 in
theorem dAX4_weighAll_2 : decode cX4_weighAll 26 = .ok (.iaload, 1) ∧ decode cX4_weighAll 27 = .ok (.aload_n 1, 1) ∧ decode cX4_weighAll 28 = .ok (.getfield 27, 3) ∧ decode cX4_weighAll 31 = .ok (.imul, 1) ∧ decode cX4_weighAll 32 = .ok (.goto 9, 3) ∧ decode cX4_weighAll 35 = .ok (.aload_n 0, 1) ∧ decode cX4_weighAll 36 = .ok (.aload_n 1, 1) ∧ decode cX4_weighAll 37 = .ok (.iload_n 3, 1) := by decide +kernel
theorem dX4_weighAll_26 : decode cX4_weighAll 26 = .ok (.iaload, 1) := dAX4_weighAll_2.1
theorem dX4_weighAll_27 : decode cX4_weighAll 27 = .ok (.aload_n 1, 1) := dAX4_weighAll_2.2.1
theorem dX4_weighAll_28 : decode cX4_weighAll 28 = .ok (.getfield 27, 3) := dAX4_weighAll_2.2.2.1
theorem dX4_weighAll_31 : decode cX4_weighAll 31 = .ok (.imul, 1) := dAX4_weighAll_2.2.2.2.1
theorem dX4_weighAll_32 : decode cX4_weighAll 32 = .ok (.goto 9, 3) := dAX4_weighAll_2.2.2.2.2.1
theorem dX4_weighAll_35 : decode cX4_weighAll 35 = .ok (.aload_n 0, 1) := dAX4_weighAll_2.2.2.2.2.2.1
theorem dX4_weighAll_36 : decode cX4_weighAll 36 = .ok (.aload_n 1, 1) := dAX4_weighAll_2.2.2.2.2.2.2.1
theorem dX4_weighAll_37 : decode cX4_weighAll 37 = .ok (.iload_n 3, 1) := dAX4_weighAll_2.2.2.2.2.2.2.2
set_option maxRecDepth 100000 in
theorem dAX4_weighAll_3 : decode cX4_weighAll 38 = .ok (.invokevirtual 30, 3) ∧ decode cX4_weighAll 41 = .ok (.iastore, 1) ∧ decode cX4_weighAll 42 = .ok (.iinc 3 1, 3) ∧ decode cX4_weighAll 45 = .ok (.goto (-43), 3) ∧ decode cX4_weighAll 48 = .ok (.aload_n 0, 1) ∧ decode cX4_weighAll 49 = .ok (.aload_n 1, 1) ∧ decode cX4_weighAll 50 = .ok (.invokevirtual 34, 3) ∧ decode cX4_weighAll 53 = .ok (.ireturn, 1) := by decide +kernel
theorem dX4_weighAll_38 : decode cX4_weighAll 38 = .ok (.invokevirtual 30, 3) := dAX4_weighAll_3.1
theorem dX4_weighAll_41 : decode cX4_weighAll 41 = .ok (.iastore, 1) := dAX4_weighAll_3.2.1
theorem dX4_weighAll_42 : decode cX4_weighAll 42 = .ok (.iinc 3 1, 3) := dAX4_weighAll_3.2.2.1
theorem dX4_weighAll_45 : decode cX4_weighAll 45 = .ok (.goto (-43), 3) := dAX4_weighAll_3.2.2.2.1
theorem dX4_weighAll_48 : decode cX4_weighAll 48 = .ok (.aload_n 0, 1) := dAX4_weighAll_3.2.2.2.2.1
theorem dX4_weighAll_49 : decode cX4_weighAll 49 = .ok (.aload_n 1, 1) := dAX4_weighAll_3.2.2.2.2.2.1
theorem dX4_weighAll_50 : decode cX4_weighAll 50 = .ok (.invokevirtual 34, 3) := dAX4_weighAll_3.2.2.2.2.2.2.1
theorem dX4_weighAll_53 : decode cX4_weighAll 53 = .ok (.ireturn, 1) := dAX4_weighAll_3.2.2.2.2.2.2.2
set_option maxRecDepth 100000 in
theorem dAX4_weighNextNight_0 : decode cX4_weighNextNight 0 = .ok (.aload_n 1, 1) ∧ decode cX4_weighNextNight 1 = .ok (.getfield 18, 3) ∧ decode cX4_weighNextNight 4 = .ok (.iconst 1, 1) ∧ decode cX4_weighNextNight 5 = .ok (.isub, 1) ∧ decode cX4_weighNextNight 6 = .ok (.istore_n 2, 1) ∧ decode cX4_weighNextNight 7 = .ok (.iload_n 2, 1) ∧ decode cX4_weighNextNight 8 = .ok (.ifCond .lt 30, 3) ∧ decode cX4_weighNextNight 11 = .ok (.aload_n 1, 1) := by decide +kernel
theorem dX4_weighNextNight_0 : decode cX4_weighNextNight 0 = .ok (.aload_n 1, 1) := dAX4_weighNextNight_0.1
theorem dX4_weighNextNight_1 : decode cX4_weighNextNight 1 = .ok (.getfield 18, 3) := dAX4_weighNextNight_0.2.1
theorem dX4_weighNextNight_4 : decode cX4_weighNextNight 4 = .ok (.iconst 1, 1) := dAX4_weighNextNight_0.2.2.1
theorem dX4_weighNextNight_5 : decode cX4_weighNextNight 5 = .ok (.isub, 1) := dAX4_weighNextNight_0.2.2.2.1
theorem dX4_weighNextNight_6 : decode cX4_weighNextNight 6 = .ok (.istore_n 2, 1) := dAX4_weighNextNight_0.2.2.2.2.1
theorem dX4_weighNextNight_7 : decode cX4_weighNextNight 7 = .ok (.iload_n 2, 1) := dAX4_weighNextNight_0.2.2.2.2.2.1
theorem dX4_weighNextNight_8 : decode cX4_weighNextNight 8 = .ok (.ifCond .lt 30, 3) := dAX4_weighNextNight_0.2.2.2.2.2.2.1
theorem dX4_weighNextNight_11 : decode cX4_weighNextNight 11 = .ok (.aload_n 1, 1) := dAX4_weighNextNight_0.2.2.2.2.2.2.2
set_option maxRecDepth 100000 in
theorem dAX4_weighNextNight_1 : decode cX4_weighNextNight 12 = .ok (.getfield 24, 3) ∧ decode cX4_weighNextNight 15 = .ok (.iload_n 2, 1) ∧ decode cX4_weighNextNight 16 = .ok (.iaload, 1) ∧ decode cX4_weighNextNight 17 = .ok (.ifCond .eq 15, 3) ∧ decode cX4_weighNextNight 20 = .ok (.aload_n 0, 1) ∧ decode cX4_weighNextNight 21 = .ok (.getfield 9, 3) ∧ decode cX4_weighNextNight 24 = .ok (.iload_n 2, 1) ∧ decode cX4_weighNextNight 25 = .ok (.aload_n 0, 1) := by decide +kernel
theorem dX4_weighNextNight_12 : decode cX4_weighNextNight 12 = .ok (.getfield 24, 3) := dAX4_weighNextNight_1.1
theorem dX4_weighNextNight_15 : decode cX4_weighNextNight 15 = .ok (.iload_n 2, 1) := dAX4_weighNextNight_1.2.1
theorem dX4_weighNextNight_16 : decode cX4_weighNextNight 16 = .ok (.iaload, 1) := dAX4_weighNextNight_1.2.2.1
theorem dX4_weighNextNight_17 : decode cX4_weighNextNight 17 = .ok (.ifCond .eq 15, 3) := dAX4_weighNextNight_1.2.2.2.1
theorem dX4_weighNextNight_20 : decode cX4_weighNextNight 20 = .ok (.aload_n 0, 1) := dAX4_weighNextNight_1.2.2.2.2.1
theorem dX4_weighNextNight_21 : decode cX4_weighNextNight 21 = .ok (.getfield 9, 3) := dAX4_weighNextNight_1.2.2.2.2.2.1
theorem dX4_weighNextNight_24 : decode cX4_weighNextNight 24 = .ok (.iload_n 2, 1) := dAX4_weighNextNight_1.2.2.2.2.2.2.1
theorem dX4_weighNextNight_25 : decode cX4_weighNextNight 25 = .ok (.aload_n 0, 1) := dAX4_weighNextNight_1.2.2.2.2.2.2.2
set_option maxRecDepth 100000 in
theorem dAX4_weighNextNight_2 : decode cX4_weighNextNight 26 = .ok (.aload_n 1, 1) ∧ decode cX4_weighNextNight 27 = .ok (.iload_n 2, 1) ∧ decode cX4_weighNextNight 28 = .ok (.invokevirtual 30, 3) ∧ decode cX4_weighNextNight 31 = .ok (.iastore, 1) ∧ decode cX4_weighNextNight 32 = .ok (.iinc 2 (-1), 3) ∧ decode cX4_weighNextNight 35 = .ok (.goto (-28), 3) ∧ decode cX4_weighNextNight 38 = .ok (.return_, 1) := by decide +kernel
theorem dX4_weighNextNight_26 : decode cX4_weighNextNight 26 = .ok (.aload_n 1, 1) := dAX4_weighNextNight_2.1
theorem dX4_weighNextNight_27 : decode cX4_weighNextNight 27 = .ok (.iload_n 2, 1) := dAX4_weighNextNight_2.2.1
theorem dX4_weighNextNight_28 : decode cX4_weighNextNight 28 = .ok (.invokevirtual 30, 3) := dAX4_weighNextNight_2.2.2.1
theorem dX4_weighNextNight_31 : decode cX4_weighNextNight 31 = .ok (.iastore, 1) := dAX4_weighNextNight_2.2.2.2.1
theorem dX4_weighNextNight_32 : decode cX4_weighNextNight 32 = .ok (.iinc 2 (-1), 3) := dAX4_weighNextNight_2.2.2.2.2.1
theorem dX4_weighNextNight_35 : decode cX4_weighNextNight 35 = .ok (.goto (-28), 3) := dAX4_weighNextNight_2.2.2.2.2.2.1
theorem dX4_weighNextNight_38 : decode cX4_weighNextNight 38 = .ok (.return_, 1) := dAX4_weighNextNight_2.2.2.2.2.2.2
set_option maxRecDepth 100000 in
theorem dAX4_weighNightNone_0 : decode cX4_weighNightNone 0 = .ok (.iconst 0, 1) ∧ decode cX4_weighNightNone 1 = .ok (.istore_n 3, 1) ∧ decode cX4_weighNightNone 2 = .ok (.iload_n 3, 1) ∧ decode cX4_weighNightNone 3 = .ok (.aload_n 1, 1) ∧ decode cX4_weighNightNone 4 = .ok (.getfield 18, 3) ∧ decode cX4_weighNightNone 7 = .ok (.if_icmp .ge 37, 3) ∧ decode cX4_weighNightNone 10 = .ok (.aload_n 0, 1) ∧ decode cX4_weighNightNone 11 = .ok (.getfield 9, 3) := by decide +kernel
theorem dX4_weighNightNone_0 : decode cX4_weighNightNone 0 = .ok (.iconst 0, 1) := dAX4_weighNightNone_0.1
theorem dX4_weighNightNone_1 : decode cX4_weighNightNone 1 = .ok (.istore_n 3, 1) := dAX4_weighNightNone_0.2.1
theorem dX4_weighNightNone_2 : decode cX4_weighNightNone 2 = .ok (.iload_n 3, 1) := dAX4_weighNightNone_0.2.2.1
theorem dX4_weighNightNone_3 : decode cX4_weighNightNone 3 = .ok (.aload_n 1, 1) := dAX4_weighNightNone_0.2.2.2.1
theorem dX4_weighNightNone_4 : decode cX4_weighNightNone 4 = .ok (.getfield 18, 3) := dAX4_weighNightNone_0.2.2.2.2.1
theorem dX4_weighNightNone_7 : decode cX4_weighNightNone 7 = .ok (.if_icmp .ge 37, 3) := dAX4_weighNightNone_0.2.2.2.2.2.1
theorem dX4_weighNightNone_10 : decode cX4_weighNightNone 10 = .ok (.aload_n 0, 1) := dAX4_weighNightNone_0.2.2.2.2.2.2.1
theorem dX4_weighNightNone_11 : decode cX4_weighNightNone 11 = .ok (.getfield 9, 3) := dAX4_weighNightNone_0.2.2.2.2.2.2.2
set_option maxRecDepth 100000 in
theorem dAX4_weighNightNone_1 : decode cX4_weighNightNone 14 = .ok (.iload_n 3, 1) ∧ decode cX4_weighNightNone 15 = .ok (.aload_n 1, 1) ∧ decode cX4_weighNightNone 16 = .ok (.getfield 24, 3) ∧ decode cX4_weighNightNone 19 = .ok (.iload_n 3, 1) ∧ decode cX4_weighNightNone 20 = .ok (.iaload, 1) ∧ decode cX4_weighNightNone 21 = .ok (.ifCond .ne 9, 3) ∧ decode cX4_weighNightNone 24 = .ok (.aload_n 2, 1) ∧ decode cX4_weighNightNone 25 = .ok (.iload_n 3, 1) := by decide +kernel
theorem dX4_weighNightNone_14 : decode cX4_weighNightNone 14 = .ok (.iload_n 3, 1) := dAX4_weighNightNone_1.1
theorem dX4_weighNightNone_15 : decode cX4_weighNightNone 15 = .ok (.aload_n 1, 1) := dAX4_weighNightNone_1.2.1
theorem dX4_weighNightNone_16 : decode cX4_weighNightNone 16 = .ok (.getfield 24, 3) := dAX4_weighNightNone_1.2.2.1
theorem dX4_weighNightNone_19 : decode cX4_weighNightNone 19 = .ok (.iload_n 3, 1) := dAX4_weighNightNone_1.2.2.2.1
theorem dX4_weighNightNone_20 : decode cX4_weighNightNone 20 = .ok (.iaload, 1) := dAX4_weighNightNone_1.2.2.2.2.1
theorem dX4_weighNightNone_21 : decode cX4_weighNightNone 21 = .ok (.ifCond .ne 9, 3) := dAX4_weighNightNone_1.2.2.2.2.2.1
theorem dX4_weighNightNone_24 : decode cX4_weighNightNone 24 = .ok (.aload_n 2, 1) := dAX4_weighNightNone_1.2.2.2.2.2.2.1
theorem dX4_weighNightNone_25 : decode cX4_weighNightNone 25 = .ok (.iload_n 3, 1) := dAX4_weighNightNone_1.2.2.2.2.2.2.2
set_option maxRecDepth 100000 in
theorem dAX4_weighNightNone_2 : decode cX4_weighNightNone 26 = .ok (.iaload, 1) ∧ decode cX4_weighNightNone 27 = .ok (.goto 5, 3) ∧ decode cX4_weighNightNone 30 = .ok (.bipush 50, 2) ∧ decode cX4_weighNightNone 32 = .ok (.aload_n 1, 1) ∧ decode cX4_weighNightNone 33 = .ok (.getfield 27, 3) ∧ decode cX4_weighNightNone 36 = .ok (.imul, 1) ∧ decode cX4_weighNightNone 37 = .ok (.iastore, 1) ∧ decode cX4_weighNightNone 38 = .ok (.iinc 3 1, 3) := by decide +kernel
theorem dX4_weighNightNone_26 : decode cX4_weighNightNone 26 = .ok (.iaload, 1) := dAX4_weighNightNone_2.1
theorem dX4_weighNightNone_27 : decode cX4_weighNightNone 27 = .ok (.goto 5, 3) := dAX4_weighNightNone_2.2.1
theorem dX4_weighNightNone_30 : decode cX4_weighNightNone 30 = .ok (.bipush 50, 2) := dAX4_weighNightNone_2.2.2.1
theorem dX4_weighNightNone_32 : decode cX4_weighNightNone 32 = .ok (.aload_n 1, 1) := dAX4_weighNightNone_2.2.2.2.1
theorem dX4_weighNightNone_33 : decode cX4_weighNightNone 33 = .ok (.getfield 27, 3) := dAX4_weighNightNone_2.2.2.2.2.1
theorem dX4_weighNightNone_36 : decode cX4_weighNightNone 36 = .ok (.imul, 1) := dAX4_weighNightNone_2.2.2.2.2.2.1
theorem dX4_weighNightNone_37 : decode cX4_weighNightNone 37 = .ok (.iastore, 1) := dAX4_weighNightNone_2.2.2.2.2.2.2.1
theorem dX4_weighNightNone_38 : decode cX4_weighNightNone 38 = .ok (.iinc 3 1, 3) := dAX4_weighNightNone_2.2.2.2.2.2.2.2
set_option maxRecDepth 100000 in
theorem dAX4_weighNightNone_3 : decode cX4_weighNightNone 41 = .ok (.goto (-39), 3) ∧ decode cX4_weighNightNone 44 = .ok (.return_, 1) := by decide +kernel
theorem dX4_weighNightNone_41 : decode cX4_weighNightNone 41 = .ok (.goto (-39), 3) := dAX4_weighNightNone_3.1
theorem dX4_weighNightNone_44 : decode cX4_weighNightNone 44 = .ok (.return_, 1) := dAX4_weighNightNone_3.2
